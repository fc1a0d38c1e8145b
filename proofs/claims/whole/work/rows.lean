section
-- ===== PART A: goes FIRST, ahead of the names: the tables' words, and 'selects' of the private methods out of them =====
/-- a private method of a class that the tables say can be made, by its rows of tables_1 -/
def lw_okq (q : MethodName × Nat) : Prop := (q.1.cls ≠ "java/lang/invoke/MethodHandle" ∧ q.1.cls ≠ "java/lang/invoke/VarHandle") ∧ Cond.instantiable q.1.cls q.2 ∈ tables_1 ∧ Cond.privateMethod q.1 ∈ tables_1 ∧ Cond.instanceMethod q.1 ∈ tables_1
theorem lw_p0 : lw_okq (⟨"SpringPawn$Text", "scanLetters", "()V"⟩, 6) := ⟨⟨by decide +kernel, by decide +kernel⟩, List.mem_of_getElem? (i := 24) (by decide +kernel), List.mem_of_getElem? (i := 263) (by decide +kernel), List.mem_of_getElem? (i := 264) (by decide +kernel)⟩
theorem lw_p1 : lw_okq (⟨"SpringPawn$Text", "scanNumber", "()V"⟩, 6) := ⟨⟨by decide +kernel, by decide +kernel⟩, List.mem_of_getElem? (i := 24) (by decide +kernel), List.mem_of_getElem? (i := 270) (by decide +kernel), List.mem_of_getElem? (i := 271) (by decide +kernel)⟩
theorem lw_p2 : lw_okq (⟨"SpringPawn$Reader", "readItem", "()V"⟩, 6) := ⟨⟨by decide +kernel, by decide +kernel⟩, List.mem_of_getElem? (i := 18) (by decide +kernel), List.mem_of_getElem? (i := 277) (by decide +kernel), List.mem_of_getElem? (i := 278) (by decide +kernel)⟩
theorem lw_p3 : lw_okq (⟨"SpringPawn$Reader", "readSeason", "()V"⟩, 6) := ⟨⟨by decide +kernel, by decide +kernel⟩, List.mem_of_getElem? (i := 18) (by decide +kernel), List.mem_of_getElem? (i := 281) (by decide +kernel), List.mem_of_getElem? (i := 282) (by decide +kernel)⟩
theorem lw_p4 : lw_okq (⟨"SpringPawn$Reader", "readLetter", "(Z)V"⟩, 6) := ⟨⟨by decide +kernel, by decide +kernel⟩, List.mem_of_getElem? (i := 18) (by decide +kernel), List.mem_of_getElem? (i := 285) (by decide +kernel), List.mem_of_getElem? (i := 286) (by decide +kernel)⟩
theorem lw_p5 : lw_okq (⟨"SpringPawn$Reader", "refuseUnless", "(Z)V"⟩, 6) := ⟨⟨by decide +kernel, by decide +kernel⟩, List.mem_of_getElem? (i := 18) (by decide +kernel), List.mem_of_getElem? (i := 289) (by decide +kernel), List.mem_of_getElem? (i := 290) (by decide +kernel)⟩
theorem lw_p6 : lw_okq (⟨"SpringPawn$Reader", "toNextToken", "()V"⟩, 6) := ⟨⟨by decide +kernel, by decide +kernel⟩, List.mem_of_getElem? (i := 18) (by decide +kernel), List.mem_of_getElem? (i := 293) (by decide +kernel), List.mem_of_getElem? (i := 294) (by decide +kernel)⟩
theorem lw_p7 : lw_okq (⟨"SpringPawn$Reader", "readNumber", "(II)I"⟩, 6) := ⟨⟨by decide +kernel, by decide +kernel⟩, List.mem_of_getElem? (i := 18) (by decide +kernel), List.mem_of_getElem? (i := 299) (by decide +kernel), List.mem_of_getElem? (i := 300) (by decide +kernel)⟩
theorem lw_p8 : lw_okq (⟨"SpringPawn$Reader", "readCrop", "()V"⟩, 6) := ⟨⟨by decide +kernel, by decide +kernel⟩, List.mem_of_getElem? (i := 18) (by decide +kernel), List.mem_of_getElem? (i := 308) (by decide +kernel), List.mem_of_getElem? (i := 309) (by decide +kernel)⟩
theorem lw_p9 : lw_okq (⟨"SpringPawn$Reader", "readPrice", "()V"⟩, 6) := ⟨⟨by decide +kernel, by decide +kernel⟩, List.mem_of_getElem? (i := 18) (by decide +kernel), List.mem_of_getElem? (i := 316) (by decide +kernel), List.mem_of_getElem? (i := 317) (by decide +kernel)⟩
theorem lw_p10 : lw_okq (⟨"SpringPawn$Reader", "readInterest", "()V"⟩, 6) := ⟨⟨by decide +kernel, by decide +kernel⟩, List.mem_of_getElem? (i := 18) (by decide +kernel), List.mem_of_getElem? (i := 320) (by decide +kernel), List.mem_of_getElem? (i := 321) (by decide +kernel)⟩
theorem lw_p11 : lw_okq (⟨"SpringPawn$Reader", "readLapse", "()V"⟩, 6) := ⟨⟨by decide +kernel, by decide +kernel⟩, List.mem_of_getElem? (i := 18) (by decide +kernel), List.mem_of_getElem? (i := 324) (by decide +kernel), List.mem_of_getElem? (i := 325) (by decide +kernel)⟩
theorem lw_p12 : lw_okq (⟨"SpringPawn$Reader", "readEnd", "()V"⟩, 6) := ⟨⟨by decide +kernel, by decide +kernel⟩, List.mem_of_getElem? (i := 18) (by decide +kernel), List.mem_of_getElem? (i := 328) (by decide +kernel), List.mem_of_getElem? (i := 329) (by decide +kernel)⟩
theorem lw_p13 : lw_okq (⟨"SpringPawn$Standing", "setFree", "(I)V"⟩, 6) := ⟨⟨by decide +kernel, by decide +kernel⟩, List.mem_of_getElem? (i := 142) (by decide +kernel), List.mem_of_getElem? (i := 344) (by decide +kernel), List.mem_of_getElem? (i := 345) (by decide +kernel)⟩
theorem lw_p14 : lw_okq (⟨"SpringPawn", "isDay", "(I)Z"⟩, 10) := ⟨⟨by decide +kernel, by decide +kernel⟩, List.mem_of_getElem? (i := 10) (by decide +kernel), List.mem_of_getElem? (i := 352) (by decide +kernel), List.mem_of_getElem? (i := 353) (by decide +kernel)⟩
theorem lw_p15 : lw_okq (⟨"SpringPawn", "howDayIs", "(I)I"⟩, 10) := ⟨⟨by decide +kernel, by decide +kernel⟩, List.mem_of_getElem? (i := 10) (by decide +kernel), List.mem_of_getElem? (i := 356) (by decide +kernel), List.mem_of_getElem? (i := 357) (by decide +kernel)⟩
def lw_privs_1 : List (MethodName × Nat) := [(⟨"SpringPawn$Text", "scanLetters", "()V"⟩, 6), (⟨"SpringPawn$Text", "scanNumber", "()V"⟩, 6), (⟨"SpringPawn$Reader", "readItem", "()V"⟩, 6), (⟨"SpringPawn$Reader", "readSeason", "()V"⟩, 6), (⟨"SpringPawn$Reader", "readLetter", "(Z)V"⟩, 6), (⟨"SpringPawn$Reader", "refuseUnless", "(Z)V"⟩, 6), (⟨"SpringPawn$Reader", "toNextToken", "()V"⟩, 6), (⟨"SpringPawn$Reader", "readNumber", "(II)I"⟩, 6), (⟨"SpringPawn$Reader", "readCrop", "()V"⟩, 6), (⟨"SpringPawn$Reader", "readPrice", "()V"⟩, 6), (⟨"SpringPawn$Reader", "readInterest", "()V"⟩, 6), (⟨"SpringPawn$Reader", "readLapse", "()V"⟩, 6), (⟨"SpringPawn$Reader", "readEnd", "()V"⟩, 6), (⟨"SpringPawn$Standing", "setFree", "(I)V"⟩, 6), (⟨"SpringPawn", "isDay", "(I)Z"⟩, 10), (⟨"SpringPawn", "howDayIs", "(I)I"⟩, 10)]
theorem lw_r1 : ∀ q ∈ lw_privs_1, lw_okq q := List.forall_mem_cons.mpr ⟨lw_p0, List.forall_mem_cons.mpr ⟨lw_p1, List.forall_mem_cons.mpr ⟨lw_p2, List.forall_mem_cons.mpr ⟨lw_p3, List.forall_mem_cons.mpr ⟨lw_p4, List.forall_mem_cons.mpr ⟨lw_p5, List.forall_mem_cons.mpr ⟨lw_p6, List.forall_mem_cons.mpr ⟨lw_p7, List.forall_mem_cons.mpr ⟨lw_p8, List.forall_mem_cons.mpr ⟨lw_p9, List.forall_mem_cons.mpr ⟨lw_p10, List.forall_mem_cons.mpr ⟨lw_p11, List.forall_mem_cons.mpr ⟨lw_p12, List.forall_mem_cons.mpr ⟨lw_p13, List.forall_mem_cons.mpr ⟨lw_p14, List.forall_mem_cons.mpr ⟨lw_p15, fun _ h => absurd h List.not_mem_nil⟩⟩⟩⟩⟩⟩⟩⟩⟩⟩⟩⟩⟩⟩⟩⟩
theorem lw_p16 : lw_okq (⟨"SpringPawn", "isCrop", "(I)Z"⟩, 10) := ⟨⟨by decide +kernel, by decide +kernel⟩, List.mem_of_getElem? (i := 10) (by decide +kernel), List.mem_of_getElem? (i := 372) (by decide +kernel), List.mem_of_getElem? (i := 373) (by decide +kernel)⟩
theorem lw_p17 : lw_okq (⟨"SpringPawn", "ripensNow", "(I)Z"⟩, 10) := ⟨⟨by decide +kernel, by decide +kernel⟩, List.mem_of_getElem? (i := 10) (by decide +kernel), List.mem_of_getElem? (i := 376) (by decide +kernel), List.mem_of_getElem? (i := 377) (by decide +kernel)⟩
theorem lw_p18 : lw_okq (⟨"SpringPawn", "daysIn", "()I"⟩, 10) := ⟨⟨by decide +kernel, by decide +kernel⟩, List.mem_of_getElem? (i := 10) (by decide +kernel), List.mem_of_getElem? (i := 380) (by decide +kernel), List.mem_of_getElem? (i := 381) (by decide +kernel)⟩
theorem lw_p19 : lw_okq (⟨"SpringPawn", "isRowIn", "(II)Z"⟩, 10) := ⟨⟨by decide +kernel, by decide +kernel⟩, List.mem_of_getElem? (i := 10) (by decide +kernel), List.mem_of_getElem? (i := 428) (by decide +kernel), List.mem_of_getElem? (i := 429) (by decide +kernel)⟩
theorem lw_p20 : lw_okq (⟨"SpringPawn$Story", "loseOldest", "()V"⟩, 3) := ⟨⟨by decide +kernel, by decide +kernel⟩, List.mem_of_getElem? (i := 136) (by decide +kernel), List.mem_of_getElem? (i := 437) (by decide +kernel), List.mem_of_getElem? (i := 438) (by decide +kernel)⟩
theorem lw_p21 : lw_okq (⟨"SpringPawn$Standing", "takeInterest", "(LSpringPawn$Land;I)V"⟩, 6) := ⟨⟨by decide +kernel, by decide +kernel⟩, List.mem_of_getElem? (i := 142) (by decide +kernel), List.mem_of_getElem? (i := 483) (by decide +kernel), List.mem_of_getElem? (i := 484) (by decide +kernel)⟩
theorem lw_p22 : lw_okq (⟨"SpringPawn$Standing", "grow", "(LSpringPawn$Land;I)V"⟩, 6) := ⟨⟨by decide +kernel, by decide +kernel⟩, List.mem_of_getElem? (i := 142) (by decide +kernel), List.mem_of_getElem? (i := 490) (by decide +kernel), List.mem_of_getElem? (i := 491) (by decide +kernel)⟩
theorem lw_p23 : lw_okq (⟨"SpringPawn", "cheapestRow", "(I)I"⟩, 10) := ⟨⟨by decide +kernel, by decide +kernel⟩, List.mem_of_getElem? (i := 10) (by decide +kernel), List.mem_of_getElem? (i := 531) (by decide +kernel), List.mem_of_getElem? (i := 532) (by decide +kernel)⟩
theorem lw_p24 : lw_okq (⟨"SpringPawn", "bestFreeing", "()I"⟩, 10) := ⟨⟨by decide +kernel, by decide +kernel⟩, List.mem_of_getElem? (i := 10) (by decide +kernel), List.mem_of_getElem? (i := 539) (by decide +kernel), List.mem_of_getElem? (i := 540) (by decide +kernel)⟩
theorem lw_p25 : lw_okq (⟨"SpringPawn", "agreesWithTold", "(I)Z"⟩, 10) := ⟨⟨by decide +kernel, by decide +kernel⟩, List.mem_of_getElem? (i := 10) (by decide +kernel), List.mem_of_getElem? (i := 572) (by decide +kernel), List.mem_of_getElem? (i := 573) (by decide +kernel)⟩
theorem lw_p26 : lw_okq (⟨"SpringPawn", "markAsCrop", "(I)I"⟩, 10) := ⟨⟨by decide +kernel, by decide +kernel⟩, List.mem_of_getElem? (i := 10) (by decide +kernel), List.mem_of_getElem? (i := 592) (by decide +kernel), List.mem_of_getElem? (i := 593) (by decide +kernel)⟩
theorem lw_p27 : lw_okq (⟨"SpringPawn", "markAsHay", "(I)I"⟩, 10) := ⟨⟨by decide +kernel, by decide +kernel⟩, List.mem_of_getElem? (i := 10) (by decide +kernel), List.mem_of_getElem? (i := 596) (by decide +kernel), List.mem_of_getElem? (i := 597) (by decide +kernel)⟩
theorem lw_p28 : lw_okq (⟨"SpringPawn", "markAsPlum", "(I)I"⟩, 10) := ⟨⟨by decide +kernel, by decide +kernel⟩, List.mem_of_getElem? (i := 10) (by decide +kernel), List.mem_of_getElem? (i := 601) (by decide +kernel), List.mem_of_getElem? (i := 602) (by decide +kernel)⟩
theorem lw_p29 : lw_okq (⟨"SpringPawn", "markAsClover", "(I)I"⟩, 10) := ⟨⟨by decide +kernel, by decide +kernel⟩, List.mem_of_getElem? (i := 10) (by decide +kernel), List.mem_of_getElem? (i := 606) (by decide +kernel), List.mem_of_getElem? (i := 607) (by decide +kernel)⟩
theorem lw_p30 : lw_okq (⟨"SpringPawn", "markAsSloe", "(I)I"⟩, 10) := ⟨⟨by decide +kernel, by decide +kernel⟩, List.mem_of_getElem? (i := 10) (by decide +kernel), List.mem_of_getElem? (i := 611) (by decide +kernel), List.mem_of_getElem? (i := 612) (by decide +kernel)⟩
theorem lw_p31 : lw_okq (⟨"SpringPawn", "markAsLamb", "(I)I"⟩, 10) := ⟨⟨by decide +kernel, by decide +kernel⟩, List.mem_of_getElem? (i := 10) (by decide +kernel), List.mem_of_getElem? (i := 616) (by decide +kernel), List.mem_of_getElem? (i := 617) (by decide +kernel)⟩
def lw_privs_2 : List (MethodName × Nat) := [(⟨"SpringPawn", "isCrop", "(I)Z"⟩, 10), (⟨"SpringPawn", "ripensNow", "(I)Z"⟩, 10), (⟨"SpringPawn", "daysIn", "()I"⟩, 10), (⟨"SpringPawn", "isRowIn", "(II)Z"⟩, 10), (⟨"SpringPawn$Story", "loseOldest", "()V"⟩, 3), (⟨"SpringPawn$Standing", "takeInterest", "(LSpringPawn$Land;I)V"⟩, 6), (⟨"SpringPawn$Standing", "grow", "(LSpringPawn$Land;I)V"⟩, 6), (⟨"SpringPawn", "cheapestRow", "(I)I"⟩, 10), (⟨"SpringPawn", "bestFreeing", "()I"⟩, 10), (⟨"SpringPawn", "agreesWithTold", "(I)Z"⟩, 10), (⟨"SpringPawn", "markAsCrop", "(I)I"⟩, 10), (⟨"SpringPawn", "markAsHay", "(I)I"⟩, 10), (⟨"SpringPawn", "markAsPlum", "(I)I"⟩, 10), (⟨"SpringPawn", "markAsClover", "(I)I"⟩, 10), (⟨"SpringPawn", "markAsSloe", "(I)I"⟩, 10), (⟨"SpringPawn", "markAsLamb", "(I)I"⟩, 10)]
theorem lw_r2 : ∀ q ∈ lw_privs_2, lw_okq q := List.forall_mem_cons.mpr ⟨lw_p16, List.forall_mem_cons.mpr ⟨lw_p17, List.forall_mem_cons.mpr ⟨lw_p18, List.forall_mem_cons.mpr ⟨lw_p19, List.forall_mem_cons.mpr ⟨lw_p20, List.forall_mem_cons.mpr ⟨lw_p21, List.forall_mem_cons.mpr ⟨lw_p22, List.forall_mem_cons.mpr ⟨lw_p23, List.forall_mem_cons.mpr ⟨lw_p24, List.forall_mem_cons.mpr ⟨lw_p25, List.forall_mem_cons.mpr ⟨lw_p26, List.forall_mem_cons.mpr ⟨lw_p27, List.forall_mem_cons.mpr ⟨lw_p28, List.forall_mem_cons.mpr ⟨lw_p29, List.forall_mem_cons.mpr ⟨lw_p30, List.forall_mem_cons.mpr ⟨lw_p31, fun _ h => absurd h List.not_mem_nil⟩⟩⟩⟩⟩⟩⟩⟩⟩⟩⟩⟩⟩⟩⟩⟩
theorem lw_p32 : lw_okq (⟨"SpringPawnModel", "plain", "()V"⟩, 17) := ⟨⟨by decide +kernel, by decide +kernel⟩, List.mem_of_getElem? (i := 641) (by decide +kernel), List.mem_of_getElem? (i := 647) (by decide +kernel), List.mem_of_getElem? (i := 648) (by decide +kernel)⟩
theorem lw_p33 : lw_okq (⟨"SpringPawnModel", "takes", "()V"⟩, 17) := ⟨⟨by decide +kernel, by decide +kernel⟩, List.mem_of_getElem? (i := 641) (by decide +kernel), List.mem_of_getElem? (i := 651) (by decide +kernel), List.mem_of_getElem? (i := 652) (by decide +kernel)⟩
theorem lw_p34 : lw_okq (⟨"SpringPawnModel", "reads", "()V"⟩, 17) := ⟨⟨by decide +kernel, by decide +kernel⟩, List.mem_of_getElem? (i := 641) (by decide +kernel), List.mem_of_getElem? (i := 723) (by decide +kernel), List.mem_of_getElem? (i := 724) (by decide +kernel)⟩
theorem lw_p35 : lw_okq (⟨"SpringPawnModel", "readLetters", "()V"⟩, 17) := ⟨⟨by decide +kernel, by decide +kernel⟩, List.mem_of_getElem? (i := 641) (by decide +kernel), List.mem_of_getElem? (i := 732) (by decide +kernel), List.mem_of_getElem? (i := 733) (by decide +kernel)⟩
theorem lw_p36 : lw_okq (⟨"SpringPawnModel", "readNumber", "()V"⟩, 17) := ⟨⟨by decide +kernel, by decide +kernel⟩, List.mem_of_getElem? (i := 641) (by decide +kernel), List.mem_of_getElem? (i := 741) (by decide +kernel), List.mem_of_getElem? (i := 742) (by decide +kernel)⟩
theorem lw_p37 : lw_okq (⟨"SpringPawnModel", "readItem", "()Z"⟩, 17) := ⟨⟨by decide +kernel, by decide +kernel⟩, List.mem_of_getElem? (i := 641) (by decide +kernel), List.mem_of_getElem? (i := 745) (by decide +kernel), List.mem_of_getElem? (i := 746) (by decide +kernel)⟩
theorem lw_p38 : lw_okq (⟨"SpringPawnModel", "readSeason", "()Z"⟩, 17) := ⟨⟨by decide +kernel, by decide +kernel⟩, List.mem_of_getElem? (i := 641) (by decide +kernel), List.mem_of_getElem? (i := 749) (by decide +kernel), List.mem_of_getElem? (i := 750) (by decide +kernel)⟩
theorem lw_p39 : lw_okq (⟨"SpringPawnModel", "number", "(II)Z"⟩, 17) := ⟨⟨by decide +kernel, by decide +kernel⟩, List.mem_of_getElem? (i := 641) (by decide +kernel), List.mem_of_getElem? (i := 753) (by decide +kernel), List.mem_of_getElem? (i := 754) (by decide +kernel)⟩
theorem lw_p40 : lw_okq (⟨"SpringPawnModel", "itemEnds", "()Z"⟩, 17) := ⟨⟨by decide +kernel, by decide +kernel⟩, List.mem_of_getElem? (i := 641) (by decide +kernel), List.mem_of_getElem? (i := 757) (by decide +kernel), List.mem_of_getElem? (i := 758) (by decide +kernel)⟩
theorem lw_p41 : lw_okq (⟨"SpringPawnModel", "readCrop", "()Z"⟩, 17) := ⟨⟨by decide +kernel, by decide +kernel⟩, List.mem_of_getElem? (i := 641) (by decide +kernel), List.mem_of_getElem? (i := 761) (by decide +kernel), List.mem_of_getElem? (i := 762) (by decide +kernel)⟩
theorem lw_p42 : lw_okq (⟨"SpringPawnModel", "once", "(III)Z"⟩, 17) := ⟨⟨by decide +kernel, by decide +kernel⟩, List.mem_of_getElem? (i := 641) (by decide +kernel), List.mem_of_getElem? (i := 765) (by decide +kernel), List.mem_of_getElem? (i := 766) (by decide +kernel)⟩
theorem lw_p43 : lw_okq (⟨"SpringPawnModel", "isDay", "(I)Z"⟩, 17) := ⟨⟨by decide +kernel, by decide +kernel⟩, List.mem_of_getElem? (i := 641) (by decide +kernel), List.mem_of_getElem? (i := 773) (by decide +kernel), List.mem_of_getElem? (i := 774) (by decide +kernel)⟩
theorem lw_p44 : lw_okq (⟨"SpringPawnModel", "days", "()I"⟩, 17) := ⟨⟨by decide +kernel, by decide +kernel⟩, List.mem_of_getElem? (i := 641) (by decide +kernel), List.mem_of_getElem? (i := 777) (by decide +kernel), List.mem_of_getElem? (i := 778) (by decide +kernel)⟩
theorem lw_p45 : lw_okq (⟨"SpringPawnModel", "loanDays", "(I)I"⟩, 17) := ⟨⟨by decide +kernel, by decide +kernel⟩, List.mem_of_getElem? (i := 641) (by decide +kernel), List.mem_of_getElem? (i := 782) (by decide +kernel), List.mem_of_getElem? (i := 783) (by decide +kernel)⟩
theorem lw_p46 : lw_okq (⟨"SpringPawnModel", "isCrop", "(I)Z"⟩, 17) := ⟨⟨by decide +kernel, by decide +kernel⟩, List.mem_of_getElem? (i := 641) (by decide +kernel), List.mem_of_getElem? (i := 790) (by decide +kernel), List.mem_of_getElem? (i := 791) (by decide +kernel)⟩
theorem lw_p47 : lw_okq (⟨"SpringPawnModel", "notIn", "()I"⟩, 17) := ⟨⟨by decide +kernel, by decide +kernel⟩, List.mem_of_getElem? (i := 641) (by decide +kernel), List.mem_of_getElem? (i := 795) (by decide +kernel), List.mem_of_getElem? (i := 796) (by decide +kernel)⟩
def lw_privs_3 : List (MethodName × Nat) := [(⟨"SpringPawnModel", "plain", "()V"⟩, 17), (⟨"SpringPawnModel", "takes", "()V"⟩, 17), (⟨"SpringPawnModel", "reads", "()V"⟩, 17), (⟨"SpringPawnModel", "readLetters", "()V"⟩, 17), (⟨"SpringPawnModel", "readNumber", "()V"⟩, 17), (⟨"SpringPawnModel", "readItem", "()Z"⟩, 17), (⟨"SpringPawnModel", "readSeason", "()Z"⟩, 17), (⟨"SpringPawnModel", "number", "(II)Z"⟩, 17), (⟨"SpringPawnModel", "itemEnds", "()Z"⟩, 17), (⟨"SpringPawnModel", "readCrop", "()Z"⟩, 17), (⟨"SpringPawnModel", "once", "(III)Z"⟩, 17), (⟨"SpringPawnModel", "isDay", "(I)Z"⟩, 17), (⟨"SpringPawnModel", "days", "()I"⟩, 17), (⟨"SpringPawnModel", "loanDays", "(I)I"⟩, 17), (⟨"SpringPawnModel", "isCrop", "(I)Z"⟩, 17), (⟨"SpringPawnModel", "notIn", "()I"⟩, 17)]
theorem lw_r3 : ∀ q ∈ lw_privs_3, lw_okq q := List.forall_mem_cons.mpr ⟨lw_p32, List.forall_mem_cons.mpr ⟨lw_p33, List.forall_mem_cons.mpr ⟨lw_p34, List.forall_mem_cons.mpr ⟨lw_p35, List.forall_mem_cons.mpr ⟨lw_p36, List.forall_mem_cons.mpr ⟨lw_p37, List.forall_mem_cons.mpr ⟨lw_p38, List.forall_mem_cons.mpr ⟨lw_p39, List.forall_mem_cons.mpr ⟨lw_p40, List.forall_mem_cons.mpr ⟨lw_p41, List.forall_mem_cons.mpr ⟨lw_p42, List.forall_mem_cons.mpr ⟨lw_p43, List.forall_mem_cons.mpr ⟨lw_p44, List.forall_mem_cons.mpr ⟨lw_p45, List.forall_mem_cons.mpr ⟨lw_p46, List.forall_mem_cons.mpr ⟨lw_p47, fun _ h => absurd h List.not_mem_nil⟩⟩⟩⟩⟩⟩⟩⟩⟩⟩⟩⟩⟩⟩⟩⟩
theorem lw_p48 : lw_okq (⟨"SpringPawnModel", "out", "()I"⟩, 17) := ⟨⟨by decide +kernel, by decide +kernel⟩, List.mem_of_getElem? (i := 641) (by decide +kernel), List.mem_of_getElem? (i := 799) (by decide +kernel), List.mem_of_getElem? (i := 800) (by decide +kernel)⟩
theorem lw_p49 : lw_okq (⟨"SpringPawnModel", "ripens", "(II)I"⟩, 17) := ⟨⟨by decide +kernel, by decide +kernel⟩, List.mem_of_getElem? (i := 641) (by decide +kernel), List.mem_of_getElem? (i := 803) (by decide +kernel), List.mem_of_getElem? (i := 804) (by decide +kernel)⟩
theorem lw_p50 : lw_okq (⟨"SpringPawnModel", "isFree", "(II)Z"⟩, 17) := ⟨⟨by decide +kernel, by decide +kernel⟩, List.mem_of_getElem? (i := 641) (by decide +kernel), List.mem_of_getElem? (i := 820) (by decide +kernel), List.mem_of_getElem? (i := 821) (by decide +kernel)⟩
theorem lw_p51 : lw_okq (⟨"SpringPawnModel", "notes", "()V"⟩, 17) := ⟨⟨by decide +kernel, by decide +kernel⟩, List.mem_of_getElem? (i := 641) (by decide +kernel), List.mem_of_getElem? (i := 827) (by decide +kernel), List.mem_of_getElem? (i := 828) (by decide +kernel)⟩
theorem lw_p52 : lw_okq (⟨"SpringPawnModel", "lendsOf", "(II)I"⟩, 17) := ⟨⟨by decide +kernel, by decide +kernel⟩, List.mem_of_getElem? (i := 641) (by decide +kernel), List.mem_of_getElem? (i := 831) (by decide +kernel), List.mem_of_getElem? (i := 832) (by decide +kernel)⟩
theorem lw_p53 : lw_okq (⟨"SpringPawnModel", "lent", "(I)I"⟩, 17) := ⟨⟨by decide +kernel, by decide +kernel⟩, List.mem_of_getElem? (i := 641) (by decide +kernel), List.mem_of_getElem? (i := 839) (by decide +kernel), List.mem_of_getElem? (i := 840) (by decide +kernel)⟩
theorem lw_p54 : lw_okq (⟨"SpringPawnModel", "frees", "(I)V"⟩, 17) := ⟨⟨by decide +kernel, by decide +kernel⟩, List.mem_of_getElem? (i := 641) (by decide +kernel), List.mem_of_getElem? (i := 843) (by decide +kernel), List.mem_of_getElem? (i := 844) (by decide +kernel)⟩
theorem lw_p55 : lw_okq (⟨"SpringPawnModel", "goesBy", "()I"⟩, 17) := ⟨⟨by decide +kernel, by decide +kernel⟩, List.mem_of_getElem? (i := 641) (by decide +kernel), List.mem_of_getElem? (i := 851) (by decide +kernel), List.mem_of_getElem? (i := 852) (by decide +kernel)⟩
theorem lw_p56 : lw_okq (⟨"SpringPawnModel", "harvest", "(I)I"⟩, 17) := ⟨⟨by decide +kernel, by decide +kernel⟩, List.mem_of_getElem? (i := 641) (by decide +kernel), List.mem_of_getElem? (i := 855) (by decide +kernel), List.mem_of_getElem? (i := 856) (by decide +kernel)⟩
theorem lw_p57 : lw_okq (⟨"SpringPawnModel", "worth", "(I)I"⟩, 17) := ⟨⟨by decide +kernel, by decide +kernel⟩, List.mem_of_getElem? (i := 641) (by decide +kernel), List.mem_of_getElem? (i := 859) (by decide +kernel), List.mem_of_getElem? (i := 860) (by decide +kernel)⟩
theorem lw_p58 : lw_okq (⟨"SpringPawnModel", "ages", "(I)V"⟩, 17) := ⟨⟨by decide +kernel, by decide +kernel⟩, List.mem_of_getElem? (i := 641) (by decide +kernel), List.mem_of_getElem? (i := 863) (by decide +kernel), List.mem_of_getElem? (i := 864) (by decide +kernel)⟩
theorem lw_p59 : lw_okq (⟨"SpringPawnModel", "gap", "()I"⟩, 17) := ⟨⟨by decide +kernel, by decide +kernel⟩, List.mem_of_getElem? (i := 641) (by decide +kernel), List.mem_of_getElem? (i := 875) (by decide +kernel), List.mem_of_getElem? (i := 876) (by decide +kernel)⟩
theorem lw_p60 : lw_okq (⟨"SpringPawnModel", "asides", "()V"⟩, 17) := ⟨⟨by decide +kernel, by decide +kernel⟩, List.mem_of_getElem? (i := 641) (by decide +kernel), List.mem_of_getElem? (i := 897) (by decide +kernel), List.mem_of_getElem? (i := 898) (by decide +kernel)⟩
theorem lw_p61 : lw_okq (⟨"SpringPawnModel", "backs", "()V"⟩, 17) := ⟨⟨by decide +kernel, by decide +kernel⟩, List.mem_of_getElem? (i := 641) (by decide +kernel), List.mem_of_getElem? (i := 901) (by decide +kernel), List.mem_of_getElem? (i := 902) (by decide +kernel)⟩
theorem lw_p62 : lw_okq (⟨"SpringPawnModel", "isBare", "()Z"⟩, 17) := ⟨⟨by decide +kernel, by decide +kernel⟩, List.mem_of_getElem? (i := 641) (by decide +kernel), List.mem_of_getElem? (i := 909) (by decide +kernel), List.mem_of_getElem? (i := 910) (by decide +kernel)⟩
theorem lw_p63 : lw_okq (⟨"SpringPawnModel", "isSo", "(I)Z"⟩, 17) := ⟨⟨by decide +kernel, by decide +kernel⟩, List.mem_of_getElem? (i := 641) (by decide +kernel), List.mem_of_getElem? (i := 925) (by decide +kernel), List.mem_of_getElem? (i := 926) (by decide +kernel)⟩
def lw_privs_4 : List (MethodName × Nat) := [(⟨"SpringPawnModel", "out", "()I"⟩, 17), (⟨"SpringPawnModel", "ripens", "(II)I"⟩, 17), (⟨"SpringPawnModel", "isFree", "(II)Z"⟩, 17), (⟨"SpringPawnModel", "notes", "()V"⟩, 17), (⟨"SpringPawnModel", "lendsOf", "(II)I"⟩, 17), (⟨"SpringPawnModel", "lent", "(I)I"⟩, 17), (⟨"SpringPawnModel", "frees", "(I)V"⟩, 17), (⟨"SpringPawnModel", "goesBy", "()I"⟩, 17), (⟨"SpringPawnModel", "harvest", "(I)I"⟩, 17), (⟨"SpringPawnModel", "worth", "(I)I"⟩, 17), (⟨"SpringPawnModel", "ages", "(I)V"⟩, 17), (⟨"SpringPawnModel", "gap", "()I"⟩, 17), (⟨"SpringPawnModel", "asides", "()V"⟩, 17), (⟨"SpringPawnModel", "backs", "()V"⟩, 17), (⟨"SpringPawnModel", "isBare", "()Z"⟩, 17), (⟨"SpringPawnModel", "isSo", "(I)Z"⟩, 17)]
theorem lw_r4 : ∀ q ∈ lw_privs_4, lw_okq q := List.forall_mem_cons.mpr ⟨lw_p48, List.forall_mem_cons.mpr ⟨lw_p49, List.forall_mem_cons.mpr ⟨lw_p50, List.forall_mem_cons.mpr ⟨lw_p51, List.forall_mem_cons.mpr ⟨lw_p52, List.forall_mem_cons.mpr ⟨lw_p53, List.forall_mem_cons.mpr ⟨lw_p54, List.forall_mem_cons.mpr ⟨lw_p55, List.forall_mem_cons.mpr ⟨lw_p56, List.forall_mem_cons.mpr ⟨lw_p57, List.forall_mem_cons.mpr ⟨lw_p58, List.forall_mem_cons.mpr ⟨lw_p59, List.forall_mem_cons.mpr ⟨lw_p60, List.forall_mem_cons.mpr ⟨lw_p61, List.forall_mem_cons.mpr ⟨lw_p62, List.forall_mem_cons.mpr ⟨lw_p63, fun _ h => absurd h List.not_mem_nil⟩⟩⟩⟩⟩⟩⟩⟩⟩⟩⟩⟩⟩⟩⟩⟩
def lw_privs : List (MethodName × Nat) := lw_privs_1 ++ (lw_privs_2 ++ (lw_privs_3 ++ (lw_privs_4)))
def lw_tbl : List Cond := k2_sels lw_privs ++ tables_1
theorem lw_privs_ok : ∀ q ∈ lw_privs, lw_okq q := by
  show ∀ q ∈ lw_privs_1 ++ (lw_privs_2 ++ (lw_privs_3 ++ (lw_privs_4))), lw_okq q
  exact List.forall_mem_append.mpr ⟨lw_r1, List.forall_mem_append.mpr ⟨lw_r2, List.forall_mem_append.mpr ⟨lw_r3, lw_r4⟩⟩⟩
end
section
/-! ===== BEGIN words of one list among another's, by their places ===== -/
theorem goodIn_r {big : List Cond} (ws : List Cond) (ps : List Nat) (hp : ws = ps.filterMap (fun i => big[i]?)) (h : ws.all goodWord = true) : GoodIn big ws := by
  intro w hw
  have h1 := List.all_eq_true.mp h w hw
  rw [hp] at hw
  obtain ⟨i, -, hi⟩ := List.mem_filterMap.mp hw
  have hm : w ∈ big := by first | exact List.mem_of_getElem? hi | exact List.getElem?_mem hi
  exact ⟨hm, good_of_word h1⟩
theorem goodIn_app {big a b : List Cond} (ha : GoodIn big a) (hb : GoodIn big b) : GoodIn big (a ++ b) := fun w h => (List.mem_append.mp h).elim (ha w) (hb w)
theorem goodIn_ca {big a b : List Cond} {c : Cond} (ha : GoodIn big (c :: a)) (hb : GoodIn big b) : GoodIn big (c :: (a ++ b)) := fun w h => (List.mem_cons.mp h).elim (fun e => ha w (List.mem_cons.mpr (Or.inl e))) (fun h => (List.mem_append.mp h).elim (fun h => ha w (List.mem_cons.mpr (Or.inr h))) (hb w))
theorem goodIn_sub {big ws : List Cond} (hm : ∀ w ∈ ws, w ∈ big) (h : ws.all goodWord = true) : GoodIn big ws := fun w hw => ⟨hm w hw, good_of_word (List.all_eq_true.mp h w hw)⟩
/-! ===== END ===== -/

/-! ===== BEGIN printed: names, fields, word lists, decode rows ===== -/
def RX0 : String := "SpringPawn$Land"
def TX0 : u_T := fun k => match k with
  | 0 => ("SpringPawn$Land", "seasons", "I", false)
  | 1 => ("SpringPawn$Land", "days", "I", false)
  | 2 => ("SpringPawn$Land", "season", "[I", true)
  | 3 => ("SpringPawn$Land", "gift", "[I", true)
  | 4 => ("SpringPawn$Land", "crops", "I", false)
  | 5 => ("SpringPawn$Land", "needs", "[I", true)
  | 6 => ("SpringPawn$Land", "least", "[I", true)
  | 7 => ("SpringPawn$Land", "worth", "[I", true)
  | 8 => ("SpringPawn$Land", "price", "I", false)
  | 9 => ("SpringPawn$Land", "interest", "I", false)
  | _ => ("SpringPawn$Land", "lapse", "I", false)
def tyX0 : Nat → FieldType := fun k => match k with
  | 0 => .int
  | 1 => .int
  | 2 => .array .int
  | 3 => .array .int
  | 4 => .int
  | 5 => .array .int
  | 6 => .array .int
  | 7 => .array .int
  | 8 => .int
  | 9 => .int
  | _ => .int
abbrev wsX00 : List Cond := u_ws RX0 TX0 11
theorem nmX0 : ∀ a, a < 11 → ∀ b, b < 11 → a ≠ b → (TX0 a).2.1 ≠ (TX0 b).2.1 := by decide +kernel
theorem tyX0_ok : ∀ k, k < 11 → parseFieldDescriptor (TX0 k).2.2.1 = some (tyX0 k) := by decide +kernel
abbrev cX0_init : ByteArray := prog_2_method_1_code
def yX0_init : MethodName := ⟨RX0, "<init>", "()V"⟩
abbrev cX0_startAnew : ByteArray := prog_2_method_2_code
def yX0_startAnew : MethodName := ⟨RX0, "startAnew", "()V"⟩
abbrev cX0_addSeason : ByteArray := prog_2_method_3_code
def yX0_addSeason : MethodName := ⟨RX0, "addSeason", "(II)V"⟩
abbrev cX0_addCrop : ByteArray := prog_2_method_4_code
def yX0_addCrop : MethodName := ⟨RX0, "addCrop", "(III)V"⟩
abbrev cX0_allDays : ByteArray := prog_2_method_5_code
def yX0_allDays : MethodName := ⟨RX0, "allDays", "()I"⟩
abbrev cX0_lentFor : ByteArray := prog_2_method_6_code
def yX0_lentFor : MethodName := ⟨RX0, "lentFor", "(II)I"⟩
abbrev cX0_ripensOn : ByteArray := prog_2_method_7_code
def yX0_ripensOn : MethodName := ⟨RX0, "ripensOn", "(II)I"⟩
abbrev cX0_ripening : ByteArray := prog_2_method_8_code
def yX0_ripening : MethodName := ⟨RX0, "ripening", "(I)I"⟩
abbrev cX0_worthOf : ByteArray := prog_2_method_9_code
def yX0_worthOf : MethodName := ⟨RX0, "worthOf", "(I)I"⟩
abbrev cX0_harvest : ByteArray := prog_2_method_10_code
def yX0_harvest : MethodName := ⟨RX0, "harvest", "(I)I"⟩
abbrev cX0_gap : ByteArray := prog_2_method_11_code
def yX0_gap : MethodName := ⟨RX0, "gap", "(I)I"⟩
def RX1 : String := "SpringPawn$Reader"
def TX1 : u_T := fun k => match k with
  | 0 => ("SpringPawn$Reader", "text", "LSpringPawn$Text;", true)
  | 1 => ("SpringPawn$Reader", "draft", "LSpringPawn$Land;", false)
  | 2 => ("SpringPawn$Reader", "fault", "I", false)
  | 3 => ("SpringPawn$Reader", "hasPrice", "Z", false)
  | 4 => ("SpringPawn$Reader", "hasInterest", "Z", false)
  | _ => ("SpringPawn$Reader", "hasLapse", "Z", false)
def tyX1 : Nat → FieldType := fun k => match k with
  | 0 => .object "SpringPawn$Text"
  | 1 => .object "SpringPawn$Land"
  | 2 => .int
  | 3 => .boolean
  | 4 => .boolean
  | _ => .boolean
abbrev wsX10 : List Cond := u_ws RX1 TX1 6
theorem nmX1 : ∀ a, a < 6 → ∀ b, b < 6 → a ≠ b → (TX1 a).2.1 ≠ (TX1 b).2.1 := by decide +kernel
theorem tyX1_ok : ∀ k, k < 6 → parseFieldDescriptor (TX1 k).2.2.1 = some (tyX1 k) := by decide +kernel
abbrev cX1_init : ByteArray := prog_3_method_1_code
def yX1_init : MethodName := ⟨RX1, "<init>", "()V"⟩
abbrev cX1_readItems : ByteArray := prog_3_method_2_code
def yX1_readItems : MethodName := ⟨RX1, "readItems", "()I"⟩
abbrev cX1_handOver : ByteArray := prog_3_method_3_code
def yX1_handOver : MethodName := ⟨RX1, "handOver", "(LSpringPawn$Land;)LSpringPawn$Land;"⟩
abbrev cX1_readItem : ByteArray := prog_3_method_4_code
def yX1_readItem : MethodName := ⟨RX1, "readItem", "()V"⟩
abbrev cX1_readSeason : ByteArray := prog_3_method_5_code
def yX1_readSeason : MethodName := ⟨RX1, "readSeason", "()V"⟩
abbrev cX1_readCrop : ByteArray := prog_3_method_6_code
def yX1_readCrop : MethodName := ⟨RX1, "readCrop", "()V"⟩
abbrev cX1_readPrice : ByteArray := prog_3_method_7_code
def yX1_readPrice : MethodName := ⟨RX1, "readPrice", "()V"⟩
abbrev cX1_readInterest : ByteArray := prog_3_method_8_code
def yX1_readInterest : MethodName := ⟨RX1, "readInterest", "()V"⟩
abbrev cX1_readLapse : ByteArray := prog_3_method_9_code
def yX1_readLapse : MethodName := ⟨RX1, "readLapse", "()V"⟩
abbrev cX1_readLetter : ByteArray := prog_3_method_10_code
def yX1_readLetter : MethodName := ⟨RX1, "readLetter", "(Z)V"⟩
abbrev cX1_readNumber : ByteArray := prog_3_method_11_code
def yX1_readNumber : MethodName := ⟨RX1, "readNumber", "(II)I"⟩
abbrev cX1_readEnd : ByteArray := prog_3_method_12_code
def yX1_readEnd : MethodName := ⟨RX1, "readEnd", "()V"⟩
abbrev cX1_refuseUnless : ByteArray := prog_3_method_13_code
def yX1_refuseUnless : MethodName := ⟨RX1, "refuseUnless", "(Z)V"⟩
abbrev cX1_toNextToken : ByteArray := prog_3_method_14_code
def yX1_toNextToken : MethodName := ⟨RX1, "toNextToken", "()V"⟩
def RX2 : String := "SpringPawn$Standing"
def TX2 : u_T := fun k => match k with
  | 0 => ("SpringPawn$Standing", "loanDays", "[I", true)
  | 1 => ("SpringPawn$Standing", "lent", "[I", true)
  | 2 => ("SpringPawn$Standing", "age", "[I", true)
  | 3 => ("SpringPawn$Standing", "lapsed", "I", false)
  | 4 => ("SpringPawn$Standing", "purse", "I", false)
  | _ => ("SpringPawn$Standing", "years", "I", false)
def tyX2 : Nat → FieldType := fun k => match k with
  | 0 => .array .int
  | 1 => .array .int
  | 2 => .array .int
  | 3 => .int
  | 4 => .int
  | _ => .int
abbrev wsX20 : List Cond := u_ws RX2 TX2 6
theorem nmX2 : ∀ a, a < 6 → ∀ b, b < 6 → a ≠ b → (TX2 a).2.1 ≠ (TX2 b).2.1 := by decide +kernel
theorem tyX2_ok : ∀ k, k < 6 → parseFieldDescriptor (TX2 k).2.2.1 = some (tyX2 k) := by decide +kernel
abbrev cX2_init : ByteArray := prog_4_method_1_code
def yX2_init : MethodName := ⟨RX2, "<init>", "()V"⟩
abbrev cX2_startAnew : ByteArray := prog_4_method_2_code
def yX2_startAnew : MethodName := ⟨RX2, "startAnew", "()V"⟩
abbrev cX2_become : ByteArray := prog_4_method_3_code
def yX2_become : MethodName := ⟨RX2, "become", "(LSpringPawn$Standing;)V"⟩
abbrev cX2_isFree : ByteArray := prog_4_method_4_code
def yX2_isFree : MethodName := ⟨RX2, "isFree", "(I)Z"⟩
abbrev cX2_lowestFree : ByteArray := prog_4_method_5_code
def yX2_lowestFree : MethodName := ⟨RX2, "lowestFree", "()I"⟩
abbrev cX2_loanOf : ByteArray := prog_4_method_6_code
def yX2_loanOf : MethodName := ⟨RX2, "loanOf", "(I)I"⟩
abbrev cX2_daysOut : ByteArray := prog_4_method_7_code
def yX2_daysOut : MethodName := ⟨RX2, "daysOut", "()I"⟩
abbrev cX2_daysIn : ByteArray := prog_4_method_8_code
def yX2_daysIn : MethodName := ⟨RX2, "daysIn", "(LSpringPawn$Land;)I"⟩
abbrev cX2_owed : ByteArray := prog_4_method_9_code
def yX2_owed : MethodName := ⟨RX2, "owed", "()I"⟩
abbrev cX2_daysOfSet : ByteArray := prog_4_method_10_code
def yX2_daysOfSet : MethodName := ⟨RX2, "daysOfSet", "(I)I"⟩
abbrev cX2_costOfSet : ByteArray := prog_4_method_11_code
def yX2_costOfSet : MethodName := ⟨RX2, "costOfSet", "(I)I"⟩
abbrev cX2_isSetOfLoans : ByteArray := prog_4_method_12_code
def yX2_isSetOfLoans : MethodName := ⟨RX2, "isSetOfLoans", "(I)Z"⟩
abbrev cX2_pawn : ByteArray := prog_4_method_13_code
def yX2_pawn : MethodName := ⟨RX2, "pawn", "(III)V"⟩
abbrev cX2_redeem : ByteArray := prog_4_method_14_code
def yX2_redeem : MethodName := ⟨RX2, "redeem", "(I)V"⟩
abbrev cX2_passYear : ByteArray := prog_4_method_15_code
def yX2_passYear : MethodName := ⟨RX2, "passYear", "(LSpringPawn$Land;)I"⟩
abbrev cX2_takeInterest : ByteArray := prog_4_method_16_code
def yX2_takeInterest : MethodName := ⟨RX2, "takeInterest", "(LSpringPawn$Land;I)V"⟩
abbrev cX2_grow : ByteArray := prog_4_method_17_code
def yX2_grow : MethodName := ⟨RX2, "grow", "(LSpringPawn$Land;I)V"⟩
abbrev cX2_setFree : ByteArray := prog_4_method_18_code
def yX2_setFree : MethodName := ⟨RX2, "setFree", "(I)V"⟩
abbrev cX2_behindLast : ByteArray := prog_4_method_19_code
def yX2_behindLast : MethodName := ⟨RX2, "behindLast", "(I)I"⟩
def RX3 : String := "SpringPawn$Story"
def TX3 : u_T := fun k => match k with
  | 0 => ("SpringPawn$Story", "now", "LSpringPawn$Standing;", true)
  | 1 => ("SpringPawn$Story", "past", "[LSpringPawn$Standing;", true)
  | _ => ("SpringPawn$Story", "known", "I", false)
def tyX3 : Nat → FieldType := fun k => match k with
  | 0 => .object "SpringPawn$Standing"
  | 1 => .array (.object "SpringPawn$Standing")
  | _ => .int
abbrev wsX30 : List Cond := u_ws RX3 TX3 3
theorem nmX3 : ∀ a, a < 3 → ∀ b, b < 3 → a ≠ b → (TX3 a).2.1 ≠ (TX3 b).2.1 := by decide +kernel
theorem tyX3_ok : ∀ k, k < 3 → parseFieldDescriptor (TX3 k).2.2.1 = some (tyX3 k) := by decide +kernel
abbrev cX3_init : ByteArray := prog_5_method_1_code
def yX3_init : MethodName := ⟨RX3, "<init>", "()V"⟩
abbrev cX3_startAnew : ByteArray := prog_5_method_2_code
def yX3_startAnew : MethodName := ⟨RX3, "startAnew", "()V"⟩
abbrev cX3_become : ByteArray := prog_5_method_3_code
def yX3_become : MethodName := ⟨RX3, "become", "(LSpringPawn$Story;)V"⟩
abbrev cX3_remember : ByteArray := prog_5_method_4_code
def yX3_remember : MethodName := ⟨RX3, "remember", "()V"⟩
abbrev cX3_goBack : ByteArray := prog_5_method_5_code
def yX3_goBack : MethodName := ⟨RX3, "goBack", "()Z"⟩
abbrev cX3_loseOldest : ByteArray := prog_5_method_6_code
def yX3_loseOldest : MethodName := ⟨RX3, "loseOldest", "()V"⟩
def RX4 : String := "SpringPawn$Text"
def TX4 : u_T := fun k => match k with
  | 0 => ("SpringPawn$Text", "bytes", "[I", true)
  | 1 => ("SpringPawn$Text", "size", "I", false)
  | 2 => ("SpringPawn$Text", "tokenAt", "I", false)
  | 3 => ("SpringPawn$Text", "tokenKind", "I", false)
  | 4 => ("SpringPawn$Text", "tokenValue", "I", false)
  | _ => ("SpringPawn$Text", "place", "I", false)
def tyX4 : Nat → FieldType := fun k => match k with
  | 0 => .array .int
  | 1 => .int
  | 2 => .int
  | 3 => .int
  | 4 => .int
  | _ => .int
abbrev wsX40 : List Cond := u_ws RX4 TX4 6
theorem nmX4 : ∀ a, a < 6 → ∀ b, b < 6 → a ≠ b → (TX4 a).2.1 ≠ (TX4 b).2.1 := by decide +kernel
theorem tyX4_ok : ∀ k, k < 6 → parseFieldDescriptor (TX4 k).2.2.1 = some (tyX4 k) := by decide +kernel
abbrev cX4_init : ByteArray := prog_6_method_1_code
def yX4_init : MethodName := ⟨RX4, "<init>", "()V"⟩
abbrev cX4_take : ByteArray := prog_6_method_2_code
def yX4_take : MethodName := ⟨RX4, "take", "(I)Z"⟩
abbrev cX4_drop : ByteArray := prog_6_method_3_code
def yX4_drop : MethodName := ⟨RX4, "drop", "()I"⟩
abbrev cX4_toFirstToken : ByteArray := prog_6_method_4_code
def yX4_toFirstToken : MethodName := ⟨RX4, "toFirstToken", "()V"⟩
abbrev cX4_toNextToken : ByteArray := prog_6_method_5_code
def yX4_toNextToken : MethodName := ⟨RX4, "toNextToken", "()V"⟩
abbrev cX4_scanLetters : ByteArray := prog_6_method_6_code
def yX4_scanLetters : MethodName := ⟨RX4, "scanLetters", "()V"⟩
abbrev cX4_scanNumber : ByteArray := prog_6_method_7_code
def yX4_scanNumber : MethodName := ⟨RX4, "scanNumber", "()V"⟩
abbrev cX4_isLetter : ByteArray := prog_6_method_8_code
def yX4_isLetter : MethodName := ⟨RX4, "isLetter", "(I)Z"⟩
abbrev cX4_isDigit : ByteArray := prog_6_method_9_code
def yX4_isDigit : MethodName := ⟨RX4, "isDigit", "(I)Z"⟩
def RX5 : String := "SpringPawn"
def TX5 : u_T := fun k => match k with
  | 0 => ("SpringPawn", "reader", "LSpringPawn$Reader;", true)
  | 1 => ("SpringPawn", "land", "LSpringPawn$Land;", false)
  | 2 => ("SpringPawn", "story", "LSpringPawn$Story;", true)
  | 3 => ("SpringPawn", "images", "[LSpringPawn$Story;", true)
  | 4 => ("SpringPawn", "kept", "[Z", true)
  | 5 => ("SpringPawn", "ahead", "LSpringPawn$Standing;", true)
  | 6 => ("SpringPawn", "toldCrop", "[I", true)
  | 7 => ("SpringPawn", "toldIs", "[I", true)
  | 8 => ("SpringPawn", "told", "I", false)
  | _ => ("SpringPawn", "traced", "J", false)
def tyX5 : Nat → FieldType := fun k => match k with
  | 0 => .object "SpringPawn$Reader"
  | 1 => .object "SpringPawn$Land"
  | 2 => .object "SpringPawn$Story"
  | 3 => .array (.object "SpringPawn$Story")
  | 4 => .array .boolean
  | 5 => .object "SpringPawn$Standing"
  | 6 => .array .int
  | 7 => .array .int
  | 8 => .int
  | _ => .long
abbrev wsX50 : List Cond := u_ws RX5 TX5 10
theorem nmX5 : ∀ a, a < 10 → ∀ b, b < 10 → a ≠ b → (TX5 a).2.1 ≠ (TX5 b).2.1 := by decide +kernel
theorem tyX5_ok : ∀ k, k < 10 → parseFieldDescriptor (TX5 k).2.2.1 = some (tyX5 k) := by decide +kernel
abbrev cX5_init : ByteArray := prog_1_method_1_code
def yX5_init : MethodName := ⟨RX5, "<init>", "()V"⟩
abbrev cX5_type : ByteArray := prog_1_method_2_code
def yX5_type : MethodName := ⟨RX5, "type", "(I)I"⟩
abbrev cX5_clear : ByteArray := prog_1_method_3_code
def yX5_clear : MethodName := ⟨RX5, "clear", "()I"⟩
abbrev cX5_valley : ByteArray := prog_1_method_4_code
def yX5_valley : MethodName := ⟨RX5, "valley", "()I"⟩
abbrev cX5_day : ByteArray := prog_1_method_5_code
def yX5_day : MethodName := ⟨RX5, "day", "(II)I"⟩
abbrev cX5_crop : ByteArray := prog_1_method_6_code
def yX5_crop : MethodName := ⟨RX5, "crop", "(II)I"⟩
abbrev cX5_loan : ByteArray := prog_1_method_7_code
def yX5_loan : MethodName := ⟨RX5, "loan", "(II)I"⟩
abbrev cX5_pawns : ByteArray := prog_1_method_8_code
def yX5_pawns : MethodName := ⟨RX5, "pawns", "(II)I"⟩
abbrev cX5_redeems : ByteArray := prog_1_method_9_code
def yX5_redeems : MethodName := ⟨RX5, "redeems", "(I)I"⟩
abbrev cX5_year : ByteArray := prog_1_method_10_code
def yX5_year : MethodName := ⟨RX5, "year", "()I"⟩
abbrev cX5_undo : ByteArray := prog_1_method_11_code
def yX5_undo : MethodName := ⟨RX5, "undo", "()I"⟩
abbrev cX5_now : ByteArray := prog_1_method_12_code
def yX5_now : MethodName := ⟨RX5, "now", "(I)I"⟩
abbrev cX5_lends : ByteArray := prog_1_method_13_code
def yX5_lends : MethodName := ⟨RX5, "lends", "(II)I"⟩
abbrev cX5_cheap : ByteArray := prog_1_method_14_code
def yX5_cheap : MethodName := ⟨RX5, "cheap", "(II)I"⟩
abbrev cX5_freeing : ByteArray := prog_1_method_15_code
def yX5_freeing : MethodName := ⟨RX5, "freeing", "(I)I"⟩
abbrev cX5_rich : ByteArray := prog_1_method_16_code
def yX5_rich : MethodName := ⟨RX5, "rich", "(I)I"⟩
abbrev cX5_bare : ByteArray := prog_1_method_17_code
def yX5_bare : MethodName := ⟨RX5, "bare", "()I"⟩
abbrev cX5_tells : ByteArray := prog_1_method_18_code
def yX5_tells : MethodName := ⟨RX5, "tells", "(II)I"⟩
abbrev cX5_forget : ByteArray := prog_1_method_19_code
def yX5_forget : MethodName := ⟨RX5, "forget", "()I"⟩
abbrev cX5_fits : ByteArray := prog_1_method_20_code
def yX5_fits : MethodName := ⟨RX5, "fits", "(I)I"⟩
abbrev cX5_odds : ByteArray := prog_1_method_21_code
def yX5_odds : MethodName := ⟨RX5, "odds", "(III)I"⟩
abbrev cX5_mark : ByteArray := prog_1_method_22_code
def yX5_mark : MethodName := ⟨RX5, "mark", "(II)I"⟩
abbrev cX5_keep : ByteArray := prog_1_method_23_code
def yX5_keep : MethodName := ⟨RX5, "keep", "(I)I"⟩
abbrev cX5_back : ByteArray := prog_1_method_24_code
def yX5_back : MethodName := ⟨RX5, "back", "(I)I"⟩
abbrev cX5_count : ByteArray := prog_1_method_25_code
def yX5_count : MethodName := ⟨RX5, "count", "(I)I"⟩
abbrev cX5_trace : ByteArray := prog_1_method_26_code
def yX5_trace : MethodName := ⟨RX5, "trace", "()J"⟩
abbrev cX5_isWithin : ByteArray := prog_1_method_27_code
def yX5_isWithin : MethodName := ⟨RX5, "isWithin", "(III)Z"⟩
abbrev cX5_isDay : ByteArray := prog_1_method_28_code
def yX5_isDay : MethodName := ⟨RX5, "isDay", "(I)Z"⟩
abbrev cX5_isCrop : ByteArray := prog_1_method_29_code
def yX5_isCrop : MethodName := ⟨RX5, "isCrop", "(I)Z"⟩
abbrev cX5_isLoan : ByteArray := prog_1_method_30_code
def yX5_isLoan : MethodName := ⟨RX5, "isLoan", "(I)Z"⟩
abbrev cX5_has : ByteArray := prog_1_method_31_code
def yX5_has : MethodName := ⟨RX5, "has", "(II)Z"⟩
abbrev cX5_rowBits : ByteArray := prog_1_method_32_code
def yX5_rowBits : MethodName := ⟨RX5, "rowBits", "(II)I"⟩
abbrev cX5_daysIn : ByteArray := prog_1_method_33_code
def yX5_daysIn : MethodName := ⟨RX5, "daysIn", "()I"⟩
abbrev cX5_isRowIn : ByteArray := prog_1_method_34_code
def yX5_isRowIn : MethodName := ⟨RX5, "isRowIn", "(II)Z"⟩
abbrev cX5_ripensNow : ByteArray := prog_1_method_35_code
def yX5_ripensNow : MethodName := ⟨RX5, "ripensNow", "(I)Z"⟩
abbrev cX5_howDayIs : ByteArray := prog_1_method_36_code
def yX5_howDayIs : MethodName := ⟨RX5, "howDayIs", "(I)I"⟩
abbrev cX5_cheapestRow : ByteArray := prog_1_method_37_code
def yX5_cheapestRow : MethodName := ⟨RX5, "cheapestRow", "(I)I"⟩
abbrev cX5_bestFreeing : ByteArray := prog_1_method_38_code
def yX5_bestFreeing : MethodName := ⟨RX5, "bestFreeing", "()I"⟩
abbrev cX5_agreesWithTold : ByteArray := prog_1_method_39_code
def yX5_agreesWithTold : MethodName := ⟨RX5, "agreesWithTold", "(I)Z"⟩
abbrev cX5_chancesOf : ByteArray := prog_1_method_40_code
def yX5_chancesOf : MethodName := ⟨RX5, "chancesOf", "(III)I"⟩
abbrev cX5_greatestDivisor : ByteArray := prog_1_method_41_code
def yX5_greatestDivisor : MethodName := ⟨RX5, "greatestDivisor", "(II)I"⟩
abbrev cX5_markAsCrop : ByteArray := prog_1_method_42_code
def yX5_markAsCrop : MethodName := ⟨RX5, "markAsCrop", "(I)I"⟩
abbrev cX5_markAsHay : ByteArray := prog_1_method_43_code
def yX5_markAsHay : MethodName := ⟨RX5, "markAsHay", "(I)I"⟩
abbrev cX5_markAsPlum : ByteArray := prog_1_method_44_code
def yX5_markAsPlum : MethodName := ⟨RX5, "markAsPlum", "(I)I"⟩
abbrev cX5_markAsClover : ByteArray := prog_1_method_45_code
def yX5_markAsClover : MethodName := ⟨RX5, "markAsClover", "(I)I"⟩
abbrev cX5_markAsSloe : ByteArray := prog_1_method_46_code
def yX5_markAsSloe : MethodName := ⟨RX5, "markAsSloe", "(I)I"⟩
abbrev cX5_markAsLamb : ByteArray := prog_1_method_47_code
def yX5_markAsLamb : MethodName := ⟨RX5, "markAsLamb", "(I)I"⟩
def RX6 : String := "SpringPawnModel"
def TX6 : u_T := fun k => match k with
  | 0 => ("SpringPawnModel", "text", "[I", true)
  | 1 => ("SpringPawnModel", "size", "I", false)
  | 2 => ("SpringPawnModel", "at", "I", false)
  | 3 => ("SpringPawnModel", "begin", "I", false)
  | 4 => ("SpringPawnModel", "token", "I", false)
  | 5 => ("SpringPawnModel", "told", "I", false)
  | 6 => ("SpringPawnModel", "read", "[I", true)
  | 7 => ("SpringPawnModel", "paper", "[I", true)
  | 8 => ("SpringPawnModel", "now", "[I", true)
  | 9 => ("SpringPawnModel", "undone", "[I", true)
  | 10 => ("SpringPawnModel", "undos", "I", false)
  | 11 => ("SpringPawnModel", "aside", "[I", true)
  | 12 => ("SpringPawnModel", "toldMany", "I", false)
  | 13 => ("SpringPawnModel", "toldCrop", "[I", true)
  | 14 => ("SpringPawnModel", "toldIs", "[I", true)
  | 15 => ("SpringPawnModel", "trace", "J", false)
  | _ => ("SpringPawnModel", "kept", "[I", true)
def tyX6 : Nat → FieldType := fun k => match k with
  | 0 => .array .int
  | 1 => .int
  | 2 => .int
  | 3 => .int
  | 4 => .int
  | 5 => .int
  | 6 => .array .int
  | 7 => .array .int
  | 8 => .array .int
  | 9 => .array .int
  | 10 => .int
  | 11 => .array .int
  | 12 => .int
  | 13 => .array .int
  | 14 => .array .int
  | 15 => .long
  | _ => .array .int
abbrev wsX60 : List Cond := u_ws RX6 TX6 17
theorem nmX6 : ∀ a, a < 17 → ∀ b, b < 17 → a ≠ b → (TX6 a).2.1 ≠ (TX6 b).2.1 := by decide +kernel
theorem tyX6_ok : ∀ k, k < 17 → parseFieldDescriptor (TX6 k).2.2.1 = some (tyX6 k) := by decide +kernel
abbrev cX6_in : ByteArray := prog_8_method_2_code
def yX6_in : MethodName := ⟨RX6, "in", "(JJJ)Z"⟩
abbrev cX6_init : ByteArray := prog_8_method_3_code
def yX6_init : MethodName := ⟨RX6, "<init>", "()V"⟩
abbrev cX6_type : ByteArray := prog_8_method_4_code
def yX6_type : MethodName := ⟨RX6, "type", "(I)I"⟩
abbrev cX6_clear : ByteArray := prog_8_method_5_code
def yX6_clear : MethodName := ⟨RX6, "clear", "()I"⟩
abbrev cX6_isLetter : ByteArray := prog_8_method_6_code
def yX6_isLetter : MethodName := ⟨RX6, "isLetter", "(I)Z"⟩
abbrev cX6_isFigure : ByteArray := prog_8_method_7_code
def yX6_isFigure : MethodName := ⟨RX6, "isFigure", "(I)Z"⟩
abbrev cX6_readLetters : ByteArray := prog_8_method_8_code
def yX6_readLetters : MethodName := ⟨RX6, "readLetters", "()V"⟩
abbrev cX6_readNumber : ByteArray := prog_8_method_9_code
def yX6_readNumber : MethodName := ⟨RX6, "readNumber", "()V"⟩
abbrev cX6_reads : ByteArray := prog_8_method_10_code
def yX6_reads : MethodName := ⟨RX6, "reads", "()V"⟩
abbrev cX6_number : ByteArray := prog_8_method_11_code
def yX6_number : MethodName := ⟨RX6, "number", "(II)Z"⟩
abbrev cX6_itemEnds : ByteArray := prog_8_method_12_code
def yX6_itemEnds : MethodName := ⟨RX6, "itemEnds", "()Z"⟩
abbrev cX6_plain : ByteArray := prog_8_method_13_code
def yX6_plain : MethodName := ⟨RX6, "plain", "()V"⟩
abbrev cX6_readSeason : ByteArray := prog_8_method_14_code
def yX6_readSeason : MethodName := ⟨RX6, "readSeason", "()Z"⟩
abbrev cX6_readCrop : ByteArray := prog_8_method_15_code
def yX6_readCrop : MethodName := ⟨RX6, "readCrop", "()Z"⟩
abbrev cX6_once : ByteArray := prog_8_method_16_code
def yX6_once : MethodName := ⟨RX6, "once", "(III)Z"⟩
abbrev cX6_readItem : ByteArray := prog_8_method_17_code
def yX6_readItem : MethodName := ⟨RX6, "readItem", "()Z"⟩
abbrev cX6_valley : ByteArray := prog_8_method_18_code
def yX6_valley : MethodName := ⟨RX6, "valley", "()I"⟩
abbrev cX6_takes : ByteArray := prog_8_method_19_code
def yX6_takes : MethodName := ⟨RX6, "takes", "()V"⟩
abbrev cX6_days : ByteArray := prog_8_method_20_code
def yX6_days : MethodName := ⟨RX6, "days", "()I"⟩
abbrev cX6_isDay : ByteArray := prog_8_method_21_code
def yX6_isDay : MethodName := ⟨RX6, "isDay", "(I)Z"⟩
abbrev cX6_isCrop : ByteArray := prog_8_method_22_code
def yX6_isCrop : MethodName := ⟨RX6, "isCrop", "(I)Z"⟩
abbrev cX6_isLoan : ByteArray := prog_8_method_23_code
def yX6_isLoan : MethodName := ⟨RX6, "isLoan", "(I)Z"⟩
abbrev cX6_loanDays : ByteArray := prog_8_method_24_code
def yX6_loanDays : MethodName := ⟨RX6, "loanDays", "(I)I"⟩
abbrev cX6_lent : ByteArray := prog_8_method_25_code
def yX6_lent : MethodName := ⟨RX6, "lent", "(I)I"⟩
abbrev cX6_out : ByteArray := prog_8_method_26_code
def yX6_out : MethodName := ⟨RX6, "out", "()I"⟩
abbrev cX6_notIn : ByteArray := prog_8_method_27_code
def yX6_notIn : MethodName := ⟨RX6, "notIn", "()I"⟩
abbrev cX6_ripens : ByteArray := prog_8_method_28_code
def yX6_ripens : MethodName := ⟨RX6, "ripens", "(II)I"⟩
abbrev cX6_worth : ByteArray := prog_8_method_29_code
def yX6_worth : MethodName := ⟨RX6, "worth", "(I)I"⟩
abbrev cX6_harvest : ByteArray := prog_8_method_30_code
def yX6_harvest : MethodName := ⟨RX6, "harvest", "(I)I"⟩
abbrev cX6_day : ByteArray := prog_8_method_31_code
def yX6_day : MethodName := ⟨RX6, "day", "(II)I"⟩
abbrev cX6_crop : ByteArray := prog_8_method_32_code
def yX6_crop : MethodName := ⟨RX6, "crop", "(II)I"⟩
abbrev cX6_loan : ByteArray := prog_8_method_33_code
def yX6_loan : MethodName := ⟨RX6, "loan", "(II)I"⟩
abbrev cX6_notes : ByteArray := prog_8_method_34_code
def yX6_notes : MethodName := ⟨RX6, "notes", "()V"⟩
abbrev cX6_row : ByteArray := prog_8_method_35_code
def yX6_row : MethodName := ⟨RX6, "row", "(II)I"⟩
abbrev cX6_lendsOf : ByteArray := prog_8_method_36_code
def yX6_lendsOf : MethodName := ⟨RX6, "lendsOf", "(II)I"⟩
abbrev cX6_isFree : ByteArray := prog_8_method_37_code
def yX6_isFree : MethodName := ⟨RX6, "isFree", "(II)Z"⟩
abbrev cX6_pawns : ByteArray := prog_8_method_38_code
def yX6_pawns : MethodName := ⟨RX6, "pawns", "(II)I"⟩
abbrev cX6_frees : ByteArray := prog_8_method_39_code
def yX6_frees : MethodName := ⟨RX6, "frees", "(I)V"⟩
abbrev cX6_redeems : ByteArray := prog_8_method_40_code
def yX6_redeems : MethodName := ⟨RX6, "redeems", "(I)I"⟩
abbrev cX6_goesBy : ByteArray := prog_8_method_41_code
def yX6_goesBy : MethodName := ⟨RX6, "goesBy", "()I"⟩
abbrev cX6_ages : ByteArray := prog_8_method_42_code
def yX6_ages : MethodName := ⟨RX6, "ages", "(I)V"⟩
abbrev cX6_year : ByteArray := prog_8_method_43_code
def yX6_year : MethodName := ⟨RX6, "year", "()I"⟩
abbrev cX6_undo : ByteArray := prog_8_method_44_code
def yX6_undo : MethodName := ⟨RX6, "undo", "()I"⟩
abbrev cX6_gap : ByteArray := prog_8_method_45_code
def yX6_gap : MethodName := ⟨RX6, "gap", "()I"⟩
abbrev cX6_now : ByteArray := prog_8_method_46_code
def yX6_now : MethodName := ⟨RX6, "now", "(I)I"⟩
abbrev cX6_lends : ByteArray := prog_8_method_47_code
def yX6_lends : MethodName := ⟨RX6, "lends", "(II)I"⟩
abbrev cX6_cheap : ByteArray := prog_8_method_48_code
def yX6_cheap : MethodName := ⟨RX6, "cheap", "(II)I"⟩
abbrev cX6_freeing : ByteArray := prog_8_method_49_code
def yX6_freeing : MethodName := ⟨RX6, "freeing", "(I)I"⟩
abbrev cX6_asides : ByteArray := prog_8_method_50_code
def yX6_asides : MethodName := ⟨RX6, "asides", "()V"⟩
abbrev cX6_backs : ByteArray := prog_8_method_51_code
def yX6_backs : MethodName := ⟨RX6, "backs", "()V"⟩
abbrev cX6_rich : ByteArray := prog_8_method_52_code
def yX6_rich : MethodName := ⟨RX6, "rich", "(I)I"⟩
abbrev cX6_isBare : ByteArray := prog_8_method_53_code
def yX6_isBare : MethodName := ⟨RX6, "isBare", "()Z"⟩
abbrev cX6_bare : ByteArray := prog_8_method_54_code
def yX6_bare : MethodName := ⟨RX6, "bare", "()I"⟩
abbrev cX6_tells : ByteArray := prog_8_method_55_code
def yX6_tells : MethodName := ⟨RX6, "tells", "(II)I"⟩
abbrev cX6_forget : ByteArray := prog_8_method_56_code
def yX6_forget : MethodName := ⟨RX6, "forget", "()I"⟩
abbrev cX6_isSo : ByteArray := prog_8_method_57_code
def yX6_isSo : MethodName := ⟨RX6, "isSo", "(I)Z"⟩
abbrev cX6_fits : ByteArray := prog_8_method_58_code
def yX6_fits : MethodName := ⟨RX6, "fits", "(I)I"⟩
abbrev cX6_odds : ByteArray := prog_8_method_59_code
def yX6_odds : MethodName := ⟨RX6, "odds", "(III)I"⟩
abbrev cX6_mark : ByteArray := prog_8_method_60_code
def yX6_mark : MethodName := ⟨RX6, "mark", "(II)I"⟩
abbrev cX6_trace : ByteArray := prog_8_method_61_code
def yX6_trace : MethodName := ⟨RX6, "trace", "()J"⟩
abbrev cX6_keep : ByteArray := prog_8_method_62_code
def yX6_keep : MethodName := ⟨RX6, "keep", "(I)I"⟩
abbrev cX6_back : ByteArray := prog_8_method_63_code
def yX6_back : MethodName := ⟨RX6, "back", "(I)I"⟩
abbrev cX6_count : ByteArray := prog_8_method_64_code
def yX6_count : MethodName := ⟨RX6, "count", "(I)I"⟩
def RJ9 : String := "java/lang/Math"
def TJ9 : u_T := fun k => match k with
  | _ => ("", "", "", false)
def tyJ9 : Nat → FieldType := fun k => match k with
  | _ => .int
abbrev wsJ90 : List Cond := u_ws RJ9 TJ9 0
theorem nmJ9 : ∀ a, a < 0 → ∀ b, b < 0 → a ≠ b → (TJ9 a).2.1 ≠ (TJ9 b).2.1 := by decide +kernel
theorem tyJ9_ok : ∀ k, k < 0 → parseFieldDescriptor (TJ9 k).2.2.1 = some (tyJ9 k) := by decide +kernel
abbrev cJ9_max_7cf53 : ByteArray := prog_9_method_65_code
def yJ9_max_7cf53 : MethodName := ⟨RJ9, "max", "(II)I"⟩
abbrev cJ9_min_7cf53 : ByteArray := prog_9_method_69_code
def yJ9_min_7cf53 : MethodName := ⟨RJ9, "min", "(II)I"⟩
def RL : String := "SpringPawnLaw"
abbrev cL_law : ByteArray := code
def yL_law : MethodName := ⟨RL, "law", "([I)Z"⟩
end
section
theorem dX0_init_0 : decode cX0_init 0 = .ok (.aload_n 0, 1) := by decide +kernel
theorem dX0_init_1 : decode cX0_init 1 = .ok (.invokespecial 3, 3) := by decide +kernel
theorem dX0_init_4 : decode cX0_init 4 = .ok (.aload_n 0, 1) := by decide +kernel
theorem dX0_init_5 : decode cX0_init 5 = .ok (.iconst 0, 1) := by decide +kernel
theorem dX0_init_6 : decode cX0_init 6 = .ok (.putfield 9, 3) := by decide +kernel
theorem dX0_init_9 : decode cX0_init 9 = .ok (.aload_n 0, 1) := by decide +kernel
theorem dX0_init_10 : decode cX0_init 10 = .ok (.iconst 0, 1) := by decide +kernel
theorem dX0_init_11 : decode cX0_init 11 = .ok (.putfield 15, 3) := by decide +kernel
theorem dX0_init_14 : decode cX0_init 14 = .ok (.aload_n 0, 1) := by decide +kernel
theorem dX0_init_15 : decode cX0_init 15 = .ok (.bipush 30, 2) := by decide +kernel
theorem dX0_init_17 : decode cX0_init 17 = .ok (.newarray .int, 2) := by decide +kernel
theorem dX0_init_19 : decode cX0_init 19 = .ok (.putfield 18, 3) := by decide +kernel
theorem dX0_init_22 : decode cX0_init 22 = .ok (.aload_n 0, 1) := by decide +kernel
theorem dX0_init_23 : decode cX0_init 23 = .ok (.bipush 30, 2) := by decide +kernel
theorem dX0_init_25 : decode cX0_init 25 = .ok (.newarray .int, 2) := by decide +kernel
theorem dX0_init_27 : decode cX0_init 27 = .ok (.putfield 22, 3) := by decide +kernel
theorem dX0_init_30 : decode cX0_init 30 = .ok (.aload_n 0, 1) := by decide +kernel
theorem dX0_init_31 : decode cX0_init 31 = .ok (.iconst 0, 1) := by decide +kernel
theorem dX0_init_32 : decode cX0_init 32 = .ok (.putfield 25, 3) := by decide +kernel
theorem dX0_init_35 : decode cX0_init 35 = .ok (.aload_n 0, 1) := by decide +kernel
theorem dX0_init_36 : decode cX0_init 36 = .ok (.iconst 4, 1) := by decide +kernel
theorem dX0_init_37 : decode cX0_init 37 = .ok (.newarray .int, 2) := by decide +kernel
theorem dX0_init_39 : decode cX0_init 39 = .ok (.putfield 28, 3) := by decide +kernel
theorem dX0_init_42 : decode cX0_init 42 = .ok (.aload_n 0, 1) := by decide +kernel
theorem dX0_init_43 : decode cX0_init 43 = .ok (.iconst 4, 1) := by decide +kernel
theorem dX0_init_44 : decode cX0_init 44 = .ok (.newarray .int, 2) := by decide +kernel
theorem dX0_init_46 : decode cX0_init 46 = .ok (.putfield 31, 3) := by decide +kernel
theorem dX0_init_49 : decode cX0_init 49 = .ok (.aload_n 0, 1) := by decide +kernel
theorem dX0_init_50 : decode cX0_init 50 = .ok (.iconst 4, 1) := by decide +kernel
theorem dX0_init_51 : decode cX0_init 51 = .ok (.newarray .int, 2) := by decide +kernel
theorem dX0_init_53 : decode cX0_init 53 = .ok (.putfield 34, 3) := by decide +kernel
theorem dX0_init_56 : decode cX0_init 56 = .ok (.aload_n 0, 1) := by decide +kernel
theorem dX0_init_57 : decode cX0_init 57 = .ok (.iconst 2, 1) := by decide +kernel
theorem dX0_init_58 : decode cX0_init 58 = .ok (.putfield 37, 3) := by decide +kernel
theorem dX0_init_61 : decode cX0_init 61 = .ok (.aload_n 0, 1) := by decide +kernel
theorem dX0_init_62 : decode cX0_init 62 = .ok (.iconst 3, 1) := by decide +kernel
theorem dX0_init_63 : decode cX0_init 63 = .ok (.putfield 40, 3) := by decide +kernel
theorem dX0_init_66 : decode cX0_init 66 = .ok (.aload_n 0, 1) := by decide +kernel
theorem dX0_init_67 : decode cX0_init 67 = .ok (.bipush 9, 2) := by decide +kernel
theorem dX0_init_69 : decode cX0_init 69 = .ok (.putfield 43, 3) := by decide +kernel
theorem dX0_init_72 : decode cX0_init 72 = .ok (.return_, 1) := by decide +kernel
theorem dX0_startAnew_0 : decode cX0_startAnew 0 = .ok (.aload_n 0, 1) := by decide +kernel
theorem dX0_startAnew_1 : decode cX0_startAnew 1 = .ok (.iconst 0, 1) := by decide +kernel
theorem dX0_startAnew_2 : decode cX0_startAnew 2 = .ok (.putfield 9, 3) := by decide +kernel
theorem dX0_startAnew_5 : decode cX0_startAnew 5 = .ok (.aload_n 0, 1) := by decide +kernel
theorem dX0_startAnew_6 : decode cX0_startAnew 6 = .ok (.iconst 0, 1) := by decide +kernel
theorem dX0_startAnew_7 : decode cX0_startAnew 7 = .ok (.putfield 15, 3) := by decide +kernel
theorem dX0_startAnew_10 : decode cX0_startAnew 10 = .ok (.aload_n 0, 1) := by decide +kernel
theorem dX0_startAnew_11 : decode cX0_startAnew 11 = .ok (.iconst 0, 1) := by decide +kernel
theorem dX0_startAnew_12 : decode cX0_startAnew 12 = .ok (.putfield 25, 3) := by decide +kernel
theorem dX0_startAnew_15 : decode cX0_startAnew 15 = .ok (.aload_n 0, 1) := by decide +kernel
theorem dX0_startAnew_16 : decode cX0_startAnew 16 = .ok (.iconst 2, 1) := by decide +kernel
theorem dX0_startAnew_17 : decode cX0_startAnew 17 = .ok (.putfield 37, 3) := by decide +kernel
theorem dX0_startAnew_20 : decode cX0_startAnew 20 = .ok (.aload_n 0, 1) := by decide +kernel
theorem dX0_startAnew_21 : decode cX0_startAnew 21 = .ok (.iconst 3, 1) := by decide +kernel
theorem dX0_startAnew_22 : decode cX0_startAnew 22 = .ok (.putfield 40, 3) := by decide +kernel
theorem dX0_startAnew_25 : decode cX0_startAnew 25 = .ok (.aload_n 0, 1) := by decide +kernel
theorem dX0_startAnew_26 : decode cX0_startAnew 26 = .ok (.bipush 9, 2) := by decide +kernel
theorem dX0_startAnew_28 : decode cX0_startAnew 28 = .ok (.putfield 43, 3) := by decide +kernel
theorem dX0_startAnew_31 : decode cX0_startAnew 31 = .ok (.return_, 1) := by decide +kernel
theorem dX0_addSeason_0 : decode cX0_addSeason 0 = .ok (.iconst 0, 1) := by decide +kernel
theorem dX0_addSeason_1 : decode cX0_addSeason 1 = .ok (.istore_n 3, 1) := by decide +kernel
theorem dX0_addSeason_2 : decode cX0_addSeason 2 = .ok (.iload_n 3, 1) := by decide +kernel
theorem dX0_addSeason_3 : decode cX0_addSeason 3 = .ok (.iload_n 1, 1) := by decide +kernel
theorem dX0_addSeason_4 : decode cX0_addSeason 4 = .ok (.if_icmp .ge 51, 3) := by decide +kernel
theorem dX0_addSeason_7 : decode cX0_addSeason 7 = .ok (.aload_n 0, 1) := by decide +kernel
theorem dX0_addSeason_8 : decode cX0_addSeason 8 = .ok (.getfield 15, 3) := by decide +kernel
theorem dX0_addSeason_11 : decode cX0_addSeason 11 = .ok (.bipush 30, 2) := by decide +kernel
theorem dX0_addSeason_13 : decode cX0_addSeason 13 = .ok (.if_icmp .ge 42, 3) := by decide +kernel
theorem dX0_addSeason_16 : decode cX0_addSeason 16 = .ok (.aload_n 0, 1) := by decide +kernel
theorem dX0_addSeason_17 : decode cX0_addSeason 17 = .ok (.getfield 18, 3) := by decide +kernel
theorem dX0_addSeason_20 : decode cX0_addSeason 20 = .ok (.aload_n 0, 1) := by decide +kernel
theorem dX0_addSeason_21 : decode cX0_addSeason 21 = .ok (.getfield 15, 3) := by decide +kernel
theorem dX0_addSeason_24 : decode cX0_addSeason 24 = .ok (.aload_n 0, 1) := by decide +kernel
theorem dX0_addSeason_25 : decode cX0_addSeason 25 = .ok (.getfield 9, 3) := by decide +kernel
theorem dX0_addSeason_28 : decode cX0_addSeason 28 = .ok (.iastore, 1) := by decide +kernel
theorem dX0_addSeason_29 : decode cX0_addSeason 29 = .ok (.aload_n 0, 1) := by decide +kernel
theorem dX0_addSeason_30 : decode cX0_addSeason 30 = .ok (.getfield 22, 3) := by decide +kernel
theorem dX0_addSeason_33 : decode cX0_addSeason 33 = .ok (.aload_n 0, 1) := by decide +kernel
theorem dX0_addSeason_34 : decode cX0_addSeason 34 = .ok (.getfield 15, 3) := by decide +kernel
theorem dX0_addSeason_37 : decode cX0_addSeason 37 = .ok (.iload_n 2, 1) := by decide +kernel
theorem dX0_addSeason_38 : decode cX0_addSeason 38 = .ok (.iastore, 1) := by decide +kernel
theorem dX0_addSeason_39 : decode cX0_addSeason 39 = .ok (.aload_n 0, 1) := by decide +kernel
theorem dX0_addSeason_40 : decode cX0_addSeason 40 = .ok (.dup, 1) := by decide +kernel
theorem dX0_addSeason_41 : decode cX0_addSeason 41 = .ok (.getfield 15, 3) := by decide +kernel
theorem dX0_addSeason_44 : decode cX0_addSeason 44 = .ok (.iconst 1, 1) := by decide +kernel
theorem dX0_addSeason_45 : decode cX0_addSeason 45 = .ok (.iadd, 1) := by decide +kernel
theorem dX0_addSeason_46 : decode cX0_addSeason 46 = .ok (.putfield 15, 3) := by decide +kernel
theorem dX0_addSeason_49 : decode cX0_addSeason 49 = .ok (.iinc 3 1, 3) := by decide +kernel
theorem dX0_addSeason_52 : decode cX0_addSeason 52 = .ok (.goto (-50), 3) := by decide +kernel
theorem dX0_addSeason_55 : decode cX0_addSeason 55 = .ok (.aload_n 0, 1) := by decide +kernel
theorem dX0_addSeason_56 : decode cX0_addSeason 56 = .ok (.dup, 1) := by decide +kernel
theorem dX0_addSeason_57 : decode cX0_addSeason 57 = .ok (.getfield 9, 3) := by decide +kernel
theorem dX0_addSeason_60 : decode cX0_addSeason 60 = .ok (.iconst 1, 1) := by decide +kernel
theorem dX0_addSeason_61 : decode cX0_addSeason 61 = .ok (.iadd, 1) := by decide +kernel
theorem dX0_addSeason_62 : decode cX0_addSeason 62 = .ok (.putfield 9, 3) := by decide +kernel
theorem dX0_addSeason_65 : decode cX0_addSeason 65 = .ok (.return_, 1) := by decide +kernel
theorem dX0_addCrop_0 : decode cX0_addCrop 0 = .ok (.aload_n 0, 1) := by decide +kernel
theorem dX0_addCrop_1 : decode cX0_addCrop 1 = .ok (.getfield 25, 3) := by decide +kernel
theorem dX0_addCrop_4 : decode cX0_addCrop 4 = .ok (.iconst 4, 1) := by decide +kernel
theorem dX0_addCrop_5 : decode cX0_addCrop 5 = .ok (.if_icmp .ge 43, 3) := by decide +kernel
theorem dX0_addCrop_8 : decode cX0_addCrop 8 = .ok (.aload_n 0, 1) := by decide +kernel
theorem dX0_addCrop_9 : decode cX0_addCrop 9 = .ok (.getfield 28, 3) := by decide +kernel
theorem dX0_addCrop_12 : decode cX0_addCrop 12 = .ok (.aload_n 0, 1) := by decide +kernel
theorem dX0_addCrop_13 : decode cX0_addCrop 13 = .ok (.getfield 25, 3) := by decide +kernel
theorem dX0_addCrop_16 : decode cX0_addCrop 16 = .ok (.iload_n 1, 1) := by decide +kernel
theorem dX0_addCrop_17 : decode cX0_addCrop 17 = .ok (.iastore, 1) := by decide +kernel
theorem dX0_addCrop_18 : decode cX0_addCrop 18 = .ok (.aload_n 0, 1) := by decide +kernel
theorem dX0_addCrop_19 : decode cX0_addCrop 19 = .ok (.getfield 31, 3) := by decide +kernel
theorem dX0_addCrop_22 : decode cX0_addCrop 22 = .ok (.aload_n 0, 1) := by decide +kernel
theorem dX0_addCrop_23 : decode cX0_addCrop 23 = .ok (.getfield 25, 3) := by decide +kernel
theorem dX0_addCrop_26 : decode cX0_addCrop 26 = .ok (.iload_n 2, 1) := by decide +kernel
theorem dX0_addCrop_27 : decode cX0_addCrop 27 = .ok (.iastore, 1) := by decide +kernel
theorem dX0_addCrop_28 : decode cX0_addCrop 28 = .ok (.aload_n 0, 1) := by decide +kernel
theorem dX0_addCrop_29 : decode cX0_addCrop 29 = .ok (.getfield 34, 3) := by decide +kernel
theorem dX0_addCrop_32 : decode cX0_addCrop 32 = .ok (.aload_n 0, 1) := by decide +kernel
theorem dX0_addCrop_33 : decode cX0_addCrop 33 = .ok (.getfield 25, 3) := by decide +kernel
theorem dX0_addCrop_36 : decode cX0_addCrop 36 = .ok (.iload_n 3, 1) := by decide +kernel
theorem dX0_addCrop_37 : decode cX0_addCrop 37 = .ok (.iastore, 1) := by decide +kernel
theorem dX0_addCrop_38 : decode cX0_addCrop 38 = .ok (.aload_n 0, 1) := by decide +kernel
theorem dX0_addCrop_39 : decode cX0_addCrop 39 = .ok (.dup, 1) := by decide +kernel
theorem dX0_addCrop_40 : decode cX0_addCrop 40 = .ok (.getfield 25, 3) := by decide +kernel
theorem dX0_addCrop_43 : decode cX0_addCrop 43 = .ok (.iconst 1, 1) := by decide +kernel
theorem dX0_addCrop_44 : decode cX0_addCrop 44 = .ok (.iadd, 1) := by decide +kernel
theorem dX0_addCrop_45 : decode cX0_addCrop 45 = .ok (.putfield 25, 3) := by decide +kernel
theorem dX0_addCrop_48 : decode cX0_addCrop 48 = .ok (.return_, 1) := by decide +kernel
theorem dX0_allDays_0 : decode cX0_allDays 0 = .ok (.iconst 0, 1) := by decide +kernel
theorem dX0_allDays_1 : decode cX0_allDays 1 = .ok (.aload_n 0, 1) := by decide +kernel
theorem dX0_allDays_2 : decode cX0_allDays 2 = .ok (.getfield 15, 3) := by decide +kernel
theorem dX0_allDays_5 : decode cX0_allDays 5 = .ok (.invokestatic 46, 3) := by decide +kernel
theorem dX0_allDays_8 : decode cX0_allDays 8 = .ok (.ireturn, 1) := by decide +kernel
theorem dX0_lentFor_0 : decode cX0_lentFor 0 = .ok (.iconst 0, 1) := by decide +kernel
theorem dX0_lentFor_1 : decode cX0_lentFor 1 = .ok (.istore_n 3, 1) := by decide +kernel
theorem dX0_lentFor_2 : decode cX0_lentFor 2 = .ok (.iload_n 1, 1) := by decide +kernel
theorem dX0_lentFor_3 : decode cX0_lentFor 3 = .ok (.istore 4, 2) := by decide +kernel
theorem dX0_lentFor_5 : decode cX0_lentFor 5 = .ok (.iload 4, 2) := by decide +kernel
theorem dX0_lentFor_7 : decode cX0_lentFor 7 = .ok (.iload_n 1, 1) := by decide +kernel
theorem dX0_lentFor_8 : decode cX0_lentFor 8 = .ok (.iload_n 2, 1) := by decide +kernel
theorem dX0_lentFor_9 : decode cX0_lentFor 9 = .ok (.iadd, 1) := by decide +kernel
theorem dX0_lentFor_10 : decode cX0_lentFor 10 = .ok (.if_icmp .ge 28, 3) := by decide +kernel
theorem dX0_lentFor_13 : decode cX0_lentFor 13 = .ok (.iload 4, 2) := by decide +kernel
theorem dX0_lentFor_15 : decode cX0_lentFor 15 = .ok (.aload_n 0, 1) := by decide +kernel
theorem dX0_lentFor_16 : decode cX0_lentFor 16 = .ok (.getfield 15, 3) := by decide +kernel
theorem dX0_lentFor_19 : decode cX0_lentFor 19 = .ok (.if_icmp .ge 19, 3) := by decide +kernel
theorem dX0_lentFor_22 : decode cX0_lentFor 22 = .ok (.iload_n 3, 1) := by decide +kernel
theorem dX0_lentFor_23 : decode cX0_lentFor 23 = .ok (.aload_n 0, 1) := by decide +kernel
theorem dX0_lentFor_24 : decode cX0_lentFor 24 = .ok (.getfield 22, 3) := by decide +kernel
theorem dX0_lentFor_27 : decode cX0_lentFor 27 = .ok (.iload 4, 2) := by decide +kernel
theorem dX0_lentFor_29 : decode cX0_lentFor 29 = .ok (.iaload, 1) := by decide +kernel
theorem dX0_lentFor_30 : decode cX0_lentFor 30 = .ok (.iadd, 1) := by decide +kernel
theorem dX0_lentFor_31 : decode cX0_lentFor 31 = .ok (.istore_n 3, 1) := by decide +kernel
theorem dX0_lentFor_32 : decode cX0_lentFor 32 = .ok (.iinc 4 1, 3) := by decide +kernel
theorem dX0_lentFor_35 : decode cX0_lentFor 35 = .ok (.goto (-30), 3) := by decide +kernel
theorem dX0_lentFor_38 : decode cX0_lentFor 38 = .ok (.iload_n 3, 1) := by decide +kernel
theorem dX0_lentFor_39 : decode cX0_lentFor 39 = .ok (.aload_n 0, 1) := by decide +kernel
theorem dX0_lentFor_40 : decode cX0_lentFor 40 = .ok (.getfield 37, 3) := by decide +kernel
theorem dX0_lentFor_43 : decode cX0_lentFor 43 = .ok (.imul, 1) := by decide +kernel
theorem dX0_lentFor_44 : decode cX0_lentFor 44 = .ok (.ireturn, 1) := by decide +kernel
theorem dX0_ripensOn_0 : decode cX0_ripensOn 0 = .ok (.aload_n 0, 1) := by decide +kernel
theorem dX0_ripensOn_1 : decode cX0_ripensOn 1 = .ok (.getfield 28, 3) := by decide +kernel
theorem dX0_ripensOn_4 : decode cX0_ripensOn 4 = .ok (.iload_n 1, 1) := by decide +kernel
theorem dX0_ripensOn_5 : decode cX0_ripensOn 5 = .ok (.iaload, 1) := by decide +kernel
theorem dX0_ripensOn_6 : decode cX0_ripensOn 6 = .ok (.istore_n 3, 1) := by decide +kernel
theorem dX0_ripensOn_7 : decode cX0_ripensOn 7 = .ok (.aload_n 0, 1) := by decide +kernel
theorem dX0_ripensOn_8 : decode cX0_ripensOn 8 = .ok (.getfield 31, 3) := by decide +kernel
theorem dX0_ripensOn_11 : decode cX0_ripensOn 11 = .ok (.iload_n 1, 1) := by decide +kernel
theorem dX0_ripensOn_12 : decode cX0_ripensOn 12 = .ok (.iaload, 1) := by decide +kernel
theorem dX0_ripensOn_13 : decode cX0_ripensOn 13 = .ok (.istore 4, 2) := by decide +kernel
theorem dX0_ripensOn_15 : decode cX0_ripensOn 15 = .ok (.iconst 0, 1) := by decide +kernel
theorem dX0_ripensOn_16 : decode cX0_ripensOn 16 = .ok (.istore 5, 2) := by decide +kernel
theorem dX0_ripensOn_18 : decode cX0_ripensOn 18 = .ok (.iconst 0, 1) := by decide +kernel
theorem dX0_ripensOn_19 : decode cX0_ripensOn 19 = .ok (.istore 6, 2) := by decide +kernel
theorem dX0_ripensOn_21 : decode cX0_ripensOn 21 = .ok (.iload 6, 2) := by decide +kernel
theorem dX0_ripensOn_23 : decode cX0_ripensOn 23 = .ok (.aload_n 0, 1) := by decide +kernel
theorem dX0_ripensOn_24 : decode cX0_ripensOn 24 = .ok (.getfield 15, 3) := by decide +kernel
theorem dX0_ripensOn_27 : decode cX0_ripensOn 27 = .ok (.if_icmp .ge 49, 3) := by decide +kernel
theorem dX0_ripensOn_30 : decode cX0_ripensOn 30 = .ok (.iload_n 2, 1) := by decide +kernel
theorem dX0_ripensOn_31 : decode cX0_ripensOn 31 = .ok (.iload 6, 2) := by decide +kernel
theorem dX0_ripensOn_33 : decode cX0_ripensOn 33 = .ok (.invokestatic 50, 3) := by decide +kernel
theorem dX0_ripensOn_36 : decode cX0_ripensOn 36 = .ok (.ifCond .eq 34, 3) := by decide +kernel
theorem dX0_ripensOn_39 : decode cX0_ripensOn 39 = .ok (.aload_n 0, 1) := by decide +kernel
theorem dX0_ripensOn_40 : decode cX0_ripensOn 40 = .ok (.getfield 22, 3) := by decide +kernel
theorem dX0_ripensOn_43 : decode cX0_ripensOn 43 = .ok (.iload 6, 2) := by decide +kernel
theorem dX0_ripensOn_45 : decode cX0_ripensOn 45 = .ok (.iaload, 1) := by decide +kernel
theorem dX0_ripensOn_46 : decode cX0_ripensOn 46 = .ok (.iload 4, 2) := by decide +kernel
theorem dX0_ripensOn_48 : decode cX0_ripensOn 48 = .ok (.if_icmp .lt 10, 3) := by decide +kernel
theorem dX0_ripensOn_51 : decode cX0_ripensOn 51 = .ok (.iload 5, 2) := by decide +kernel
theorem dX0_ripensOn_53 : decode cX0_ripensOn 53 = .ok (.iconst 1, 1) := by decide +kernel
theorem dX0_ripensOn_54 : decode cX0_ripensOn 54 = .ok (.iadd, 1) := by decide +kernel
theorem dX0_ripensOn_55 : decode cX0_ripensOn 55 = .ok (.goto 4, 3) := by decide +kernel
theorem dX0_ripensOn_58 : decode cX0_ripensOn 58 = .ok (.iconst 0, 1) := by decide +kernel
theorem dX0_ripensOn_59 : decode cX0_ripensOn 59 = .ok (.istore 5, 2) := by decide +kernel
theorem dX0_ripensOn_61 : decode cX0_ripensOn 61 = .ok (.iload 5, 2) := by decide +kernel
theorem dX0_ripensOn_63 : decode cX0_ripensOn 63 = .ok (.iload_n 3, 1) := by decide +kernel
theorem dX0_ripensOn_64 : decode cX0_ripensOn 64 = .ok (.if_icmp .lt 6, 3) := by decide +kernel
theorem dX0_ripensOn_67 : decode cX0_ripensOn 67 = .ok (.iload 6, 2) := by decide +kernel
theorem dX0_ripensOn_69 : decode cX0_ripensOn 69 = .ok (.ireturn, 1) := by decide +kernel
theorem dX0_ripensOn_70 : decode cX0_ripensOn 70 = .ok (.iinc 6 1, 3) := by decide +kernel
theorem dX0_ripensOn_73 : decode cX0_ripensOn 73 = .ok (.goto (-52), 3) := by decide +kernel
theorem dX0_ripensOn_76 : decode cX0_ripensOn 76 = .ok (.bipush (-9), 2) := by decide +kernel
theorem dX0_ripensOn_78 : decode cX0_ripensOn 78 = .ok (.ireturn, 1) := by decide +kernel
theorem dX0_ripening_0 : decode cX0_ripening 0 = .ok (.iconst 0, 1) := by decide +kernel
theorem dX0_ripening_1 : decode cX0_ripening 1 = .ok (.istore_n 2, 1) := by decide +kernel
theorem dX0_ripening_2 : decode cX0_ripening 2 = .ok (.iconst 0, 1) := by decide +kernel
theorem dX0_ripening_3 : decode cX0_ripening 3 = .ok (.istore_n 3, 1) := by decide +kernel
theorem dX0_ripening_4 : decode cX0_ripening 4 = .ok (.iload_n 3, 1) := by decide +kernel
theorem dX0_ripening_5 : decode cX0_ripening 5 = .ok (.aload_n 0, 1) := by decide +kernel
theorem dX0_ripening_6 : decode cX0_ripening 6 = .ok (.getfield 25, 3) := by decide +kernel
theorem dX0_ripening_9 : decode cX0_ripening 9 = .ok (.if_icmp .ge 26, 3) := by decide +kernel
theorem dX0_ripening_12 : decode cX0_ripening 12 = .ok (.aload_n 0, 1) := by decide +kernel
theorem dX0_ripening_13 : decode cX0_ripening 13 = .ok (.iload_n 3, 1) := by decide +kernel
theorem dX0_ripening_14 : decode cX0_ripening 14 = .ok (.iload_n 1, 1) := by decide +kernel
theorem dX0_ripening_15 : decode cX0_ripening 15 = .ok (.invokevirtual 54, 3) := by decide +kernel
theorem dX0_ripening_18 : decode cX0_ripening 18 = .ok (.bipush (-9), 2) := by decide +kernel
theorem dX0_ripening_20 : decode cX0_ripening 20 = .ok (.if_icmp .eq 9, 3) := by decide +kernel
theorem dX0_ripening_23 : decode cX0_ripening 23 = .ok (.iload_n 2, 1) := by decide +kernel
theorem dX0_ripening_24 : decode cX0_ripening 24 = .ok (.iconst 1, 1) := by decide +kernel
theorem dX0_ripening_25 : decode cX0_ripening 25 = .ok (.iload_n 3, 1) := by decide +kernel
theorem dX0_ripening_26 : decode cX0_ripening 26 = .ok (.ishl, 1) := by decide +kernel
theorem dX0_ripening_27 : decode cX0_ripening 27 = .ok (.ior, 1) := by decide +kernel
theorem dX0_ripening_28 : decode cX0_ripening 28 = .ok (.istore_n 2, 1) := by decide +kernel
theorem dX0_ripening_29 : decode cX0_ripening 29 = .ok (.iinc 3 1, 3) := by decide +kernel
theorem dX0_ripening_32 : decode cX0_ripening 32 = .ok (.goto (-28), 3) := by decide +kernel
theorem dX0_ripening_35 : decode cX0_ripening 35 = .ok (.iload_n 2, 1) := by decide +kernel
theorem dX0_ripening_36 : decode cX0_ripening 36 = .ok (.ireturn, 1) := by decide +kernel
theorem dX0_worthOf_0 : decode cX0_worthOf 0 = .ok (.iconst 0, 1) := by decide +kernel
theorem dX0_worthOf_1 : decode cX0_worthOf 1 = .ok (.istore_n 2, 1) := by decide +kernel
theorem dX0_worthOf_2 : decode cX0_worthOf 2 = .ok (.iconst 0, 1) := by decide +kernel
theorem dX0_worthOf_3 : decode cX0_worthOf 3 = .ok (.istore_n 3, 1) := by decide +kernel
theorem dX0_worthOf_4 : decode cX0_worthOf 4 = .ok (.iload_n 3, 1) := by decide +kernel
theorem dX0_worthOf_5 : decode cX0_worthOf 5 = .ok (.aload_n 0, 1) := by decide +kernel
theorem dX0_worthOf_6 : decode cX0_worthOf 6 = .ok (.getfield 25, 3) := by decide +kernel
theorem dX0_worthOf_9 : decode cX0_worthOf 9 = .ok (.if_icmp .ge 26, 3) := by decide +kernel
theorem dX0_worthOf_12 : decode cX0_worthOf 12 = .ok (.iload_n 1, 1) := by decide +kernel
theorem dX0_worthOf_13 : decode cX0_worthOf 13 = .ok (.iload_n 3, 1) := by decide +kernel
theorem dX0_worthOf_14 : decode cX0_worthOf 14 = .ok (.invokestatic 50, 3) := by decide +kernel
theorem dX0_worthOf_17 : decode cX0_worthOf 17 = .ok (.ifCond .eq 12, 3) := by decide +kernel
theorem dX0_worthOf_20 : decode cX0_worthOf 20 = .ok (.iload_n 2, 1) := by decide +kernel
theorem dX0_worthOf_21 : decode cX0_worthOf 21 = .ok (.aload_n 0, 1) := by decide +kernel
theorem dX0_worthOf_22 : decode cX0_worthOf 22 = .ok (.getfield 34, 3) := by decide +kernel
theorem dX0_worthOf_25 : decode cX0_worthOf 25 = .ok (.iload_n 3, 1) := by decide +kernel
theorem dX0_worthOf_26 : decode cX0_worthOf 26 = .ok (.iaload, 1) := by decide +kernel
theorem dX0_worthOf_27 : decode cX0_worthOf 27 = .ok (.iadd, 1) := by decide +kernel
theorem dX0_worthOf_28 : decode cX0_worthOf 28 = .ok (.istore_n 2, 1) := by decide +kernel
theorem dX0_worthOf_29 : decode cX0_worthOf 29 = .ok (.iinc 3 1, 3) := by decide +kernel
theorem dX0_worthOf_32 : decode cX0_worthOf 32 = .ok (.goto (-28), 3) := by decide +kernel
theorem dX0_worthOf_35 : decode cX0_worthOf 35 = .ok (.iload_n 2, 1) := by decide +kernel
theorem dX0_worthOf_36 : decode cX0_worthOf 36 = .ok (.ireturn, 1) := by decide +kernel
theorem dX0_harvest_0 : decode cX0_harvest 0 = .ok (.aload_n 0, 1) := by decide +kernel
theorem dX0_harvest_1 : decode cX0_harvest 1 = .ok (.aload_n 0, 1) := by decide +kernel
theorem dX0_harvest_2 : decode cX0_harvest 2 = .ok (.iload_n 1, 1) := by decide +kernel
theorem dX0_harvest_3 : decode cX0_harvest 3 = .ok (.invokevirtual 57, 3) := by decide +kernel
theorem dX0_harvest_6 : decode cX0_harvest 6 = .ok (.invokevirtual 61, 3) := by decide +kernel
theorem dX0_harvest_9 : decode cX0_harvest 9 = .ok (.ireturn, 1) := by decide +kernel
theorem dX0_gap_0 : decode cX0_gap 0 = .ok (.iconst 0, 1) := by decide +kernel
theorem dX0_gap_1 : decode cX0_gap 1 = .ok (.istore_n 2, 1) := by decide +kernel
theorem dX0_gap_2 : decode cX0_gap 2 = .ok (.iconst 0, 1) := by decide +kernel
theorem dX0_gap_3 : decode cX0_gap 3 = .ok (.istore_n 3, 1) := by decide +kernel
theorem dX0_gap_4 : decode cX0_gap 4 = .ok (.iconst 0, 1) := by decide +kernel
theorem dX0_gap_5 : decode cX0_gap 5 = .ok (.istore 4, 2) := by decide +kernel
theorem dX0_gap_7 : decode cX0_gap 7 = .ok (.iload 4, 2) := by decide +kernel
theorem dX0_gap_9 : decode cX0_gap 9 = .ok (.aload_n 0, 1) := by decide +kernel
theorem dX0_gap_10 : decode cX0_gap 10 = .ok (.getfield 15, 3) := by decide +kernel
theorem dX0_gap_13 : decode cX0_gap 13 = .ok (.if_icmp .ge 32, 3) := by decide +kernel
theorem dX0_gap_16 : decode cX0_gap 16 = .ok (.iload_n 1, 1) := by decide +kernel
theorem dX0_gap_17 : decode cX0_gap 17 = .ok (.iload 4, 2) := by decide +kernel
theorem dX0_gap_19 : decode cX0_gap 19 = .ok (.invokestatic 50, 3) := by decide +kernel
theorem dX0_gap_22 : decode cX0_gap 22 = .ok (.ifCond .eq 7, 3) := by decide +kernel
theorem dX0_gap_25 : decode cX0_gap 25 = .ok (.iconst 0, 1) := by decide +kernel
theorem dX0_gap_26 : decode cX0_gap 26 = .ok (.goto 6, 3) := by decide +kernel
theorem dX0_gap_29 : decode cX0_gap 29 = .ok (.iload_n 3, 1) := by decide +kernel
theorem dX0_gap_30 : decode cX0_gap 30 = .ok (.iconst 1, 1) := by decide +kernel
theorem dX0_gap_31 : decode cX0_gap 31 = .ok (.iadd, 1) := by decide +kernel
theorem dX0_gap_32 : decode cX0_gap 32 = .ok (.istore_n 3, 1) := by decide +kernel
theorem dX0_gap_33 : decode cX0_gap 33 = .ok (.iload_n 2, 1) := by decide +kernel
theorem dX0_gap_34 : decode cX0_gap 34 = .ok (.iload_n 3, 1) := by decide +kernel
theorem dX0_gap_35 : decode cX0_gap 35 = .ok (.invokestatic 64, 3) := by decide +kernel
theorem dX0_gap_38 : decode cX0_gap 38 = .ok (.istore_n 2, 1) := by decide +kernel
theorem dX0_gap_39 : decode cX0_gap 39 = .ok (.iinc 4 1, 3) := by decide +kernel
theorem dX0_gap_42 : decode cX0_gap 42 = .ok (.goto (-35), 3) := by decide +kernel
theorem dX0_gap_45 : decode cX0_gap 45 = .ok (.iload_n 2, 1) := by decide +kernel
theorem dX0_gap_46 : decode cX0_gap 46 = .ok (.ireturn, 1) := by decide +kernel
theorem dX1_init_0 : decode cX1_init 0 = .ok (.aload_n 0, 1) := by decide +kernel
theorem dX1_init_1 : decode cX1_init 1 = .ok (.invokespecial 3, 3) := by decide +kernel
theorem dX1_init_4 : decode cX1_init 4 = .ok (.aload_n 0, 1) := by decide +kernel
theorem dX1_init_5 : decode cX1_init 5 = .ok (.new 9, 3) := by decide +kernel
theorem dX1_init_8 : decode cX1_init 8 = .ok (.dup, 1) := by decide +kernel
theorem dX1_init_9 : decode cX1_init 9 = .ok (.invokespecial 11, 3) := by decide +kernel
theorem dX1_init_12 : decode cX1_init 12 = .ok (.putfield 12, 3) := by decide +kernel
theorem dX1_init_15 : decode cX1_init 15 = .ok (.aload_n 0, 1) := by decide +kernel
theorem dX1_init_16 : decode cX1_init 16 = .ok (.new 18, 3) := by decide +kernel
theorem dX1_init_19 : decode cX1_init 19 = .ok (.dup, 1) := by decide +kernel
theorem dX1_init_20 : decode cX1_init 20 = .ok (.invokespecial 20, 3) := by decide +kernel
theorem dX1_init_23 : decode cX1_init 23 = .ok (.putfield 21, 3) := by decide +kernel
theorem dX1_init_26 : decode cX1_init 26 = .ok (.aload_n 0, 1) := by decide +kernel
theorem dX1_init_27 : decode cX1_init 27 = .ok (.bipush (-9), 2) := by decide +kernel
theorem dX1_init_29 : decode cX1_init 29 = .ok (.putfield 25, 3) := by decide +kernel
theorem dX1_init_32 : decode cX1_init 32 = .ok (.aload_n 0, 1) := by decide +kernel
theorem dX1_init_33 : decode cX1_init 33 = .ok (.iconst 0, 1) := by decide +kernel
theorem dX1_init_34 : decode cX1_init 34 = .ok (.putfield 29, 3) := by decide +kernel
theorem dX1_init_37 : decode cX1_init 37 = .ok (.aload_n 0, 1) := by decide +kernel
theorem dX1_init_38 : decode cX1_init 38 = .ok (.iconst 0, 1) := by decide +kernel
theorem dX1_init_39 : decode cX1_init 39 = .ok (.putfield 33, 3) := by decide +kernel
theorem dX1_init_42 : decode cX1_init 42 = .ok (.aload_n 0, 1) := by decide +kernel
theorem dX1_init_43 : decode cX1_init 43 = .ok (.iconst 0, 1) := by decide +kernel
theorem dX1_init_44 : decode cX1_init 44 = .ok (.putfield 36, 3) := by decide +kernel
theorem dX1_init_47 : decode cX1_init 47 = .ok (.return_, 1) := by decide +kernel
theorem dX1_readItems_0 : decode cX1_readItems 0 = .ok (.aload_n 0, 1) := by decide +kernel
theorem dX1_readItems_1 : decode cX1_readItems 1 = .ok (.bipush (-9), 2) := by decide +kernel
theorem dX1_readItems_3 : decode cX1_readItems 3 = .ok (.putfield 25, 3) := by decide +kernel
theorem dX1_readItems_6 : decode cX1_readItems 6 = .ok (.aload_n 0, 1) := by decide +kernel
theorem dX1_readItems_7 : decode cX1_readItems 7 = .ok (.iconst 0, 1) := by decide +kernel
theorem dX1_readItems_8 : decode cX1_readItems 8 = .ok (.putfield 29, 3) := by decide +kernel
theorem dX1_readItems_11 : decode cX1_readItems 11 = .ok (.aload_n 0, 1) := by decide +kernel
theorem dX1_readItems_12 : decode cX1_readItems 12 = .ok (.iconst 0, 1) := by decide +kernel
theorem dX1_readItems_13 : decode cX1_readItems 13 = .ok (.putfield 33, 3) := by decide +kernel
theorem dX1_readItems_16 : decode cX1_readItems 16 = .ok (.aload_n 0, 1) := by decide +kernel
theorem dX1_readItems_17 : decode cX1_readItems 17 = .ok (.iconst 0, 1) := by decide +kernel
theorem dX1_readItems_18 : decode cX1_readItems 18 = .ok (.putfield 36, 3) := by decide +kernel
theorem dX1_readItems_21 : decode cX1_readItems 21 = .ok (.aload_n 0, 1) := by decide +kernel
theorem dX1_readItems_22 : decode cX1_readItems 22 = .ok (.getfield 21, 3) := by decide +kernel
theorem dX1_readItems_25 : decode cX1_readItems 25 = .ok (.invokevirtual 39, 3) := by decide +kernel
theorem dX1_readItems_28 : decode cX1_readItems 28 = .ok (.aload_n 0, 1) := by decide +kernel
theorem dX1_readItems_29 : decode cX1_readItems 29 = .ok (.getfield 12, 3) := by decide +kernel
theorem dX1_readItems_32 : decode cX1_readItems 32 = .ok (.invokevirtual 42, 3) := by decide +kernel
theorem dX1_readItems_35 : decode cX1_readItems 35 = .ok (.iconst 0, 1) := by decide +kernel
theorem dX1_readItems_36 : decode cX1_readItems 36 = .ok (.istore_n 1, 1) := by decide +kernel
theorem dX1_readItems_37 : decode cX1_readItems 37 = .ok (.iload_n 1, 1) := by decide +kernel
theorem dX1_readItems_38 : decode cX1_readItems 38 = .ok (.sipush 150, 3) := by decide +kernel
theorem dX1_readItems_41 : decode cX1_readItems 41 = .ok (.if_icmp .ge 32, 3) := by decide +kernel
theorem dX1_readItems_44 : decode cX1_readItems 44 = .ok (.aload_n 0, 1) := by decide +kernel
theorem dX1_readItems_45 : decode cX1_readItems 45 = .ok (.getfield 25, 3) := by decide +kernel
theorem dX1_readItems_48 : decode cX1_readItems 48 = .ok (.bipush (-9), 2) := by decide +kernel
theorem dX1_readItems_50 : decode cX1_readItems 50 = .ok (.if_icmp .ne 23, 3) := by decide +kernel
theorem dX1_readItems_53 : decode cX1_readItems 53 = .ok (.aload_n 0, 1) := by decide +kernel
theorem dX1_readItems_54 : decode cX1_readItems 54 = .ok (.getfield 12, 3) := by decide +kernel
theorem dX1_readItems_57 : decode cX1_readItems 57 = .ok (.getfield 45, 3) := by decide +kernel
theorem dX1_readItems_60 : decode cX1_readItems 60 = .ok (.ifCond .eq 13, 3) := by decide +kernel
theorem dX1_readItems_63 : decode cX1_readItems 63 = .ok (.aload_n 0, 1) := by decide +kernel
theorem dX1_readItems_64 : decode cX1_readItems 64 = .ok (.invokevirtual 48, 3) := by decide +kernel
theorem dX1_readItems_67 : decode cX1_readItems 67 = .ok (.iinc 1 1, 3) := by decide +kernel
theorem dX1_readItems_70 : decode cX1_readItems 70 = .ok (.goto (-33), 3) := by decide +kernel
theorem dX1_readItems_73 : decode cX1_readItems 73 = .ok (.aload_n 0, 1) := by decide +kernel
theorem dX1_readItems_74 : decode cX1_readItems 74 = .ok (.getfield 25, 3) := by decide +kernel
theorem dX1_readItems_77 : decode cX1_readItems 77 = .ok (.bipush (-9), 2) := by decide +kernel
theorem dX1_readItems_79 : decode cX1_readItems 79 = .ok (.if_icmp .ne 7, 3) := by decide +kernel
theorem dX1_readItems_82 : decode cX1_readItems 82 = .ok (.iload_n 1, 1) := by decide +kernel
theorem dX1_readItems_83 : decode cX1_readItems 83 = .ok (.goto 10, 3) := by decide +kernel
theorem dX1_readItems_86 : decode cX1_readItems 86 = .ok (.bipush (-10), 2) := by decide +kernel
theorem dX1_readItems_88 : decode cX1_readItems 88 = .ok (.aload_n 0, 1) := by decide +kernel
theorem dX1_readItems_89 : decode cX1_readItems 89 = .ok (.getfield 25, 3) := by decide +kernel
theorem dX1_readItems_92 : decode cX1_readItems 92 = .ok (.isub, 1) := by decide +kernel
theorem dX1_readItems_93 : decode cX1_readItems 93 = .ok (.ireturn, 1) := by decide +kernel
theorem dX1_handOver_0 : decode cX1_handOver 0 = .ok (.aload_n 0, 1) := by decide +kernel
theorem dX1_handOver_1 : decode cX1_handOver 1 = .ok (.getfield 21, 3) := by decide +kernel
theorem dX1_handOver_4 : decode cX1_handOver 4 = .ok (.astore_n 2, 1) := by decide +kernel
theorem dX1_handOver_5 : decode cX1_handOver 5 = .ok (.aload_n 0, 1) := by decide +kernel
theorem dX1_handOver_6 : decode cX1_handOver 6 = .ok (.aload_n 1, 1) := by decide +kernel
theorem dX1_handOver_7 : decode cX1_handOver 7 = .ok (.putfield 21, 3) := by decide +kernel
theorem dX1_handOver_10 : decode cX1_handOver 10 = .ok (.aload_n 2, 1) := by decide +kernel
theorem dX1_handOver_11 : decode cX1_handOver 11 = .ok (.areturn, 1) := by decide +kernel
theorem dX1_readItem_0 : decode cX1_readItem 0 = .ok (.aload_n 0, 1) := by decide +kernel
theorem dX1_readItem_1 : decode cX1_readItem 1 = .ok (.getfield 12, 3) := by decide +kernel
theorem dX1_readItem_4 : decode cX1_readItem 4 = .ok (.getfield 45, 3) := by decide +kernel
theorem dX1_readItem_7 : decode cX1_readItem 7 = .ok (.iconst 1, 1) := by decide +kernel
theorem dX1_readItem_8 : decode cX1_readItem 8 = .ok (.if_icmp .ne 13, 3) := by decide +kernel
theorem dX1_readItem_11 : decode cX1_readItem 11 = .ok (.aload_n 0, 1) := by decide +kernel
theorem dX1_readItem_12 : decode cX1_readItem 12 = .ok (.getfield 12, 3) := by decide +kernel
theorem dX1_readItem_15 : decode cX1_readItem 15 = .ok (.getfield 51, 3) := by decide +kernel
theorem dX1_readItem_18 : decode cX1_readItem 18 = .ok (.goto 4, 3) := by decide +kernel
theorem dX1_readItem_21 : decode cX1_readItem 21 = .ok (.iconst 0, 1) := by decide +kernel
theorem dX1_readItem_22 : decode cX1_readItem 22 = .ok (.lookupswitch 85 #[(99, 57), (105, 71), (108, 78), (112, 64), (115, 50)], 50) := by decide +kernel
theorem dX1_readItem_72 : decode cX1_readItem 72 = .ok (.aload_n 0, 1) := by decide +kernel
theorem dX1_readItem_73 : decode cX1_readItem 73 = .ok (.invokevirtual 54, 3) := by decide +kernel
theorem dX1_readItem_76 : decode cX1_readItem 76 = .ok (.goto 36, 3) := by decide +kernel
theorem dX1_readItem_79 : decode cX1_readItem 79 = .ok (.aload_n 0, 1) := by decide +kernel
theorem dX1_readItem_80 : decode cX1_readItem 80 = .ok (.invokevirtual 57, 3) := by decide +kernel
theorem dX1_readItem_83 : decode cX1_readItem 83 = .ok (.goto 29, 3) := by decide +kernel
theorem dX1_readItem_86 : decode cX1_readItem 86 = .ok (.aload_n 0, 1) := by decide +kernel
theorem dX1_readItem_87 : decode cX1_readItem 87 = .ok (.invokevirtual 60, 3) := by decide +kernel
theorem dX1_readItem_90 : decode cX1_readItem 90 = .ok (.goto 22, 3) := by decide +kernel
theorem dX1_readItem_93 : decode cX1_readItem 93 = .ok (.aload_n 0, 1) := by decide +kernel
theorem dX1_readItem_94 : decode cX1_readItem 94 = .ok (.invokevirtual 63, 3) := by decide +kernel
theorem dX1_readItem_97 : decode cX1_readItem 97 = .ok (.goto 15, 3) := by decide +kernel
theorem dX1_readItem_100 : decode cX1_readItem 100 = .ok (.aload_n 0, 1) := by decide +kernel
theorem dX1_readItem_101 : decode cX1_readItem 101 = .ok (.invokevirtual 66, 3) := by decide +kernel
theorem dX1_readItem_104 : decode cX1_readItem 104 = .ok (.goto 8, 3) := by decide +kernel
theorem dX1_readItem_107 : decode cX1_readItem 107 = .ok (.aload_n 0, 1) := by decide +kernel
theorem dX1_readItem_108 : decode cX1_readItem 108 = .ok (.iconst 0, 1) := by decide +kernel
theorem dX1_readItem_109 : decode cX1_readItem 109 = .ok (.invokevirtual 69, 3) := by decide +kernel
theorem dX1_readItem_112 : decode cX1_readItem 112 = .ok (.aload_n 0, 1) := by decide +kernel
theorem dX1_readItem_113 : decode cX1_readItem 113 = .ok (.invokevirtual 73, 3) := by decide +kernel
theorem dX1_readItem_116 : decode cX1_readItem 116 = .ok (.return_, 1) := by decide +kernel
theorem dX1_readSeason_0 : decode cX1_readSeason 0 = .ok (.aload_n 0, 1) := by decide +kernel
theorem dX1_readSeason_1 : decode cX1_readSeason 1 = .ok (.aload_n 0, 1) := by decide +kernel
theorem dX1_readSeason_2 : decode cX1_readSeason 2 = .ok (.getfield 21, 3) := by decide +kernel
theorem dX1_readSeason_5 : decode cX1_readSeason 5 = .ok (.getfield 76, 3) := by decide +kernel
theorem dX1_readSeason_8 : decode cX1_readSeason 8 = .ok (.iconst 5, 1) := by decide +kernel
theorem dX1_readSeason_9 : decode cX1_readSeason 9 = .ok (.if_icmp .ge 7, 3) := by decide +kernel
theorem dX1_readSeason_12 : decode cX1_readSeason 12 = .ok (.iconst 1, 1) := by decide +kernel
theorem dX1_readSeason_13 : decode cX1_readSeason 13 = .ok (.goto 4, 3) := by decide +kernel
theorem dX1_readSeason_16 : decode cX1_readSeason 16 = .ok (.iconst 0, 1) := by decide +kernel
theorem dX1_readSeason_17 : decode cX1_readSeason 17 = .ok (.invokevirtual 79, 3) := by decide +kernel
theorem dX1_readSeason_20 : decode cX1_readSeason 20 = .ok (.aload_n 0, 1) := by decide +kernel
theorem dX1_readSeason_21 : decode cX1_readSeason 21 = .ok (.iconst 1, 1) := by decide +kernel
theorem dX1_readSeason_22 : decode cX1_readSeason 22 = .ok (.bipush 9, 2) := by decide +kernel
theorem dX1_readSeason_24 : decode cX1_readSeason 24 = .ok (.bipush 30, 2) := by decide +kernel
theorem dX1_readSeason_26 : decode cX1_readSeason 26 = .ok (.aload_n 0, 1) := by decide +kernel
theorem dX1_readSeason_27 : decode cX1_readSeason 27 = .ok (.getfield 21, 3) := by decide +kernel
theorem dX1_readSeason_30 : decode cX1_readSeason 30 = .ok (.getfield 82, 3) := by decide +kernel
theorem dX1_readSeason_33 : decode cX1_readSeason 33 = .ok (.isub, 1) := by decide +kernel
theorem dX1_readSeason_34 : decode cX1_readSeason 34 = .ok (.invokestatic 85, 3) := by decide +kernel
theorem dX1_readSeason_37 : decode cX1_readSeason 37 = .ok (.invokevirtual 91, 3) := by decide +kernel
theorem dX1_readSeason_40 : decode cX1_readSeason 40 = .ok (.istore_n 1, 1) := by decide +kernel
theorem dX1_readSeason_41 : decode cX1_readSeason 41 = .ok (.aload_n 0, 1) := by decide +kernel
theorem dX1_readSeason_42 : decode cX1_readSeason 42 = .ok (.iconst 0, 1) := by decide +kernel
theorem dX1_readSeason_43 : decode cX1_readSeason 43 = .ok (.bipush 9, 2) := by decide +kernel
theorem dX1_readSeason_45 : decode cX1_readSeason 45 = .ok (.invokevirtual 91, 3) := by decide +kernel
theorem dX1_readSeason_48 : decode cX1_readSeason 48 = .ok (.istore_n 2, 1) := by decide +kernel
theorem dX1_readSeason_49 : decode cX1_readSeason 49 = .ok (.aload_n 0, 1) := by decide +kernel
theorem dX1_readSeason_50 : decode cX1_readSeason 50 = .ok (.getfield 25, 3) := by decide +kernel
theorem dX1_readSeason_53 : decode cX1_readSeason 53 = .ok (.bipush (-9), 2) := by decide +kernel
theorem dX1_readSeason_55 : decode cX1_readSeason 55 = .ok (.if_icmp .ne 12, 3) := by decide +kernel
theorem dX1_readSeason_58 : decode cX1_readSeason 58 = .ok (.aload_n 0, 1) := by decide +kernel
theorem dX1_readSeason_59 : decode cX1_readSeason 59 = .ok (.getfield 21, 3) := by decide +kernel
theorem dX1_readSeason_62 : decode cX1_readSeason 62 = .ok (.iload_n 1, 1) := by decide +kernel
theorem dX1_readSeason_63 : decode cX1_readSeason 63 = .ok (.iload_n 2, 1) := by decide +kernel
theorem dX1_readSeason_64 : decode cX1_readSeason 64 = .ok (.invokevirtual 94, 3) := by decide +kernel
theorem dX1_readSeason_67 : decode cX1_readSeason 67 = .ok (.return_, 1) := by decide +kernel
theorem dX1_readCrop_0 : decode cX1_readCrop 0 = .ok (.aload_n 0, 1) := by decide +kernel
theorem dX1_readCrop_1 : decode cX1_readCrop 1 = .ok (.aload_n 0, 1) := by decide +kernel
theorem dX1_readCrop_2 : decode cX1_readCrop 2 = .ok (.getfield 21, 3) := by decide +kernel
theorem dX1_readCrop_5 : decode cX1_readCrop 5 = .ok (.getfield 98, 3) := by decide +kernel
theorem dX1_readCrop_8 : decode cX1_readCrop 8 = .ok (.iconst 4, 1) := by decide +kernel
theorem dX1_readCrop_9 : decode cX1_readCrop 9 = .ok (.if_icmp .ge 7, 3) := by decide +kernel
theorem dX1_readCrop_12 : decode cX1_readCrop 12 = .ok (.iconst 1, 1) := by decide +kernel
theorem dX1_readCrop_13 : decode cX1_readCrop 13 = .ok (.goto 4, 3) := by decide +kernel
theorem dX1_readCrop_16 : decode cX1_readCrop 16 = .ok (.iconst 0, 1) := by decide +kernel
theorem dX1_readCrop_17 : decode cX1_readCrop 17 = .ok (.invokevirtual 79, 3) := by decide +kernel
theorem dX1_readCrop_20 : decode cX1_readCrop 20 = .ok (.aload_n 0, 1) := by decide +kernel
theorem dX1_readCrop_21 : decode cX1_readCrop 21 = .ok (.iconst 1, 1) := by decide +kernel
theorem dX1_readCrop_22 : decode cX1_readCrop 22 = .ok (.bipush 9, 2) := by decide +kernel
theorem dX1_readCrop_24 : decode cX1_readCrop 24 = .ok (.invokevirtual 91, 3) := by decide +kernel
theorem dX1_readCrop_27 : decode cX1_readCrop 27 = .ok (.istore_n 1, 1) := by decide +kernel
theorem dX1_readCrop_28 : decode cX1_readCrop 28 = .ok (.aload_n 0, 1) := by decide +kernel
theorem dX1_readCrop_29 : decode cX1_readCrop 29 = .ok (.iconst 0, 1) := by decide +kernel
theorem dX1_readCrop_30 : decode cX1_readCrop 30 = .ok (.bipush 9, 2) := by decide +kernel
theorem dX1_readCrop_32 : decode cX1_readCrop 32 = .ok (.invokevirtual 91, 3) := by decide +kernel
theorem dX1_readCrop_35 : decode cX1_readCrop 35 = .ok (.istore_n 2, 1) := by decide +kernel
theorem dX1_readCrop_36 : decode cX1_readCrop 36 = .ok (.aload_n 0, 1) := by decide +kernel
theorem dX1_readCrop_37 : decode cX1_readCrop 37 = .ok (.iconst 0, 1) := by decide +kernel
theorem dX1_readCrop_38 : decode cX1_readCrop 38 = .ok (.bipush 99, 2) := by decide +kernel
theorem dX1_readCrop_40 : decode cX1_readCrop 40 = .ok (.invokevirtual 91, 3) := by decide +kernel
theorem dX1_readCrop_43 : decode cX1_readCrop 43 = .ok (.istore_n 3, 1) := by decide +kernel
theorem dX1_readCrop_44 : decode cX1_readCrop 44 = .ok (.aload_n 0, 1) := by decide +kernel
theorem dX1_readCrop_45 : decode cX1_readCrop 45 = .ok (.getfield 25, 3) := by decide +kernel
theorem dX1_readCrop_48 : decode cX1_readCrop 48 = .ok (.bipush (-9), 2) := by decide +kernel
theorem dX1_readCrop_50 : decode cX1_readCrop 50 = .ok (.if_icmp .ne 13, 3) := by decide +kernel
theorem dX1_readCrop_53 : decode cX1_readCrop 53 = .ok (.aload_n 0, 1) := by decide +kernel
theorem dX1_readCrop_54 : decode cX1_readCrop 54 = .ok (.getfield 21, 3) := by decide +kernel
theorem dX1_readCrop_57 : decode cX1_readCrop 57 = .ok (.iload_n 1, 1) := by decide +kernel
theorem dX1_readCrop_58 : decode cX1_readCrop 58 = .ok (.iload_n 2, 1) := by decide +kernel
theorem dX1_readCrop_59 : decode cX1_readCrop 59 = .ok (.iload_n 3, 1) := by decide +kernel
theorem dX1_readCrop_60 : decode cX1_readCrop 60 = .ok (.invokevirtual 101, 3) := by decide +kernel
theorem dX1_readCrop_63 : decode cX1_readCrop 63 = .ok (.return_, 1) := by decide +kernel
theorem dX1_readPrice_0 : decode cX1_readPrice 0 = .ok (.aload_n 0, 1) := by decide +kernel
theorem dX1_readPrice_1 : decode cX1_readPrice 1 = .ok (.aload_n 0, 1) := by decide +kernel
theorem dX1_readPrice_2 : decode cX1_readPrice 2 = .ok (.getfield 29, 3) := by decide +kernel
theorem dX1_readPrice_5 : decode cX1_readPrice 5 = .ok (.ifCond .ne 7, 3) := by decide +kernel
theorem dX1_readPrice_8 : decode cX1_readPrice 8 = .ok (.iconst 1, 1) := by decide +kernel
theorem dX1_readPrice_9 : decode cX1_readPrice 9 = .ok (.goto 4, 3) := by decide +kernel
theorem dX1_readPrice_12 : decode cX1_readPrice 12 = .ok (.iconst 0, 1) := by decide +kernel
theorem dX1_readPrice_13 : decode cX1_readPrice 13 = .ok (.invokevirtual 79, 3) := by decide +kernel
theorem dX1_readPrice_16 : decode cX1_readPrice 16 = .ok (.aload_n 0, 1) := by decide +kernel
theorem dX1_readPrice_17 : decode cX1_readPrice 17 = .ok (.iconst 1, 1) := by decide +kernel
theorem dX1_readPrice_18 : decode cX1_readPrice 18 = .ok (.putfield 29, 3) := by decide +kernel
theorem dX1_readPrice_21 : decode cX1_readPrice 21 = .ok (.aload_n 0, 1) := by decide +kernel
theorem dX1_readPrice_22 : decode cX1_readPrice 22 = .ok (.getfield 21, 3) := by decide +kernel
theorem dX1_readPrice_25 : decode cX1_readPrice 25 = .ok (.aload_n 0, 1) := by decide +kernel
theorem dX1_readPrice_26 : decode cX1_readPrice 26 = .ok (.iconst 1, 1) := by decide +kernel
theorem dX1_readPrice_27 : decode cX1_readPrice 27 = .ok (.bipush 9, 2) := by decide +kernel
theorem dX1_readPrice_29 : decode cX1_readPrice 29 = .ok (.invokevirtual 91, 3) := by decide +kernel
theorem dX1_readPrice_32 : decode cX1_readPrice 32 = .ok (.putfield 105, 3) := by decide +kernel
theorem dX1_readPrice_35 : decode cX1_readPrice 35 = .ok (.return_, 1) := by decide +kernel
theorem dX1_readInterest_0 : decode cX1_readInterest 0 = .ok (.aload_n 0, 1) := by decide +kernel
theorem dX1_readInterest_1 : decode cX1_readInterest 1 = .ok (.aload_n 0, 1) := by decide +kernel
theorem dX1_readInterest_2 : decode cX1_readInterest 2 = .ok (.getfield 33, 3) := by decide +kernel
theorem dX1_readInterest_5 : decode cX1_readInterest 5 = .ok (.ifCond .ne 7, 3) := by decide +kernel
theorem dX1_readInterest_8 : decode cX1_readInterest 8 = .ok (.iconst 1, 1) := by decide +kernel
theorem dX1_readInterest_9 : decode cX1_readInterest 9 = .ok (.goto 4, 3) := by decide +kernel
theorem dX1_readInterest_12 : decode cX1_readInterest 12 = .ok (.iconst 0, 1) := by decide +kernel
theorem dX1_readInterest_13 : decode cX1_readInterest 13 = .ok (.invokevirtual 79, 3) := by decide +kernel
theorem dX1_readInterest_16 : decode cX1_readInterest 16 = .ok (.aload_n 0, 1) := by decide +kernel
theorem dX1_readInterest_17 : decode cX1_readInterest 17 = .ok (.iconst 1, 1) := by decide +kernel
theorem dX1_readInterest_18 : decode cX1_readInterest 18 = .ok (.putfield 33, 3) := by decide +kernel
theorem dX1_readInterest_21 : decode cX1_readInterest 21 = .ok (.aload_n 0, 1) := by decide +kernel
theorem dX1_readInterest_22 : decode cX1_readInterest 22 = .ok (.getfield 21, 3) := by decide +kernel
theorem dX1_readInterest_25 : decode cX1_readInterest 25 = .ok (.aload_n 0, 1) := by decide +kernel
theorem dX1_readInterest_26 : decode cX1_readInterest 26 = .ok (.iconst 0, 1) := by decide +kernel
theorem dX1_readInterest_27 : decode cX1_readInterest 27 = .ok (.iconst 5, 1) := by decide +kernel
theorem dX1_readInterest_28 : decode cX1_readInterest 28 = .ok (.invokevirtual 91, 3) := by decide +kernel
theorem dX1_readInterest_31 : decode cX1_readInterest 31 = .ok (.putfield 108, 3) := by decide +kernel
theorem dX1_readInterest_34 : decode cX1_readInterest 34 = .ok (.return_, 1) := by decide +kernel
theorem dX1_readLapse_0 : decode cX1_readLapse 0 = .ok (.aload_n 0, 1) := by decide +kernel
theorem dX1_readLapse_1 : decode cX1_readLapse 1 = .ok (.aload_n 0, 1) := by decide +kernel
theorem dX1_readLapse_2 : decode cX1_readLapse 2 = .ok (.getfield 36, 3) := by decide +kernel
theorem dX1_readLapse_5 : decode cX1_readLapse 5 = .ok (.ifCond .ne 7, 3) := by decide +kernel
theorem dX1_readLapse_8 : decode cX1_readLapse 8 = .ok (.iconst 1, 1) := by decide +kernel
theorem dX1_readLapse_9 : decode cX1_readLapse 9 = .ok (.goto 4, 3) := by decide +kernel
theorem dX1_readLapse_12 : decode cX1_readLapse 12 = .ok (.iconst 0, 1) := by decide +kernel
theorem dX1_readLapse_13 : decode cX1_readLapse 13 = .ok (.invokevirtual 79, 3) := by decide +kernel
theorem dX1_readLapse_16 : decode cX1_readLapse 16 = .ok (.aload_n 0, 1) := by decide +kernel
theorem dX1_readLapse_17 : decode cX1_readLapse 17 = .ok (.iconst 1, 1) := by decide +kernel
theorem dX1_readLapse_18 : decode cX1_readLapse 18 = .ok (.putfield 36, 3) := by decide +kernel
theorem dX1_readLapse_21 : decode cX1_readLapse 21 = .ok (.aload_n 0, 1) := by decide +kernel
theorem dX1_readLapse_22 : decode cX1_readLapse 22 = .ok (.getfield 21, 3) := by decide +kernel
theorem dX1_readLapse_25 : decode cX1_readLapse 25 = .ok (.aload_n 0, 1) := by decide +kernel
theorem dX1_readLapse_26 : decode cX1_readLapse 26 = .ok (.iconst 1, 1) := by decide +kernel
theorem dX1_readLapse_27 : decode cX1_readLapse 27 = .ok (.bipush 9, 2) := by decide +kernel
theorem dX1_readLapse_29 : decode cX1_readLapse 29 = .ok (.invokevirtual 91, 3) := by decide +kernel
theorem dX1_readLapse_32 : decode cX1_readLapse 32 = .ok (.putfield 111, 3) := by decide +kernel
theorem dX1_readLapse_35 : decode cX1_readLapse 35 = .ok (.return_, 1) := by decide +kernel
theorem dX1_readLetter_0 : decode cX1_readLetter 0 = .ok (.aload_n 0, 1) := by decide +kernel
theorem dX1_readLetter_1 : decode cX1_readLetter 1 = .ok (.iload_n 1, 1) := by decide +kernel
theorem dX1_readLetter_2 : decode cX1_readLetter 2 = .ok (.invokevirtual 69, 3) := by decide +kernel
theorem dX1_readLetter_5 : decode cX1_readLetter 5 = .ok (.aload_n 0, 1) := by decide +kernel
theorem dX1_readLetter_6 : decode cX1_readLetter 6 = .ok (.invokevirtual 114, 3) := by decide +kernel
theorem dX1_readLetter_9 : decode cX1_readLetter 9 = .ok (.return_, 1) := by decide +kernel
theorem dX1_readNumber_0 : decode cX1_readNumber 0 = .ok (.aload_n 0, 1) := by decide +kernel
theorem dX1_readNumber_1 : decode cX1_readNumber 1 = .ok (.getfield 12, 3) := by decide +kernel
theorem dX1_readNumber_4 : decode cX1_readNumber 4 = .ok (.getfield 51, 3) := by decide +kernel
theorem dX1_readNumber_7 : decode cX1_readNumber 7 = .ok (.istore_n 3, 1) := by decide +kernel
theorem dX1_readNumber_8 : decode cX1_readNumber 8 = .ok (.aload_n 0, 1) := by decide +kernel
theorem dX1_readNumber_9 : decode cX1_readNumber 9 = .ok (.aload_n 0, 1) := by decide +kernel
theorem dX1_readNumber_10 : decode cX1_readNumber 10 = .ok (.getfield 12, 3) := by decide +kernel
theorem dX1_readNumber_13 : decode cX1_readNumber 13 = .ok (.getfield 45, 3) := by decide +kernel
theorem dX1_readNumber_16 : decode cX1_readNumber 16 = .ok (.iconst 2, 1) := by decide +kernel
theorem dX1_readNumber_17 : decode cX1_readNumber 17 = .ok (.if_icmp .ne 16, 3) := by decide +kernel
theorem dX1_readNumber_20 : decode cX1_readNumber 20 = .ok (.iload_n 3, 1) := by decide +kernel
theorem dX1_readNumber_21 : decode cX1_readNumber 21 = .ok (.iload_n 1, 1) := by decide +kernel
theorem dX1_readNumber_22 : decode cX1_readNumber 22 = .ok (.iload_n 2, 1) := by decide +kernel
theorem dX1_readNumber_23 : decode cX1_readNumber 23 = .ok (.invokestatic 117, 3) := by decide +kernel
theorem dX1_readNumber_26 : decode cX1_readNumber 26 = .ok (.ifCond .eq 7, 3) := by decide +kernel
theorem dX1_readNumber_29 : decode cX1_readNumber 29 = .ok (.iconst 1, 1) := by decide +kernel
theorem dX1_readNumber_30 : decode cX1_readNumber 30 = .ok (.goto 4, 3) := by decide +kernel
theorem dX1_readNumber_33 : decode cX1_readNumber 33 = .ok (.iconst 0, 1) := by decide +kernel
theorem dX1_readNumber_34 : decode cX1_readNumber 34 = .ok (.invokevirtual 69, 3) := by decide +kernel
theorem dX1_readNumber_37 : decode cX1_readNumber 37 = .ok (.aload_n 0, 1) := by decide +kernel
theorem dX1_readNumber_38 : decode cX1_readNumber 38 = .ok (.invokevirtual 114, 3) := by decide +kernel
theorem dX1_readNumber_41 : decode cX1_readNumber 41 = .ok (.iload_n 3, 1) := by decide +kernel
theorem dX1_readNumber_42 : decode cX1_readNumber 42 = .ok (.ireturn, 1) := by decide +kernel
theorem dX1_readEnd_0 : decode cX1_readEnd 0 = .ok (.aload_n 0, 1) := by decide +kernel
theorem dX1_readEnd_1 : decode cX1_readEnd 1 = .ok (.aload_n 0, 1) := by decide +kernel
theorem dX1_readEnd_2 : decode cX1_readEnd 2 = .ok (.getfield 12, 3) := by decide +kernel
theorem dX1_readEnd_5 : decode cX1_readEnd 5 = .ok (.getfield 45, 3) := by decide +kernel
theorem dX1_readEnd_8 : decode cX1_readEnd 8 = .ok (.iconst 3, 1) := by decide +kernel
theorem dX1_readEnd_9 : decode cX1_readEnd 9 = .ok (.if_icmp .ne 7, 3) := by decide +kernel
theorem dX1_readEnd_12 : decode cX1_readEnd 12 = .ok (.iconst 1, 1) := by decide +kernel
theorem dX1_readEnd_13 : decode cX1_readEnd 13 = .ok (.goto 4, 3) := by decide +kernel
theorem dX1_readEnd_16 : decode cX1_readEnd 16 = .ok (.iconst 0, 1) := by decide +kernel
theorem dX1_readEnd_17 : decode cX1_readEnd 17 = .ok (.invokevirtual 69, 3) := by decide +kernel
theorem dX1_readEnd_20 : decode cX1_readEnd 20 = .ok (.aload_n 0, 1) := by decide +kernel
theorem dX1_readEnd_21 : decode cX1_readEnd 21 = .ok (.invokevirtual 114, 3) := by decide +kernel
theorem dX1_readEnd_24 : decode cX1_readEnd 24 = .ok (.return_, 1) := by decide +kernel
theorem dX1_refuseUnless_0 : decode cX1_refuseUnless 0 = .ok (.iload_n 1, 1) := by decide +kernel
theorem dX1_refuseUnless_1 : decode cX1_refuseUnless 1 = .ok (.ifCond .ne 23, 3) := by decide +kernel
theorem dX1_refuseUnless_4 : decode cX1_refuseUnless 4 = .ok (.aload_n 0, 1) := by decide +kernel
theorem dX1_refuseUnless_5 : decode cX1_refuseUnless 5 = .ok (.getfield 25, 3) := by decide +kernel
theorem dX1_refuseUnless_8 : decode cX1_refuseUnless 8 = .ok (.bipush (-9), 2) := by decide +kernel
theorem dX1_refuseUnless_10 : decode cX1_refuseUnless 10 = .ok (.if_icmp .ne 14, 3) := by decide +kernel
theorem dX1_refuseUnless_13 : decode cX1_refuseUnless 13 = .ok (.aload_n 0, 1) := by decide +kernel
theorem dX1_refuseUnless_14 : decode cX1_refuseUnless 14 = .ok (.aload_n 0, 1) := by decide +kernel
theorem dX1_refuseUnless_15 : decode cX1_refuseUnless 15 = .ok (.getfield 12, 3) := by decide +kernel
theorem dX1_refuseUnless_18 : decode cX1_refuseUnless 18 = .ok (.getfield 121, 3) := by decide +kernel
theorem dX1_refuseUnless_21 : decode cX1_refuseUnless 21 = .ok (.putfield 25, 3) := by decide +kernel
theorem dX1_refuseUnless_24 : decode cX1_refuseUnless 24 = .ok (.return_, 1) := by decide +kernel
theorem dX1_toNextToken_0 : decode cX1_toNextToken 0 = .ok (.aload_n 0, 1) := by decide +kernel
theorem dX1_toNextToken_1 : decode cX1_toNextToken 1 = .ok (.getfield 25, 3) := by decide +kernel
theorem dX1_toNextToken_4 : decode cX1_toNextToken 4 = .ok (.bipush (-9), 2) := by decide +kernel
theorem dX1_toNextToken_6 : decode cX1_toNextToken 6 = .ok (.if_icmp .ne 10, 3) := by decide +kernel
theorem dX1_toNextToken_9 : decode cX1_toNextToken 9 = .ok (.aload_n 0, 1) := by decide +kernel
theorem dX1_toNextToken_10 : decode cX1_toNextToken 10 = .ok (.getfield 12, 3) := by decide +kernel
theorem dX1_toNextToken_13 : decode cX1_toNextToken 13 = .ok (.invokevirtual 124, 3) := by decide +kernel
theorem dX1_toNextToken_16 : decode cX1_toNextToken 16 = .ok (.return_, 1) := by decide +kernel
theorem dX2_init_0 : decode cX2_init 0 = .ok (.aload_n 0, 1) := by decide +kernel
theorem dX2_init_1 : decode cX2_init 1 = .ok (.invokespecial 3, 3) := by decide +kernel
theorem dX2_init_4 : decode cX2_init 4 = .ok (.aload_n 0, 1) := by decide +kernel
theorem dX2_init_5 : decode cX2_init 5 = .ok (.iconst 4, 1) := by decide +kernel
theorem dX2_init_6 : decode cX2_init 6 = .ok (.newarray .int, 2) := by decide +kernel
theorem dX2_init_8 : decode cX2_init 8 = .ok (.putfield 9, 3) := by decide +kernel
theorem dX2_init_11 : decode cX2_init 11 = .ok (.aload_n 0, 1) := by decide +kernel
theorem dX2_init_12 : decode cX2_init 12 = .ok (.iconst 4, 1) := by decide +kernel
theorem dX2_init_13 : decode cX2_init 13 = .ok (.newarray .int, 2) := by decide +kernel
theorem dX2_init_15 : decode cX2_init 15 = .ok (.putfield 15, 3) := by decide +kernel
theorem dX2_init_18 : decode cX2_init 18 = .ok (.aload_n 0, 1) := by decide +kernel
theorem dX2_init_19 : decode cX2_init 19 = .ok (.iconst 4, 1) := by decide +kernel
theorem dX2_init_20 : decode cX2_init 20 = .ok (.newarray .int, 2) := by decide +kernel
theorem dX2_init_22 : decode cX2_init 22 = .ok (.putfield 18, 3) := by decide +kernel
theorem dX2_init_25 : decode cX2_init 25 = .ok (.aload_n 0, 1) := by decide +kernel
theorem dX2_init_26 : decode cX2_init 26 = .ok (.iconst 0, 1) := by decide +kernel
theorem dX2_init_27 : decode cX2_init 27 = .ok (.putfield 21, 3) := by decide +kernel
theorem dX2_init_30 : decode cX2_init 30 = .ok (.aload_n 0, 1) := by decide +kernel
theorem dX2_init_31 : decode cX2_init 31 = .ok (.iconst 0, 1) := by decide +kernel
theorem dX2_init_32 : decode cX2_init 32 = .ok (.putfield 25, 3) := by decide +kernel
theorem dX2_init_35 : decode cX2_init 35 = .ok (.aload_n 0, 1) := by decide +kernel
theorem dX2_init_36 : decode cX2_init 36 = .ok (.iconst 0, 1) := by decide +kernel
theorem dX2_init_37 : decode cX2_init 37 = .ok (.putfield 28, 3) := by decide +kernel
theorem dX2_init_40 : decode cX2_init 40 = .ok (.return_, 1) := by decide +kernel
theorem dX2_startAnew_0 : decode cX2_startAnew 0 = .ok (.iconst 0, 1) := by decide +kernel
theorem dX2_startAnew_1 : decode cX2_startAnew 1 = .ok (.istore_n 1, 1) := by decide +kernel
theorem dX2_startAnew_2 : decode cX2_startAnew 2 = .ok (.iload_n 1, 1) := by decide +kernel
theorem dX2_startAnew_3 : decode cX2_startAnew 3 = .ok (.iconst 4, 1) := by decide +kernel
theorem dX2_startAnew_4 : decode cX2_startAnew 4 = .ok (.if_icmp .ge 14, 3) := by decide +kernel
theorem dX2_startAnew_7 : decode cX2_startAnew 7 = .ok (.aload_n 0, 1) := by decide +kernel
theorem dX2_startAnew_8 : decode cX2_startAnew 8 = .ok (.iload_n 1, 1) := by decide +kernel
theorem dX2_startAnew_9 : decode cX2_startAnew 9 = .ok (.invokevirtual 31, 3) := by decide +kernel
theorem dX2_startAnew_12 : decode cX2_startAnew 12 = .ok (.iinc 1 1, 3) := by decide +kernel
theorem dX2_startAnew_15 : decode cX2_startAnew 15 = .ok (.goto (-13), 3) := by decide +kernel
theorem dX2_startAnew_18 : decode cX2_startAnew 18 = .ok (.aload_n 0, 1) := by decide +kernel
theorem dX2_startAnew_19 : decode cX2_startAnew 19 = .ok (.iconst 0, 1) := by decide +kernel
theorem dX2_startAnew_20 : decode cX2_startAnew 20 = .ok (.putfield 21, 3) := by decide +kernel
theorem dX2_startAnew_23 : decode cX2_startAnew 23 = .ok (.aload_n 0, 1) := by decide +kernel
theorem dX2_startAnew_24 : decode cX2_startAnew 24 = .ok (.iconst 0, 1) := by decide +kernel
theorem dX2_startAnew_25 : decode cX2_startAnew 25 = .ok (.putfield 25, 3) := by decide +kernel
theorem dX2_startAnew_28 : decode cX2_startAnew 28 = .ok (.aload_n 0, 1) := by decide +kernel
theorem dX2_startAnew_29 : decode cX2_startAnew 29 = .ok (.iconst 0, 1) := by decide +kernel
theorem dX2_startAnew_30 : decode cX2_startAnew 30 = .ok (.putfield 28, 3) := by decide +kernel
theorem dX2_startAnew_33 : decode cX2_startAnew 33 = .ok (.return_, 1) := by decide +kernel
theorem dX2_become_0 : decode cX2_become 0 = .ok (.iconst 0, 1) := by decide +kernel
theorem dX2_become_1 : decode cX2_become 1 = .ok (.istore_n 2, 1) := by decide +kernel
theorem dX2_become_2 : decode cX2_become 2 = .ok (.iload_n 2, 1) := by decide +kernel
theorem dX2_become_3 : decode cX2_become 3 = .ok (.iconst 4, 1) := by decide +kernel
theorem dX2_become_4 : decode cX2_become 4 = .ok (.if_icmp .ge 45, 3) := by decide +kernel
theorem dX2_become_7 : decode cX2_become 7 = .ok (.aload_n 0, 1) := by decide +kernel
theorem dX2_become_8 : decode cX2_become 8 = .ok (.getfield 9, 3) := by decide +kernel
theorem dX2_become_11 : decode cX2_become 11 = .ok (.iload_n 2, 1) := by decide +kernel
theorem dX2_become_12 : decode cX2_become 12 = .ok (.aload_n 1, 1) := by decide +kernel
theorem dX2_become_13 : decode cX2_become 13 = .ok (.getfield 9, 3) := by decide +kernel
theorem dX2_become_16 : decode cX2_become 16 = .ok (.iload_n 2, 1) := by decide +kernel
theorem dX2_become_17 : decode cX2_become 17 = .ok (.iaload, 1) := by decide +kernel
theorem dX2_become_18 : decode cX2_become 18 = .ok (.iastore, 1) := by decide +kernel
theorem dX2_become_19 : decode cX2_become 19 = .ok (.aload_n 0, 1) := by decide +kernel
theorem dX2_become_20 : decode cX2_become 20 = .ok (.getfield 15, 3) := by decide +kernel
theorem dX2_become_23 : decode cX2_become 23 = .ok (.iload_n 2, 1) := by decide +kernel
theorem dX2_become_24 : decode cX2_become 24 = .ok (.aload_n 1, 1) := by decide +kernel
theorem dX2_become_25 : decode cX2_become 25 = .ok (.getfield 15, 3) := by decide +kernel
theorem dX2_become_28 : decode cX2_become 28 = .ok (.iload_n 2, 1) := by decide +kernel
theorem dX2_become_29 : decode cX2_become 29 = .ok (.iaload, 1) := by decide +kernel
theorem dX2_become_30 : decode cX2_become 30 = .ok (.iastore, 1) := by decide +kernel
theorem dX2_become_31 : decode cX2_become 31 = .ok (.aload_n 0, 1) := by decide +kernel
theorem dX2_become_32 : decode cX2_become 32 = .ok (.getfield 18, 3) := by decide +kernel
theorem dX2_become_35 : decode cX2_become 35 = .ok (.iload_n 2, 1) := by decide +kernel
theorem dX2_become_36 : decode cX2_become 36 = .ok (.aload_n 1, 1) := by decide +kernel
theorem dX2_become_37 : decode cX2_become 37 = .ok (.getfield 18, 3) := by decide +kernel
theorem dX2_become_40 : decode cX2_become 40 = .ok (.iload_n 2, 1) := by decide +kernel
theorem dX2_become_41 : decode cX2_become 41 = .ok (.iaload, 1) := by decide +kernel
theorem dX2_become_42 : decode cX2_become 42 = .ok (.iastore, 1) := by decide +kernel
theorem dX2_become_43 : decode cX2_become 43 = .ok (.iinc 2 1, 3) := by decide +kernel
theorem dX2_become_46 : decode cX2_become 46 = .ok (.goto (-44), 3) := by decide +kernel
theorem dX2_become_49 : decode cX2_become 49 = .ok (.aload_n 0, 1) := by decide +kernel
theorem dX2_become_50 : decode cX2_become 50 = .ok (.aload_n 1, 1) := by decide +kernel
theorem dX2_become_51 : decode cX2_become 51 = .ok (.getfield 21, 3) := by decide +kernel
theorem dX2_become_54 : decode cX2_become 54 = .ok (.putfield 21, 3) := by decide +kernel
theorem dX2_become_57 : decode cX2_become 57 = .ok (.aload_n 0, 1) := by decide +kernel
theorem dX2_become_58 : decode cX2_become 58 = .ok (.aload_n 1, 1) := by decide +kernel
theorem dX2_become_59 : decode cX2_become 59 = .ok (.getfield 25, 3) := by decide +kernel
theorem dX2_become_62 : decode cX2_become 62 = .ok (.putfield 25, 3) := by decide +kernel
theorem dX2_become_65 : decode cX2_become 65 = .ok (.aload_n 0, 1) := by decide +kernel
theorem dX2_become_66 : decode cX2_become 66 = .ok (.aload_n 1, 1) := by decide +kernel
theorem dX2_become_67 : decode cX2_become 67 = .ok (.getfield 28, 3) := by decide +kernel
theorem dX2_become_70 : decode cX2_become 70 = .ok (.putfield 28, 3) := by decide +kernel
theorem dX2_become_73 : decode cX2_become 73 = .ok (.return_, 1) := by decide +kernel
theorem dX2_isFree_0 : decode cX2_isFree 0 = .ok (.aload_n 0, 1) := by decide +kernel
theorem dX2_isFree_1 : decode cX2_isFree 1 = .ok (.getfield 9, 3) := by decide +kernel
theorem dX2_isFree_4 : decode cX2_isFree 4 = .ok (.iload_n 1, 1) := by decide +kernel
theorem dX2_isFree_5 : decode cX2_isFree 5 = .ok (.iaload, 1) := by decide +kernel
theorem dX2_isFree_6 : decode cX2_isFree 6 = .ok (.ifCond .ne 7, 3) := by decide +kernel
theorem dX2_isFree_9 : decode cX2_isFree 9 = .ok (.iconst 1, 1) := by decide +kernel
theorem dX2_isFree_10 : decode cX2_isFree 10 = .ok (.goto 4, 3) := by decide +kernel
theorem dX2_isFree_13 : decode cX2_isFree 13 = .ok (.iconst 0, 1) := by decide +kernel
theorem dX2_isFree_14 : decode cX2_isFree 14 = .ok (.ireturn, 1) := by decide +kernel
theorem dX2_lowestFree_0 : decode cX2_lowestFree 0 = .ok (.iconst 0, 1) := by decide +kernel
theorem dX2_lowestFree_1 : decode cX2_lowestFree 1 = .ok (.istore_n 1, 1) := by decide +kernel
theorem dX2_lowestFree_2 : decode cX2_lowestFree 2 = .ok (.iload_n 1, 1) := by decide +kernel
theorem dX2_lowestFree_3 : decode cX2_lowestFree 3 = .ok (.iconst 4, 1) := by decide +kernel
theorem dX2_lowestFree_4 : decode cX2_lowestFree 4 = .ok (.if_icmp .ge 19, 3) := by decide +kernel
theorem dX2_lowestFree_7 : decode cX2_lowestFree 7 = .ok (.aload_n 0, 1) := by decide +kernel
theorem dX2_lowestFree_8 : decode cX2_lowestFree 8 = .ok (.iload_n 1, 1) := by decide +kernel
theorem dX2_lowestFree_9 : decode cX2_lowestFree 9 = .ok (.invokevirtual 35, 3) := by decide +kernel
theorem dX2_lowestFree_12 : decode cX2_lowestFree 12 = .ok (.ifCond .eq 5, 3) := by decide +kernel
theorem dX2_lowestFree_15 : decode cX2_lowestFree 15 = .ok (.iload_n 1, 1) := by decide +kernel
theorem dX2_lowestFree_16 : decode cX2_lowestFree 16 = .ok (.ireturn, 1) := by decide +kernel
theorem dX2_lowestFree_17 : decode cX2_lowestFree 17 = .ok (.iinc 1 1, 3) := by decide +kernel
theorem dX2_lowestFree_20 : decode cX2_lowestFree 20 = .ok (.goto (-18), 3) := by decide +kernel
theorem dX2_lowestFree_23 : decode cX2_lowestFree 23 = .ok (.bipush (-9), 2) := by decide +kernel
theorem dX2_lowestFree_25 : decode cX2_lowestFree 25 = .ok (.ireturn, 1) := by decide +kernel
theorem dX2_loanOf_0 : decode cX2_loanOf 0 = .ok (.iconst 0, 1) := by decide +kernel
theorem dX2_loanOf_1 : decode cX2_loanOf 1 = .ok (.istore_n 2, 1) := by decide +kernel
theorem dX2_loanOf_2 : decode cX2_loanOf 2 = .ok (.iload_n 2, 1) := by decide +kernel
theorem dX2_loanOf_3 : decode cX2_loanOf 3 = .ok (.iconst 4, 1) := by decide +kernel
theorem dX2_loanOf_4 : decode cX2_loanOf 4 = .ok (.if_icmp .ge 24, 3) := by decide +kernel
theorem dX2_loanOf_7 : decode cX2_loanOf 7 = .ok (.aload_n 0, 1) := by decide +kernel
theorem dX2_loanOf_8 : decode cX2_loanOf 8 = .ok (.getfield 9, 3) := by decide +kernel
theorem dX2_loanOf_11 : decode cX2_loanOf 11 = .ok (.iload_n 2, 1) := by decide +kernel
theorem dX2_loanOf_12 : decode cX2_loanOf 12 = .ok (.iaload, 1) := by decide +kernel
theorem dX2_loanOf_13 : decode cX2_loanOf 13 = .ok (.iload_n 1, 1) := by decide +kernel
theorem dX2_loanOf_14 : decode cX2_loanOf 14 = .ok (.invokestatic 39, 3) := by decide +kernel
theorem dX2_loanOf_17 : decode cX2_loanOf 17 = .ok (.ifCond .eq 5, 3) := by decide +kernel
theorem dX2_loanOf_20 : decode cX2_loanOf 20 = .ok (.iload_n 2, 1) := by decide +kernel
theorem dX2_loanOf_21 : decode cX2_loanOf 21 = .ok (.ireturn, 1) := by decide +kernel
theorem dX2_loanOf_22 : decode cX2_loanOf 22 = .ok (.iinc 2 1, 3) := by decide +kernel
theorem dX2_loanOf_25 : decode cX2_loanOf 25 = .ok (.goto (-23), 3) := by decide +kernel
theorem dX2_loanOf_28 : decode cX2_loanOf 28 = .ok (.bipush (-9), 2) := by decide +kernel
theorem dX2_loanOf_30 : decode cX2_loanOf 30 = .ok (.ireturn, 1) := by decide +kernel
theorem dX2_daysOut_0 : decode cX2_daysOut 0 = .ok (.aload_n 0, 1) := by decide +kernel
theorem dX2_daysOut_1 : decode cX2_daysOut 1 = .ok (.bipush 15, 2) := by decide +kernel
theorem dX2_daysOut_3 : decode cX2_daysOut 3 = .ok (.invokevirtual 43, 3) := by decide +kernel
theorem dX2_daysOut_6 : decode cX2_daysOut 6 = .ok (.ireturn, 1) := by decide +kernel
theorem dX2_daysIn_0 : decode cX2_daysIn 0 = .ok (.aload_n 1, 1) := by decide +kernel
theorem dX2_daysIn_1 : decode cX2_daysIn 1 = .ok (.invokevirtual 47, 3) := by decide +kernel
theorem dX2_daysIn_4 : decode cX2_daysIn 4 = .ok (.aload_n 0, 1) := by decide +kernel
theorem dX2_daysIn_5 : decode cX2_daysIn 5 = .ok (.invokevirtual 53, 3) := by decide +kernel
theorem dX2_daysIn_8 : decode cX2_daysIn 8 = .ok (.iconst (-1), 1) := by decide +kernel
theorem dX2_daysIn_9 : decode cX2_daysIn 9 = .ok (.ixor, 1) := by decide +kernel
theorem dX2_daysIn_10 : decode cX2_daysIn 10 = .ok (.iand, 1) := by decide +kernel
theorem dX2_daysIn_11 : decode cX2_daysIn 11 = .ok (.aload_n 0, 1) := by decide +kernel
theorem dX2_daysIn_12 : decode cX2_daysIn 12 = .ok (.getfield 21, 3) := by decide +kernel
theorem dX2_daysIn_15 : decode cX2_daysIn 15 = .ok (.iconst (-1), 1) := by decide +kernel
theorem dX2_daysIn_16 : decode cX2_daysIn 16 = .ok (.ixor, 1) := by decide +kernel
theorem dX2_daysIn_17 : decode cX2_daysIn 17 = .ok (.iand, 1) := by decide +kernel
theorem dX2_daysIn_18 : decode cX2_daysIn 18 = .ok (.ireturn, 1) := by decide +kernel
theorem dX2_owed_0 : decode cX2_owed 0 = .ok (.aload_n 0, 1) := by decide +kernel
theorem dX2_owed_1 : decode cX2_owed 1 = .ok (.bipush 15, 2) := by decide +kernel
theorem dX2_owed_3 : decode cX2_owed 3 = .ok (.invokevirtual 56, 3) := by decide +kernel
theorem dX2_owed_6 : decode cX2_owed 6 = .ok (.ireturn, 1) := by decide +kernel
theorem dX2_daysOfSet_0 : decode cX2_daysOfSet 0 = .ok (.iconst 0, 1) := by decide +kernel
theorem dX2_daysOfSet_1 : decode cX2_daysOfSet 1 = .ok (.istore_n 2, 1) := by decide +kernel
theorem dX2_daysOfSet_2 : decode cX2_daysOfSet 2 = .ok (.iconst 0, 1) := by decide +kernel
theorem dX2_daysOfSet_3 : decode cX2_daysOfSet 3 = .ok (.istore_n 3, 1) := by decide +kernel
theorem dX2_daysOfSet_4 : decode cX2_daysOfSet 4 = .ok (.iload_n 3, 1) := by decide +kernel
theorem dX2_daysOfSet_5 : decode cX2_daysOfSet 5 = .ok (.iconst 4, 1) := by decide +kernel
theorem dX2_daysOfSet_6 : decode cX2_daysOfSet 6 = .ok (.if_icmp .ge 26, 3) := by decide +kernel
theorem dX2_daysOfSet_9 : decode cX2_daysOfSet 9 = .ok (.iload_n 1, 1) := by decide +kernel
theorem dX2_daysOfSet_10 : decode cX2_daysOfSet 10 = .ok (.iload_n 3, 1) := by decide +kernel
theorem dX2_daysOfSet_11 : decode cX2_daysOfSet 11 = .ok (.invokestatic 39, 3) := by decide +kernel
theorem dX2_daysOfSet_14 : decode cX2_daysOfSet 14 = .ok (.ifCond .eq 12, 3) := by decide +kernel
theorem dX2_daysOfSet_17 : decode cX2_daysOfSet 17 = .ok (.iload_n 2, 1) := by decide +kernel
theorem dX2_daysOfSet_18 : decode cX2_daysOfSet 18 = .ok (.aload_n 0, 1) := by decide +kernel
theorem dX2_daysOfSet_19 : decode cX2_daysOfSet 19 = .ok (.getfield 9, 3) := by decide +kernel
theorem dX2_daysOfSet_22 : decode cX2_daysOfSet 22 = .ok (.iload_n 3, 1) := by decide +kernel
theorem dX2_daysOfSet_23 : decode cX2_daysOfSet 23 = .ok (.iaload, 1) := by decide +kernel
theorem dX2_daysOfSet_24 : decode cX2_daysOfSet 24 = .ok (.ior, 1) := by decide +kernel
theorem dX2_daysOfSet_25 : decode cX2_daysOfSet 25 = .ok (.istore_n 2, 1) := by decide +kernel
theorem dX2_daysOfSet_26 : decode cX2_daysOfSet 26 = .ok (.iinc 3 1, 3) := by decide +kernel
theorem dX2_daysOfSet_29 : decode cX2_daysOfSet 29 = .ok (.goto (-25), 3) := by decide +kernel
theorem dX2_daysOfSet_32 : decode cX2_daysOfSet 32 = .ok (.iload_n 2, 1) := by decide +kernel
theorem dX2_daysOfSet_33 : decode cX2_daysOfSet 33 = .ok (.ireturn, 1) := by decide +kernel
theorem dX2_costOfSet_0 : decode cX2_costOfSet 0 = .ok (.iconst 0, 1) := by decide +kernel
theorem dX2_costOfSet_1 : decode cX2_costOfSet 1 = .ok (.istore_n 2, 1) := by decide +kernel
theorem dX2_costOfSet_2 : decode cX2_costOfSet 2 = .ok (.iconst 0, 1) := by decide +kernel
theorem dX2_costOfSet_3 : decode cX2_costOfSet 3 = .ok (.istore_n 3, 1) := by decide +kernel
theorem dX2_costOfSet_4 : decode cX2_costOfSet 4 = .ok (.iload_n 3, 1) := by decide +kernel
theorem dX2_costOfSet_5 : decode cX2_costOfSet 5 = .ok (.iconst 4, 1) := by decide +kernel
theorem dX2_costOfSet_6 : decode cX2_costOfSet 6 = .ok (.if_icmp .ge 26, 3) := by decide +kernel
theorem dX2_costOfSet_9 : decode cX2_costOfSet 9 = .ok (.iload_n 1, 1) := by decide +kernel
theorem dX2_costOfSet_10 : decode cX2_costOfSet 10 = .ok (.iload_n 3, 1) := by decide +kernel
theorem dX2_costOfSet_11 : decode cX2_costOfSet 11 = .ok (.invokestatic 39, 3) := by decide +kernel
theorem dX2_costOfSet_14 : decode cX2_costOfSet 14 = .ok (.ifCond .eq 12, 3) := by decide +kernel
theorem dX2_costOfSet_17 : decode cX2_costOfSet 17 = .ok (.iload_n 2, 1) := by decide +kernel
theorem dX2_costOfSet_18 : decode cX2_costOfSet 18 = .ok (.aload_n 0, 1) := by decide +kernel
theorem dX2_costOfSet_19 : decode cX2_costOfSet 19 = .ok (.getfield 15, 3) := by decide +kernel
theorem dX2_costOfSet_22 : decode cX2_costOfSet 22 = .ok (.iload_n 3, 1) := by decide +kernel
theorem dX2_costOfSet_23 : decode cX2_costOfSet 23 = .ok (.iaload, 1) := by decide +kernel
theorem dX2_costOfSet_24 : decode cX2_costOfSet 24 = .ok (.iadd, 1) := by decide +kernel
theorem dX2_costOfSet_25 : decode cX2_costOfSet 25 = .ok (.istore_n 2, 1) := by decide +kernel
theorem dX2_costOfSet_26 : decode cX2_costOfSet 26 = .ok (.iinc 3 1, 3) := by decide +kernel
theorem dX2_costOfSet_29 : decode cX2_costOfSet 29 = .ok (.goto (-25), 3) := by decide +kernel
theorem dX2_costOfSet_32 : decode cX2_costOfSet 32 = .ok (.iload_n 2, 1) := by decide +kernel
theorem dX2_costOfSet_33 : decode cX2_costOfSet 33 = .ok (.ireturn, 1) := by decide +kernel
theorem dX2_isSetOfLoans_0 : decode cX2_isSetOfLoans 0 = .ok (.iconst 0, 1) := by decide +kernel
theorem dX2_isSetOfLoans_1 : decode cX2_isSetOfLoans 1 = .ok (.istore_n 2, 1) := by decide +kernel
theorem dX2_isSetOfLoans_2 : decode cX2_isSetOfLoans 2 = .ok (.iload_n 2, 1) := by decide +kernel
theorem dX2_isSetOfLoans_3 : decode cX2_isSetOfLoans 3 = .ok (.iconst 4, 1) := by decide +kernel
theorem dX2_isSetOfLoans_4 : decode cX2_isSetOfLoans 4 = .ok (.if_icmp .ge 27, 3) := by decide +kernel
theorem dX2_isSetOfLoans_7 : decode cX2_isSetOfLoans 7 = .ok (.iload_n 1, 1) := by decide +kernel
theorem dX2_isSetOfLoans_8 : decode cX2_isSetOfLoans 8 = .ok (.iload_n 2, 1) := by decide +kernel
theorem dX2_isSetOfLoans_9 : decode cX2_isSetOfLoans 9 = .ok (.invokestatic 39, 3) := by decide +kernel
theorem dX2_isSetOfLoans_12 : decode cX2_isSetOfLoans 12 = .ok (.ifCond .eq 13, 3) := by decide +kernel
theorem dX2_isSetOfLoans_15 : decode cX2_isSetOfLoans 15 = .ok (.aload_n 0, 1) := by decide +kernel
theorem dX2_isSetOfLoans_16 : decode cX2_isSetOfLoans 16 = .ok (.iload_n 2, 1) := by decide +kernel
theorem dX2_isSetOfLoans_17 : decode cX2_isSetOfLoans 17 = .ok (.invokevirtual 35, 3) := by decide +kernel
theorem dX2_isSetOfLoans_20 : decode cX2_isSetOfLoans 20 = .ok (.ifCond .eq 5, 3) := by decide +kernel
theorem dX2_isSetOfLoans_23 : decode cX2_isSetOfLoans 23 = .ok (.iconst 0, 1) := by decide +kernel
theorem dX2_isSetOfLoans_24 : decode cX2_isSetOfLoans 24 = .ok (.ireturn, 1) := by decide +kernel
theorem dX2_isSetOfLoans_25 : decode cX2_isSetOfLoans 25 = .ok (.iinc 2 1, 3) := by decide +kernel
theorem dX2_isSetOfLoans_28 : decode cX2_isSetOfLoans 28 = .ok (.goto (-26), 3) := by decide +kernel
theorem dX2_isSetOfLoans_31 : decode cX2_isSetOfLoans 31 = .ok (.iconst 1, 1) := by decide +kernel
theorem dX2_isSetOfLoans_32 : decode cX2_isSetOfLoans 32 = .ok (.ireturn, 1) := by decide +kernel
theorem dX2_pawn_0 : decode cX2_pawn 0 = .ok (.aload_n 0, 1) := by decide +kernel
theorem dX2_pawn_1 : decode cX2_pawn 1 = .ok (.getfield 9, 3) := by decide +kernel
theorem dX2_pawn_4 : decode cX2_pawn 4 = .ok (.iload_n 1, 1) := by decide +kernel
theorem dX2_pawn_5 : decode cX2_pawn 5 = .ok (.iload_n 2, 1) := by decide +kernel
theorem dX2_pawn_6 : decode cX2_pawn 6 = .ok (.iastore, 1) := by decide +kernel
theorem dX2_pawn_7 : decode cX2_pawn 7 = .ok (.aload_n 0, 1) := by decide +kernel
theorem dX2_pawn_8 : decode cX2_pawn 8 = .ok (.getfield 15, 3) := by decide +kernel
theorem dX2_pawn_11 : decode cX2_pawn 11 = .ok (.iload_n 1, 1) := by decide +kernel
theorem dX2_pawn_12 : decode cX2_pawn 12 = .ok (.iload_n 3, 1) := by decide +kernel
theorem dX2_pawn_13 : decode cX2_pawn 13 = .ok (.iastore, 1) := by decide +kernel
theorem dX2_pawn_14 : decode cX2_pawn 14 = .ok (.aload_n 0, 1) := by decide +kernel
theorem dX2_pawn_15 : decode cX2_pawn 15 = .ok (.getfield 18, 3) := by decide +kernel
theorem dX2_pawn_18 : decode cX2_pawn 18 = .ok (.iload_n 1, 1) := by decide +kernel
theorem dX2_pawn_19 : decode cX2_pawn 19 = .ok (.iconst 0, 1) := by decide +kernel
theorem dX2_pawn_20 : decode cX2_pawn 20 = .ok (.iastore, 1) := by decide +kernel
theorem dX2_pawn_21 : decode cX2_pawn 21 = .ok (.aload_n 0, 1) := by decide +kernel
theorem dX2_pawn_22 : decode cX2_pawn 22 = .ok (.dup, 1) := by decide +kernel
theorem dX2_pawn_23 : decode cX2_pawn 23 = .ok (.getfield 25, 3) := by decide +kernel
theorem dX2_pawn_26 : decode cX2_pawn 26 = .ok (.iload_n 3, 1) := by decide +kernel
theorem dX2_pawn_27 : decode cX2_pawn 27 = .ok (.iadd, 1) := by decide +kernel
theorem dX2_pawn_28 : decode cX2_pawn 28 = .ok (.putfield 25, 3) := by decide +kernel
theorem dX2_pawn_31 : decode cX2_pawn 31 = .ok (.return_, 1) := by decide +kernel
theorem dX2_redeem_0 : decode cX2_redeem 0 = .ok (.aload_n 0, 1) := by decide +kernel
theorem dX2_redeem_1 : decode cX2_redeem 1 = .ok (.dup, 1) := by decide +kernel
theorem dX2_redeem_2 : decode cX2_redeem 2 = .ok (.getfield 25, 3) := by decide +kernel
theorem dX2_redeem_5 : decode cX2_redeem 5 = .ok (.aload_n 0, 1) := by decide +kernel
theorem dX2_redeem_6 : decode cX2_redeem 6 = .ok (.getfield 15, 3) := by decide +kernel
theorem dX2_redeem_9 : decode cX2_redeem 9 = .ok (.iload_n 1, 1) := by decide +kernel
theorem dX2_redeem_10 : decode cX2_redeem 10 = .ok (.iaload, 1) := by decide +kernel
theorem dX2_redeem_11 : decode cX2_redeem 11 = .ok (.isub, 1) := by decide +kernel
theorem dX2_redeem_12 : decode cX2_redeem 12 = .ok (.putfield 25, 3) := by decide +kernel
theorem dX2_redeem_15 : decode cX2_redeem 15 = .ok (.aload_n 0, 1) := by decide +kernel
theorem dX2_redeem_16 : decode cX2_redeem 16 = .ok (.iload_n 1, 1) := by decide +kernel
theorem dX2_redeem_17 : decode cX2_redeem 17 = .ok (.invokevirtual 31, 3) := by decide +kernel
theorem dX2_redeem_20 : decode cX2_redeem 20 = .ok (.return_, 1) := by decide +kernel
theorem dX2_passYear_0 : decode cX2_passYear 0 = .ok (.aload_n 1, 1) := by decide +kernel
theorem dX2_passYear_1 : decode cX2_passYear 1 = .ok (.aload_n 0, 1) := by decide +kernel
theorem dX2_passYear_2 : decode cX2_passYear 2 = .ok (.aload_n 1, 1) := by decide +kernel
theorem dX2_passYear_3 : decode cX2_passYear 3 = .ok (.invokevirtual 59, 3) := by decide +kernel
theorem dX2_passYear_6 : decode cX2_passYear 6 = .ok (.invokevirtual 63, 3) := by decide +kernel
theorem dX2_passYear_9 : decode cX2_passYear 9 = .ok (.istore_n 2, 1) := by decide +kernel
theorem dX2_passYear_10 : decode cX2_passYear 10 = .ok (.aload_n 0, 1) := by decide +kernel
theorem dX2_passYear_11 : decode cX2_passYear 11 = .ok (.dup, 1) := by decide +kernel
theorem dX2_passYear_12 : decode cX2_passYear 12 = .ok (.getfield 25, 3) := by decide +kernel
theorem dX2_passYear_15 : decode cX2_passYear 15 = .ok (.iload_n 2, 1) := by decide +kernel
theorem dX2_passYear_16 : decode cX2_passYear 16 = .ok (.iadd, 1) := by decide +kernel
theorem dX2_passYear_17 : decode cX2_passYear 17 = .ok (.putfield 25, 3) := by decide +kernel
theorem dX2_passYear_20 : decode cX2_passYear 20 = .ok (.aload_n 0, 1) := by decide +kernel
theorem dX2_passYear_21 : decode cX2_passYear 21 = .ok (.dup, 1) := by decide +kernel
theorem dX2_passYear_22 : decode cX2_passYear 22 = .ok (.getfield 28, 3) := by decide +kernel
theorem dX2_passYear_25 : decode cX2_passYear 25 = .ok (.iconst 1, 1) := by decide +kernel
theorem dX2_passYear_26 : decode cX2_passYear 26 = .ok (.iadd, 1) := by decide +kernel
theorem dX2_passYear_27 : decode cX2_passYear 27 = .ok (.putfield 28, 3) := by decide +kernel
theorem dX2_passYear_30 : decode cX2_passYear 30 = .ok (.iconst 0, 1) := by decide +kernel
theorem dX2_passYear_31 : decode cX2_passYear 31 = .ok (.istore_n 3, 1) := by decide +kernel
theorem dX2_passYear_32 : decode cX2_passYear 32 = .ok (.iload_n 3, 1) := by decide +kernel
theorem dX2_passYear_33 : decode cX2_passYear 33 = .ok (.iconst 4, 1) := by decide +kernel
theorem dX2_passYear_34 : decode cX2_passYear 34 = .ok (.if_icmp .ge 29, 3) := by decide +kernel
theorem dX2_passYear_37 : decode cX2_passYear 37 = .ok (.aload_n 0, 1) := by decide +kernel
theorem dX2_passYear_38 : decode cX2_passYear 38 = .ok (.iload_n 3, 1) := by decide +kernel
theorem dX2_passYear_39 : decode cX2_passYear 39 = .ok (.invokevirtual 35, 3) := by decide +kernel
theorem dX2_passYear_42 : decode cX2_passYear 42 = .ok (.ifCond .ne 15, 3) := by decide +kernel
theorem dX2_passYear_45 : decode cX2_passYear 45 = .ok (.aload_n 0, 1) := by decide +kernel
theorem dX2_passYear_46 : decode cX2_passYear 46 = .ok (.aload_n 1, 1) := by decide +kernel
theorem dX2_passYear_47 : decode cX2_passYear 47 = .ok (.iload_n 3, 1) := by decide +kernel
theorem dX2_passYear_48 : decode cX2_passYear 48 = .ok (.invokevirtual 66, 3) := by decide +kernel
theorem dX2_passYear_51 : decode cX2_passYear 51 = .ok (.aload_n 0, 1) := by decide +kernel
theorem dX2_passYear_52 : decode cX2_passYear 52 = .ok (.aload_n 1, 1) := by decide +kernel
theorem dX2_passYear_53 : decode cX2_passYear 53 = .ok (.iload_n 3, 1) := by decide +kernel
theorem dX2_passYear_54 : decode cX2_passYear 54 = .ok (.invokevirtual 70, 3) := by decide +kernel
theorem dX2_passYear_57 : decode cX2_passYear 57 = .ok (.iinc 3 1, 3) := by decide +kernel
theorem dX2_passYear_60 : decode cX2_passYear 60 = .ok (.goto (-28), 3) := by decide +kernel
theorem dX2_passYear_63 : decode cX2_passYear 63 = .ok (.iload_n 2, 1) := by decide +kernel
theorem dX2_passYear_64 : decode cX2_passYear 64 = .ok (.ireturn, 1) := by decide +kernel
theorem dX2_takeInterest_0 : decode cX2_takeInterest 0 = .ok (.aload_n 0, 1) := by decide +kernel
theorem dX2_takeInterest_1 : decode cX2_takeInterest 1 = .ok (.aload_n 1, 1) := by decide +kernel
theorem dX2_takeInterest_2 : decode cX2_takeInterest 2 = .ok (.invokevirtual 59, 3) := by decide +kernel
theorem dX2_takeInterest_5 : decode cX2_takeInterest 5 = .ok (.istore_n 3, 1) := by decide +kernel
theorem dX2_takeInterest_6 : decode cX2_takeInterest 6 = .ok (.iconst 0, 1) := by decide +kernel
theorem dX2_takeInterest_7 : decode cX2_takeInterest 7 = .ok (.istore 4, 2) := by decide +kernel
theorem dX2_takeInterest_9 : decode cX2_takeInterest 9 = .ok (.aload_n 0, 1) := by decide +kernel
theorem dX2_takeInterest_10 : decode cX2_takeInterest 10 = .ok (.getfield 9, 3) := by decide +kernel
theorem dX2_takeInterest_13 : decode cX2_takeInterest 13 = .ok (.iload_n 2, 1) := by decide +kernel
theorem dX2_takeInterest_14 : decode cX2_takeInterest 14 = .ok (.iaload, 1) := by decide +kernel
theorem dX2_takeInterest_15 : decode cX2_takeInterest 15 = .ok (.invokestatic 73, 3) := by decide +kernel
theorem dX2_takeInterest_18 : decode cX2_takeInterest 18 = .ok (.istore 5, 2) := by decide +kernel
theorem dX2_takeInterest_20 : decode cX2_takeInterest 20 = .ok (.iload 5, 2) := by decide +kernel
theorem dX2_takeInterest_22 : decode cX2_takeInterest 22 = .ok (.aload_n 1, 1) := by decide +kernel
theorem dX2_takeInterest_23 : decode cX2_takeInterest 23 = .ok (.getfield 76, 3) := by decide +kernel
theorem dX2_takeInterest_26 : decode cX2_takeInterest 26 = .ok (.if_icmp .ge 43, 3) := by decide +kernel
theorem dX2_takeInterest_29 : decode cX2_takeInterest 29 = .ok (.iload 4, 2) := by decide +kernel
theorem dX2_takeInterest_31 : decode cX2_takeInterest 31 = .ok (.aload_n 1, 1) := by decide +kernel
theorem dX2_takeInterest_32 : decode cX2_takeInterest 32 = .ok (.getfield 79, 3) := by decide +kernel
theorem dX2_takeInterest_35 : decode cX2_takeInterest 35 = .ok (.if_icmp .ge 34, 3) := by decide +kernel
theorem dX2_takeInterest_38 : decode cX2_takeInterest 38 = .ok (.iload_n 3, 1) := by decide +kernel
theorem dX2_takeInterest_39 : decode cX2_takeInterest 39 = .ok (.iload 5, 2) := by decide +kernel
theorem dX2_takeInterest_41 : decode cX2_takeInterest 41 = .ok (.invokestatic 39, 3) := by decide +kernel
theorem dX2_takeInterest_44 : decode cX2_takeInterest 44 = .ok (.ifCond .eq 19, 3) := by decide +kernel
theorem dX2_takeInterest_47 : decode cX2_takeInterest 47 = .ok (.aload_n 0, 1) := by decide +kernel
theorem dX2_takeInterest_48 : decode cX2_takeInterest 48 = .ok (.getfield 9, 3) := by decide +kernel
theorem dX2_takeInterest_51 : decode cX2_takeInterest 51 = .ok (.iload_n 2, 1) := by decide +kernel
theorem dX2_takeInterest_52 : decode cX2_takeInterest 52 = .ok (.dup2, 1) := by decide +kernel
theorem dX2_takeInterest_53 : decode cX2_takeInterest 53 = .ok (.iaload, 1) := by decide +kernel
theorem dX2_takeInterest_54 : decode cX2_takeInterest 54 = .ok (.iconst 1, 1) := by decide +kernel
theorem dX2_takeInterest_55 : decode cX2_takeInterest 55 = .ok (.iload 5, 2) := by decide +kernel
theorem dX2_takeInterest_57 : decode cX2_takeInterest 57 = .ok (.ishl, 1) := by decide +kernel
theorem dX2_takeInterest_58 : decode cX2_takeInterest 58 = .ok (.ior, 1) := by decide +kernel
theorem dX2_takeInterest_59 : decode cX2_takeInterest 59 = .ok (.iastore, 1) := by decide +kernel
theorem dX2_takeInterest_60 : decode cX2_takeInterest 60 = .ok (.iinc 4 1, 3) := by decide +kernel
theorem dX2_takeInterest_63 : decode cX2_takeInterest 63 = .ok (.iinc 5 1, 3) := by decide +kernel
theorem dX2_takeInterest_66 : decode cX2_takeInterest 66 = .ok (.goto (-46), 3) := by decide +kernel
theorem dX2_takeInterest_69 : decode cX2_takeInterest 69 = .ok (.return_, 1) := by decide +kernel
theorem dX2_grow_0 : decode cX2_grow 0 = .ok (.aload_n 0, 1) := by decide +kernel
theorem dX2_grow_1 : decode cX2_grow 1 = .ok (.getfield 18, 3) := by decide +kernel
theorem dX2_grow_4 : decode cX2_grow 4 = .ok (.iload_n 2, 1) := by decide +kernel
theorem dX2_grow_5 : decode cX2_grow 5 = .ok (.dup2, 1) := by decide +kernel
theorem dX2_grow_6 : decode cX2_grow 6 = .ok (.iaload, 1) := by decide +kernel
theorem dX2_grow_7 : decode cX2_grow 7 = .ok (.iconst 1, 1) := by decide +kernel
theorem dX2_grow_8 : decode cX2_grow 8 = .ok (.iadd, 1) := by decide +kernel
theorem dX2_grow_9 : decode cX2_grow 9 = .ok (.iastore, 1) := by decide +kernel
theorem dX2_grow_10 : decode cX2_grow 10 = .ok (.aload_n 0, 1) := by decide +kernel
theorem dX2_grow_11 : decode cX2_grow 11 = .ok (.getfield 18, 3) := by decide +kernel
theorem dX2_grow_14 : decode cX2_grow 14 = .ok (.iload_n 2, 1) := by decide +kernel
theorem dX2_grow_15 : decode cX2_grow 15 = .ok (.iaload, 1) := by decide +kernel
theorem dX2_grow_16 : decode cX2_grow 16 = .ok (.aload_n 1, 1) := by decide +kernel
theorem dX2_grow_17 : decode cX2_grow 17 = .ok (.getfield 82, 3) := by decide +kernel
theorem dX2_grow_20 : decode cX2_grow 20 = .ok (.if_icmp .lt 23, 3) := by decide +kernel
theorem dX2_grow_23 : decode cX2_grow 23 = .ok (.aload_n 0, 1) := by decide +kernel
theorem dX2_grow_24 : decode cX2_grow 24 = .ok (.dup, 1) := by decide +kernel
theorem dX2_grow_25 : decode cX2_grow 25 = .ok (.getfield 21, 3) := by decide +kernel
theorem dX2_grow_28 : decode cX2_grow 28 = .ok (.aload_n 0, 1) := by decide +kernel
theorem dX2_grow_29 : decode cX2_grow 29 = .ok (.getfield 9, 3) := by decide +kernel
theorem dX2_grow_32 : decode cX2_grow 32 = .ok (.iload_n 2, 1) := by decide +kernel
theorem dX2_grow_33 : decode cX2_grow 33 = .ok (.iaload, 1) := by decide +kernel
theorem dX2_grow_34 : decode cX2_grow 34 = .ok (.ior, 1) := by decide +kernel
theorem dX2_grow_35 : decode cX2_grow 35 = .ok (.putfield 21, 3) := by decide +kernel
theorem dX2_grow_38 : decode cX2_grow 38 = .ok (.aload_n 0, 1) := by decide +kernel
theorem dX2_grow_39 : decode cX2_grow 39 = .ok (.iload_n 2, 1) := by decide +kernel
theorem dX2_grow_40 : decode cX2_grow 40 = .ok (.invokevirtual 31, 3) := by decide +kernel
theorem dX2_grow_43 : decode cX2_grow 43 = .ok (.return_, 1) := by decide +kernel
theorem dX2_setFree_0 : decode cX2_setFree 0 = .ok (.aload_n 0, 1) := by decide +kernel
theorem dX2_setFree_1 : decode cX2_setFree 1 = .ok (.getfield 9, 3) := by decide +kernel
theorem dX2_setFree_4 : decode cX2_setFree 4 = .ok (.iload_n 1, 1) := by decide +kernel
theorem dX2_setFree_5 : decode cX2_setFree 5 = .ok (.iconst 0, 1) := by decide +kernel
theorem dX2_setFree_6 : decode cX2_setFree 6 = .ok (.iastore, 1) := by decide +kernel
theorem dX2_setFree_7 : decode cX2_setFree 7 = .ok (.aload_n 0, 1) := by decide +kernel
theorem dX2_setFree_8 : decode cX2_setFree 8 = .ok (.getfield 15, 3) := by decide +kernel
theorem dX2_setFree_11 : decode cX2_setFree 11 = .ok (.iload_n 1, 1) := by decide +kernel
theorem dX2_setFree_12 : decode cX2_setFree 12 = .ok (.iconst 0, 1) := by decide +kernel
theorem dX2_setFree_13 : decode cX2_setFree 13 = .ok (.iastore, 1) := by decide +kernel
theorem dX2_setFree_14 : decode cX2_setFree 14 = .ok (.aload_n 0, 1) := by decide +kernel
theorem dX2_setFree_15 : decode cX2_setFree 15 = .ok (.getfield 18, 3) := by decide +kernel
theorem dX2_setFree_18 : decode cX2_setFree 18 = .ok (.iload_n 1, 1) := by decide +kernel
theorem dX2_setFree_19 : decode cX2_setFree 19 = .ok (.iconst 0, 1) := by decide +kernel
theorem dX2_setFree_20 : decode cX2_setFree 20 = .ok (.iastore, 1) := by decide +kernel
theorem dX2_setFree_21 : decode cX2_setFree 21 = .ok (.return_, 1) := by decide +kernel
theorem dX2_behindLast_0 : decode cX2_behindLast 0 = .ok (.iconst 0, 1) := by decide +kernel
theorem dX2_behindLast_1 : decode cX2_behindLast 1 = .ok (.istore_n 1, 1) := by decide +kernel
theorem dX2_behindLast_2 : decode cX2_behindLast 2 = .ok (.iconst 0, 1) := by decide +kernel
theorem dX2_behindLast_3 : decode cX2_behindLast 3 = .ok (.istore_n 2, 1) := by decide +kernel
theorem dX2_behindLast_4 : decode cX2_behindLast 4 = .ok (.iload_n 2, 1) := by decide +kernel
theorem dX2_behindLast_5 : decode cX2_behindLast 5 = .ok (.bipush 30, 2) := by decide +kernel
theorem dX2_behindLast_7 : decode cX2_behindLast 7 = .ok (.if_icmp .ge 21, 3) := by decide +kernel
theorem dX2_behindLast_10 : decode cX2_behindLast 10 = .ok (.iload_n 0, 1) := by decide +kernel
theorem dX2_behindLast_11 : decode cX2_behindLast 11 = .ok (.iload_n 2, 1) := by decide +kernel
theorem dX2_behindLast_12 : decode cX2_behindLast 12 = .ok (.invokestatic 39, 3) := by decide +kernel
theorem dX2_behindLast_15 : decode cX2_behindLast 15 = .ok (.ifCond .eq 7, 3) := by decide +kernel
theorem dX2_behindLast_18 : decode cX2_behindLast 18 = .ok (.iload_n 2, 1) := by decide +kernel
theorem dX2_behindLast_19 : decode cX2_behindLast 19 = .ok (.iconst 1, 1) := by decide +kernel
theorem dX2_behindLast_20 : decode cX2_behindLast 20 = .ok (.iadd, 1) := by decide +kernel
theorem dX2_behindLast_21 : decode cX2_behindLast 21 = .ok (.istore_n 1, 1) := by decide +kernel
theorem dX2_behindLast_22 : decode cX2_behindLast 22 = .ok (.iinc 2 1, 3) := by decide +kernel
theorem dX2_behindLast_25 : decode cX2_behindLast 25 = .ok (.goto (-21), 3) := by decide +kernel
theorem dX2_behindLast_28 : decode cX2_behindLast 28 = .ok (.iload_n 1, 1) := by decide +kernel
theorem dX2_behindLast_29 : decode cX2_behindLast 29 = .ok (.ireturn, 1) := by decide +kernel
theorem dX3_init_0 : decode cX3_init 0 = .ok (.aload_n 0, 1) := by decide +kernel
theorem dX3_init_1 : decode cX3_init 1 = .ok (.invokespecial 3, 3) := by decide +kernel
theorem dX3_init_4 : decode cX3_init 4 = .ok (.aload_n 0, 1) := by decide +kernel
theorem dX3_init_5 : decode cX3_init 5 = .ok (.new 9, 3) := by decide +kernel
theorem dX3_init_8 : decode cX3_init 8 = .ok (.dup, 1) := by decide +kernel
theorem dX3_init_9 : decode cX3_init 9 = .ok (.invokespecial 11, 3) := by decide +kernel
theorem dX3_init_12 : decode cX3_init 12 = .ok (.putfield 12, 3) := by decide +kernel
theorem dX3_init_15 : decode cX3_init 15 = .ok (.aload_n 0, 1) := by decide +kernel
theorem dX3_init_16 : decode cX3_init 16 = .ok (.bipush 10, 2) := by decide +kernel
theorem dX3_init_18 : decode cX3_init 18 = .ok (.anewarray 9, 3) := by decide +kernel
theorem dX3_init_21 : decode cX3_init 21 = .ok (.putfield 18, 3) := by decide +kernel
theorem dX3_init_24 : decode cX3_init 24 = .ok (.aload_n 0, 1) := by decide +kernel
theorem dX3_init_25 : decode cX3_init 25 = .ok (.iconst 0, 1) := by decide +kernel
theorem dX3_init_26 : decode cX3_init 26 = .ok (.putfield 22, 3) := by decide +kernel
theorem dX3_init_29 : decode cX3_init 29 = .ok (.iconst 0, 1) := by decide +kernel
theorem dX3_init_30 : decode cX3_init 30 = .ok (.istore_n 1, 1) := by decide +kernel
theorem dX3_init_31 : decode cX3_init 31 = .ok (.iload_n 1, 1) := by decide +kernel
theorem dX3_init_32 : decode cX3_init 32 = .ok (.bipush 10, 2) := by decide +kernel
theorem dX3_init_34 : decode cX3_init 34 = .ok (.if_icmp .ge 22, 3) := by decide +kernel
theorem dX3_init_37 : decode cX3_init 37 = .ok (.aload_n 0, 1) := by decide +kernel
theorem dX3_init_38 : decode cX3_init 38 = .ok (.getfield 18, 3) := by decide +kernel
theorem dX3_init_41 : decode cX3_init 41 = .ok (.iload_n 1, 1) := by decide +kernel
theorem dX3_init_42 : decode cX3_init 42 = .ok (.new 9, 3) := by decide +kernel
theorem dX3_init_45 : decode cX3_init 45 = .ok (.dup, 1) := by decide +kernel
theorem dX3_init_46 : decode cX3_init 46 = .ok (.invokespecial 11, 3) := by decide +kernel
theorem dX3_init_49 : decode cX3_init 49 = .ok (.aastore, 1) := by decide +kernel
theorem dX3_init_50 : decode cX3_init 50 = .ok (.iinc 1 1, 3) := by decide +kernel
theorem dX3_init_53 : decode cX3_init 53 = .ok (.goto (-22), 3) := by decide +kernel
theorem dX3_init_56 : decode cX3_init 56 = .ok (.return_, 1) := by decide +kernel
theorem dX3_startAnew_0 : decode cX3_startAnew 0 = .ok (.aload_n 0, 1) := by decide +kernel
theorem dX3_startAnew_1 : decode cX3_startAnew 1 = .ok (.getfield 12, 3) := by decide +kernel
theorem dX3_startAnew_4 : decode cX3_startAnew 4 = .ok (.invokevirtual 26, 3) := by decide +kernel
theorem dX3_startAnew_7 : decode cX3_startAnew 7 = .ok (.aload_n 0, 1) := by decide +kernel
theorem dX3_startAnew_8 : decode cX3_startAnew 8 = .ok (.iconst 0, 1) := by decide +kernel
theorem dX3_startAnew_9 : decode cX3_startAnew 9 = .ok (.putfield 22, 3) := by decide +kernel
theorem dX3_startAnew_12 : decode cX3_startAnew 12 = .ok (.return_, 1) := by decide +kernel
theorem dX3_become_0 : decode cX3_become 0 = .ok (.aload_n 0, 1) := by decide +kernel
theorem dX3_become_1 : decode cX3_become 1 = .ok (.getfield 12, 3) := by decide +kernel
theorem dX3_become_4 : decode cX3_become 4 = .ok (.aload_n 1, 1) := by decide +kernel
theorem dX3_become_5 : decode cX3_become 5 = .ok (.getfield 12, 3) := by decide +kernel
theorem dX3_become_8 : decode cX3_become 8 = .ok (.invokevirtual 29, 3) := by decide +kernel
theorem dX3_become_11 : decode cX3_become 11 = .ok (.aload_n 0, 1) := by decide +kernel
theorem dX3_become_12 : decode cX3_become 12 = .ok (.aload_n 1, 1) := by decide +kernel
theorem dX3_become_13 : decode cX3_become 13 = .ok (.getfield 22, 3) := by decide +kernel
theorem dX3_become_16 : decode cX3_become 16 = .ok (.putfield 22, 3) := by decide +kernel
theorem dX3_become_19 : decode cX3_become 19 = .ok (.iconst 0, 1) := by decide +kernel
theorem dX3_become_20 : decode cX3_become 20 = .ok (.istore_n 2, 1) := by decide +kernel
theorem dX3_become_21 : decode cX3_become 21 = .ok (.iload_n 2, 1) := by decide +kernel
theorem dX3_become_22 : decode cX3_become 22 = .ok (.bipush 10, 2) := by decide +kernel
theorem dX3_become_24 : decode cX3_become 24 = .ok (.if_icmp .ge 24, 3) := by decide +kernel
theorem dX3_become_27 : decode cX3_become 27 = .ok (.aload_n 0, 1) := by decide +kernel
theorem dX3_become_28 : decode cX3_become 28 = .ok (.getfield 18, 3) := by decide +kernel
theorem dX3_become_31 : decode cX3_become 31 = .ok (.iload_n 2, 1) := by decide +kernel
theorem dX3_become_32 : decode cX3_become 32 = .ok (.aaload, 1) := by decide +kernel
theorem dX3_become_33 : decode cX3_become 33 = .ok (.aload_n 1, 1) := by decide +kernel
theorem dX3_become_34 : decode cX3_become 34 = .ok (.getfield 18, 3) := by decide +kernel
theorem dX3_become_37 : decode cX3_become 37 = .ok (.iload_n 2, 1) := by decide +kernel
theorem dX3_become_38 : decode cX3_become 38 = .ok (.aaload, 1) := by decide +kernel
theorem dX3_become_39 : decode cX3_become 39 = .ok (.invokevirtual 29, 3) := by decide +kernel
theorem dX3_become_42 : decode cX3_become 42 = .ok (.iinc 2 1, 3) := by decide +kernel
theorem dX3_become_45 : decode cX3_become 45 = .ok (.goto (-24), 3) := by decide +kernel
theorem dX3_become_48 : decode cX3_become 48 = .ok (.return_, 1) := by decide +kernel
theorem dX3_remember_0 : decode cX3_remember 0 = .ok (.aload_n 0, 1) := by decide +kernel
theorem dX3_remember_1 : decode cX3_remember 1 = .ok (.getfield 22, 3) := by decide +kernel
theorem dX3_remember_4 : decode cX3_remember 4 = .ok (.bipush 10, 2) := by decide +kernel
theorem dX3_remember_6 : decode cX3_remember 6 = .ok (.if_icmp .lt 7, 3) := by decide +kernel
theorem dX3_remember_9 : decode cX3_remember 9 = .ok (.aload_n 0, 1) := by decide +kernel
theorem dX3_remember_10 : decode cX3_remember 10 = .ok (.invokevirtual 33, 3) := by decide +kernel
theorem dX3_remember_13 : decode cX3_remember 13 = .ok (.aload_n 0, 1) := by decide +kernel
theorem dX3_remember_14 : decode cX3_remember 14 = .ok (.getfield 18, 3) := by decide +kernel
theorem dX3_remember_17 : decode cX3_remember 17 = .ok (.aload_n 0, 1) := by decide +kernel
theorem dX3_remember_18 : decode cX3_remember 18 = .ok (.getfield 22, 3) := by decide +kernel
theorem dX3_remember_21 : decode cX3_remember 21 = .ok (.aaload, 1) := by decide +kernel
theorem dX3_remember_22 : decode cX3_remember 22 = .ok (.aload_n 0, 1) := by decide +kernel
theorem dX3_remember_23 : decode cX3_remember 23 = .ok (.getfield 12, 3) := by decide +kernel
theorem dX3_remember_26 : decode cX3_remember 26 = .ok (.invokevirtual 29, 3) := by decide +kernel
theorem dX3_remember_29 : decode cX3_remember 29 = .ok (.aload_n 0, 1) := by decide +kernel
theorem dX3_remember_30 : decode cX3_remember 30 = .ok (.dup, 1) := by decide +kernel
theorem dX3_remember_31 : decode cX3_remember 31 = .ok (.getfield 22, 3) := by decide +kernel
theorem dX3_remember_34 : decode cX3_remember 34 = .ok (.iconst 1, 1) := by decide +kernel
theorem dX3_remember_35 : decode cX3_remember 35 = .ok (.iadd, 1) := by decide +kernel
theorem dX3_remember_36 : decode cX3_remember 36 = .ok (.putfield 22, 3) := by decide +kernel
theorem dX3_remember_39 : decode cX3_remember 39 = .ok (.return_, 1) := by decide +kernel
theorem dX3_goBack_0 : decode cX3_goBack 0 = .ok (.aload_n 0, 1) := by decide +kernel
theorem dX3_goBack_1 : decode cX3_goBack 1 = .ok (.getfield 22, 3) := by decide +kernel
theorem dX3_goBack_4 : decode cX3_goBack 4 = .ok (.ifCond .gt 5, 3) := by decide +kernel
theorem dX3_goBack_7 : decode cX3_goBack 7 = .ok (.iconst 0, 1) := by decide +kernel
theorem dX3_goBack_8 : decode cX3_goBack 8 = .ok (.ireturn, 1) := by decide +kernel
theorem dX3_goBack_9 : decode cX3_goBack 9 = .ok (.aload_n 0, 1) := by decide +kernel
theorem dX3_goBack_10 : decode cX3_goBack 10 = .ok (.dup, 1) := by decide +kernel
theorem dX3_goBack_11 : decode cX3_goBack 11 = .ok (.getfield 22, 3) := by decide +kernel
theorem dX3_goBack_14 : decode cX3_goBack 14 = .ok (.iconst 1, 1) := by decide +kernel
theorem dX3_goBack_15 : decode cX3_goBack 15 = .ok (.isub, 1) := by decide +kernel
theorem dX3_goBack_16 : decode cX3_goBack 16 = .ok (.putfield 22, 3) := by decide +kernel
theorem dX3_goBack_19 : decode cX3_goBack 19 = .ok (.aload_n 0, 1) := by decide +kernel
theorem dX3_goBack_20 : decode cX3_goBack 20 = .ok (.getfield 12, 3) := by decide +kernel
theorem dX3_goBack_23 : decode cX3_goBack 23 = .ok (.aload_n 0, 1) := by decide +kernel
theorem dX3_goBack_24 : decode cX3_goBack 24 = .ok (.getfield 18, 3) := by decide +kernel
theorem dX3_goBack_27 : decode cX3_goBack 27 = .ok (.aload_n 0, 1) := by decide +kernel
theorem dX3_goBack_28 : decode cX3_goBack 28 = .ok (.getfield 22, 3) := by decide +kernel
theorem dX3_goBack_31 : decode cX3_goBack 31 = .ok (.aaload, 1) := by decide +kernel
theorem dX3_goBack_32 : decode cX3_goBack 32 = .ok (.invokevirtual 29, 3) := by decide +kernel
theorem dX3_goBack_35 : decode cX3_goBack 35 = .ok (.iconst 1, 1) := by decide +kernel
theorem dX3_goBack_36 : decode cX3_goBack 36 = .ok (.ireturn, 1) := by decide +kernel
theorem dX3_loseOldest_0 : decode cX3_loseOldest 0 = .ok (.aload_n 0, 1) := by decide +kernel
theorem dX3_loseOldest_1 : decode cX3_loseOldest 1 = .ok (.getfield 18, 3) := by decide +kernel
theorem dX3_loseOldest_4 : decode cX3_loseOldest 4 = .ok (.iconst 0, 1) := by decide +kernel
theorem dX3_loseOldest_5 : decode cX3_loseOldest 5 = .ok (.aaload, 1) := by decide +kernel
theorem dX3_loseOldest_6 : decode cX3_loseOldest 6 = .ok (.astore_n 1, 1) := by decide +kernel
theorem dX3_loseOldest_7 : decode cX3_loseOldest 7 = .ok (.iconst 1, 1) := by decide +kernel
theorem dX3_loseOldest_8 : decode cX3_loseOldest 8 = .ok (.istore_n 2, 1) := by decide +kernel
theorem dX3_loseOldest_9 : decode cX3_loseOldest 9 = .ok (.iload_n 2, 1) := by decide +kernel
theorem dX3_loseOldest_10 : decode cX3_loseOldest 10 = .ok (.bipush 10, 2) := by decide +kernel
theorem dX3_loseOldest_12 : decode cX3_loseOldest 12 = .ok (.if_icmp .ge 23, 3) := by decide +kernel
theorem dX3_loseOldest_15 : decode cX3_loseOldest 15 = .ok (.aload_n 0, 1) := by decide +kernel
theorem dX3_loseOldest_16 : decode cX3_loseOldest 16 = .ok (.getfield 18, 3) := by decide +kernel
theorem dX3_loseOldest_19 : decode cX3_loseOldest 19 = .ok (.iload_n 2, 1) := by decide +kernel
theorem dX3_loseOldest_20 : decode cX3_loseOldest 20 = .ok (.iconst 1, 1) := by decide +kernel
theorem dX3_loseOldest_21 : decode cX3_loseOldest 21 = .ok (.isub, 1) := by decide +kernel
theorem dX3_loseOldest_22 : decode cX3_loseOldest 22 = .ok (.aload_n 0, 1) := by decide +kernel
theorem dX3_loseOldest_23 : decode cX3_loseOldest 23 = .ok (.getfield 18, 3) := by decide +kernel
theorem dX3_loseOldest_26 : decode cX3_loseOldest 26 = .ok (.iload_n 2, 1) := by decide +kernel
theorem dX3_loseOldest_27 : decode cX3_loseOldest 27 = .ok (.aaload, 1) := by decide +kernel
theorem dX3_loseOldest_28 : decode cX3_loseOldest 28 = .ok (.aastore, 1) := by decide +kernel
theorem dX3_loseOldest_29 : decode cX3_loseOldest 29 = .ok (.iinc 2 1, 3) := by decide +kernel
theorem dX3_loseOldest_32 : decode cX3_loseOldest 32 = .ok (.goto (-23), 3) := by decide +kernel
theorem dX3_loseOldest_35 : decode cX3_loseOldest 35 = .ok (.aload_n 0, 1) := by decide +kernel
theorem dX3_loseOldest_36 : decode cX3_loseOldest 36 = .ok (.bipush 9, 2) := by decide +kernel
theorem dX3_loseOldest_38 : decode cX3_loseOldest 38 = .ok (.putfield 22, 3) := by decide +kernel
theorem dX3_loseOldest_41 : decode cX3_loseOldest 41 = .ok (.aload_n 0, 1) := by decide +kernel
theorem dX3_loseOldest_42 : decode cX3_loseOldest 42 = .ok (.getfield 18, 3) := by decide +kernel
theorem dX3_loseOldest_45 : decode cX3_loseOldest 45 = .ok (.aload_n 0, 1) := by decide +kernel
theorem dX3_loseOldest_46 : decode cX3_loseOldest 46 = .ok (.getfield 22, 3) := by decide +kernel
theorem dX3_loseOldest_49 : decode cX3_loseOldest 49 = .ok (.aload_n 1, 1) := by decide +kernel
theorem dX3_loseOldest_50 : decode cX3_loseOldest 50 = .ok (.aastore, 1) := by decide +kernel
theorem dX3_loseOldest_51 : decode cX3_loseOldest 51 = .ok (.return_, 1) := by decide +kernel
theorem dX4_init_0 : decode cX4_init 0 = .ok (.aload_n 0, 1) := by decide +kernel
theorem dX4_init_1 : decode cX4_init 1 = .ok (.invokespecial 3, 3) := by decide +kernel
theorem dX4_init_4 : decode cX4_init 4 = .ok (.aload_n 0, 1) := by decide +kernel
theorem dX4_init_5 : decode cX4_init 5 = .ok (.sipush 150, 3) := by decide +kernel
theorem dX4_init_8 : decode cX4_init 8 = .ok (.newarray .int, 2) := by decide +kernel
theorem dX4_init_10 : decode cX4_init 10 = .ok (.putfield 9, 3) := by decide +kernel
theorem dX4_init_13 : decode cX4_init 13 = .ok (.aload_n 0, 1) := by decide +kernel
theorem dX4_init_14 : decode cX4_init 14 = .ok (.iconst 0, 1) := by decide +kernel
theorem dX4_init_15 : decode cX4_init 15 = .ok (.putfield 15, 3) := by decide +kernel
theorem dX4_init_18 : decode cX4_init 18 = .ok (.aload_n 0, 1) := by decide +kernel
theorem dX4_init_19 : decode cX4_init 19 = .ok (.iconst 0, 1) := by decide +kernel
theorem dX4_init_20 : decode cX4_init 20 = .ok (.putfield 19, 3) := by decide +kernel
theorem dX4_init_23 : decode cX4_init 23 = .ok (.aload_n 0, 1) := by decide +kernel
theorem dX4_init_24 : decode cX4_init 24 = .ok (.iconst 0, 1) := by decide +kernel
theorem dX4_init_25 : decode cX4_init 25 = .ok (.putfield 22, 3) := by decide +kernel
theorem dX4_init_28 : decode cX4_init 28 = .ok (.aload_n 0, 1) := by decide +kernel
theorem dX4_init_29 : decode cX4_init 29 = .ok (.iconst 0, 1) := by decide +kernel
theorem dX4_init_30 : decode cX4_init 30 = .ok (.putfield 25, 3) := by decide +kernel
theorem dX4_init_33 : decode cX4_init 33 = .ok (.aload_n 0, 1) := by decide +kernel
theorem dX4_init_34 : decode cX4_init 34 = .ok (.iconst 0, 1) := by decide +kernel
theorem dX4_init_35 : decode cX4_init 35 = .ok (.putfield 28, 3) := by decide +kernel
theorem dX4_init_38 : decode cX4_init 38 = .ok (.return_, 1) := by decide +kernel
theorem dX4_take_0 : decode cX4_take 0 = .ok (.aload_n 0, 1) := by decide +kernel
theorem dX4_take_1 : decode cX4_take 1 = .ok (.getfield 15, 3) := by decide +kernel
theorem dX4_take_4 : decode cX4_take 4 = .ok (.sipush 150, 3) := by decide +kernel
theorem dX4_take_7 : decode cX4_take 7 = .ok (.if_icmp .lt 5, 3) := by decide +kernel
theorem dX4_take_10 : decode cX4_take 10 = .ok (.iconst 0, 1) := by decide +kernel
theorem dX4_take_11 : decode cX4_take 11 = .ok (.ireturn, 1) := by decide +kernel
theorem dX4_take_12 : decode cX4_take 12 = .ok (.aload_n 0, 1) := by decide +kernel
theorem dX4_take_13 : decode cX4_take 13 = .ok (.getfield 9, 3) := by decide +kernel
theorem dX4_take_16 : decode cX4_take 16 = .ok (.aload_n 0, 1) := by decide +kernel
theorem dX4_take_17 : decode cX4_take 17 = .ok (.getfield 15, 3) := by decide +kernel
theorem dX4_take_20 : decode cX4_take 20 = .ok (.iload_n 1, 1) := by decide +kernel
theorem dX4_take_21 : decode cX4_take 21 = .ok (.iastore, 1) := by decide +kernel
theorem dX4_take_22 : decode cX4_take 22 = .ok (.aload_n 0, 1) := by decide +kernel
theorem dX4_take_23 : decode cX4_take 23 = .ok (.dup, 1) := by decide +kernel
theorem dX4_take_24 : decode cX4_take 24 = .ok (.getfield 15, 3) := by decide +kernel
theorem dX4_take_27 : decode cX4_take 27 = .ok (.iconst 1, 1) := by decide +kernel
theorem dX4_take_28 : decode cX4_take 28 = .ok (.iadd, 1) := by decide +kernel
theorem dX4_take_29 : decode cX4_take 29 = .ok (.putfield 15, 3) := by decide +kernel
theorem dX4_take_32 : decode cX4_take 32 = .ok (.iconst 1, 1) := by decide +kernel
theorem dX4_take_33 : decode cX4_take 33 = .ok (.ireturn, 1) := by decide +kernel
theorem dX4_drop_0 : decode cX4_drop 0 = .ok (.aload_n 0, 1) := by decide +kernel
theorem dX4_drop_1 : decode cX4_drop 1 = .ok (.getfield 15, 3) := by decide +kernel
theorem dX4_drop_4 : decode cX4_drop 4 = .ok (.istore_n 1, 1) := by decide +kernel
theorem dX4_drop_5 : decode cX4_drop 5 = .ok (.aload_n 0, 1) := by decide +kernel
theorem dX4_drop_6 : decode cX4_drop 6 = .ok (.iconst 0, 1) := by decide +kernel
theorem dX4_drop_7 : decode cX4_drop 7 = .ok (.putfield 15, 3) := by decide +kernel
theorem dX4_drop_10 : decode cX4_drop 10 = .ok (.iload_n 1, 1) := by decide +kernel
theorem dX4_drop_11 : decode cX4_drop 11 = .ok (.ireturn, 1) := by decide +kernel
theorem dX4_toFirstToken_0 : decode cX4_toFirstToken 0 = .ok (.aload_n 0, 1) := by decide +kernel
theorem dX4_toFirstToken_1 : decode cX4_toFirstToken 1 = .ok (.iconst 0, 1) := by decide +kernel
theorem dX4_toFirstToken_2 : decode cX4_toFirstToken 2 = .ok (.putfield 28, 3) := by decide +kernel
theorem dX4_toFirstToken_5 : decode cX4_toFirstToken 5 = .ok (.aload_n 0, 1) := by decide +kernel
theorem dX4_toFirstToken_6 : decode cX4_toFirstToken 6 = .ok (.invokevirtual 31, 3) := by decide +kernel
theorem dX4_toFirstToken_9 : decode cX4_toFirstToken 9 = .ok (.return_, 1) := by decide +kernel
theorem dX4_toNextToken_0 : decode cX4_toNextToken 0 = .ok (.aload_n 0, 1) := by decide +kernel
theorem dX4_toNextToken_1 : decode cX4_toNextToken 1 = .ok (.getfield 28, 3) := by decide +kernel
theorem dX4_toNextToken_4 : decode cX4_toNextToken 4 = .ok (.aload_n 0, 1) := by decide +kernel
theorem dX4_toNextToken_5 : decode cX4_toNextToken 5 = .ok (.getfield 15, 3) := by decide +kernel
theorem dX4_toNextToken_8 : decode cX4_toNextToken 8 = .ok (.if_icmp .ge 30, 3) := by decide +kernel
theorem dX4_toNextToken_11 : decode cX4_toNextToken 11 = .ok (.aload_n 0, 1) := by decide +kernel
theorem dX4_toNextToken_12 : decode cX4_toNextToken 12 = .ok (.getfield 9, 3) := by decide +kernel
theorem dX4_toNextToken_15 : decode cX4_toNextToken 15 = .ok (.aload_n 0, 1) := by decide +kernel
theorem dX4_toNextToken_16 : decode cX4_toNextToken 16 = .ok (.getfield 28, 3) := by decide +kernel
theorem dX4_toNextToken_19 : decode cX4_toNextToken 19 = .ok (.iaload, 1) := by decide +kernel
theorem dX4_toNextToken_20 : decode cX4_toNextToken 20 = .ok (.bipush 32, 2) := by decide +kernel
theorem dX4_toNextToken_22 : decode cX4_toNextToken 22 = .ok (.if_icmp .ne 16, 3) := by decide +kernel
theorem dX4_toNextToken_25 : decode cX4_toNextToken 25 = .ok (.aload_n 0, 1) := by decide +kernel
theorem dX4_toNextToken_26 : decode cX4_toNextToken 26 = .ok (.dup, 1) := by decide +kernel
theorem dX4_toNextToken_27 : decode cX4_toNextToken 27 = .ok (.getfield 28, 3) := by decide +kernel
theorem dX4_toNextToken_30 : decode cX4_toNextToken 30 = .ok (.iconst 1, 1) := by decide +kernel
theorem dX4_toNextToken_31 : decode cX4_toNextToken 31 = .ok (.iadd, 1) := by decide +kernel
theorem dX4_toNextToken_32 : decode cX4_toNextToken 32 = .ok (.putfield 28, 3) := by decide +kernel
theorem dX4_toNextToken_35 : decode cX4_toNextToken 35 = .ok (.goto (-35), 3) := by decide +kernel
theorem dX4_toNextToken_38 : decode cX4_toNextToken 38 = .ok (.aload_n 0, 1) := by decide +kernel
theorem dX4_toNextToken_39 : decode cX4_toNextToken 39 = .ok (.aload_n 0, 1) := by decide +kernel
theorem dX4_toNextToken_40 : decode cX4_toNextToken 40 = .ok (.getfield 28, 3) := by decide +kernel
theorem dX4_toNextToken_43 : decode cX4_toNextToken 43 = .ok (.putfield 19, 3) := by decide +kernel
theorem dX4_toNextToken_46 : decode cX4_toNextToken 46 = .ok (.aload_n 0, 1) := by decide +kernel
theorem dX4_toNextToken_47 : decode cX4_toNextToken 47 = .ok (.getfield 28, 3) := by decide +kernel
theorem dX4_toNextToken_50 : decode cX4_toNextToken 50 = .ok (.aload_n 0, 1) := by decide +kernel
theorem dX4_toNextToken_51 : decode cX4_toNextToken 51 = .ok (.getfield 15, 3) := by decide +kernel
theorem dX4_toNextToken_54 : decode cX4_toNextToken 54 = .ok (.if_icmp .lt 11, 3) := by decide +kernel
theorem dX4_toNextToken_57 : decode cX4_toNextToken 57 = .ok (.aload_n 0, 1) := by decide +kernel
theorem dX4_toNextToken_58 : decode cX4_toNextToken 58 = .ok (.iconst 0, 1) := by decide +kernel
theorem dX4_toNextToken_59 : decode cX4_toNextToken 59 = .ok (.putfield 22, 3) := by decide +kernel
theorem dX4_toNextToken_62 : decode cX4_toNextToken 62 = .ok (.goto 80, 3) := by decide +kernel
theorem dX4_toNextToken_65 : decode cX4_toNextToken 65 = .ok (.aload_n 0, 1) := by decide +kernel
theorem dX4_toNextToken_66 : decode cX4_toNextToken 66 = .ok (.getfield 9, 3) := by decide +kernel
theorem dX4_toNextToken_69 : decode cX4_toNextToken 69 = .ok (.aload_n 0, 1) := by decide +kernel
theorem dX4_toNextToken_70 : decode cX4_toNextToken 70 = .ok (.getfield 28, 3) := by decide +kernel
theorem dX4_toNextToken_73 : decode cX4_toNextToken 73 = .ok (.iaload, 1) := by decide +kernel
theorem dX4_toNextToken_74 : decode cX4_toNextToken 74 = .ok (.invokestatic 34, 3) := by decide +kernel
theorem dX4_toNextToken_77 : decode cX4_toNextToken 77 = .ok (.ifCond .eq 10, 3) := by decide +kernel
theorem dX4_toNextToken_80 : decode cX4_toNextToken 80 = .ok (.aload_n 0, 1) := by decide +kernel
theorem dX4_toNextToken_81 : decode cX4_toNextToken 81 = .ok (.invokevirtual 38, 3) := by decide +kernel
theorem dX4_toNextToken_84 : decode cX4_toNextToken 84 = .ok (.goto 58, 3) := by decide +kernel
theorem dX4_toNextToken_87 : decode cX4_toNextToken 87 = .ok (.aload_n 0, 1) := by decide +kernel
theorem dX4_toNextToken_88 : decode cX4_toNextToken 88 = .ok (.getfield 9, 3) := by decide +kernel
theorem dX4_toNextToken_91 : decode cX4_toNextToken 91 = .ok (.aload_n 0, 1) := by decide +kernel
theorem dX4_toNextToken_92 : decode cX4_toNextToken 92 = .ok (.getfield 28, 3) := by decide +kernel
theorem dX4_toNextToken_95 : decode cX4_toNextToken 95 = .ok (.iaload, 1) := by decide +kernel
theorem dX4_toNextToken_96 : decode cX4_toNextToken 96 = .ok (.invokestatic 41, 3) := by decide +kernel
theorem dX4_toNextToken_99 : decode cX4_toNextToken 99 = .ok (.ifCond .eq 10, 3) := by decide +kernel
theorem dX4_toNextToken_102 : decode cX4_toNextToken 102 = .ok (.aload_n 0, 1) := by decide +kernel
theorem dX4_toNextToken_103 : decode cX4_toNextToken 103 = .ok (.invokevirtual 44, 3) := by decide +kernel
theorem dX4_toNextToken_106 : decode cX4_toNextToken 106 = .ok (.goto 36, 3) := by decide +kernel
theorem dX4_toNextToken_109 : decode cX4_toNextToken 109 = .ok (.aload_n 0, 1) := by decide +kernel
theorem dX4_toNextToken_110 : decode cX4_toNextToken 110 = .ok (.aload_n 0, 1) := by decide +kernel
theorem dX4_toNextToken_111 : decode cX4_toNextToken 111 = .ok (.getfield 9, 3) := by decide +kernel
theorem dX4_toNextToken_114 : decode cX4_toNextToken 114 = .ok (.aload_n 0, 1) := by decide +kernel
theorem dX4_toNextToken_115 : decode cX4_toNextToken 115 = .ok (.getfield 28, 3) := by decide +kernel
theorem dX4_toNextToken_118 : decode cX4_toNextToken 118 = .ok (.iaload, 1) := by decide +kernel
theorem dX4_toNextToken_119 : decode cX4_toNextToken 119 = .ok (.bipush 59, 2) := by decide +kernel
theorem dX4_toNextToken_121 : decode cX4_toNextToken 121 = .ok (.if_icmp .ne 7, 3) := by decide +kernel
theorem dX4_toNextToken_124 : decode cX4_toNextToken 124 = .ok (.iconst 3, 1) := by decide +kernel
theorem dX4_toNextToken_125 : decode cX4_toNextToken 125 = .ok (.goto 4, 3) := by decide +kernel
theorem dX4_toNextToken_128 : decode cX4_toNextToken 128 = .ok (.iconst 4, 1) := by decide +kernel
theorem dX4_toNextToken_129 : decode cX4_toNextToken 129 = .ok (.putfield 22, 3) := by decide +kernel
theorem dX4_toNextToken_132 : decode cX4_toNextToken 132 = .ok (.aload_n 0, 1) := by decide +kernel
theorem dX4_toNextToken_133 : decode cX4_toNextToken 133 = .ok (.dup, 1) := by decide +kernel
theorem dX4_toNextToken_134 : decode cX4_toNextToken 134 = .ok (.getfield 28, 3) := by decide +kernel
theorem dX4_toNextToken_137 : decode cX4_toNextToken 137 = .ok (.iconst 1, 1) := by decide +kernel
theorem dX4_toNextToken_138 : decode cX4_toNextToken 138 = .ok (.iadd, 1) := by decide +kernel
theorem dX4_toNextToken_139 : decode cX4_toNextToken 139 = .ok (.putfield 28, 3) := by decide +kernel
theorem dX4_toNextToken_142 : decode cX4_toNextToken 142 = .ok (.return_, 1) := by decide +kernel
theorem dX4_scanLetters_0 : decode cX4_scanLetters 0 = .ok (.aload_n 0, 1) := by decide +kernel
theorem dX4_scanLetters_1 : decode cX4_scanLetters 1 = .ok (.iconst 1, 1) := by decide +kernel
theorem dX4_scanLetters_2 : decode cX4_scanLetters 2 = .ok (.putfield 22, 3) := by decide +kernel
theorem dX4_scanLetters_5 : decode cX4_scanLetters 5 = .ok (.aload_n 0, 1) := by decide +kernel
theorem dX4_scanLetters_6 : decode cX4_scanLetters 6 = .ok (.aload_n 0, 1) := by decide +kernel
theorem dX4_scanLetters_7 : decode cX4_scanLetters 7 = .ok (.getfield 9, 3) := by decide +kernel
theorem dX4_scanLetters_10 : decode cX4_scanLetters 10 = .ok (.aload_n 0, 1) := by decide +kernel
theorem dX4_scanLetters_11 : decode cX4_scanLetters 11 = .ok (.getfield 28, 3) := by decide +kernel
theorem dX4_scanLetters_14 : decode cX4_scanLetters 14 = .ok (.iaload, 1) := by decide +kernel
theorem dX4_scanLetters_15 : decode cX4_scanLetters 15 = .ok (.putfield 25, 3) := by decide +kernel
theorem dX4_scanLetters_18 : decode cX4_scanLetters 18 = .ok (.aload_n 0, 1) := by decide +kernel
theorem dX4_scanLetters_19 : decode cX4_scanLetters 19 = .ok (.dup, 1) := by decide +kernel
theorem dX4_scanLetters_20 : decode cX4_scanLetters 20 = .ok (.getfield 28, 3) := by decide +kernel
theorem dX4_scanLetters_23 : decode cX4_scanLetters 23 = .ok (.iconst 1, 1) := by decide +kernel
theorem dX4_scanLetters_24 : decode cX4_scanLetters 24 = .ok (.iadd, 1) := by decide +kernel
theorem dX4_scanLetters_25 : decode cX4_scanLetters 25 = .ok (.putfield 28, 3) := by decide +kernel
theorem dX4_scanLetters_28 : decode cX4_scanLetters 28 = .ok (.aload_n 0, 1) := by decide +kernel
theorem dX4_scanLetters_29 : decode cX4_scanLetters 29 = .ok (.getfield 28, 3) := by decide +kernel
theorem dX4_scanLetters_32 : decode cX4_scanLetters 32 = .ok (.aload_n 0, 1) := by decide +kernel
theorem dX4_scanLetters_33 : decode cX4_scanLetters 33 = .ok (.getfield 15, 3) := by decide +kernel
theorem dX4_scanLetters_36 : decode cX4_scanLetters 36 = .ok (.if_icmp .ge 36, 3) := by decide +kernel
theorem dX4_scanLetters_39 : decode cX4_scanLetters 39 = .ok (.aload_n 0, 1) := by decide +kernel
theorem dX4_scanLetters_40 : decode cX4_scanLetters 40 = .ok (.getfield 9, 3) := by decide +kernel
theorem dX4_scanLetters_43 : decode cX4_scanLetters 43 = .ok (.aload_n 0, 1) := by decide +kernel
theorem dX4_scanLetters_44 : decode cX4_scanLetters 44 = .ok (.getfield 28, 3) := by decide +kernel
theorem dX4_scanLetters_47 : decode cX4_scanLetters 47 = .ok (.iaload, 1) := by decide +kernel
theorem dX4_scanLetters_48 : decode cX4_scanLetters 48 = .ok (.invokestatic 34, 3) := by decide +kernel
theorem dX4_scanLetters_51 : decode cX4_scanLetters 51 = .ok (.ifCond .eq 21, 3) := by decide +kernel
theorem dX4_scanLetters_54 : decode cX4_scanLetters 54 = .ok (.aload_n 0, 1) := by decide +kernel
theorem dX4_scanLetters_55 : decode cX4_scanLetters 55 = .ok (.iconst 0, 1) := by decide +kernel
theorem dX4_scanLetters_56 : decode cX4_scanLetters 56 = .ok (.putfield 25, 3) := by decide +kernel
theorem dX4_scanLetters_59 : decode cX4_scanLetters 59 = .ok (.aload_n 0, 1) := by decide +kernel
theorem dX4_scanLetters_60 : decode cX4_scanLetters 60 = .ok (.dup, 1) := by decide +kernel
theorem dX4_scanLetters_61 : decode cX4_scanLetters 61 = .ok (.getfield 28, 3) := by decide +kernel
theorem dX4_scanLetters_64 : decode cX4_scanLetters 64 = .ok (.iconst 1, 1) := by decide +kernel
theorem dX4_scanLetters_65 : decode cX4_scanLetters 65 = .ok (.iadd, 1) := by decide +kernel
theorem dX4_scanLetters_66 : decode cX4_scanLetters 66 = .ok (.putfield 28, 3) := by decide +kernel
theorem dX4_scanLetters_69 : decode cX4_scanLetters 69 = .ok (.goto (-41), 3) := by decide +kernel
theorem dX4_scanLetters_72 : decode cX4_scanLetters 72 = .ok (.return_, 1) := by decide +kernel
theorem dX4_scanNumber_0 : decode cX4_scanNumber 0 = .ok (.iconst 0, 1) := by decide +kernel
theorem dX4_scanNumber_1 : decode cX4_scanNumber 1 = .ok (.istore_n 1, 1) := by decide +kernel
theorem dX4_scanNumber_2 : decode cX4_scanNumber 2 = .ok (.aload_n 0, 1) := by decide +kernel
theorem dX4_scanNumber_3 : decode cX4_scanNumber 3 = .ok (.iconst 0, 1) := by decide +kernel
theorem dX4_scanNumber_4 : decode cX4_scanNumber 4 = .ok (.putfield 25, 3) := by decide +kernel
theorem dX4_scanNumber_7 : decode cX4_scanNumber 7 = .ok (.aload_n 0, 1) := by decide +kernel
theorem dX4_scanNumber_8 : decode cX4_scanNumber 8 = .ok (.getfield 28, 3) := by decide +kernel
theorem dX4_scanNumber_11 : decode cX4_scanNumber 11 = .ok (.aload_n 0, 1) := by decide +kernel
theorem dX4_scanNumber_12 : decode cX4_scanNumber 12 = .ok (.getfield 15, 3) := by decide +kernel
theorem dX4_scanNumber_15 : decode cX4_scanNumber 15 = .ok (.if_icmp .ge 88, 3) := by decide +kernel
theorem dX4_scanNumber_18 : decode cX4_scanNumber 18 = .ok (.aload_n 0, 1) := by decide +kernel
theorem dX4_scanNumber_19 : decode cX4_scanNumber 19 = .ok (.getfield 9, 3) := by decide +kernel
theorem dX4_scanNumber_22 : decode cX4_scanNumber 22 = .ok (.aload_n 0, 1) := by decide +kernel
theorem dX4_scanNumber_23 : decode cX4_scanNumber 23 = .ok (.getfield 28, 3) := by decide +kernel
theorem dX4_scanNumber_26 : decode cX4_scanNumber 26 = .ok (.iaload, 1) := by decide +kernel
theorem dX4_scanNumber_27 : decode cX4_scanNumber 27 = .ok (.invokestatic 41, 3) := by decide +kernel
theorem dX4_scanNumber_30 : decode cX4_scanNumber 30 = .ok (.ifCond .eq 73, 3) := by decide +kernel
theorem dX4_scanNumber_33 : decode cX4_scanNumber 33 = .ok (.iload_n 1, 1) := by decide +kernel
theorem dX4_scanNumber_34 : decode cX4_scanNumber 34 = .ok (.ifCond .ne 21, 3) := by decide +kernel
theorem dX4_scanNumber_37 : decode cX4_scanNumber 37 = .ok (.aload_n 0, 1) := by decide +kernel
theorem dX4_scanNumber_38 : decode cX4_scanNumber 38 = .ok (.getfield 28, 3) := by decide +kernel
theorem dX4_scanNumber_41 : decode cX4_scanNumber 41 = .ok (.aload_n 0, 1) := by decide +kernel
theorem dX4_scanNumber_42 : decode cX4_scanNumber 42 = .ok (.getfield 19, 3) := by decide +kernel
theorem dX4_scanNumber_45 : decode cX4_scanNumber 45 = .ok (.if_icmp .le 14, 3) := by decide +kernel
theorem dX4_scanNumber_48 : decode cX4_scanNumber 48 = .ok (.aload_n 0, 1) := by decide +kernel
theorem dX4_scanNumber_49 : decode cX4_scanNumber 49 = .ok (.getfield 25, 3) := by decide +kernel
theorem dX4_scanNumber_52 : decode cX4_scanNumber 52 = .ok (.ifCond .ne 7, 3) := by decide +kernel
theorem dX4_scanNumber_55 : decode cX4_scanNumber 55 = .ok (.iconst 1, 1) := by decide +kernel
theorem dX4_scanNumber_56 : decode cX4_scanNumber 56 = .ok (.goto 4, 3) := by decide +kernel
theorem dX4_scanNumber_59 : decode cX4_scanNumber 59 = .ok (.iconst 0, 1) := by decide +kernel
theorem dX4_scanNumber_60 : decode cX4_scanNumber 60 = .ok (.istore_n 1, 1) := by decide +kernel
theorem dX4_scanNumber_61 : decode cX4_scanNumber 61 = .ok (.aload_n 0, 1) := by decide +kernel
theorem dX4_scanNumber_62 : decode cX4_scanNumber 62 = .ok (.aload_n 0, 1) := by decide +kernel
theorem dX4_scanNumber_63 : decode cX4_scanNumber 63 = .ok (.getfield 25, 3) := by decide +kernel
theorem dX4_scanNumber_66 : decode cX4_scanNumber 66 = .ok (.bipush 10, 2) := by decide +kernel
theorem dX4_scanNumber_68 : decode cX4_scanNumber 68 = .ok (.imul, 1) := by decide +kernel
theorem dX4_scanNumber_69 : decode cX4_scanNumber 69 = .ok (.aload_n 0, 1) := by decide +kernel
theorem dX4_scanNumber_70 : decode cX4_scanNumber 70 = .ok (.getfield 9, 3) := by decide +kernel
theorem dX4_scanNumber_73 : decode cX4_scanNumber 73 = .ok (.aload_n 0, 1) := by decide +kernel
theorem dX4_scanNumber_74 : decode cX4_scanNumber 74 = .ok (.getfield 28, 3) := by decide +kernel
theorem dX4_scanNumber_77 : decode cX4_scanNumber 77 = .ok (.iaload, 1) := by decide +kernel
theorem dX4_scanNumber_78 : decode cX4_scanNumber 78 = .ok (.iadd, 1) := by decide +kernel
theorem dX4_scanNumber_79 : decode cX4_scanNumber 79 = .ok (.bipush 48, 2) := by decide +kernel
theorem dX4_scanNumber_81 : decode cX4_scanNumber 81 = .ok (.isub, 1) := by decide +kernel
theorem dX4_scanNumber_82 : decode cX4_scanNumber 82 = .ok (.bipush 100, 2) := by decide +kernel
theorem dX4_scanNumber_84 : decode cX4_scanNumber 84 = .ok (.invokestatic 47, 3) := by decide +kernel
theorem dX4_scanNumber_87 : decode cX4_scanNumber 87 = .ok (.putfield 25, 3) := by decide +kernel
theorem dX4_scanNumber_90 : decode cX4_scanNumber 90 = .ok (.aload_n 0, 1) := by decide +kernel
theorem dX4_scanNumber_91 : decode cX4_scanNumber 91 = .ok (.dup, 1) := by decide +kernel
theorem dX4_scanNumber_92 : decode cX4_scanNumber 92 = .ok (.getfield 28, 3) := by decide +kernel
theorem dX4_scanNumber_95 : decode cX4_scanNumber 95 = .ok (.iconst 1, 1) := by decide +kernel
theorem dX4_scanNumber_96 : decode cX4_scanNumber 96 = .ok (.iadd, 1) := by decide +kernel
theorem dX4_scanNumber_97 : decode cX4_scanNumber 97 = .ok (.putfield 28, 3) := by decide +kernel
theorem dX4_scanNumber_100 : decode cX4_scanNumber 100 = .ok (.goto (-93), 3) := by decide +kernel
theorem dX4_scanNumber_103 : decode cX4_scanNumber 103 = .ok (.aload_n 0, 1) := by decide +kernel
theorem dX4_scanNumber_104 : decode cX4_scanNumber 104 = .ok (.iload_n 1, 1) := by decide +kernel
theorem dX4_scanNumber_105 : decode cX4_scanNumber 105 = .ok (.ifCond .ne 12, 3) := by decide +kernel
theorem dX4_scanNumber_108 : decode cX4_scanNumber 108 = .ok (.aload_n 0, 1) := by decide +kernel
theorem dX4_scanNumber_109 : decode cX4_scanNumber 109 = .ok (.getfield 25, 3) := by decide +kernel
theorem dX4_scanNumber_112 : decode cX4_scanNumber 112 = .ok (.bipush 99, 2) := by decide +kernel
theorem dX4_scanNumber_114 : decode cX4_scanNumber 114 = .ok (.if_icmp .le 7, 3) := by decide +kernel
theorem dX4_scanNumber_117 : decode cX4_scanNumber 117 = .ok (.iconst 4, 1) := by decide +kernel
theorem dX4_scanNumber_118 : decode cX4_scanNumber 118 = .ok (.goto 4, 3) := by decide +kernel
theorem dX4_scanNumber_121 : decode cX4_scanNumber 121 = .ok (.iconst 2, 1) := by decide +kernel
theorem dX4_scanNumber_122 : decode cX4_scanNumber 122 = .ok (.putfield 22, 3) := by decide +kernel
theorem dX4_scanNumber_125 : decode cX4_scanNumber 125 = .ok (.return_, 1) := by decide +kernel
theorem dX4_isLetter_0 : decode cX4_isLetter 0 = .ok (.iload_n 0, 1) := by decide +kernel
theorem dX4_isLetter_1 : decode cX4_isLetter 1 = .ok (.bipush 97, 2) := by decide +kernel
theorem dX4_isLetter_3 : decode cX4_isLetter 3 = .ok (.if_icmp .lt 13, 3) := by decide +kernel
theorem dX4_isLetter_6 : decode cX4_isLetter 6 = .ok (.iload_n 0, 1) := by decide +kernel
theorem dX4_isLetter_7 : decode cX4_isLetter 7 = .ok (.bipush 122, 2) := by decide +kernel
theorem dX4_isLetter_9 : decode cX4_isLetter 9 = .ok (.if_icmp .gt 7, 3) := by decide +kernel
theorem dX4_isLetter_12 : decode cX4_isLetter 12 = .ok (.iconst 1, 1) := by decide +kernel
theorem dX4_isLetter_13 : decode cX4_isLetter 13 = .ok (.goto 4, 3) := by decide +kernel
theorem dX4_isLetter_16 : decode cX4_isLetter 16 = .ok (.iconst 0, 1) := by decide +kernel
theorem dX4_isLetter_17 : decode cX4_isLetter 17 = .ok (.ireturn, 1) := by decide +kernel
theorem dX4_isDigit_0 : decode cX4_isDigit 0 = .ok (.iload_n 0, 1) := by decide +kernel
theorem dX4_isDigit_1 : decode cX4_isDigit 1 = .ok (.bipush 48, 2) := by decide +kernel
theorem dX4_isDigit_3 : decode cX4_isDigit 3 = .ok (.if_icmp .lt 13, 3) := by decide +kernel
theorem dX4_isDigit_6 : decode cX4_isDigit 6 = .ok (.iload_n 0, 1) := by decide +kernel
theorem dX4_isDigit_7 : decode cX4_isDigit 7 = .ok (.bipush 57, 2) := by decide +kernel
theorem dX4_isDigit_9 : decode cX4_isDigit 9 = .ok (.if_icmp .gt 7, 3) := by decide +kernel
theorem dX4_isDigit_12 : decode cX4_isDigit 12 = .ok (.iconst 1, 1) := by decide +kernel
theorem dX4_isDigit_13 : decode cX4_isDigit 13 = .ok (.goto 4, 3) := by decide +kernel
theorem dX4_isDigit_16 : decode cX4_isDigit 16 = .ok (.iconst 0, 1) := by decide +kernel
theorem dX4_isDigit_17 : decode cX4_isDigit 17 = .ok (.ireturn, 1) := by decide +kernel
theorem dJ9_max_7cf53_0 : decode cJ9_max_7cf53 0 = .ok (.iload_n 0, 1) := by decide +kernel
theorem dJ9_max_7cf53_1 : decode cJ9_max_7cf53 1 = .ok (.iload_n 1, 1) := by decide +kernel
theorem dJ9_max_7cf53_2 : decode cJ9_max_7cf53 2 = .ok (.if_icmp .lt 7, 3) := by decide +kernel
theorem dJ9_max_7cf53_5 : decode cJ9_max_7cf53 5 = .ok (.iload_n 0, 1) := by decide +kernel
theorem dJ9_max_7cf53_6 : decode cJ9_max_7cf53 6 = .ok (.goto 4, 3) := by decide +kernel
theorem dJ9_max_7cf53_9 : decode cJ9_max_7cf53 9 = .ok (.iload_n 1, 1) := by decide +kernel
theorem dJ9_max_7cf53_10 : decode cJ9_max_7cf53 10 = .ok (.ireturn, 1) := by decide +kernel
theorem dJ9_min_7cf53_0 : decode cJ9_min_7cf53 0 = .ok (.iload_n 0, 1) := by decide +kernel
theorem dJ9_min_7cf53_1 : decode cJ9_min_7cf53 1 = .ok (.iload_n 1, 1) := by decide +kernel
theorem dJ9_min_7cf53_2 : decode cJ9_min_7cf53 2 = .ok (.if_icmp .gt 7, 3) := by decide +kernel
theorem dJ9_min_7cf53_5 : decode cJ9_min_7cf53 5 = .ok (.iload_n 0, 1) := by decide +kernel
theorem dJ9_min_7cf53_6 : decode cJ9_min_7cf53 6 = .ok (.goto 4, 3) := by decide +kernel
theorem dJ9_min_7cf53_9 : decode cJ9_min_7cf53 9 = .ok (.iload_n 1, 1) := by decide +kernel
theorem dJ9_min_7cf53_10 : decode cJ9_min_7cf53 10 = .ok (.ireturn, 1) := by decide +kernel
end
section
theorem dX5_init_0 : decode cX5_init 0 = .ok (.aload_n 0, 1) := by decide +kernel
theorem dX5_init_1 : decode cX5_init 1 = .ok (.invokespecial 3, 3) := by decide +kernel
theorem dX5_init_4 : decode cX5_init 4 = .ok (.aload_n 0, 1) := by decide +kernel
theorem dX5_init_5 : decode cX5_init 5 = .ok (.new 9, 3) := by decide +kernel
theorem dX5_init_8 : decode cX5_init 8 = .ok (.dup, 1) := by decide +kernel
theorem dX5_init_9 : decode cX5_init 9 = .ok (.invokespecial 11, 3) := by decide +kernel
theorem dX5_init_12 : decode cX5_init 12 = .ok (.putfield 12, 3) := by decide +kernel
theorem dX5_init_15 : decode cX5_init 15 = .ok (.aload_n 0, 1) := by decide +kernel
theorem dX5_init_16 : decode cX5_init 16 = .ok (.new 16, 3) := by decide +kernel
theorem dX5_init_19 : decode cX5_init 19 = .ok (.dup, 1) := by decide +kernel
theorem dX5_init_20 : decode cX5_init 20 = .ok (.invokespecial 18, 3) := by decide +kernel
theorem dX5_init_23 : decode cX5_init 23 = .ok (.putfield 19, 3) := by decide +kernel
theorem dX5_init_26 : decode cX5_init 26 = .ok (.aload_n 0, 1) := by decide +kernel
theorem dX5_init_27 : decode cX5_init 27 = .ok (.new 23, 3) := by decide +kernel
theorem dX5_init_30 : decode cX5_init 30 = .ok (.dup, 1) := by decide +kernel
theorem dX5_init_31 : decode cX5_init 31 = .ok (.invokespecial 25, 3) := by decide +kernel
theorem dX5_init_34 : decode cX5_init 34 = .ok (.putfield 26, 3) := by decide +kernel
theorem dX5_init_37 : decode cX5_init 37 = .ok (.aload_n 0, 1) := by decide +kernel
theorem dX5_init_38 : decode cX5_init 38 = .ok (.iconst 2, 1) := by decide +kernel
theorem dX5_init_39 : decode cX5_init 39 = .ok (.anewarray 23, 3) := by decide +kernel
theorem dX5_init_42 : decode cX5_init 42 = .ok (.putfield 30, 3) := by decide +kernel
theorem dX5_init_45 : decode cX5_init 45 = .ok (.aload_n 0, 1) := by decide +kernel
theorem dX5_init_46 : decode cX5_init 46 = .ok (.iconst 2, 1) := by decide +kernel
theorem dX5_init_47 : decode cX5_init 47 = .ok (.newarray .boolean, 2) := by decide +kernel
theorem dX5_init_49 : decode cX5_init 49 = .ok (.putfield 34, 3) := by decide +kernel
theorem dX5_init_52 : decode cX5_init 52 = .ok (.aload_n 0, 1) := by decide +kernel
theorem dX5_init_53 : decode cX5_init 53 = .ok (.new 38, 3) := by decide +kernel
theorem dX5_init_56 : decode cX5_init 56 = .ok (.dup, 1) := by decide +kernel
theorem dX5_init_57 : decode cX5_init 57 = .ok (.invokespecial 40, 3) := by decide +kernel
theorem dX5_init_60 : decode cX5_init 60 = .ok (.putfield 41, 3) := by decide +kernel
theorem dX5_init_63 : decode cX5_init 63 = .ok (.aload_n 0, 1) := by decide +kernel
theorem dX5_init_64 : decode cX5_init 64 = .ok (.bipush 6, 2) := by decide +kernel
theorem dX5_init_66 : decode cX5_init 66 = .ok (.newarray .int, 2) := by decide +kernel
theorem dX5_init_68 : decode cX5_init 68 = .ok (.putfield 45, 3) := by decide +kernel
theorem dX5_init_71 : decode cX5_init 71 = .ok (.aload_n 0, 1) := by decide +kernel
theorem dX5_init_72 : decode cX5_init 72 = .ok (.bipush 6, 2) := by decide +kernel
theorem dX5_init_74 : decode cX5_init 74 = .ok (.newarray .int, 2) := by decide +kernel
theorem dX5_init_76 : decode cX5_init 76 = .ok (.putfield 49, 3) := by decide +kernel
theorem dX5_init_79 : decode cX5_init 79 = .ok (.aload_n 0, 1) := by decide +kernel
theorem dX5_init_80 : decode cX5_init 80 = .ok (.iconst 0, 1) := by decide +kernel
theorem dX5_init_81 : decode cX5_init 81 = .ok (.putfield 52, 3) := by decide +kernel
theorem dX5_init_84 : decode cX5_init 84 = .ok (.aload_n 0, 1) := by decide +kernel
theorem dX5_init_85 : decode cX5_init 85 = .ok (.lconst 0, 1) := by decide +kernel
theorem dX5_init_86 : decode cX5_init 86 = .ok (.putfield 56, 3) := by decide +kernel
theorem dX5_init_89 : decode cX5_init 89 = .ok (.iconst 0, 1) := by decide +kernel
theorem dX5_init_90 : decode cX5_init 90 = .ok (.istore_n 1, 1) := by decide +kernel
theorem dX5_init_91 : decode cX5_init 91 = .ok (.iload_n 1, 1) := by decide +kernel
theorem dX5_init_92 : decode cX5_init 92 = .ok (.iconst 2, 1) := by decide +kernel
theorem dX5_init_93 : decode cX5_init 93 = .ok (.if_icmp .ge 22, 3) := by decide +kernel
theorem dX5_init_96 : decode cX5_init 96 = .ok (.aload_n 0, 1) := by decide +kernel
theorem dX5_init_97 : decode cX5_init 97 = .ok (.getfield 30, 3) := by decide +kernel
theorem dX5_init_100 : decode cX5_init 100 = .ok (.iload_n 1, 1) := by decide +kernel
theorem dX5_init_101 : decode cX5_init 101 = .ok (.new 23, 3) := by decide +kernel
theorem dX5_init_104 : decode cX5_init 104 = .ok (.dup, 1) := by decide +kernel
theorem dX5_init_105 : decode cX5_init 105 = .ok (.invokespecial 25, 3) := by decide +kernel
theorem dX5_init_108 : decode cX5_init 108 = .ok (.aastore, 1) := by decide +kernel
theorem dX5_init_109 : decode cX5_init 109 = .ok (.iinc 1 1, 3) := by decide +kernel
theorem dX5_init_112 : decode cX5_init 112 = .ok (.goto (-21), 3) := by decide +kernel
theorem dX5_init_115 : decode cX5_init 115 = .ok (.return_, 1) := by decide +kernel
theorem dX5_type_0 : decode cX5_type 0 = .ok (.iload_n 1, 1) := by decide +kernel
theorem dX5_type_1 : decode cX5_type 1 = .ok (.iconst 0, 1) := by decide +kernel
theorem dX5_type_2 : decode cX5_type 2 = .ok (.sipush 255, 3) := by decide +kernel
theorem dX5_type_5 : decode cX5_type 5 = .ok (.invokestatic 60, 3) := by decide +kernel
theorem dX5_type_8 : decode cX5_type 8 = .ok (.ifCond .ne 5, 3) := by decide +kernel
theorem dX5_type_11 : decode cX5_type 11 = .ok (.iconst (-1), 1) := by decide +kernel
theorem dX5_type_12 : decode cX5_type 12 = .ok (.ireturn, 1) := by decide +kernel
theorem dX5_type_13 : decode cX5_type 13 = .ok (.aload_n 0, 1) := by decide +kernel
theorem dX5_type_14 : decode cX5_type 14 = .ok (.getfield 12, 3) := by decide +kernel
theorem dX5_type_17 : decode cX5_type 17 = .ok (.getfield 64, 3) := by decide +kernel
theorem dX5_type_20 : decode cX5_type 20 = .ok (.iload_n 1, 1) := by decide +kernel
theorem dX5_type_21 : decode cX5_type 21 = .ok (.invokevirtual 68, 3) := by decide +kernel
theorem dX5_type_24 : decode cX5_type 24 = .ok (.ifCond .eq 16, 3) := by decide +kernel
theorem dX5_type_27 : decode cX5_type 27 = .ok (.aload_n 0, 1) := by decide +kernel
theorem dX5_type_28 : decode cX5_type 28 = .ok (.getfield 12, 3) := by decide +kernel
theorem dX5_type_31 : decode cX5_type 31 = .ok (.getfield 64, 3) := by decide +kernel
theorem dX5_type_34 : decode cX5_type 34 = .ok (.getfield 74, 3) := by decide +kernel
theorem dX5_type_37 : decode cX5_type 37 = .ok (.goto 5, 3) := by decide +kernel
theorem dX5_type_40 : decode cX5_type 40 = .ok (.bipush (-3), 2) := by decide +kernel
theorem dX5_type_42 : decode cX5_type 42 = .ok (.ireturn, 1) := by decide +kernel
theorem dX5_clear_0 : decode cX5_clear 0 = .ok (.aload_n 0, 1) := by decide +kernel
theorem dX5_clear_1 : decode cX5_clear 1 = .ok (.getfield 12, 3) := by decide +kernel
theorem dX5_clear_4 : decode cX5_clear 4 = .ok (.getfield 64, 3) := by decide +kernel
theorem dX5_clear_7 : decode cX5_clear 7 = .ok (.invokevirtual 77, 3) := by decide +kernel
theorem dX5_clear_10 : decode cX5_clear 10 = .ok (.ireturn, 1) := by decide +kernel
theorem dX5_valley_0 : decode cX5_valley 0 = .ok (.aload_n 0, 1) := by decide +kernel
theorem dX5_valley_1 : decode cX5_valley 1 = .ok (.getfield 12, 3) := by decide +kernel
theorem dX5_valley_4 : decode cX5_valley 4 = .ok (.invokevirtual 81, 3) := by decide +kernel
theorem dX5_valley_7 : decode cX5_valley 7 = .ok (.istore_n 1, 1) := by decide +kernel
theorem dX5_valley_8 : decode cX5_valley 8 = .ok (.iload_n 1, 1) := by decide +kernel
theorem dX5_valley_9 : decode cX5_valley 9 = .ok (.ifCond .ge 5, 3) := by decide +kernel
theorem dX5_valley_12 : decode cX5_valley 12 = .ok (.iload_n 1, 1) := by decide +kernel
theorem dX5_valley_13 : decode cX5_valley 13 = .ok (.ireturn, 1) := by decide +kernel
theorem dX5_valley_14 : decode cX5_valley 14 = .ok (.aload_n 0, 1) := by decide +kernel
theorem dX5_valley_15 : decode cX5_valley 15 = .ok (.aload_n 0, 1) := by decide +kernel
theorem dX5_valley_16 : decode cX5_valley 16 = .ok (.getfield 12, 3) := by decide +kernel
theorem dX5_valley_19 : decode cX5_valley 19 = .ok (.aload_n 0, 1) := by decide +kernel
theorem dX5_valley_20 : decode cX5_valley 20 = .ok (.getfield 19, 3) := by decide +kernel
theorem dX5_valley_23 : decode cX5_valley 23 = .ok (.invokevirtual 84, 3) := by decide +kernel
theorem dX5_valley_26 : decode cX5_valley 26 = .ok (.putfield 19, 3) := by decide +kernel
theorem dX5_valley_29 : decode cX5_valley 29 = .ok (.aload_n 0, 1) := by decide +kernel
theorem dX5_valley_30 : decode cX5_valley 30 = .ok (.getfield 12, 3) := by decide +kernel
theorem dX5_valley_33 : decode cX5_valley 33 = .ok (.getfield 64, 3) := by decide +kernel
theorem dX5_valley_36 : decode cX5_valley 36 = .ok (.invokevirtual 77, 3) := by decide +kernel
theorem dX5_valley_39 : decode cX5_valley 39 = .ok (.pop, 1) := by decide +kernel
theorem dX5_valley_40 : decode cX5_valley 40 = .ok (.aload_n 0, 1) := by decide +kernel
theorem dX5_valley_41 : decode cX5_valley 41 = .ok (.getfield 26, 3) := by decide +kernel
theorem dX5_valley_44 : decode cX5_valley 44 = .ok (.invokevirtual 88, 3) := by decide +kernel
theorem dX5_valley_47 : decode cX5_valley 47 = .ok (.aload_n 0, 1) := by decide +kernel
theorem dX5_valley_48 : decode cX5_valley 48 = .ok (.iconst 0, 1) := by decide +kernel
theorem dX5_valley_49 : decode cX5_valley 49 = .ok (.putfield 52, 3) := by decide +kernel
theorem dX5_valley_52 : decode cX5_valley 52 = .ok (.iconst 0, 1) := by decide +kernel
theorem dX5_valley_53 : decode cX5_valley 53 = .ok (.istore_n 2, 1) := by decide +kernel
theorem dX5_valley_54 : decode cX5_valley 54 = .ok (.iload_n 2, 1) := by decide +kernel
theorem dX5_valley_55 : decode cX5_valley 55 = .ok (.iconst 2, 1) := by decide +kernel
theorem dX5_valley_56 : decode cX5_valley 56 = .ok (.if_icmp .ge 16, 3) := by decide +kernel
theorem dX5_valley_59 : decode cX5_valley 59 = .ok (.aload_n 0, 1) := by decide +kernel
theorem dX5_valley_60 : decode cX5_valley 60 = .ok (.getfield 34, 3) := by decide +kernel
theorem dX5_valley_63 : decode cX5_valley 63 = .ok (.iload_n 2, 1) := by decide +kernel
theorem dX5_valley_64 : decode cX5_valley 64 = .ok (.iconst 0, 1) := by decide +kernel
theorem dX5_valley_65 : decode cX5_valley 65 = .ok (.bastore, 1) := by decide +kernel
theorem dX5_valley_66 : decode cX5_valley 66 = .ok (.iinc 2 1, 3) := by decide +kernel
theorem dX5_valley_69 : decode cX5_valley 69 = .ok (.goto (-15), 3) := by decide +kernel
theorem dX5_valley_72 : decode cX5_valley 72 = .ok (.iload_n 1, 1) := by decide +kernel
theorem dX5_valley_73 : decode cX5_valley 73 = .ok (.ireturn, 1) := by decide +kernel
theorem dX5_day_0 : decode cX5_day 0 = .ok (.aload_n 0, 1) := by decide +kernel
theorem dX5_day_1 : decode cX5_day 1 = .ok (.iload_n 1, 1) := by decide +kernel
theorem dX5_day_2 : decode cX5_day 2 = .ok (.invokevirtual 91, 3) := by decide +kernel
theorem dX5_day_5 : decode cX5_day 5 = .ok (.ifCond .ne 5, 3) := by decide +kernel
theorem dX5_day_8 : decode cX5_day 8 = .ok (.iconst (-1), 1) := by decide +kernel
theorem dX5_day_9 : decode cX5_day 9 = .ok (.ireturn, 1) := by decide +kernel
theorem dX5_day_10 : decode cX5_day 10 = .ok (.iload_n 2, 1) := by decide +kernel
theorem dX5_day_11 : decode cX5_day 11 = .ok (.tableswitch 67 0 3 #[29, 39, 49, 55], 29) := by decide +kernel
theorem dX5_day_40 : decode cX5_day 40 = .ok (.aload_n 0, 1) := by decide +kernel
theorem dX5_day_41 : decode cX5_day 41 = .ok (.getfield 19, 3) := by decide +kernel
theorem dX5_day_44 : decode cX5_day 44 = .ok (.getfield 94, 3) := by decide +kernel
theorem dX5_day_47 : decode cX5_day 47 = .ok (.iload_n 1, 1) := by decide +kernel
theorem dX5_day_48 : decode cX5_day 48 = .ok (.iaload, 1) := by decide +kernel
theorem dX5_day_49 : decode cX5_day 49 = .ok (.ireturn, 1) := by decide +kernel
theorem dX5_day_50 : decode cX5_day 50 = .ok (.aload_n 0, 1) := by decide +kernel
theorem dX5_day_51 : decode cX5_day 51 = .ok (.getfield 19, 3) := by decide +kernel
theorem dX5_day_54 : decode cX5_day 54 = .ok (.getfield 97, 3) := by decide +kernel
theorem dX5_day_57 : decode cX5_day 57 = .ok (.iload_n 1, 1) := by decide +kernel
theorem dX5_day_58 : decode cX5_day 58 = .ok (.iaload, 1) := by decide +kernel
theorem dX5_day_59 : decode cX5_day 59 = .ok (.ireturn, 1) := by decide +kernel
theorem dX5_day_60 : decode cX5_day 60 = .ok (.aload_n 0, 1) := by decide +kernel
theorem dX5_day_61 : decode cX5_day 61 = .ok (.iload_n 1, 1) := by decide +kernel
theorem dX5_day_62 : decode cX5_day 62 = .ok (.invokevirtual 100, 3) := by decide +kernel
theorem dX5_day_65 : decode cX5_day 65 = .ok (.ireturn, 1) := by decide +kernel
theorem dX5_day_66 : decode cX5_day 66 = .ok (.aload_n 0, 1) := by decide +kernel
theorem dX5_day_67 : decode cX5_day 67 = .ok (.getfield 26, 3) := by decide +kernel
theorem dX5_day_70 : decode cX5_day 70 = .ok (.getfield 104, 3) := by decide +kernel
theorem dX5_day_73 : decode cX5_day 73 = .ok (.iload_n 1, 1) := by decide +kernel
theorem dX5_day_74 : decode cX5_day 74 = .ok (.invokevirtual 107, 3) := by decide +kernel
theorem dX5_day_77 : decode cX5_day 77 = .ok (.ireturn, 1) := by decide +kernel
theorem dX5_day_78 : decode cX5_day 78 = .ok (.iconst (-1), 1) := by decide +kernel
theorem dX5_day_79 : decode cX5_day 79 = .ok (.ireturn, 1) := by decide +kernel
theorem dX5_crop_0 : decode cX5_crop 0 = .ok (.aload_n 0, 1) := by decide +kernel
theorem dX5_crop_1 : decode cX5_crop 1 = .ok (.iload_n 1, 1) := by decide +kernel
theorem dX5_crop_2 : decode cX5_crop 2 = .ok (.invokevirtual 110, 3) := by decide +kernel
theorem dX5_crop_5 : decode cX5_crop 5 = .ok (.ifCond .ne 5, 3) := by decide +kernel
theorem dX5_crop_8 : decode cX5_crop 8 = .ok (.iconst (-1), 1) := by decide +kernel
theorem dX5_crop_9 : decode cX5_crop 9 = .ok (.ireturn, 1) := by decide +kernel
theorem dX5_crop_10 : decode cX5_crop 10 = .ok (.iload_n 2, 1) := by decide +kernel
theorem dX5_crop_11 : decode cX5_crop 11 = .ok (.tableswitch 90 0 4 #[33, 43, 53, 63, 77], 33) := by decide +kernel
theorem dX5_crop_44 : decode cX5_crop 44 = .ok (.aload_n 0, 1) := by decide +kernel
theorem dX5_crop_45 : decode cX5_crop 45 = .ok (.getfield 19, 3) := by decide +kernel
theorem dX5_crop_48 : decode cX5_crop 48 = .ok (.getfield 113, 3) := by decide +kernel
theorem dX5_crop_51 : decode cX5_crop 51 = .ok (.iload_n 1, 1) := by decide +kernel
theorem dX5_crop_52 : decode cX5_crop 52 = .ok (.iaload, 1) := by decide +kernel
theorem dX5_crop_53 : decode cX5_crop 53 = .ok (.ireturn, 1) := by decide +kernel
theorem dX5_crop_54 : decode cX5_crop 54 = .ok (.aload_n 0, 1) := by decide +kernel
theorem dX5_crop_55 : decode cX5_crop 55 = .ok (.getfield 19, 3) := by decide +kernel
theorem dX5_crop_58 : decode cX5_crop 58 = .ok (.getfield 116, 3) := by decide +kernel
theorem dX5_crop_61 : decode cX5_crop 61 = .ok (.iload_n 1, 1) := by decide +kernel
theorem dX5_crop_62 : decode cX5_crop 62 = .ok (.iaload, 1) := by decide +kernel
theorem dX5_crop_63 : decode cX5_crop 63 = .ok (.ireturn, 1) := by decide +kernel
theorem dX5_crop_64 : decode cX5_crop 64 = .ok (.aload_n 0, 1) := by decide +kernel
theorem dX5_crop_65 : decode cX5_crop 65 = .ok (.getfield 19, 3) := by decide +kernel
theorem dX5_crop_68 : decode cX5_crop 68 = .ok (.getfield 119, 3) := by decide +kernel
theorem dX5_crop_71 : decode cX5_crop 71 = .ok (.iload_n 1, 1) := by decide +kernel
theorem dX5_crop_72 : decode cX5_crop 72 = .ok (.iaload, 1) := by decide +kernel
theorem dX5_crop_73 : decode cX5_crop 73 = .ok (.ireturn, 1) := by decide +kernel
theorem dX5_crop_74 : decode cX5_crop 74 = .ok (.aload_n 0, 1) := by decide +kernel
theorem dX5_crop_75 : decode cX5_crop 75 = .ok (.iload_n 1, 1) := by decide +kernel
theorem dX5_crop_76 : decode cX5_crop 76 = .ok (.invokevirtual 122, 3) := by decide +kernel
theorem dX5_crop_79 : decode cX5_crop 79 = .ok (.ifCond .eq 7, 3) := by decide +kernel
theorem dX5_crop_82 : decode cX5_crop 82 = .ok (.iconst 1, 1) := by decide +kernel
theorem dX5_crop_83 : decode cX5_crop 83 = .ok (.goto 4, 3) := by decide +kernel
theorem dX5_crop_86 : decode cX5_crop 86 = .ok (.iconst 0, 1) := by decide +kernel
theorem dX5_crop_87 : decode cX5_crop 87 = .ok (.ireturn, 1) := by decide +kernel
theorem dX5_crop_88 : decode cX5_crop 88 = .ok (.aload_n 0, 1) := by decide +kernel
theorem dX5_crop_89 : decode cX5_crop 89 = .ok (.getfield 19, 3) := by decide +kernel
theorem dX5_crop_92 : decode cX5_crop 92 = .ok (.iload_n 1, 1) := by decide +kernel
theorem dX5_crop_93 : decode cX5_crop 93 = .ok (.aload_n 0, 1) := by decide +kernel
theorem dX5_crop_94 : decode cX5_crop 94 = .ok (.invokevirtual 125, 3) := by decide +kernel
theorem dX5_crop_97 : decode cX5_crop 97 = .ok (.invokevirtual 128, 3) := by decide +kernel
theorem dX5_crop_100 : decode cX5_crop 100 = .ok (.ireturn, 1) := by decide +kernel
theorem dX5_crop_101 : decode cX5_crop 101 = .ok (.iconst (-1), 1) := by decide +kernel
theorem dX5_crop_102 : decode cX5_crop 102 = .ok (.ireturn, 1) := by decide +kernel
theorem dX5_loan_0 : decode cX5_loan 0 = .ok (.iload_n 1, 1) := by decide +kernel
theorem dX5_loan_1 : decode cX5_loan 1 = .ok (.invokestatic 132, 3) := by decide +kernel
theorem dX5_loan_4 : decode cX5_loan 4 = .ok (.ifCond .eq 12, 3) := by decide +kernel
theorem dX5_loan_7 : decode cX5_loan 7 = .ok (.iload_n 2, 1) := by decide +kernel
theorem dX5_loan_8 : decode cX5_loan 8 = .ok (.iconst 0, 1) := by decide +kernel
theorem dX5_loan_9 : decode cX5_loan 9 = .ok (.iconst 2, 1) := by decide +kernel
theorem dX5_loan_10 : decode cX5_loan 10 = .ok (.invokestatic 60, 3) := by decide +kernel
theorem dX5_loan_13 : decode cX5_loan 13 = .ok (.ifCond .ne 5, 3) := by decide +kernel
theorem dX5_loan_16 : decode cX5_loan 16 = .ok (.iconst (-1), 1) := by decide +kernel
theorem dX5_loan_17 : decode cX5_loan 17 = .ok (.ireturn, 1) := by decide +kernel
theorem dX5_loan_18 : decode cX5_loan 18 = .ok (.aload_n 0, 1) := by decide +kernel
theorem dX5_loan_19 : decode cX5_loan 19 = .ok (.getfield 26, 3) := by decide +kernel
theorem dX5_loan_22 : decode cX5_loan 22 = .ok (.getfield 104, 3) := by decide +kernel
theorem dX5_loan_25 : decode cX5_loan 25 = .ok (.astore_n 3, 1) := by decide +kernel
theorem dX5_loan_26 : decode cX5_loan 26 = .ok (.aload_n 3, 1) := by decide +kernel
theorem dX5_loan_27 : decode cX5_loan 27 = .ok (.iload_n 1, 1) := by decide +kernel
theorem dX5_loan_28 : decode cX5_loan 28 = .ok (.invokevirtual 135, 3) := by decide +kernel
theorem dX5_loan_31 : decode cX5_loan 31 = .ok (.ifCond .eq 6, 3) := by decide +kernel
theorem dX5_loan_34 : decode cX5_loan 34 = .ok (.bipush (-9), 2) := by decide +kernel
theorem dX5_loan_36 : decode cX5_loan 36 = .ok (.ireturn, 1) := by decide +kernel
theorem dX5_loan_37 : decode cX5_loan 37 = .ok (.iload_n 2, 1) := by decide +kernel
theorem dX5_loan_38 : decode cX5_loan 38 = .ok (.lookupswitch 40 #[(0, 26), (1, 33)], 26) := by decide +kernel
theorem dX5_loan_64 : decode cX5_loan 64 = .ok (.aload_n 3, 1) := by decide +kernel
theorem dX5_loan_65 : decode cX5_loan 65 = .ok (.getfield 138, 3) := by decide +kernel
theorem dX5_loan_68 : decode cX5_loan 68 = .ok (.iload_n 1, 1) := by decide +kernel
theorem dX5_loan_69 : decode cX5_loan 69 = .ok (.iaload, 1) := by decide +kernel
theorem dX5_loan_70 : decode cX5_loan 70 = .ok (.ireturn, 1) := by decide +kernel
theorem dX5_loan_71 : decode cX5_loan 71 = .ok (.aload_n 3, 1) := by decide +kernel
theorem dX5_loan_72 : decode cX5_loan 72 = .ok (.getfield 141, 3) := by decide +kernel
theorem dX5_loan_75 : decode cX5_loan 75 = .ok (.iload_n 1, 1) := by decide +kernel
theorem dX5_loan_76 : decode cX5_loan 76 = .ok (.iaload, 1) := by decide +kernel
theorem dX5_loan_77 : decode cX5_loan 77 = .ok (.ireturn, 1) := by decide +kernel
theorem dX5_loan_78 : decode cX5_loan 78 = .ok (.aload_n 3, 1) := by decide +kernel
theorem dX5_loan_79 : decode cX5_loan 79 = .ok (.getfield 144, 3) := by decide +kernel
theorem dX5_loan_82 : decode cX5_loan 82 = .ok (.iload_n 1, 1) := by decide +kernel
theorem dX5_loan_83 : decode cX5_loan 83 = .ok (.iaload, 1) := by decide +kernel
theorem dX5_loan_84 : decode cX5_loan 84 = .ok (.ireturn, 1) := by decide +kernel
theorem dX5_pawns_0 : decode cX5_pawns 0 = .ok (.aload_n 0, 1) := by decide +kernel
theorem dX5_pawns_1 : decode cX5_pawns 1 = .ok (.iload_n 1, 1) := by decide +kernel
theorem dX5_pawns_2 : decode cX5_pawns 2 = .ok (.invokevirtual 91, 3) := by decide +kernel
theorem dX5_pawns_5 : decode cX5_pawns 5 = .ok (.ifCond .eq 13, 3) := by decide +kernel
theorem dX5_pawns_8 : decode cX5_pawns 8 = .ok (.iload_n 2, 1) := by decide +kernel
theorem dX5_pawns_9 : decode cX5_pawns 9 = .ok (.iconst 1, 1) := by decide +kernel
theorem dX5_pawns_10 : decode cX5_pawns 10 = .ok (.bipush 9, 2) := by decide +kernel
theorem dX5_pawns_12 : decode cX5_pawns 12 = .ok (.invokestatic 60, 3) := by decide +kernel
theorem dX5_pawns_15 : decode cX5_pawns 15 = .ok (.ifCond .ne 5, 3) := by decide +kernel
theorem dX5_pawns_18 : decode cX5_pawns 18 = .ok (.iconst (-1), 1) := by decide +kernel
theorem dX5_pawns_19 : decode cX5_pawns 19 = .ok (.ireturn, 1) := by decide +kernel
theorem dX5_pawns_20 : decode cX5_pawns 20 = .ok (.aload_n 0, 1) := by decide +kernel
theorem dX5_pawns_21 : decode cX5_pawns 21 = .ok (.getfield 26, 3) := by decide +kernel
theorem dX5_pawns_24 : decode cX5_pawns 24 = .ok (.getfield 104, 3) := by decide +kernel
theorem dX5_pawns_27 : decode cX5_pawns 27 = .ok (.invokevirtual 147, 3) := by decide +kernel
theorem dX5_pawns_30 : decode cX5_pawns 30 = .ok (.istore_n 3, 1) := by decide +kernel
theorem dX5_pawns_31 : decode cX5_pawns 31 = .ok (.aload_n 0, 1) := by decide +kernel
theorem dX5_pawns_32 : decode cX5_pawns 32 = .ok (.iload_n 1, 1) := by decide +kernel
theorem dX5_pawns_33 : decode cX5_pawns 33 = .ok (.iload_n 2, 1) := by decide +kernel
theorem dX5_pawns_34 : decode cX5_pawns 34 = .ok (.invokevirtual 150, 3) := by decide +kernel
theorem dX5_pawns_37 : decode cX5_pawns 37 = .ok (.ifCond .eq 9, 3) := by decide +kernel
theorem dX5_pawns_40 : decode cX5_pawns 40 = .ok (.iload_n 3, 1) := by decide +kernel
theorem dX5_pawns_41 : decode cX5_pawns 41 = .ok (.bipush (-9), 2) := by decide +kernel
theorem dX5_pawns_43 : decode cX5_pawns 43 = .ok (.if_icmp .ne 6, 3) := by decide +kernel
theorem dX5_pawns_46 : decode cX5_pawns 46 = .ok (.bipush (-2), 2) := by decide +kernel
theorem dX5_pawns_48 : decode cX5_pawns 48 = .ok (.ireturn, 1) := by decide +kernel
theorem dX5_pawns_49 : decode cX5_pawns 49 = .ok (.aload_n 0, 1) := by decide +kernel
theorem dX5_pawns_50 : decode cX5_pawns 50 = .ok (.getfield 26, 3) := by decide +kernel
theorem dX5_pawns_53 : decode cX5_pawns 53 = .ok (.invokevirtual 154, 3) := by decide +kernel
theorem dX5_pawns_56 : decode cX5_pawns 56 = .ok (.aload_n 0, 1) := by decide +kernel
theorem dX5_pawns_57 : decode cX5_pawns 57 = .ok (.getfield 19, 3) := by decide +kernel
theorem dX5_pawns_60 : decode cX5_pawns 60 = .ok (.iload_n 1, 1) := by decide +kernel
theorem dX5_pawns_61 : decode cX5_pawns 61 = .ok (.iload_n 2, 1) := by decide +kernel
theorem dX5_pawns_62 : decode cX5_pawns 62 = .ok (.invokevirtual 157, 3) := by decide +kernel
theorem dX5_pawns_65 : decode cX5_pawns 65 = .ok (.istore 4, 2) := by decide +kernel
theorem dX5_pawns_67 : decode cX5_pawns 67 = .ok (.aload_n 0, 1) := by decide +kernel
theorem dX5_pawns_68 : decode cX5_pawns 68 = .ok (.getfield 26, 3) := by decide +kernel
theorem dX5_pawns_71 : decode cX5_pawns 71 = .ok (.getfield 104, 3) := by decide +kernel
theorem dX5_pawns_74 : decode cX5_pawns 74 = .ok (.iload_n 3, 1) := by decide +kernel
theorem dX5_pawns_75 : decode cX5_pawns 75 = .ok (.iload_n 1, 1) := by decide +kernel
theorem dX5_pawns_76 : decode cX5_pawns 76 = .ok (.iload_n 2, 1) := by decide +kernel
theorem dX5_pawns_77 : decode cX5_pawns 77 = .ok (.invokestatic 160, 3) := by decide +kernel
theorem dX5_pawns_80 : decode cX5_pawns 80 = .ok (.iload 4, 2) := by decide +kernel
theorem dX5_pawns_82 : decode cX5_pawns 82 = .ok (.invokevirtual 163, 3) := by decide +kernel
theorem dX5_pawns_85 : decode cX5_pawns 85 = .ok (.iload 4, 2) := by decide +kernel
theorem dX5_pawns_87 : decode cX5_pawns 87 = .ok (.ireturn, 1) := by decide +kernel
theorem dX5_redeems_0 : decode cX5_redeems 0 = .ok (.iload_n 1, 1) := by decide +kernel
theorem dX5_redeems_1 : decode cX5_redeems 1 = .ok (.invokestatic 132, 3) := by decide +kernel
theorem dX5_redeems_4 : decode cX5_redeems 4 = .ok (.ifCond .ne 5, 3) := by decide +kernel
theorem dX5_redeems_7 : decode cX5_redeems 7 = .ok (.iconst (-1), 1) := by decide +kernel
theorem dX5_redeems_8 : decode cX5_redeems 8 = .ok (.ireturn, 1) := by decide +kernel
theorem dX5_redeems_9 : decode cX5_redeems 9 = .ok (.aload_n 0, 1) := by decide +kernel
theorem dX5_redeems_10 : decode cX5_redeems 10 = .ok (.getfield 26, 3) := by decide +kernel
theorem dX5_redeems_13 : decode cX5_redeems 13 = .ok (.getfield 104, 3) := by decide +kernel
theorem dX5_redeems_16 : decode cX5_redeems 16 = .ok (.astore_n 2, 1) := by decide +kernel
theorem dX5_redeems_17 : decode cX5_redeems 17 = .ok (.aload_n 2, 1) := by decide +kernel
theorem dX5_redeems_18 : decode cX5_redeems 18 = .ok (.iload_n 1, 1) := by decide +kernel
theorem dX5_redeems_19 : decode cX5_redeems 19 = .ok (.invokevirtual 135, 3) := by decide +kernel
theorem dX5_redeems_22 : decode cX5_redeems 22 = .ok (.ifCond .ne 16, 3) := by decide +kernel
theorem dX5_redeems_25 : decode cX5_redeems 25 = .ok (.aload_n 2, 1) := by decide +kernel
theorem dX5_redeems_26 : decode cX5_redeems 26 = .ok (.getfield 167, 3) := by decide +kernel
theorem dX5_redeems_29 : decode cX5_redeems 29 = .ok (.aload_n 2, 1) := by decide +kernel
theorem dX5_redeems_30 : decode cX5_redeems 30 = .ok (.getfield 141, 3) := by decide +kernel
theorem dX5_redeems_33 : decode cX5_redeems 33 = .ok (.iload_n 1, 1) := by decide +kernel
theorem dX5_redeems_34 : decode cX5_redeems 34 = .ok (.iaload, 1) := by decide +kernel
theorem dX5_redeems_35 : decode cX5_redeems 35 = .ok (.if_icmp .ge 6, 3) := by decide +kernel
theorem dX5_redeems_38 : decode cX5_redeems 38 = .ok (.bipush (-2), 2) := by decide +kernel
theorem dX5_redeems_40 : decode cX5_redeems 40 = .ok (.ireturn, 1) := by decide +kernel
theorem dX5_redeems_41 : decode cX5_redeems 41 = .ok (.aload_n 0, 1) := by decide +kernel
theorem dX5_redeems_42 : decode cX5_redeems 42 = .ok (.getfield 26, 3) := by decide +kernel
theorem dX5_redeems_45 : decode cX5_redeems 45 = .ok (.invokevirtual 154, 3) := by decide +kernel
theorem dX5_redeems_48 : decode cX5_redeems 48 = .ok (.aload_n 2, 1) := by decide +kernel
theorem dX5_redeems_49 : decode cX5_redeems 49 = .ok (.iload_n 1, 1) := by decide +kernel
theorem dX5_redeems_50 : decode cX5_redeems 50 = .ok (.invokevirtual 170, 3) := by decide +kernel
theorem dX5_redeems_53 : decode cX5_redeems 53 = .ok (.aload_n 2, 1) := by decide +kernel
theorem dX5_redeems_54 : decode cX5_redeems 54 = .ok (.getfield 167, 3) := by decide +kernel
theorem dX5_redeems_57 : decode cX5_redeems 57 = .ok (.ireturn, 1) := by decide +kernel
theorem dX5_year_0 : decode cX5_year 0 = .ok (.aload_n 0, 1) := by decide +kernel
theorem dX5_year_1 : decode cX5_year 1 = .ok (.getfield 26, 3) := by decide +kernel
theorem dX5_year_4 : decode cX5_year 4 = .ok (.getfield 104, 3) := by decide +kernel
theorem dX5_year_7 : decode cX5_year 7 = .ok (.getfield 174, 3) := by decide +kernel
theorem dX5_year_10 : decode cX5_year 10 = .ok (.bipush 99, 2) := by decide +kernel
theorem dX5_year_12 : decode cX5_year 12 = .ok (.if_icmp .lt 6, 3) := by decide +kernel
theorem dX5_year_15 : decode cX5_year 15 = .ok (.bipush (-2), 2) := by decide +kernel
theorem dX5_year_17 : decode cX5_year 17 = .ok (.ireturn, 1) := by decide +kernel
theorem dX5_year_18 : decode cX5_year 18 = .ok (.aload_n 0, 1) := by decide +kernel
theorem dX5_year_19 : decode cX5_year 19 = .ok (.getfield 26, 3) := by decide +kernel
theorem dX5_year_22 : decode cX5_year 22 = .ok (.invokevirtual 154, 3) := by decide +kernel
theorem dX5_year_25 : decode cX5_year 25 = .ok (.aload_n 0, 1) := by decide +kernel
theorem dX5_year_26 : decode cX5_year 26 = .ok (.getfield 26, 3) := by decide +kernel
theorem dX5_year_29 : decode cX5_year 29 = .ok (.getfield 104, 3) := by decide +kernel
theorem dX5_year_32 : decode cX5_year 32 = .ok (.aload_n 0, 1) := by decide +kernel
theorem dX5_year_33 : decode cX5_year 33 = .ok (.getfield 19, 3) := by decide +kernel
theorem dX5_year_36 : decode cX5_year 36 = .ok (.invokevirtual 177, 3) := by decide +kernel
theorem dX5_year_39 : decode cX5_year 39 = .ok (.ireturn, 1) := by decide +kernel
theorem dX5_undo_0 : decode cX5_undo 0 = .ok (.aload_n 0, 1) := by decide +kernel
theorem dX5_undo_1 : decode cX5_undo 1 = .ok (.getfield 26, 3) := by decide +kernel
theorem dX5_undo_4 : decode cX5_undo 4 = .ok (.invokevirtual 181, 3) := by decide +kernel
theorem dX5_undo_7 : decode cX5_undo 7 = .ok (.ifCond .eq 13, 3) := by decide +kernel
theorem dX5_undo_10 : decode cX5_undo 10 = .ok (.aload_n 0, 1) := by decide +kernel
theorem dX5_undo_11 : decode cX5_undo 11 = .ok (.getfield 26, 3) := by decide +kernel
theorem dX5_undo_14 : decode cX5_undo 14 = .ok (.getfield 185, 3) := by decide +kernel
theorem dX5_undo_17 : decode cX5_undo 17 = .ok (.goto 5, 3) := by decide +kernel
theorem dX5_undo_20 : decode cX5_undo 20 = .ok (.bipush (-2), 2) := by decide +kernel
theorem dX5_undo_22 : decode cX5_undo 22 = .ok (.ireturn, 1) := by decide +kernel
theorem dX5_now_0 : decode cX5_now 0 = .ok (.aload_n 0, 1) := by decide +kernel
theorem dX5_now_1 : decode cX5_now 1 = .ok (.getfield 26, 3) := by decide +kernel
theorem dX5_now_4 : decode cX5_now 4 = .ok (.getfield 104, 3) := by decide +kernel
theorem dX5_now_7 : decode cX5_now 7 = .ok (.astore_n 2, 1) := by decide +kernel
theorem dX5_now_8 : decode cX5_now 8 = .ok (.iload_n 1, 1) := by decide +kernel
theorem dX5_now_9 : decode cX5_now 9 = .ok (.tableswitch 92 0 6 #[43, 48, 53, 58, 63, 75, 87], 43) := by decide +kernel
theorem dX5_now_52 : decode cX5_now 52 = .ok (.aload_n 2, 1) := by decide +kernel
theorem dX5_now_53 : decode cX5_now 53 = .ok (.getfield 167, 3) := by decide +kernel
theorem dX5_now_56 : decode cX5_now 56 = .ok (.ireturn, 1) := by decide +kernel
theorem dX5_now_57 : decode cX5_now 57 = .ok (.aload_n 2, 1) := by decide +kernel
theorem dX5_now_58 : decode cX5_now 58 = .ok (.getfield 174, 3) := by decide +kernel
theorem dX5_now_61 : decode cX5_now 61 = .ok (.ireturn, 1) := by decide +kernel
theorem dX5_now_62 : decode cX5_now 62 = .ok (.aload_n 2, 1) := by decide +kernel
theorem dX5_now_63 : decode cX5_now 63 = .ok (.invokevirtual 188, 3) := by decide +kernel
theorem dX5_now_66 : decode cX5_now 66 = .ok (.ireturn, 1) := by decide +kernel
theorem dX5_now_67 : decode cX5_now 67 = .ok (.aload_n 2, 1) := by decide +kernel
theorem dX5_now_68 : decode cX5_now 68 = .ok (.getfield 191, 3) := by decide +kernel
theorem dX5_now_71 : decode cX5_now 71 = .ok (.ireturn, 1) := by decide +kernel
theorem dX5_now_72 : decode cX5_now 72 = .ok (.aload_n 0, 1) := by decide +kernel
theorem dX5_now_73 : decode cX5_now 73 = .ok (.getfield 19, 3) := by decide +kernel
theorem dX5_now_76 : decode cX5_now 76 = .ok (.aload_n 0, 1) := by decide +kernel
theorem dX5_now_77 : decode cX5_now 77 = .ok (.invokevirtual 125, 3) := by decide +kernel
theorem dX5_now_80 : decode cX5_now 80 = .ok (.invokevirtual 194, 3) := by decide +kernel
theorem dX5_now_83 : decode cX5_now 83 = .ok (.ireturn, 1) := by decide +kernel
theorem dX5_now_84 : decode cX5_now 84 = .ok (.aload_n 0, 1) := by decide +kernel
theorem dX5_now_85 : decode cX5_now 85 = .ok (.getfield 19, 3) := by decide +kernel
theorem dX5_now_88 : decode cX5_now 88 = .ok (.aload_n 0, 1) := by decide +kernel
theorem dX5_now_89 : decode cX5_now 89 = .ok (.invokevirtual 125, 3) := by decide +kernel
theorem dX5_now_92 : decode cX5_now 92 = .ok (.invokevirtual 197, 3) := by decide +kernel
theorem dX5_now_95 : decode cX5_now 95 = .ok (.ireturn, 1) := by decide +kernel
theorem dX5_now_96 : decode cX5_now 96 = .ok (.aload_n 2, 1) := by decide +kernel
theorem dX5_now_97 : decode cX5_now 97 = .ok (.invokevirtual 200, 3) := by decide +kernel
theorem dX5_now_100 : decode cX5_now 100 = .ok (.ireturn, 1) := by decide +kernel
theorem dX5_now_101 : decode cX5_now 101 = .ok (.iconst (-1), 1) := by decide +kernel
theorem dX5_now_102 : decode cX5_now 102 = .ok (.ireturn, 1) := by decide +kernel
theorem dX5_lends_0 : decode cX5_lends 0 = .ok (.aload_n 0, 1) := by decide +kernel
theorem dX5_lends_1 : decode cX5_lends 1 = .ok (.iload_n 1, 1) := by decide +kernel
theorem dX5_lends_2 : decode cX5_lends 2 = .ok (.invokevirtual 91, 3) := by decide +kernel
theorem dX5_lends_5 : decode cX5_lends 5 = .ok (.ifCond .eq 13, 3) := by decide +kernel
theorem dX5_lends_8 : decode cX5_lends 8 = .ok (.iload_n 2, 1) := by decide +kernel
theorem dX5_lends_9 : decode cX5_lends 9 = .ok (.iconst 1, 1) := by decide +kernel
theorem dX5_lends_10 : decode cX5_lends 10 = .ok (.bipush 9, 2) := by decide +kernel
theorem dX5_lends_12 : decode cX5_lends 12 = .ok (.invokestatic 60, 3) := by decide +kernel
theorem dX5_lends_15 : decode cX5_lends 15 = .ok (.ifCond .ne 5, 3) := by decide +kernel
theorem dX5_lends_18 : decode cX5_lends 18 = .ok (.iconst (-1), 1) := by decide +kernel
theorem dX5_lends_19 : decode cX5_lends 19 = .ok (.ireturn, 1) := by decide +kernel
theorem dX5_lends_20 : decode cX5_lends 20 = .ok (.aload_n 0, 1) := by decide +kernel
theorem dX5_lends_21 : decode cX5_lends 21 = .ok (.getfield 19, 3) := by decide +kernel
theorem dX5_lends_24 : decode cX5_lends 24 = .ok (.iload_n 1, 1) := by decide +kernel
theorem dX5_lends_25 : decode cX5_lends 25 = .ok (.iload_n 2, 1) := by decide +kernel
theorem dX5_lends_26 : decode cX5_lends 26 = .ok (.invokevirtual 157, 3) := by decide +kernel
theorem dX5_lends_29 : decode cX5_lends 29 = .ok (.ireturn, 1) := by decide +kernel
theorem dX5_cheap_0 : decode cX5_cheap 0 = .ok (.iload_n 1, 1) := by decide +kernel
theorem dX5_cheap_1 : decode cX5_cheap 1 = .ok (.iconst 1, 1) := by decide +kernel
theorem dX5_cheap_2 : decode cX5_cheap 2 = .ok (.sipush 999, 3) := by decide +kernel
theorem dX5_cheap_5 : decode cX5_cheap 5 = .ok (.invokestatic 60, 3) := by decide +kernel
theorem dX5_cheap_8 : decode cX5_cheap 8 = .ok (.ifCond .eq 12, 3) := by decide +kernel
theorem dX5_cheap_11 : decode cX5_cheap 11 = .ok (.iload_n 2, 1) := by decide +kernel
theorem dX5_cheap_12 : decode cX5_cheap 12 = .ok (.iconst 0, 1) := by decide +kernel
theorem dX5_cheap_13 : decode cX5_cheap 13 = .ok (.iconst 2, 1) := by decide +kernel
theorem dX5_cheap_14 : decode cX5_cheap 14 = .ok (.invokestatic 60, 3) := by decide +kernel
theorem dX5_cheap_17 : decode cX5_cheap 17 = .ok (.ifCond .ne 5, 3) := by decide +kernel
theorem dX5_cheap_20 : decode cX5_cheap 20 = .ok (.iconst (-1), 1) := by decide +kernel
theorem dX5_cheap_21 : decode cX5_cheap 21 = .ok (.ireturn, 1) := by decide +kernel
theorem dX5_cheap_22 : decode cX5_cheap 22 = .ok (.aload_n 0, 1) := by decide +kernel
theorem dX5_cheap_23 : decode cX5_cheap 23 = .ok (.iload_n 1, 1) := by decide +kernel
theorem dX5_cheap_24 : decode cX5_cheap 24 = .ok (.invokevirtual 203, 3) := by decide +kernel
theorem dX5_cheap_27 : decode cX5_cheap 27 = .ok (.istore_n 3, 1) := by decide +kernel
theorem dX5_cheap_28 : decode cX5_cheap 28 = .ok (.iload_n 3, 1) := by decide +kernel
theorem dX5_cheap_29 : decode cX5_cheap 29 = .ok (.bipush (-9), 2) := by decide +kernel
theorem dX5_cheap_31 : decode cX5_cheap 31 = .ok (.if_icmp .ne 6, 3) := by decide +kernel
theorem dX5_cheap_34 : decode cX5_cheap 34 = .ok (.bipush (-9), 2) := by decide +kernel
theorem dX5_cheap_36 : decode cX5_cheap 36 = .ok (.ireturn, 1) := by decide +kernel
theorem dX5_cheap_37 : decode cX5_cheap 37 = .ok (.iload_n 3, 1) := by decide +kernel
theorem dX5_cheap_38 : decode cX5_cheap 38 = .ok (.bipush 100, 2) := by decide +kernel
theorem dX5_cheap_40 : decode cX5_cheap 40 = .ok (.idiv, 1) := by decide +kernel
theorem dX5_cheap_41 : decode cX5_cheap 41 = .ok (.istore 4, 2) := by decide +kernel
theorem dX5_cheap_43 : decode cX5_cheap 43 = .ok (.iload_n 3, 1) := by decide +kernel
theorem dX5_cheap_44 : decode cX5_cheap 44 = .ok (.bipush 100, 2) := by decide +kernel
theorem dX5_cheap_46 : decode cX5_cheap 46 = .ok (.irem, 1) := by decide +kernel
theorem dX5_cheap_47 : decode cX5_cheap 47 = .ok (.istore 5, 2) := by decide +kernel
theorem dX5_cheap_49 : decode cX5_cheap 49 = .ok (.iload_n 2, 1) := by decide +kernel
theorem dX5_cheap_50 : decode cX5_cheap 50 = .ok (.lookupswitch 32 #[(0, 26), (1, 29)], 26) := by decide +kernel
theorem dX5_cheap_76 : decode cX5_cheap 76 = .ok (.iload 4, 2) := by decide +kernel
theorem dX5_cheap_78 : decode cX5_cheap 78 = .ok (.ireturn, 1) := by decide +kernel
theorem dX5_cheap_79 : decode cX5_cheap 79 = .ok (.iload 5, 2) := by decide +kernel
theorem dX5_cheap_81 : decode cX5_cheap 81 = .ok (.ireturn, 1) := by decide +kernel
theorem dX5_cheap_82 : decode cX5_cheap 82 = .ok (.aload_n 0, 1) := by decide +kernel
theorem dX5_cheap_83 : decode cX5_cheap 83 = .ok (.getfield 19, 3) := by decide +kernel
theorem dX5_cheap_86 : decode cX5_cheap 86 = .ok (.aload_n 0, 1) := by decide +kernel
theorem dX5_cheap_87 : decode cX5_cheap 87 = .ok (.invokevirtual 125, 3) := by decide +kernel
theorem dX5_cheap_90 : decode cX5_cheap 90 = .ok (.iload 4, 2) := by decide +kernel
theorem dX5_cheap_92 : decode cX5_cheap 92 = .ok (.iload 5, 2) := by decide +kernel
theorem dX5_cheap_94 : decode cX5_cheap 94 = .ok (.invokestatic 160, 3) := by decide +kernel
theorem dX5_cheap_97 : decode cX5_cheap 97 = .ok (.iconst (-1), 1) := by decide +kernel
theorem dX5_cheap_98 : decode cX5_cheap 98 = .ok (.ixor, 1) := by decide +kernel
theorem dX5_cheap_99 : decode cX5_cheap 99 = .ok (.iand, 1) := by decide +kernel
theorem dX5_cheap_100 : decode cX5_cheap 100 = .ok (.invokevirtual 194, 3) := by decide +kernel
theorem dX5_cheap_103 : decode cX5_cheap 103 = .ok (.ireturn, 1) := by decide +kernel
theorem dX5_freeing_0 : decode cX5_freeing 0 = .ok (.iload_n 1, 1) := by decide +kernel
theorem dX5_freeing_1 : decode cX5_freeing 1 = .ok (.iconst 0, 1) := by decide +kernel
theorem dX5_freeing_2 : decode cX5_freeing 2 = .ok (.iconst 1, 1) := by decide +kernel
theorem dX5_freeing_3 : decode cX5_freeing 3 = .ok (.invokestatic 60, 3) := by decide +kernel
theorem dX5_freeing_6 : decode cX5_freeing 6 = .ok (.ifCond .ne 5, 3) := by decide +kernel
theorem dX5_freeing_9 : decode cX5_freeing 9 = .ok (.iconst (-1), 1) := by decide +kernel
theorem dX5_freeing_10 : decode cX5_freeing 10 = .ok (.ireturn, 1) := by decide +kernel
theorem dX5_freeing_11 : decode cX5_freeing 11 = .ok (.aload_n 0, 1) := by decide +kernel
theorem dX5_freeing_12 : decode cX5_freeing 12 = .ok (.invokevirtual 206, 3) := by decide +kernel
theorem dX5_freeing_15 : decode cX5_freeing 15 = .ok (.istore_n 2, 1) := by decide +kernel
theorem dX5_freeing_16 : decode cX5_freeing 16 = .ok (.iload_n 1, 1) := by decide +kernel
theorem dX5_freeing_17 : decode cX5_freeing 17 = .ok (.ifCond .ne 7, 3) := by decide +kernel
theorem dX5_freeing_20 : decode cX5_freeing 20 = .ok (.iload_n 2, 1) := by decide +kernel
theorem dX5_freeing_21 : decode cX5_freeing 21 = .ok (.goto 26, 3) := by decide +kernel
theorem dX5_freeing_24 : decode cX5_freeing 24 = .ok (.aload_n 0, 1) := by decide +kernel
theorem dX5_freeing_25 : decode cX5_freeing 25 = .ok (.getfield 19, 3) := by decide +kernel
theorem dX5_freeing_28 : decode cX5_freeing 28 = .ok (.aload_n 0, 1) := by decide +kernel
theorem dX5_freeing_29 : decode cX5_freeing 29 = .ok (.invokevirtual 125, 3) := by decide +kernel
theorem dX5_freeing_32 : decode cX5_freeing 32 = .ok (.aload_n 0, 1) := by decide +kernel
theorem dX5_freeing_33 : decode cX5_freeing 33 = .ok (.getfield 26, 3) := by decide +kernel
theorem dX5_freeing_36 : decode cX5_freeing 36 = .ok (.getfield 104, 3) := by decide +kernel
theorem dX5_freeing_39 : decode cX5_freeing 39 = .ok (.iload_n 2, 1) := by decide +kernel
theorem dX5_freeing_40 : decode cX5_freeing 40 = .ok (.invokevirtual 209, 3) := by decide +kernel
theorem dX5_freeing_43 : decode cX5_freeing 43 = .ok (.ior, 1) := by decide +kernel
theorem dX5_freeing_44 : decode cX5_freeing 44 = .ok (.invokevirtual 194, 3) := by decide +kernel
theorem dX5_freeing_47 : decode cX5_freeing 47 = .ok (.ireturn, 1) := by decide +kernel
theorem dX5_rich_0 : decode cX5_rich 0 = .ok (.iload_n 1, 1) := by decide +kernel
theorem dX5_rich_1 : decode cX5_rich 1 = .ok (.iconst 0, 1) := by decide +kernel
theorem dX5_rich_2 : decode cX5_rich 2 = .ok (.sipush 9999, 3) := by decide +kernel
theorem dX5_rich_5 : decode cX5_rich 5 = .ok (.invokestatic 60, 3) := by decide +kernel
theorem dX5_rich_8 : decode cX5_rich 8 = .ok (.ifCond .ne 5, 3) := by decide +kernel
theorem dX5_rich_11 : decode cX5_rich 11 = .ok (.iconst (-1), 1) := by decide +kernel
theorem dX5_rich_12 : decode cX5_rich 12 = .ok (.ireturn, 1) := by decide +kernel
theorem dX5_rich_13 : decode cX5_rich 13 = .ok (.aload_n 0, 1) := by decide +kernel
theorem dX5_rich_14 : decode cX5_rich 14 = .ok (.getfield 41, 3) := by decide +kernel
theorem dX5_rich_17 : decode cX5_rich 17 = .ok (.aload_n 0, 1) := by decide +kernel
theorem dX5_rich_18 : decode cX5_rich 18 = .ok (.getfield 26, 3) := by decide +kernel
theorem dX5_rich_21 : decode cX5_rich 21 = .ok (.getfield 104, 3) := by decide +kernel
theorem dX5_rich_24 : decode cX5_rich 24 = .ok (.invokevirtual 212, 3) := by decide +kernel
theorem dX5_rich_27 : decode cX5_rich 27 = .ok (.iconst 0, 1) := by decide +kernel
theorem dX5_rich_28 : decode cX5_rich 28 = .ok (.istore_n 2, 1) := by decide +kernel
theorem dX5_rich_29 : decode cX5_rich 29 = .ok (.iload_n 2, 1) := by decide +kernel
theorem dX5_rich_30 : decode cX5_rich 30 = .ok (.bipush 60, 2) := by decide +kernel
theorem dX5_rich_32 : decode cX5_rich 32 = .ok (.if_icmp .gt 34, 3) := by decide +kernel
theorem dX5_rich_35 : decode cX5_rich 35 = .ok (.aload_n 0, 1) := by decide +kernel
theorem dX5_rich_36 : decode cX5_rich 36 = .ok (.getfield 41, 3) := by decide +kernel
theorem dX5_rich_39 : decode cX5_rich 39 = .ok (.getfield 167, 3) := by decide +kernel
theorem dX5_rich_42 : decode cX5_rich 42 = .ok (.iload_n 1, 1) := by decide +kernel
theorem dX5_rich_43 : decode cX5_rich 43 = .ok (.if_icmp .lt 5, 3) := by decide +kernel
theorem dX5_rich_46 : decode cX5_rich 46 = .ok (.iload_n 2, 1) := by decide +kernel
theorem dX5_rich_47 : decode cX5_rich 47 = .ok (.ireturn, 1) := by decide +kernel
theorem dX5_rich_48 : decode cX5_rich 48 = .ok (.aload_n 0, 1) := by decide +kernel
theorem dX5_rich_49 : decode cX5_rich 49 = .ok (.getfield 41, 3) := by decide +kernel
theorem dX5_rich_52 : decode cX5_rich 52 = .ok (.aload_n 0, 1) := by decide +kernel
theorem dX5_rich_53 : decode cX5_rich 53 = .ok (.getfield 19, 3) := by decide +kernel
theorem dX5_rich_56 : decode cX5_rich 56 = .ok (.invokevirtual 177, 3) := by decide +kernel
theorem dX5_rich_59 : decode cX5_rich 59 = .ok (.pop, 1) := by decide +kernel
theorem dX5_rich_60 : decode cX5_rich 60 = .ok (.iinc 2 1, 3) := by decide +kernel
theorem dX5_rich_63 : decode cX5_rich 63 = .ok (.goto (-34), 3) := by decide +kernel
theorem dX5_rich_66 : decode cX5_rich 66 = .ok (.bipush (-9), 2) := by decide +kernel
theorem dX5_rich_68 : decode cX5_rich 68 = .ok (.ireturn, 1) := by decide +kernel
theorem dX5_bare_0 : decode cX5_bare 0 = .ok (.aload_n 0, 1) := by decide +kernel
theorem dX5_bare_1 : decode cX5_bare 1 = .ok (.getfield 41, 3) := by decide +kernel
theorem dX5_bare_4 : decode cX5_bare 4 = .ok (.aload_n 0, 1) := by decide +kernel
theorem dX5_bare_5 : decode cX5_bare 5 = .ok (.getfield 26, 3) := by decide +kernel
theorem dX5_bare_8 : decode cX5_bare 8 = .ok (.getfield 104, 3) := by decide +kernel
theorem dX5_bare_11 : decode cX5_bare 11 = .ok (.invokevirtual 212, 3) := by decide +kernel
theorem dX5_bare_14 : decode cX5_bare 14 = .ok (.iconst 0, 1) := by decide +kernel
theorem dX5_bare_15 : decode cX5_bare 15 = .ok (.istore_n 1, 1) := by decide +kernel
theorem dX5_bare_16 : decode cX5_bare 16 = .ok (.iload_n 1, 1) := by decide +kernel
theorem dX5_bare_17 : decode cX5_bare 17 = .ok (.bipush 60, 2) := by decide +kernel
theorem dX5_bare_19 : decode cX5_bare 19 = .ok (.if_icmp .gt 44, 3) := by decide +kernel
theorem dX5_bare_22 : decode cX5_bare 22 = .ok (.aload_n 0, 1) := by decide +kernel
theorem dX5_bare_23 : decode cX5_bare 23 = .ok (.getfield 19, 3) := by decide +kernel
theorem dX5_bare_26 : decode cX5_bare 26 = .ok (.aload_n 0, 1) := by decide +kernel
theorem dX5_bare_27 : decode cX5_bare 27 = .ok (.getfield 41, 3) := by decide +kernel
theorem dX5_bare_30 : decode cX5_bare 30 = .ok (.aload_n 0, 1) := by decide +kernel
theorem dX5_bare_31 : decode cX5_bare 31 = .ok (.getfield 19, 3) := by decide +kernel
theorem dX5_bare_34 : decode cX5_bare 34 = .ok (.invokevirtual 216, 3) := by decide +kernel
theorem dX5_bare_37 : decode cX5_bare 37 = .ok (.invokevirtual 218, 3) := by decide +kernel
theorem dX5_bare_40 : decode cX5_bare 40 = .ok (.ifCond .ne 5, 3) := by decide +kernel
theorem dX5_bare_43 : decode cX5_bare 43 = .ok (.iload_n 1, 1) := by decide +kernel
theorem dX5_bare_44 : decode cX5_bare 44 = .ok (.ireturn, 1) := by decide +kernel
theorem dX5_bare_45 : decode cX5_bare 45 = .ok (.aload_n 0, 1) := by decide +kernel
theorem dX5_bare_46 : decode cX5_bare 46 = .ok (.getfield 41, 3) := by decide +kernel
theorem dX5_bare_49 : decode cX5_bare 49 = .ok (.aload_n 0, 1) := by decide +kernel
theorem dX5_bare_50 : decode cX5_bare 50 = .ok (.getfield 19, 3) := by decide +kernel
theorem dX5_bare_53 : decode cX5_bare 53 = .ok (.invokevirtual 177, 3) := by decide +kernel
theorem dX5_bare_56 : decode cX5_bare 56 = .ok (.pop, 1) := by decide +kernel
theorem dX5_bare_57 : decode cX5_bare 57 = .ok (.iinc 1 1, 3) := by decide +kernel
theorem dX5_bare_60 : decode cX5_bare 60 = .ok (.goto (-44), 3) := by decide +kernel
theorem dX5_bare_63 : decode cX5_bare 63 = .ok (.bipush (-9), 2) := by decide +kernel
theorem dX5_bare_65 : decode cX5_bare 65 = .ok (.ireturn, 1) := by decide +kernel
theorem dX5_tells_0 : decode cX5_tells 0 = .ok (.aload_n 0, 1) := by decide +kernel
theorem dX5_tells_1 : decode cX5_tells 1 = .ok (.iload_n 1, 1) := by decide +kernel
theorem dX5_tells_2 : decode cX5_tells 2 = .ok (.invokevirtual 110, 3) := by decide +kernel
theorem dX5_tells_5 : decode cX5_tells 5 = .ok (.ifCond .eq 12, 3) := by decide +kernel
theorem dX5_tells_8 : decode cX5_tells 8 = .ok (.iload_n 2, 1) := by decide +kernel
theorem dX5_tells_9 : decode cX5_tells 9 = .ok (.iconst 0, 1) := by decide +kernel
theorem dX5_tells_10 : decode cX5_tells 10 = .ok (.iconst 1, 1) := by decide +kernel
theorem dX5_tells_11 : decode cX5_tells 11 = .ok (.invokestatic 60, 3) := by decide +kernel
theorem dX5_tells_14 : decode cX5_tells 14 = .ok (.ifCond .ne 5, 3) := by decide +kernel
theorem dX5_tells_17 : decode cX5_tells 17 = .ok (.iconst (-1), 1) := by decide +kernel
theorem dX5_tells_18 : decode cX5_tells 18 = .ok (.ireturn, 1) := by decide +kernel
theorem dX5_tells_19 : decode cX5_tells 19 = .ok (.aload_n 0, 1) := by decide +kernel
theorem dX5_tells_20 : decode cX5_tells 20 = .ok (.getfield 52, 3) := by decide +kernel
theorem dX5_tells_23 : decode cX5_tells 23 = .ok (.bipush 6, 2) := by decide +kernel
theorem dX5_tells_25 : decode cX5_tells 25 = .ok (.if_icmp .lt 6, 3) := by decide +kernel
theorem dX5_tells_28 : decode cX5_tells 28 = .ok (.bipush (-3), 2) := by decide +kernel
theorem dX5_tells_30 : decode cX5_tells 30 = .ok (.ireturn, 1) := by decide +kernel
theorem dX5_tells_31 : decode cX5_tells 31 = .ok (.aload_n 0, 1) := by decide +kernel
theorem dX5_tells_32 : decode cX5_tells 32 = .ok (.getfield 45, 3) := by decide +kernel
theorem dX5_tells_35 : decode cX5_tells 35 = .ok (.aload_n 0, 1) := by decide +kernel
theorem dX5_tells_36 : decode cX5_tells 36 = .ok (.getfield 52, 3) := by decide +kernel
theorem dX5_tells_39 : decode cX5_tells 39 = .ok (.iload_n 1, 1) := by decide +kernel
theorem dX5_tells_40 : decode cX5_tells 40 = .ok (.iastore, 1) := by decide +kernel
theorem dX5_tells_41 : decode cX5_tells 41 = .ok (.aload_n 0, 1) := by decide +kernel
theorem dX5_tells_42 : decode cX5_tells 42 = .ok (.getfield 49, 3) := by decide +kernel
theorem dX5_tells_45 : decode cX5_tells 45 = .ok (.aload_n 0, 1) := by decide +kernel
theorem dX5_tells_46 : decode cX5_tells 46 = .ok (.getfield 52, 3) := by decide +kernel
theorem dX5_tells_49 : decode cX5_tells 49 = .ok (.iload_n 2, 1) := by decide +kernel
theorem dX5_tells_50 : decode cX5_tells 50 = .ok (.iastore, 1) := by decide +kernel
theorem dX5_tells_51 : decode cX5_tells 51 = .ok (.aload_n 0, 1) := by decide +kernel
theorem dX5_tells_52 : decode cX5_tells 52 = .ok (.dup, 1) := by decide +kernel
theorem dX5_tells_53 : decode cX5_tells 53 = .ok (.getfield 52, 3) := by decide +kernel
theorem dX5_tells_56 : decode cX5_tells 56 = .ok (.iconst 1, 1) := by decide +kernel
theorem dX5_tells_57 : decode cX5_tells 57 = .ok (.iadd, 1) := by decide +kernel
theorem dX5_tells_58 : decode cX5_tells 58 = .ok (.putfield 52, 3) := by decide +kernel
theorem dX5_tells_61 : decode cX5_tells 61 = .ok (.aload_n 0, 1) := by decide +kernel
theorem dX5_tells_62 : decode cX5_tells 62 = .ok (.getfield 52, 3) := by decide +kernel
theorem dX5_tells_65 : decode cX5_tells 65 = .ok (.ireturn, 1) := by decide +kernel
theorem dX5_forget_0 : decode cX5_forget 0 = .ok (.aload_n 0, 1) := by decide +kernel
theorem dX5_forget_1 : decode cX5_forget 1 = .ok (.getfield 52, 3) := by decide +kernel
theorem dX5_forget_4 : decode cX5_forget 4 = .ok (.istore_n 1, 1) := by decide +kernel
theorem dX5_forget_5 : decode cX5_forget 5 = .ok (.aload_n 0, 1) := by decide +kernel
theorem dX5_forget_6 : decode cX5_forget 6 = .ok (.iconst 0, 1) := by decide +kernel
theorem dX5_forget_7 : decode cX5_forget 7 = .ok (.putfield 52, 3) := by decide +kernel
theorem dX5_forget_10 : decode cX5_forget 10 = .ok (.iload_n 1, 1) := by decide +kernel
theorem dX5_forget_11 : decode cX5_forget 11 = .ok (.ireturn, 1) := by decide +kernel
theorem dX5_fits_0 : decode cX5_fits 0 = .ok (.iload_n 1, 1) := by decide +kernel
theorem dX5_fits_1 : decode cX5_fits 1 = .ok (.iconst 0, 1) := by decide +kernel
theorem dX5_fits_2 : decode cX5_fits 2 = .ok (.iconst 2, 1) := by decide +kernel
theorem dX5_fits_3 : decode cX5_fits 3 = .ok (.invokestatic 60, 3) := by decide +kernel
theorem dX5_fits_6 : decode cX5_fits 6 = .ok (.ifCond .ne 5, 3) := by decide +kernel
theorem dX5_fits_9 : decode cX5_fits 9 = .ok (.iconst (-1), 1) := by decide +kernel
theorem dX5_fits_10 : decode cX5_fits 10 = .ok (.ireturn, 1) := by decide +kernel
theorem dX5_fits_11 : decode cX5_fits 11 = .ok (.iconst 0, 1) := by decide +kernel
theorem dX5_fits_12 : decode cX5_fits 12 = .ok (.istore_n 2, 1) := by decide +kernel
theorem dX5_fits_13 : decode cX5_fits 13 = .ok (.bipush (-9), 2) := by decide +kernel
theorem dX5_fits_15 : decode cX5_fits 15 = .ok (.istore_n 3, 1) := by decide +kernel
theorem dX5_fits_16 : decode cX5_fits 16 = .ok (.aload_n 0, 1) := by decide +kernel
theorem dX5_fits_17 : decode cX5_fits 17 = .ok (.getfield 19, 3) := by decide +kernel
theorem dX5_fits_20 : decode cX5_fits 20 = .ok (.invokevirtual 221, 3) := by decide +kernel
theorem dX5_fits_23 : decode cX5_fits 23 = .ok (.istore 4, 2) := by decide +kernel
theorem dX5_fits_25 : decode cX5_fits 25 = .ok (.iconst 0, 1) := by decide +kernel
theorem dX5_fits_26 : decode cX5_fits 26 = .ok (.istore 5, 2) := by decide +kernel
theorem dX5_fits_28 : decode cX5_fits 28 = .ok (.iload 5, 2) := by decide +kernel
theorem dX5_fits_30 : decode cX5_fits 30 = .ok (.aload_n 0, 1) := by decide +kernel
theorem dX5_fits_31 : decode cX5_fits 31 = .ok (.getfield 19, 3) := by decide +kernel
theorem dX5_fits_34 : decode cX5_fits 34 = .ok (.getfield 224, 3) := by decide +kernel
theorem dX5_fits_37 : decode cX5_fits 37 = .ok (.if_icmp .ge 95, 3) := by decide +kernel
theorem dX5_fits_40 : decode cX5_fits 40 = .ok (.iconst 1, 1) := by decide +kernel
theorem dX5_fits_41 : decode cX5_fits 41 = .ok (.istore 6, 2) := by decide +kernel
theorem dX5_fits_43 : decode cX5_fits 43 = .ok (.iload 6, 2) := by decide +kernel
theorem dX5_fits_45 : decode cX5_fits 45 = .ok (.bipush 9, 2) := by decide +kernel
theorem dX5_fits_47 : decode cX5_fits 47 = .ok (.if_icmp .gt 79, 3) := by decide +kernel
theorem dX5_fits_50 : decode cX5_fits 50 = .ok (.iload 5, 2) := by decide +kernel
theorem dX5_fits_52 : decode cX5_fits 52 = .ok (.iload 6, 2) := by decide +kernel
theorem dX5_fits_54 : decode cX5_fits 54 = .ok (.iadd, 1) := by decide +kernel
theorem dX5_fits_55 : decode cX5_fits 55 = .ok (.aload_n 0, 1) := by decide +kernel
theorem dX5_fits_56 : decode cX5_fits 56 = .ok (.getfield 19, 3) := by decide +kernel
theorem dX5_fits_59 : decode cX5_fits 59 = .ok (.getfield 224, 3) := by decide +kernel
theorem dX5_fits_62 : decode cX5_fits 62 = .ok (.if_icmp .gt 64, 3) := by decide +kernel
theorem dX5_fits_65 : decode cX5_fits 65 = .ok (.iload 5, 2) := by decide +kernel
theorem dX5_fits_67 : decode cX5_fits 67 = .ok (.iload 6, 2) := by decide +kernel
theorem dX5_fits_69 : decode cX5_fits 69 = .ok (.invokestatic 160, 3) := by decide +kernel
theorem dX5_fits_72 : decode cX5_fits 72 = .ok (.istore 7, 2) := by decide +kernel
theorem dX5_fits_74 : decode cX5_fits 74 = .ok (.aload_n 0, 1) := by decide +kernel
theorem dX5_fits_75 : decode cX5_fits 75 = .ok (.aload_n 0, 1) := by decide +kernel
theorem dX5_fits_76 : decode cX5_fits 76 = .ok (.getfield 19, 3) := by decide +kernel
theorem dX5_fits_79 : decode cX5_fits 79 = .ok (.invokevirtual 221, 3) := by decide +kernel
theorem dX5_fits_82 : decode cX5_fits 82 = .ok (.iload 7, 2) := by decide +kernel
theorem dX5_fits_84 : decode cX5_fits 84 = .ok (.iconst (-1), 1) := by decide +kernel
theorem dX5_fits_85 : decode cX5_fits 85 = .ok (.ixor, 1) := by decide +kernel
theorem dX5_fits_86 : decode cX5_fits 86 = .ok (.iand, 1) := by decide +kernel
theorem dX5_fits_87 : decode cX5_fits 87 = .ok (.invokevirtual 227, 3) := by decide +kernel
theorem dX5_fits_90 : decode cX5_fits 90 = .ok (.ifCond .eq 30, 3) := by decide +kernel
theorem dX5_fits_93 : decode cX5_fits 93 = .ok (.iload_n 2, 1) := by decide +kernel
theorem dX5_fits_94 : decode cX5_fits 94 = .ok (.ifCond .ne 14, 3) := by decide +kernel
theorem dX5_fits_97 : decode cX5_fits 97 = .ok (.iload 5, 2) := by decide +kernel
theorem dX5_fits_99 : decode cX5_fits 99 = .ok (.bipush 100, 2) := by decide +kernel
theorem dX5_fits_101 : decode cX5_fits 101 = .ok (.imul, 1) := by decide +kernel
theorem dX5_fits_102 : decode cX5_fits 102 = .ok (.iload 6, 2) := by decide +kernel
theorem dX5_fits_104 : decode cX5_fits 104 = .ok (.iadd, 1) := by decide +kernel
theorem dX5_fits_105 : decode cX5_fits 105 = .ok (.goto 4, 3) := by decide +kernel
theorem dX5_fits_108 : decode cX5_fits 108 = .ok (.iload_n 3, 1) := by decide +kernel
theorem dX5_fits_109 : decode cX5_fits 109 = .ok (.istore_n 3, 1) := by decide +kernel
theorem dX5_fits_110 : decode cX5_fits 110 = .ok (.iload 4, 2) := by decide +kernel
theorem dX5_fits_112 : decode cX5_fits 112 = .ok (.iload 7, 2) := by decide +kernel
theorem dX5_fits_114 : decode cX5_fits 114 = .ok (.iand, 1) := by decide +kernel
theorem dX5_fits_115 : decode cX5_fits 115 = .ok (.istore 4, 2) := by decide +kernel
theorem dX5_fits_117 : decode cX5_fits 117 = .ok (.iinc 2 1, 3) := by decide +kernel
theorem dX5_fits_120 : decode cX5_fits 120 = .ok (.iinc 6 1, 3) := by decide +kernel
theorem dX5_fits_123 : decode cX5_fits 123 = .ok (.goto (-80), 3) := by decide +kernel
theorem dX5_fits_126 : decode cX5_fits 126 = .ok (.iinc 5 1, 3) := by decide +kernel
theorem dX5_fits_129 : decode cX5_fits 129 = .ok (.goto (-101), 3) := by decide +kernel
theorem dX5_fits_132 : decode cX5_fits 132 = .ok (.iload_n 1, 1) := by decide +kernel
theorem dX5_fits_133 : decode cX5_fits 133 = .ok (.ifCond .ne 5, 3) := by decide +kernel
theorem dX5_fits_136 : decode cX5_fits 136 = .ok (.iload_n 2, 1) := by decide +kernel
theorem dX5_fits_137 : decode cX5_fits 137 = .ok (.ireturn, 1) := by decide +kernel
theorem dX5_fits_138 : decode cX5_fits 138 = .ok (.iload_n 2, 1) := by decide +kernel
theorem dX5_fits_139 : decode cX5_fits 139 = .ok (.ifCond .ne 6, 3) := by decide +kernel
theorem dX5_fits_142 : decode cX5_fits 142 = .ok (.bipush (-9), 2) := by decide +kernel
theorem dX5_fits_144 : decode cX5_fits 144 = .ok (.ireturn, 1) := by decide +kernel
theorem dX5_fits_145 : decode cX5_fits 145 = .ok (.iload_n 1, 1) := by decide +kernel
theorem dX5_fits_146 : decode cX5_fits 146 = .ok (.iconst 1, 1) := by decide +kernel
theorem dX5_fits_147 : decode cX5_fits 147 = .ok (.if_icmp .ne 7, 3) := by decide +kernel
theorem dX5_fits_150 : decode cX5_fits 150 = .ok (.iload_n 3, 1) := by decide +kernel
theorem dX5_fits_151 : decode cX5_fits 151 = .ok (.goto 5, 3) := by decide +kernel
theorem dX5_fits_154 : decode cX5_fits 154 = .ok (.iload 4, 2) := by decide +kernel
theorem dX5_fits_156 : decode cX5_fits 156 = .ok (.ireturn, 1) := by decide +kernel
theorem dX5_odds_0 : decode cX5_odds 0 = .ok (.iload_n 1, 1) := by decide +kernel
theorem dX5_odds_1 : decode cX5_odds 1 = .ok (.iconst 0, 1) := by decide +kernel
theorem dX5_odds_2 : decode cX5_odds 2 = .ok (.bipush 10, 2) := by decide +kernel
theorem dX5_odds_4 : decode cX5_odds 4 = .ok (.invokestatic 60, 3) := by decide +kernel
theorem dX5_odds_7 : decode cX5_odds 7 = .ok (.ifCond .eq 23, 3) := by decide +kernel
theorem dX5_odds_10 : decode cX5_odds 10 = .ok (.iload_n 2, 1) := by decide +kernel
theorem dX5_odds_11 : decode cX5_odds 11 = .ok (.iconst 0, 1) := by decide +kernel
theorem dX5_odds_12 : decode cX5_odds 12 = .ok (.sipush 999, 3) := by decide +kernel
theorem dX5_odds_15 : decode cX5_odds 15 = .ok (.invokestatic 60, 3) := by decide +kernel
theorem dX5_odds_18 : decode cX5_odds 18 = .ok (.ifCond .eq 12, 3) := by decide +kernel
theorem dX5_odds_21 : decode cX5_odds 21 = .ok (.iload_n 3, 1) := by decide +kernel
theorem dX5_odds_22 : decode cX5_odds 22 = .ok (.iconst 0, 1) := by decide +kernel
theorem dX5_odds_23 : decode cX5_odds 23 = .ok (.iconst 1, 1) := by decide +kernel
theorem dX5_odds_24 : decode cX5_odds 24 = .ok (.invokestatic 60, 3) := by decide +kernel
theorem dX5_odds_27 : decode cX5_odds 27 = .ok (.ifCond .ne 5, 3) := by decide +kernel
theorem dX5_odds_30 : decode cX5_odds 30 = .ok (.iconst (-1), 1) := by decide +kernel
theorem dX5_odds_31 : decode cX5_odds 31 = .ok (.ireturn, 1) := by decide +kernel
theorem dX5_odds_32 : decode cX5_odds 32 = .ok (.aload_n 0, 1) := by decide +kernel
theorem dX5_odds_33 : decode cX5_odds 33 = .ok (.getfield 19, 3) := by decide +kernel
theorem dX5_odds_36 : decode cX5_odds 36 = .ok (.aload_n 0, 1) := by decide +kernel
theorem dX5_odds_37 : decode cX5_odds 37 = .ok (.invokevirtual 125, 3) := by decide +kernel
theorem dX5_odds_40 : decode cX5_odds 40 = .ok (.invokevirtual 218, 3) := by decide +kernel
theorem dX5_odds_43 : decode cX5_odds 43 = .ok (.istore 4, 2) := by decide +kernel
theorem dX5_odds_45 : decode cX5_odds 45 = .ok (.iconst 0, 1) := by decide +kernel
theorem dX5_odds_46 : decode cX5_odds 46 = .ok (.istore 5, 2) := by decide +kernel
theorem dX5_odds_48 : decode cX5_odds 48 = .ok (.iconst 0, 1) := by decide +kernel
theorem dX5_odds_49 : decode cX5_odds 49 = .ok (.istore 6, 2) := by decide +kernel
theorem dX5_odds_51 : decode cX5_odds 51 = .ok (.iconst 0, 1) := by decide +kernel
theorem dX5_odds_52 : decode cX5_odds 52 = .ok (.istore 7, 2) := by decide +kernel
theorem dX5_odds_54 : decode cX5_odds 54 = .ok (.iload 7, 2) := by decide +kernel
theorem dX5_odds_56 : decode cX5_odds 56 = .ok (.bipush 16, 2) := by decide +kernel
theorem dX5_odds_58 : decode cX5_odds 58 = .ok (.if_icmp .ge 60, 3) := by decide +kernel
theorem dX5_odds_61 : decode cX5_odds 61 = .ok (.iload 7, 2) := by decide +kernel
theorem dX5_odds_63 : decode cX5_odds 63 = .ok (.iload 4, 2) := by decide +kernel
theorem dX5_odds_65 : decode cX5_odds 65 = .ok (.iconst (-1), 1) := by decide +kernel
theorem dX5_odds_66 : decode cX5_odds 66 = .ok (.ixor, 1) := by decide +kernel
theorem dX5_odds_67 : decode cX5_odds 67 = .ok (.iand, 1) := by decide +kernel
theorem dX5_odds_68 : decode cX5_odds 68 = .ok (.ifCond .ne 44, 3) := by decide +kernel
theorem dX5_odds_71 : decode cX5_odds 71 = .ok (.iload 7, 2) := by decide +kernel
theorem dX5_odds_73 : decode cX5_odds 73 = .ok (.iload 4, 2) := by decide +kernel
theorem dX5_odds_75 : decode cX5_odds 75 = .ok (.iload_n 1, 1) := by decide +kernel
theorem dX5_odds_76 : decode cX5_odds 76 = .ok (.invokestatic 230, 3) := by decide +kernel
theorem dX5_odds_79 : decode cX5_odds 79 = .ok (.istore 8, 2) := by decide +kernel
theorem dX5_odds_81 : decode cX5_odds 81 = .ok (.iload 6, 2) := by decide +kernel
theorem dX5_odds_83 : decode cX5_odds 83 = .ok (.iload 8, 2) := by decide +kernel
theorem dX5_odds_85 : decode cX5_odds 85 = .ok (.iadd, 1) := by decide +kernel
theorem dX5_odds_86 : decode cX5_odds 86 = .ok (.istore 6, 2) := by decide +kernel
theorem dX5_odds_88 : decode cX5_odds 88 = .ok (.iload 5, 2) := by decide +kernel
theorem dX5_odds_90 : decode cX5_odds 90 = .ok (.aload_n 0, 1) := by decide +kernel
theorem dX5_odds_91 : decode cX5_odds 91 = .ok (.getfield 19, 3) := by decide +kernel
theorem dX5_odds_94 : decode cX5_odds 94 = .ok (.iload 7, 2) := by decide +kernel
theorem dX5_odds_96 : decode cX5_odds 96 = .ok (.invokevirtual 234, 3) := by decide +kernel
theorem dX5_odds_99 : decode cX5_odds 99 = .ok (.iload_n 2, 1) := by decide +kernel
theorem dX5_odds_100 : decode cX5_odds 100 = .ok (.if_icmp .lt 8, 3) := by decide +kernel
theorem dX5_odds_103 : decode cX5_odds 103 = .ok (.iload 8, 2) := by decide +kernel
theorem dX5_odds_105 : decode cX5_odds 105 = .ok (.goto 4, 3) := by decide +kernel
theorem dX5_odds_108 : decode cX5_odds 108 = .ok (.iconst 0, 1) := by decide +kernel
theorem dX5_odds_109 : decode cX5_odds 109 = .ok (.iadd, 1) := by decide +kernel
theorem dX5_odds_110 : decode cX5_odds 110 = .ok (.istore 5, 2) := by decide +kernel
theorem dX5_odds_112 : decode cX5_odds 112 = .ok (.iinc 7 1, 3) := by decide +kernel
theorem dX5_odds_115 : decode cX5_odds 115 = .ok (.goto (-61), 3) := by decide +kernel
theorem dX5_odds_118 : decode cX5_odds 118 = .ok (.iload 6, 2) := by decide +kernel
theorem dX5_odds_120 : decode cX5_odds 120 = .ok (.iload 5, 2) := by decide +kernel
theorem dX5_odds_122 : decode cX5_odds 122 = .ok (.invokestatic 237, 3) := by decide +kernel
theorem dX5_odds_125 : decode cX5_odds 125 = .ok (.istore 7, 2) := by decide +kernel
theorem dX5_odds_127 : decode cX5_odds 127 = .ok (.iload 7, 2) := by decide +kernel
theorem dX5_odds_129 : decode cX5_odds 129 = .ok (.ifCond .ne 6, 3) := by decide +kernel
theorem dX5_odds_132 : decode cX5_odds 132 = .ok (.bipush (-9), 2) := by decide +kernel
theorem dX5_odds_134 : decode cX5_odds 134 = .ok (.ireturn, 1) := by decide +kernel
theorem dX5_odds_135 : decode cX5_odds 135 = .ok (.iload_n 3, 1) := by decide +kernel
theorem dX5_odds_136 : decode cX5_odds 136 = .ok (.ifCond .ne 8, 3) := by decide +kernel
theorem dX5_odds_139 : decode cX5_odds 139 = .ok (.iload 5, 2) := by decide +kernel
theorem dX5_odds_141 : decode cX5_odds 141 = .ok (.goto 5, 3) := by decide +kernel
theorem dX5_odds_144 : decode cX5_odds 144 = .ok (.iload 6, 2) := by decide +kernel
theorem dX5_odds_146 : decode cX5_odds 146 = .ok (.iload 7, 2) := by decide +kernel
theorem dX5_odds_148 : decode cX5_odds 148 = .ok (.idiv, 1) := by decide +kernel
theorem dX5_odds_149 : decode cX5_odds 149 = .ok (.ireturn, 1) := by decide +kernel
theorem dX5_mark_0 : decode cX5_mark 0 = .ok (.aload_n 0, 1) := by decide +kernel
theorem dX5_mark_1 : decode cX5_mark 1 = .ok (.iload_n 2, 1) := by decide +kernel
theorem dX5_mark_2 : decode cX5_mark 2 = .ok (.invokevirtual 110, 3) := by decide +kernel
theorem dX5_mark_5 : decode cX5_mark 5 = .ok (.ifCond .ne 6, 3) := by decide +kernel
theorem dX5_mark_8 : decode cX5_mark 8 = .ok (.ldc 240, 2) := by decide +kernel
theorem dX5_mark_10 : decode cX5_mark 10 = .ok (.ireturn, 1) := by decide +kernel
theorem dX5_mark_11 : decode cX5_mark 11 = .ok (.iload_n 1, 1) := by decide +kernel
theorem dX5_mark_12 : decode cX5_mark 12 = .ok (.tableswitch 76 0 5 #[40, 46, 52, 58, 64, 70], 40) := by decide +kernel
theorem dX5_mark_52 : decode cX5_mark 52 = .ok (.aload_n 0, 1) := by decide +kernel
theorem dX5_mark_53 : decode cX5_mark 53 = .ok (.iload_n 2, 1) := by decide +kernel
theorem dX5_mark_54 : decode cX5_mark 54 = .ok (.invokevirtual 241, 3) := by decide +kernel
theorem dX5_mark_57 : decode cX5_mark 57 = .ok (.ireturn, 1) := by decide +kernel
theorem dX5_mark_58 : decode cX5_mark 58 = .ok (.aload_n 0, 1) := by decide +kernel
theorem dX5_mark_59 : decode cX5_mark 59 = .ok (.iload_n 2, 1) := by decide +kernel
theorem dX5_mark_60 : decode cX5_mark 60 = .ok (.invokevirtual 244, 3) := by decide +kernel
theorem dX5_mark_63 : decode cX5_mark 63 = .ok (.ireturn, 1) := by decide +kernel
theorem dX5_mark_64 : decode cX5_mark 64 = .ok (.aload_n 0, 1) := by decide +kernel
theorem dX5_mark_65 : decode cX5_mark 65 = .ok (.iload_n 2, 1) := by decide +kernel
theorem dX5_mark_66 : decode cX5_mark 66 = .ok (.invokevirtual 247, 3) := by decide +kernel
theorem dX5_mark_69 : decode cX5_mark 69 = .ok (.ireturn, 1) := by decide +kernel
theorem dX5_mark_70 : decode cX5_mark 70 = .ok (.aload_n 0, 1) := by decide +kernel
theorem dX5_mark_71 : decode cX5_mark 71 = .ok (.iload_n 2, 1) := by decide +kernel
theorem dX5_mark_72 : decode cX5_mark 72 = .ok (.invokevirtual 250, 3) := by decide +kernel
theorem dX5_mark_75 : decode cX5_mark 75 = .ok (.ireturn, 1) := by decide +kernel
theorem dX5_mark_76 : decode cX5_mark 76 = .ok (.aload_n 0, 1) := by decide +kernel
theorem dX5_mark_77 : decode cX5_mark 77 = .ok (.iload_n 2, 1) := by decide +kernel
theorem dX5_mark_78 : decode cX5_mark 78 = .ok (.invokevirtual 253, 3) := by decide +kernel
theorem dX5_mark_81 : decode cX5_mark 81 = .ok (.ireturn, 1) := by decide +kernel
theorem dX5_mark_82 : decode cX5_mark 82 = .ok (.aload_n 0, 1) := by decide +kernel
theorem dX5_mark_83 : decode cX5_mark 83 = .ok (.iload_n 2, 1) := by decide +kernel
theorem dX5_mark_84 : decode cX5_mark 84 = .ok (.invokevirtual 256, 3) := by decide +kernel
theorem dX5_mark_87 : decode cX5_mark 87 = .ok (.ireturn, 1) := by decide +kernel
theorem dX5_mark_88 : decode cX5_mark 88 = .ok (.ldc 240, 2) := by decide +kernel
theorem dX5_mark_90 : decode cX5_mark 90 = .ok (.ireturn, 1) := by decide +kernel
theorem dX5_keep_0 : decode cX5_keep 0 = .ok (.iload_n 1, 1) := by decide +kernel
theorem dX5_keep_1 : decode cX5_keep 1 = .ok (.iconst 0, 1) := by decide +kernel
theorem dX5_keep_2 : decode cX5_keep 2 = .ok (.iconst 1, 1) := by decide +kernel
theorem dX5_keep_3 : decode cX5_keep 3 = .ok (.invokestatic 60, 3) := by decide +kernel
theorem dX5_keep_6 : decode cX5_keep 6 = .ok (.ifCond .ne 5, 3) := by decide +kernel
theorem dX5_keep_9 : decode cX5_keep 9 = .ok (.iconst (-1), 1) := by decide +kernel
theorem dX5_keep_10 : decode cX5_keep 10 = .ok (.ireturn, 1) := by decide +kernel
theorem dX5_keep_11 : decode cX5_keep 11 = .ok (.aload_n 0, 1) := by decide +kernel
theorem dX5_keep_12 : decode cX5_keep 12 = .ok (.getfield 30, 3) := by decide +kernel
theorem dX5_keep_15 : decode cX5_keep 15 = .ok (.iload_n 1, 1) := by decide +kernel
theorem dX5_keep_16 : decode cX5_keep 16 = .ok (.aaload, 1) := by decide +kernel
theorem dX5_keep_17 : decode cX5_keep 17 = .ok (.aload_n 0, 1) := by decide +kernel
theorem dX5_keep_18 : decode cX5_keep 18 = .ok (.getfield 26, 3) := by decide +kernel
theorem dX5_keep_21 : decode cX5_keep 21 = .ok (.invokevirtual 259, 3) := by decide +kernel
theorem dX5_keep_24 : decode cX5_keep 24 = .ok (.aload_n 0, 1) := by decide +kernel
theorem dX5_keep_25 : decode cX5_keep 25 = .ok (.getfield 34, 3) := by decide +kernel
theorem dX5_keep_28 : decode cX5_keep 28 = .ok (.iload_n 1, 1) := by decide +kernel
theorem dX5_keep_29 : decode cX5_keep 29 = .ok (.iconst 1, 1) := by decide +kernel
theorem dX5_keep_30 : decode cX5_keep 30 = .ok (.bastore, 1) := by decide +kernel
theorem dX5_keep_31 : decode cX5_keep 31 = .ok (.aload_n 0, 1) := by decide +kernel
theorem dX5_keep_32 : decode cX5_keep 32 = .ok (.getfield 26, 3) := by decide +kernel
theorem dX5_keep_35 : decode cX5_keep 35 = .ok (.getfield 104, 3) := by decide +kernel
theorem dX5_keep_38 : decode cX5_keep 38 = .ok (.getfield 167, 3) := by decide +kernel
theorem dX5_keep_41 : decode cX5_keep 41 = .ok (.ireturn, 1) := by decide +kernel
theorem dX5_back_0 : decode cX5_back 0 = .ok (.iload_n 1, 1) := by decide +kernel
theorem dX5_back_1 : decode cX5_back 1 = .ok (.iconst 0, 1) := by decide +kernel
theorem dX5_back_2 : decode cX5_back 2 = .ok (.iconst 1, 1) := by decide +kernel
theorem dX5_back_3 : decode cX5_back 3 = .ok (.invokestatic 60, 3) := by decide +kernel
theorem dX5_back_6 : decode cX5_back 6 = .ok (.ifCond .ne 5, 3) := by decide +kernel
theorem dX5_back_9 : decode cX5_back 9 = .ok (.iconst (-1), 1) := by decide +kernel
theorem dX5_back_10 : decode cX5_back 10 = .ok (.ireturn, 1) := by decide +kernel
theorem dX5_back_11 : decode cX5_back 11 = .ok (.aload_n 0, 1) := by decide +kernel
theorem dX5_back_12 : decode cX5_back 12 = .ok (.getfield 34, 3) := by decide +kernel
theorem dX5_back_15 : decode cX5_back 15 = .ok (.iload_n 1, 1) := by decide +kernel
theorem dX5_back_16 : decode cX5_back 16 = .ok (.baload, 1) := by decide +kernel
theorem dX5_back_17 : decode cX5_back 17 = .ok (.ifCond .ne 6, 3) := by decide +kernel
theorem dX5_back_20 : decode cX5_back 20 = .ok (.bipush (-2), 2) := by decide +kernel
theorem dX5_back_22 : decode cX5_back 22 = .ok (.ireturn, 1) := by decide +kernel
theorem dX5_back_23 : decode cX5_back 23 = .ok (.aload_n 0, 1) := by decide +kernel
theorem dX5_back_24 : decode cX5_back 24 = .ok (.getfield 26, 3) := by decide +kernel
theorem dX5_back_27 : decode cX5_back 27 = .ok (.aload_n 0, 1) := by decide +kernel
theorem dX5_back_28 : decode cX5_back 28 = .ok (.getfield 30, 3) := by decide +kernel
theorem dX5_back_31 : decode cX5_back 31 = .ok (.iload_n 1, 1) := by decide +kernel
theorem dX5_back_32 : decode cX5_back 32 = .ok (.aaload, 1) := by decide +kernel
theorem dX5_back_33 : decode cX5_back 33 = .ok (.invokevirtual 259, 3) := by decide +kernel
theorem dX5_back_36 : decode cX5_back 36 = .ok (.aload_n 0, 1) := by decide +kernel
theorem dX5_back_37 : decode cX5_back 37 = .ok (.getfield 26, 3) := by decide +kernel
theorem dX5_back_40 : decode cX5_back 40 = .ok (.getfield 104, 3) := by decide +kernel
theorem dX5_back_43 : decode cX5_back 43 = .ok (.getfield 167, 3) := by decide +kernel
theorem dX5_back_46 : decode cX5_back 46 = .ok (.ireturn, 1) := by decide +kernel
theorem dX5_count_0 : decode cX5_count 0 = .ok (.iload_n 1, 1) := by decide +kernel
theorem dX5_count_1 : decode cX5_count 1 = .ok (.tableswitch 123 0 8 #[51, 59, 67, 75, 83, 91, 99, 104, 112], 51) := by decide +kernel
theorem dX5_count_52 : decode cX5_count 52 = .ok (.aload_n 0, 1) := by decide +kernel
theorem dX5_count_53 : decode cX5_count 53 = .ok (.getfield 19, 3) := by decide +kernel
theorem dX5_count_56 : decode cX5_count 56 = .ok (.getfield 224, 3) := by decide +kernel
theorem dX5_count_59 : decode cX5_count 59 = .ok (.ireturn, 1) := by decide +kernel
theorem dX5_count_60 : decode cX5_count 60 = .ok (.aload_n 0, 1) := by decide +kernel
theorem dX5_count_61 : decode cX5_count 61 = .ok (.getfield 19, 3) := by decide +kernel
theorem dX5_count_64 : decode cX5_count 64 = .ok (.getfield 262, 3) := by decide +kernel
theorem dX5_count_67 : decode cX5_count 67 = .ok (.ireturn, 1) := by decide +kernel
theorem dX5_count_68 : decode cX5_count 68 = .ok (.aload_n 0, 1) := by decide +kernel
theorem dX5_count_69 : decode cX5_count 69 = .ok (.getfield 19, 3) := by decide +kernel
theorem dX5_count_72 : decode cX5_count 72 = .ok (.getfield 265, 3) := by decide +kernel
theorem dX5_count_75 : decode cX5_count 75 = .ok (.ireturn, 1) := by decide +kernel
theorem dX5_count_76 : decode cX5_count 76 = .ok (.aload_n 0, 1) := by decide +kernel
theorem dX5_count_77 : decode cX5_count 77 = .ok (.getfield 19, 3) := by decide +kernel
theorem dX5_count_80 : decode cX5_count 80 = .ok (.getfield 268, 3) := by decide +kernel
theorem dX5_count_83 : decode cX5_count 83 = .ok (.ireturn, 1) := by decide +kernel
theorem dX5_count_84 : decode cX5_count 84 = .ok (.aload_n 0, 1) := by decide +kernel
theorem dX5_count_85 : decode cX5_count 85 = .ok (.getfield 19, 3) := by decide +kernel
theorem dX5_count_88 : decode cX5_count 88 = .ok (.getfield 271, 3) := by decide +kernel
theorem dX5_count_91 : decode cX5_count 91 = .ok (.ireturn, 1) := by decide +kernel
theorem dX5_count_92 : decode cX5_count 92 = .ok (.aload_n 0, 1) := by decide +kernel
theorem dX5_count_93 : decode cX5_count 93 = .ok (.getfield 19, 3) := by decide +kernel
theorem dX5_count_96 : decode cX5_count 96 = .ok (.getfield 274, 3) := by decide +kernel
theorem dX5_count_99 : decode cX5_count 99 = .ok (.ireturn, 1) := by decide +kernel
theorem dX5_count_100 : decode cX5_count 100 = .ok (.aload_n 0, 1) := by decide +kernel
theorem dX5_count_101 : decode cX5_count 101 = .ok (.getfield 52, 3) := by decide +kernel
theorem dX5_count_104 : decode cX5_count 104 = .ok (.ireturn, 1) := by decide +kernel
theorem dX5_count_105 : decode cX5_count 105 = .ok (.aload_n 0, 1) := by decide +kernel
theorem dX5_count_106 : decode cX5_count 106 = .ok (.getfield 26, 3) := by decide +kernel
theorem dX5_count_109 : decode cX5_count 109 = .ok (.getfield 185, 3) := by decide +kernel
theorem dX5_count_112 : decode cX5_count 112 = .ok (.ireturn, 1) := by decide +kernel
theorem dX5_count_113 : decode cX5_count 113 = .ok (.aload_n 0, 1) := by decide +kernel
theorem dX5_count_114 : decode cX5_count 114 = .ok (.getfield 12, 3) := by decide +kernel
theorem dX5_count_117 : decode cX5_count 117 = .ok (.getfield 64, 3) := by decide +kernel
theorem dX5_count_120 : decode cX5_count 120 = .ok (.getfield 74, 3) := by decide +kernel
theorem dX5_count_123 : decode cX5_count 123 = .ok (.ireturn, 1) := by decide +kernel
theorem dX5_count_124 : decode cX5_count 124 = .ok (.iconst (-1), 1) := by decide +kernel
theorem dX5_count_125 : decode cX5_count 125 = .ok (.ireturn, 1) := by decide +kernel
theorem dX5_trace_0 : decode cX5_trace 0 = .ok (.aload_n 0, 1) := by decide +kernel
theorem dX5_trace_1 : decode cX5_trace 1 = .ok (.getfield 56, 3) := by decide +kernel
theorem dX5_trace_4 : decode cX5_trace 4 = .ok (.lreturn, 1) := by decide +kernel
theorem dX5_isWithin_0 : decode cX5_isWithin 0 = .ok (.iload_n 0, 1) := by decide +kernel
theorem dX5_isWithin_1 : decode cX5_isWithin 1 = .ok (.iload_n 1, 1) := by decide +kernel
theorem dX5_isWithin_2 : decode cX5_isWithin 2 = .ok (.if_icmp .lt 12, 3) := by decide +kernel
theorem dX5_isWithin_5 : decode cX5_isWithin 5 = .ok (.iload_n 0, 1) := by decide +kernel
theorem dX5_isWithin_6 : decode cX5_isWithin 6 = .ok (.iload_n 2, 1) := by decide +kernel
theorem dX5_isWithin_7 : decode cX5_isWithin 7 = .ok (.if_icmp .gt 7, 3) := by decide +kernel
theorem dX5_isWithin_10 : decode cX5_isWithin 10 = .ok (.iconst 1, 1) := by decide +kernel
theorem dX5_isWithin_11 : decode cX5_isWithin 11 = .ok (.goto 4, 3) := by decide +kernel
theorem dX5_isWithin_14 : decode cX5_isWithin 14 = .ok (.iconst 0, 1) := by decide +kernel
theorem dX5_isWithin_15 : decode cX5_isWithin 15 = .ok (.ireturn, 1) := by decide +kernel
theorem dX5_isDay_0 : decode cX5_isDay 0 = .ok (.iload_n 1, 1) := by decide +kernel
theorem dX5_isDay_1 : decode cX5_isDay 1 = .ok (.iconst 0, 1) := by decide +kernel
theorem dX5_isDay_2 : decode cX5_isDay 2 = .ok (.aload_n 0, 1) := by decide +kernel
theorem dX5_isDay_3 : decode cX5_isDay 3 = .ok (.getfield 19, 3) := by decide +kernel
theorem dX5_isDay_6 : decode cX5_isDay 6 = .ok (.getfield 224, 3) := by decide +kernel
theorem dX5_isDay_9 : decode cX5_isDay 9 = .ok (.iconst 1, 1) := by decide +kernel
theorem dX5_isDay_10 : decode cX5_isDay 10 = .ok (.isub, 1) := by decide +kernel
theorem dX5_isDay_11 : decode cX5_isDay 11 = .ok (.invokestatic 60, 3) := by decide +kernel
theorem dX5_isDay_14 : decode cX5_isDay 14 = .ok (.ireturn, 1) := by decide +kernel
theorem dX5_isCrop_0 : decode cX5_isCrop 0 = .ok (.iload_n 1, 1) := by decide +kernel
theorem dX5_isCrop_1 : decode cX5_isCrop 1 = .ok (.iconst 0, 1) := by decide +kernel
theorem dX5_isCrop_2 : decode cX5_isCrop 2 = .ok (.aload_n 0, 1) := by decide +kernel
theorem dX5_isCrop_3 : decode cX5_isCrop 3 = .ok (.getfield 19, 3) := by decide +kernel
theorem dX5_isCrop_6 : decode cX5_isCrop 6 = .ok (.getfield 265, 3) := by decide +kernel
theorem dX5_isCrop_9 : decode cX5_isCrop 9 = .ok (.iconst 1, 1) := by decide +kernel
theorem dX5_isCrop_10 : decode cX5_isCrop 10 = .ok (.isub, 1) := by decide +kernel
theorem dX5_isCrop_11 : decode cX5_isCrop 11 = .ok (.invokestatic 60, 3) := by decide +kernel
theorem dX5_isCrop_14 : decode cX5_isCrop 14 = .ok (.ireturn, 1) := by decide +kernel
theorem dX5_isLoan_0 : decode cX5_isLoan 0 = .ok (.iload_n 0, 1) := by decide +kernel
theorem dX5_isLoan_1 : decode cX5_isLoan 1 = .ok (.iconst 0, 1) := by decide +kernel
theorem dX5_isLoan_2 : decode cX5_isLoan 2 = .ok (.iconst 3, 1) := by decide +kernel
theorem dX5_isLoan_3 : decode cX5_isLoan 3 = .ok (.invokestatic 60, 3) := by decide +kernel
theorem dX5_isLoan_6 : decode cX5_isLoan 6 = .ok (.ireturn, 1) := by decide +kernel
theorem dX5_has_0 : decode cX5_has 0 = .ok (.iload_n 0, 1) := by decide +kernel
theorem dX5_has_1 : decode cX5_has 1 = .ok (.iload_n 1, 1) := by decide +kernel
theorem dX5_has_2 : decode cX5_has 2 = .ok (.ishr, 1) := by decide +kernel
theorem dX5_has_3 : decode cX5_has 3 = .ok (.iconst 1, 1) := by decide +kernel
theorem dX5_has_4 : decode cX5_has 4 = .ok (.iand, 1) := by decide +kernel
theorem dX5_has_5 : decode cX5_has 5 = .ok (.ifCond .eq 7, 3) := by decide +kernel
theorem dX5_has_8 : decode cX5_has 8 = .ok (.iconst 1, 1) := by decide +kernel
theorem dX5_has_9 : decode cX5_has 9 = .ok (.goto 4, 3) := by decide +kernel
theorem dX5_has_12 : decode cX5_has 12 = .ok (.iconst 0, 1) := by decide +kernel
theorem dX5_has_13 : decode cX5_has 13 = .ok (.ireturn, 1) := by decide +kernel
theorem dX5_rowBits_0 : decode cX5_rowBits 0 = .ok (.iconst 1, 1) := by decide +kernel
theorem dX5_rowBits_1 : decode cX5_rowBits 1 = .ok (.iload_n 1, 1) := by decide +kernel
theorem dX5_rowBits_2 : decode cX5_rowBits 2 = .ok (.ishl, 1) := by decide +kernel
theorem dX5_rowBits_3 : decode cX5_rowBits 3 = .ok (.iconst 1, 1) := by decide +kernel
theorem dX5_rowBits_4 : decode cX5_rowBits 4 = .ok (.isub, 1) := by decide +kernel
theorem dX5_rowBits_5 : decode cX5_rowBits 5 = .ok (.iload_n 0, 1) := by decide +kernel
theorem dX5_rowBits_6 : decode cX5_rowBits 6 = .ok (.ishl, 1) := by decide +kernel
theorem dX5_rowBits_7 : decode cX5_rowBits 7 = .ok (.ireturn, 1) := by decide +kernel
theorem dX5_daysIn_0 : decode cX5_daysIn 0 = .ok (.aload_n 0, 1) := by decide +kernel
theorem dX5_daysIn_1 : decode cX5_daysIn 1 = .ok (.getfield 26, 3) := by decide +kernel
theorem dX5_daysIn_4 : decode cX5_daysIn 4 = .ok (.getfield 104, 3) := by decide +kernel
theorem dX5_daysIn_7 : decode cX5_daysIn 7 = .ok (.aload_n 0, 1) := by decide +kernel
theorem dX5_daysIn_8 : decode cX5_daysIn 8 = .ok (.getfield 19, 3) := by decide +kernel
theorem dX5_daysIn_11 : decode cX5_daysIn 11 = .ok (.invokevirtual 216, 3) := by decide +kernel
theorem dX5_daysIn_14 : decode cX5_daysIn 14 = .ok (.ireturn, 1) := by decide +kernel
theorem dX5_isRowIn_0 : decode cX5_isRowIn 0 = .ok (.iload_n 1, 1) := by decide +kernel
theorem dX5_isRowIn_1 : decode cX5_isRowIn 1 = .ok (.iload_n 2, 1) := by decide +kernel
theorem dX5_isRowIn_2 : decode cX5_isRowIn 2 = .ok (.iadd, 1) := by decide +kernel
theorem dX5_isRowIn_3 : decode cX5_isRowIn 3 = .ok (.aload_n 0, 1) := by decide +kernel
theorem dX5_isRowIn_4 : decode cX5_isRowIn 4 = .ok (.getfield 19, 3) := by decide +kernel
theorem dX5_isRowIn_7 : decode cX5_isRowIn 7 = .ok (.getfield 224, 3) := by decide +kernel
theorem dX5_isRowIn_10 : decode cX5_isRowIn 10 = .ok (.if_icmp .gt 22, 3) := by decide +kernel
theorem dX5_isRowIn_13 : decode cX5_isRowIn 13 = .ok (.iload_n 1, 1) := by decide +kernel
theorem dX5_isRowIn_14 : decode cX5_isRowIn 14 = .ok (.iload_n 2, 1) := by decide +kernel
theorem dX5_isRowIn_15 : decode cX5_isRowIn 15 = .ok (.invokestatic 160, 3) := by decide +kernel
theorem dX5_isRowIn_18 : decode cX5_isRowIn 18 = .ok (.aload_n 0, 1) := by decide +kernel
theorem dX5_isRowIn_19 : decode cX5_isRowIn 19 = .ok (.invokevirtual 125, 3) := by decide +kernel
theorem dX5_isRowIn_22 : decode cX5_isRowIn 22 = .ok (.iconst (-1), 1) := by decide +kernel
theorem dX5_isRowIn_23 : decode cX5_isRowIn 23 = .ok (.ixor, 1) := by decide +kernel
theorem dX5_isRowIn_24 : decode cX5_isRowIn 24 = .ok (.iand, 1) := by decide +kernel
theorem dX5_isRowIn_25 : decode cX5_isRowIn 25 = .ok (.ifCond .ne 7, 3) := by decide +kernel
theorem dX5_isRowIn_28 : decode cX5_isRowIn 28 = .ok (.iconst 1, 1) := by decide +kernel
theorem dX5_isRowIn_29 : decode cX5_isRowIn 29 = .ok (.goto 4, 3) := by decide +kernel
theorem dX5_isRowIn_32 : decode cX5_isRowIn 32 = .ok (.iconst 0, 1) := by decide +kernel
theorem dX5_isRowIn_33 : decode cX5_isRowIn 33 = .ok (.ireturn, 1) := by decide +kernel
theorem dX5_ripensNow_0 : decode cX5_ripensNow 0 = .ok (.aload_n 0, 1) := by decide +kernel
theorem dX5_ripensNow_1 : decode cX5_ripensNow 1 = .ok (.getfield 19, 3) := by decide +kernel
theorem dX5_ripensNow_4 : decode cX5_ripensNow 4 = .ok (.iload_n 1, 1) := by decide +kernel
theorem dX5_ripensNow_5 : decode cX5_ripensNow 5 = .ok (.aload_n 0, 1) := by decide +kernel
theorem dX5_ripensNow_6 : decode cX5_ripensNow 6 = .ok (.invokevirtual 125, 3) := by decide +kernel
theorem dX5_ripensNow_9 : decode cX5_ripensNow 9 = .ok (.invokevirtual 128, 3) := by decide +kernel
theorem dX5_ripensNow_12 : decode cX5_ripensNow 12 = .ok (.bipush (-9), 2) := by decide +kernel
theorem dX5_ripensNow_14 : decode cX5_ripensNow 14 = .ok (.if_icmp .eq 7, 3) := by decide +kernel
theorem dX5_ripensNow_17 : decode cX5_ripensNow 17 = .ok (.iconst 1, 1) := by decide +kernel
theorem dX5_ripensNow_18 : decode cX5_ripensNow 18 = .ok (.goto 4, 3) := by decide +kernel
theorem dX5_ripensNow_21 : decode cX5_ripensNow 21 = .ok (.iconst 0, 1) := by decide +kernel
theorem dX5_ripensNow_22 : decode cX5_ripensNow 22 = .ok (.ireturn, 1) := by decide +kernel
theorem dX5_howDayIs_0 : decode cX5_howDayIs 0 = .ok (.aload_n 0, 1) := by decide +kernel
theorem dX5_howDayIs_1 : decode cX5_howDayIs 1 = .ok (.getfield 26, 3) := by decide +kernel
theorem dX5_howDayIs_4 : decode cX5_howDayIs 4 = .ok (.getfield 104, 3) := by decide +kernel
theorem dX5_howDayIs_7 : decode cX5_howDayIs 7 = .ok (.getfield 191, 3) := by decide +kernel
theorem dX5_howDayIs_10 : decode cX5_howDayIs 10 = .ok (.iload_n 1, 1) := by decide +kernel
theorem dX5_howDayIs_11 : decode cX5_howDayIs 11 = .ok (.invokestatic 277, 3) := by decide +kernel
theorem dX5_howDayIs_14 : decode cX5_howDayIs 14 = .ok (.ifCond .eq 5, 3) := by decide +kernel
theorem dX5_howDayIs_17 : decode cX5_howDayIs 17 = .ok (.iconst 2, 1) := by decide +kernel
theorem dX5_howDayIs_18 : decode cX5_howDayIs 18 = .ok (.ireturn, 1) := by decide +kernel
theorem dX5_howDayIs_19 : decode cX5_howDayIs 19 = .ok (.aload_n 0, 1) := by decide +kernel
theorem dX5_howDayIs_20 : decode cX5_howDayIs 20 = .ok (.getfield 26, 3) := by decide +kernel
theorem dX5_howDayIs_23 : decode cX5_howDayIs 23 = .ok (.getfield 104, 3) := by decide +kernel
theorem dX5_howDayIs_26 : decode cX5_howDayIs 26 = .ok (.iload_n 1, 1) := by decide +kernel
theorem dX5_howDayIs_27 : decode cX5_howDayIs 27 = .ok (.invokevirtual 107, 3) := by decide +kernel
theorem dX5_howDayIs_30 : decode cX5_howDayIs 30 = .ok (.bipush (-9), 2) := by decide +kernel
theorem dX5_howDayIs_32 : decode cX5_howDayIs 32 = .ok (.if_icmp .ne 7, 3) := by decide +kernel
theorem dX5_howDayIs_35 : decode cX5_howDayIs 35 = .ok (.iconst 0, 1) := by decide +kernel
theorem dX5_howDayIs_36 : decode cX5_howDayIs 36 = .ok (.goto 4, 3) := by decide +kernel
theorem dX5_howDayIs_39 : decode cX5_howDayIs 39 = .ok (.iconst 1, 1) := by decide +kernel
theorem dX5_howDayIs_40 : decode cX5_howDayIs 40 = .ok (.ireturn, 1) := by decide +kernel
theorem dX5_cheapestRow_0 : decode cX5_cheapestRow 0 = .ok (.aload_n 0, 1) := by decide +kernel
theorem dX5_cheapestRow_1 : decode cX5_cheapestRow 1 = .ok (.invokevirtual 125, 3) := by decide +kernel
theorem dX5_cheapestRow_4 : decode cX5_cheapestRow 4 = .ok (.istore_n 2, 1) := by decide +kernel
theorem dX5_cheapestRow_5 : decode cX5_cheapestRow 5 = .ok (.bipush (-9), 2) := by decide +kernel
theorem dX5_cheapestRow_7 : decode cX5_cheapestRow 7 = .ok (.istore_n 3, 1) := by decide +kernel
theorem dX5_cheapestRow_8 : decode cX5_cheapestRow 8 = .ok (.iconst (-1), 1) := by decide +kernel
theorem dX5_cheapestRow_9 : decode cX5_cheapestRow 9 = .ok (.istore 4, 2) := by decide +kernel
theorem dX5_cheapestRow_11 : decode cX5_cheapestRow 11 = .ok (.iconst 1, 1) := by decide +kernel
theorem dX5_cheapestRow_12 : decode cX5_cheapestRow 12 = .ok (.istore 5, 2) := by decide +kernel
theorem dX5_cheapestRow_14 : decode cX5_cheapestRow 14 = .ok (.iload 5, 2) := by decide +kernel
theorem dX5_cheapestRow_16 : decode cX5_cheapestRow 16 = .ok (.bipush 9, 2) := by decide +kernel
theorem dX5_cheapestRow_18 : decode cX5_cheapestRow 18 = .ok (.if_icmp .gt 101, 3) := by decide +kernel
theorem dX5_cheapestRow_21 : decode cX5_cheapestRow 21 = .ok (.iconst 0, 1) := by decide +kernel
theorem dX5_cheapestRow_22 : decode cX5_cheapestRow 22 = .ok (.istore 6, 2) := by decide +kernel
theorem dX5_cheapestRow_24 : decode cX5_cheapestRow 24 = .ok (.iload 6, 2) := by decide +kernel
theorem dX5_cheapestRow_26 : decode cX5_cheapestRow 26 = .ok (.iload 5, 2) := by decide +kernel
theorem dX5_cheapestRow_28 : decode cX5_cheapestRow 28 = .ok (.iadd, 1) := by decide +kernel
theorem dX5_cheapestRow_29 : decode cX5_cheapestRow 29 = .ok (.aload_n 0, 1) := by decide +kernel
theorem dX5_cheapestRow_30 : decode cX5_cheapestRow 30 = .ok (.getfield 19, 3) := by decide +kernel
theorem dX5_cheapestRow_33 : decode cX5_cheapestRow 33 = .ok (.getfield 224, 3) := by decide +kernel
theorem dX5_cheapestRow_36 : decode cX5_cheapestRow 36 = .ok (.if_icmp .gt 77, 3) := by decide +kernel
theorem dX5_cheapestRow_39 : decode cX5_cheapestRow 39 = .ok (.iload 6, 2) := by decide +kernel
theorem dX5_cheapestRow_41 : decode cX5_cheapestRow 41 = .ok (.iload 5, 2) := by decide +kernel
theorem dX5_cheapestRow_43 : decode cX5_cheapestRow 43 = .ok (.invokestatic 160, 3) := by decide +kernel
theorem dX5_cheapestRow_46 : decode cX5_cheapestRow 46 = .ok (.istore 7, 2) := by decide +kernel
theorem dX5_cheapestRow_48 : decode cX5_cheapestRow 48 = .ok (.iload 7, 2) := by decide +kernel
theorem dX5_cheapestRow_50 : decode cX5_cheapestRow 50 = .ok (.iload_n 2, 1) := by decide +kernel
theorem dX5_cheapestRow_51 : decode cX5_cheapestRow 51 = .ok (.iconst (-1), 1) := by decide +kernel
theorem dX5_cheapestRow_52 : decode cX5_cheapestRow 52 = .ok (.ixor, 1) := by decide +kernel
theorem dX5_cheapestRow_53 : decode cX5_cheapestRow 53 = .ok (.iand, 1) := by decide +kernel
theorem dX5_cheapestRow_54 : decode cX5_cheapestRow 54 = .ok (.ifCond .ne 53, 3) := by decide +kernel
theorem dX5_cheapestRow_57 : decode cX5_cheapestRow 57 = .ok (.aload_n 0, 1) := by decide +kernel
theorem dX5_cheapestRow_58 : decode cX5_cheapestRow 58 = .ok (.getfield 19, 3) := by decide +kernel
theorem dX5_cheapestRow_61 : decode cX5_cheapestRow 61 = .ok (.iload 6, 2) := by decide +kernel
theorem dX5_cheapestRow_63 : decode cX5_cheapestRow 63 = .ok (.iload 5, 2) := by decide +kernel
theorem dX5_cheapestRow_65 : decode cX5_cheapestRow 65 = .ok (.invokevirtual 157, 3) := by decide +kernel
theorem dX5_cheapestRow_68 : decode cX5_cheapestRow 68 = .ok (.iload_n 1, 1) := by decide +kernel
theorem dX5_cheapestRow_69 : decode cX5_cheapestRow 69 = .ok (.if_icmp .lt 38, 3) := by decide +kernel
theorem dX5_cheapestRow_72 : decode cX5_cheapestRow 72 = .ok (.aload_n 0, 1) := by decide +kernel
theorem dX5_cheapestRow_73 : decode cX5_cheapestRow 73 = .ok (.getfield 19, 3) := by decide +kernel
theorem dX5_cheapestRow_76 : decode cX5_cheapestRow 76 = .ok (.iload_n 2, 1) := by decide +kernel
theorem dX5_cheapestRow_77 : decode cX5_cheapestRow 77 = .ok (.iload 7, 2) := by decide +kernel
theorem dX5_cheapestRow_79 : decode cX5_cheapestRow 79 = .ok (.iconst (-1), 1) := by decide +kernel
theorem dX5_cheapestRow_80 : decode cX5_cheapestRow 80 = .ok (.ixor, 1) := by decide +kernel
theorem dX5_cheapestRow_81 : decode cX5_cheapestRow 81 = .ok (.iand, 1) := by decide +kernel
theorem dX5_cheapestRow_82 : decode cX5_cheapestRow 82 = .ok (.invokevirtual 194, 3) := by decide +kernel
theorem dX5_cheapestRow_85 : decode cX5_cheapestRow 85 = .ok (.istore 8, 2) := by decide +kernel
theorem dX5_cheapestRow_87 : decode cX5_cheapestRow 87 = .ok (.iload 8, 2) := by decide +kernel
theorem dX5_cheapestRow_89 : decode cX5_cheapestRow 89 = .ok (.iload 4, 2) := by decide +kernel
theorem dX5_cheapestRow_91 : decode cX5_cheapestRow 91 = .ok (.if_icmp .le 16, 3) := by decide +kernel
theorem dX5_cheapestRow_94 : decode cX5_cheapestRow 94 = .ok (.iload 6, 2) := by decide +kernel
theorem dX5_cheapestRow_96 : decode cX5_cheapestRow 96 = .ok (.bipush 100, 2) := by decide +kernel
theorem dX5_cheapestRow_98 : decode cX5_cheapestRow 98 = .ok (.imul, 1) := by decide +kernel
theorem dX5_cheapestRow_99 : decode cX5_cheapestRow 99 = .ok (.iload 5, 2) := by decide +kernel
theorem dX5_cheapestRow_101 : decode cX5_cheapestRow 101 = .ok (.iadd, 1) := by decide +kernel
theorem dX5_cheapestRow_102 : decode cX5_cheapestRow 102 = .ok (.istore_n 3, 1) := by decide +kernel
theorem dX5_cheapestRow_103 : decode cX5_cheapestRow 103 = .ok (.iload 8, 2) := by decide +kernel
theorem dX5_cheapestRow_105 : decode cX5_cheapestRow 105 = .ok (.istore 4, 2) := by decide +kernel
theorem dX5_cheapestRow_107 : decode cX5_cheapestRow 107 = .ok (.iinc 6 1, 3) := by decide +kernel
theorem dX5_cheapestRow_110 : decode cX5_cheapestRow 110 = .ok (.goto (-86), 3) := by decide +kernel
theorem dX5_cheapestRow_113 : decode cX5_cheapestRow 113 = .ok (.iinc 5 1, 3) := by decide +kernel
theorem dX5_cheapestRow_116 : decode cX5_cheapestRow 116 = .ok (.goto (-102), 3) := by decide +kernel
theorem dX5_cheapestRow_119 : decode cX5_cheapestRow 119 = .ok (.iload_n 3, 1) := by decide +kernel
theorem dX5_cheapestRow_120 : decode cX5_cheapestRow 120 = .ok (.ireturn, 1) := by decide +kernel
theorem dX5_bestFreeing_0 : decode cX5_bestFreeing 0 = .ok (.aload_n 0, 1) := by decide +kernel
theorem dX5_bestFreeing_1 : decode cX5_bestFreeing 1 = .ok (.getfield 26, 3) := by decide +kernel
theorem dX5_bestFreeing_4 : decode cX5_bestFreeing 4 = .ok (.getfield 104, 3) := by decide +kernel
theorem dX5_bestFreeing_7 : decode cX5_bestFreeing 7 = .ok (.astore_n 1, 1) := by decide +kernel
theorem dX5_bestFreeing_8 : decode cX5_bestFreeing 8 = .ok (.aload_n 0, 1) := by decide +kernel
theorem dX5_bestFreeing_9 : decode cX5_bestFreeing 9 = .ok (.invokevirtual 125, 3) := by decide +kernel
theorem dX5_bestFreeing_12 : decode cX5_bestFreeing 12 = .ok (.istore_n 2, 1) := by decide +kernel
theorem dX5_bestFreeing_13 : decode cX5_bestFreeing 13 = .ok (.iconst 0, 1) := by decide +kernel
theorem dX5_bestFreeing_14 : decode cX5_bestFreeing 14 = .ok (.istore_n 3, 1) := by decide +kernel
theorem dX5_bestFreeing_15 : decode cX5_bestFreeing 15 = .ok (.iconst 0, 1) := by decide +kernel
theorem dX5_bestFreeing_16 : decode cX5_bestFreeing 16 = .ok (.istore 4, 2) := by decide +kernel
theorem dX5_bestFreeing_18 : decode cX5_bestFreeing 18 = .ok (.aload_n 0, 1) := by decide +kernel
theorem dX5_bestFreeing_19 : decode cX5_bestFreeing 19 = .ok (.getfield 19, 3) := by decide +kernel
theorem dX5_bestFreeing_22 : decode cX5_bestFreeing 22 = .ok (.iload_n 2, 1) := by decide +kernel
theorem dX5_bestFreeing_23 : decode cX5_bestFreeing 23 = .ok (.invokevirtual 194, 3) := by decide +kernel
theorem dX5_bestFreeing_26 : decode cX5_bestFreeing 26 = .ok (.istore 5, 2) := by decide +kernel
theorem dX5_bestFreeing_28 : decode cX5_bestFreeing 28 = .ok (.iconst 1, 1) := by decide +kernel
theorem dX5_bestFreeing_29 : decode cX5_bestFreeing 29 = .ok (.istore 6, 2) := by decide +kernel
theorem dX5_bestFreeing_31 : decode cX5_bestFreeing 31 = .ok (.iload 6, 2) := by decide +kernel
theorem dX5_bestFreeing_33 : decode cX5_bestFreeing 33 = .ok (.bipush 16, 2) := by decide +kernel
theorem dX5_bestFreeing_35 : decode cX5_bestFreeing 35 = .ok (.if_icmp .ge 84, 3) := by decide +kernel
theorem dX5_bestFreeing_38 : decode cX5_bestFreeing 38 = .ok (.aload_n 1, 1) := by decide +kernel
theorem dX5_bestFreeing_39 : decode cX5_bestFreeing 39 = .ok (.iload 6, 2) := by decide +kernel
theorem dX5_bestFreeing_41 : decode cX5_bestFreeing 41 = .ok (.invokevirtual 280, 3) := by decide +kernel
theorem dX5_bestFreeing_44 : decode cX5_bestFreeing 44 = .ok (.istore 7, 2) := by decide +kernel
theorem dX5_bestFreeing_46 : decode cX5_bestFreeing 46 = .ok (.aload_n 1, 1) := by decide +kernel
theorem dX5_bestFreeing_47 : decode cX5_bestFreeing 47 = .ok (.iload 6, 2) := by decide +kernel
theorem dX5_bestFreeing_49 : decode cX5_bestFreeing 49 = .ok (.invokevirtual 283, 3) := by decide +kernel
theorem dX5_bestFreeing_52 : decode cX5_bestFreeing 52 = .ok (.ifCond .eq 61, 3) := by decide +kernel
theorem dX5_bestFreeing_55 : decode cX5_bestFreeing 55 = .ok (.iload 7, 2) := by decide +kernel
theorem dX5_bestFreeing_57 : decode cX5_bestFreeing 57 = .ok (.aload_n 1, 1) := by decide +kernel
theorem dX5_bestFreeing_58 : decode cX5_bestFreeing 58 = .ok (.getfield 167, 3) := by decide +kernel
theorem dX5_bestFreeing_61 : decode cX5_bestFreeing 61 = .ok (.if_icmp .gt 52, 3) := by decide +kernel
theorem dX5_bestFreeing_64 : decode cX5_bestFreeing 64 = .ok (.aload_n 0, 1) := by decide +kernel
theorem dX5_bestFreeing_65 : decode cX5_bestFreeing 65 = .ok (.getfield 19, 3) := by decide +kernel
theorem dX5_bestFreeing_68 : decode cX5_bestFreeing 68 = .ok (.iload_n 2, 1) := by decide +kernel
theorem dX5_bestFreeing_69 : decode cX5_bestFreeing 69 = .ok (.aload_n 1, 1) := by decide +kernel
theorem dX5_bestFreeing_70 : decode cX5_bestFreeing 70 = .ok (.iload 6, 2) := by decide +kernel
theorem dX5_bestFreeing_72 : decode cX5_bestFreeing 72 = .ok (.invokevirtual 209, 3) := by decide +kernel
theorem dX5_bestFreeing_75 : decode cX5_bestFreeing 75 = .ok (.ior, 1) := by decide +kernel
theorem dX5_bestFreeing_76 : decode cX5_bestFreeing 76 = .ok (.invokevirtual 194, 3) := by decide +kernel
theorem dX5_bestFreeing_79 : decode cX5_bestFreeing 79 = .ok (.istore 8, 2) := by decide +kernel
theorem dX5_bestFreeing_81 : decode cX5_bestFreeing 81 = .ok (.iload 8, 2) := by decide +kernel
theorem dX5_bestFreeing_83 : decode cX5_bestFreeing 83 = .ok (.iload 5, 2) := by decide +kernel
theorem dX5_bestFreeing_85 : decode cX5_bestFreeing 85 = .ok (.if_icmp .gt 17, 3) := by decide +kernel
theorem dX5_bestFreeing_88 : decode cX5_bestFreeing 88 = .ok (.iload 8, 2) := by decide +kernel
theorem dX5_bestFreeing_90 : decode cX5_bestFreeing 90 = .ok (.iload 5, 2) := by decide +kernel
theorem dX5_bestFreeing_92 : decode cX5_bestFreeing 92 = .ok (.if_icmp .ne 21, 3) := by decide +kernel
theorem dX5_bestFreeing_95 : decode cX5_bestFreeing 95 = .ok (.iload 7, 2) := by decide +kernel
theorem dX5_bestFreeing_97 : decode cX5_bestFreeing 97 = .ok (.iload 4, 2) := by decide +kernel
theorem dX5_bestFreeing_99 : decode cX5_bestFreeing 99 = .ok (.if_icmp .ge 14, 3) := by decide +kernel
theorem dX5_bestFreeing_102 : decode cX5_bestFreeing 102 = .ok (.iload 6, 2) := by decide +kernel
theorem dX5_bestFreeing_104 : decode cX5_bestFreeing 104 = .ok (.istore_n 3, 1) := by decide +kernel
theorem dX5_bestFreeing_105 : decode cX5_bestFreeing 105 = .ok (.iload 7, 2) := by decide +kernel
theorem dX5_bestFreeing_107 : decode cX5_bestFreeing 107 = .ok (.istore 4, 2) := by decide +kernel
theorem dX5_bestFreeing_109 : decode cX5_bestFreeing 109 = .ok (.iload 8, 2) := by decide +kernel
theorem dX5_bestFreeing_111 : decode cX5_bestFreeing 111 = .ok (.istore 5, 2) := by decide +kernel
theorem dX5_bestFreeing_113 : decode cX5_bestFreeing 113 = .ok (.iinc 6 1, 3) := by decide +kernel
theorem dX5_bestFreeing_116 : decode cX5_bestFreeing 116 = .ok (.goto (-85), 3) := by decide +kernel
theorem dX5_bestFreeing_119 : decode cX5_bestFreeing 119 = .ok (.iload_n 3, 1) := by decide +kernel
theorem dX5_bestFreeing_120 : decode cX5_bestFreeing 120 = .ok (.ireturn, 1) := by decide +kernel
theorem dX5_agreesWithTold_0 : decode cX5_agreesWithTold 0 = .ok (.iconst 0, 1) := by decide +kernel
theorem dX5_agreesWithTold_1 : decode cX5_agreesWithTold 1 = .ok (.istore_n 2, 1) := by decide +kernel
theorem dX5_agreesWithTold_2 : decode cX5_agreesWithTold 2 = .ok (.iload_n 2, 1) := by decide +kernel
theorem dX5_agreesWithTold_3 : decode cX5_agreesWithTold 3 = .ok (.aload_n 0, 1) := by decide +kernel
theorem dX5_agreesWithTold_4 : decode cX5_agreesWithTold 4 = .ok (.getfield 52, 3) := by decide +kernel
theorem dX5_agreesWithTold_7 : decode cX5_agreesWithTold 7 = .ok (.if_icmp .ge 55, 3) := by decide +kernel
theorem dX5_agreesWithTold_10 : decode cX5_agreesWithTold 10 = .ok (.aload_n 0, 1) := by decide +kernel
theorem dX5_agreesWithTold_11 : decode cX5_agreesWithTold 11 = .ok (.getfield 19, 3) := by decide +kernel
theorem dX5_agreesWithTold_14 : decode cX5_agreesWithTold 14 = .ok (.aload_n 0, 1) := by decide +kernel
theorem dX5_agreesWithTold_15 : decode cX5_agreesWithTold 15 = .ok (.getfield 45, 3) := by decide +kernel
theorem dX5_agreesWithTold_18 : decode cX5_agreesWithTold 18 = .ok (.iload_n 2, 1) := by decide +kernel
theorem dX5_agreesWithTold_19 : decode cX5_agreesWithTold 19 = .ok (.iaload, 1) := by decide +kernel
theorem dX5_agreesWithTold_20 : decode cX5_agreesWithTold 20 = .ok (.iload_n 1, 1) := by decide +kernel
theorem dX5_agreesWithTold_21 : decode cX5_agreesWithTold 21 = .ok (.invokevirtual 128, 3) := by decide +kernel
theorem dX5_agreesWithTold_24 : decode cX5_agreesWithTold 24 = .ok (.bipush (-9), 2) := by decide +kernel
theorem dX5_agreesWithTold_26 : decode cX5_agreesWithTold 26 = .ok (.if_icmp .eq 7, 3) := by decide +kernel
theorem dX5_agreesWithTold_29 : decode cX5_agreesWithTold 29 = .ok (.iconst 1, 1) := by decide +kernel
theorem dX5_agreesWithTold_30 : decode cX5_agreesWithTold 30 = .ok (.goto 4, 3) := by decide +kernel
theorem dX5_agreesWithTold_33 : decode cX5_agreesWithTold 33 = .ok (.iconst 0, 1) := by decide +kernel
theorem dX5_agreesWithTold_34 : decode cX5_agreesWithTold 34 = .ok (.istore_n 3, 1) := by decide +kernel
theorem dX5_agreesWithTold_35 : decode cX5_agreesWithTold 35 = .ok (.iload_n 3, 1) := by decide +kernel
theorem dX5_agreesWithTold_36 : decode cX5_agreesWithTold 36 = .ok (.aload_n 0, 1) := by decide +kernel
theorem dX5_agreesWithTold_37 : decode cX5_agreesWithTold 37 = .ok (.getfield 49, 3) := by decide +kernel
theorem dX5_agreesWithTold_40 : decode cX5_agreesWithTold 40 = .ok (.iload_n 2, 1) := by decide +kernel
theorem dX5_agreesWithTold_41 : decode cX5_agreesWithTold 41 = .ok (.iaload, 1) := by decide +kernel
theorem dX5_agreesWithTold_42 : decode cX5_agreesWithTold 42 = .ok (.iconst 1, 1) := by decide +kernel
theorem dX5_agreesWithTold_43 : decode cX5_agreesWithTold 43 = .ok (.if_icmp .ne 7, 3) := by decide +kernel
theorem dX5_agreesWithTold_46 : decode cX5_agreesWithTold 46 = .ok (.iconst 1, 1) := by decide +kernel
theorem dX5_agreesWithTold_47 : decode cX5_agreesWithTold 47 = .ok (.goto 4, 3) := by decide +kernel
theorem dX5_agreesWithTold_50 : decode cX5_agreesWithTold 50 = .ok (.iconst 0, 1) := by decide +kernel
theorem dX5_agreesWithTold_51 : decode cX5_agreesWithTold 51 = .ok (.if_icmp .eq 5, 3) := by decide +kernel
theorem dX5_agreesWithTold_54 : decode cX5_agreesWithTold 54 = .ok (.iconst 0, 1) := by decide +kernel
theorem dX5_agreesWithTold_55 : decode cX5_agreesWithTold 55 = .ok (.ireturn, 1) := by decide +kernel
theorem dX5_agreesWithTold_56 : decode cX5_agreesWithTold 56 = .ok (.iinc 2 1, 3) := by decide +kernel
theorem dX5_agreesWithTold_59 : decode cX5_agreesWithTold 59 = .ok (.goto (-57), 3) := by decide +kernel
theorem dX5_agreesWithTold_62 : decode cX5_agreesWithTold 62 = .ok (.iconst 1, 1) := by decide +kernel
theorem dX5_agreesWithTold_63 : decode cX5_agreesWithTold 63 = .ok (.ireturn, 1) := by decide +kernel
theorem dX5_chancesOf_0 : decode cX5_chancesOf 0 = .ok (.iconst 1, 1) := by decide +kernel
theorem dX5_chancesOf_1 : decode cX5_chancesOf 1 = .ok (.istore_n 3, 1) := by decide +kernel
theorem dX5_chancesOf_2 : decode cX5_chancesOf 2 = .ok (.iconst 0, 1) := by decide +kernel
theorem dX5_chancesOf_3 : decode cX5_chancesOf 3 = .ok (.istore 4, 2) := by decide +kernel
theorem dX5_chancesOf_5 : decode cX5_chancesOf 5 = .ok (.iload 4, 2) := by decide +kernel
theorem dX5_chancesOf_7 : decode cX5_chancesOf 7 = .ok (.iconst 4, 1) := by decide +kernel
theorem dX5_chancesOf_8 : decode cX5_chancesOf 8 = .ok (.if_icmp .ge 38, 3) := by decide +kernel
theorem dX5_chancesOf_11 : decode cX5_chancesOf 11 = .ok (.iload_n 1, 1) := by decide +kernel
theorem dX5_chancesOf_12 : decode cX5_chancesOf 12 = .ok (.iload 4, 2) := by decide +kernel
theorem dX5_chancesOf_14 : decode cX5_chancesOf 14 = .ok (.invokestatic 277, 3) := by decide +kernel
theorem dX5_chancesOf_17 : decode cX5_chancesOf 17 = .ok (.ifCond .eq 23, 3) := by decide +kernel
theorem dX5_chancesOf_20 : decode cX5_chancesOf 20 = .ok (.iload_n 3, 1) := by decide +kernel
theorem dX5_chancesOf_21 : decode cX5_chancesOf 21 = .ok (.iload_n 0, 1) := by decide +kernel
theorem dX5_chancesOf_22 : decode cX5_chancesOf 22 = .ok (.iload 4, 2) := by decide +kernel
theorem dX5_chancesOf_24 : decode cX5_chancesOf 24 = .ok (.invokestatic 277, 3) := by decide +kernel
theorem dX5_chancesOf_27 : decode cX5_chancesOf 27 = .ok (.ifCond .eq 10, 3) := by decide +kernel
theorem dX5_chancesOf_30 : decode cX5_chancesOf 30 = .ok (.bipush 10, 2) := by decide +kernel
theorem dX5_chancesOf_32 : decode cX5_chancesOf 32 = .ok (.iload_n 2, 1) := by decide +kernel
theorem dX5_chancesOf_33 : decode cX5_chancesOf 33 = .ok (.isub, 1) := by decide +kernel
theorem dX5_chancesOf_34 : decode cX5_chancesOf 34 = .ok (.goto 4, 3) := by decide +kernel
theorem dX5_chancesOf_37 : decode cX5_chancesOf 37 = .ok (.iload_n 2, 1) := by decide +kernel
theorem dX5_chancesOf_38 : decode cX5_chancesOf 38 = .ok (.imul, 1) := by decide +kernel
theorem dX5_chancesOf_39 : decode cX5_chancesOf 39 = .ok (.istore_n 3, 1) := by decide +kernel
theorem dX5_chancesOf_40 : decode cX5_chancesOf 40 = .ok (.iinc 4 1, 3) := by decide +kernel
theorem dX5_chancesOf_43 : decode cX5_chancesOf 43 = .ok (.goto (-38), 3) := by decide +kernel
theorem dX5_chancesOf_46 : decode cX5_chancesOf 46 = .ok (.iload_n 3, 1) := by decide +kernel
theorem dX5_chancesOf_47 : decode cX5_chancesOf 47 = .ok (.ireturn, 1) := by decide +kernel
theorem dX5_greatestDivisor_0 : decode cX5_greatestDivisor 0 = .ok (.iload_n 0, 1) := by decide +kernel
theorem dX5_greatestDivisor_1 : decode cX5_greatestDivisor 1 = .ok (.istore_n 2, 1) := by decide +kernel
theorem dX5_greatestDivisor_2 : decode cX5_greatestDivisor 2 = .ok (.iload_n 1, 1) := by decide +kernel
theorem dX5_greatestDivisor_3 : decode cX5_greatestDivisor 3 = .ok (.istore_n 3, 1) := by decide +kernel
theorem dX5_greatestDivisor_4 : decode cX5_greatestDivisor 4 = .ok (.iconst 0, 1) := by decide +kernel
theorem dX5_greatestDivisor_5 : decode cX5_greatestDivisor 5 = .ok (.istore 4, 2) := by decide +kernel
theorem dX5_greatestDivisor_7 : decode cX5_greatestDivisor 7 = .ok (.iload 4, 2) := by decide +kernel
theorem dX5_greatestDivisor_9 : decode cX5_greatestDivisor 9 = .ok (.bipush 64, 2) := by decide +kernel
theorem dX5_greatestDivisor_11 : decode cX5_greatestDivisor 11 = .ok (.if_icmp .ge 23, 3) := by decide +kernel
theorem dX5_greatestDivisor_14 : decode cX5_greatestDivisor 14 = .ok (.iload_n 3, 1) := by decide +kernel
theorem dX5_greatestDivisor_15 : decode cX5_greatestDivisor 15 = .ok (.ifCond .eq 19, 3) := by decide +kernel
theorem dX5_greatestDivisor_18 : decode cX5_greatestDivisor 18 = .ok (.iload_n 2, 1) := by decide +kernel
theorem dX5_greatestDivisor_19 : decode cX5_greatestDivisor 19 = .ok (.iload_n 3, 1) := by decide +kernel
theorem dX5_greatestDivisor_20 : decode cX5_greatestDivisor 20 = .ok (.irem, 1) := by decide +kernel
theorem dX5_greatestDivisor_21 : decode cX5_greatestDivisor 21 = .ok (.istore 5, 2) := by decide +kernel
theorem dX5_greatestDivisor_23 : decode cX5_greatestDivisor 23 = .ok (.iload_n 3, 1) := by decide +kernel
theorem dX5_greatestDivisor_24 : decode cX5_greatestDivisor 24 = .ok (.istore_n 2, 1) := by decide +kernel
theorem dX5_greatestDivisor_25 : decode cX5_greatestDivisor 25 = .ok (.iload 5, 2) := by decide +kernel
theorem dX5_greatestDivisor_27 : decode cX5_greatestDivisor 27 = .ok (.istore_n 3, 1) := by decide +kernel
theorem dX5_greatestDivisor_28 : decode cX5_greatestDivisor 28 = .ok (.iinc 4 1, 3) := by decide +kernel
theorem dX5_greatestDivisor_31 : decode cX5_greatestDivisor 31 = .ok (.goto (-24), 3) := by decide +kernel
theorem dX5_greatestDivisor_34 : decode cX5_greatestDivisor 34 = .ok (.iload_n 2, 1) := by decide +kernel
theorem dX5_greatestDivisor_35 : decode cX5_greatestDivisor 35 = .ok (.ireturn, 1) := by decide +kernel
theorem dX5_markAsCrop_0 : decode cX5_markAsCrop 0 = .ok (.aload_n 0, 1) := by decide +kernel
theorem dX5_markAsCrop_1 : decode cX5_markAsCrop 1 = .ok (.dup, 1) := by decide +kernel
theorem dX5_markAsCrop_2 : decode cX5_markAsCrop 2 = .ok (.getfield 56, 3) := by decide +kernel
theorem dX5_markAsCrop_5 : decode cX5_markAsCrop 5 = .ok (.lconst 1, 1) := by decide +kernel
theorem dX5_markAsCrop_6 : decode cX5_markAsCrop 6 = .ok (.ladd, 1) := by decide +kernel
theorem dX5_markAsCrop_7 : decode cX5_markAsCrop 7 = .ok (.putfield 56, 3) := by decide +kernel
theorem dX5_markAsCrop_10 : decode cX5_markAsCrop 10 = .ok (.aload_n 0, 1) := by decide +kernel
theorem dX5_markAsCrop_11 : decode cX5_markAsCrop 11 = .ok (.getfield 19, 3) := by decide +kernel
theorem dX5_markAsCrop_14 : decode cX5_markAsCrop 14 = .ok (.getfield 119, 3) := by decide +kernel
theorem dX5_markAsCrop_17 : decode cX5_markAsCrop 17 = .ok (.iload_n 1, 1) := by decide +kernel
theorem dX5_markAsCrop_18 : decode cX5_markAsCrop 18 = .ok (.iaload, 1) := by decide +kernel
theorem dX5_markAsCrop_19 : decode cX5_markAsCrop 19 = .ok (.ireturn, 1) := by decide +kernel
theorem dX5_markAsHay_0 : decode cX5_markAsHay 0 = .ok (.aload_n 0, 1) := by decide +kernel
theorem dX5_markAsHay_1 : decode cX5_markAsHay 1 = .ok (.dup, 1) := by decide +kernel
theorem dX5_markAsHay_2 : decode cX5_markAsHay 2 = .ok (.getfield 56, 3) := by decide +kernel
theorem dX5_markAsHay_5 : decode cX5_markAsHay 5 = .ok (.ldc2_w 286, 3) := by decide +kernel
theorem dX5_markAsHay_8 : decode cX5_markAsHay 8 = .ok (.ladd, 1) := by decide +kernel
theorem dX5_markAsHay_9 : decode cX5_markAsHay 9 = .ok (.putfield 56, 3) := by decide +kernel
theorem dX5_markAsHay_12 : decode cX5_markAsHay 12 = .ok (.aload_n 0, 1) := by decide +kernel
theorem dX5_markAsHay_13 : decode cX5_markAsHay 13 = .ok (.iload_n 1, 1) := by decide +kernel
theorem dX5_markAsHay_14 : decode cX5_markAsHay 14 = .ok (.invokevirtual 241, 3) := by decide +kernel
theorem dX5_markAsHay_17 : decode cX5_markAsHay 17 = .ok (.aload_n 0, 1) := by decide +kernel
theorem dX5_markAsHay_18 : decode cX5_markAsHay 18 = .ok (.getfield 19, 3) := by decide +kernel
theorem dX5_markAsHay_21 : decode cX5_markAsHay 21 = .ok (.getfield 113, 3) := by decide +kernel
theorem dX5_markAsHay_24 : decode cX5_markAsHay 24 = .ok (.iload_n 1, 1) := by decide +kernel
theorem dX5_markAsHay_25 : decode cX5_markAsHay 25 = .ok (.iaload, 1) := by decide +kernel
theorem dX5_markAsHay_26 : decode cX5_markAsHay 26 = .ok (.iadd, 1) := by decide +kernel
theorem dX5_markAsHay_27 : decode cX5_markAsHay 27 = .ok (.ireturn, 1) := by decide +kernel
theorem dX5_markAsPlum_0 : decode cX5_markAsPlum 0 = .ok (.aload_n 0, 1) := by decide +kernel
theorem dX5_markAsPlum_1 : decode cX5_markAsPlum 1 = .ok (.dup, 1) := by decide +kernel
theorem dX5_markAsPlum_2 : decode cX5_markAsPlum 2 = .ok (.getfield 56, 3) := by decide +kernel
theorem dX5_markAsPlum_5 : decode cX5_markAsPlum 5 = .ok (.ldc2_w 288, 3) := by decide +kernel
theorem dX5_markAsPlum_8 : decode cX5_markAsPlum 8 = .ok (.ladd, 1) := by decide +kernel
theorem dX5_markAsPlum_9 : decode cX5_markAsPlum 9 = .ok (.putfield 56, 3) := by decide +kernel
theorem dX5_markAsPlum_12 : decode cX5_markAsPlum 12 = .ok (.aload_n 0, 1) := by decide +kernel
theorem dX5_markAsPlum_13 : decode cX5_markAsPlum 13 = .ok (.iload_n 1, 1) := by decide +kernel
theorem dX5_markAsPlum_14 : decode cX5_markAsPlum 14 = .ok (.invokevirtual 241, 3) := by decide +kernel
theorem dX5_markAsPlum_17 : decode cX5_markAsPlum 17 = .ok (.aload_n 0, 1) := by decide +kernel
theorem dX5_markAsPlum_18 : decode cX5_markAsPlum 18 = .ok (.getfield 19, 3) := by decide +kernel
theorem dX5_markAsPlum_21 : decode cX5_markAsPlum 21 = .ok (.getfield 116, 3) := by decide +kernel
theorem dX5_markAsPlum_24 : decode cX5_markAsPlum 24 = .ok (.iload_n 1, 1) := by decide +kernel
theorem dX5_markAsPlum_25 : decode cX5_markAsPlum 25 = .ok (.iaload, 1) := by decide +kernel
theorem dX5_markAsPlum_26 : decode cX5_markAsPlum 26 = .ok (.isub, 1) := by decide +kernel
theorem dX5_markAsPlum_27 : decode cX5_markAsPlum 27 = .ok (.ireturn, 1) := by decide +kernel
theorem dX5_markAsClover_0 : decode cX5_markAsClover 0 = .ok (.aload_n 0, 1) := by decide +kernel
theorem dX5_markAsClover_1 : decode cX5_markAsClover 1 = .ok (.dup, 1) := by decide +kernel
theorem dX5_markAsClover_2 : decode cX5_markAsClover 2 = .ok (.getfield 56, 3) := by decide +kernel
theorem dX5_markAsClover_5 : decode cX5_markAsClover 5 = .ok (.ldc2_w 290, 3) := by decide +kernel
theorem dX5_markAsClover_8 : decode cX5_markAsClover 8 = .ok (.ladd, 1) := by decide +kernel
theorem dX5_markAsClover_9 : decode cX5_markAsClover 9 = .ok (.putfield 56, 3) := by decide +kernel
theorem dX5_markAsClover_12 : decode cX5_markAsClover 12 = .ok (.aload_n 0, 1) := by decide +kernel
theorem dX5_markAsClover_13 : decode cX5_markAsClover 13 = .ok (.iload_n 1, 1) := by decide +kernel
theorem dX5_markAsClover_14 : decode cX5_markAsClover 14 = .ok (.invokevirtual 244, 3) := by decide +kernel
theorem dX5_markAsClover_17 : decode cX5_markAsClover 17 = .ok (.iconst 2, 1) := by decide +kernel
theorem dX5_markAsClover_18 : decode cX5_markAsClover 18 = .ok (.imul, 1) := by decide +kernel
theorem dX5_markAsClover_19 : decode cX5_markAsClover 19 = .ok (.ireturn, 1) := by decide +kernel
theorem dX5_markAsSloe_0 : decode cX5_markAsSloe 0 = .ok (.aload_n 0, 1) := by decide +kernel
theorem dX5_markAsSloe_1 : decode cX5_markAsSloe 1 = .ok (.dup, 1) := by decide +kernel
theorem dX5_markAsSloe_2 : decode cX5_markAsSloe 2 = .ok (.getfield 56, 3) := by decide +kernel
theorem dX5_markAsSloe_5 : decode cX5_markAsSloe 5 = .ok (.ldc2_w 292, 3) := by decide +kernel
theorem dX5_markAsSloe_8 : decode cX5_markAsSloe 8 = .ok (.ladd, 1) := by decide +kernel
theorem dX5_markAsSloe_9 : decode cX5_markAsSloe 9 = .ok (.putfield 56, 3) := by decide +kernel
theorem dX5_markAsSloe_12 : decode cX5_markAsSloe 12 = .ok (.aload_n 0, 1) := by decide +kernel
theorem dX5_markAsSloe_13 : decode cX5_markAsSloe 13 = .ok (.iload_n 1, 1) := by decide +kernel
theorem dX5_markAsSloe_14 : decode cX5_markAsSloe 14 = .ok (.invokevirtual 247, 3) := by decide +kernel
theorem dX5_markAsSloe_17 : decode cX5_markAsSloe 17 = .ok (.aload_n 0, 1) := by decide +kernel
theorem dX5_markAsSloe_18 : decode cX5_markAsSloe 18 = .ok (.iload_n 1, 1) := by decide +kernel
theorem dX5_markAsSloe_19 : decode cX5_markAsSloe 19 = .ok (.invokevirtual 122, 3) := by decide +kernel
theorem dX5_markAsSloe_22 : decode cX5_markAsSloe 22 = .ok (.ifCond .eq 8, 3) := by decide +kernel
theorem dX5_markAsSloe_25 : decode cX5_markAsSloe 25 = .ok (.bipush 9, 2) := by decide +kernel
theorem dX5_markAsSloe_27 : decode cX5_markAsSloe 27 = .ok (.goto 4, 3) := by decide +kernel
theorem dX5_markAsSloe_30 : decode cX5_markAsSloe 30 = .ok (.iconst 0, 1) := by decide +kernel
theorem dX5_markAsSloe_31 : decode cX5_markAsSloe 31 = .ok (.iadd, 1) := by decide +kernel
theorem dX5_markAsSloe_32 : decode cX5_markAsSloe 32 = .ok (.ireturn, 1) := by decide +kernel
theorem dX5_markAsLamb_0 : decode cX5_markAsLamb 0 = .ok (.aload_n 0, 1) := by decide +kernel
theorem dX5_markAsLamb_1 : decode cX5_markAsLamb 1 = .ok (.dup, 1) := by decide +kernel
theorem dX5_markAsLamb_2 : decode cX5_markAsLamb 2 = .ok (.getfield 56, 3) := by decide +kernel
theorem dX5_markAsLamb_5 : decode cX5_markAsLamb 5 = .ok (.ldc2_w 294, 3) := by decide +kernel
theorem dX5_markAsLamb_8 : decode cX5_markAsLamb 8 = .ok (.ladd, 1) := by decide +kernel
theorem dX5_markAsLamb_9 : decode cX5_markAsLamb 9 = .ok (.putfield 56, 3) := by decide +kernel
theorem dX5_markAsLamb_12 : decode cX5_markAsLamb 12 = .ok (.aload_n 0, 1) := by decide +kernel
theorem dX5_markAsLamb_13 : decode cX5_markAsLamb 13 = .ok (.iload_n 1, 1) := by decide +kernel
theorem dX5_markAsLamb_14 : decode cX5_markAsLamb 14 = .ok (.invokevirtual 241, 3) := by decide +kernel
theorem dX5_markAsLamb_17 : decode cX5_markAsLamb 17 = .ok (.aload_n 0, 1) := by decide +kernel
theorem dX5_markAsLamb_18 : decode cX5_markAsLamb 18 = .ok (.getfield 26, 3) := by decide +kernel
theorem dX5_markAsLamb_21 : decode cX5_markAsLamb 21 = .ok (.getfield 104, 3) := by decide +kernel
theorem dX5_markAsLamb_24 : decode cX5_markAsLamb 24 = .ok (.getfield 174, 3) := by decide +kernel
theorem dX5_markAsLamb_27 : decode cX5_markAsLamb 27 = .ok (.iadd, 1) := by decide +kernel
theorem dX5_markAsLamb_28 : decode cX5_markAsLamb 28 = .ok (.ireturn, 1) := by decide +kernel
end
section
theorem dX6_in_0 : decode cX6_in 0 = .ok (.lload_n 0, 1) := by decide +kernel
theorem dX6_in_1 : decode cX6_in 1 = .ok (.lload_n 2, 1) := by decide +kernel
theorem dX6_in_2 : decode cX6_in 2 = .ok (.lcmp, 1) := by decide +kernel
theorem dX6_in_3 : decode cX6_in 3 = .ok (.ifCond .lt 14, 3) := by decide +kernel
theorem dX6_in_6 : decode cX6_in 6 = .ok (.lload_n 0, 1) := by decide +kernel
theorem dX6_in_7 : decode cX6_in 7 = .ok (.lload 4, 2) := by decide +kernel
theorem dX6_in_9 : decode cX6_in 9 = .ok (.lcmp, 1) := by decide +kernel
theorem dX6_in_10 : decode cX6_in 10 = .ok (.ifCond .gt 7, 3) := by decide +kernel
theorem dX6_in_13 : decode cX6_in 13 = .ok (.iconst 1, 1) := by decide +kernel
theorem dX6_in_14 : decode cX6_in 14 = .ok (.goto 4, 3) := by decide +kernel
theorem dX6_in_17 : decode cX6_in 17 = .ok (.iconst 0, 1) := by decide +kernel
theorem dX6_in_18 : decode cX6_in 18 = .ok (.ireturn, 1) := by decide +kernel
theorem dX6_init_0 : decode cX6_init 0 = .ok (.aload_n 0, 1) := by decide +kernel
theorem dX6_init_1 : decode cX6_init 1 = .ok (.invokespecial 1, 3) := by decide +kernel
theorem dX6_init_4 : decode cX6_init 4 = .ok (.aload_n 0, 1) := by decide +kernel
theorem dX6_init_5 : decode cX6_init 5 = .ok (.sipush 150, 3) := by decide +kernel
theorem dX6_init_8 : decode cX6_init 8 = .ok (.newarray .int, 2) := by decide +kernel
theorem dX6_init_10 : decode cX6_init 10 = .ok (.putfield 7, 3) := by decide +kernel
theorem dX6_init_13 : decode cX6_init 13 = .ok (.aload_n 0, 1) := by decide +kernel
theorem dX6_init_14 : decode cX6_init 14 = .ok (.bipush 79, 2) := by decide +kernel
theorem dX6_init_16 : decode cX6_init 16 = .ok (.newarray .int, 2) := by decide +kernel
theorem dX6_init_18 : decode cX6_init 18 = .ok (.putfield 13, 3) := by decide +kernel
theorem dX6_init_21 : decode cX6_init 21 = .ok (.aload_n 0, 1) := by decide +kernel
theorem dX6_init_22 : decode cX6_init 22 = .ok (.bipush 79, 2) := by decide +kernel
theorem dX6_init_24 : decode cX6_init 24 = .ok (.newarray .int, 2) := by decide +kernel
theorem dX6_init_26 : decode cX6_init 26 = .ok (.putfield 16, 3) := by decide +kernel
theorem dX6_init_29 : decode cX6_init 29 = .ok (.aload_n 0, 1) := by decide +kernel
theorem dX6_init_30 : decode cX6_init 30 = .ok (.bipush 15, 2) := by decide +kernel
theorem dX6_init_32 : decode cX6_init 32 = .ok (.newarray .int, 2) := by decide +kernel
theorem dX6_init_34 : decode cX6_init 34 = .ok (.putfield 19, 3) := by decide +kernel
theorem dX6_init_37 : decode cX6_init 37 = .ok (.aload_n 0, 1) := by decide +kernel
theorem dX6_init_38 : decode cX6_init 38 = .ok (.sipush 150, 3) := by decide +kernel
theorem dX6_init_41 : decode cX6_init 41 = .ok (.newarray .int, 2) := by decide +kernel
theorem dX6_init_43 : decode cX6_init 43 = .ok (.putfield 22, 3) := by decide +kernel
theorem dX6_init_46 : decode cX6_init 46 = .ok (.aload_n 0, 1) := by decide +kernel
theorem dX6_init_47 : decode cX6_init 47 = .ok (.bipush 15, 2) := by decide +kernel
theorem dX6_init_49 : decode cX6_init 49 = .ok (.newarray .int, 2) := by decide +kernel
theorem dX6_init_51 : decode cX6_init 51 = .ok (.putfield 25, 3) := by decide +kernel
theorem dX6_init_54 : decode cX6_init 54 = .ok (.aload_n 0, 1) := by decide +kernel
theorem dX6_init_55 : decode cX6_init 55 = .ok (.bipush 6, 2) := by decide +kernel
theorem dX6_init_57 : decode cX6_init 57 = .ok (.newarray .int, 2) := by decide +kernel
theorem dX6_init_59 : decode cX6_init 59 = .ok (.putfield 28, 3) := by decide +kernel
theorem dX6_init_62 : decode cX6_init 62 = .ok (.aload_n 0, 1) := by decide +kernel
theorem dX6_init_63 : decode cX6_init 63 = .ok (.bipush 6, 2) := by decide +kernel
theorem dX6_init_65 : decode cX6_init 65 = .ok (.newarray .int, 2) := by decide +kernel
theorem dX6_init_67 : decode cX6_init 67 = .ok (.putfield 31, 3) := by decide +kernel
theorem dX6_init_70 : decode cX6_init 70 = .ok (.aload_n 0, 1) := by decide +kernel
theorem dX6_init_71 : decode cX6_init 71 = .ok (.sipush 334, 3) := by decide +kernel
theorem dX6_init_74 : decode cX6_init 74 = .ok (.newarray .int, 2) := by decide +kernel
theorem dX6_init_76 : decode cX6_init 76 = .ok (.putfield 34, 3) := by decide +kernel
theorem dX6_init_79 : decode cX6_init 79 = .ok (.aload_n 0, 1) := by decide +kernel
theorem dX6_init_80 : decode cX6_init 80 = .ok (.invokevirtual 37, 3) := by decide +kernel
theorem dX6_init_83 : decode cX6_init 83 = .ok (.aload_n 0, 1) := by decide +kernel
theorem dX6_init_84 : decode cX6_init 84 = .ok (.invokevirtual 40, 3) := by decide +kernel
theorem dX6_init_87 : decode cX6_init 87 = .ok (.return_, 1) := by decide +kernel
theorem dX6_type_0 : decode cX6_type 0 = .ok (.iload_n 1, 1) := by decide +kernel
theorem dX6_type_1 : decode cX6_type 1 = .ok (.i2l, 1) := by decide +kernel
theorem dX6_type_2 : decode cX6_type 2 = .ok (.lconst 0, 1) := by decide +kernel
theorem dX6_type_3 : decode cX6_type 3 = .ok (.ldc2_w 43, 3) := by decide +kernel
theorem dX6_type_6 : decode cX6_type 6 = .ok (.invokestatic 45, 3) := by decide +kernel
theorem dX6_type_9 : decode cX6_type 9 = .ok (.ifCond .ne 5, 3) := by decide +kernel
theorem dX6_type_12 : decode cX6_type 12 = .ok (.iconst (-1), 1) := by decide +kernel
theorem dX6_type_13 : decode cX6_type 13 = .ok (.ireturn, 1) := by decide +kernel
theorem dX6_type_14 : decode cX6_type 14 = .ok (.aload_n 0, 1) := by decide +kernel
theorem dX6_type_15 : decode cX6_type 15 = .ok (.getfield 49, 3) := by decide +kernel
theorem dX6_type_18 : decode cX6_type 18 = .ok (.sipush 150, 3) := by decide +kernel
theorem dX6_type_21 : decode cX6_type 21 = .ok (.if_icmp .ne 6, 3) := by decide +kernel
theorem dX6_type_24 : decode cX6_type 24 = .ok (.bipush (-3), 2) := by decide +kernel
theorem dX6_type_26 : decode cX6_type 26 = .ok (.ireturn, 1) := by decide +kernel
theorem dX6_type_27 : decode cX6_type 27 = .ok (.aload_n 0, 1) := by decide +kernel
theorem dX6_type_28 : decode cX6_type 28 = .ok (.getfield 7, 3) := by decide +kernel
theorem dX6_type_31 : decode cX6_type 31 = .ok (.aload_n 0, 1) := by decide +kernel
theorem dX6_type_32 : decode cX6_type 32 = .ok (.getfield 49, 3) := by decide +kernel
theorem dX6_type_35 : decode cX6_type 35 = .ok (.iload_n 1, 1) := by decide +kernel
theorem dX6_type_36 : decode cX6_type 36 = .ok (.iastore, 1) := by decide +kernel
theorem dX6_type_37 : decode cX6_type 37 = .ok (.aload_n 0, 1) := by decide +kernel
theorem dX6_type_38 : decode cX6_type 38 = .ok (.dup, 1) := by decide +kernel
theorem dX6_type_39 : decode cX6_type 39 = .ok (.getfield 49, 3) := by decide +kernel
theorem dX6_type_42 : decode cX6_type 42 = .ok (.iconst 1, 1) := by decide +kernel
theorem dX6_type_43 : decode cX6_type 43 = .ok (.iadd, 1) := by decide +kernel
theorem dX6_type_44 : decode cX6_type 44 = .ok (.putfield 49, 3) := by decide +kernel
theorem dX6_type_47 : decode cX6_type 47 = .ok (.aload_n 0, 1) := by decide +kernel
theorem dX6_type_48 : decode cX6_type 48 = .ok (.getfield 49, 3) := by decide +kernel
theorem dX6_type_51 : decode cX6_type 51 = .ok (.ireturn, 1) := by decide +kernel
theorem dX6_clear_0 : decode cX6_clear 0 = .ok (.aload_n 0, 1) := by decide +kernel
theorem dX6_clear_1 : decode cX6_clear 1 = .ok (.getfield 49, 3) := by decide +kernel
theorem dX6_clear_4 : decode cX6_clear 4 = .ok (.istore_n 1, 1) := by decide +kernel
theorem dX6_clear_5 : decode cX6_clear 5 = .ok (.aload_n 0, 1) := by decide +kernel
theorem dX6_clear_6 : decode cX6_clear 6 = .ok (.iconst 0, 1) := by decide +kernel
theorem dX6_clear_7 : decode cX6_clear 7 = .ok (.putfield 49, 3) := by decide +kernel
theorem dX6_clear_10 : decode cX6_clear 10 = .ok (.iload_n 1, 1) := by decide +kernel
theorem dX6_clear_11 : decode cX6_clear 11 = .ok (.ireturn, 1) := by decide +kernel
theorem dX6_isLetter_0 : decode cX6_isLetter 0 = .ok (.iload_n 0, 1) := by decide +kernel
theorem dX6_isLetter_1 : decode cX6_isLetter 1 = .ok (.i2l, 1) := by decide +kernel
theorem dX6_isLetter_2 : decode cX6_isLetter 2 = .ok (.ldc2_w 53, 3) := by decide +kernel
theorem dX6_isLetter_5 : decode cX6_isLetter 5 = .ok (.ldc2_w 55, 3) := by decide +kernel
theorem dX6_isLetter_8 : decode cX6_isLetter 8 = .ok (.invokestatic 45, 3) := by decide +kernel
theorem dX6_isLetter_11 : decode cX6_isLetter 11 = .ok (.ireturn, 1) := by decide +kernel
theorem dX6_isFigure_0 : decode cX6_isFigure 0 = .ok (.iload_n 0, 1) := by decide +kernel
theorem dX6_isFigure_1 : decode cX6_isFigure 1 = .ok (.i2l, 1) := by decide +kernel
theorem dX6_isFigure_2 : decode cX6_isFigure 2 = .ok (.ldc2_w 57, 3) := by decide +kernel
theorem dX6_isFigure_5 : decode cX6_isFigure 5 = .ok (.ldc2_w 59, 3) := by decide +kernel
theorem dX6_isFigure_8 : decode cX6_isFigure 8 = .ok (.invokestatic 45, 3) := by decide +kernel
theorem dX6_isFigure_11 : decode cX6_isFigure 11 = .ok (.ireturn, 1) := by decide +kernel
theorem dX6_readLetters_0 : decode cX6_readLetters 0 = .ok (.aload_n 0, 1) := by decide +kernel
theorem dX6_readLetters_1 : decode cX6_readLetters 1 = .ok (.aload_n 0, 1) := by decide +kernel
theorem dX6_readLetters_2 : decode cX6_readLetters 2 = .ok (.getfield 7, 3) := by decide +kernel
theorem dX6_readLetters_5 : decode cX6_readLetters 5 = .ok (.aload_n 0, 1) := by decide +kernel
theorem dX6_readLetters_6 : decode cX6_readLetters 6 = .ok (.getfield 61, 3) := by decide +kernel
theorem dX6_readLetters_9 : decode cX6_readLetters 9 = .ok (.iaload, 1) := by decide +kernel
theorem dX6_readLetters_10 : decode cX6_readLetters 10 = .ok (.putfield 64, 3) := by decide +kernel
theorem dX6_readLetters_13 : decode cX6_readLetters 13 = .ok (.aload_n 0, 1) := by decide +kernel
theorem dX6_readLetters_14 : decode cX6_readLetters 14 = .ok (.getfield 61, 3) := by decide +kernel
theorem dX6_readLetters_17 : decode cX6_readLetters 17 = .ok (.aload_n 0, 1) := by decide +kernel
theorem dX6_readLetters_18 : decode cX6_readLetters 18 = .ok (.getfield 49, 3) := by decide +kernel
theorem dX6_readLetters_21 : decode cX6_readLetters 21 = .ok (.if_icmp .ge 31, 3) := by decide +kernel
theorem dX6_readLetters_24 : decode cX6_readLetters 24 = .ok (.aload_n 0, 1) := by decide +kernel
theorem dX6_readLetters_25 : decode cX6_readLetters 25 = .ok (.getfield 7, 3) := by decide +kernel
theorem dX6_readLetters_28 : decode cX6_readLetters 28 = .ok (.aload_n 0, 1) := by decide +kernel
theorem dX6_readLetters_29 : decode cX6_readLetters 29 = .ok (.getfield 61, 3) := by decide +kernel
theorem dX6_readLetters_32 : decode cX6_readLetters 32 = .ok (.iaload, 1) := by decide +kernel
theorem dX6_readLetters_33 : decode cX6_readLetters 33 = .ok (.invokestatic 67, 3) := by decide +kernel
theorem dX6_readLetters_36 : decode cX6_readLetters 36 = .ok (.ifCond .eq 16, 3) := by decide +kernel
theorem dX6_readLetters_39 : decode cX6_readLetters 39 = .ok (.aload_n 0, 1) := by decide +kernel
theorem dX6_readLetters_40 : decode cX6_readLetters 40 = .ok (.dup, 1) := by decide +kernel
theorem dX6_readLetters_41 : decode cX6_readLetters 41 = .ok (.getfield 61, 3) := by decide +kernel
theorem dX6_readLetters_44 : decode cX6_readLetters 44 = .ok (.iconst 1, 1) := by decide +kernel
theorem dX6_readLetters_45 : decode cX6_readLetters 45 = .ok (.iadd, 1) := by decide +kernel
theorem dX6_readLetters_46 : decode cX6_readLetters 46 = .ok (.putfield 61, 3) := by decide +kernel
theorem dX6_readLetters_49 : decode cX6_readLetters 49 = .ok (.goto (-36), 3) := by decide +kernel
theorem dX6_readLetters_52 : decode cX6_readLetters 52 = .ok (.aload_n 0, 1) := by decide +kernel
theorem dX6_readLetters_53 : decode cX6_readLetters 53 = .ok (.getfield 64, 3) := by decide +kernel
theorem dX6_readLetters_56 : decode cX6_readLetters 56 = .ok (.bipush 115, 2) := by decide +kernel
theorem dX6_readLetters_58 : decode cX6_readLetters 58 = .ok (.if_icmp .eq 39, 3) := by decide +kernel
theorem dX6_readLetters_61 : decode cX6_readLetters 61 = .ok (.aload_n 0, 1) := by decide +kernel
theorem dX6_readLetters_62 : decode cX6_readLetters 62 = .ok (.getfield 64, 3) := by decide +kernel
theorem dX6_readLetters_65 : decode cX6_readLetters 65 = .ok (.bipush 99, 2) := by decide +kernel
theorem dX6_readLetters_67 : decode cX6_readLetters 67 = .ok (.if_icmp .eq 30, 3) := by decide +kernel
theorem dX6_readLetters_70 : decode cX6_readLetters 70 = .ok (.aload_n 0, 1) := by decide +kernel
theorem dX6_readLetters_71 : decode cX6_readLetters 71 = .ok (.getfield 64, 3) := by decide +kernel
theorem dX6_readLetters_74 : decode cX6_readLetters 74 = .ok (.bipush 112, 2) := by decide +kernel
theorem dX6_readLetters_76 : decode cX6_readLetters 76 = .ok (.if_icmp .eq 21, 3) := by decide +kernel
theorem dX6_readLetters_79 : decode cX6_readLetters 79 = .ok (.aload_n 0, 1) := by decide +kernel
theorem dX6_readLetters_80 : decode cX6_readLetters 80 = .ok (.getfield 64, 3) := by decide +kernel
theorem dX6_readLetters_83 : decode cX6_readLetters 83 = .ok (.bipush 105, 2) := by decide +kernel
theorem dX6_readLetters_85 : decode cX6_readLetters 85 = .ok (.if_icmp .eq 12, 3) := by decide +kernel
theorem dX6_readLetters_88 : decode cX6_readLetters 88 = .ok (.aload_n 0, 1) := by decide +kernel
theorem dX6_readLetters_89 : decode cX6_readLetters 89 = .ok (.getfield 64, 3) := by decide +kernel
theorem dX6_readLetters_92 : decode cX6_readLetters 92 = .ok (.bipush 108, 2) := by decide +kernel
theorem dX6_readLetters_94 : decode cX6_readLetters 94 = .ok (.if_icmp .ne 7, 3) := by decide +kernel
theorem dX6_readLetters_97 : decode cX6_readLetters 97 = .ok (.iconst 1, 1) := by decide +kernel
theorem dX6_readLetters_98 : decode cX6_readLetters 98 = .ok (.goto 4, 3) := by decide +kernel
theorem dX6_readLetters_101 : decode cX6_readLetters 101 = .ok (.iconst 0, 1) := by decide +kernel
theorem dX6_readLetters_102 : decode cX6_readLetters 102 = .ok (.istore_n 1, 1) := by decide +kernel
theorem dX6_readLetters_103 : decode cX6_readLetters 103 = .ok (.aload_n 0, 1) := by decide +kernel
theorem dX6_readLetters_104 : decode cX6_readLetters 104 = .ok (.aload_n 0, 1) := by decide +kernel
theorem dX6_readLetters_105 : decode cX6_readLetters 105 = .ok (.getfield 61, 3) := by decide +kernel
theorem dX6_readLetters_108 : decode cX6_readLetters 108 = .ok (.aload_n 0, 1) := by decide +kernel
theorem dX6_readLetters_109 : decode cX6_readLetters 109 = .ok (.getfield 71, 3) := by decide +kernel
theorem dX6_readLetters_112 : decode cX6_readLetters 112 = .ok (.isub, 1) := by decide +kernel
theorem dX6_readLetters_113 : decode cX6_readLetters 113 = .ok (.iconst 1, 1) := by decide +kernel
theorem dX6_readLetters_114 : decode cX6_readLetters 114 = .ok (.if_icmp .ne 11, 3) := by decide +kernel
theorem dX6_readLetters_117 : decode cX6_readLetters 117 = .ok (.iload_n 1, 1) := by decide +kernel
theorem dX6_readLetters_118 : decode cX6_readLetters 118 = .ok (.ifCond .eq 7, 3) := by decide +kernel
theorem dX6_readLetters_121 : decode cX6_readLetters 121 = .ok (.iconst 1, 1) := by decide +kernel
theorem dX6_readLetters_122 : decode cX6_readLetters 122 = .ok (.goto 4, 3) := by decide +kernel
theorem dX6_readLetters_125 : decode cX6_readLetters 125 = .ok (.iconst 4, 1) := by decide +kernel
theorem dX6_readLetters_126 : decode cX6_readLetters 126 = .ok (.putfield 74, 3) := by decide +kernel
theorem dX6_readLetters_129 : decode cX6_readLetters 129 = .ok (.return_, 1) := by decide +kernel
theorem dX6_readNumber_0 : decode cX6_readNumber 0 = .ok (.iconst 0, 1) := by decide +kernel
theorem dX6_readNumber_1 : decode cX6_readNumber 1 = .ok (.istore_n 1, 1) := by decide +kernel
theorem dX6_readNumber_2 : decode cX6_readNumber 2 = .ok (.aload_n 0, 1) := by decide +kernel
theorem dX6_readNumber_3 : decode cX6_readNumber 3 = .ok (.getfield 61, 3) := by decide +kernel
theorem dX6_readNumber_6 : decode cX6_readNumber 6 = .ok (.aload_n 0, 1) := by decide +kernel
theorem dX6_readNumber_7 : decode cX6_readNumber 7 = .ok (.getfield 49, 3) := by decide +kernel
theorem dX6_readNumber_10 : decode cX6_readNumber 10 = .ok (.if_icmp .ge 59, 3) := by decide +kernel
theorem dX6_readNumber_13 : decode cX6_readNumber 13 = .ok (.aload_n 0, 1) := by decide +kernel
theorem dX6_readNumber_14 : decode cX6_readNumber 14 = .ok (.getfield 7, 3) := by decide +kernel
theorem dX6_readNumber_17 : decode cX6_readNumber 17 = .ok (.aload_n 0, 1) := by decide +kernel
theorem dX6_readNumber_18 : decode cX6_readNumber 18 = .ok (.getfield 61, 3) := by decide +kernel
theorem dX6_readNumber_21 : decode cX6_readNumber 21 = .ok (.iaload, 1) := by decide +kernel
theorem dX6_readNumber_22 : decode cX6_readNumber 22 = .ok (.invokestatic 77, 3) := by decide +kernel
theorem dX6_readNumber_25 : decode cX6_readNumber 25 = .ok (.ifCond .eq 44, 3) := by decide +kernel
theorem dX6_readNumber_28 : decode cX6_readNumber 28 = .ok (.iload_n 1, 1) := by decide +kernel
theorem dX6_readNumber_29 : decode cX6_readNumber 29 = .ok (.bipush 99, 2) := by decide +kernel
theorem dX6_readNumber_31 : decode cX6_readNumber 31 = .ok (.if_icmp .le 7, 3) := by decide +kernel
theorem dX6_readNumber_34 : decode cX6_readNumber 34 = .ok (.iload_n 1, 1) := by decide +kernel
theorem dX6_readNumber_35 : decode cX6_readNumber 35 = .ok (.goto 20, 3) := by decide +kernel
theorem dX6_readNumber_38 : decode cX6_readNumber 38 = .ok (.bipush 10, 2) := by decide +kernel
theorem dX6_readNumber_40 : decode cX6_readNumber 40 = .ok (.iload_n 1, 1) := by decide +kernel
theorem dX6_readNumber_41 : decode cX6_readNumber 41 = .ok (.imul, 1) := by decide +kernel
theorem dX6_readNumber_42 : decode cX6_readNumber 42 = .ok (.aload_n 0, 1) := by decide +kernel
theorem dX6_readNumber_43 : decode cX6_readNumber 43 = .ok (.getfield 7, 3) := by decide +kernel
theorem dX6_readNumber_46 : decode cX6_readNumber 46 = .ok (.aload_n 0, 1) := by decide +kernel
theorem dX6_readNumber_47 : decode cX6_readNumber 47 = .ok (.getfield 61, 3) := by decide +kernel
theorem dX6_readNumber_50 : decode cX6_readNumber 50 = .ok (.iaload, 1) := by decide +kernel
theorem dX6_readNumber_51 : decode cX6_readNumber 51 = .ok (.iadd, 1) := by decide +kernel
theorem dX6_readNumber_52 : decode cX6_readNumber 52 = .ok (.bipush 48, 2) := by decide +kernel
theorem dX6_readNumber_54 : decode cX6_readNumber 54 = .ok (.isub, 1) := by decide +kernel
theorem dX6_readNumber_55 : decode cX6_readNumber 55 = .ok (.istore_n 1, 1) := by decide +kernel
theorem dX6_readNumber_56 : decode cX6_readNumber 56 = .ok (.aload_n 0, 1) := by decide +kernel
theorem dX6_readNumber_57 : decode cX6_readNumber 57 = .ok (.dup, 1) := by decide +kernel
theorem dX6_readNumber_58 : decode cX6_readNumber 58 = .ok (.getfield 61, 3) := by decide +kernel
theorem dX6_readNumber_61 : decode cX6_readNumber 61 = .ok (.iconst 1, 1) := by decide +kernel
theorem dX6_readNumber_62 : decode cX6_readNumber 62 = .ok (.iadd, 1) := by decide +kernel
theorem dX6_readNumber_63 : decode cX6_readNumber 63 = .ok (.putfield 61, 3) := by decide +kernel
theorem dX6_readNumber_66 : decode cX6_readNumber 66 = .ok (.goto (-64), 3) := by decide +kernel
theorem dX6_readNumber_69 : decode cX6_readNumber 69 = .ok (.aload_n 0, 1) := by decide +kernel
theorem dX6_readNumber_70 : decode cX6_readNumber 70 = .ok (.iload_n 1, 1) := by decide +kernel
theorem dX6_readNumber_71 : decode cX6_readNumber 71 = .ok (.bipush 99, 2) := by decide +kernel
theorem dX6_readNumber_73 : decode cX6_readNumber 73 = .ok (.if_icmp .gt 30, 3) := by decide +kernel
theorem dX6_readNumber_76 : decode cX6_readNumber 76 = .ok (.aload_n 0, 1) := by decide +kernel
theorem dX6_readNumber_77 : decode cX6_readNumber 77 = .ok (.getfield 61, 3) := by decide +kernel
theorem dX6_readNumber_80 : decode cX6_readNumber 80 = .ok (.aload_n 0, 1) := by decide +kernel
theorem dX6_readNumber_81 : decode cX6_readNumber 81 = .ok (.getfield 71, 3) := by decide +kernel
theorem dX6_readNumber_84 : decode cX6_readNumber 84 = .ok (.isub, 1) := by decide +kernel
theorem dX6_readNumber_85 : decode cX6_readNumber 85 = .ok (.iconst 1, 1) := by decide +kernel
theorem dX6_readNumber_86 : decode cX6_readNumber 86 = .ok (.if_icmp .le 21, 3) := by decide +kernel
theorem dX6_readNumber_89 : decode cX6_readNumber 89 = .ok (.aload_n 0, 1) := by decide +kernel
theorem dX6_readNumber_90 : decode cX6_readNumber 90 = .ok (.getfield 7, 3) := by decide +kernel
theorem dX6_readNumber_93 : decode cX6_readNumber 93 = .ok (.aload_n 0, 1) := by decide +kernel
theorem dX6_readNumber_94 : decode cX6_readNumber 94 = .ok (.getfield 71, 3) := by decide +kernel
theorem dX6_readNumber_97 : decode cX6_readNumber 97 = .ok (.iaload, 1) := by decide +kernel
theorem dX6_readNumber_98 : decode cX6_readNumber 98 = .ok (.bipush 48, 2) := by decide +kernel
theorem dX6_readNumber_100 : decode cX6_readNumber 100 = .ok (.if_icmp .ne 7, 3) := by decide +kernel
theorem dX6_readNumber_103 : decode cX6_readNumber 103 = .ok (.iconst 4, 1) := by decide +kernel
theorem dX6_readNumber_104 : decode cX6_readNumber 104 = .ok (.goto 4, 3) := by decide +kernel
theorem dX6_readNumber_107 : decode cX6_readNumber 107 = .ok (.iconst 2, 1) := by decide +kernel
theorem dX6_readNumber_108 : decode cX6_readNumber 108 = .ok (.putfield 74, 3) := by decide +kernel
theorem dX6_readNumber_111 : decode cX6_readNumber 111 = .ok (.aload_n 0, 1) := by decide +kernel
theorem dX6_readNumber_112 : decode cX6_readNumber 112 = .ok (.iload_n 1, 1) := by decide +kernel
theorem dX6_readNumber_113 : decode cX6_readNumber 113 = .ok (.putfield 64, 3) := by decide +kernel
theorem dX6_readNumber_116 : decode cX6_readNumber 116 = .ok (.return_, 1) := by decide +kernel
theorem dX6_reads_0 : decode cX6_reads 0 = .ok (.aload_n 0, 1) := by decide +kernel
theorem dX6_reads_1 : decode cX6_reads 1 = .ok (.getfield 61, 3) := by decide +kernel
theorem dX6_reads_4 : decode cX6_reads 4 = .ok (.aload_n 0, 1) := by decide +kernel
theorem dX6_reads_5 : decode cX6_reads 5 = .ok (.getfield 49, 3) := by decide +kernel
theorem dX6_reads_8 : decode cX6_reads 8 = .ok (.if_icmp .ge 30, 3) := by decide +kernel
theorem dX6_reads_11 : decode cX6_reads 11 = .ok (.aload_n 0, 1) := by decide +kernel
theorem dX6_reads_12 : decode cX6_reads 12 = .ok (.getfield 7, 3) := by decide +kernel
theorem dX6_reads_15 : decode cX6_reads 15 = .ok (.aload_n 0, 1) := by decide +kernel
theorem dX6_reads_16 : decode cX6_reads 16 = .ok (.getfield 61, 3) := by decide +kernel
theorem dX6_reads_19 : decode cX6_reads 19 = .ok (.iaload, 1) := by decide +kernel
theorem dX6_reads_20 : decode cX6_reads 20 = .ok (.bipush 32, 2) := by decide +kernel
theorem dX6_reads_22 : decode cX6_reads 22 = .ok (.if_icmp .ne 16, 3) := by decide +kernel
theorem dX6_reads_25 : decode cX6_reads 25 = .ok (.aload_n 0, 1) := by decide +kernel
theorem dX6_reads_26 : decode cX6_reads 26 = .ok (.dup, 1) := by decide +kernel
theorem dX6_reads_27 : decode cX6_reads 27 = .ok (.getfield 61, 3) := by decide +kernel
theorem dX6_reads_30 : decode cX6_reads 30 = .ok (.iconst 1, 1) := by decide +kernel
theorem dX6_reads_31 : decode cX6_reads 31 = .ok (.iadd, 1) := by decide +kernel
theorem dX6_reads_32 : decode cX6_reads 32 = .ok (.putfield 61, 3) := by decide +kernel
theorem dX6_reads_35 : decode cX6_reads 35 = .ok (.goto (-35), 3) := by decide +kernel
theorem dX6_reads_38 : decode cX6_reads 38 = .ok (.aload_n 0, 1) := by decide +kernel
theorem dX6_reads_39 : decode cX6_reads 39 = .ok (.aload_n 0, 1) := by decide +kernel
theorem dX6_reads_40 : decode cX6_reads 40 = .ok (.getfield 61, 3) := by decide +kernel
theorem dX6_reads_43 : decode cX6_reads 43 = .ok (.putfield 71, 3) := by decide +kernel
theorem dX6_reads_46 : decode cX6_reads 46 = .ok (.aload_n 0, 1) := by decide +kernel
theorem dX6_reads_47 : decode cX6_reads 47 = .ok (.getfield 61, 3) := by decide +kernel
theorem dX6_reads_50 : decode cX6_reads 50 = .ok (.aload_n 0, 1) := by decide +kernel
theorem dX6_reads_51 : decode cX6_reads 51 = .ok (.getfield 49, 3) := by decide +kernel
theorem dX6_reads_54 : decode cX6_reads 54 = .ok (.if_icmp .ne 11, 3) := by decide +kernel
theorem dX6_reads_57 : decode cX6_reads 57 = .ok (.aload_n 0, 1) := by decide +kernel
theorem dX6_reads_58 : decode cX6_reads 58 = .ok (.iconst 0, 1) := by decide +kernel
theorem dX6_reads_59 : decode cX6_reads 59 = .ok (.putfield 74, 3) := by decide +kernel
theorem dX6_reads_62 : decode cX6_reads 62 = .ok (.goto 80, 3) := by decide +kernel
theorem dX6_reads_65 : decode cX6_reads 65 = .ok (.aload_n 0, 1) := by decide +kernel
theorem dX6_reads_66 : decode cX6_reads 66 = .ok (.getfield 7, 3) := by decide +kernel
theorem dX6_reads_69 : decode cX6_reads 69 = .ok (.aload_n 0, 1) := by decide +kernel
theorem dX6_reads_70 : decode cX6_reads 70 = .ok (.getfield 61, 3) := by decide +kernel
theorem dX6_reads_73 : decode cX6_reads 73 = .ok (.iaload, 1) := by decide +kernel
theorem dX6_reads_74 : decode cX6_reads 74 = .ok (.invokestatic 67, 3) := by decide +kernel
theorem dX6_reads_77 : decode cX6_reads 77 = .ok (.ifCond .eq 10, 3) := by decide +kernel
theorem dX6_reads_80 : decode cX6_reads 80 = .ok (.aload_n 0, 1) := by decide +kernel
theorem dX6_reads_81 : decode cX6_reads 81 = .ok (.invokevirtual 80, 3) := by decide +kernel
theorem dX6_reads_84 : decode cX6_reads 84 = .ok (.goto 58, 3) := by decide +kernel
theorem dX6_reads_87 : decode cX6_reads 87 = .ok (.aload_n 0, 1) := by decide +kernel
theorem dX6_reads_88 : decode cX6_reads 88 = .ok (.getfield 7, 3) := by decide +kernel
theorem dX6_reads_91 : decode cX6_reads 91 = .ok (.aload_n 0, 1) := by decide +kernel
theorem dX6_reads_92 : decode cX6_reads 92 = .ok (.getfield 61, 3) := by decide +kernel
theorem dX6_reads_95 : decode cX6_reads 95 = .ok (.iaload, 1) := by decide +kernel
theorem dX6_reads_96 : decode cX6_reads 96 = .ok (.invokestatic 77, 3) := by decide +kernel
theorem dX6_reads_99 : decode cX6_reads 99 = .ok (.ifCond .eq 10, 3) := by decide +kernel
theorem dX6_reads_102 : decode cX6_reads 102 = .ok (.aload_n 0, 1) := by decide +kernel
theorem dX6_reads_103 : decode cX6_reads 103 = .ok (.invokevirtual 83, 3) := by decide +kernel
theorem dX6_reads_106 : decode cX6_reads 106 = .ok (.goto 36, 3) := by decide +kernel
theorem dX6_reads_109 : decode cX6_reads 109 = .ok (.aload_n 0, 1) := by decide +kernel
theorem dX6_reads_110 : decode cX6_reads 110 = .ok (.aload_n 0, 1) := by decide +kernel
theorem dX6_reads_111 : decode cX6_reads 111 = .ok (.getfield 7, 3) := by decide +kernel
theorem dX6_reads_114 : decode cX6_reads 114 = .ok (.aload_n 0, 1) := by decide +kernel
theorem dX6_reads_115 : decode cX6_reads 115 = .ok (.getfield 61, 3) := by decide +kernel
theorem dX6_reads_118 : decode cX6_reads 118 = .ok (.iaload, 1) := by decide +kernel
theorem dX6_reads_119 : decode cX6_reads 119 = .ok (.bipush 59, 2) := by decide +kernel
theorem dX6_reads_121 : decode cX6_reads 121 = .ok (.if_icmp .ne 7, 3) := by decide +kernel
theorem dX6_reads_124 : decode cX6_reads 124 = .ok (.iconst 3, 1) := by decide +kernel
theorem dX6_reads_125 : decode cX6_reads 125 = .ok (.goto 4, 3) := by decide +kernel
theorem dX6_reads_128 : decode cX6_reads 128 = .ok (.iconst 4, 1) := by decide +kernel
theorem dX6_reads_129 : decode cX6_reads 129 = .ok (.putfield 74, 3) := by decide +kernel
theorem dX6_reads_132 : decode cX6_reads 132 = .ok (.aload_n 0, 1) := by decide +kernel
theorem dX6_reads_133 : decode cX6_reads 133 = .ok (.dup, 1) := by decide +kernel
theorem dX6_reads_134 : decode cX6_reads 134 = .ok (.getfield 61, 3) := by decide +kernel
theorem dX6_reads_137 : decode cX6_reads 137 = .ok (.iconst 1, 1) := by decide +kernel
theorem dX6_reads_138 : decode cX6_reads 138 = .ok (.iadd, 1) := by decide +kernel
theorem dX6_reads_139 : decode cX6_reads 139 = .ok (.putfield 61, 3) := by decide +kernel
theorem dX6_reads_142 : decode cX6_reads 142 = .ok (.return_, 1) := by decide +kernel
theorem dX6_number_0 : decode cX6_number 0 = .ok (.aload_n 0, 1) := by decide +kernel
theorem dX6_number_1 : decode cX6_number 1 = .ok (.invokevirtual 86, 3) := by decide +kernel
theorem dX6_number_4 : decode cX6_number 4 = .ok (.aload_n 0, 1) := by decide +kernel
theorem dX6_number_5 : decode cX6_number 5 = .ok (.getfield 74, 3) := by decide +kernel
theorem dX6_number_8 : decode cX6_number 8 = .ok (.iconst 2, 1) := by decide +kernel
theorem dX6_number_9 : decode cX6_number 9 = .ok (.if_icmp .ne 22, 3) := by decide +kernel
theorem dX6_number_12 : decode cX6_number 12 = .ok (.aload_n 0, 1) := by decide +kernel
theorem dX6_number_13 : decode cX6_number 13 = .ok (.getfield 64, 3) := by decide +kernel
theorem dX6_number_16 : decode cX6_number 16 = .ok (.i2l, 1) := by decide +kernel
theorem dX6_number_17 : decode cX6_number 17 = .ok (.iload_n 1, 1) := by decide +kernel
theorem dX6_number_18 : decode cX6_number 18 = .ok (.i2l, 1) := by decide +kernel
theorem dX6_number_19 : decode cX6_number 19 = .ok (.iload_n 2, 1) := by decide +kernel
theorem dX6_number_20 : decode cX6_number 20 = .ok (.i2l, 1) := by decide +kernel
theorem dX6_number_21 : decode cX6_number 21 = .ok (.invokestatic 45, 3) := by decide +kernel
theorem dX6_number_24 : decode cX6_number 24 = .ok (.ifCond .eq 7, 3) := by decide +kernel
theorem dX6_number_27 : decode cX6_number 27 = .ok (.iconst 1, 1) := by decide +kernel
theorem dX6_number_28 : decode cX6_number 28 = .ok (.goto 4, 3) := by decide +kernel
theorem dX6_number_31 : decode cX6_number 31 = .ok (.iconst 0, 1) := by decide +kernel
theorem dX6_number_32 : decode cX6_number 32 = .ok (.ireturn, 1) := by decide +kernel
theorem dX6_itemEnds_0 : decode cX6_itemEnds 0 = .ok (.aload_n 0, 1) := by decide +kernel
theorem dX6_itemEnds_1 : decode cX6_itemEnds 1 = .ok (.invokevirtual 86, 3) := by decide +kernel
theorem dX6_itemEnds_4 : decode cX6_itemEnds 4 = .ok (.aload_n 0, 1) := by decide +kernel
theorem dX6_itemEnds_5 : decode cX6_itemEnds 5 = .ok (.getfield 74, 3) := by decide +kernel
theorem dX6_itemEnds_8 : decode cX6_itemEnds 8 = .ok (.iconst 3, 1) := by decide +kernel
theorem dX6_itemEnds_9 : decode cX6_itemEnds 9 = .ok (.if_icmp .ne 7, 3) := by decide +kernel
theorem dX6_itemEnds_12 : decode cX6_itemEnds 12 = .ok (.iconst 1, 1) := by decide +kernel
theorem dX6_itemEnds_13 : decode cX6_itemEnds 13 = .ok (.goto 4, 3) := by decide +kernel
theorem dX6_itemEnds_16 : decode cX6_itemEnds 16 = .ok (.iconst 0, 1) := by decide +kernel
theorem dX6_itemEnds_17 : decode cX6_itemEnds 17 = .ok (.ireturn, 1) := by decide +kernel
theorem dX6_plain_0 : decode cX6_plain 0 = .ok (.iconst 0, 1) := by decide +kernel
theorem dX6_plain_1 : decode cX6_plain 1 = .ok (.istore_n 1, 1) := by decide +kernel
theorem dX6_plain_2 : decode cX6_plain 2 = .ok (.iload_n 1, 1) := by decide +kernel
theorem dX6_plain_3 : decode cX6_plain 3 = .ok (.bipush 79, 2) := by decide +kernel
theorem dX6_plain_5 : decode cX6_plain 5 = .ok (.if_icmp .ge 16, 3) := by decide +kernel
theorem dX6_plain_8 : decode cX6_plain 8 = .ok (.aload_n 0, 1) := by decide +kernel
theorem dX6_plain_9 : decode cX6_plain 9 = .ok (.getfield 13, 3) := by decide +kernel
theorem dX6_plain_12 : decode cX6_plain 12 = .ok (.iload_n 1, 1) := by decide +kernel
theorem dX6_plain_13 : decode cX6_plain 13 = .ok (.iconst 0, 1) := by decide +kernel
theorem dX6_plain_14 : decode cX6_plain 14 = .ok (.iastore, 1) := by decide +kernel
theorem dX6_plain_15 : decode cX6_plain 15 = .ok (.iinc 1 1, 3) := by decide +kernel
theorem dX6_plain_18 : decode cX6_plain 18 = .ok (.goto (-16), 3) := by decide +kernel
theorem dX6_plain_21 : decode cX6_plain 21 = .ok (.aload_n 0, 1) := by decide +kernel
theorem dX6_plain_22 : decode cX6_plain 22 = .ok (.getfield 13, 3) := by decide +kernel
theorem dX6_plain_25 : decode cX6_plain 25 = .ok (.iconst 3, 1) := by decide +kernel
theorem dX6_plain_26 : decode cX6_plain 26 = .ok (.iconst 2, 1) := by decide +kernel
theorem dX6_plain_27 : decode cX6_plain 27 = .ok (.iastore, 1) := by decide +kernel
theorem dX6_plain_28 : decode cX6_plain 28 = .ok (.aload_n 0, 1) := by decide +kernel
theorem dX6_plain_29 : decode cX6_plain 29 = .ok (.getfield 13, 3) := by decide +kernel
theorem dX6_plain_32 : decode cX6_plain 32 = .ok (.iconst 4, 1) := by decide +kernel
theorem dX6_plain_33 : decode cX6_plain 33 = .ok (.iconst 3, 1) := by decide +kernel
theorem dX6_plain_34 : decode cX6_plain 34 = .ok (.iastore, 1) := by decide +kernel
theorem dX6_plain_35 : decode cX6_plain 35 = .ok (.aload_n 0, 1) := by decide +kernel
theorem dX6_plain_36 : decode cX6_plain 36 = .ok (.getfield 13, 3) := by decide +kernel
theorem dX6_plain_39 : decode cX6_plain 39 = .ok (.iconst 5, 1) := by decide +kernel
theorem dX6_plain_40 : decode cX6_plain 40 = .ok (.bipush 9, 2) := by decide +kernel
theorem dX6_plain_42 : decode cX6_plain 42 = .ok (.iastore, 1) := by decide +kernel
theorem dX6_plain_43 : decode cX6_plain 43 = .ok (.return_, 1) := by decide +kernel
theorem dX6_readSeason_0 : decode cX6_readSeason 0 = .ok (.bipush 30, 2) := by decide +kernel
theorem dX6_readSeason_2 : decode cX6_readSeason 2 = .ok (.aload_n 0, 1) := by decide +kernel
theorem dX6_readSeason_3 : decode cX6_readSeason 3 = .ok (.getfield 13, 3) := by decide +kernel
theorem dX6_readSeason_6 : decode cX6_readSeason 6 = .ok (.iconst 0, 1) := by decide +kernel
theorem dX6_readSeason_7 : decode cX6_readSeason 7 = .ok (.iaload, 1) := by decide +kernel
theorem dX6_readSeason_8 : decode cX6_readSeason 8 = .ok (.isub, 1) := by decide +kernel
theorem dX6_readSeason_9 : decode cX6_readSeason 9 = .ok (.istore_n 1, 1) := by decide +kernel
theorem dX6_readSeason_10 : decode cX6_readSeason 10 = .ok (.aload_n 0, 1) := by decide +kernel
theorem dX6_readSeason_11 : decode cX6_readSeason 11 = .ok (.getfield 13, 3) := by decide +kernel
theorem dX6_readSeason_14 : decode cX6_readSeason 14 = .ok (.iconst 1, 1) := by decide +kernel
theorem dX6_readSeason_15 : decode cX6_readSeason 15 = .ok (.iaload, 1) := by decide +kernel
theorem dX6_readSeason_16 : decode cX6_readSeason 16 = .ok (.iconst 5, 1) := by decide +kernel
theorem dX6_readSeason_17 : decode cX6_readSeason 17 = .ok (.if_icmp .eq 23, 3) := by decide +kernel
theorem dX6_readSeason_20 : decode cX6_readSeason 20 = .ok (.aload_n 0, 1) := by decide +kernel
theorem dX6_readSeason_21 : decode cX6_readSeason 21 = .ok (.iconst 1, 1) := by decide +kernel
theorem dX6_readSeason_22 : decode cX6_readSeason 22 = .ok (.iload_n 1, 1) := by decide +kernel
theorem dX6_readSeason_23 : decode cX6_readSeason 23 = .ok (.bipush 9, 2) := by decide +kernel
theorem dX6_readSeason_25 : decode cX6_readSeason 25 = .ok (.if_icmp .ge 7, 3) := by decide +kernel
theorem dX6_readSeason_28 : decode cX6_readSeason 28 = .ok (.iload_n 1, 1) := by decide +kernel
theorem dX6_readSeason_29 : decode cX6_readSeason 29 = .ok (.goto 5, 3) := by decide +kernel
theorem dX6_readSeason_32 : decode cX6_readSeason 32 = .ok (.bipush 9, 2) := by decide +kernel
theorem dX6_readSeason_34 : decode cX6_readSeason 34 = .ok (.invokevirtual 89, 3) := by decide +kernel
theorem dX6_readSeason_37 : decode cX6_readSeason 37 = .ok (.ifCond .ne 5, 3) := by decide +kernel
theorem dX6_readSeason_40 : decode cX6_readSeason 40 = .ok (.iconst 0, 1) := by decide +kernel
theorem dX6_readSeason_41 : decode cX6_readSeason 41 = .ok (.ireturn, 1) := by decide +kernel
theorem dX6_readSeason_42 : decode cX6_readSeason 42 = .ok (.aload_n 0, 1) := by decide +kernel
theorem dX6_readSeason_43 : decode cX6_readSeason 43 = .ok (.getfield 64, 3) := by decide +kernel
theorem dX6_readSeason_46 : decode cX6_readSeason 46 = .ok (.istore_n 2, 1) := by decide +kernel
theorem dX6_readSeason_47 : decode cX6_readSeason 47 = .ok (.aload_n 0, 1) := by decide +kernel
theorem dX6_readSeason_48 : decode cX6_readSeason 48 = .ok (.iconst 0, 1) := by decide +kernel
theorem dX6_readSeason_49 : decode cX6_readSeason 49 = .ok (.bipush 9, 2) := by decide +kernel
theorem dX6_readSeason_51 : decode cX6_readSeason 51 = .ok (.invokevirtual 89, 3) := by decide +kernel
theorem dX6_readSeason_54 : decode cX6_readSeason 54 = .ok (.ifCond .ne 5, 3) := by decide +kernel
theorem dX6_readSeason_57 : decode cX6_readSeason 57 = .ok (.iconst 0, 1) := by decide +kernel
theorem dX6_readSeason_58 : decode cX6_readSeason 58 = .ok (.ireturn, 1) := by decide +kernel
theorem dX6_readSeason_59 : decode cX6_readSeason 59 = .ok (.iconst 0, 1) := by decide +kernel
theorem dX6_readSeason_60 : decode cX6_readSeason 60 = .ok (.istore_n 3, 1) := by decide +kernel
theorem dX6_readSeason_61 : decode cX6_readSeason 61 = .ok (.iload_n 3, 1) := by decide +kernel
theorem dX6_readSeason_62 : decode cX6_readSeason 62 = .ok (.iload_n 2, 1) := by decide +kernel
theorem dX6_readSeason_63 : decode cX6_readSeason 63 = .ok (.if_icmp .ge 57, 3) := by decide +kernel
theorem dX6_readSeason_66 : decode cX6_readSeason 66 = .ok (.aload_n 0, 1) := by decide +kernel
theorem dX6_readSeason_67 : decode cX6_readSeason 67 = .ok (.getfield 13, 3) := by decide +kernel
theorem dX6_readSeason_70 : decode cX6_readSeason 70 = .ok (.bipush 7, 2) := by decide +kernel
theorem dX6_readSeason_72 : decode cX6_readSeason 72 = .ok (.aload_n 0, 1) := by decide +kernel
theorem dX6_readSeason_73 : decode cX6_readSeason 73 = .ok (.getfield 13, 3) := by decide +kernel
theorem dX6_readSeason_76 : decode cX6_readSeason 76 = .ok (.iconst 0, 1) := by decide +kernel
theorem dX6_readSeason_77 : decode cX6_readSeason 77 = .ok (.iaload, 1) := by decide +kernel
theorem dX6_readSeason_78 : decode cX6_readSeason 78 = .ok (.iadd, 1) := by decide +kernel
theorem dX6_readSeason_79 : decode cX6_readSeason 79 = .ok (.aload_n 0, 1) := by decide +kernel
theorem dX6_readSeason_80 : decode cX6_readSeason 80 = .ok (.getfield 64, 3) := by decide +kernel
theorem dX6_readSeason_83 : decode cX6_readSeason 83 = .ok (.iastore, 1) := by decide +kernel
theorem dX6_readSeason_84 : decode cX6_readSeason 84 = .ok (.aload_n 0, 1) := by decide +kernel
theorem dX6_readSeason_85 : decode cX6_readSeason 85 = .ok (.getfield 13, 3) := by decide +kernel
theorem dX6_readSeason_88 : decode cX6_readSeason 88 = .ok (.bipush 37, 2) := by decide +kernel
theorem dX6_readSeason_90 : decode cX6_readSeason 90 = .ok (.aload_n 0, 1) := by decide +kernel
theorem dX6_readSeason_91 : decode cX6_readSeason 91 = .ok (.getfield 13, 3) := by decide +kernel
theorem dX6_readSeason_94 : decode cX6_readSeason 94 = .ok (.iconst 0, 1) := by decide +kernel
theorem dX6_readSeason_95 : decode cX6_readSeason 95 = .ok (.iaload, 1) := by decide +kernel
theorem dX6_readSeason_96 : decode cX6_readSeason 96 = .ok (.iadd, 1) := by decide +kernel
theorem dX6_readSeason_97 : decode cX6_readSeason 97 = .ok (.aload_n 0, 1) := by decide +kernel
theorem dX6_readSeason_98 : decode cX6_readSeason 98 = .ok (.getfield 13, 3) := by decide +kernel
theorem dX6_readSeason_101 : decode cX6_readSeason 101 = .ok (.iconst 1, 1) := by decide +kernel
theorem dX6_readSeason_102 : decode cX6_readSeason 102 = .ok (.iaload, 1) := by decide +kernel
theorem dX6_readSeason_103 : decode cX6_readSeason 103 = .ok (.iastore, 1) := by decide +kernel
theorem dX6_readSeason_104 : decode cX6_readSeason 104 = .ok (.aload_n 0, 1) := by decide +kernel
theorem dX6_readSeason_105 : decode cX6_readSeason 105 = .ok (.getfield 13, 3) := by decide +kernel
theorem dX6_readSeason_108 : decode cX6_readSeason 108 = .ok (.iconst 0, 1) := by decide +kernel
theorem dX6_readSeason_109 : decode cX6_readSeason 109 = .ok (.dup2, 1) := by decide +kernel
theorem dX6_readSeason_110 : decode cX6_readSeason 110 = .ok (.iaload, 1) := by decide +kernel
theorem dX6_readSeason_111 : decode cX6_readSeason 111 = .ok (.iconst 1, 1) := by decide +kernel
theorem dX6_readSeason_112 : decode cX6_readSeason 112 = .ok (.iadd, 1) := by decide +kernel
theorem dX6_readSeason_113 : decode cX6_readSeason 113 = .ok (.iastore, 1) := by decide +kernel
theorem dX6_readSeason_114 : decode cX6_readSeason 114 = .ok (.iinc 3 1, 3) := by decide +kernel
theorem dX6_readSeason_117 : decode cX6_readSeason 117 = .ok (.goto (-56), 3) := by decide +kernel
theorem dX6_readSeason_120 : decode cX6_readSeason 120 = .ok (.aload_n 0, 1) := by decide +kernel
theorem dX6_readSeason_121 : decode cX6_readSeason 121 = .ok (.getfield 13, 3) := by decide +kernel
theorem dX6_readSeason_124 : decode cX6_readSeason 124 = .ok (.iconst 1, 1) := by decide +kernel
theorem dX6_readSeason_125 : decode cX6_readSeason 125 = .ok (.dup2, 1) := by decide +kernel
theorem dX6_readSeason_126 : decode cX6_readSeason 126 = .ok (.iaload, 1) := by decide +kernel
theorem dX6_readSeason_127 : decode cX6_readSeason 127 = .ok (.iconst 1, 1) := by decide +kernel
theorem dX6_readSeason_128 : decode cX6_readSeason 128 = .ok (.iadd, 1) := by decide +kernel
theorem dX6_readSeason_129 : decode cX6_readSeason 129 = .ok (.iastore, 1) := by decide +kernel
theorem dX6_readSeason_130 : decode cX6_readSeason 130 = .ok (.aload_n 0, 1) := by decide +kernel
theorem dX6_readSeason_131 : decode cX6_readSeason 131 = .ok (.invokevirtual 93, 3) := by decide +kernel
theorem dX6_readSeason_134 : decode cX6_readSeason 134 = .ok (.ireturn, 1) := by decide +kernel
theorem dX6_readCrop_0 : decode cX6_readCrop 0 = .ok (.bipush 67, 2) := by decide +kernel
theorem dX6_readCrop_2 : decode cX6_readCrop 2 = .ok (.iconst 3, 1) := by decide +kernel
theorem dX6_readCrop_3 : decode cX6_readCrop 3 = .ok (.aload_n 0, 1) := by decide +kernel
theorem dX6_readCrop_4 : decode cX6_readCrop 4 = .ok (.getfield 13, 3) := by decide +kernel
theorem dX6_readCrop_7 : decode cX6_readCrop 7 = .ok (.iconst 2, 1) := by decide +kernel
theorem dX6_readCrop_8 : decode cX6_readCrop 8 = .ok (.iaload, 1) := by decide +kernel
theorem dX6_readCrop_9 : decode cX6_readCrop 9 = .ok (.imul, 1) := by decide +kernel
theorem dX6_readCrop_10 : decode cX6_readCrop 10 = .ok (.iadd, 1) := by decide +kernel
theorem dX6_readCrop_11 : decode cX6_readCrop 11 = .ok (.istore_n 1, 1) := by decide +kernel
theorem dX6_readCrop_12 : decode cX6_readCrop 12 = .ok (.aload_n 0, 1) := by decide +kernel
theorem dX6_readCrop_13 : decode cX6_readCrop 13 = .ok (.getfield 13, 3) := by decide +kernel
theorem dX6_readCrop_16 : decode cX6_readCrop 16 = .ok (.iconst 2, 1) := by decide +kernel
theorem dX6_readCrop_17 : decode cX6_readCrop 17 = .ok (.iaload, 1) := by decide +kernel
theorem dX6_readCrop_18 : decode cX6_readCrop 18 = .ok (.iconst 4, 1) := by decide +kernel
theorem dX6_readCrop_19 : decode cX6_readCrop 19 = .ok (.if_icmp .eq 13, 3) := by decide +kernel
theorem dX6_readCrop_22 : decode cX6_readCrop 22 = .ok (.aload_n 0, 1) := by decide +kernel
theorem dX6_readCrop_23 : decode cX6_readCrop 23 = .ok (.iconst 1, 1) := by decide +kernel
theorem dX6_readCrop_24 : decode cX6_readCrop 24 = .ok (.bipush 9, 2) := by decide +kernel
theorem dX6_readCrop_26 : decode cX6_readCrop 26 = .ok (.invokevirtual 89, 3) := by decide +kernel
theorem dX6_readCrop_29 : decode cX6_readCrop 29 = .ok (.ifCond .ne 5, 3) := by decide +kernel
theorem dX6_readCrop_32 : decode cX6_readCrop 32 = .ok (.iconst 0, 1) := by decide +kernel
theorem dX6_readCrop_33 : decode cX6_readCrop 33 = .ok (.ireturn, 1) := by decide +kernel
theorem dX6_readCrop_34 : decode cX6_readCrop 34 = .ok (.aload_n 0, 1) := by decide +kernel
theorem dX6_readCrop_35 : decode cX6_readCrop 35 = .ok (.getfield 13, 3) := by decide +kernel
theorem dX6_readCrop_38 : decode cX6_readCrop 38 = .ok (.iload_n 1, 1) := by decide +kernel
theorem dX6_readCrop_39 : decode cX6_readCrop 39 = .ok (.aload_n 0, 1) := by decide +kernel
theorem dX6_readCrop_40 : decode cX6_readCrop 40 = .ok (.getfield 64, 3) := by decide +kernel
theorem dX6_readCrop_43 : decode cX6_readCrop 43 = .ok (.iastore, 1) := by decide +kernel
theorem dX6_readCrop_44 : decode cX6_readCrop 44 = .ok (.aload_n 0, 1) := by decide +kernel
theorem dX6_readCrop_45 : decode cX6_readCrop 45 = .ok (.iconst 0, 1) := by decide +kernel
theorem dX6_readCrop_46 : decode cX6_readCrop 46 = .ok (.bipush 9, 2) := by decide +kernel
theorem dX6_readCrop_48 : decode cX6_readCrop 48 = .ok (.invokevirtual 89, 3) := by decide +kernel
theorem dX6_readCrop_51 : decode cX6_readCrop 51 = .ok (.ifCond .ne 5, 3) := by decide +kernel
theorem dX6_readCrop_54 : decode cX6_readCrop 54 = .ok (.iconst 0, 1) := by decide +kernel
theorem dX6_readCrop_55 : decode cX6_readCrop 55 = .ok (.ireturn, 1) := by decide +kernel
theorem dX6_readCrop_56 : decode cX6_readCrop 56 = .ok (.aload_n 0, 1) := by decide +kernel
theorem dX6_readCrop_57 : decode cX6_readCrop 57 = .ok (.getfield 13, 3) := by decide +kernel
theorem dX6_readCrop_60 : decode cX6_readCrop 60 = .ok (.iload_n 1, 1) := by decide +kernel
theorem dX6_readCrop_61 : decode cX6_readCrop 61 = .ok (.iconst 1, 1) := by decide +kernel
theorem dX6_readCrop_62 : decode cX6_readCrop 62 = .ok (.iadd, 1) := by decide +kernel
theorem dX6_readCrop_63 : decode cX6_readCrop 63 = .ok (.aload_n 0, 1) := by decide +kernel
theorem dX6_readCrop_64 : decode cX6_readCrop 64 = .ok (.getfield 64, 3) := by decide +kernel
theorem dX6_readCrop_67 : decode cX6_readCrop 67 = .ok (.iastore, 1) := by decide +kernel
theorem dX6_readCrop_68 : decode cX6_readCrop 68 = .ok (.aload_n 0, 1) := by decide +kernel
theorem dX6_readCrop_69 : decode cX6_readCrop 69 = .ok (.iconst 0, 1) := by decide +kernel
theorem dX6_readCrop_70 : decode cX6_readCrop 70 = .ok (.bipush 99, 2) := by decide +kernel
theorem dX6_readCrop_72 : decode cX6_readCrop 72 = .ok (.invokevirtual 89, 3) := by decide +kernel
theorem dX6_readCrop_75 : decode cX6_readCrop 75 = .ok (.ifCond .ne 5, 3) := by decide +kernel
theorem dX6_readCrop_78 : decode cX6_readCrop 78 = .ok (.iconst 0, 1) := by decide +kernel
theorem dX6_readCrop_79 : decode cX6_readCrop 79 = .ok (.ireturn, 1) := by decide +kernel
theorem dX6_readCrop_80 : decode cX6_readCrop 80 = .ok (.aload_n 0, 1) := by decide +kernel
theorem dX6_readCrop_81 : decode cX6_readCrop 81 = .ok (.getfield 13, 3) := by decide +kernel
theorem dX6_readCrop_84 : decode cX6_readCrop 84 = .ok (.iload_n 1, 1) := by decide +kernel
theorem dX6_readCrop_85 : decode cX6_readCrop 85 = .ok (.iconst 2, 1) := by decide +kernel
theorem dX6_readCrop_86 : decode cX6_readCrop 86 = .ok (.iadd, 1) := by decide +kernel
theorem dX6_readCrop_87 : decode cX6_readCrop 87 = .ok (.aload_n 0, 1) := by decide +kernel
theorem dX6_readCrop_88 : decode cX6_readCrop 88 = .ok (.getfield 64, 3) := by decide +kernel
theorem dX6_readCrop_91 : decode cX6_readCrop 91 = .ok (.iastore, 1) := by decide +kernel
theorem dX6_readCrop_92 : decode cX6_readCrop 92 = .ok (.aload_n 0, 1) := by decide +kernel
theorem dX6_readCrop_93 : decode cX6_readCrop 93 = .ok (.getfield 13, 3) := by decide +kernel
theorem dX6_readCrop_96 : decode cX6_readCrop 96 = .ok (.iconst 2, 1) := by decide +kernel
theorem dX6_readCrop_97 : decode cX6_readCrop 97 = .ok (.dup2, 1) := by decide +kernel
theorem dX6_readCrop_98 : decode cX6_readCrop 98 = .ok (.iaload, 1) := by decide +kernel
theorem dX6_readCrop_99 : decode cX6_readCrop 99 = .ok (.iconst 1, 1) := by decide +kernel
theorem dX6_readCrop_100 : decode cX6_readCrop 100 = .ok (.iadd, 1) := by decide +kernel
theorem dX6_readCrop_101 : decode cX6_readCrop 101 = .ok (.iastore, 1) := by decide +kernel
theorem dX6_readCrop_102 : decode cX6_readCrop 102 = .ok (.aload_n 0, 1) := by decide +kernel
theorem dX6_readCrop_103 : decode cX6_readCrop 103 = .ok (.invokevirtual 93, 3) := by decide +kernel
theorem dX6_readCrop_106 : decode cX6_readCrop 106 = .ok (.ireturn, 1) := by decide +kernel
theorem dX6_once_0 : decode cX6_once 0 = .ok (.aload_n 0, 1) := by decide +kernel
theorem dX6_once_1 : decode cX6_once 1 = .ok (.getfield 13, 3) := by decide +kernel
theorem dX6_once_4 : decode cX6_once 4 = .ok (.bipush 6, 2) := by decide +kernel
theorem dX6_once_6 : decode cX6_once 6 = .ok (.iaload, 1) := by decide +kernel
theorem dX6_once_7 : decode cX6_once 7 = .ok (.iload_n 1, 1) := by decide +kernel
theorem dX6_once_8 : decode cX6_once 8 = .ok (.ishr, 1) := by decide +kernel
theorem dX6_once_9 : decode cX6_once 9 = .ok (.iconst 1, 1) := by decide +kernel
theorem dX6_once_10 : decode cX6_once 10 = .ok (.iand, 1) := by decide +kernel
theorem dX6_once_11 : decode cX6_once 11 = .ok (.iconst 1, 1) := by decide +kernel
theorem dX6_once_12 : decode cX6_once 12 = .ok (.if_icmp .eq 12, 3) := by decide +kernel
theorem dX6_once_15 : decode cX6_once 15 = .ok (.aload_n 0, 1) := by decide +kernel
theorem dX6_once_16 : decode cX6_once 16 = .ok (.iload_n 2, 1) := by decide +kernel
theorem dX6_once_17 : decode cX6_once 17 = .ok (.iload_n 3, 1) := by decide +kernel
theorem dX6_once_18 : decode cX6_once 18 = .ok (.invokevirtual 89, 3) := by decide +kernel
theorem dX6_once_21 : decode cX6_once 21 = .ok (.ifCond .ne 5, 3) := by decide +kernel
theorem dX6_once_24 : decode cX6_once 24 = .ok (.iconst 0, 1) := by decide +kernel
theorem dX6_once_25 : decode cX6_once 25 = .ok (.ireturn, 1) := by decide +kernel
theorem dX6_once_26 : decode cX6_once 26 = .ok (.aload_n 0, 1) := by decide +kernel
theorem dX6_once_27 : decode cX6_once 27 = .ok (.getfield 13, 3) := by decide +kernel
theorem dX6_once_30 : decode cX6_once 30 = .ok (.bipush 6, 2) := by decide +kernel
theorem dX6_once_32 : decode cX6_once 32 = .ok (.dup2, 1) := by decide +kernel
theorem dX6_once_33 : decode cX6_once 33 = .ok (.iaload, 1) := by decide +kernel
theorem dX6_once_34 : decode cX6_once 34 = .ok (.iconst 1, 1) := by decide +kernel
theorem dX6_once_35 : decode cX6_once 35 = .ok (.iload_n 1, 1) := by decide +kernel
theorem dX6_once_36 : decode cX6_once 36 = .ok (.ishl, 1) := by decide +kernel
theorem dX6_once_37 : decode cX6_once 37 = .ok (.ior, 1) := by decide +kernel
theorem dX6_once_38 : decode cX6_once 38 = .ok (.iastore, 1) := by decide +kernel
theorem dX6_once_39 : decode cX6_once 39 = .ok (.aload_n 0, 1) := by decide +kernel
theorem dX6_once_40 : decode cX6_once 40 = .ok (.getfield 13, 3) := by decide +kernel
theorem dX6_once_43 : decode cX6_once 43 = .ok (.iload_n 1, 1) := by decide +kernel
theorem dX6_once_44 : decode cX6_once 44 = .ok (.aload_n 0, 1) := by decide +kernel
theorem dX6_once_45 : decode cX6_once 45 = .ok (.getfield 64, 3) := by decide +kernel
theorem dX6_once_48 : decode cX6_once 48 = .ok (.iastore, 1) := by decide +kernel
theorem dX6_once_49 : decode cX6_once 49 = .ok (.aload_n 0, 1) := by decide +kernel
theorem dX6_once_50 : decode cX6_once 50 = .ok (.invokevirtual 93, 3) := by decide +kernel
theorem dX6_once_53 : decode cX6_once 53 = .ok (.ireturn, 1) := by decide +kernel
theorem dX6_readItem_0 : decode cX6_readItem 0 = .ok (.aload_n 0, 1) := by decide +kernel
theorem dX6_readItem_1 : decode cX6_readItem 1 = .ok (.getfield 74, 3) := by decide +kernel
theorem dX6_readItem_4 : decode cX6_readItem 4 = .ok (.iconst 1, 1) := by decide +kernel
theorem dX6_readItem_5 : decode cX6_readItem 5 = .ok (.if_icmp .eq 5, 3) := by decide +kernel
theorem dX6_readItem_8 : decode cX6_readItem 8 = .ok (.iconst 0, 1) := by decide +kernel
theorem dX6_readItem_9 : decode cX6_readItem 9 = .ok (.ireturn, 1) := by decide +kernel
theorem dX6_readItem_10 : decode cX6_readItem 10 = .ok (.aload_n 0, 1) := by decide +kernel
theorem dX6_readItem_11 : decode cX6_readItem 11 = .ok (.getfield 64, 3) := by decide +kernel
theorem dX6_readItem_14 : decode cX6_readItem 14 = .ok (.lookupswitch 69 #[(99, 47), (105, 61), (112, 52), (115, 42)], 42) := by decide +kernel
theorem dX6_readItem_56 : decode cX6_readItem 56 = .ok (.aload_n 0, 1) := by decide +kernel
theorem dX6_readItem_57 : decode cX6_readItem 57 = .ok (.invokevirtual 97, 3) := by decide +kernel
theorem dX6_readItem_60 : decode cX6_readItem 60 = .ok (.ireturn, 1) := by decide +kernel
theorem dX6_readItem_61 : decode cX6_readItem 61 = .ok (.aload_n 0, 1) := by decide +kernel
theorem dX6_readItem_62 : decode cX6_readItem 62 = .ok (.invokevirtual 100, 3) := by decide +kernel
theorem dX6_readItem_65 : decode cX6_readItem 65 = .ok (.ireturn, 1) := by decide +kernel
theorem dX6_readItem_66 : decode cX6_readItem 66 = .ok (.aload_n 0, 1) := by decide +kernel
theorem dX6_readItem_67 : decode cX6_readItem 67 = .ok (.iconst 3, 1) := by decide +kernel
theorem dX6_readItem_68 : decode cX6_readItem 68 = .ok (.iconst 1, 1) := by decide +kernel
theorem dX6_readItem_69 : decode cX6_readItem 69 = .ok (.bipush 9, 2) := by decide +kernel
theorem dX6_readItem_71 : decode cX6_readItem 71 = .ok (.invokevirtual 103, 3) := by decide +kernel
theorem dX6_readItem_74 : decode cX6_readItem 74 = .ok (.ireturn, 1) := by decide +kernel
theorem dX6_readItem_75 : decode cX6_readItem 75 = .ok (.aload_n 0, 1) := by decide +kernel
theorem dX6_readItem_76 : decode cX6_readItem 76 = .ok (.iconst 4, 1) := by decide +kernel
theorem dX6_readItem_77 : decode cX6_readItem 77 = .ok (.iconst 0, 1) := by decide +kernel
theorem dX6_readItem_78 : decode cX6_readItem 78 = .ok (.iconst 5, 1) := by decide +kernel
theorem dX6_readItem_79 : decode cX6_readItem 79 = .ok (.invokevirtual 103, 3) := by decide +kernel
theorem dX6_readItem_82 : decode cX6_readItem 82 = .ok (.ireturn, 1) := by decide +kernel
theorem dX6_readItem_83 : decode cX6_readItem 83 = .ok (.aload_n 0, 1) := by decide +kernel
theorem dX6_readItem_84 : decode cX6_readItem 84 = .ok (.iconst 5, 1) := by decide +kernel
theorem dX6_readItem_85 : decode cX6_readItem 85 = .ok (.iconst 1, 1) := by decide +kernel
theorem dX6_readItem_86 : decode cX6_readItem 86 = .ok (.bipush 9, 2) := by decide +kernel
theorem dX6_readItem_88 : decode cX6_readItem 88 = .ok (.invokevirtual 103, 3) := by decide +kernel
theorem dX6_readItem_91 : decode cX6_readItem 91 = .ok (.ireturn, 1) := by decide +kernel
theorem dX6_valley_0 : decode cX6_valley 0 = .ok (.aload_n 0, 1) := by decide +kernel
theorem dX6_valley_1 : decode cX6_valley 1 = .ok (.invokevirtual 37, 3) := by decide +kernel
theorem dX6_valley_4 : decode cX6_valley 4 = .ok (.aload_n 0, 1) := by decide +kernel
theorem dX6_valley_5 : decode cX6_valley 5 = .ok (.iconst 0, 1) := by decide +kernel
theorem dX6_valley_6 : decode cX6_valley 6 = .ok (.putfield 61, 3) := by decide +kernel
theorem dX6_valley_9 : decode cX6_valley 9 = .ok (.iconst 0, 1) := by decide +kernel
theorem dX6_valley_10 : decode cX6_valley 10 = .ok (.istore_n 1, 1) := by decide +kernel
theorem dX6_valley_11 : decode cX6_valley 11 = .ok (.aload_n 0, 1) := by decide +kernel
theorem dX6_valley_12 : decode cX6_valley 12 = .ok (.invokevirtual 86, 3) := by decide +kernel
theorem dX6_valley_15 : decode cX6_valley 15 = .ok (.aload_n 0, 1) := by decide +kernel
theorem dX6_valley_16 : decode cX6_valley 16 = .ok (.getfield 74, 3) := by decide +kernel
theorem dX6_valley_19 : decode cX6_valley 19 = .ok (.ifCond .eq 28, 3) := by decide +kernel
theorem dX6_valley_22 : decode cX6_valley 22 = .ok (.aload_n 0, 1) := by decide +kernel
theorem dX6_valley_23 : decode cX6_valley 23 = .ok (.invokevirtual 107, 3) := by decide +kernel
theorem dX6_valley_26 : decode cX6_valley 26 = .ok (.ifCond .ne 11, 3) := by decide +kernel
theorem dX6_valley_29 : decode cX6_valley 29 = .ok (.bipush (-10), 2) := by decide +kernel
theorem dX6_valley_31 : decode cX6_valley 31 = .ok (.aload_n 0, 1) := by decide +kernel
theorem dX6_valley_32 : decode cX6_valley 32 = .ok (.getfield 71, 3) := by decide +kernel
theorem dX6_valley_35 : decode cX6_valley 35 = .ok (.isub, 1) := by decide +kernel
theorem dX6_valley_36 : decode cX6_valley 36 = .ok (.ireturn, 1) := by decide +kernel
theorem dX6_valley_37 : decode cX6_valley 37 = .ok (.iinc 1 1, 3) := by decide +kernel
theorem dX6_valley_40 : decode cX6_valley 40 = .ok (.aload_n 0, 1) := by decide +kernel
theorem dX6_valley_41 : decode cX6_valley 41 = .ok (.invokevirtual 86, 3) := by decide +kernel
theorem dX6_valley_44 : decode cX6_valley 44 = .ok (.goto (-29), 3) := by decide +kernel
theorem dX6_valley_47 : decode cX6_valley 47 = .ok (.aload_n 0, 1) := by decide +kernel
theorem dX6_valley_48 : decode cX6_valley 48 = .ok (.iconst 0, 1) := by decide +kernel
theorem dX6_valley_49 : decode cX6_valley 49 = .ok (.putfield 49, 3) := by decide +kernel
theorem dX6_valley_52 : decode cX6_valley 52 = .ok (.aload_n 0, 1) := by decide +kernel
theorem dX6_valley_53 : decode cX6_valley 53 = .ok (.invokevirtual 40, 3) := by decide +kernel
theorem dX6_valley_56 : decode cX6_valley 56 = .ok (.iload_n 1, 1) := by decide +kernel
theorem dX6_valley_57 : decode cX6_valley 57 = .ok (.ireturn, 1) := by decide +kernel
theorem dX6_takes_0 : decode cX6_takes 0 = .ok (.iconst 0, 1) := by decide +kernel
theorem dX6_takes_1 : decode cX6_takes 1 = .ok (.istore_n 1, 1) := by decide +kernel
theorem dX6_takes_2 : decode cX6_takes 2 = .ok (.iload_n 1, 1) := by decide +kernel
theorem dX6_takes_3 : decode cX6_takes 3 = .ok (.bipush 79, 2) := by decide +kernel
theorem dX6_takes_5 : decode cX6_takes 5 = .ok (.if_icmp .ge 21, 3) := by decide +kernel
theorem dX6_takes_8 : decode cX6_takes 8 = .ok (.aload_n 0, 1) := by decide +kernel
theorem dX6_takes_9 : decode cX6_takes 9 = .ok (.getfield 16, 3) := by decide +kernel
theorem dX6_takes_12 : decode cX6_takes 12 = .ok (.iload_n 1, 1) := by decide +kernel
theorem dX6_takes_13 : decode cX6_takes 13 = .ok (.aload_n 0, 1) := by decide +kernel
theorem dX6_takes_14 : decode cX6_takes 14 = .ok (.getfield 13, 3) := by decide +kernel
theorem dX6_takes_17 : decode cX6_takes 17 = .ok (.iload_n 1, 1) := by decide +kernel
theorem dX6_takes_18 : decode cX6_takes 18 = .ok (.iaload, 1) := by decide +kernel
theorem dX6_takes_19 : decode cX6_takes 19 = .ok (.iastore, 1) := by decide +kernel
theorem dX6_takes_20 : decode cX6_takes 20 = .ok (.iinc 1 1, 3) := by decide +kernel
theorem dX6_takes_23 : decode cX6_takes 23 = .ok (.goto (-21), 3) := by decide +kernel
theorem dX6_takes_26 : decode cX6_takes 26 = .ok (.iconst 0, 1) := by decide +kernel
theorem dX6_takes_27 : decode cX6_takes 27 = .ok (.istore_n 1, 1) := by decide +kernel
theorem dX6_takes_28 : decode cX6_takes 28 = .ok (.iload_n 1, 1) := by decide +kernel
theorem dX6_takes_29 : decode cX6_takes 29 = .ok (.bipush 15, 2) := by decide +kernel
theorem dX6_takes_31 : decode cX6_takes 31 = .ok (.if_icmp .ge 16, 3) := by decide +kernel
theorem dX6_takes_34 : decode cX6_takes 34 = .ok (.aload_n 0, 1) := by decide +kernel
theorem dX6_takes_35 : decode cX6_takes 35 = .ok (.getfield 19, 3) := by decide +kernel
theorem dX6_takes_38 : decode cX6_takes 38 = .ok (.iload_n 1, 1) := by decide +kernel
theorem dX6_takes_39 : decode cX6_takes 39 = .ok (.iconst 0, 1) := by decide +kernel
theorem dX6_takes_40 : decode cX6_takes 40 = .ok (.iastore, 1) := by decide +kernel
theorem dX6_takes_41 : decode cX6_takes 41 = .ok (.iinc 1 1, 3) := by decide +kernel
theorem dX6_takes_44 : decode cX6_takes 44 = .ok (.goto (-16), 3) := by decide +kernel
theorem dX6_takes_47 : decode cX6_takes 47 = .ok (.aload_n 0, 1) := by decide +kernel
theorem dX6_takes_48 : decode cX6_takes 48 = .ok (.iconst 0, 1) := by decide +kernel
theorem dX6_takes_49 : decode cX6_takes 49 = .ok (.putfield 110, 3) := by decide +kernel
theorem dX6_takes_52 : decode cX6_takes 52 = .ok (.aload_n 0, 1) := by decide +kernel
theorem dX6_takes_53 : decode cX6_takes 53 = .ok (.iconst 0, 1) := by decide +kernel
theorem dX6_takes_54 : decode cX6_takes 54 = .ok (.putfield 113, 3) := by decide +kernel
theorem dX6_takes_57 : decode cX6_takes 57 = .ok (.aload_n 0, 1) := by decide +kernel
theorem dX6_takes_58 : decode cX6_takes 58 = .ok (.getfield 34, 3) := by decide +kernel
theorem dX6_takes_61 : decode cX6_takes 61 = .ok (.iconst 0, 1) := by decide +kernel
theorem dX6_takes_62 : decode cX6_takes 62 = .ok (.iconst 0, 1) := by decide +kernel
theorem dX6_takes_63 : decode cX6_takes 63 = .ok (.iastore, 1) := by decide +kernel
theorem dX6_takes_64 : decode cX6_takes 64 = .ok (.aload_n 0, 1) := by decide +kernel
theorem dX6_takes_65 : decode cX6_takes 65 = .ok (.getfield 34, 3) := by decide +kernel
theorem dX6_takes_68 : decode cX6_takes 68 = .ok (.sipush 167, 3) := by decide +kernel
theorem dX6_takes_71 : decode cX6_takes 71 = .ok (.iconst 0, 1) := by decide +kernel
theorem dX6_takes_72 : decode cX6_takes 72 = .ok (.iastore, 1) := by decide +kernel
theorem dX6_takes_73 : decode cX6_takes 73 = .ok (.return_, 1) := by decide +kernel
theorem dX6_days_0 : decode cX6_days 0 = .ok (.aload_n 0, 1) := by decide +kernel
theorem dX6_days_1 : decode cX6_days 1 = .ok (.getfield 16, 3) := by decide +kernel
theorem dX6_days_4 : decode cX6_days 4 = .ok (.iconst 0, 1) := by decide +kernel
theorem dX6_days_5 : decode cX6_days 5 = .ok (.iaload, 1) := by decide +kernel
theorem dX6_days_6 : decode cX6_days 6 = .ok (.ireturn, 1) := by decide +kernel
theorem dX6_isDay_0 : decode cX6_isDay 0 = .ok (.iload_n 1, 1) := by decide +kernel
theorem dX6_isDay_1 : decode cX6_isDay 1 = .ok (.i2l, 1) := by decide +kernel
theorem dX6_isDay_2 : decode cX6_isDay 2 = .ok (.lconst 0, 1) := by decide +kernel
theorem dX6_isDay_3 : decode cX6_isDay 3 = .ok (.aload_n 0, 1) := by decide +kernel
theorem dX6_isDay_4 : decode cX6_isDay 4 = .ok (.invokevirtual 116, 3) := by decide +kernel
theorem dX6_isDay_7 : decode cX6_isDay 7 = .ok (.iconst 1, 1) := by decide +kernel
theorem dX6_isDay_8 : decode cX6_isDay 8 = .ok (.isub, 1) := by decide +kernel
theorem dX6_isDay_9 : decode cX6_isDay 9 = .ok (.i2l, 1) := by decide +kernel
theorem dX6_isDay_10 : decode cX6_isDay 10 = .ok (.invokestatic 45, 3) := by decide +kernel
theorem dX6_isDay_13 : decode cX6_isDay 13 = .ok (.ireturn, 1) := by decide +kernel
theorem dX6_isCrop_0 : decode cX6_isCrop 0 = .ok (.iload_n 1, 1) := by decide +kernel
theorem dX6_isCrop_1 : decode cX6_isCrop 1 = .ok (.i2l, 1) := by decide +kernel
theorem dX6_isCrop_2 : decode cX6_isCrop 2 = .ok (.lconst 0, 1) := by decide +kernel
theorem dX6_isCrop_3 : decode cX6_isCrop 3 = .ok (.aload_n 0, 1) := by decide +kernel
theorem dX6_isCrop_4 : decode cX6_isCrop 4 = .ok (.getfield 16, 3) := by decide +kernel
theorem dX6_isCrop_7 : decode cX6_isCrop 7 = .ok (.iconst 2, 1) := by decide +kernel
theorem dX6_isCrop_8 : decode cX6_isCrop 8 = .ok (.iaload, 1) := by decide +kernel
theorem dX6_isCrop_9 : decode cX6_isCrop 9 = .ok (.iconst 1, 1) := by decide +kernel
theorem dX6_isCrop_10 : decode cX6_isCrop 10 = .ok (.isub, 1) := by decide +kernel
theorem dX6_isCrop_11 : decode cX6_isCrop 11 = .ok (.i2l, 1) := by decide +kernel
theorem dX6_isCrop_12 : decode cX6_isCrop 12 = .ok (.invokestatic 45, 3) := by decide +kernel
theorem dX6_isCrop_15 : decode cX6_isCrop 15 = .ok (.ireturn, 1) := by decide +kernel
theorem dX6_isLoan_0 : decode cX6_isLoan 0 = .ok (.iload_n 0, 1) := by decide +kernel
theorem dX6_isLoan_1 : decode cX6_isLoan 1 = .ok (.i2l, 1) := by decide +kernel
theorem dX6_isLoan_2 : decode cX6_isLoan 2 = .ok (.lconst 0, 1) := by decide +kernel
theorem dX6_isLoan_3 : decode cX6_isLoan 3 = .ok (.ldc2_w 120, 3) := by decide +kernel
theorem dX6_isLoan_6 : decode cX6_isLoan 6 = .ok (.invokestatic 45, 3) := by decide +kernel
theorem dX6_isLoan_9 : decode cX6_isLoan 9 = .ok (.ireturn, 1) := by decide +kernel
theorem dX6_loanDays_0 : decode cX6_loanDays 0 = .ok (.aload_n 0, 1) := by decide +kernel
theorem dX6_loanDays_1 : decode cX6_loanDays 1 = .ok (.getfield 19, 3) := by decide +kernel
theorem dX6_loanDays_4 : decode cX6_loanDays 4 = .ok (.iconst 3, 1) := by decide +kernel
theorem dX6_loanDays_5 : decode cX6_loanDays 5 = .ok (.iconst 3, 1) := by decide +kernel
theorem dX6_loanDays_6 : decode cX6_loanDays 6 = .ok (.iload_n 1, 1) := by decide +kernel
theorem dX6_loanDays_7 : decode cX6_loanDays 7 = .ok (.imul, 1) := by decide +kernel
theorem dX6_loanDays_8 : decode cX6_loanDays 8 = .ok (.iadd, 1) := by decide +kernel
theorem dX6_loanDays_9 : decode cX6_loanDays 9 = .ok (.iaload, 1) := by decide +kernel
theorem dX6_loanDays_10 : decode cX6_loanDays 10 = .ok (.ireturn, 1) := by decide +kernel
theorem dX6_lent_0 : decode cX6_lent 0 = .ok (.aload_n 0, 1) := by decide +kernel
theorem dX6_lent_1 : decode cX6_lent 1 = .ok (.getfield 19, 3) := by decide +kernel
theorem dX6_lent_4 : decode cX6_lent 4 = .ok (.iconst 3, 1) := by decide +kernel
theorem dX6_lent_5 : decode cX6_lent 5 = .ok (.iconst 3, 1) := by decide +kernel
theorem dX6_lent_6 : decode cX6_lent 6 = .ok (.iload_n 1, 1) := by decide +kernel
theorem dX6_lent_7 : decode cX6_lent 7 = .ok (.imul, 1) := by decide +kernel
theorem dX6_lent_8 : decode cX6_lent 8 = .ok (.iadd, 1) := by decide +kernel
theorem dX6_lent_9 : decode cX6_lent 9 = .ok (.iconst 1, 1) := by decide +kernel
theorem dX6_lent_10 : decode cX6_lent 10 = .ok (.iadd, 1) := by decide +kernel
theorem dX6_lent_11 : decode cX6_lent 11 = .ok (.iaload, 1) := by decide +kernel
theorem dX6_lent_12 : decode cX6_lent 12 = .ok (.ireturn, 1) := by decide +kernel
theorem dX6_out_0 : decode cX6_out 0 = .ok (.aload_n 0, 1) := by decide +kernel
theorem dX6_out_1 : decode cX6_out 1 = .ok (.iconst 0, 1) := by decide +kernel
theorem dX6_out_2 : decode cX6_out 2 = .ok (.invokevirtual 122, 3) := by decide +kernel
theorem dX6_out_5 : decode cX6_out 5 = .ok (.aload_n 0, 1) := by decide +kernel
theorem dX6_out_6 : decode cX6_out 6 = .ok (.iconst 1, 1) := by decide +kernel
theorem dX6_out_7 : decode cX6_out 7 = .ok (.invokevirtual 122, 3) := by decide +kernel
theorem dX6_out_10 : decode cX6_out 10 = .ok (.ior, 1) := by decide +kernel
theorem dX6_out_11 : decode cX6_out 11 = .ok (.aload_n 0, 1) := by decide +kernel
theorem dX6_out_12 : decode cX6_out 12 = .ok (.iconst 2, 1) := by decide +kernel
theorem dX6_out_13 : decode cX6_out 13 = .ok (.invokevirtual 122, 3) := by decide +kernel
theorem dX6_out_16 : decode cX6_out 16 = .ok (.ior, 1) := by decide +kernel
theorem dX6_out_17 : decode cX6_out 17 = .ok (.aload_n 0, 1) := by decide +kernel
theorem dX6_out_18 : decode cX6_out 18 = .ok (.iconst 3, 1) := by decide +kernel
theorem dX6_out_19 : decode cX6_out 19 = .ok (.invokevirtual 122, 3) := by decide +kernel
theorem dX6_out_22 : decode cX6_out 22 = .ok (.ior, 1) := by decide +kernel
theorem dX6_out_23 : decode cX6_out 23 = .ok (.ireturn, 1) := by decide +kernel
theorem dX6_notIn_0 : decode cX6_notIn 0 = .ok (.aload_n 0, 1) := by decide +kernel
theorem dX6_notIn_1 : decode cX6_notIn 1 = .ok (.invokevirtual 126, 3) := by decide +kernel
theorem dX6_notIn_4 : decode cX6_notIn 4 = .ok (.aload_n 0, 1) := by decide +kernel
theorem dX6_notIn_5 : decode cX6_notIn 5 = .ok (.getfield 19, 3) := by decide +kernel
theorem dX6_notIn_8 : decode cX6_notIn 8 = .ok (.iconst 2, 1) := by decide +kernel
theorem dX6_notIn_9 : decode cX6_notIn 9 = .ok (.iaload, 1) := by decide +kernel
theorem dX6_notIn_10 : decode cX6_notIn 10 = .ok (.ior, 1) := by decide +kernel
theorem dX6_notIn_11 : decode cX6_notIn 11 = .ok (.ireturn, 1) := by decide +kernel
theorem dX6_ripens_0 : decode cX6_ripens 0 = .ok (.aload_n 0, 1) := by decide +kernel
theorem dX6_ripens_1 : decode cX6_ripens 1 = .ok (.getfield 16, 3) := by decide +kernel
theorem dX6_ripens_4 : decode cX6_ripens 4 = .ok (.bipush 67, 2) := by decide +kernel
theorem dX6_ripens_6 : decode cX6_ripens 6 = .ok (.iconst 3, 1) := by decide +kernel
theorem dX6_ripens_7 : decode cX6_ripens 7 = .ok (.iload_n 1, 1) := by decide +kernel
theorem dX6_ripens_8 : decode cX6_ripens 8 = .ok (.imul, 1) := by decide +kernel
theorem dX6_ripens_9 : decode cX6_ripens 9 = .ok (.iadd, 1) := by decide +kernel
theorem dX6_ripens_10 : decode cX6_ripens 10 = .ok (.iaload, 1) := by decide +kernel
theorem dX6_ripens_11 : decode cX6_ripens 11 = .ok (.istore_n 3, 1) := by decide +kernel
theorem dX6_ripens_12 : decode cX6_ripens 12 = .ok (.aload_n 0, 1) := by decide +kernel
theorem dX6_ripens_13 : decode cX6_ripens 13 = .ok (.getfield 16, 3) := by decide +kernel
theorem dX6_ripens_16 : decode cX6_ripens 16 = .ok (.bipush 67, 2) := by decide +kernel
theorem dX6_ripens_18 : decode cX6_ripens 18 = .ok (.iconst 3, 1) := by decide +kernel
theorem dX6_ripens_19 : decode cX6_ripens 19 = .ok (.iload_n 1, 1) := by decide +kernel
theorem dX6_ripens_20 : decode cX6_ripens 20 = .ok (.imul, 1) := by decide +kernel
theorem dX6_ripens_21 : decode cX6_ripens 21 = .ok (.iadd, 1) := by decide +kernel
theorem dX6_ripens_22 : decode cX6_ripens 22 = .ok (.iconst 1, 1) := by decide +kernel
theorem dX6_ripens_23 : decode cX6_ripens 23 = .ok (.iadd, 1) := by decide +kernel
theorem dX6_ripens_24 : decode cX6_ripens 24 = .ok (.iaload, 1) := by decide +kernel
theorem dX6_ripens_25 : decode cX6_ripens 25 = .ok (.istore 4, 2) := by decide +kernel
theorem dX6_ripens_27 : decode cX6_ripens 27 = .ok (.iconst 0, 1) := by decide +kernel
theorem dX6_ripens_28 : decode cX6_ripens 28 = .ok (.istore 5, 2) := by decide +kernel
theorem dX6_ripens_30 : decode cX6_ripens 30 = .ok (.iconst 0, 1) := by decide +kernel
theorem dX6_ripens_31 : decode cX6_ripens 31 = .ok (.istore 6, 2) := by decide +kernel
theorem dX6_ripens_33 : decode cX6_ripens 33 = .ok (.iload 6, 2) := by decide +kernel
theorem dX6_ripens_35 : decode cX6_ripens 35 = .ok (.aload_n 0, 1) := by decide +kernel
theorem dX6_ripens_36 : decode cX6_ripens 36 = .ok (.invokevirtual 116, 3) := by decide +kernel
theorem dX6_ripens_39 : decode cX6_ripens 39 = .ok (.if_icmp .ge 52, 3) := by decide +kernel
theorem dX6_ripens_42 : decode cX6_ripens 42 = .ok (.iload_n 2, 1) := by decide +kernel
theorem dX6_ripens_43 : decode cX6_ripens 43 = .ok (.iload 6, 2) := by decide +kernel
theorem dX6_ripens_45 : decode cX6_ripens 45 = .ok (.ishr, 1) := by decide +kernel
theorem dX6_ripens_46 : decode cX6_ripens 46 = .ok (.iconst 1, 1) := by decide +kernel
theorem dX6_ripens_47 : decode cX6_ripens 47 = .ok (.iand, 1) := by decide +kernel
theorem dX6_ripens_48 : decode cX6_ripens 48 = .ok (.ifCond .ne 37, 3) := by decide +kernel
theorem dX6_ripens_51 : decode cX6_ripens 51 = .ok (.aload_n 0, 1) := by decide +kernel
theorem dX6_ripens_52 : decode cX6_ripens 52 = .ok (.getfield 16, 3) := by decide +kernel
theorem dX6_ripens_55 : decode cX6_ripens 55 = .ok (.bipush 7, 2) := by decide +kernel
theorem dX6_ripens_57 : decode cX6_ripens 57 = .ok (.iload 6, 2) := by decide +kernel
theorem dX6_ripens_59 : decode cX6_ripens 59 = .ok (.iadd, 1) := by decide +kernel
theorem dX6_ripens_60 : decode cX6_ripens 60 = .ok (.iaload, 1) := by decide +kernel
theorem dX6_ripens_61 : decode cX6_ripens 61 = .ok (.iload 4, 2) := by decide +kernel
theorem dX6_ripens_63 : decode cX6_ripens 63 = .ok (.if_icmp .ge 7, 3) := by decide +kernel
theorem dX6_ripens_66 : decode cX6_ripens 66 = .ok (.iconst 0, 1) := by decide +kernel
theorem dX6_ripens_67 : decode cX6_ripens 67 = .ok (.goto 7, 3) := by decide +kernel
theorem dX6_ripens_70 : decode cX6_ripens 70 = .ok (.iload 5, 2) := by decide +kernel
theorem dX6_ripens_72 : decode cX6_ripens 72 = .ok (.iconst 1, 1) := by decide +kernel
theorem dX6_ripens_73 : decode cX6_ripens 73 = .ok (.iadd, 1) := by decide +kernel
theorem dX6_ripens_74 : decode cX6_ripens 74 = .ok (.istore 5, 2) := by decide +kernel
theorem dX6_ripens_76 : decode cX6_ripens 76 = .ok (.iload 5, 2) := by decide +kernel
theorem dX6_ripens_78 : decode cX6_ripens 78 = .ok (.iload_n 3, 1) := by decide +kernel
theorem dX6_ripens_79 : decode cX6_ripens 79 = .ok (.if_icmp .ne 6, 3) := by decide +kernel
theorem dX6_ripens_82 : decode cX6_ripens 82 = .ok (.iload 6, 2) := by decide +kernel
theorem dX6_ripens_84 : decode cX6_ripens 84 = .ok (.ireturn, 1) := by decide +kernel
theorem dX6_ripens_85 : decode cX6_ripens 85 = .ok (.iinc 6 1, 3) := by decide +kernel
theorem dX6_ripens_88 : decode cX6_ripens 88 = .ok (.goto (-55), 3) := by decide +kernel
theorem dX6_ripens_91 : decode cX6_ripens 91 = .ok (.bipush (-9), 2) := by decide +kernel
theorem dX6_ripens_93 : decode cX6_ripens 93 = .ok (.ireturn, 1) := by decide +kernel
theorem dX6_worth_0 : decode cX6_worth 0 = .ok (.aload_n 0, 1) := by decide +kernel
theorem dX6_worth_1 : decode cX6_worth 1 = .ok (.getfield 16, 3) := by decide +kernel
theorem dX6_worth_4 : decode cX6_worth 4 = .ok (.bipush 67, 2) := by decide +kernel
theorem dX6_worth_6 : decode cX6_worth 6 = .ok (.iconst 3, 1) := by decide +kernel
theorem dX6_worth_7 : decode cX6_worth 7 = .ok (.iload_n 1, 1) := by decide +kernel
theorem dX6_worth_8 : decode cX6_worth 8 = .ok (.imul, 1) := by decide +kernel
theorem dX6_worth_9 : decode cX6_worth 9 = .ok (.iadd, 1) := by decide +kernel
theorem dX6_worth_10 : decode cX6_worth 10 = .ok (.iconst 2, 1) := by decide +kernel
theorem dX6_worth_11 : decode cX6_worth 11 = .ok (.iadd, 1) := by decide +kernel
theorem dX6_worth_12 : decode cX6_worth 12 = .ok (.iaload, 1) := by decide +kernel
theorem dX6_worth_13 : decode cX6_worth 13 = .ok (.ireturn, 1) := by decide +kernel
theorem dX6_harvest_0 : decode cX6_harvest 0 = .ok (.iconst 0, 1) := by decide +kernel
theorem dX6_harvest_1 : decode cX6_harvest 1 = .ok (.istore_n 2, 1) := by decide +kernel
theorem dX6_harvest_2 : decode cX6_harvest 2 = .ok (.iconst 0, 1) := by decide +kernel
theorem dX6_harvest_3 : decode cX6_harvest 3 = .ok (.istore_n 3, 1) := by decide +kernel
theorem dX6_harvest_4 : decode cX6_harvest 4 = .ok (.iload_n 3, 1) := by decide +kernel
theorem dX6_harvest_5 : decode cX6_harvest 5 = .ok (.aload_n 0, 1) := by decide +kernel
theorem dX6_harvest_6 : decode cX6_harvest 6 = .ok (.getfield 16, 3) := by decide +kernel
theorem dX6_harvest_9 : decode cX6_harvest 9 = .ok (.iconst 2, 1) := by decide +kernel
theorem dX6_harvest_10 : decode cX6_harvest 10 = .ok (.iaload, 1) := by decide +kernel
theorem dX6_harvest_11 : decode cX6_harvest 11 = .ok (.if_icmp .ge 32, 3) := by decide +kernel
theorem dX6_harvest_14 : decode cX6_harvest 14 = .ok (.iload_n 2, 1) := by decide +kernel
theorem dX6_harvest_15 : decode cX6_harvest 15 = .ok (.aload_n 0, 1) := by decide +kernel
theorem dX6_harvest_16 : decode cX6_harvest 16 = .ok (.iload_n 3, 1) := by decide +kernel
theorem dX6_harvest_17 : decode cX6_harvest 17 = .ok (.iload_n 1, 1) := by decide +kernel
theorem dX6_harvest_18 : decode cX6_harvest 18 = .ok (.invokevirtual 129, 3) := by decide +kernel
theorem dX6_harvest_21 : decode cX6_harvest 21 = .ok (.bipush (-9), 2) := by decide +kernel
theorem dX6_harvest_23 : decode cX6_harvest 23 = .ok (.if_icmp .ne 7, 3) := by decide +kernel
theorem dX6_harvest_26 : decode cX6_harvest 26 = .ok (.iconst 0, 1) := by decide +kernel
theorem dX6_harvest_27 : decode cX6_harvest 27 = .ok (.goto 8, 3) := by decide +kernel
theorem dX6_harvest_30 : decode cX6_harvest 30 = .ok (.aload_n 0, 1) := by decide +kernel
theorem dX6_harvest_31 : decode cX6_harvest 31 = .ok (.iload_n 3, 1) := by decide +kernel
theorem dX6_harvest_32 : decode cX6_harvest 32 = .ok (.invokevirtual 133, 3) := by decide +kernel
theorem dX6_harvest_35 : decode cX6_harvest 35 = .ok (.iadd, 1) := by decide +kernel
theorem dX6_harvest_36 : decode cX6_harvest 36 = .ok (.istore_n 2, 1) := by decide +kernel
theorem dX6_harvest_37 : decode cX6_harvest 37 = .ok (.iinc 3 1, 3) := by decide +kernel
theorem dX6_harvest_40 : decode cX6_harvest 40 = .ok (.goto (-36), 3) := by decide +kernel
theorem dX6_harvest_43 : decode cX6_harvest 43 = .ok (.iload_n 2, 1) := by decide +kernel
theorem dX6_harvest_44 : decode cX6_harvest 44 = .ok (.ireturn, 1) := by decide +kernel
theorem dX6_day_0 : decode cX6_day 0 = .ok (.aload_n 0, 1) := by decide +kernel
theorem dX6_day_1 : decode cX6_day 1 = .ok (.iload_n 1, 1) := by decide +kernel
theorem dX6_day_2 : decode cX6_day 2 = .ok (.invokevirtual 136, 3) := by decide +kernel
theorem dX6_day_5 : decode cX6_day 5 = .ok (.ifCond .eq 15, 3) := by decide +kernel
theorem dX6_day_8 : decode cX6_day 8 = .ok (.iload_n 2, 1) := by decide +kernel
theorem dX6_day_9 : decode cX6_day 9 = .ok (.i2l, 1) := by decide +kernel
theorem dX6_day_10 : decode cX6_day 10 = .ok (.lconst 0, 1) := by decide +kernel
theorem dX6_day_11 : decode cX6_day 11 = .ok (.ldc2_w 120, 3) := by decide +kernel
theorem dX6_day_14 : decode cX6_day 14 = .ok (.invokestatic 45, 3) := by decide +kernel
theorem dX6_day_17 : decode cX6_day 17 = .ok (.ifCond .ne 5, 3) := by decide +kernel
theorem dX6_day_20 : decode cX6_day 20 = .ok (.iconst (-1), 1) := by decide +kernel
theorem dX6_day_21 : decode cX6_day 21 = .ok (.ireturn, 1) := by decide +kernel
theorem dX6_day_22 : decode cX6_day 22 = .ok (.bipush (-9), 2) := by decide +kernel
theorem dX6_day_24 : decode cX6_day 24 = .ok (.istore_n 3, 1) := by decide +kernel
theorem dX6_day_25 : decode cX6_day 25 = .ok (.iconst 0, 1) := by decide +kernel
theorem dX6_day_26 : decode cX6_day 26 = .ok (.istore 4, 2) := by decide +kernel
theorem dX6_day_28 : decode cX6_day 28 = .ok (.iload 4, 2) := by decide +kernel
theorem dX6_day_30 : decode cX6_day 30 = .ok (.iconst 4, 1) := by decide +kernel
theorem dX6_day_31 : decode cX6_day 31 = .ok (.if_icmp .ge 30, 3) := by decide +kernel
theorem dX6_day_34 : decode cX6_day 34 = .ok (.aload_n 0, 1) := by decide +kernel
theorem dX6_day_35 : decode cX6_day 35 = .ok (.iload 4, 2) := by decide +kernel
theorem dX6_day_37 : decode cX6_day 37 = .ok (.invokevirtual 122, 3) := by decide +kernel
theorem dX6_day_40 : decode cX6_day 40 = .ok (.iload_n 1, 1) := by decide +kernel
theorem dX6_day_41 : decode cX6_day 41 = .ok (.ishr, 1) := by decide +kernel
theorem dX6_day_42 : decode cX6_day 42 = .ok (.iconst 1, 1) := by decide +kernel
theorem dX6_day_43 : decode cX6_day 43 = .ok (.iand, 1) := by decide +kernel
theorem dX6_day_44 : decode cX6_day 44 = .ok (.iconst 1, 1) := by decide +kernel
theorem dX6_day_45 : decode cX6_day 45 = .ok (.if_icmp .ne 8, 3) := by decide +kernel
theorem dX6_day_48 : decode cX6_day 48 = .ok (.iload 4, 2) := by decide +kernel
theorem dX6_day_50 : decode cX6_day 50 = .ok (.goto 4, 3) := by decide +kernel
theorem dX6_day_53 : decode cX6_day 53 = .ok (.iload_n 3, 1) := by decide +kernel
theorem dX6_day_54 : decode cX6_day 54 = .ok (.istore_n 3, 1) := by decide +kernel
theorem dX6_day_55 : decode cX6_day 55 = .ok (.iinc 4 1, 3) := by decide +kernel
theorem dX6_day_58 : decode cX6_day 58 = .ok (.goto (-30), 3) := by decide +kernel
theorem dX6_day_61 : decode cX6_day 61 = .ok (.aload_n 0, 1) := by decide +kernel
theorem dX6_day_62 : decode cX6_day 62 = .ok (.getfield 19, 3) := by decide +kernel
theorem dX6_day_65 : decode cX6_day 65 = .ok (.iconst 2, 1) := by decide +kernel
theorem dX6_day_66 : decode cX6_day 66 = .ok (.iaload, 1) := by decide +kernel
theorem dX6_day_67 : decode cX6_day 67 = .ok (.iload_n 1, 1) := by decide +kernel
theorem dX6_day_68 : decode cX6_day 68 = .ok (.ishr, 1) := by decide +kernel
theorem dX6_day_69 : decode cX6_day 69 = .ok (.iconst 1, 1) := by decide +kernel
theorem dX6_day_70 : decode cX6_day 70 = .ok (.iand, 1) := by decide +kernel
theorem dX6_day_71 : decode cX6_day 71 = .ok (.iconst 1, 1) := by decide +kernel
theorem dX6_day_72 : decode cX6_day 72 = .ok (.if_icmp .ne 7, 3) := by decide +kernel
theorem dX6_day_75 : decode cX6_day 75 = .ok (.iconst 1, 1) := by decide +kernel
theorem dX6_day_76 : decode cX6_day 76 = .ok (.goto 4, 3) := by decide +kernel
theorem dX6_day_79 : decode cX6_day 79 = .ok (.iconst 0, 1) := by decide +kernel
theorem dX6_day_80 : decode cX6_day 80 = .ok (.istore 4, 2) := by decide +kernel
theorem dX6_day_82 : decode cX6_day 82 = .ok (.iload_n 2, 1) := by decide +kernel
theorem dX6_day_83 : decode cX6_day 83 = .ok (.ifCond .ne 15, 3) := by decide +kernel
theorem dX6_day_86 : decode cX6_day 86 = .ok (.aload_n 0, 1) := by decide +kernel
theorem dX6_day_87 : decode cX6_day 87 = .ok (.getfield 16, 3) := by decide +kernel
theorem dX6_day_90 : decode cX6_day 90 = .ok (.bipush 37, 2) := by decide +kernel
theorem dX6_day_92 : decode cX6_day 92 = .ok (.iload_n 1, 1) := by decide +kernel
theorem dX6_day_93 : decode cX6_day 93 = .ok (.iadd, 1) := by decide +kernel
theorem dX6_day_94 : decode cX6_day 94 = .ok (.iaload, 1) := by decide +kernel
theorem dX6_day_95 : decode cX6_day 95 = .ok (.goto 49, 3) := by decide +kernel
theorem dX6_day_98 : decode cX6_day 98 = .ok (.iload_n 2, 1) := by decide +kernel
theorem dX6_day_99 : decode cX6_day 99 = .ok (.iconst 1, 1) := by decide +kernel
theorem dX6_day_100 : decode cX6_day 100 = .ok (.if_icmp .ne 15, 3) := by decide +kernel
theorem dX6_day_103 : decode cX6_day 103 = .ok (.aload_n 0, 1) := by decide +kernel
theorem dX6_day_104 : decode cX6_day 104 = .ok (.getfield 16, 3) := by decide +kernel
theorem dX6_day_107 : decode cX6_day 107 = .ok (.bipush 7, 2) := by decide +kernel
theorem dX6_day_109 : decode cX6_day 109 = .ok (.iload_n 1, 1) := by decide +kernel
theorem dX6_day_110 : decode cX6_day 110 = .ok (.iadd, 1) := by decide +kernel
theorem dX6_day_111 : decode cX6_day 111 = .ok (.iaload, 1) := by decide +kernel
theorem dX6_day_112 : decode cX6_day 112 = .ok (.goto 32, 3) := by decide +kernel
theorem dX6_day_115 : decode cX6_day 115 = .ok (.iload_n 2, 1) := by decide +kernel
theorem dX6_day_116 : decode cX6_day 116 = .ok (.iconst 2, 1) := by decide +kernel
theorem dX6_day_117 : decode cX6_day 117 = .ok (.if_icmp .ne 26, 3) := by decide +kernel
theorem dX6_day_120 : decode cX6_day 120 = .ok (.iload_n 3, 1) := by decide +kernel
theorem dX6_day_121 : decode cX6_day 121 = .ok (.bipush (-9), 2) := by decide +kernel
theorem dX6_day_123 : decode cX6_day 123 = .ok (.if_icmp .eq 7, 3) := by decide +kernel
theorem dX6_day_126 : decode cX6_day 126 = .ok (.iconst 1, 1) := by decide +kernel
theorem dX6_day_127 : decode cX6_day 127 = .ok (.goto 17, 3) := by decide +kernel
theorem dX6_day_130 : decode cX6_day 130 = .ok (.iload 4, 2) := by decide +kernel
theorem dX6_day_132 : decode cX6_day 132 = .ok (.ifCond .eq 7, 3) := by decide +kernel
theorem dX6_day_135 : decode cX6_day 135 = .ok (.iconst 2, 1) := by decide +kernel
theorem dX6_day_136 : decode cX6_day 136 = .ok (.goto 8, 3) := by decide +kernel
theorem dX6_day_139 : decode cX6_day 139 = .ok (.iconst 0, 1) := by decide +kernel
theorem dX6_day_140 : decode cX6_day 140 = .ok (.goto 4, 3) := by decide +kernel
theorem dX6_day_143 : decode cX6_day 143 = .ok (.iload_n 3, 1) := by decide +kernel
theorem dX6_day_144 : decode cX6_day 144 = .ok (.ireturn, 1) := by decide +kernel
theorem dX6_crop_0 : decode cX6_crop 0 = .ok (.aload_n 0, 1) := by decide +kernel
theorem dX6_crop_1 : decode cX6_crop 1 = .ok (.iload_n 1, 1) := by decide +kernel
theorem dX6_crop_2 : decode cX6_crop 2 = .ok (.invokevirtual 139, 3) := by decide +kernel
theorem dX6_crop_5 : decode cX6_crop 5 = .ok (.ifCond .eq 15, 3) := by decide +kernel
theorem dX6_crop_8 : decode cX6_crop 8 = .ok (.iload_n 2, 1) := by decide +kernel
theorem dX6_crop_9 : decode cX6_crop 9 = .ok (.i2l, 1) := by decide +kernel
theorem dX6_crop_10 : decode cX6_crop 10 = .ok (.lconst 0, 1) := by decide +kernel
theorem dX6_crop_11 : decode cX6_crop 11 = .ok (.ldc2_w 142, 3) := by decide +kernel
theorem dX6_crop_14 : decode cX6_crop 14 = .ok (.invokestatic 45, 3) := by decide +kernel
theorem dX6_crop_17 : decode cX6_crop 17 = .ok (.ifCond .ne 5, 3) := by decide +kernel
theorem dX6_crop_20 : decode cX6_crop 20 = .ok (.iconst (-1), 1) := by decide +kernel
theorem dX6_crop_21 : decode cX6_crop 21 = .ok (.ireturn, 1) := by decide +kernel
theorem dX6_crop_22 : decode cX6_crop 22 = .ok (.aload_n 0, 1) := by decide +kernel
theorem dX6_crop_23 : decode cX6_crop 23 = .ok (.iload_n 1, 1) := by decide +kernel
theorem dX6_crop_24 : decode cX6_crop 24 = .ok (.aload_n 0, 1) := by decide +kernel
theorem dX6_crop_25 : decode cX6_crop 25 = .ok (.invokevirtual 144, 3) := by decide +kernel
theorem dX6_crop_28 : decode cX6_crop 28 = .ok (.invokevirtual 129, 3) := by decide +kernel
theorem dX6_crop_31 : decode cX6_crop 31 = .ok (.istore_n 3, 1) := by decide +kernel
theorem dX6_crop_32 : decode cX6_crop 32 = .ok (.iload_n 2, 1) := by decide +kernel
theorem dX6_crop_33 : decode cX6_crop 33 = .ok (.iconst 3, 1) := by decide +kernel
theorem dX6_crop_34 : decode cX6_crop 34 = .ok (.if_icmp .ge 19, 3) := by decide +kernel
theorem dX6_crop_37 : decode cX6_crop 37 = .ok (.aload_n 0, 1) := by decide +kernel
theorem dX6_crop_38 : decode cX6_crop 38 = .ok (.getfield 16, 3) := by decide +kernel
theorem dX6_crop_41 : decode cX6_crop 41 = .ok (.bipush 67, 2) := by decide +kernel
theorem dX6_crop_43 : decode cX6_crop 43 = .ok (.iconst 3, 1) := by decide +kernel
theorem dX6_crop_44 : decode cX6_crop 44 = .ok (.iload_n 1, 1) := by decide +kernel
theorem dX6_crop_45 : decode cX6_crop 45 = .ok (.imul, 1) := by decide +kernel
theorem dX6_crop_46 : decode cX6_crop 46 = .ok (.iadd, 1) := by decide +kernel
theorem dX6_crop_47 : decode cX6_crop 47 = .ok (.iload_n 2, 1) := by decide +kernel
theorem dX6_crop_48 : decode cX6_crop 48 = .ok (.iadd, 1) := by decide +kernel
theorem dX6_crop_49 : decode cX6_crop 49 = .ok (.iaload, 1) := by decide +kernel
theorem dX6_crop_50 : decode cX6_crop 50 = .ok (.goto 23, 3) := by decide +kernel
theorem dX6_crop_53 : decode cX6_crop 53 = .ok (.iload_n 2, 1) := by decide +kernel
theorem dX6_crop_54 : decode cX6_crop 54 = .ok (.iconst 3, 1) := by decide +kernel
theorem dX6_crop_55 : decode cX6_crop 55 = .ok (.if_icmp .ne 17, 3) := by decide +kernel
theorem dX6_crop_58 : decode cX6_crop 58 = .ok (.iload_n 3, 1) := by decide +kernel
theorem dX6_crop_59 : decode cX6_crop 59 = .ok (.bipush (-9), 2) := by decide +kernel
theorem dX6_crop_61 : decode cX6_crop 61 = .ok (.if_icmp .ne 7, 3) := by decide +kernel
theorem dX6_crop_64 : decode cX6_crop 64 = .ok (.iconst 0, 1) := by decide +kernel
theorem dX6_crop_65 : decode cX6_crop 65 = .ok (.goto 8, 3) := by decide +kernel
theorem dX6_crop_68 : decode cX6_crop 68 = .ok (.iconst 1, 1) := by decide +kernel
theorem dX6_crop_69 : decode cX6_crop 69 = .ok (.goto 4, 3) := by decide +kernel
theorem dX6_crop_72 : decode cX6_crop 72 = .ok (.iload_n 3, 1) := by decide +kernel
theorem dX6_crop_73 : decode cX6_crop 73 = .ok (.ireturn, 1) := by decide +kernel
theorem dX6_loan_0 : decode cX6_loan 0 = .ok (.iload_n 1, 1) := by decide +kernel
theorem dX6_loan_1 : decode cX6_loan 1 = .ok (.invokestatic 147, 3) := by decide +kernel
theorem dX6_loan_4 : decode cX6_loan 4 = .ok (.ifCond .eq 15, 3) := by decide +kernel
theorem dX6_loan_7 : decode cX6_loan 7 = .ok (.iload_n 2, 1) := by decide +kernel
theorem dX6_loan_8 : decode cX6_loan 8 = .ok (.i2l, 1) := by decide +kernel
theorem dX6_loan_9 : decode cX6_loan 9 = .ok (.lconst 0, 1) := by decide +kernel
theorem dX6_loan_10 : decode cX6_loan 10 = .ok (.ldc2_w 150, 3) := by decide +kernel
theorem dX6_loan_13 : decode cX6_loan 13 = .ok (.invokestatic 45, 3) := by decide +kernel
theorem dX6_loan_16 : decode cX6_loan 16 = .ok (.ifCond .ne 5, 3) := by decide +kernel
theorem dX6_loan_19 : decode cX6_loan 19 = .ok (.iconst (-1), 1) := by decide +kernel
theorem dX6_loan_20 : decode cX6_loan 20 = .ok (.ireturn, 1) := by decide +kernel
theorem dX6_loan_21 : decode cX6_loan 21 = .ok (.aload_n 0, 1) := by decide +kernel
theorem dX6_loan_22 : decode cX6_loan 22 = .ok (.iload_n 1, 1) := by decide +kernel
theorem dX6_loan_23 : decode cX6_loan 23 = .ok (.invokevirtual 122, 3) := by decide +kernel
theorem dX6_loan_26 : decode cX6_loan 26 = .ok (.ifCond .ne 8, 3) := by decide +kernel
theorem dX6_loan_29 : decode cX6_loan 29 = .ok (.bipush (-9), 2) := by decide +kernel
theorem dX6_loan_31 : decode cX6_loan 31 = .ok (.goto 15, 3) := by decide +kernel
theorem dX6_loan_34 : decode cX6_loan 34 = .ok (.aload_n 0, 1) := by decide +kernel
theorem dX6_loan_35 : decode cX6_loan 35 = .ok (.getfield 19, 3) := by decide +kernel
theorem dX6_loan_38 : decode cX6_loan 38 = .ok (.iconst 3, 1) := by decide +kernel
theorem dX6_loan_39 : decode cX6_loan 39 = .ok (.iconst 3, 1) := by decide +kernel
theorem dX6_loan_40 : decode cX6_loan 40 = .ok (.iload_n 1, 1) := by decide +kernel
theorem dX6_loan_41 : decode cX6_loan 41 = .ok (.imul, 1) := by decide +kernel
theorem dX6_loan_42 : decode cX6_loan 42 = .ok (.iadd, 1) := by decide +kernel
theorem dX6_loan_43 : decode cX6_loan 43 = .ok (.iload_n 2, 1) := by decide +kernel
theorem dX6_loan_44 : decode cX6_loan 44 = .ok (.iadd, 1) := by decide +kernel
theorem dX6_loan_45 : decode cX6_loan 45 = .ok (.iaload, 1) := by decide +kernel
theorem dX6_loan_46 : decode cX6_loan 46 = .ok (.ireturn, 1) := by decide +kernel
theorem dX6_notes_0 : decode cX6_notes 0 = .ok (.aload_n 0, 1) := by decide +kernel
theorem dX6_notes_1 : decode cX6_notes 1 = .ok (.getfield 113, 3) := by decide +kernel
theorem dX6_notes_4 : decode cX6_notes 4 = .ok (.bipush 10, 2) := by decide +kernel
theorem dX6_notes_6 : decode cX6_notes 6 = .ok (.if_icmp .ne 40, 3) := by decide +kernel
theorem dX6_notes_9 : decode cX6_notes 9 = .ok (.bipush 15, 2) := by decide +kernel
theorem dX6_notes_11 : decode cX6_notes 11 = .ok (.istore_n 1, 1) := by decide +kernel
theorem dX6_notes_12 : decode cX6_notes 12 = .ok (.iload_n 1, 1) := by decide +kernel
theorem dX6_notes_13 : decode cX6_notes 13 = .ok (.sipush 150, 3) := by decide +kernel
theorem dX6_notes_16 : decode cX6_notes 16 = .ok (.if_icmp .ge 24, 3) := by decide +kernel
theorem dX6_notes_19 : decode cX6_notes 19 = .ok (.aload_n 0, 1) := by decide +kernel
theorem dX6_notes_20 : decode cX6_notes 20 = .ok (.getfield 22, 3) := by decide +kernel
theorem dX6_notes_23 : decode cX6_notes 23 = .ok (.iload_n 1, 1) := by decide +kernel
theorem dX6_notes_24 : decode cX6_notes 24 = .ok (.bipush 15, 2) := by decide +kernel
theorem dX6_notes_26 : decode cX6_notes 26 = .ok (.isub, 1) := by decide +kernel
theorem dX6_notes_27 : decode cX6_notes 27 = .ok (.aload_n 0, 1) := by decide +kernel
theorem dX6_notes_28 : decode cX6_notes 28 = .ok (.getfield 22, 3) := by decide +kernel
theorem dX6_notes_31 : decode cX6_notes 31 = .ok (.iload_n 1, 1) := by decide +kernel
theorem dX6_notes_32 : decode cX6_notes 32 = .ok (.iaload, 1) := by decide +kernel
theorem dX6_notes_33 : decode cX6_notes 33 = .ok (.iastore, 1) := by decide +kernel
theorem dX6_notes_34 : decode cX6_notes 34 = .ok (.iinc 1 1, 3) := by decide +kernel
theorem dX6_notes_37 : decode cX6_notes 37 = .ok (.goto (-25), 3) := by decide +kernel
theorem dX6_notes_40 : decode cX6_notes 40 = .ok (.aload_n 0, 1) := by decide +kernel
theorem dX6_notes_41 : decode cX6_notes 41 = .ok (.bipush 9, 2) := by decide +kernel
theorem dX6_notes_43 : decode cX6_notes 43 = .ok (.putfield 113, 3) := by decide +kernel
theorem dX6_notes_46 : decode cX6_notes 46 = .ok (.iconst 0, 1) := by decide +kernel
theorem dX6_notes_47 : decode cX6_notes 47 = .ok (.istore_n 1, 1) := by decide +kernel
theorem dX6_notes_48 : decode cX6_notes 48 = .ok (.iload_n 1, 1) := by decide +kernel
theorem dX6_notes_49 : decode cX6_notes 49 = .ok (.bipush 15, 2) := by decide +kernel
theorem dX6_notes_51 : decode cX6_notes 51 = .ok (.if_icmp .ge 29, 3) := by decide +kernel
theorem dX6_notes_54 : decode cX6_notes 54 = .ok (.aload_n 0, 1) := by decide +kernel
theorem dX6_notes_55 : decode cX6_notes 55 = .ok (.getfield 22, 3) := by decide +kernel
theorem dX6_notes_58 : decode cX6_notes 58 = .ok (.bipush 15, 2) := by decide +kernel
theorem dX6_notes_60 : decode cX6_notes 60 = .ok (.aload_n 0, 1) := by decide +kernel
theorem dX6_notes_61 : decode cX6_notes 61 = .ok (.getfield 113, 3) := by decide +kernel
theorem dX6_notes_64 : decode cX6_notes 64 = .ok (.imul, 1) := by decide +kernel
theorem dX6_notes_65 : decode cX6_notes 65 = .ok (.iload_n 1, 1) := by decide +kernel
theorem dX6_notes_66 : decode cX6_notes 66 = .ok (.iadd, 1) := by decide +kernel
theorem dX6_notes_67 : decode cX6_notes 67 = .ok (.aload_n 0, 1) := by decide +kernel
theorem dX6_notes_68 : decode cX6_notes 68 = .ok (.getfield 19, 3) := by decide +kernel
theorem dX6_notes_71 : decode cX6_notes 71 = .ok (.iload_n 1, 1) := by decide +kernel
theorem dX6_notes_72 : decode cX6_notes 72 = .ok (.iaload, 1) := by decide +kernel
theorem dX6_notes_73 : decode cX6_notes 73 = .ok (.iastore, 1) := by decide +kernel
theorem dX6_notes_74 : decode cX6_notes 74 = .ok (.iinc 1 1, 3) := by decide +kernel
theorem dX6_notes_77 : decode cX6_notes 77 = .ok (.goto (-29), 3) := by decide +kernel
theorem dX6_notes_80 : decode cX6_notes 80 = .ok (.aload_n 0, 1) := by decide +kernel
theorem dX6_notes_81 : decode cX6_notes 81 = .ok (.dup, 1) := by decide +kernel
theorem dX6_notes_82 : decode cX6_notes 82 = .ok (.getfield 113, 3) := by decide +kernel
theorem dX6_notes_85 : decode cX6_notes 85 = .ok (.iconst 1, 1) := by decide +kernel
theorem dX6_notes_86 : decode cX6_notes 86 = .ok (.iadd, 1) := by decide +kernel
theorem dX6_notes_87 : decode cX6_notes 87 = .ok (.putfield 113, 3) := by decide +kernel
theorem dX6_notes_90 : decode cX6_notes 90 = .ok (.return_, 1) := by decide +kernel
theorem dX6_row_0 : decode cX6_row 0 = .ok (.iconst 1, 1) := by decide +kernel
theorem dX6_row_1 : decode cX6_row 1 = .ok (.iload_n 1, 1) := by decide +kernel
theorem dX6_row_2 : decode cX6_row 2 = .ok (.ishl, 1) := by decide +kernel
theorem dX6_row_3 : decode cX6_row 3 = .ok (.iconst 1, 1) := by decide +kernel
theorem dX6_row_4 : decode cX6_row 4 = .ok (.isub, 1) := by decide +kernel
theorem dX6_row_5 : decode cX6_row 5 = .ok (.iload_n 0, 1) := by decide +kernel
theorem dX6_row_6 : decode cX6_row 6 = .ok (.ishl, 1) := by decide +kernel
theorem dX6_row_7 : decode cX6_row 7 = .ok (.ireturn, 1) := by decide +kernel
theorem dX6_lendsOf_0 : decode cX6_lendsOf 0 = .ok (.iconst 0, 1) := by decide +kernel
theorem dX6_lendsOf_1 : decode cX6_lendsOf 1 = .ok (.istore_n 3, 1) := by decide +kernel
theorem dX6_lendsOf_2 : decode cX6_lendsOf 2 = .ok (.iload_n 1, 1) := by decide +kernel
theorem dX6_lendsOf_3 : decode cX6_lendsOf 3 = .ok (.istore 4, 2) := by decide +kernel
theorem dX6_lendsOf_5 : decode cX6_lendsOf 5 = .ok (.iload 4, 2) := by decide +kernel
theorem dX6_lendsOf_7 : decode cX6_lendsOf 7 = .ok (.iload_n 1, 1) := by decide +kernel
theorem dX6_lendsOf_8 : decode cX6_lendsOf 8 = .ok (.iload_n 2, 1) := by decide +kernel
theorem dX6_lendsOf_9 : decode cX6_lendsOf 9 = .ok (.iadd, 1) := by decide +kernel
theorem dX6_lendsOf_10 : decode cX6_lendsOf 10 = .ok (.if_icmp .ge 31, 3) := by decide +kernel
theorem dX6_lendsOf_13 : decode cX6_lendsOf 13 = .ok (.iload 4, 2) := by decide +kernel
theorem dX6_lendsOf_15 : decode cX6_lendsOf 15 = .ok (.aload_n 0, 1) := by decide +kernel
theorem dX6_lendsOf_16 : decode cX6_lendsOf 16 = .ok (.invokevirtual 116, 3) := by decide +kernel
theorem dX6_lendsOf_19 : decode cX6_lendsOf 19 = .ok (.if_icmp .ge 22, 3) := by decide +kernel
theorem dX6_lendsOf_22 : decode cX6_lendsOf 22 = .ok (.iload_n 3, 1) := by decide +kernel
theorem dX6_lendsOf_23 : decode cX6_lendsOf 23 = .ok (.aload_n 0, 1) := by decide +kernel
theorem dX6_lendsOf_24 : decode cX6_lendsOf 24 = .ok (.getfield 16, 3) := by decide +kernel
theorem dX6_lendsOf_27 : decode cX6_lendsOf 27 = .ok (.bipush 7, 2) := by decide +kernel
theorem dX6_lendsOf_29 : decode cX6_lendsOf 29 = .ok (.iload 4, 2) := by decide +kernel
theorem dX6_lendsOf_31 : decode cX6_lendsOf 31 = .ok (.iadd, 1) := by decide +kernel
theorem dX6_lendsOf_32 : decode cX6_lendsOf 32 = .ok (.iaload, 1) := by decide +kernel
theorem dX6_lendsOf_33 : decode cX6_lendsOf 33 = .ok (.iadd, 1) := by decide +kernel
theorem dX6_lendsOf_34 : decode cX6_lendsOf 34 = .ok (.istore_n 3, 1) := by decide +kernel
theorem dX6_lendsOf_35 : decode cX6_lendsOf 35 = .ok (.iinc 4 1, 3) := by decide +kernel
theorem dX6_lendsOf_38 : decode cX6_lendsOf 38 = .ok (.goto (-33), 3) := by decide +kernel
theorem dX6_lendsOf_41 : decode cX6_lendsOf 41 = .ok (.aload_n 0, 1) := by decide +kernel
theorem dX6_lendsOf_42 : decode cX6_lendsOf 42 = .ok (.getfield 16, 3) := by decide +kernel
theorem dX6_lendsOf_45 : decode cX6_lendsOf 45 = .ok (.iconst 3, 1) := by decide +kernel
theorem dX6_lendsOf_46 : decode cX6_lendsOf 46 = .ok (.iaload, 1) := by decide +kernel
theorem dX6_lendsOf_47 : decode cX6_lendsOf 47 = .ok (.iload_n 3, 1) := by decide +kernel
theorem dX6_lendsOf_48 : decode cX6_lendsOf 48 = .ok (.imul, 1) := by decide +kernel
theorem dX6_lendsOf_49 : decode cX6_lendsOf 49 = .ok (.ireturn, 1) := by decide +kernel
theorem dX6_isFree_0 : decode cX6_isFree 0 = .ok (.iload_n 1, 1) := by decide +kernel
theorem dX6_isFree_1 : decode cX6_isFree 1 = .ok (.iload_n 2, 1) := by decide +kernel
theorem dX6_isFree_2 : decode cX6_isFree 2 = .ok (.iadd, 1) := by decide +kernel
theorem dX6_isFree_3 : decode cX6_isFree 3 = .ok (.aload_n 0, 1) := by decide +kernel
theorem dX6_isFree_4 : decode cX6_isFree 4 = .ok (.invokevirtual 116, 3) := by decide +kernel
theorem dX6_isFree_7 : decode cX6_isFree 7 = .ok (.if_icmp .gt 20, 3) := by decide +kernel
theorem dX6_isFree_10 : decode cX6_isFree 10 = .ok (.iload_n 1, 1) := by decide +kernel
theorem dX6_isFree_11 : decode cX6_isFree 11 = .ok (.iload_n 2, 1) := by decide +kernel
theorem dX6_isFree_12 : decode cX6_isFree 12 = .ok (.invokestatic 152, 3) := by decide +kernel
theorem dX6_isFree_15 : decode cX6_isFree 15 = .ok (.aload_n 0, 1) := by decide +kernel
theorem dX6_isFree_16 : decode cX6_isFree 16 = .ok (.invokevirtual 144, 3) := by decide +kernel
theorem dX6_isFree_19 : decode cX6_isFree 19 = .ok (.iand, 1) := by decide +kernel
theorem dX6_isFree_20 : decode cX6_isFree 20 = .ok (.ifCond .ne 7, 3) := by decide +kernel
theorem dX6_isFree_23 : decode cX6_isFree 23 = .ok (.iconst 1, 1) := by decide +kernel
theorem dX6_isFree_24 : decode cX6_isFree 24 = .ok (.goto 4, 3) := by decide +kernel
theorem dX6_isFree_27 : decode cX6_isFree 27 = .ok (.iconst 0, 1) := by decide +kernel
theorem dX6_isFree_28 : decode cX6_isFree 28 = .ok (.ireturn, 1) := by decide +kernel
theorem dX6_pawns_0 : decode cX6_pawns 0 = .ok (.aload_n 0, 1) := by decide +kernel
theorem dX6_pawns_1 : decode cX6_pawns 1 = .ok (.iload_n 1, 1) := by decide +kernel
theorem dX6_pawns_2 : decode cX6_pawns 2 = .ok (.invokevirtual 136, 3) := by decide +kernel
theorem dX6_pawns_5 : decode cX6_pawns 5 = .ok (.ifCond .eq 15, 3) := by decide +kernel
theorem dX6_pawns_8 : decode cX6_pawns 8 = .ok (.iload_n 2, 1) := by decide +kernel
theorem dX6_pawns_9 : decode cX6_pawns 9 = .ok (.i2l, 1) := by decide +kernel
theorem dX6_pawns_10 : decode cX6_pawns 10 = .ok (.lconst 1, 1) := by decide +kernel
theorem dX6_pawns_11 : decode cX6_pawns 11 = .ok (.ldc2_w 155, 3) := by decide +kernel
theorem dX6_pawns_14 : decode cX6_pawns 14 = .ok (.invokestatic 45, 3) := by decide +kernel
theorem dX6_pawns_17 : decode cX6_pawns 17 = .ok (.ifCond .ne 5, 3) := by decide +kernel
theorem dX6_pawns_20 : decode cX6_pawns 20 = .ok (.iconst (-1), 1) := by decide +kernel
theorem dX6_pawns_21 : decode cX6_pawns 21 = .ok (.ireturn, 1) := by decide +kernel
theorem dX6_pawns_22 : decode cX6_pawns 22 = .ok (.iconst 0, 1) := by decide +kernel
theorem dX6_pawns_23 : decode cX6_pawns 23 = .ok (.istore_n 3, 1) := by decide +kernel
theorem dX6_pawns_24 : decode cX6_pawns 24 = .ok (.iload_n 3, 1) := by decide +kernel
theorem dX6_pawns_25 : decode cX6_pawns 25 = .ok (.iconst 4, 1) := by decide +kernel
theorem dX6_pawns_26 : decode cX6_pawns 26 = .ok (.if_icmp .ge 17, 3) := by decide +kernel
theorem dX6_pawns_29 : decode cX6_pawns 29 = .ok (.aload_n 0, 1) := by decide +kernel
theorem dX6_pawns_30 : decode cX6_pawns 30 = .ok (.iload_n 3, 1) := by decide +kernel
theorem dX6_pawns_31 : decode cX6_pawns 31 = .ok (.invokevirtual 122, 3) := by decide +kernel
theorem dX6_pawns_34 : decode cX6_pawns 34 = .ok (.ifCond .eq 9, 3) := by decide +kernel
theorem dX6_pawns_37 : decode cX6_pawns 37 = .ok (.iinc 3 1, 3) := by decide +kernel
theorem dX6_pawns_40 : decode cX6_pawns 40 = .ok (.goto (-16), 3) := by decide +kernel
theorem dX6_pawns_43 : decode cX6_pawns 43 = .ok (.aload_n 0, 1) := by decide +kernel
theorem dX6_pawns_44 : decode cX6_pawns 44 = .ok (.iload_n 1, 1) := by decide +kernel
theorem dX6_pawns_45 : decode cX6_pawns 45 = .ok (.iload_n 2, 1) := by decide +kernel
theorem dX6_pawns_46 : decode cX6_pawns 46 = .ok (.invokevirtual 157, 3) := by decide +kernel
theorem dX6_pawns_49 : decode cX6_pawns 49 = .ok (.ifCond .eq 8, 3) := by decide +kernel
theorem dX6_pawns_52 : decode cX6_pawns 52 = .ok (.iload_n 3, 1) := by decide +kernel
theorem dX6_pawns_53 : decode cX6_pawns 53 = .ok (.iconst 4, 1) := by decide +kernel
theorem dX6_pawns_54 : decode cX6_pawns 54 = .ok (.if_icmp .ne 6, 3) := by decide +kernel
theorem dX6_pawns_57 : decode cX6_pawns 57 = .ok (.bipush (-2), 2) := by decide +kernel
theorem dX6_pawns_59 : decode cX6_pawns 59 = .ok (.ireturn, 1) := by decide +kernel
theorem dX6_pawns_60 : decode cX6_pawns 60 = .ok (.aload_n 0, 1) := by decide +kernel
theorem dX6_pawns_61 : decode cX6_pawns 61 = .ok (.invokevirtual 160, 3) := by decide +kernel
theorem dX6_pawns_64 : decode cX6_pawns 64 = .ok (.aload_n 0, 1) := by decide +kernel
theorem dX6_pawns_65 : decode cX6_pawns 65 = .ok (.iload_n 1, 1) := by decide +kernel
theorem dX6_pawns_66 : decode cX6_pawns 66 = .ok (.iload_n 2, 1) := by decide +kernel
theorem dX6_pawns_67 : decode cX6_pawns 67 = .ok (.invokevirtual 163, 3) := by decide +kernel
theorem dX6_pawns_70 : decode cX6_pawns 70 = .ok (.istore 4, 2) := by decide +kernel
theorem dX6_pawns_72 : decode cX6_pawns 72 = .ok (.aload_n 0, 1) := by decide +kernel
theorem dX6_pawns_73 : decode cX6_pawns 73 = .ok (.getfield 19, 3) := by decide +kernel
theorem dX6_pawns_76 : decode cX6_pawns 76 = .ok (.iconst 3, 1) := by decide +kernel
theorem dX6_pawns_77 : decode cX6_pawns 77 = .ok (.iconst 3, 1) := by decide +kernel
theorem dX6_pawns_78 : decode cX6_pawns 78 = .ok (.iload_n 3, 1) := by decide +kernel
theorem dX6_pawns_79 : decode cX6_pawns 79 = .ok (.imul, 1) := by decide +kernel
theorem dX6_pawns_80 : decode cX6_pawns 80 = .ok (.iadd, 1) := by decide +kernel
theorem dX6_pawns_81 : decode cX6_pawns 81 = .ok (.iload_n 1, 1) := by decide +kernel
theorem dX6_pawns_82 : decode cX6_pawns 82 = .ok (.iload_n 2, 1) := by decide +kernel
theorem dX6_pawns_83 : decode cX6_pawns 83 = .ok (.invokestatic 152, 3) := by decide +kernel
theorem dX6_pawns_86 : decode cX6_pawns 86 = .ok (.iastore, 1) := by decide +kernel
theorem dX6_pawns_87 : decode cX6_pawns 87 = .ok (.aload_n 0, 1) := by decide +kernel
theorem dX6_pawns_88 : decode cX6_pawns 88 = .ok (.getfield 19, 3) := by decide +kernel
theorem dX6_pawns_91 : decode cX6_pawns 91 = .ok (.iconst 3, 1) := by decide +kernel
theorem dX6_pawns_92 : decode cX6_pawns 92 = .ok (.iconst 3, 1) := by decide +kernel
theorem dX6_pawns_93 : decode cX6_pawns 93 = .ok (.iload_n 3, 1) := by decide +kernel
theorem dX6_pawns_94 : decode cX6_pawns 94 = .ok (.imul, 1) := by decide +kernel
theorem dX6_pawns_95 : decode cX6_pawns 95 = .ok (.iadd, 1) := by decide +kernel
theorem dX6_pawns_96 : decode cX6_pawns 96 = .ok (.iconst 1, 1) := by decide +kernel
theorem dX6_pawns_97 : decode cX6_pawns 97 = .ok (.iadd, 1) := by decide +kernel
theorem dX6_pawns_98 : decode cX6_pawns 98 = .ok (.iload 4, 2) := by decide +kernel
theorem dX6_pawns_100 : decode cX6_pawns 100 = .ok (.iastore, 1) := by decide +kernel
theorem dX6_pawns_101 : decode cX6_pawns 101 = .ok (.aload_n 0, 1) := by decide +kernel
theorem dX6_pawns_102 : decode cX6_pawns 102 = .ok (.getfield 19, 3) := by decide +kernel
theorem dX6_pawns_105 : decode cX6_pawns 105 = .ok (.iconst 3, 1) := by decide +kernel
theorem dX6_pawns_106 : decode cX6_pawns 106 = .ok (.iconst 3, 1) := by decide +kernel
theorem dX6_pawns_107 : decode cX6_pawns 107 = .ok (.iload_n 3, 1) := by decide +kernel
theorem dX6_pawns_108 : decode cX6_pawns 108 = .ok (.imul, 1) := by decide +kernel
theorem dX6_pawns_109 : decode cX6_pawns 109 = .ok (.iadd, 1) := by decide +kernel
theorem dX6_pawns_110 : decode cX6_pawns 110 = .ok (.iconst 2, 1) := by decide +kernel
theorem dX6_pawns_111 : decode cX6_pawns 111 = .ok (.iadd, 1) := by decide +kernel
theorem dX6_pawns_112 : decode cX6_pawns 112 = .ok (.iconst 0, 1) := by decide +kernel
theorem dX6_pawns_113 : decode cX6_pawns 113 = .ok (.iastore, 1) := by decide +kernel
theorem dX6_pawns_114 : decode cX6_pawns 114 = .ok (.aload_n 0, 1) := by decide +kernel
theorem dX6_pawns_115 : decode cX6_pawns 115 = .ok (.getfield 19, 3) := by decide +kernel
theorem dX6_pawns_118 : decode cX6_pawns 118 = .ok (.iconst 0, 1) := by decide +kernel
theorem dX6_pawns_119 : decode cX6_pawns 119 = .ok (.dup2, 1) := by decide +kernel
theorem dX6_pawns_120 : decode cX6_pawns 120 = .ok (.iaload, 1) := by decide +kernel
theorem dX6_pawns_121 : decode cX6_pawns 121 = .ok (.iload 4, 2) := by decide +kernel
theorem dX6_pawns_123 : decode cX6_pawns 123 = .ok (.iadd, 1) := by decide +kernel
theorem dX6_pawns_124 : decode cX6_pawns 124 = .ok (.iastore, 1) := by decide +kernel
theorem dX6_pawns_125 : decode cX6_pawns 125 = .ok (.iload 4, 2) := by decide +kernel
theorem dX6_pawns_127 : decode cX6_pawns 127 = .ok (.ireturn, 1) := by decide +kernel
theorem dX6_frees_0 : decode cX6_frees 0 = .ok (.iconst 0, 1) := by decide +kernel
theorem dX6_frees_1 : decode cX6_frees 1 = .ok (.istore_n 2, 1) := by decide +kernel
theorem dX6_frees_2 : decode cX6_frees 2 = .ok (.iload_n 2, 1) := by decide +kernel
theorem dX6_frees_3 : decode cX6_frees 3 = .ok (.iconst 3, 1) := by decide +kernel
theorem dX6_frees_4 : decode cX6_frees 4 = .ok (.if_icmp .ge 22, 3) := by decide +kernel
theorem dX6_frees_7 : decode cX6_frees 7 = .ok (.aload_n 0, 1) := by decide +kernel
theorem dX6_frees_8 : decode cX6_frees 8 = .ok (.getfield 19, 3) := by decide +kernel
theorem dX6_frees_11 : decode cX6_frees 11 = .ok (.iconst 3, 1) := by decide +kernel
theorem dX6_frees_12 : decode cX6_frees 12 = .ok (.iconst 3, 1) := by decide +kernel
theorem dX6_frees_13 : decode cX6_frees 13 = .ok (.iload_n 1, 1) := by decide +kernel
theorem dX6_frees_14 : decode cX6_frees 14 = .ok (.imul, 1) := by decide +kernel
theorem dX6_frees_15 : decode cX6_frees 15 = .ok (.iadd, 1) := by decide +kernel
theorem dX6_frees_16 : decode cX6_frees 16 = .ok (.iload_n 2, 1) := by decide +kernel
theorem dX6_frees_17 : decode cX6_frees 17 = .ok (.iadd, 1) := by decide +kernel
theorem dX6_frees_18 : decode cX6_frees 18 = .ok (.iconst 0, 1) := by decide +kernel
theorem dX6_frees_19 : decode cX6_frees 19 = .ok (.iastore, 1) := by decide +kernel
theorem dX6_frees_20 : decode cX6_frees 20 = .ok (.iinc 2 1, 3) := by decide +kernel
theorem dX6_frees_23 : decode cX6_frees 23 = .ok (.goto (-21), 3) := by decide +kernel
theorem dX6_frees_26 : decode cX6_frees 26 = .ok (.return_, 1) := by decide +kernel
theorem dX6_redeems_0 : decode cX6_redeems 0 = .ok (.iload_n 1, 1) := by decide +kernel
theorem dX6_redeems_1 : decode cX6_redeems 1 = .ok (.invokestatic 147, 3) := by decide +kernel
theorem dX6_redeems_4 : decode cX6_redeems 4 = .ok (.ifCond .ne 5, 3) := by decide +kernel
theorem dX6_redeems_7 : decode cX6_redeems 7 = .ok (.iconst (-1), 1) := by decide +kernel
theorem dX6_redeems_8 : decode cX6_redeems 8 = .ok (.ireturn, 1) := by decide +kernel
theorem dX6_redeems_9 : decode cX6_redeems 9 = .ok (.aload_n 0, 1) := by decide +kernel
theorem dX6_redeems_10 : decode cX6_redeems 10 = .ok (.iload_n 1, 1) := by decide +kernel
theorem dX6_redeems_11 : decode cX6_redeems 11 = .ok (.invokevirtual 122, 3) := by decide +kernel
theorem dX6_redeems_14 : decode cX6_redeems 14 = .ok (.ifCond .eq 17, 3) := by decide +kernel
theorem dX6_redeems_17 : decode cX6_redeems 17 = .ok (.aload_n 0, 1) := by decide +kernel
theorem dX6_redeems_18 : decode cX6_redeems 18 = .ok (.iload_n 1, 1) := by decide +kernel
theorem dX6_redeems_19 : decode cX6_redeems 19 = .ok (.invokevirtual 166, 3) := by decide +kernel
theorem dX6_redeems_22 : decode cX6_redeems 22 = .ok (.aload_n 0, 1) := by decide +kernel
theorem dX6_redeems_23 : decode cX6_redeems 23 = .ok (.getfield 19, 3) := by decide +kernel
theorem dX6_redeems_26 : decode cX6_redeems 26 = .ok (.iconst 0, 1) := by decide +kernel
theorem dX6_redeems_27 : decode cX6_redeems 27 = .ok (.iaload, 1) := by decide +kernel
theorem dX6_redeems_28 : decode cX6_redeems 28 = .ok (.if_icmp .le 6, 3) := by decide +kernel
theorem dX6_redeems_31 : decode cX6_redeems 31 = .ok (.bipush (-2), 2) := by decide +kernel
theorem dX6_redeems_33 : decode cX6_redeems 33 = .ok (.ireturn, 1) := by decide +kernel
theorem dX6_redeems_34 : decode cX6_redeems 34 = .ok (.aload_n 0, 1) := by decide +kernel
theorem dX6_redeems_35 : decode cX6_redeems 35 = .ok (.invokevirtual 160, 3) := by decide +kernel
theorem dX6_redeems_38 : decode cX6_redeems 38 = .ok (.aload_n 0, 1) := by decide +kernel
theorem dX6_redeems_39 : decode cX6_redeems 39 = .ok (.getfield 19, 3) := by decide +kernel
theorem dX6_redeems_42 : decode cX6_redeems 42 = .ok (.iconst 0, 1) := by decide +kernel
theorem dX6_redeems_43 : decode cX6_redeems 43 = .ok (.dup2, 1) := by decide +kernel
theorem dX6_redeems_44 : decode cX6_redeems 44 = .ok (.iaload, 1) := by decide +kernel
theorem dX6_redeems_45 : decode cX6_redeems 45 = .ok (.aload_n 0, 1) := by decide +kernel
theorem dX6_redeems_46 : decode cX6_redeems 46 = .ok (.iload_n 1, 1) := by decide +kernel
theorem dX6_redeems_47 : decode cX6_redeems 47 = .ok (.invokevirtual 166, 3) := by decide +kernel
theorem dX6_redeems_50 : decode cX6_redeems 50 = .ok (.isub, 1) := by decide +kernel
theorem dX6_redeems_51 : decode cX6_redeems 51 = .ok (.iastore, 1) := by decide +kernel
theorem dX6_redeems_52 : decode cX6_redeems 52 = .ok (.aload_n 0, 1) := by decide +kernel
theorem dX6_redeems_53 : decode cX6_redeems 53 = .ok (.iload_n 1, 1) := by decide +kernel
theorem dX6_redeems_54 : decode cX6_redeems 54 = .ok (.invokevirtual 169, 3) := by decide +kernel
theorem dX6_redeems_57 : decode cX6_redeems 57 = .ok (.aload_n 0, 1) := by decide +kernel
theorem dX6_redeems_58 : decode cX6_redeems 58 = .ok (.getfield 19, 3) := by decide +kernel
theorem dX6_redeems_61 : decode cX6_redeems 61 = .ok (.iconst 0, 1) := by decide +kernel
theorem dX6_redeems_62 : decode cX6_redeems 62 = .ok (.iaload, 1) := by decide +kernel
theorem dX6_redeems_63 : decode cX6_redeems 63 = .ok (.ireturn, 1) := by decide +kernel
theorem dX6_goesBy_0 : decode cX6_goesBy 0 = .ok (.aload_n 0, 1) := by decide +kernel
theorem dX6_goesBy_1 : decode cX6_goesBy 1 = .ok (.aload_n 0, 1) := by decide +kernel
theorem dX6_goesBy_2 : decode cX6_goesBy 2 = .ok (.invokevirtual 144, 3) := by decide +kernel
theorem dX6_goesBy_5 : decode cX6_goesBy 5 = .ok (.invokevirtual 173, 3) := by decide +kernel
theorem dX6_goesBy_8 : decode cX6_goesBy 8 = .ok (.istore_n 1, 1) := by decide +kernel
theorem dX6_goesBy_9 : decode cX6_goesBy 9 = .ok (.aload_n 0, 1) := by decide +kernel
theorem dX6_goesBy_10 : decode cX6_goesBy 10 = .ok (.getfield 19, 3) := by decide +kernel
theorem dX6_goesBy_13 : decode cX6_goesBy 13 = .ok (.iconst 0, 1) := by decide +kernel
theorem dX6_goesBy_14 : decode cX6_goesBy 14 = .ok (.dup2, 1) := by decide +kernel
theorem dX6_goesBy_15 : decode cX6_goesBy 15 = .ok (.iaload, 1) := by decide +kernel
theorem dX6_goesBy_16 : decode cX6_goesBy 16 = .ok (.iload_n 1, 1) := by decide +kernel
theorem dX6_goesBy_17 : decode cX6_goesBy 17 = .ok (.iadd, 1) := by decide +kernel
theorem dX6_goesBy_18 : decode cX6_goesBy 18 = .ok (.iastore, 1) := by decide +kernel
theorem dX6_goesBy_19 : decode cX6_goesBy 19 = .ok (.iconst 0, 1) := by decide +kernel
theorem dX6_goesBy_20 : decode cX6_goesBy 20 = .ok (.istore_n 2, 1) := by decide +kernel
theorem dX6_goesBy_21 : decode cX6_goesBy 21 = .ok (.iload_n 2, 1) := by decide +kernel
theorem dX6_goesBy_22 : decode cX6_goesBy 22 = .ok (.iconst 4, 1) := by decide +kernel
theorem dX6_goesBy_23 : decode cX6_goesBy 23 = .ok (.if_icmp .ge 22, 3) := by decide +kernel
theorem dX6_goesBy_26 : decode cX6_goesBy 26 = .ok (.aload_n 0, 1) := by decide +kernel
theorem dX6_goesBy_27 : decode cX6_goesBy 27 = .ok (.iload_n 2, 1) := by decide +kernel
theorem dX6_goesBy_28 : decode cX6_goesBy 28 = .ok (.invokevirtual 122, 3) := by decide +kernel
theorem dX6_goesBy_31 : decode cX6_goesBy 31 = .ok (.ifCond .eq 8, 3) := by decide +kernel
theorem dX6_goesBy_34 : decode cX6_goesBy 34 = .ok (.aload_n 0, 1) := by decide +kernel
theorem dX6_goesBy_35 : decode cX6_goesBy 35 = .ok (.iload_n 2, 1) := by decide +kernel
theorem dX6_goesBy_36 : decode cX6_goesBy 36 = .ok (.invokevirtual 176, 3) := by decide +kernel
theorem dX6_goesBy_39 : decode cX6_goesBy 39 = .ok (.iinc 2 1, 3) := by decide +kernel
theorem dX6_goesBy_42 : decode cX6_goesBy 42 = .ok (.goto (-21), 3) := by decide +kernel
theorem dX6_goesBy_45 : decode cX6_goesBy 45 = .ok (.aload_n 0, 1) := by decide +kernel
theorem dX6_goesBy_46 : decode cX6_goesBy 46 = .ok (.getfield 19, 3) := by decide +kernel
theorem dX6_goesBy_49 : decode cX6_goesBy 49 = .ok (.iconst 1, 1) := by decide +kernel
theorem dX6_goesBy_50 : decode cX6_goesBy 50 = .ok (.dup2, 1) := by decide +kernel
theorem dX6_goesBy_51 : decode cX6_goesBy 51 = .ok (.iaload, 1) := by decide +kernel
theorem dX6_goesBy_52 : decode cX6_goesBy 52 = .ok (.iconst 1, 1) := by decide +kernel
theorem dX6_goesBy_53 : decode cX6_goesBy 53 = .ok (.iadd, 1) := by decide +kernel
theorem dX6_goesBy_54 : decode cX6_goesBy 54 = .ok (.iastore, 1) := by decide +kernel
theorem dX6_goesBy_55 : decode cX6_goesBy 55 = .ok (.iload_n 1, 1) := by decide +kernel
theorem dX6_goesBy_56 : decode cX6_goesBy 56 = .ok (.ireturn, 1) := by decide +kernel
theorem dX6_ages_0 : decode cX6_ages 0 = .ok (.aload_n 0, 1) := by decide +kernel
theorem dX6_ages_1 : decode cX6_ages 1 = .ok (.getfield 16, 3) := by decide +kernel
theorem dX6_ages_4 : decode cX6_ages 4 = .ok (.iconst 4, 1) := by decide +kernel
theorem dX6_ages_5 : decode cX6_ages 5 = .ok (.iaload, 1) := by decide +kernel
theorem dX6_ages_6 : decode cX6_ages 6 = .ok (.istore_n 2, 1) := by decide +kernel
theorem dX6_ages_7 : decode cX6_ages 7 = .ok (.iconst 0, 1) := by decide +kernel
theorem dX6_ages_8 : decode cX6_ages 8 = .ok (.istore_n 3, 1) := by decide +kernel
theorem dX6_ages_9 : decode cX6_ages 9 = .ok (.aload_n 0, 1) := by decide +kernel
theorem dX6_ages_10 : decode cX6_ages 10 = .ok (.iload_n 1, 1) := by decide +kernel
theorem dX6_ages_11 : decode cX6_ages 11 = .ok (.invokevirtual 122, 3) := by decide +kernel
theorem dX6_ages_14 : decode cX6_ages 14 = .ok (.iload_n 3, 1) := by decide +kernel
theorem dX6_ages_15 : decode cX6_ages 15 = .ok (.iconst 1, 1) := by decide +kernel
theorem dX6_ages_16 : decode cX6_ages 16 = .ok (.iadd, 1) := by decide +kernel
theorem dX6_ages_17 : decode cX6_ages 17 = .ok (.ishr, 1) := by decide +kernel
theorem dX6_ages_18 : decode cX6_ages 18 = .ok (.ifCond .eq 9, 3) := by decide +kernel
theorem dX6_ages_21 : decode cX6_ages 21 = .ok (.iinc 3 1, 3) := by decide +kernel
theorem dX6_ages_24 : decode cX6_ages 24 = .ok (.goto (-15), 3) := by decide +kernel
theorem dX6_ages_27 : decode cX6_ages 27 = .ok (.iload_n 3, 1) := by decide +kernel
theorem dX6_ages_28 : decode cX6_ages 28 = .ok (.iconst 1, 1) := by decide +kernel
theorem dX6_ages_29 : decode cX6_ages 29 = .ok (.iadd, 1) := by decide +kernel
theorem dX6_ages_30 : decode cX6_ages 30 = .ok (.istore 4, 2) := by decide +kernel
theorem dX6_ages_32 : decode cX6_ages 32 = .ok (.iload 4, 2) := by decide +kernel
theorem dX6_ages_34 : decode cX6_ages 34 = .ok (.aload_n 0, 1) := by decide +kernel
theorem dX6_ages_35 : decode cX6_ages 35 = .ok (.invokevirtual 116, 3) := by decide +kernel
theorem dX6_ages_38 : decode cX6_ages 38 = .ok (.if_icmp .ge 45, 3) := by decide +kernel
theorem dX6_ages_41 : decode cX6_ages 41 = .ok (.iload_n 2, 1) := by decide +kernel
theorem dX6_ages_42 : decode cX6_ages 42 = .ok (.ifCond .le 41, 3) := by decide +kernel
theorem dX6_ages_45 : decode cX6_ages 45 = .ok (.aload_n 0, 1) := by decide +kernel
theorem dX6_ages_46 : decode cX6_ages 46 = .ok (.invokevirtual 144, 3) := by decide +kernel
theorem dX6_ages_49 : decode cX6_ages 49 = .ok (.iload 4, 2) := by decide +kernel
theorem dX6_ages_51 : decode cX6_ages 51 = .ok (.ishr, 1) := by decide +kernel
theorem dX6_ages_52 : decode cX6_ages 52 = .ok (.iconst 1, 1) := by decide +kernel
theorem dX6_ages_53 : decode cX6_ages 53 = .ok (.iand, 1) := by decide +kernel
theorem dX6_ages_54 : decode cX6_ages 54 = .ok (.ifCond .ne 23, 3) := by decide +kernel
theorem dX6_ages_57 : decode cX6_ages 57 = .ok (.aload_n 0, 1) := by decide +kernel
theorem dX6_ages_58 : decode cX6_ages 58 = .ok (.getfield 19, 3) := by decide +kernel
theorem dX6_ages_61 : decode cX6_ages 61 = .ok (.iconst 3, 1) := by decide +kernel
theorem dX6_ages_62 : decode cX6_ages 62 = .ok (.iconst 3, 1) := by decide +kernel
theorem dX6_ages_63 : decode cX6_ages 63 = .ok (.iload_n 1, 1) := by decide +kernel
theorem dX6_ages_64 : decode cX6_ages 64 = .ok (.imul, 1) := by decide +kernel
theorem dX6_ages_65 : decode cX6_ages 65 = .ok (.iadd, 1) := by decide +kernel
theorem dX6_ages_66 : decode cX6_ages 66 = .ok (.dup2, 1) := by decide +kernel
theorem dX6_ages_67 : decode cX6_ages 67 = .ok (.iaload, 1) := by decide +kernel
theorem dX6_ages_68 : decode cX6_ages 68 = .ok (.iconst 1, 1) := by decide +kernel
theorem dX6_ages_69 : decode cX6_ages 69 = .ok (.iload 4, 2) := by decide +kernel
theorem dX6_ages_71 : decode cX6_ages 71 = .ok (.ishl, 1) := by decide +kernel
theorem dX6_ages_72 : decode cX6_ages 72 = .ok (.ior, 1) := by decide +kernel
theorem dX6_ages_73 : decode cX6_ages 73 = .ok (.iastore, 1) := by decide +kernel
theorem dX6_ages_74 : decode cX6_ages 74 = .ok (.iinc 2 (-1), 3) := by decide +kernel
theorem dX6_ages_77 : decode cX6_ages 77 = .ok (.iinc 4 1, 3) := by decide +kernel
theorem dX6_ages_80 : decode cX6_ages 80 = .ok (.goto (-48), 3) := by decide +kernel
theorem dX6_ages_83 : decode cX6_ages 83 = .ok (.aload_n 0, 1) := by decide +kernel
theorem dX6_ages_84 : decode cX6_ages 84 = .ok (.getfield 19, 3) := by decide +kernel
theorem dX6_ages_87 : decode cX6_ages 87 = .ok (.iconst 3, 1) := by decide +kernel
theorem dX6_ages_88 : decode cX6_ages 88 = .ok (.iconst 3, 1) := by decide +kernel
theorem dX6_ages_89 : decode cX6_ages 89 = .ok (.iload_n 1, 1) := by decide +kernel
theorem dX6_ages_90 : decode cX6_ages 90 = .ok (.imul, 1) := by decide +kernel
theorem dX6_ages_91 : decode cX6_ages 91 = .ok (.iadd, 1) := by decide +kernel
theorem dX6_ages_92 : decode cX6_ages 92 = .ok (.iconst 2, 1) := by decide +kernel
theorem dX6_ages_93 : decode cX6_ages 93 = .ok (.iadd, 1) := by decide +kernel
theorem dX6_ages_94 : decode cX6_ages 94 = .ok (.dup2, 1) := by decide +kernel
theorem dX6_ages_95 : decode cX6_ages 95 = .ok (.iaload, 1) := by decide +kernel
theorem dX6_ages_96 : decode cX6_ages 96 = .ok (.iconst 1, 1) := by decide +kernel
theorem dX6_ages_97 : decode cX6_ages 97 = .ok (.iadd, 1) := by decide +kernel
theorem dX6_ages_98 : decode cX6_ages 98 = .ok (.iastore, 1) := by decide +kernel
theorem dX6_ages_99 : decode cX6_ages 99 = .ok (.aload_n 0, 1) := by decide +kernel
theorem dX6_ages_100 : decode cX6_ages 100 = .ok (.getfield 19, 3) := by decide +kernel
theorem dX6_ages_103 : decode cX6_ages 103 = .ok (.iconst 3, 1) := by decide +kernel
theorem dX6_ages_104 : decode cX6_ages 104 = .ok (.iconst 3, 1) := by decide +kernel
theorem dX6_ages_105 : decode cX6_ages 105 = .ok (.iload_n 1, 1) := by decide +kernel
theorem dX6_ages_106 : decode cX6_ages 106 = .ok (.imul, 1) := by decide +kernel
theorem dX6_ages_107 : decode cX6_ages 107 = .ok (.iadd, 1) := by decide +kernel
theorem dX6_ages_108 : decode cX6_ages 108 = .ok (.iconst 2, 1) := by decide +kernel
theorem dX6_ages_109 : decode cX6_ages 109 = .ok (.iadd, 1) := by decide +kernel
theorem dX6_ages_110 : decode cX6_ages 110 = .ok (.iaload, 1) := by decide +kernel
theorem dX6_ages_111 : decode cX6_ages 111 = .ok (.aload_n 0, 1) := by decide +kernel
theorem dX6_ages_112 : decode cX6_ages 112 = .ok (.getfield 16, 3) := by decide +kernel
theorem dX6_ages_115 : decode cX6_ages 115 = .ok (.iconst 5, 1) := by decide +kernel
theorem dX6_ages_116 : decode cX6_ages 116 = .ok (.iaload, 1) := by decide +kernel
theorem dX6_ages_117 : decode cX6_ages 117 = .ok (.if_icmp .ne 22, 3) := by decide +kernel
theorem dX6_ages_120 : decode cX6_ages 120 = .ok (.aload_n 0, 1) := by decide +kernel
theorem dX6_ages_121 : decode cX6_ages 121 = .ok (.getfield 19, 3) := by decide +kernel
theorem dX6_ages_124 : decode cX6_ages 124 = .ok (.iconst 2, 1) := by decide +kernel
theorem dX6_ages_125 : decode cX6_ages 125 = .ok (.dup2, 1) := by decide +kernel
theorem dX6_ages_126 : decode cX6_ages 126 = .ok (.iaload, 1) := by decide +kernel
theorem dX6_ages_127 : decode cX6_ages 127 = .ok (.aload_n 0, 1) := by decide +kernel
theorem dX6_ages_128 : decode cX6_ages 128 = .ok (.iload_n 1, 1) := by decide +kernel
theorem dX6_ages_129 : decode cX6_ages 129 = .ok (.invokevirtual 122, 3) := by decide +kernel
theorem dX6_ages_132 : decode cX6_ages 132 = .ok (.ior, 1) := by decide +kernel
theorem dX6_ages_133 : decode cX6_ages 133 = .ok (.iastore, 1) := by decide +kernel
theorem dX6_ages_134 : decode cX6_ages 134 = .ok (.aload_n 0, 1) := by decide +kernel
theorem dX6_ages_135 : decode cX6_ages 135 = .ok (.iload_n 1, 1) := by decide +kernel
theorem dX6_ages_136 : decode cX6_ages 136 = .ok (.invokevirtual 169, 3) := by decide +kernel
theorem dX6_ages_139 : decode cX6_ages 139 = .ok (.return_, 1) := by decide +kernel
theorem dX6_year_0 : decode cX6_year 0 = .ok (.aload_n 0, 1) := by decide +kernel
theorem dX6_year_1 : decode cX6_year 1 = .ok (.getfield 19, 3) := by decide +kernel
theorem dX6_year_4 : decode cX6_year 4 = .ok (.iconst 1, 1) := by decide +kernel
theorem dX6_year_5 : decode cX6_year 5 = .ok (.iaload, 1) := by decide +kernel
theorem dX6_year_6 : decode cX6_year 6 = .ok (.bipush 99, 2) := by decide +kernel
theorem dX6_year_8 : decode cX6_year 8 = .ok (.if_icmp .ne 6, 3) := by decide +kernel
theorem dX6_year_11 : decode cX6_year 11 = .ok (.bipush (-2), 2) := by decide +kernel
theorem dX6_year_13 : decode cX6_year 13 = .ok (.ireturn, 1) := by decide +kernel
theorem dX6_year_14 : decode cX6_year 14 = .ok (.aload_n 0, 1) := by decide +kernel
theorem dX6_year_15 : decode cX6_year 15 = .ok (.invokevirtual 160, 3) := by decide +kernel
theorem dX6_year_18 : decode cX6_year 18 = .ok (.aload_n 0, 1) := by decide +kernel
theorem dX6_year_19 : decode cX6_year 19 = .ok (.invokevirtual 179, 3) := by decide +kernel
theorem dX6_year_22 : decode cX6_year 22 = .ok (.ireturn, 1) := by decide +kernel
theorem dX6_undo_0 : decode cX6_undo 0 = .ok (.aload_n 0, 1) := by decide +kernel
theorem dX6_undo_1 : decode cX6_undo 1 = .ok (.getfield 113, 3) := by decide +kernel
theorem dX6_undo_4 : decode cX6_undo 4 = .ok (.ifCond .ne 6, 3) := by decide +kernel
theorem dX6_undo_7 : decode cX6_undo 7 = .ok (.bipush (-2), 2) := by decide +kernel
theorem dX6_undo_9 : decode cX6_undo 9 = .ok (.ireturn, 1) := by decide +kernel
theorem dX6_undo_10 : decode cX6_undo 10 = .ok (.aload_n 0, 1) := by decide +kernel
theorem dX6_undo_11 : decode cX6_undo 11 = .ok (.dup, 1) := by decide +kernel
theorem dX6_undo_12 : decode cX6_undo 12 = .ok (.getfield 113, 3) := by decide +kernel
theorem dX6_undo_15 : decode cX6_undo 15 = .ok (.iconst 1, 1) := by decide +kernel
theorem dX6_undo_16 : decode cX6_undo 16 = .ok (.isub, 1) := by decide +kernel
theorem dX6_undo_17 : decode cX6_undo 17 = .ok (.putfield 113, 3) := by decide +kernel
theorem dX6_undo_20 : decode cX6_undo 20 = .ok (.iconst 0, 1) := by decide +kernel
theorem dX6_undo_21 : decode cX6_undo 21 = .ok (.istore_n 1, 1) := by decide +kernel
theorem dX6_undo_22 : decode cX6_undo 22 = .ok (.iload_n 1, 1) := by decide +kernel
theorem dX6_undo_23 : decode cX6_undo 23 = .ok (.bipush 15, 2) := by decide +kernel
theorem dX6_undo_25 : decode cX6_undo 25 = .ok (.if_icmp .ge 29, 3) := by decide +kernel
theorem dX6_undo_28 : decode cX6_undo 28 = .ok (.aload_n 0, 1) := by decide +kernel
theorem dX6_undo_29 : decode cX6_undo 29 = .ok (.getfield 19, 3) := by decide +kernel
theorem dX6_undo_32 : decode cX6_undo 32 = .ok (.iload_n 1, 1) := by decide +kernel
theorem dX6_undo_33 : decode cX6_undo 33 = .ok (.aload_n 0, 1) := by decide +kernel
theorem dX6_undo_34 : decode cX6_undo 34 = .ok (.getfield 22, 3) := by decide +kernel
theorem dX6_undo_37 : decode cX6_undo 37 = .ok (.bipush 15, 2) := by decide +kernel
theorem dX6_undo_39 : decode cX6_undo 39 = .ok (.aload_n 0, 1) := by decide +kernel
theorem dX6_undo_40 : decode cX6_undo 40 = .ok (.getfield 113, 3) := by decide +kernel
theorem dX6_undo_43 : decode cX6_undo 43 = .ok (.imul, 1) := by decide +kernel
theorem dX6_undo_44 : decode cX6_undo 44 = .ok (.iload_n 1, 1) := by decide +kernel
theorem dX6_undo_45 : decode cX6_undo 45 = .ok (.iadd, 1) := by decide +kernel
theorem dX6_undo_46 : decode cX6_undo 46 = .ok (.iaload, 1) := by decide +kernel
theorem dX6_undo_47 : decode cX6_undo 47 = .ok (.iastore, 1) := by decide +kernel
theorem dX6_undo_48 : decode cX6_undo 48 = .ok (.iinc 1 1, 3) := by decide +kernel
theorem dX6_undo_51 : decode cX6_undo 51 = .ok (.goto (-29), 3) := by decide +kernel
theorem dX6_undo_54 : decode cX6_undo 54 = .ok (.aload_n 0, 1) := by decide +kernel
theorem dX6_undo_55 : decode cX6_undo 55 = .ok (.getfield 113, 3) := by decide +kernel
theorem dX6_undo_58 : decode cX6_undo 58 = .ok (.ireturn, 1) := by decide +kernel
theorem dX6_gap_0 : decode cX6_gap 0 = .ok (.iconst 0, 1) := by decide +kernel
theorem dX6_gap_1 : decode cX6_gap 1 = .ok (.istore_n 1, 1) := by decide +kernel
theorem dX6_gap_2 : decode cX6_gap 2 = .ok (.iconst 0, 1) := by decide +kernel
theorem dX6_gap_3 : decode cX6_gap 3 = .ok (.istore_n 2, 1) := by decide +kernel
theorem dX6_gap_4 : decode cX6_gap 4 = .ok (.iconst 0, 1) := by decide +kernel
theorem dX6_gap_5 : decode cX6_gap 5 = .ok (.istore_n 3, 1) := by decide +kernel
theorem dX6_gap_6 : decode cX6_gap 6 = .ok (.iload_n 3, 1) := by decide +kernel
theorem dX6_gap_7 : decode cX6_gap 7 = .ok (.aload_n 0, 1) := by decide +kernel
theorem dX6_gap_8 : decode cX6_gap 8 = .ok (.invokevirtual 116, 3) := by decide +kernel
theorem dX6_gap_11 : decode cX6_gap 11 = .ok (.if_icmp .ge 40, 3) := by decide +kernel
theorem dX6_gap_14 : decode cX6_gap 14 = .ok (.aload_n 0, 1) := by decide +kernel
theorem dX6_gap_15 : decode cX6_gap 15 = .ok (.invokevirtual 144, 3) := by decide +kernel
theorem dX6_gap_18 : decode cX6_gap 18 = .ok (.iload_n 3, 1) := by decide +kernel
theorem dX6_gap_19 : decode cX6_gap 19 = .ok (.ishr, 1) := by decide +kernel
theorem dX6_gap_20 : decode cX6_gap 20 = .ok (.iconst 1, 1) := by decide +kernel
theorem dX6_gap_21 : decode cX6_gap 21 = .ok (.iand, 1) := by decide +kernel
theorem dX6_gap_22 : decode cX6_gap 22 = .ok (.iconst 1, 1) := by decide +kernel
theorem dX6_gap_23 : decode cX6_gap 23 = .ok (.if_icmp .ne 9, 3) := by decide +kernel
theorem dX6_gap_26 : decode cX6_gap 26 = .ok (.iload_n 2, 1) := by decide +kernel
theorem dX6_gap_27 : decode cX6_gap 27 = .ok (.iconst 1, 1) := by decide +kernel
theorem dX6_gap_28 : decode cX6_gap 28 = .ok (.iadd, 1) := by decide +kernel
theorem dX6_gap_29 : decode cX6_gap 29 = .ok (.goto 4, 3) := by decide +kernel
theorem dX6_gap_32 : decode cX6_gap 32 = .ok (.iconst 0, 1) := by decide +kernel
theorem dX6_gap_33 : decode cX6_gap 33 = .ok (.istore_n 2, 1) := by decide +kernel
theorem dX6_gap_34 : decode cX6_gap 34 = .ok (.iload_n 2, 1) := by decide +kernel
theorem dX6_gap_35 : decode cX6_gap 35 = .ok (.iload_n 1, 1) := by decide +kernel
theorem dX6_gap_36 : decode cX6_gap 36 = .ok (.if_icmp .le 7, 3) := by decide +kernel
theorem dX6_gap_39 : decode cX6_gap 39 = .ok (.iload_n 2, 1) := by decide +kernel
theorem dX6_gap_40 : decode cX6_gap 40 = .ok (.goto 4, 3) := by decide +kernel
theorem dX6_gap_43 : decode cX6_gap 43 = .ok (.iload_n 1, 1) := by decide +kernel
theorem dX6_gap_44 : decode cX6_gap 44 = .ok (.istore_n 1, 1) := by decide +kernel
theorem dX6_gap_45 : decode cX6_gap 45 = .ok (.iinc 3 1, 3) := by decide +kernel
theorem dX6_gap_48 : decode cX6_gap 48 = .ok (.goto (-42), 3) := by decide +kernel
theorem dX6_gap_51 : decode cX6_gap 51 = .ok (.iload_n 1, 1) := by decide +kernel
theorem dX6_gap_52 : decode cX6_gap 52 = .ok (.ireturn, 1) := by decide +kernel
theorem dX6_now_0 : decode cX6_now 0 = .ok (.iload_n 1, 1) := by decide +kernel
theorem dX6_now_1 : decode cX6_now 1 = .ok (.tableswitch 100 0 6 #[43, 43, 50, 55, 62, 71, 76], 43) := by decide +kernel
theorem dX6_now_44 : decode cX6_now 44 = .ok (.aload_n 0, 1) := by decide +kernel
theorem dX6_now_45 : decode cX6_now 45 = .ok (.getfield 19, 3) := by decide +kernel
theorem dX6_now_48 : decode cX6_now 48 = .ok (.iload_n 1, 1) := by decide +kernel
theorem dX6_now_49 : decode cX6_now 49 = .ok (.iaload, 1) := by decide +kernel
theorem dX6_now_50 : decode cX6_now 50 = .ok (.ireturn, 1) := by decide +kernel
theorem dX6_now_51 : decode cX6_now 51 = .ok (.aload_n 0, 1) := by decide +kernel
theorem dX6_now_52 : decode cX6_now 52 = .ok (.invokevirtual 126, 3) := by decide +kernel
theorem dX6_now_55 : decode cX6_now 55 = .ok (.ireturn, 1) := by decide +kernel
theorem dX6_now_56 : decode cX6_now 56 = .ok (.aload_n 0, 1) := by decide +kernel
theorem dX6_now_57 : decode cX6_now 57 = .ok (.getfield 19, 3) := by decide +kernel
theorem dX6_now_60 : decode cX6_now 60 = .ok (.iconst 2, 1) := by decide +kernel
theorem dX6_now_61 : decode cX6_now 61 = .ok (.iaload, 1) := by decide +kernel
theorem dX6_now_62 : decode cX6_now 62 = .ok (.ireturn, 1) := by decide +kernel
theorem dX6_now_63 : decode cX6_now 63 = .ok (.aload_n 0, 1) := by decide +kernel
theorem dX6_now_64 : decode cX6_now 64 = .ok (.aload_n 0, 1) := by decide +kernel
theorem dX6_now_65 : decode cX6_now 65 = .ok (.invokevirtual 144, 3) := by decide +kernel
theorem dX6_now_68 : decode cX6_now 68 = .ok (.invokevirtual 173, 3) := by decide +kernel
theorem dX6_now_71 : decode cX6_now 71 = .ok (.ireturn, 1) := by decide +kernel
theorem dX6_now_72 : decode cX6_now 72 = .ok (.aload_n 0, 1) := by decide +kernel
theorem dX6_now_73 : decode cX6_now 73 = .ok (.invokevirtual 182, 3) := by decide +kernel
theorem dX6_now_76 : decode cX6_now 76 = .ok (.ireturn, 1) := by decide +kernel
theorem dX6_now_77 : decode cX6_now 77 = .ok (.aload_n 0, 1) := by decide +kernel
theorem dX6_now_78 : decode cX6_now 78 = .ok (.iconst 0, 1) := by decide +kernel
theorem dX6_now_79 : decode cX6_now 79 = .ok (.invokevirtual 166, 3) := by decide +kernel
theorem dX6_now_82 : decode cX6_now 82 = .ok (.aload_n 0, 1) := by decide +kernel
theorem dX6_now_83 : decode cX6_now 83 = .ok (.iconst 1, 1) := by decide +kernel
theorem dX6_now_84 : decode cX6_now 84 = .ok (.invokevirtual 166, 3) := by decide +kernel
theorem dX6_now_87 : decode cX6_now 87 = .ok (.iadd, 1) := by decide +kernel
theorem dX6_now_88 : decode cX6_now 88 = .ok (.aload_n 0, 1) := by decide +kernel
theorem dX6_now_89 : decode cX6_now 89 = .ok (.iconst 2, 1) := by decide +kernel
theorem dX6_now_90 : decode cX6_now 90 = .ok (.invokevirtual 166, 3) := by decide +kernel
theorem dX6_now_93 : decode cX6_now 93 = .ok (.iadd, 1) := by decide +kernel
theorem dX6_now_94 : decode cX6_now 94 = .ok (.aload_n 0, 1) := by decide +kernel
theorem dX6_now_95 : decode cX6_now 95 = .ok (.iconst 3, 1) := by decide +kernel
theorem dX6_now_96 : decode cX6_now 96 = .ok (.invokevirtual 166, 3) := by decide +kernel
theorem dX6_now_99 : decode cX6_now 99 = .ok (.iadd, 1) := by decide +kernel
theorem dX6_now_100 : decode cX6_now 100 = .ok (.ireturn, 1) := by decide +kernel
theorem dX6_now_101 : decode cX6_now 101 = .ok (.iconst (-1), 1) := by decide +kernel
theorem dX6_now_102 : decode cX6_now 102 = .ok (.ireturn, 1) := by decide +kernel
theorem dX6_lends_0 : decode cX6_lends 0 = .ok (.aload_n 0, 1) := by decide +kernel
theorem dX6_lends_1 : decode cX6_lends 1 = .ok (.iload_n 1, 1) := by decide +kernel
theorem dX6_lends_2 : decode cX6_lends 2 = .ok (.invokevirtual 136, 3) := by decide +kernel
theorem dX6_lends_5 : decode cX6_lends 5 = .ok (.ifCond .eq 24, 3) := by decide +kernel
theorem dX6_lends_8 : decode cX6_lends 8 = .ok (.iload_n 2, 1) := by decide +kernel
theorem dX6_lends_9 : decode cX6_lends 9 = .ok (.i2l, 1) := by decide +kernel
theorem dX6_lends_10 : decode cX6_lends 10 = .ok (.lconst 1, 1) := by decide +kernel
theorem dX6_lends_11 : decode cX6_lends 11 = .ok (.ldc2_w 155, 3) := by decide +kernel
theorem dX6_lends_14 : decode cX6_lends 14 = .ok (.invokestatic 45, 3) := by decide +kernel
theorem dX6_lends_17 : decode cX6_lends 17 = .ok (.ifCond .eq 12, 3) := by decide +kernel
theorem dX6_lends_20 : decode cX6_lends 20 = .ok (.aload_n 0, 1) := by decide +kernel
theorem dX6_lends_21 : decode cX6_lends 21 = .ok (.iload_n 1, 1) := by decide +kernel
theorem dX6_lends_22 : decode cX6_lends 22 = .ok (.iload_n 2, 1) := by decide +kernel
theorem dX6_lends_23 : decode cX6_lends 23 = .ok (.invokevirtual 163, 3) := by decide +kernel
theorem dX6_lends_26 : decode cX6_lends 26 = .ok (.goto 4, 3) := by decide +kernel
theorem dX6_lends_29 : decode cX6_lends 29 = .ok (.iconst (-1), 1) := by decide +kernel
theorem dX6_lends_30 : decode cX6_lends 30 = .ok (.ireturn, 1) := by decide +kernel
theorem dX6_cheap_0 : decode cX6_cheap 0 = .ok (.iload_n 1, 1) := by decide +kernel
theorem dX6_cheap_1 : decode cX6_cheap 1 = .ok (.i2l, 1) := by decide +kernel
theorem dX6_cheap_2 : decode cX6_cheap 2 = .ok (.lconst 1, 1) := by decide +kernel
theorem dX6_cheap_3 : decode cX6_cheap 3 = .ok (.ldc2_w 185, 3) := by decide +kernel
theorem dX6_cheap_6 : decode cX6_cheap 6 = .ok (.invokestatic 45, 3) := by decide +kernel
theorem dX6_cheap_9 : decode cX6_cheap 9 = .ok (.ifCond .eq 15, 3) := by decide +kernel
theorem dX6_cheap_12 : decode cX6_cheap 12 = .ok (.iload_n 2, 1) := by decide +kernel
theorem dX6_cheap_13 : decode cX6_cheap 13 = .ok (.i2l, 1) := by decide +kernel
theorem dX6_cheap_14 : decode cX6_cheap 14 = .ok (.lconst 0, 1) := by decide +kernel
theorem dX6_cheap_15 : decode cX6_cheap 15 = .ok (.ldc2_w 150, 3) := by decide +kernel
theorem dX6_cheap_18 : decode cX6_cheap 18 = .ok (.invokestatic 45, 3) := by decide +kernel
theorem dX6_cheap_21 : decode cX6_cheap 21 = .ok (.ifCond .ne 5, 3) := by decide +kernel
theorem dX6_cheap_24 : decode cX6_cheap 24 = .ok (.iconst (-1), 1) := by decide +kernel
theorem dX6_cheap_25 : decode cX6_cheap 25 = .ok (.ireturn, 1) := by decide +kernel
theorem dX6_cheap_26 : decode cX6_cheap 26 = .ok (.bipush (-9), 2) := by decide +kernel
theorem dX6_cheap_28 : decode cX6_cheap 28 = .ok (.istore_n 3, 1) := by decide +kernel
theorem dX6_cheap_29 : decode cX6_cheap 29 = .ok (.bipush (-9), 2) := by decide +kernel
theorem dX6_cheap_31 : decode cX6_cheap 31 = .ok (.istore 4, 2) := by decide +kernel
theorem dX6_cheap_33 : decode cX6_cheap 33 = .ok (.bipush (-9), 2) := by decide +kernel
theorem dX6_cheap_35 : decode cX6_cheap 35 = .ok (.istore 5, 2) := by decide +kernel
theorem dX6_cheap_37 : decode cX6_cheap 37 = .ok (.iconst 1, 1) := by decide +kernel
theorem dX6_cheap_38 : decode cX6_cheap 38 = .ok (.istore 6, 2) := by decide +kernel
theorem dX6_cheap_40 : decode cX6_cheap 40 = .ok (.iload 6, 2) := by decide +kernel
theorem dX6_cheap_42 : decode cX6_cheap 42 = .ok (.bipush 10, 2) := by decide +kernel
theorem dX6_cheap_44 : decode cX6_cheap 44 = .ok (.if_icmp .ge 128, 3) := by decide +kernel
theorem dX6_cheap_47 : decode cX6_cheap 47 = .ok (.iconst 0, 1) := by decide +kernel
theorem dX6_cheap_48 : decode cX6_cheap 48 = .ok (.istore 7, 2) := by decide +kernel
theorem dX6_cheap_50 : decode cX6_cheap 50 = .ok (.iload 7, 2) := by decide +kernel
theorem dX6_cheap_52 : decode cX6_cheap 52 = .ok (.aload_n 0, 1) := by decide +kernel
theorem dX6_cheap_53 : decode cX6_cheap 53 = .ok (.invokevirtual 116, 3) := by decide +kernel
theorem dX6_cheap_56 : decode cX6_cheap 56 = .ok (.if_icmp .ge 110, 3) := by decide +kernel
theorem dX6_cheap_59 : decode cX6_cheap 59 = .ok (.aload_n 0, 1) := by decide +kernel
theorem dX6_cheap_60 : decode cX6_cheap 60 = .ok (.iload 7, 2) := by decide +kernel
theorem dX6_cheap_62 : decode cX6_cheap 62 = .ok (.iload 6, 2) := by decide +kernel
theorem dX6_cheap_64 : decode cX6_cheap 64 = .ok (.invokevirtual 157, 3) := by decide +kernel
theorem dX6_cheap_67 : decode cX6_cheap 67 = .ok (.ifCond .eq 93, 3) := by decide +kernel
theorem dX6_cheap_70 : decode cX6_cheap 70 = .ok (.aload_n 0, 1) := by decide +kernel
theorem dX6_cheap_71 : decode cX6_cheap 71 = .ok (.iload 7, 2) := by decide +kernel
theorem dX6_cheap_73 : decode cX6_cheap 73 = .ok (.iload 6, 2) := by decide +kernel
theorem dX6_cheap_75 : decode cX6_cheap 75 = .ok (.invokevirtual 163, 3) := by decide +kernel
theorem dX6_cheap_78 : decode cX6_cheap 78 = .ok (.iload_n 1, 1) := by decide +kernel
theorem dX6_cheap_79 : decode cX6_cheap 79 = .ok (.if_icmp .lt 81, 3) := by decide +kernel
theorem dX6_cheap_82 : decode cX6_cheap 82 = .ok (.aload_n 0, 1) := by decide +kernel
theorem dX6_cheap_83 : decode cX6_cheap 83 = .ok (.aload_n 0, 1) := by decide +kernel
theorem dX6_cheap_84 : decode cX6_cheap 84 = .ok (.invokevirtual 144, 3) := by decide +kernel
theorem dX6_cheap_87 : decode cX6_cheap 87 = .ok (.iload 7, 2) := by decide +kernel
theorem dX6_cheap_89 : decode cX6_cheap 89 = .ok (.iload 6, 2) := by decide +kernel
theorem dX6_cheap_91 : decode cX6_cheap 91 = .ok (.invokestatic 152, 3) := by decide +kernel
theorem dX6_cheap_94 : decode cX6_cheap 94 = .ok (.ior, 1) := by decide +kernel
theorem dX6_cheap_95 : decode cX6_cheap 95 = .ok (.invokevirtual 173, 3) := by decide +kernel
theorem dX6_cheap_98 : decode cX6_cheap 98 = .ok (.istore 8, 2) := by decide +kernel
theorem dX6_cheap_100 : decode cX6_cheap 100 = .ok (.iload_n 3, 1) := by decide +kernel
theorem dX6_cheap_101 : decode cX6_cheap 101 = .ok (.bipush (-9), 2) := by decide +kernel
theorem dX6_cheap_103 : decode cX6_cheap 103 = .ok (.if_icmp .eq 10, 3) := by decide +kernel
theorem dX6_cheap_106 : decode cX6_cheap 106 = .ok (.iload 8, 2) := by decide +kernel
theorem dX6_cheap_108 : decode cX6_cheap 108 = .ok (.iload 5, 2) := by decide +kernel
theorem dX6_cheap_110 : decode cX6_cheap 110 = .ok (.if_icmp .le 7, 3) := by decide +kernel
theorem dX6_cheap_113 : decode cX6_cheap 113 = .ok (.iconst 1, 1) := by decide +kernel
theorem dX6_cheap_114 : decode cX6_cheap 114 = .ok (.goto 4, 3) := by decide +kernel
theorem dX6_cheap_117 : decode cX6_cheap 117 = .ok (.iconst 0, 1) := by decide +kernel
theorem dX6_cheap_118 : decode cX6_cheap 118 = .ok (.istore 9, 2) := by decide +kernel
theorem dX6_cheap_120 : decode cX6_cheap 120 = .ok (.iload 9, 2) := by decide +kernel
theorem dX6_cheap_122 : decode cX6_cheap 122 = .ok (.ifCond .eq 8, 3) := by decide +kernel
theorem dX6_cheap_125 : decode cX6_cheap 125 = .ok (.iload 7, 2) := by decide +kernel
theorem dX6_cheap_127 : decode cX6_cheap 127 = .ok (.goto 4, 3) := by decide +kernel
theorem dX6_cheap_130 : decode cX6_cheap 130 = .ok (.iload_n 3, 1) := by decide +kernel
theorem dX6_cheap_131 : decode cX6_cheap 131 = .ok (.istore_n 3, 1) := by decide +kernel
theorem dX6_cheap_132 : decode cX6_cheap 132 = .ok (.iload 9, 2) := by decide +kernel
theorem dX6_cheap_134 : decode cX6_cheap 134 = .ok (.ifCond .eq 8, 3) := by decide +kernel
theorem dX6_cheap_137 : decode cX6_cheap 137 = .ok (.iload 6, 2) := by decide +kernel
theorem dX6_cheap_139 : decode cX6_cheap 139 = .ok (.goto 5, 3) := by decide +kernel
theorem dX6_cheap_142 : decode cX6_cheap 142 = .ok (.iload 4, 2) := by decide +kernel
theorem dX6_cheap_144 : decode cX6_cheap 144 = .ok (.istore 4, 2) := by decide +kernel
theorem dX6_cheap_146 : decode cX6_cheap 146 = .ok (.iload 9, 2) := by decide +kernel
theorem dX6_cheap_148 : decode cX6_cheap 148 = .ok (.ifCond .eq 8, 3) := by decide +kernel
theorem dX6_cheap_151 : decode cX6_cheap 151 = .ok (.iload 8, 2) := by decide +kernel
theorem dX6_cheap_153 : decode cX6_cheap 153 = .ok (.goto 5, 3) := by decide +kernel
theorem dX6_cheap_156 : decode cX6_cheap 156 = .ok (.iload 5, 2) := by decide +kernel
theorem dX6_cheap_158 : decode cX6_cheap 158 = .ok (.istore 5, 2) := by decide +kernel
theorem dX6_cheap_160 : decode cX6_cheap 160 = .ok (.iinc 7 1, 3) := by decide +kernel
theorem dX6_cheap_163 : decode cX6_cheap 163 = .ok (.goto (-113), 3) := by decide +kernel
theorem dX6_cheap_166 : decode cX6_cheap 166 = .ok (.iinc 6 1, 3) := by decide +kernel
theorem dX6_cheap_169 : decode cX6_cheap 169 = .ok (.goto (-129), 3) := by decide +kernel
theorem dX6_cheap_172 : decode cX6_cheap 172 = .ok (.iload_n 2, 1) := by decide +kernel
theorem dX6_cheap_173 : decode cX6_cheap 173 = .ok (.ifCond .ne 7, 3) := by decide +kernel
theorem dX6_cheap_176 : decode cX6_cheap 176 = .ok (.iload_n 3, 1) := by decide +kernel
theorem dX6_cheap_177 : decode cX6_cheap 177 = .ok (.goto 15, 3) := by decide +kernel
theorem dX6_cheap_180 : decode cX6_cheap 180 = .ok (.iload_n 2, 1) := by decide +kernel
theorem dX6_cheap_181 : decode cX6_cheap 181 = .ok (.iconst 1, 1) := by decide +kernel
theorem dX6_cheap_182 : decode cX6_cheap 182 = .ok (.if_icmp .ne 8, 3) := by decide +kernel
theorem dX6_cheap_185 : decode cX6_cheap 185 = .ok (.iload 4, 2) := by decide +kernel
theorem dX6_cheap_187 : decode cX6_cheap 187 = .ok (.goto 5, 3) := by decide +kernel
theorem dX6_cheap_190 : decode cX6_cheap 190 = .ok (.iload 5, 2) := by decide +kernel
theorem dX6_cheap_192 : decode cX6_cheap 192 = .ok (.ireturn, 1) := by decide +kernel
theorem dX6_freeing_0 : decode cX6_freeing 0 = .ok (.iload_n 1, 1) := by decide +kernel
theorem dX6_freeing_1 : decode cX6_freeing 1 = .ok (.i2l, 1) := by decide +kernel
theorem dX6_freeing_2 : decode cX6_freeing 2 = .ok (.lconst 0, 1) := by decide +kernel
theorem dX6_freeing_3 : decode cX6_freeing 3 = .ok (.lconst 1, 1) := by decide +kernel
theorem dX6_freeing_4 : decode cX6_freeing 4 = .ok (.invokestatic 45, 3) := by decide +kernel
theorem dX6_freeing_7 : decode cX6_freeing 7 = .ok (.ifCond .ne 5, 3) := by decide +kernel
theorem dX6_freeing_10 : decode cX6_freeing 10 = .ok (.iconst (-1), 1) := by decide +kernel
theorem dX6_freeing_11 : decode cX6_freeing 11 = .ok (.ireturn, 1) := by decide +kernel
theorem dX6_freeing_12 : decode cX6_freeing 12 = .ok (.iconst 0, 1) := by decide +kernel
theorem dX6_freeing_13 : decode cX6_freeing 13 = .ok (.istore_n 2, 1) := by decide +kernel
theorem dX6_freeing_14 : decode cX6_freeing 14 = .ok (.iconst (-1), 1) := by decide +kernel
theorem dX6_freeing_15 : decode cX6_freeing 15 = .ok (.istore_n 3, 1) := by decide +kernel
theorem dX6_freeing_16 : decode cX6_freeing 16 = .ok (.iconst 0, 1) := by decide +kernel
theorem dX6_freeing_17 : decode cX6_freeing 17 = .ok (.istore 4, 2) := by decide +kernel
theorem dX6_freeing_19 : decode cX6_freeing 19 = .ok (.iconst 0, 1) := by decide +kernel
theorem dX6_freeing_20 : decode cX6_freeing 20 = .ok (.istore 5, 2) := by decide +kernel
theorem dX6_freeing_22 : decode cX6_freeing 22 = .ok (.iload 5, 2) := by decide +kernel
theorem dX6_freeing_24 : decode cX6_freeing 24 = .ok (.bipush 16, 2) := by decide +kernel
theorem dX6_freeing_26 : decode cX6_freeing 26 = .ok (.if_icmp .ge 210, 3) := by decide +kernel
theorem dX6_freeing_29 : decode cX6_freeing 29 = .ok (.iconst 0, 1) := by decide +kernel
theorem dX6_freeing_30 : decode cX6_freeing 30 = .ok (.istore 6, 2) := by decide +kernel
theorem dX6_freeing_32 : decode cX6_freeing 32 = .ok (.aload_n 0, 1) := by decide +kernel
theorem dX6_freeing_33 : decode cX6_freeing 33 = .ok (.invokevirtual 144, 3) := by decide +kernel
theorem dX6_freeing_36 : decode cX6_freeing 36 = .ok (.istore 7, 2) := by decide +kernel
theorem dX6_freeing_38 : decode cX6_freeing 38 = .ok (.iconst 1, 1) := by decide +kernel
theorem dX6_freeing_39 : decode cX6_freeing 39 = .ok (.istore 8, 2) := by decide +kernel
theorem dX6_freeing_41 : decode cX6_freeing 41 = .ok (.iconst 0, 1) := by decide +kernel
theorem dX6_freeing_42 : decode cX6_freeing 42 = .ok (.istore 9, 2) := by decide +kernel
theorem dX6_freeing_44 : decode cX6_freeing 44 = .ok (.iload 9, 2) := by decide +kernel
theorem dX6_freeing_46 : decode cX6_freeing 46 = .ok (.iconst 4, 1) := by decide +kernel
theorem dX6_freeing_47 : decode cX6_freeing 47 = .ok (.if_icmp .ge 95, 3) := by decide +kernel
theorem dX6_freeing_50 : decode cX6_freeing 50 = .ok (.iload 5, 2) := by decide +kernel
theorem dX6_freeing_52 : decode cX6_freeing 52 = .ok (.iload 9, 2) := by decide +kernel
theorem dX6_freeing_54 : decode cX6_freeing 54 = .ok (.ishr, 1) := by decide +kernel
theorem dX6_freeing_55 : decode cX6_freeing 55 = .ok (.iconst 1, 1) := by decide +kernel
theorem dX6_freeing_56 : decode cX6_freeing 56 = .ok (.iand, 1) := by decide +kernel
theorem dX6_freeing_57 : decode cX6_freeing 57 = .ok (.iconst 1, 1) := by decide +kernel
theorem dX6_freeing_58 : decode cX6_freeing 58 = .ok (.if_icmp .ne 7, 3) := by decide +kernel
theorem dX6_freeing_61 : decode cX6_freeing 61 = .ok (.iconst 1, 1) := by decide +kernel
theorem dX6_freeing_62 : decode cX6_freeing 62 = .ok (.goto 4, 3) := by decide +kernel
theorem dX6_freeing_65 : decode cX6_freeing 65 = .ok (.iconst 0, 1) := by decide +kernel
theorem dX6_freeing_66 : decode cX6_freeing 66 = .ok (.istore 10, 2) := by decide +kernel
theorem dX6_freeing_68 : decode cX6_freeing 68 = .ok (.iload 8, 2) := by decide +kernel
theorem dX6_freeing_70 : decode cX6_freeing 70 = .ok (.ifCond .eq 21, 3) := by decide +kernel
theorem dX6_freeing_73 : decode cX6_freeing 73 = .ok (.iload 10, 2) := by decide +kernel
theorem dX6_freeing_75 : decode cX6_freeing 75 = .ok (.ifCond .eq 12, 3) := by decide +kernel
theorem dX6_freeing_78 : decode cX6_freeing 78 = .ok (.aload_n 0, 1) := by decide +kernel
theorem dX6_freeing_79 : decode cX6_freeing 79 = .ok (.iload 9, 2) := by decide +kernel
theorem dX6_freeing_81 : decode cX6_freeing 81 = .ok (.invokevirtual 122, 3) := by decide +kernel
theorem dX6_freeing_84 : decode cX6_freeing 84 = .ok (.ifCond .eq 7, 3) := by decide +kernel
theorem dX6_freeing_87 : decode cX6_freeing 87 = .ok (.iconst 1, 1) := by decide +kernel
theorem dX6_freeing_88 : decode cX6_freeing 88 = .ok (.goto 4, 3) := by decide +kernel
theorem dX6_freeing_91 : decode cX6_freeing 91 = .ok (.iconst 0, 1) := by decide +kernel
theorem dX6_freeing_92 : decode cX6_freeing 92 = .ok (.istore 8, 2) := by decide +kernel
theorem dX6_freeing_94 : decode cX6_freeing 94 = .ok (.iload 6, 2) := by decide +kernel
theorem dX6_freeing_96 : decode cX6_freeing 96 = .ok (.iload 10, 2) := by decide +kernel
theorem dX6_freeing_98 : decode cX6_freeing 98 = .ok (.ifCond .eq 12, 3) := by decide +kernel
theorem dX6_freeing_101 : decode cX6_freeing 101 = .ok (.aload_n 0, 1) := by decide +kernel
theorem dX6_freeing_102 : decode cX6_freeing 102 = .ok (.iload 9, 2) := by decide +kernel
theorem dX6_freeing_104 : decode cX6_freeing 104 = .ok (.invokevirtual 166, 3) := by decide +kernel
theorem dX6_freeing_107 : decode cX6_freeing 107 = .ok (.goto 4, 3) := by decide +kernel
theorem dX6_freeing_110 : decode cX6_freeing 110 = .ok (.iconst 0, 1) := by decide +kernel
theorem dX6_freeing_111 : decode cX6_freeing 111 = .ok (.iadd, 1) := by decide +kernel
theorem dX6_freeing_112 : decode cX6_freeing 112 = .ok (.istore 6, 2) := by decide +kernel
theorem dX6_freeing_114 : decode cX6_freeing 114 = .ok (.iload 7, 2) := by decide +kernel
theorem dX6_freeing_116 : decode cX6_freeing 116 = .ok (.iload 10, 2) := by decide +kernel
theorem dX6_freeing_118 : decode cX6_freeing 118 = .ok (.ifCond .eq 14, 3) := by decide +kernel
theorem dX6_freeing_121 : decode cX6_freeing 121 = .ok (.aload_n 0, 1) := by decide +kernel
theorem dX6_freeing_122 : decode cX6_freeing 122 = .ok (.iload 9, 2) := by decide +kernel
theorem dX6_freeing_124 : decode cX6_freeing 124 = .ok (.invokevirtual 122, 3) := by decide +kernel
theorem dX6_freeing_127 : decode cX6_freeing 127 = .ok (.iconst (-1), 1) := by decide +kernel
theorem dX6_freeing_128 : decode cX6_freeing 128 = .ok (.ixor, 1) := by decide +kernel
theorem dX6_freeing_129 : decode cX6_freeing 129 = .ok (.goto 4, 3) := by decide +kernel
theorem dX6_freeing_132 : decode cX6_freeing 132 = .ok (.iconst (-1), 1) := by decide +kernel
theorem dX6_freeing_133 : decode cX6_freeing 133 = .ok (.iand, 1) := by decide +kernel
theorem dX6_freeing_134 : decode cX6_freeing 134 = .ok (.istore 7, 2) := by decide +kernel
theorem dX6_freeing_136 : decode cX6_freeing 136 = .ok (.iinc 9 1, 3) := by decide +kernel
theorem dX6_freeing_139 : decode cX6_freeing 139 = .ok (.goto (-95), 3) := by decide +kernel
theorem dX6_freeing_142 : decode cX6_freeing 142 = .ok (.iload 8, 2) := by decide +kernel
theorem dX6_freeing_144 : decode cX6_freeing 144 = .ok (.ifCond .eq 86, 3) := by decide +kernel
theorem dX6_freeing_147 : decode cX6_freeing 147 = .ok (.iload 6, 2) := by decide +kernel
theorem dX6_freeing_149 : decode cX6_freeing 149 = .ok (.aload_n 0, 1) := by decide +kernel
theorem dX6_freeing_150 : decode cX6_freeing 150 = .ok (.getfield 19, 3) := by decide +kernel
theorem dX6_freeing_153 : decode cX6_freeing 153 = .ok (.iconst 0, 1) := by decide +kernel
theorem dX6_freeing_154 : decode cX6_freeing 154 = .ok (.iaload, 1) := by decide +kernel
theorem dX6_freeing_155 : decode cX6_freeing 155 = .ok (.if_icmp .gt 75, 3) := by decide +kernel
theorem dX6_freeing_158 : decode cX6_freeing 158 = .ok (.aload_n 0, 1) := by decide +kernel
theorem dX6_freeing_159 : decode cX6_freeing 159 = .ok (.iload 7, 2) := by decide +kernel
theorem dX6_freeing_161 : decode cX6_freeing 161 = .ok (.invokevirtual 173, 3) := by decide +kernel
theorem dX6_freeing_164 : decode cX6_freeing 164 = .ok (.istore 9, 2) := by decide +kernel
theorem dX6_freeing_166 : decode cX6_freeing 166 = .ok (.iload 9, 2) := by decide +kernel
theorem dX6_freeing_168 : decode cX6_freeing 168 = .ok (.iload_n 3, 1) := by decide +kernel
theorem dX6_freeing_169 : decode cX6_freeing 169 = .ok (.if_icmp .gt 16, 3) := by decide +kernel
theorem dX6_freeing_172 : decode cX6_freeing 172 = .ok (.iload 9, 2) := by decide +kernel
theorem dX6_freeing_174 : decode cX6_freeing 174 = .ok (.iload_n 3, 1) := by decide +kernel
theorem dX6_freeing_175 : decode cX6_freeing 175 = .ok (.if_icmp .ne 14, 3) := by decide +kernel
theorem dX6_freeing_178 : decode cX6_freeing 178 = .ok (.iload 6, 2) := by decide +kernel
theorem dX6_freeing_180 : decode cX6_freeing 180 = .ok (.iload 4, 2) := by decide +kernel
theorem dX6_freeing_182 : decode cX6_freeing 182 = .ok (.if_icmp .ge 7, 3) := by decide +kernel
theorem dX6_freeing_185 : decode cX6_freeing 185 = .ok (.iconst 1, 1) := by decide +kernel
theorem dX6_freeing_186 : decode cX6_freeing 186 = .ok (.goto 4, 3) := by decide +kernel
theorem dX6_freeing_189 : decode cX6_freeing 189 = .ok (.iconst 0, 1) := by decide +kernel
theorem dX6_freeing_190 : decode cX6_freeing 190 = .ok (.istore 10, 2) := by decide +kernel
theorem dX6_freeing_192 : decode cX6_freeing 192 = .ok (.iload 10, 2) := by decide +kernel
theorem dX6_freeing_194 : decode cX6_freeing 194 = .ok (.ifCond .eq 8, 3) := by decide +kernel
theorem dX6_freeing_197 : decode cX6_freeing 197 = .ok (.iload 5, 2) := by decide +kernel
theorem dX6_freeing_199 : decode cX6_freeing 199 = .ok (.goto 4, 3) := by decide +kernel
theorem dX6_freeing_202 : decode cX6_freeing 202 = .ok (.iload_n 2, 1) := by decide +kernel
theorem dX6_freeing_203 : decode cX6_freeing 203 = .ok (.istore_n 2, 1) := by decide +kernel
theorem dX6_freeing_204 : decode cX6_freeing 204 = .ok (.iload 10, 2) := by decide +kernel
theorem dX6_freeing_206 : decode cX6_freeing 206 = .ok (.ifCond .eq 8, 3) := by decide +kernel
theorem dX6_freeing_209 : decode cX6_freeing 209 = .ok (.iload 9, 2) := by decide +kernel
theorem dX6_freeing_211 : decode cX6_freeing 211 = .ok (.goto 4, 3) := by decide +kernel
theorem dX6_freeing_214 : decode cX6_freeing 214 = .ok (.iload_n 3, 1) := by decide +kernel
theorem dX6_freeing_215 : decode cX6_freeing 215 = .ok (.istore_n 3, 1) := by decide +kernel
theorem dX6_freeing_216 : decode cX6_freeing 216 = .ok (.iload 10, 2) := by decide +kernel
theorem dX6_freeing_218 : decode cX6_freeing 218 = .ok (.ifCond .eq 8, 3) := by decide +kernel
theorem dX6_freeing_221 : decode cX6_freeing 221 = .ok (.iload 6, 2) := by decide +kernel
theorem dX6_freeing_223 : decode cX6_freeing 223 = .ok (.goto 5, 3) := by decide +kernel
theorem dX6_freeing_226 : decode cX6_freeing 226 = .ok (.iload 4, 2) := by decide +kernel
theorem dX6_freeing_228 : decode cX6_freeing 228 = .ok (.istore 4, 2) := by decide +kernel
theorem dX6_freeing_230 : decode cX6_freeing 230 = .ok (.iinc 5 1, 3) := by decide +kernel
theorem dX6_freeing_233 : decode cX6_freeing 233 = .ok (.goto (-211), 3) := by decide +kernel
theorem dX6_freeing_236 : decode cX6_freeing 236 = .ok (.iload_n 1, 1) := by decide +kernel
theorem dX6_freeing_237 : decode cX6_freeing 237 = .ok (.ifCond .ne 7, 3) := by decide +kernel
theorem dX6_freeing_240 : decode cX6_freeing 240 = .ok (.iload_n 2, 1) := by decide +kernel
theorem dX6_freeing_241 : decode cX6_freeing 241 = .ok (.goto 4, 3) := by decide +kernel
theorem dX6_freeing_244 : decode cX6_freeing 244 = .ok (.iload_n 3, 1) := by decide +kernel
theorem dX6_freeing_245 : decode cX6_freeing 245 = .ok (.ireturn, 1) := by decide +kernel
theorem dX6_asides_0 : decode cX6_asides 0 = .ok (.iconst 0, 1) := by decide +kernel
theorem dX6_asides_1 : decode cX6_asides 1 = .ok (.istore_n 1, 1) := by decide +kernel
theorem dX6_asides_2 : decode cX6_asides 2 = .ok (.iload_n 1, 1) := by decide +kernel
theorem dX6_asides_3 : decode cX6_asides 3 = .ok (.bipush 15, 2) := by decide +kernel
theorem dX6_asides_5 : decode cX6_asides 5 = .ok (.if_icmp .ge 21, 3) := by decide +kernel
theorem dX6_asides_8 : decode cX6_asides 8 = .ok (.aload_n 0, 1) := by decide +kernel
theorem dX6_asides_9 : decode cX6_asides 9 = .ok (.getfield 25, 3) := by decide +kernel
theorem dX6_asides_12 : decode cX6_asides 12 = .ok (.iload_n 1, 1) := by decide +kernel
theorem dX6_asides_13 : decode cX6_asides 13 = .ok (.aload_n 0, 1) := by decide +kernel
theorem dX6_asides_14 : decode cX6_asides 14 = .ok (.getfield 19, 3) := by decide +kernel
theorem dX6_asides_17 : decode cX6_asides 17 = .ok (.iload_n 1, 1) := by decide +kernel
theorem dX6_asides_18 : decode cX6_asides 18 = .ok (.iaload, 1) := by decide +kernel
theorem dX6_asides_19 : decode cX6_asides 19 = .ok (.iastore, 1) := by decide +kernel
theorem dX6_asides_20 : decode cX6_asides 20 = .ok (.iinc 1 1, 3) := by decide +kernel
theorem dX6_asides_23 : decode cX6_asides 23 = .ok (.goto (-21), 3) := by decide +kernel
theorem dX6_asides_26 : decode cX6_asides 26 = .ok (.return_, 1) := by decide +kernel
theorem dX6_backs_0 : decode cX6_backs 0 = .ok (.iconst 0, 1) := by decide +kernel
theorem dX6_backs_1 : decode cX6_backs 1 = .ok (.istore_n 1, 1) := by decide +kernel
theorem dX6_backs_2 : decode cX6_backs 2 = .ok (.iload_n 1, 1) := by decide +kernel
theorem dX6_backs_3 : decode cX6_backs 3 = .ok (.bipush 15, 2) := by decide +kernel
theorem dX6_backs_5 : decode cX6_backs 5 = .ok (.if_icmp .ge 21, 3) := by decide +kernel
theorem dX6_backs_8 : decode cX6_backs 8 = .ok (.aload_n 0, 1) := by decide +kernel
theorem dX6_backs_9 : decode cX6_backs 9 = .ok (.getfield 19, 3) := by decide +kernel
theorem dX6_backs_12 : decode cX6_backs 12 = .ok (.iload_n 1, 1) := by decide +kernel
theorem dX6_backs_13 : decode cX6_backs 13 = .ok (.aload_n 0, 1) := by decide +kernel
theorem dX6_backs_14 : decode cX6_backs 14 = .ok (.getfield 25, 3) := by decide +kernel
theorem dX6_backs_17 : decode cX6_backs 17 = .ok (.iload_n 1, 1) := by decide +kernel
theorem dX6_backs_18 : decode cX6_backs 18 = .ok (.iaload, 1) := by decide +kernel
theorem dX6_backs_19 : decode cX6_backs 19 = .ok (.iastore, 1) := by decide +kernel
theorem dX6_backs_20 : decode cX6_backs 20 = .ok (.iinc 1 1, 3) := by decide +kernel
theorem dX6_backs_23 : decode cX6_backs 23 = .ok (.goto (-21), 3) := by decide +kernel
theorem dX6_backs_26 : decode cX6_backs 26 = .ok (.return_, 1) := by decide +kernel
theorem dX6_rich_0 : decode cX6_rich 0 = .ok (.iload_n 1, 1) := by decide +kernel
theorem dX6_rich_1 : decode cX6_rich 1 = .ok (.i2l, 1) := by decide +kernel
theorem dX6_rich_2 : decode cX6_rich 2 = .ok (.lconst 0, 1) := by decide +kernel
theorem dX6_rich_3 : decode cX6_rich 3 = .ok (.ldc2_w 187, 3) := by decide +kernel
theorem dX6_rich_6 : decode cX6_rich 6 = .ok (.invokestatic 45, 3) := by decide +kernel
theorem dX6_rich_9 : decode cX6_rich 9 = .ok (.ifCond .ne 5, 3) := by decide +kernel
theorem dX6_rich_12 : decode cX6_rich 12 = .ok (.iconst (-1), 1) := by decide +kernel
theorem dX6_rich_13 : decode cX6_rich 13 = .ok (.ireturn, 1) := by decide +kernel
theorem dX6_rich_14 : decode cX6_rich 14 = .ok (.aload_n 0, 1) := by decide +kernel
theorem dX6_rich_15 : decode cX6_rich 15 = .ok (.invokevirtual 189, 3) := by decide +kernel
theorem dX6_rich_18 : decode cX6_rich 18 = .ok (.iconst 0, 1) := by decide +kernel
theorem dX6_rich_19 : decode cX6_rich 19 = .ok (.istore_n 2, 1) := by decide +kernel
theorem dX6_rich_20 : decode cX6_rich 20 = .ok (.iload_n 2, 1) := by decide +kernel
theorem dX6_rich_21 : decode cX6_rich 21 = .ok (.bipush 61, 2) := by decide +kernel
theorem dX6_rich_23 : decode cX6_rich 23 = .ok (.if_icmp .ge 24, 3) := by decide +kernel
theorem dX6_rich_26 : decode cX6_rich 26 = .ok (.aload_n 0, 1) := by decide +kernel
theorem dX6_rich_27 : decode cX6_rich 27 = .ok (.getfield 19, 3) := by decide +kernel
theorem dX6_rich_30 : decode cX6_rich 30 = .ok (.iconst 0, 1) := by decide +kernel
theorem dX6_rich_31 : decode cX6_rich 31 = .ok (.iaload, 1) := by decide +kernel
theorem dX6_rich_32 : decode cX6_rich 32 = .ok (.iload_n 1, 1) := by decide +kernel
theorem dX6_rich_33 : decode cX6_rich 33 = .ok (.if_icmp .ge 14, 3) := by decide +kernel
theorem dX6_rich_36 : decode cX6_rich 36 = .ok (.aload_n 0, 1) := by decide +kernel
theorem dX6_rich_37 : decode cX6_rich 37 = .ok (.invokevirtual 179, 3) := by decide +kernel
theorem dX6_rich_40 : decode cX6_rich 40 = .ok (.pop, 1) := by decide +kernel
theorem dX6_rich_41 : decode cX6_rich 41 = .ok (.iinc 2 1, 3) := by decide +kernel
theorem dX6_rich_44 : decode cX6_rich 44 = .ok (.goto (-24), 3) := by decide +kernel
theorem dX6_rich_47 : decode cX6_rich 47 = .ok (.aload_n 0, 1) := by decide +kernel
theorem dX6_rich_48 : decode cX6_rich 48 = .ok (.invokevirtual 192, 3) := by decide +kernel
theorem dX6_rich_51 : decode cX6_rich 51 = .ok (.iload_n 2, 1) := by decide +kernel
theorem dX6_rich_52 : decode cX6_rich 52 = .ok (.bipush 60, 2) := by decide +kernel
theorem dX6_rich_54 : decode cX6_rich 54 = .ok (.if_icmp .le 8, 3) := by decide +kernel
theorem dX6_rich_57 : decode cX6_rich 57 = .ok (.bipush (-9), 2) := by decide +kernel
theorem dX6_rich_59 : decode cX6_rich 59 = .ok (.goto 4, 3) := by decide +kernel
theorem dX6_rich_62 : decode cX6_rich 62 = .ok (.iload_n 2, 1) := by decide +kernel
theorem dX6_rich_63 : decode cX6_rich 63 = .ok (.ireturn, 1) := by decide +kernel
theorem dX6_isBare_0 : decode cX6_isBare 0 = .ok (.iconst 1, 1) := by decide +kernel
theorem dX6_isBare_1 : decode cX6_isBare 1 = .ok (.istore_n 1, 1) := by decide +kernel
theorem dX6_isBare_2 : decode cX6_isBare 2 = .ok (.iconst 0, 1) := by decide +kernel
theorem dX6_isBare_3 : decode cX6_isBare 3 = .ok (.istore_n 2, 1) := by decide +kernel
theorem dX6_isBare_4 : decode cX6_isBare 4 = .ok (.iload_n 2, 1) := by decide +kernel
theorem dX6_isBare_5 : decode cX6_isBare 5 = .ok (.aload_n 0, 1) := by decide +kernel
theorem dX6_isBare_6 : decode cX6_isBare 6 = .ok (.getfield 16, 3) := by decide +kernel
theorem dX6_isBare_9 : decode cX6_isBare 9 = .ok (.iconst 2, 1) := by decide +kernel
theorem dX6_isBare_10 : decode cX6_isBare 10 = .ok (.iaload, 1) := by decide +kernel
theorem dX6_isBare_11 : decode cX6_isBare 11 = .ok (.if_icmp .ge 33, 3) := by decide +kernel
theorem dX6_isBare_14 : decode cX6_isBare 14 = .ok (.iload_n 1, 1) := by decide +kernel
theorem dX6_isBare_15 : decode cX6_isBare 15 = .ok (.ifCond .eq 21, 3) := by decide +kernel
theorem dX6_isBare_18 : decode cX6_isBare 18 = .ok (.aload_n 0, 1) := by decide +kernel
theorem dX6_isBare_19 : decode cX6_isBare 19 = .ok (.iload_n 2, 1) := by decide +kernel
theorem dX6_isBare_20 : decode cX6_isBare 20 = .ok (.aload_n 0, 1) := by decide +kernel
theorem dX6_isBare_21 : decode cX6_isBare 21 = .ok (.invokevirtual 144, 3) := by decide +kernel
theorem dX6_isBare_24 : decode cX6_isBare 24 = .ok (.invokevirtual 129, 3) := by decide +kernel
theorem dX6_isBare_27 : decode cX6_isBare 27 = .ok (.bipush (-9), 2) := by decide +kernel
theorem dX6_isBare_29 : decode cX6_isBare 29 = .ok (.if_icmp .ne 7, 3) := by decide +kernel
theorem dX6_isBare_32 : decode cX6_isBare 32 = .ok (.iconst 1, 1) := by decide +kernel
theorem dX6_isBare_33 : decode cX6_isBare 33 = .ok (.goto 4, 3) := by decide +kernel
theorem dX6_isBare_36 : decode cX6_isBare 36 = .ok (.iconst 0, 1) := by decide +kernel
theorem dX6_isBare_37 : decode cX6_isBare 37 = .ok (.istore_n 1, 1) := by decide +kernel
theorem dX6_isBare_38 : decode cX6_isBare 38 = .ok (.iinc 2 1, 3) := by decide +kernel
theorem dX6_isBare_41 : decode cX6_isBare 41 = .ok (.goto (-37), 3) := by decide +kernel
theorem dX6_isBare_44 : decode cX6_isBare 44 = .ok (.iload_n 1, 1) := by decide +kernel
theorem dX6_isBare_45 : decode cX6_isBare 45 = .ok (.ireturn, 1) := by decide +kernel
theorem dX6_bare_0 : decode cX6_bare 0 = .ok (.aload_n 0, 1) := by decide +kernel
theorem dX6_bare_1 : decode cX6_bare 1 = .ok (.invokevirtual 189, 3) := by decide +kernel
theorem dX6_bare_4 : decode cX6_bare 4 = .ok (.iconst 0, 1) := by decide +kernel
theorem dX6_bare_5 : decode cX6_bare 5 = .ok (.istore_n 1, 1) := by decide +kernel
theorem dX6_bare_6 : decode cX6_bare 6 = .ok (.iload_n 1, 1) := by decide +kernel
theorem dX6_bare_7 : decode cX6_bare 7 = .ok (.bipush 61, 2) := by decide +kernel
theorem dX6_bare_9 : decode cX6_bare 9 = .ok (.if_icmp .ge 21, 3) := by decide +kernel
theorem dX6_bare_12 : decode cX6_bare 12 = .ok (.aload_n 0, 1) := by decide +kernel
theorem dX6_bare_13 : decode cX6_bare 13 = .ok (.invokevirtual 195, 3) := by decide +kernel
theorem dX6_bare_16 : decode cX6_bare 16 = .ok (.ifCond .ne 14, 3) := by decide +kernel
theorem dX6_bare_19 : decode cX6_bare 19 = .ok (.aload_n 0, 1) := by decide +kernel
theorem dX6_bare_20 : decode cX6_bare 20 = .ok (.invokevirtual 179, 3) := by decide +kernel
theorem dX6_bare_23 : decode cX6_bare 23 = .ok (.pop, 1) := by decide +kernel
theorem dX6_bare_24 : decode cX6_bare 24 = .ok (.iinc 1 1, 3) := by decide +kernel
theorem dX6_bare_27 : decode cX6_bare 27 = .ok (.goto (-21), 3) := by decide +kernel
theorem dX6_bare_30 : decode cX6_bare 30 = .ok (.aload_n 0, 1) := by decide +kernel
theorem dX6_bare_31 : decode cX6_bare 31 = .ok (.invokevirtual 192, 3) := by decide +kernel
theorem dX6_bare_34 : decode cX6_bare 34 = .ok (.iload_n 1, 1) := by decide +kernel
theorem dX6_bare_35 : decode cX6_bare 35 = .ok (.bipush 60, 2) := by decide +kernel
theorem dX6_bare_37 : decode cX6_bare 37 = .ok (.if_icmp .le 8, 3) := by decide +kernel
theorem dX6_bare_40 : decode cX6_bare 40 = .ok (.bipush (-9), 2) := by decide +kernel
theorem dX6_bare_42 : decode cX6_bare 42 = .ok (.goto 4, 3) := by decide +kernel
theorem dX6_bare_45 : decode cX6_bare 45 = .ok (.iload_n 1, 1) := by decide +kernel
theorem dX6_bare_46 : decode cX6_bare 46 = .ok (.ireturn, 1) := by decide +kernel
theorem dX6_tells_0 : decode cX6_tells 0 = .ok (.aload_n 0, 1) := by decide +kernel
theorem dX6_tells_1 : decode cX6_tells 1 = .ok (.iload_n 1, 1) := by decide +kernel
theorem dX6_tells_2 : decode cX6_tells 2 = .ok (.invokevirtual 139, 3) := by decide +kernel
theorem dX6_tells_5 : decode cX6_tells 5 = .ok (.ifCond .eq 13, 3) := by decide +kernel
theorem dX6_tells_8 : decode cX6_tells 8 = .ok (.iload_n 2, 1) := by decide +kernel
theorem dX6_tells_9 : decode cX6_tells 9 = .ok (.i2l, 1) := by decide +kernel
theorem dX6_tells_10 : decode cX6_tells 10 = .ok (.lconst 0, 1) := by decide +kernel
theorem dX6_tells_11 : decode cX6_tells 11 = .ok (.lconst 1, 1) := by decide +kernel
theorem dX6_tells_12 : decode cX6_tells 12 = .ok (.invokestatic 45, 3) := by decide +kernel
theorem dX6_tells_15 : decode cX6_tells 15 = .ok (.ifCond .ne 5, 3) := by decide +kernel
theorem dX6_tells_18 : decode cX6_tells 18 = .ok (.iconst (-1), 1) := by decide +kernel
theorem dX6_tells_19 : decode cX6_tells 19 = .ok (.ireturn, 1) := by decide +kernel
theorem dX6_tells_20 : decode cX6_tells 20 = .ok (.aload_n 0, 1) := by decide +kernel
theorem dX6_tells_21 : decode cX6_tells 21 = .ok (.getfield 110, 3) := by decide +kernel
theorem dX6_tells_24 : decode cX6_tells 24 = .ok (.bipush 6, 2) := by decide +kernel
theorem dX6_tells_26 : decode cX6_tells 26 = .ok (.if_icmp .ne 6, 3) := by decide +kernel
theorem dX6_tells_29 : decode cX6_tells 29 = .ok (.bipush (-3), 2) := by decide +kernel
theorem dX6_tells_31 : decode cX6_tells 31 = .ok (.ireturn, 1) := by decide +kernel
theorem dX6_tells_32 : decode cX6_tells 32 = .ok (.aload_n 0, 1) := by decide +kernel
theorem dX6_tells_33 : decode cX6_tells 33 = .ok (.getfield 28, 3) := by decide +kernel
theorem dX6_tells_36 : decode cX6_tells 36 = .ok (.aload_n 0, 1) := by decide +kernel
theorem dX6_tells_37 : decode cX6_tells 37 = .ok (.getfield 110, 3) := by decide +kernel
theorem dX6_tells_40 : decode cX6_tells 40 = .ok (.iload_n 1, 1) := by decide +kernel
theorem dX6_tells_41 : decode cX6_tells 41 = .ok (.iastore, 1) := by decide +kernel
theorem dX6_tells_42 : decode cX6_tells 42 = .ok (.aload_n 0, 1) := by decide +kernel
theorem dX6_tells_43 : decode cX6_tells 43 = .ok (.getfield 31, 3) := by decide +kernel
theorem dX6_tells_46 : decode cX6_tells 46 = .ok (.aload_n 0, 1) := by decide +kernel
theorem dX6_tells_47 : decode cX6_tells 47 = .ok (.getfield 110, 3) := by decide +kernel
theorem dX6_tells_50 : decode cX6_tells 50 = .ok (.iload_n 2, 1) := by decide +kernel
theorem dX6_tells_51 : decode cX6_tells 51 = .ok (.iastore, 1) := by decide +kernel
theorem dX6_tells_52 : decode cX6_tells 52 = .ok (.aload_n 0, 1) := by decide +kernel
theorem dX6_tells_53 : decode cX6_tells 53 = .ok (.dup, 1) := by decide +kernel
theorem dX6_tells_54 : decode cX6_tells 54 = .ok (.getfield 110, 3) := by decide +kernel
theorem dX6_tells_57 : decode cX6_tells 57 = .ok (.iconst 1, 1) := by decide +kernel
theorem dX6_tells_58 : decode cX6_tells 58 = .ok (.iadd, 1) := by decide +kernel
theorem dX6_tells_59 : decode cX6_tells 59 = .ok (.putfield 110, 3) := by decide +kernel
theorem dX6_tells_62 : decode cX6_tells 62 = .ok (.aload_n 0, 1) := by decide +kernel
theorem dX6_tells_63 : decode cX6_tells 63 = .ok (.getfield 110, 3) := by decide +kernel
theorem dX6_tells_66 : decode cX6_tells 66 = .ok (.ireturn, 1) := by decide +kernel
theorem dX6_forget_0 : decode cX6_forget 0 = .ok (.aload_n 0, 1) := by decide +kernel
theorem dX6_forget_1 : decode cX6_forget 1 = .ok (.getfield 110, 3) := by decide +kernel
theorem dX6_forget_4 : decode cX6_forget 4 = .ok (.istore_n 1, 1) := by decide +kernel
theorem dX6_forget_5 : decode cX6_forget 5 = .ok (.aload_n 0, 1) := by decide +kernel
theorem dX6_forget_6 : decode cX6_forget 6 = .ok (.iconst 0, 1) := by decide +kernel
theorem dX6_forget_7 : decode cX6_forget 7 = .ok (.putfield 110, 3) := by decide +kernel
theorem dX6_forget_10 : decode cX6_forget 10 = .ok (.iload_n 1, 1) := by decide +kernel
theorem dX6_forget_11 : decode cX6_forget 11 = .ok (.ireturn, 1) := by decide +kernel
theorem dX6_isSo_0 : decode cX6_isSo 0 = .ok (.iconst 1, 1) := by decide +kernel
theorem dX6_isSo_1 : decode cX6_isSo 1 = .ok (.istore_n 2, 1) := by decide +kernel
theorem dX6_isSo_2 : decode cX6_isSo 2 = .ok (.iconst 0, 1) := by decide +kernel
theorem dX6_isSo_3 : decode cX6_isSo 3 = .ok (.istore_n 3, 1) := by decide +kernel
theorem dX6_isSo_4 : decode cX6_isSo 4 = .ok (.iload_n 3, 1) := by decide +kernel
theorem dX6_isSo_5 : decode cX6_isSo 5 = .ok (.aload_n 0, 1) := by decide +kernel
theorem dX6_isSo_6 : decode cX6_isSo 6 = .ok (.getfield 110, 3) := by decide +kernel
theorem dX6_isSo_9 : decode cX6_isSo 9 = .ok (.if_icmp .ge 49, 3) := by decide +kernel
theorem dX6_isSo_12 : decode cX6_isSo 12 = .ok (.iload_n 2, 1) := by decide +kernel
theorem dX6_isSo_13 : decode cX6_isSo 13 = .ok (.ifCond .eq 37, 3) := by decide +kernel
theorem dX6_isSo_16 : decode cX6_isSo 16 = .ok (.aload_n 0, 1) := by decide +kernel
theorem dX6_isSo_17 : decode cX6_isSo 17 = .ok (.aload_n 0, 1) := by decide +kernel
theorem dX6_isSo_18 : decode cX6_isSo 18 = .ok (.getfield 28, 3) := by decide +kernel
theorem dX6_isSo_21 : decode cX6_isSo 21 = .ok (.iload_n 3, 1) := by decide +kernel
theorem dX6_isSo_22 : decode cX6_isSo 22 = .ok (.iaload, 1) := by decide +kernel
theorem dX6_isSo_23 : decode cX6_isSo 23 = .ok (.iload_n 1, 1) := by decide +kernel
theorem dX6_isSo_24 : decode cX6_isSo 24 = .ok (.invokevirtual 129, 3) := by decide +kernel
theorem dX6_isSo_27 : decode cX6_isSo 27 = .ok (.bipush (-9), 2) := by decide +kernel
theorem dX6_isSo_29 : decode cX6_isSo 29 = .ok (.if_icmp .ne 7, 3) := by decide +kernel
theorem dX6_isSo_32 : decode cX6_isSo 32 = .ok (.iconst 0, 1) := by decide +kernel
theorem dX6_isSo_33 : decode cX6_isSo 33 = .ok (.goto 4, 3) := by decide +kernel
theorem dX6_isSo_36 : decode cX6_isSo 36 = .ok (.iconst 1, 1) := by decide +kernel
theorem dX6_isSo_37 : decode cX6_isSo 37 = .ok (.aload_n 0, 1) := by decide +kernel
theorem dX6_isSo_38 : decode cX6_isSo 38 = .ok (.getfield 31, 3) := by decide +kernel
theorem dX6_isSo_41 : decode cX6_isSo 41 = .ok (.iload_n 3, 1) := by decide +kernel
theorem dX6_isSo_42 : decode cX6_isSo 42 = .ok (.iaload, 1) := by decide +kernel
theorem dX6_isSo_43 : decode cX6_isSo 43 = .ok (.if_icmp .ne 7, 3) := by decide +kernel
theorem dX6_isSo_46 : decode cX6_isSo 46 = .ok (.iconst 1, 1) := by decide +kernel
theorem dX6_isSo_47 : decode cX6_isSo 47 = .ok (.goto 4, 3) := by decide +kernel
theorem dX6_isSo_50 : decode cX6_isSo 50 = .ok (.iconst 0, 1) := by decide +kernel
theorem dX6_isSo_51 : decode cX6_isSo 51 = .ok (.istore_n 2, 1) := by decide +kernel
theorem dX6_isSo_52 : decode cX6_isSo 52 = .ok (.iinc 3 1, 3) := by decide +kernel
theorem dX6_isSo_55 : decode cX6_isSo 55 = .ok (.goto (-51), 3) := by decide +kernel
theorem dX6_isSo_58 : decode cX6_isSo 58 = .ok (.iload_n 2, 1) := by decide +kernel
theorem dX6_isSo_59 : decode cX6_isSo 59 = .ok (.ireturn, 1) := by decide +kernel
theorem dX6_fits_0 : decode cX6_fits 0 = .ok (.iload_n 1, 1) := by decide +kernel
theorem dX6_fits_1 : decode cX6_fits 1 = .ok (.i2l, 1) := by decide +kernel
theorem dX6_fits_2 : decode cX6_fits 2 = .ok (.lconst 0, 1) := by decide +kernel
theorem dX6_fits_3 : decode cX6_fits 3 = .ok (.ldc2_w 150, 3) := by decide +kernel
theorem dX6_fits_6 : decode cX6_fits 6 = .ok (.invokestatic 45, 3) := by decide +kernel
theorem dX6_fits_9 : decode cX6_fits 9 = .ok (.ifCond .ne 5, 3) := by decide +kernel
theorem dX6_fits_12 : decode cX6_fits 12 = .ok (.iconst (-1), 1) := by decide +kernel
theorem dX6_fits_13 : decode cX6_fits 13 = .ok (.ireturn, 1) := by decide +kernel
theorem dX6_fits_14 : decode cX6_fits 14 = .ok (.iconst 0, 1) := by decide +kernel
theorem dX6_fits_15 : decode cX6_fits 15 = .ok (.istore_n 2, 1) := by decide +kernel
theorem dX6_fits_16 : decode cX6_fits 16 = .ok (.bipush (-9), 2) := by decide +kernel
theorem dX6_fits_18 : decode cX6_fits 18 = .ok (.istore_n 3, 1) := by decide +kernel
theorem dX6_fits_19 : decode cX6_fits 19 = .ok (.iconst (-1), 1) := by decide +kernel
theorem dX6_fits_20 : decode cX6_fits 20 = .ok (.istore 4, 2) := by decide +kernel
theorem dX6_fits_22 : decode cX6_fits 22 = .ok (.iconst 0, 1) := by decide +kernel
theorem dX6_fits_23 : decode cX6_fits 23 = .ok (.istore 5, 2) := by decide +kernel
theorem dX6_fits_25 : decode cX6_fits 25 = .ok (.iload 5, 2) := by decide +kernel
theorem dX6_fits_27 : decode cX6_fits 27 = .ok (.aload_n 0, 1) := by decide +kernel
theorem dX6_fits_28 : decode cX6_fits 28 = .ok (.invokevirtual 116, 3) := by decide +kernel
theorem dX6_fits_31 : decode cX6_fits 31 = .ok (.if_icmp .ge 83, 3) := by decide +kernel
theorem dX6_fits_34 : decode cX6_fits 34 = .ok (.iconst 1, 1) := by decide +kernel
theorem dX6_fits_35 : decode cX6_fits 35 = .ok (.istore 6, 2) := by decide +kernel
theorem dX6_fits_37 : decode cX6_fits 37 = .ok (.iload 6, 2) := by decide +kernel
theorem dX6_fits_39 : decode cX6_fits 39 = .ok (.bipush 10, 2) := by decide +kernel
theorem dX6_fits_41 : decode cX6_fits 41 = .ok (.if_icmp .ge 67, 3) := by decide +kernel
theorem dX6_fits_44 : decode cX6_fits 44 = .ok (.iload 5, 2) := by decide +kernel
theorem dX6_fits_46 : decode cX6_fits 46 = .ok (.iload 6, 2) := by decide +kernel
theorem dX6_fits_48 : decode cX6_fits 48 = .ok (.iadd, 1) := by decide +kernel
theorem dX6_fits_49 : decode cX6_fits 49 = .ok (.aload_n 0, 1) := by decide +kernel
theorem dX6_fits_50 : decode cX6_fits 50 = .ok (.invokevirtual 116, 3) := by decide +kernel
theorem dX6_fits_53 : decode cX6_fits 53 = .ok (.if_icmp .gt 55, 3) := by decide +kernel
theorem dX6_fits_56 : decode cX6_fits 56 = .ok (.aload_n 0, 1) := by decide +kernel
theorem dX6_fits_57 : decode cX6_fits 57 = .ok (.iload 5, 2) := by decide +kernel
theorem dX6_fits_59 : decode cX6_fits 59 = .ok (.iload 6, 2) := by decide +kernel
theorem dX6_fits_61 : decode cX6_fits 61 = .ok (.invokestatic 152, 3) := by decide +kernel
theorem dX6_fits_64 : decode cX6_fits 64 = .ok (.invokevirtual 198, 3) := by decide +kernel
theorem dX6_fits_67 : decode cX6_fits 67 = .ok (.ifCond .eq 35, 3) := by decide +kernel
theorem dX6_fits_70 : decode cX6_fits 70 = .ok (.iload_n 2, 1) := by decide +kernel
theorem dX6_fits_71 : decode cX6_fits 71 = .ok (.ifCond .ne 14, 3) := by decide +kernel
theorem dX6_fits_74 : decode cX6_fits 74 = .ok (.bipush 100, 2) := by decide +kernel
theorem dX6_fits_76 : decode cX6_fits 76 = .ok (.iload 5, 2) := by decide +kernel
theorem dX6_fits_78 : decode cX6_fits 78 = .ok (.imul, 1) := by decide +kernel
theorem dX6_fits_79 : decode cX6_fits 79 = .ok (.iload 6, 2) := by decide +kernel
theorem dX6_fits_81 : decode cX6_fits 81 = .ok (.iadd, 1) := by decide +kernel
theorem dX6_fits_82 : decode cX6_fits 82 = .ok (.goto 4, 3) := by decide +kernel
theorem dX6_fits_85 : decode cX6_fits 85 = .ok (.iload_n 3, 1) := by decide +kernel
theorem dX6_fits_86 : decode cX6_fits 86 = .ok (.istore_n 3, 1) := by decide +kernel
theorem dX6_fits_87 : decode cX6_fits 87 = .ok (.iinc 2 1, 3) := by decide +kernel
theorem dX6_fits_90 : decode cX6_fits 90 = .ok (.iload 4, 2) := by decide +kernel
theorem dX6_fits_92 : decode cX6_fits 92 = .ok (.iload 5, 2) := by decide +kernel
theorem dX6_fits_94 : decode cX6_fits 94 = .ok (.iload 6, 2) := by decide +kernel
theorem dX6_fits_96 : decode cX6_fits 96 = .ok (.invokestatic 152, 3) := by decide +kernel
theorem dX6_fits_99 : decode cX6_fits 99 = .ok (.iand, 1) := by decide +kernel
theorem dX6_fits_100 : decode cX6_fits 100 = .ok (.istore 4, 2) := by decide +kernel
theorem dX6_fits_102 : decode cX6_fits 102 = .ok (.iinc 6 1, 3) := by decide +kernel
theorem dX6_fits_105 : decode cX6_fits 105 = .ok (.goto (-68), 3) := by decide +kernel
theorem dX6_fits_108 : decode cX6_fits 108 = .ok (.iinc 5 1, 3) := by decide +kernel
theorem dX6_fits_111 : decode cX6_fits 111 = .ok (.goto (-86), 3) := by decide +kernel
theorem dX6_fits_114 : decode cX6_fits 114 = .ok (.iload_n 1, 1) := by decide +kernel
theorem dX6_fits_115 : decode cX6_fits 115 = .ok (.ifCond .ne 7, 3) := by decide +kernel
theorem dX6_fits_118 : decode cX6_fits 118 = .ok (.iload_n 2, 1) := by decide +kernel
theorem dX6_fits_119 : decode cX6_fits 119 = .ok (.goto 23, 3) := by decide +kernel
theorem dX6_fits_122 : decode cX6_fits 122 = .ok (.iload_n 2, 1) := by decide +kernel
theorem dX6_fits_123 : decode cX6_fits 123 = .ok (.ifCond .ne 8, 3) := by decide +kernel
theorem dX6_fits_126 : decode cX6_fits 126 = .ok (.bipush (-9), 2) := by decide +kernel
theorem dX6_fits_128 : decode cX6_fits 128 = .ok (.goto 14, 3) := by decide +kernel
theorem dX6_fits_131 : decode cX6_fits 131 = .ok (.iload_n 1, 1) := by decide +kernel
theorem dX6_fits_132 : decode cX6_fits 132 = .ok (.iconst 1, 1) := by decide +kernel
theorem dX6_fits_133 : decode cX6_fits 133 = .ok (.if_icmp .ne 7, 3) := by decide +kernel
theorem dX6_fits_136 : decode cX6_fits 136 = .ok (.iload_n 3, 1) := by decide +kernel
theorem dX6_fits_137 : decode cX6_fits 137 = .ok (.goto 5, 3) := by decide +kernel
theorem dX6_fits_140 : decode cX6_fits 140 = .ok (.iload 4, 2) := by decide +kernel
theorem dX6_fits_142 : decode cX6_fits 142 = .ok (.ireturn, 1) := by decide +kernel
theorem dX6_odds_0 : decode cX6_odds 0 = .ok (.iload_n 1, 1) := by decide +kernel
theorem dX6_odds_1 : decode cX6_odds 1 = .ok (.i2l, 1) := by decide +kernel
theorem dX6_odds_2 : decode cX6_odds 2 = .ok (.lconst 0, 1) := by decide +kernel
theorem dX6_odds_3 : decode cX6_odds 3 = .ok (.ldc2_w 201, 3) := by decide +kernel
theorem dX6_odds_6 : decode cX6_odds 6 = .ok (.invokestatic 45, 3) := by decide +kernel
theorem dX6_odds_9 : decode cX6_odds 9 = .ok (.ifCond .eq 25, 3) := by decide +kernel
theorem dX6_odds_12 : decode cX6_odds 12 = .ok (.iload_n 2, 1) := by decide +kernel
theorem dX6_odds_13 : decode cX6_odds 13 = .ok (.i2l, 1) := by decide +kernel
theorem dX6_odds_14 : decode cX6_odds 14 = .ok (.lconst 0, 1) := by decide +kernel
theorem dX6_odds_15 : decode cX6_odds 15 = .ok (.ldc2_w 185, 3) := by decide +kernel
theorem dX6_odds_18 : decode cX6_odds 18 = .ok (.invokestatic 45, 3) := by decide +kernel
theorem dX6_odds_21 : decode cX6_odds 21 = .ok (.ifCond .eq 13, 3) := by decide +kernel
theorem dX6_odds_24 : decode cX6_odds 24 = .ok (.iload_n 3, 1) := by decide +kernel
theorem dX6_odds_25 : decode cX6_odds 25 = .ok (.i2l, 1) := by decide +kernel
theorem dX6_odds_26 : decode cX6_odds 26 = .ok (.lconst 0, 1) := by decide +kernel
theorem dX6_odds_27 : decode cX6_odds 27 = .ok (.lconst 1, 1) := by decide +kernel
theorem dX6_odds_28 : decode cX6_odds 28 = .ok (.invokestatic 45, 3) := by decide +kernel
theorem dX6_odds_31 : decode cX6_odds 31 = .ok (.ifCond .ne 5, 3) := by decide +kernel
theorem dX6_odds_34 : decode cX6_odds 34 = .ok (.iconst (-1), 1) := by decide +kernel
theorem dX6_odds_35 : decode cX6_odds 35 = .ok (.ireturn, 1) := by decide +kernel
theorem dX6_odds_36 : decode cX6_odds 36 = .ok (.iconst 0, 1) := by decide +kernel
theorem dX6_odds_37 : decode cX6_odds 37 = .ok (.istore 4, 2) := by decide +kernel
theorem dX6_odds_39 : decode cX6_odds 39 = .ok (.iconst 0, 1) := by decide +kernel
theorem dX6_odds_40 : decode cX6_odds 40 = .ok (.istore 5, 2) := by decide +kernel
theorem dX6_odds_42 : decode cX6_odds 42 = .ok (.iconst 0, 1) := by decide +kernel
theorem dX6_odds_43 : decode cX6_odds 43 = .ok (.istore 6, 2) := by decide +kernel
theorem dX6_odds_45 : decode cX6_odds 45 = .ok (.iload 6, 2) := by decide +kernel
theorem dX6_odds_47 : decode cX6_odds 47 = .ok (.iconst 1, 1) := by decide +kernel
theorem dX6_odds_48 : decode cX6_odds 48 = .ok (.aload_n 0, 1) := by decide +kernel
theorem dX6_odds_49 : decode cX6_odds 49 = .ok (.getfield 16, 3) := by decide +kernel
theorem dX6_odds_52 : decode cX6_odds 52 = .ok (.iconst 2, 1) := by decide +kernel
theorem dX6_odds_53 : decode cX6_odds 53 = .ok (.iaload, 1) := by decide +kernel
theorem dX6_odds_54 : decode cX6_odds 54 = .ok (.ishl, 1) := by decide +kernel
theorem dX6_odds_55 : decode cX6_odds 55 = .ok (.if_icmp .ge 160, 3) := by decide +kernel
theorem dX6_odds_58 : decode cX6_odds 58 = .ok (.iconst 1, 1) := by decide +kernel
theorem dX6_odds_59 : decode cX6_odds 59 = .ok (.istore 7, 2) := by decide +kernel
theorem dX6_odds_61 : decode cX6_odds 61 = .ok (.iconst 0, 1) := by decide +kernel
theorem dX6_odds_62 : decode cX6_odds 62 = .ok (.istore 8, 2) := by decide +kernel
theorem dX6_odds_64 : decode cX6_odds 64 = .ok (.iconst 0, 1) := by decide +kernel
theorem dX6_odds_65 : decode cX6_odds 65 = .ok (.istore 9, 2) := by decide +kernel
theorem dX6_odds_67 : decode cX6_odds 67 = .ok (.iload 9, 2) := by decide +kernel
theorem dX6_odds_69 : decode cX6_odds 69 = .ok (.aload_n 0, 1) := by decide +kernel
theorem dX6_odds_70 : decode cX6_odds 70 = .ok (.getfield 16, 3) := by decide +kernel
theorem dX6_odds_73 : decode cX6_odds 73 = .ok (.iconst 2, 1) := by decide +kernel
theorem dX6_odds_74 : decode cX6_odds 74 = .ok (.iaload, 1) := by decide +kernel
theorem dX6_odds_75 : decode cX6_odds 75 = .ok (.if_icmp .ge 110, 3) := by decide +kernel
theorem dX6_odds_78 : decode cX6_odds 78 = .ok (.iload 6, 2) := by decide +kernel
theorem dX6_odds_80 : decode cX6_odds 80 = .ok (.iload 9, 2) := by decide +kernel
theorem dX6_odds_82 : decode cX6_odds 82 = .ok (.ishr, 1) := by decide +kernel
theorem dX6_odds_83 : decode cX6_odds 83 = .ok (.iconst 1, 1) := by decide +kernel
theorem dX6_odds_84 : decode cX6_odds 84 = .ok (.iand, 1) := by decide +kernel
theorem dX6_odds_85 : decode cX6_odds 85 = .ok (.iconst 1, 1) := by decide +kernel
theorem dX6_odds_86 : decode cX6_odds 86 = .ok (.if_icmp .ne 7, 3) := by decide +kernel
theorem dX6_odds_89 : decode cX6_odds 89 = .ok (.iconst 1, 1) := by decide +kernel
theorem dX6_odds_90 : decode cX6_odds 90 = .ok (.goto 4, 3) := by decide +kernel
theorem dX6_odds_93 : decode cX6_odds 93 = .ok (.iconst 0, 1) := by decide +kernel
theorem dX6_odds_94 : decode cX6_odds 94 = .ok (.istore 10, 2) := by decide +kernel
theorem dX6_odds_96 : decode cX6_odds 96 = .ok (.aload_n 0, 1) := by decide +kernel
theorem dX6_odds_97 : decode cX6_odds 97 = .ok (.iload 9, 2) := by decide +kernel
theorem dX6_odds_99 : decode cX6_odds 99 = .ok (.aload_n 0, 1) := by decide +kernel
theorem dX6_odds_100 : decode cX6_odds 100 = .ok (.invokevirtual 144, 3) := by decide +kernel
theorem dX6_odds_103 : decode cX6_odds 103 = .ok (.invokevirtual 129, 3) := by decide +kernel
theorem dX6_odds_106 : decode cX6_odds 106 = .ok (.bipush (-9), 2) := by decide +kernel
theorem dX6_odds_108 : decode cX6_odds 108 = .ok (.if_icmp .eq 7, 3) := by decide +kernel
theorem dX6_odds_111 : decode cX6_odds 111 = .ok (.iconst 1, 1) := by decide +kernel
theorem dX6_odds_112 : decode cX6_odds 112 = .ok (.goto 4, 3) := by decide +kernel
theorem dX6_odds_115 : decode cX6_odds 115 = .ok (.iconst 0, 1) := by decide +kernel
theorem dX6_odds_116 : decode cX6_odds 116 = .ok (.istore 11, 2) := by decide +kernel
theorem dX6_odds_118 : decode cX6_odds 118 = .ok (.iload 7, 2) := by decide +kernel
theorem dX6_odds_120 : decode cX6_odds 120 = .ok (.iload 11, 2) := by decide +kernel
theorem dX6_odds_122 : decode cX6_odds 122 = .ok (.ifCond .eq 19, 3) := by decide +kernel
theorem dX6_odds_125 : decode cX6_odds 125 = .ok (.iload 10, 2) := by decide +kernel
theorem dX6_odds_127 : decode cX6_odds 127 = .ok (.ifCond .eq 7, 3) := by decide +kernel
theorem dX6_odds_130 : decode cX6_odds 130 = .ok (.iload_n 1, 1) := by decide +kernel
theorem dX6_odds_131 : decode cX6_odds 131 = .ok (.goto 20, 3) := by decide +kernel
theorem dX6_odds_134 : decode cX6_odds 134 = .ok (.bipush 10, 2) := by decide +kernel
theorem dX6_odds_136 : decode cX6_odds 136 = .ok (.iload_n 1, 1) := by decide +kernel
theorem dX6_odds_137 : decode cX6_odds 137 = .ok (.isub, 1) := by decide +kernel
theorem dX6_odds_138 : decode cX6_odds 138 = .ok (.goto 13, 3) := by decide +kernel
theorem dX6_odds_141 : decode cX6_odds 141 = .ok (.iload 10, 2) := by decide +kernel
theorem dX6_odds_143 : decode cX6_odds 143 = .ok (.ifCond .eq 7, 3) := by decide +kernel
theorem dX6_odds_146 : decode cX6_odds 146 = .ok (.iconst 0, 1) := by decide +kernel
theorem dX6_odds_147 : decode cX6_odds 147 = .ok (.goto 4, 3) := by decide +kernel
theorem dX6_odds_150 : decode cX6_odds 150 = .ok (.iconst 1, 1) := by decide +kernel
theorem dX6_odds_151 : decode cX6_odds 151 = .ok (.imul, 1) := by decide +kernel
theorem dX6_odds_152 : decode cX6_odds 152 = .ok (.istore 7, 2) := by decide +kernel
theorem dX6_odds_154 : decode cX6_odds 154 = .ok (.iload 8, 2) := by decide +kernel
theorem dX6_odds_156 : decode cX6_odds 156 = .ok (.iload 11, 2) := by decide +kernel
theorem dX6_odds_158 : decode cX6_odds 158 = .ok (.ifCond .eq 17, 3) := by decide +kernel
theorem dX6_odds_161 : decode cX6_odds 161 = .ok (.iload 10, 2) := by decide +kernel
theorem dX6_odds_163 : decode cX6_odds 163 = .ok (.ifCond .ne 12, 3) := by decide +kernel
theorem dX6_odds_166 : decode cX6_odds 166 = .ok (.aload_n 0, 1) := by decide +kernel
theorem dX6_odds_167 : decode cX6_odds 167 = .ok (.iload 9, 2) := by decide +kernel
theorem dX6_odds_169 : decode cX6_odds 169 = .ok (.invokevirtual 133, 3) := by decide +kernel
theorem dX6_odds_172 : decode cX6_odds 172 = .ok (.goto 4, 3) := by decide +kernel
theorem dX6_odds_175 : decode cX6_odds 175 = .ok (.iconst 0, 1) := by decide +kernel
theorem dX6_odds_176 : decode cX6_odds 176 = .ok (.iadd, 1) := by decide +kernel
theorem dX6_odds_177 : decode cX6_odds 177 = .ok (.istore 8, 2) := by decide +kernel
theorem dX6_odds_179 : decode cX6_odds 179 = .ok (.iinc 9 1, 3) := by decide +kernel
theorem dX6_odds_182 : decode cX6_odds 182 = .ok (.goto (-115), 3) := by decide +kernel
theorem dX6_odds_185 : decode cX6_odds 185 = .ok (.iload 5, 2) := by decide +kernel
theorem dX6_odds_187 : decode cX6_odds 187 = .ok (.iload 7, 2) := by decide +kernel
theorem dX6_odds_189 : decode cX6_odds 189 = .ok (.iadd, 1) := by decide +kernel
theorem dX6_odds_190 : decode cX6_odds 190 = .ok (.istore 5, 2) := by decide +kernel
theorem dX6_odds_192 : decode cX6_odds 192 = .ok (.iload 4, 2) := by decide +kernel
theorem dX6_odds_194 : decode cX6_odds 194 = .ok (.iload 8, 2) := by decide +kernel
theorem dX6_odds_196 : decode cX6_odds 196 = .ok (.iload_n 2, 1) := by decide +kernel
theorem dX6_odds_197 : decode cX6_odds 197 = .ok (.if_icmp .lt 8, 3) := by decide +kernel
theorem dX6_odds_200 : decode cX6_odds 200 = .ok (.iload 7, 2) := by decide +kernel
theorem dX6_odds_202 : decode cX6_odds 202 = .ok (.goto 4, 3) := by decide +kernel
theorem dX6_odds_205 : decode cX6_odds 205 = .ok (.iconst 0, 1) := by decide +kernel
theorem dX6_odds_206 : decode cX6_odds 206 = .ok (.iadd, 1) := by decide +kernel
theorem dX6_odds_207 : decode cX6_odds 207 = .ok (.istore 4, 2) := by decide +kernel
theorem dX6_odds_209 : decode cX6_odds 209 = .ok (.iinc 6 1, 3) := by decide +kernel
theorem dX6_odds_212 : decode cX6_odds 212 = .ok (.goto (-167), 3) := by decide +kernel
theorem dX6_odds_215 : decode cX6_odds 215 = .ok (.iload 4, 2) := by decide +kernel
theorem dX6_odds_217 : decode cX6_odds 217 = .ok (.istore 6, 2) := by decide +kernel
theorem dX6_odds_219 : decode cX6_odds 219 = .ok (.iload 5, 2) := by decide +kernel
theorem dX6_odds_221 : decode cX6_odds 221 = .ok (.istore 7, 2) := by decide +kernel
theorem dX6_odds_223 : decode cX6_odds 223 = .ok (.iload 7, 2) := by decide +kernel
theorem dX6_odds_225 : decode cX6_odds 225 = .ok (.ifCond .eq 21, 3) := by decide +kernel
theorem dX6_odds_228 : decode cX6_odds 228 = .ok (.iload 6, 2) := by decide +kernel
theorem dX6_odds_230 : decode cX6_odds 230 = .ok (.iload 7, 2) := by decide +kernel
theorem dX6_odds_232 : decode cX6_odds 232 = .ok (.irem, 1) := by decide +kernel
theorem dX6_odds_233 : decode cX6_odds 233 = .ok (.istore 8, 2) := by decide +kernel
theorem dX6_odds_235 : decode cX6_odds 235 = .ok (.iload 7, 2) := by decide +kernel
theorem dX6_odds_237 : decode cX6_odds 237 = .ok (.istore 6, 2) := by decide +kernel
theorem dX6_odds_239 : decode cX6_odds 239 = .ok (.iload 8, 2) := by decide +kernel
theorem dX6_odds_241 : decode cX6_odds 241 = .ok (.istore 7, 2) := by decide +kernel
theorem dX6_odds_243 : decode cX6_odds 243 = .ok (.goto (-20), 3) := by decide +kernel
theorem dX6_odds_246 : decode cX6_odds 246 = .ok (.iload_n 3, 1) := by decide +kernel
theorem dX6_odds_247 : decode cX6_odds 247 = .ok (.ifCond .ne 11, 3) := by decide +kernel
theorem dX6_odds_250 : decode cX6_odds 250 = .ok (.iload 4, 2) := by decide +kernel
theorem dX6_odds_252 : decode cX6_odds 252 = .ok (.iload 6, 2) := by decide +kernel
theorem dX6_odds_254 : decode cX6_odds 254 = .ok (.idiv, 1) := by decide +kernel
theorem dX6_odds_255 : decode cX6_odds 255 = .ok (.goto 8, 3) := by decide +kernel
theorem dX6_odds_258 : decode cX6_odds 258 = .ok (.iload 5, 2) := by decide +kernel
theorem dX6_odds_260 : decode cX6_odds 260 = .ok (.iload 6, 2) := by decide +kernel
theorem dX6_odds_262 : decode cX6_odds 262 = .ok (.idiv, 1) := by decide +kernel
theorem dX6_odds_263 : decode cX6_odds 263 = .ok (.ireturn, 1) := by decide +kernel
theorem dX6_mark_0 : decode cX6_mark 0 = .ok (.iload_n 1, 1) := by decide +kernel
theorem dX6_mark_1 : decode cX6_mark 1 = .ok (.i2l, 1) := by decide +kernel
theorem dX6_mark_2 : decode cX6_mark 2 = .ok (.lconst 0, 1) := by decide +kernel
theorem dX6_mark_3 : decode cX6_mark 3 = .ok (.ldc2_w 203, 3) := by decide +kernel
theorem dX6_mark_6 : decode cX6_mark 6 = .ok (.invokestatic 45, 3) := by decide +kernel
theorem dX6_mark_9 : decode cX6_mark 9 = .ok (.ifCond .eq 11, 3) := by decide +kernel
theorem dX6_mark_12 : decode cX6_mark 12 = .ok (.aload_n 0, 1) := by decide +kernel
theorem dX6_mark_13 : decode cX6_mark 13 = .ok (.iload_n 2, 1) := by decide +kernel
theorem dX6_mark_14 : decode cX6_mark 14 = .ok (.invokevirtual 139, 3) := by decide +kernel
theorem dX6_mark_17 : decode cX6_mark 17 = .ok (.ifCond .ne 6, 3) := by decide +kernel
theorem dX6_mark_20 : decode cX6_mark 20 = .ok (.ldc 205, 2) := by decide +kernel
theorem dX6_mark_22 : decode cX6_mark 22 = .ok (.ireturn, 1) := by decide +kernel
theorem dX6_mark_23 : decode cX6_mark 23 = .ok (.aload_n 0, 1) := by decide +kernel
theorem dX6_mark_24 : decode cX6_mark 24 = .ok (.dup, 1) := by decide +kernel
theorem dX6_mark_25 : decode cX6_mark 25 = .ok (.getfield 206, 3) := by decide +kernel
theorem dX6_mark_28 : decode cX6_mark 28 = .ok (.iload_n 1, 1) := by decide +kernel
theorem dX6_mark_29 : decode cX6_mark 29 = .ok (.ifCond .ne 7, 3) := by decide +kernel
theorem dX6_mark_32 : decode cX6_mark 32 = .ok (.lconst 1, 1) := by decide +kernel
theorem dX6_mark_33 : decode cX6_mark 33 = .ok (.goto 50, 3) := by decide +kernel
theorem dX6_mark_36 : decode cX6_mark 36 = .ok (.iload_n 1, 1) := by decide +kernel
theorem dX6_mark_37 : decode cX6_mark 37 = .ok (.iconst 1, 1) := by decide +kernel
theorem dX6_mark_38 : decode cX6_mark 38 = .ok (.if_icmp .ne 9, 3) := by decide +kernel
theorem dX6_mark_41 : decode cX6_mark 41 = .ok (.ldc2_w 210, 3) := by decide +kernel
theorem dX6_mark_44 : decode cX6_mark 44 = .ok (.goto 39, 3) := by decide +kernel
theorem dX6_mark_47 : decode cX6_mark 47 = .ok (.iload_n 1, 1) := by decide +kernel
theorem dX6_mark_48 : decode cX6_mark 48 = .ok (.iconst 2, 1) := by decide +kernel
theorem dX6_mark_49 : decode cX6_mark 49 = .ok (.if_icmp .ne 9, 3) := by decide +kernel
theorem dX6_mark_52 : decode cX6_mark 52 = .ok (.ldc2_w 212, 3) := by decide +kernel
theorem dX6_mark_55 : decode cX6_mark 55 = .ok (.goto 28, 3) := by decide +kernel
theorem dX6_mark_58 : decode cX6_mark 58 = .ok (.iload_n 1, 1) := by decide +kernel
theorem dX6_mark_59 : decode cX6_mark 59 = .ok (.iconst 3, 1) := by decide +kernel
theorem dX6_mark_60 : decode cX6_mark 60 = .ok (.if_icmp .ne 9, 3) := by decide +kernel
theorem dX6_mark_63 : decode cX6_mark 63 = .ok (.ldc2_w 214, 3) := by decide +kernel
theorem dX6_mark_66 : decode cX6_mark 66 = .ok (.goto 17, 3) := by decide +kernel
theorem dX6_mark_69 : decode cX6_mark 69 = .ok (.iload_n 1, 1) := by decide +kernel
theorem dX6_mark_70 : decode cX6_mark 70 = .ok (.iconst 4, 1) := by decide +kernel
theorem dX6_mark_71 : decode cX6_mark 71 = .ok (.if_icmp .ne 9, 3) := by decide +kernel
theorem dX6_mark_74 : decode cX6_mark 74 = .ok (.ldc2_w 216, 3) := by decide +kernel
theorem dX6_mark_77 : decode cX6_mark 77 = .ok (.goto 6, 3) := by decide +kernel
theorem dX6_mark_80 : decode cX6_mark 80 = .ok (.ldc2_w 218, 3) := by decide +kernel
theorem dX6_mark_83 : decode cX6_mark 83 = .ok (.ladd, 1) := by decide +kernel
theorem dX6_mark_84 : decode cX6_mark 84 = .ok (.putfield 206, 3) := by decide +kernel
theorem dX6_mark_87 : decode cX6_mark 87 = .ok (.aload_n 0, 1) := by decide +kernel
theorem dX6_mark_88 : decode cX6_mark 88 = .ok (.iload_n 2, 1) := by decide +kernel
theorem dX6_mark_89 : decode cX6_mark 89 = .ok (.invokevirtual 133, 3) := by decide +kernel
theorem dX6_mark_92 : decode cX6_mark 92 = .ok (.aload_n 0, 1) := by decide +kernel
theorem dX6_mark_93 : decode cX6_mark 93 = .ok (.getfield 16, 3) := by decide +kernel
theorem dX6_mark_96 : decode cX6_mark 96 = .ok (.bipush 67, 2) := by decide +kernel
theorem dX6_mark_98 : decode cX6_mark 98 = .ok (.iconst 3, 1) := by decide +kernel
theorem dX6_mark_99 : decode cX6_mark 99 = .ok (.iload_n 2, 1) := by decide +kernel
theorem dX6_mark_100 : decode cX6_mark 100 = .ok (.imul, 1) := by decide +kernel
theorem dX6_mark_101 : decode cX6_mark 101 = .ok (.iadd, 1) := by decide +kernel
theorem dX6_mark_102 : decode cX6_mark 102 = .ok (.iconst 1, 1) := by decide +kernel
theorem dX6_mark_103 : decode cX6_mark 103 = .ok (.iadd, 1) := by decide +kernel
theorem dX6_mark_104 : decode cX6_mark 104 = .ok (.iaload, 1) := by decide +kernel
theorem dX6_mark_105 : decode cX6_mark 105 = .ok (.isub, 1) := by decide +kernel
theorem dX6_mark_106 : decode cX6_mark 106 = .ok (.istore_n 3, 1) := by decide +kernel
theorem dX6_mark_107 : decode cX6_mark 107 = .ok (.iload_n 1, 1) := by decide +kernel
theorem dX6_mark_108 : decode cX6_mark 108 = .ok (.tableswitch 105 0 4 #[36, 42, 60, 62, 82], 36) := by decide +kernel
theorem dX6_mark_144 : decode cX6_mark 144 = .ok (.aload_n 0, 1) := by decide +kernel
theorem dX6_mark_145 : decode cX6_mark 145 = .ok (.iload_n 2, 1) := by decide +kernel
theorem dX6_mark_146 : decode cX6_mark 146 = .ok (.invokevirtual 133, 3) := by decide +kernel
theorem dX6_mark_149 : decode cX6_mark 149 = .ok (.ireturn, 1) := by decide +kernel
theorem dX6_mark_150 : decode cX6_mark 150 = .ok (.aload_n 0, 1) := by decide +kernel
theorem dX6_mark_151 : decode cX6_mark 151 = .ok (.iload_n 2, 1) := by decide +kernel
theorem dX6_mark_152 : decode cX6_mark 152 = .ok (.invokevirtual 133, 3) := by decide +kernel
theorem dX6_mark_155 : decode cX6_mark 155 = .ok (.aload_n 0, 1) := by decide +kernel
theorem dX6_mark_156 : decode cX6_mark 156 = .ok (.getfield 16, 3) := by decide +kernel
theorem dX6_mark_159 : decode cX6_mark 159 = .ok (.bipush 67, 2) := by decide +kernel
theorem dX6_mark_161 : decode cX6_mark 161 = .ok (.iconst 3, 1) := by decide +kernel
theorem dX6_mark_162 : decode cX6_mark 162 = .ok (.iload_n 2, 1) := by decide +kernel
theorem dX6_mark_163 : decode cX6_mark 163 = .ok (.imul, 1) := by decide +kernel
theorem dX6_mark_164 : decode cX6_mark 164 = .ok (.iadd, 1) := by decide +kernel
theorem dX6_mark_165 : decode cX6_mark 165 = .ok (.iaload, 1) := by decide +kernel
theorem dX6_mark_166 : decode cX6_mark 166 = .ok (.iadd, 1) := by decide +kernel
theorem dX6_mark_167 : decode cX6_mark 167 = .ok (.ireturn, 1) := by decide +kernel
theorem dX6_mark_168 : decode cX6_mark 168 = .ok (.iload_n 3, 1) := by decide +kernel
theorem dX6_mark_169 : decode cX6_mark 169 = .ok (.ireturn, 1) := by decide +kernel
theorem dX6_mark_170 : decode cX6_mark 170 = .ok (.iconst 2, 1) := by decide +kernel
theorem dX6_mark_171 : decode cX6_mark 171 = .ok (.aload_n 0, 1) := by decide +kernel
theorem dX6_mark_172 : decode cX6_mark 172 = .ok (.iload_n 2, 1) := by decide +kernel
theorem dX6_mark_173 : decode cX6_mark 173 = .ok (.invokevirtual 133, 3) := by decide +kernel
theorem dX6_mark_176 : decode cX6_mark 176 = .ok (.aload_n 0, 1) := by decide +kernel
theorem dX6_mark_177 : decode cX6_mark 177 = .ok (.getfield 16, 3) := by decide +kernel
theorem dX6_mark_180 : decode cX6_mark 180 = .ok (.bipush 67, 2) := by decide +kernel
theorem dX6_mark_182 : decode cX6_mark 182 = .ok (.iconst 3, 1) := by decide +kernel
theorem dX6_mark_183 : decode cX6_mark 183 = .ok (.iload_n 2, 1) := by decide +kernel
theorem dX6_mark_184 : decode cX6_mark 184 = .ok (.imul, 1) := by decide +kernel
theorem dX6_mark_185 : decode cX6_mark 185 = .ok (.iadd, 1) := by decide +kernel
theorem dX6_mark_186 : decode cX6_mark 186 = .ok (.iaload, 1) := by decide +kernel
theorem dX6_mark_187 : decode cX6_mark 187 = .ok (.iadd, 1) := by decide +kernel
theorem dX6_mark_188 : decode cX6_mark 188 = .ok (.imul, 1) := by decide +kernel
theorem dX6_mark_189 : decode cX6_mark 189 = .ok (.ireturn, 1) := by decide +kernel
theorem dX6_mark_190 : decode cX6_mark 190 = .ok (.iload_n 3, 1) := by decide +kernel
theorem dX6_mark_191 : decode cX6_mark 191 = .ok (.aload_n 0, 1) := by decide +kernel
theorem dX6_mark_192 : decode cX6_mark 192 = .ok (.iload_n 2, 1) := by decide +kernel
theorem dX6_mark_193 : decode cX6_mark 193 = .ok (.aload_n 0, 1) := by decide +kernel
theorem dX6_mark_194 : decode cX6_mark 194 = .ok (.invokevirtual 144, 3) := by decide +kernel
theorem dX6_mark_197 : decode cX6_mark 197 = .ok (.invokevirtual 129, 3) := by decide +kernel
theorem dX6_mark_200 : decode cX6_mark 200 = .ok (.bipush (-9), 2) := by decide +kernel
theorem dX6_mark_202 : decode cX6_mark 202 = .ok (.if_icmp .ne 7, 3) := by decide +kernel
theorem dX6_mark_205 : decode cX6_mark 205 = .ok (.iconst 0, 1) := by decide +kernel
theorem dX6_mark_206 : decode cX6_mark 206 = .ok (.goto 5, 3) := by decide +kernel
theorem dX6_mark_209 : decode cX6_mark 209 = .ok (.bipush 9, 2) := by decide +kernel
theorem dX6_mark_211 : decode cX6_mark 211 = .ok (.iadd, 1) := by decide +kernel
theorem dX6_mark_212 : decode cX6_mark 212 = .ok (.ireturn, 1) := by decide +kernel
theorem dX6_mark_213 : decode cX6_mark 213 = .ok (.aload_n 0, 1) := by decide +kernel
theorem dX6_mark_214 : decode cX6_mark 214 = .ok (.iload_n 2, 1) := by decide +kernel
theorem dX6_mark_215 : decode cX6_mark 215 = .ok (.invokevirtual 133, 3) := by decide +kernel
theorem dX6_mark_218 : decode cX6_mark 218 = .ok (.aload_n 0, 1) := by decide +kernel
theorem dX6_mark_219 : decode cX6_mark 219 = .ok (.getfield 19, 3) := by decide +kernel
theorem dX6_mark_222 : decode cX6_mark 222 = .ok (.iconst 1, 1) := by decide +kernel
theorem dX6_mark_223 : decode cX6_mark 223 = .ok (.iaload, 1) := by decide +kernel
theorem dX6_mark_224 : decode cX6_mark 224 = .ok (.iadd, 1) := by decide +kernel
theorem dX6_mark_225 : decode cX6_mark 225 = .ok (.ireturn, 1) := by decide +kernel
theorem dX6_trace_0 : decode cX6_trace 0 = .ok (.aload_n 0, 1) := by decide +kernel
theorem dX6_trace_1 : decode cX6_trace 1 = .ok (.getfield 206, 3) := by decide +kernel
theorem dX6_trace_4 : decode cX6_trace 4 = .ok (.lreturn, 1) := by decide +kernel
theorem dX6_keep_0 : decode cX6_keep 0 = .ok (.iload_n 1, 1) := by decide +kernel
theorem dX6_keep_1 : decode cX6_keep 1 = .ok (.i2l, 1) := by decide +kernel
theorem dX6_keep_2 : decode cX6_keep 2 = .ok (.lconst 0, 1) := by decide +kernel
theorem dX6_keep_3 : decode cX6_keep 3 = .ok (.lconst 1, 1) := by decide +kernel
theorem dX6_keep_4 : decode cX6_keep 4 = .ok (.invokestatic 45, 3) := by decide +kernel
theorem dX6_keep_7 : decode cX6_keep 7 = .ok (.ifCond .ne 5, 3) := by decide +kernel
theorem dX6_keep_10 : decode cX6_keep 10 = .ok (.iconst (-1), 1) := by decide +kernel
theorem dX6_keep_11 : decode cX6_keep 11 = .ok (.ireturn, 1) := by decide +kernel
theorem dX6_keep_12 : decode cX6_keep 12 = .ok (.sipush 167, 3) := by decide +kernel
theorem dX6_keep_15 : decode cX6_keep 15 = .ok (.iload_n 1, 1) := by decide +kernel
theorem dX6_keep_16 : decode cX6_keep 16 = .ok (.imul, 1) := by decide +kernel
theorem dX6_keep_17 : decode cX6_keep 17 = .ok (.istore_n 2, 1) := by decide +kernel
theorem dX6_keep_18 : decode cX6_keep 18 = .ok (.aload_n 0, 1) := by decide +kernel
theorem dX6_keep_19 : decode cX6_keep 19 = .ok (.getfield 34, 3) := by decide +kernel
theorem dX6_keep_22 : decode cX6_keep 22 = .ok (.iload_n 2, 1) := by decide +kernel
theorem dX6_keep_23 : decode cX6_keep 23 = .ok (.iconst 1, 1) := by decide +kernel
theorem dX6_keep_24 : decode cX6_keep 24 = .ok (.iastore, 1) := by decide +kernel
theorem dX6_keep_25 : decode cX6_keep 25 = .ok (.aload_n 0, 1) := by decide +kernel
theorem dX6_keep_26 : decode cX6_keep 26 = .ok (.getfield 34, 3) := by decide +kernel
theorem dX6_keep_29 : decode cX6_keep 29 = .ok (.iload_n 2, 1) := by decide +kernel
theorem dX6_keep_30 : decode cX6_keep 30 = .ok (.iconst 1, 1) := by decide +kernel
theorem dX6_keep_31 : decode cX6_keep 31 = .ok (.iadd, 1) := by decide +kernel
theorem dX6_keep_32 : decode cX6_keep 32 = .ok (.aload_n 0, 1) := by decide +kernel
theorem dX6_keep_33 : decode cX6_keep 33 = .ok (.getfield 113, 3) := by decide +kernel
theorem dX6_keep_36 : decode cX6_keep 36 = .ok (.iastore, 1) := by decide +kernel
theorem dX6_keep_37 : decode cX6_keep 37 = .ok (.iconst 0, 1) := by decide +kernel
theorem dX6_keep_38 : decode cX6_keep 38 = .ok (.istore_n 3, 1) := by decide +kernel
theorem dX6_keep_39 : decode cX6_keep 39 = .ok (.iload_n 3, 1) := by decide +kernel
theorem dX6_keep_40 : decode cX6_keep 40 = .ok (.bipush 15, 2) := by decide +kernel
theorem dX6_keep_42 : decode cX6_keep 42 = .ok (.if_icmp .ge 25, 3) := by decide +kernel
theorem dX6_keep_45 : decode cX6_keep 45 = .ok (.aload_n 0, 1) := by decide +kernel
theorem dX6_keep_46 : decode cX6_keep 46 = .ok (.getfield 34, 3) := by decide +kernel
theorem dX6_keep_49 : decode cX6_keep 49 = .ok (.iload_n 2, 1) := by decide +kernel
theorem dX6_keep_50 : decode cX6_keep 50 = .ok (.iconst 2, 1) := by decide +kernel
theorem dX6_keep_51 : decode cX6_keep 51 = .ok (.iadd, 1) := by decide +kernel
theorem dX6_keep_52 : decode cX6_keep 52 = .ok (.iload_n 3, 1) := by decide +kernel
theorem dX6_keep_53 : decode cX6_keep 53 = .ok (.iadd, 1) := by decide +kernel
theorem dX6_keep_54 : decode cX6_keep 54 = .ok (.aload_n 0, 1) := by decide +kernel
theorem dX6_keep_55 : decode cX6_keep 55 = .ok (.getfield 19, 3) := by decide +kernel
theorem dX6_keep_58 : decode cX6_keep 58 = .ok (.iload_n 3, 1) := by decide +kernel
theorem dX6_keep_59 : decode cX6_keep 59 = .ok (.iaload, 1) := by decide +kernel
theorem dX6_keep_60 : decode cX6_keep 60 = .ok (.iastore, 1) := by decide +kernel
theorem dX6_keep_61 : decode cX6_keep 61 = .ok (.iinc 3 1, 3) := by decide +kernel
theorem dX6_keep_64 : decode cX6_keep 64 = .ok (.goto (-25), 3) := by decide +kernel
theorem dX6_keep_67 : decode cX6_keep 67 = .ok (.iconst 0, 1) := by decide +kernel
theorem dX6_keep_68 : decode cX6_keep 68 = .ok (.istore_n 3, 1) := by decide +kernel
theorem dX6_keep_69 : decode cX6_keep 69 = .ok (.iload_n 3, 1) := by decide +kernel
theorem dX6_keep_70 : decode cX6_keep 70 = .ok (.sipush 150, 3) := by decide +kernel
theorem dX6_keep_73 : decode cX6_keep 73 = .ok (.if_icmp .ge 26, 3) := by decide +kernel
theorem dX6_keep_76 : decode cX6_keep 76 = .ok (.aload_n 0, 1) := by decide +kernel
theorem dX6_keep_77 : decode cX6_keep 77 = .ok (.getfield 34, 3) := by decide +kernel
theorem dX6_keep_80 : decode cX6_keep 80 = .ok (.iload_n 2, 1) := by decide +kernel
theorem dX6_keep_81 : decode cX6_keep 81 = .ok (.bipush 17, 2) := by decide +kernel
theorem dX6_keep_83 : decode cX6_keep 83 = .ok (.iadd, 1) := by decide +kernel
theorem dX6_keep_84 : decode cX6_keep 84 = .ok (.iload_n 3, 1) := by decide +kernel
theorem dX6_keep_85 : decode cX6_keep 85 = .ok (.iadd, 1) := by decide +kernel
theorem dX6_keep_86 : decode cX6_keep 86 = .ok (.aload_n 0, 1) := by decide +kernel
theorem dX6_keep_87 : decode cX6_keep 87 = .ok (.getfield 22, 3) := by decide +kernel
theorem dX6_keep_90 : decode cX6_keep 90 = .ok (.iload_n 3, 1) := by decide +kernel
theorem dX6_keep_91 : decode cX6_keep 91 = .ok (.iaload, 1) := by decide +kernel
theorem dX6_keep_92 : decode cX6_keep 92 = .ok (.iastore, 1) := by decide +kernel
theorem dX6_keep_93 : decode cX6_keep 93 = .ok (.iinc 3 1, 3) := by decide +kernel
theorem dX6_keep_96 : decode cX6_keep 96 = .ok (.goto (-27), 3) := by decide +kernel
theorem dX6_keep_99 : decode cX6_keep 99 = .ok (.aload_n 0, 1) := by decide +kernel
theorem dX6_keep_100 : decode cX6_keep 100 = .ok (.getfield 19, 3) := by decide +kernel
theorem dX6_keep_103 : decode cX6_keep 103 = .ok (.iconst 0, 1) := by decide +kernel
theorem dX6_keep_104 : decode cX6_keep 104 = .ok (.iaload, 1) := by decide +kernel
theorem dX6_keep_105 : decode cX6_keep 105 = .ok (.ireturn, 1) := by decide +kernel
theorem dX6_back_0 : decode cX6_back 0 = .ok (.iload_n 1, 1) := by decide +kernel
theorem dX6_back_1 : decode cX6_back 1 = .ok (.i2l, 1) := by decide +kernel
theorem dX6_back_2 : decode cX6_back 2 = .ok (.lconst 0, 1) := by decide +kernel
theorem dX6_back_3 : decode cX6_back 3 = .ok (.lconst 1, 1) := by decide +kernel
theorem dX6_back_4 : decode cX6_back 4 = .ok (.invokestatic 45, 3) := by decide +kernel
theorem dX6_back_7 : decode cX6_back 7 = .ok (.ifCond .ne 5, 3) := by decide +kernel
theorem dX6_back_10 : decode cX6_back 10 = .ok (.iconst (-1), 1) := by decide +kernel
theorem dX6_back_11 : decode cX6_back 11 = .ok (.ireturn, 1) := by decide +kernel
theorem dX6_back_12 : decode cX6_back 12 = .ok (.sipush 167, 3) := by decide +kernel
theorem dX6_back_15 : decode cX6_back 15 = .ok (.iload_n 1, 1) := by decide +kernel
theorem dX6_back_16 : decode cX6_back 16 = .ok (.imul, 1) := by decide +kernel
theorem dX6_back_17 : decode cX6_back 17 = .ok (.istore_n 2, 1) := by decide +kernel
theorem dX6_back_18 : decode cX6_back 18 = .ok (.aload_n 0, 1) := by decide +kernel
theorem dX6_back_19 : decode cX6_back 19 = .ok (.getfield 34, 3) := by decide +kernel
theorem dX6_back_22 : decode cX6_back 22 = .ok (.iload_n 2, 1) := by decide +kernel
theorem dX6_back_23 : decode cX6_back 23 = .ok (.iaload, 1) := by decide +kernel
theorem dX6_back_24 : decode cX6_back 24 = .ok (.ifCond .ne 6, 3) := by decide +kernel
theorem dX6_back_27 : decode cX6_back 27 = .ok (.bipush (-2), 2) := by decide +kernel
theorem dX6_back_29 : decode cX6_back 29 = .ok (.ireturn, 1) := by decide +kernel
theorem dX6_back_30 : decode cX6_back 30 = .ok (.aload_n 0, 1) := by decide +kernel
theorem dX6_back_31 : decode cX6_back 31 = .ok (.aload_n 0, 1) := by decide +kernel
theorem dX6_back_32 : decode cX6_back 32 = .ok (.getfield 34, 3) := by decide +kernel
theorem dX6_back_35 : decode cX6_back 35 = .ok (.iload_n 2, 1) := by decide +kernel
theorem dX6_back_36 : decode cX6_back 36 = .ok (.iconst 1, 1) := by decide +kernel
theorem dX6_back_37 : decode cX6_back 37 = .ok (.iadd, 1) := by decide +kernel
theorem dX6_back_38 : decode cX6_back 38 = .ok (.iaload, 1) := by decide +kernel
theorem dX6_back_39 : decode cX6_back 39 = .ok (.putfield 113, 3) := by decide +kernel
theorem dX6_back_42 : decode cX6_back 42 = .ok (.iconst 0, 1) := by decide +kernel
theorem dX6_back_43 : decode cX6_back 43 = .ok (.istore_n 3, 1) := by decide +kernel
theorem dX6_back_44 : decode cX6_back 44 = .ok (.iload_n 3, 1) := by decide +kernel
theorem dX6_back_45 : decode cX6_back 45 = .ok (.bipush 15, 2) := by decide +kernel
theorem dX6_back_47 : decode cX6_back 47 = .ok (.if_icmp .ge 25, 3) := by decide +kernel
theorem dX6_back_50 : decode cX6_back 50 = .ok (.aload_n 0, 1) := by decide +kernel
theorem dX6_back_51 : decode cX6_back 51 = .ok (.getfield 19, 3) := by decide +kernel
theorem dX6_back_54 : decode cX6_back 54 = .ok (.iload_n 3, 1) := by decide +kernel
theorem dX6_back_55 : decode cX6_back 55 = .ok (.aload_n 0, 1) := by decide +kernel
theorem dX6_back_56 : decode cX6_back 56 = .ok (.getfield 34, 3) := by decide +kernel
theorem dX6_back_59 : decode cX6_back 59 = .ok (.iload_n 2, 1) := by decide +kernel
theorem dX6_back_60 : decode cX6_back 60 = .ok (.iconst 2, 1) := by decide +kernel
theorem dX6_back_61 : decode cX6_back 61 = .ok (.iadd, 1) := by decide +kernel
theorem dX6_back_62 : decode cX6_back 62 = .ok (.iload_n 3, 1) := by decide +kernel
theorem dX6_back_63 : decode cX6_back 63 = .ok (.iadd, 1) := by decide +kernel
theorem dX6_back_64 : decode cX6_back 64 = .ok (.iaload, 1) := by decide +kernel
theorem dX6_back_65 : decode cX6_back 65 = .ok (.iastore, 1) := by decide +kernel
theorem dX6_back_66 : decode cX6_back 66 = .ok (.iinc 3 1, 3) := by decide +kernel
theorem dX6_back_69 : decode cX6_back 69 = .ok (.goto (-25), 3) := by decide +kernel
theorem dX6_back_72 : decode cX6_back 72 = .ok (.iconst 0, 1) := by decide +kernel
theorem dX6_back_73 : decode cX6_back 73 = .ok (.istore_n 3, 1) := by decide +kernel
theorem dX6_back_74 : decode cX6_back 74 = .ok (.iload_n 3, 1) := by decide +kernel
theorem dX6_back_75 : decode cX6_back 75 = .ok (.sipush 150, 3) := by decide +kernel
theorem dX6_back_78 : decode cX6_back 78 = .ok (.if_icmp .ge 26, 3) := by decide +kernel
theorem dX6_back_81 : decode cX6_back 81 = .ok (.aload_n 0, 1) := by decide +kernel
theorem dX6_back_82 : decode cX6_back 82 = .ok (.getfield 22, 3) := by decide +kernel
theorem dX6_back_85 : decode cX6_back 85 = .ok (.iload_n 3, 1) := by decide +kernel
theorem dX6_back_86 : decode cX6_back 86 = .ok (.aload_n 0, 1) := by decide +kernel
theorem dX6_back_87 : decode cX6_back 87 = .ok (.getfield 34, 3) := by decide +kernel
theorem dX6_back_90 : decode cX6_back 90 = .ok (.iload_n 2, 1) := by decide +kernel
theorem dX6_back_91 : decode cX6_back 91 = .ok (.bipush 17, 2) := by decide +kernel
theorem dX6_back_93 : decode cX6_back 93 = .ok (.iadd, 1) := by decide +kernel
theorem dX6_back_94 : decode cX6_back 94 = .ok (.iload_n 3, 1) := by decide +kernel
theorem dX6_back_95 : decode cX6_back 95 = .ok (.iadd, 1) := by decide +kernel
theorem dX6_back_96 : decode cX6_back 96 = .ok (.iaload, 1) := by decide +kernel
theorem dX6_back_97 : decode cX6_back 97 = .ok (.iastore, 1) := by decide +kernel
theorem dX6_back_98 : decode cX6_back 98 = .ok (.iinc 3 1, 3) := by decide +kernel
theorem dX6_back_101 : decode cX6_back 101 = .ok (.goto (-27), 3) := by decide +kernel
theorem dX6_back_104 : decode cX6_back 104 = .ok (.aload_n 0, 1) := by decide +kernel
theorem dX6_back_105 : decode cX6_back 105 = .ok (.getfield 19, 3) := by decide +kernel
theorem dX6_back_108 : decode cX6_back 108 = .ok (.iconst 0, 1) := by decide +kernel
theorem dX6_back_109 : decode cX6_back 109 = .ok (.iaload, 1) := by decide +kernel
theorem dX6_back_110 : decode cX6_back 110 = .ok (.ireturn, 1) := by decide +kernel
theorem dX6_count_0 : decode cX6_count 0 = .ok (.iload_n 1, 1) := by decide +kernel
theorem dX6_count_1 : decode cX6_count 1 = .ok (.tableswitch 73 0 8 #[51, 51, 51, 51, 51, 51, 58, 63, 68], 51) := by decide +kernel
theorem dX6_count_52 : decode cX6_count 52 = .ok (.aload_n 0, 1) := by decide +kernel
theorem dX6_count_53 : decode cX6_count 53 = .ok (.getfield 16, 3) := by decide +kernel
theorem dX6_count_56 : decode cX6_count 56 = .ok (.iload_n 1, 1) := by decide +kernel
theorem dX6_count_57 : decode cX6_count 57 = .ok (.iaload, 1) := by decide +kernel
theorem dX6_count_58 : decode cX6_count 58 = .ok (.ireturn, 1) := by decide +kernel
theorem dX6_count_59 : decode cX6_count 59 = .ok (.aload_n 0, 1) := by decide +kernel
theorem dX6_count_60 : decode cX6_count 60 = .ok (.getfield 110, 3) := by decide +kernel
theorem dX6_count_63 : decode cX6_count 63 = .ok (.ireturn, 1) := by decide +kernel
theorem dX6_count_64 : decode cX6_count 64 = .ok (.aload_n 0, 1) := by decide +kernel
theorem dX6_count_65 : decode cX6_count 65 = .ok (.getfield 113, 3) := by decide +kernel
theorem dX6_count_68 : decode cX6_count 68 = .ok (.ireturn, 1) := by decide +kernel
theorem dX6_count_69 : decode cX6_count 69 = .ok (.aload_n 0, 1) := by decide +kernel
theorem dX6_count_70 : decode cX6_count 70 = .ok (.getfield 49, 3) := by decide +kernel
theorem dX6_count_73 : decode cX6_count 73 = .ok (.ireturn, 1) := by decide +kernel
theorem dX6_count_74 : decode cX6_count 74 = .ok (.iconst (-1), 1) := by decide +kernel
theorem dX6_count_75 : decode cX6_count 75 = .ok (.ireturn, 1) := by decide +kernel
end
section
-- the tables' good words, contracts over worlds, and the kit's rows lifted to assertions that hide heap and locals
abbrev classes : List vw_C := [(RX0, TX0, 11), (RX1, TX1, 6), (RX2, TX2, 6), (RX3, TX3, 3), (RX4, TX4, 6), (RX5, TX5, 10), (RX6, TX6, 17)]
def GW : List Cond := lw_tbl.filter goodWord
theorem gw_mem {w : Cond} (h : w ∈ lw_tbl) (g : goodWord w = true) : w ∈ GW := List.mem_filter.mpr ⟨h, g⟩
theorem gw_tab {w : Cond} (h : w ∈ tables_1) (g : goodWord w = true) : w ∈ GW := gw_mem (List.mem_append_right _ h) g
theorem gw_t1 (k : Nat) {w : Cond} (h : tables_1_1[k]? = some w) (g : goodWord w = true) : w ∈ GW := gw_tab (List.mem_append_left _ (List.mem_of_getElem? h)) g
theorem gw_t2 (k : Nat) {w : Cond} (h : tables_1_2[k]? = some w) (g : goodWord w = true) : w ∈ GW := gw_tab (List.mem_append_right _ (List.mem_append_left _ (List.mem_of_getElem? h))) g
theorem gw_t3 (k : Nat) {w : Cond} (h : tables_1_3[k]? = some w) (g : goodWord w = true) : w ∈ GW := gw_tab (List.mem_append_right _ (List.mem_append_right _ (List.mem_append_left _ (List.mem_of_getElem? h)))) g
theorem gw_t4 (k : Nat) {w : Cond} (h : tables_1_4[k]? = some w) (g : goodWord w = true) : w ∈ GW := gw_tab (List.mem_append_right _ (List.mem_append_right _ (List.mem_append_right _ (List.mem_of_getElem? h)))) g
theorem gw_sel {q : MethodName × Nat} (h : q ∈ lw_privs) : Cond.selects q.1.cls q.1 q.1 ∈ GW := gw_mem (List.mem_append_left _ (List.mem_map.mpr ⟨q, h, rfl⟩)) rfl
theorem gw_s1 (k : Nat) {q : MethodName × Nat} (h : lw_privs_1[k]? = some q) : Cond.selects q.1.cls q.1 q.1 ∈ GW := gw_sel (List.mem_append_left _ (List.mem_of_getElem? h))
theorem gw_s2 (k : Nat) {q : MethodName × Nat} (h : lw_privs_2[k]? = some q) : Cond.selects q.1.cls q.1 q.1 ∈ GW := gw_sel (List.mem_append_right _ (List.mem_append_left _ (List.mem_of_getElem? h)))
theorem gw_s3 (k : Nat) {q : MethodName × Nat} (h : lw_privs_3[k]? = some q) : Cond.selects q.1.cls q.1 q.1 ∈ GW := gw_sel (List.mem_append_right _ (List.mem_append_right _ (List.mem_append_left _ (List.mem_of_getElem? h))))
theorem gw_s4 (k : Nat) {q : MethodName × Nat} (h : lw_privs_4[k]? = some q) : Cond.selects q.1.cls q.1 q.1 ∈ GW := gw_sel (List.mem_append_right _ (List.mem_append_right _ (List.mem_append_right _ (List.mem_of_getElem? h))))
theorem gw_isgood {w : Cond} (h : w ∈ GW) : (w.onTables && w.keeps) = true ∨ ∃ ty, w = .arrayClass ty := good_of_word (List.mem_filter.mp h).2
theorem gw_all {ws : List Cond} (h : ∀ w ∈ ws, w ∈ GW) : GoodIn GW ws := fun w hw => ⟨h w hw, gw_isgood (h w hw)⟩
theorem gw_before {args : Array Value} {s : State} (h : ∀ w ∈ lw_tbl, w.before args s = true) : ∀ w ∈ GW, w.before args s = true := fun w hw => h w (List.mem_filter.mp hw).1
/-- the private members of nest mates that are called -/
def NW (U : State) : Prop := va_Nw (.methodLinkNest RX5 11 yX1_init RX5) U ∧ va_Nw (.methodLinkNest RX1 11 yX4_init RX5) U ∧ va_Nw (.methodLinkNest RX1 20 yX0_init RX5) U ∧ va_Nw (.methodLinkNest RX5 18 yX0_init RX5) U ∧ va_Nw (.methodLinkNest RX3 11 yX2_init RX5) U ∧ va_Nw (.methodLinkNest RX5 40 yX2_init RX5) U ∧ va_Nw (.methodLinkNest RX1 117 yX5_isWithin RX5) U ∧ va_Nw (.methodLinkNest RX2 39 yX5_has RX5) U ∧ va_Nw (.methodLinkNest RX0 46 yX5_rowBits RX5) U ∧ va_Nw (.methodLinkNest RX0 50 yX5_has RX5) U
theorem NW.warm {s U : State} (hW : s.WarmedH U.vm) (h : NW s) : NW U := by
  obtain ⟨h1, h2, h3, h4, h5, h6, h7, h8, h9, h10⟩ := h
  exact ⟨va_Nw.warmM hW h1, va_Nw.warmM hW h2, va_Nw.warmM hW h3, va_Nw.warmM hW h4, va_Nw.warmM hW h5, va_Nw.warmM hW h6, va_Nw.warmM hW h7, va_Nw.warmM hW h8, va_Nw.warmM hW h9, va_Nw.warmM hW h10⟩
theorem NW.same {u U : State} (hv : u.vm = U.vm) (h : NW u) : NW U := by
  obtain ⟨h1, h2, h3, h4, h5, h6, h7, h8, h9, h10⟩ := h
  exact ⟨va_Nw.same rfl hv h1, va_Nw.same rfl hv h2, va_Nw.same rfl hv h3, va_Nw.same rfl hv h4, va_Nw.same rfl hv h5, va_Nw.same rfl hv h6, va_Nw.same rfl hv h7, va_Nw.same rfl hv h8, va_Nw.same rfl hv h9, va_Nw.same rfl hv h10⟩
abbrev ty4 : Type := ClassId × ClassId × ClassId × ClassId
abbrev tysOf (t : ty4) : List (ClassId × FieldType) := [(t.1, .int), (t.2.1, .boolean), (t.2.2.1, .object RX2), (t.2.2.2, .object RX3)]
def KB (D : va_G) (t : ty4) (U : State) : Prop := va_K D classes (tysOf t) U ∧ NW U
theorem KB.warm {D : va_G} {t : ty4} {s U : State} (hW : s.WarmedH U.vm) (h : KB D t s) : KB D t U := ⟨va_K.moved hW.alike h.1, NW.warm hW h.2⟩
def PreW (D : va_G) (t : ty4) (av : List Value) (ws : va_W) (sz : Nat) : Array Value → State → Prop := va_Pc av (fun U => U.heap.size = sz ∧ va_P D classes ws U.heap ∧ KB D t U ∧ va_D (fun _ => True) ws)
/-- what a method's body stands on -/
def CX (p : Program) (s : State) (m : MethodId) (args : Array Value) (meth : Method) (c : Code) (cc : ByteArray) (nL : Nat) (ret : Option FieldType) (own : String) (D : va_G) (t : ty4) : Prop :=
  CallFix p m c cc nL s args GW own ∧ meth.sig.returnType = ret ∧ meth.locks = false ∧ KB D t s
/-- at pc, with these locals, this stack and this world, the machine comes to Q -/
def At (p : Program) (l : Launch) (e : Env) (R : Room) (s : State) (m : MethodId) (args : Array Value) (below : List Frame) (meth : Method) (c : Code) (D : va_G) (nL : Nat) (w0 : va_W) (Q : State → Prop) (kc ks : Nat) (pc : Nat) (lv : List (Nat × Value)) (st : List Value) (ws : va_W) : Prop :=
  ∀ (H : Heap) (locs : List Loc) (ls : Array Slot), va_P D classes ws H → va_D (va_A w0 s.heap.size) ws → va_S (va_A w0 s.heap.size) s.heap H locs → lv_has ls nL lv → W p l e R s m args below meth c H locs kc ks Q (F0 m pc ls st)
def inb (i : Int32) (n : Nat) : Bool := decide (¬ (i < 0 ∨ n ≤ i.toNatClampNeg))
def nz (i : Int32) : Bool := decide (¬ i = 0)
def isb (i : Int32) : Bool := decide (narrow .boolean (.int i) = .int i)
def ck {α : Type} (b : Bool) (k : Option α) : Option α := if b = true then k else none
theorem ck_t {α : Type} (k : Option α) : ck true k = k := rfl
theorem ck_some {α : Type} {b : Bool} {k : Option α} {r : α} (h : ck b k = some r) : b = true ∧ k = some r := by
  unfold ck at h
  by_cases hb : b = true
  · rw [if_pos hb] at h; exact ⟨hb, h⟩
  · rw [if_neg hb] at h; cases h
theorem bind_some {α β : Type} {g : Option β} {K : β → Option α} {r : α} (h : g.bind K = some r) : ∃ z, g = some z ∧ K z = some r := by
  cases g with
  | none => cases h
  | some z => exact ⟨z, rfl, h⟩
section ROWS
variable {p : Program} {l : Launch} {e : Env} {R : Room} {s : State} {m : MethodId} {args : Array Value} {below : List Frame} {meth : Method} {c : Code} {D : va_G} {nL : Nat} {w0 : va_W} {Q : State → Prop} {cc : ByteArray} {ret : Option FieldType} {own : String} {t : ty4} {pc : Nat} {lv : List (Nat × Value)} {st : List Value} {ws : va_W} {α : Type} {a b : Option α} {r : α} {kc ks : Nat}
theorem A_loc (js : List Nat) {lv' : List (Nat × Value)} (hl : lv_pick lv js = lv') (k : At p l e R s m args below meth c D nL w0 Q kc ks pc lv' st ws) : At p l e R s m args below meth c D nL w0 Q kc ks pc lv st ws := fun H locs ls hP hD hS h => k H locs ls hP hD hS (lv_sub h js hl)
theorem A_iconst (C : CX p s m args meth c cc nL ret own D t) {n : Int} (v : Int32) (d : decode cc pc = .ok (.iconst n, 1)) (hv : Int32.ofInt n = v) (k : At p l e R s m args below meth c D nL w0 Q kc ks (pc + 1) lv (.int v :: st) ws) : At p l e R s m args below meth c D nL w0 Q kc ks pc lv st ws := fun H locs ls hP hD hS h => lv_iconst C.1.1 C.1.2.1 d hv (k H locs ls hP hD hS h)
theorem A_bipush (C : CX p s m args meth c cc nL ret own D t) {n : Int} (v : Int32) (d : decode cc pc = .ok (.bipush n, 2)) (hv : (Int8.ofInt n).toInt32 = v) (k : At p l e R s m args below meth c D nL w0 Q kc ks (pc + 2) lv (.int v :: st) ws) : At p l e R s m args below meth c D nL w0 Q kc ks pc lv st ws := fun H locs ls hP hD hS h => lv_bipush C.1.1 C.1.2.1 d hv (k H locs ls hP hD hS h)
theorem A_sipush (C : CX p s m args meth c cc nL ret own D t) {n : Int} (v : Int32) (d : decode cc pc = .ok (.sipush n, 3)) (hv : (Int16.ofInt n).toInt32 = v) (k : At p l e R s m args below meth c D nL w0 Q kc ks (pc + 3) lv (.int v :: st) ws) : At p l e R s m args below meth c D nL w0 Q kc ks pc lv st ws := fun H locs ls hP hD hS h => lv_sipush C.1.1 C.1.2.1 d hv (k H locs ls hP hD hS h)
theorem A_ldc (C : CX p s m args meth c cc nL ret own D t) {n : Nat} {v : Int32} (hw : Cond.constant own n v ∈ GW) (d : decode cc pc = .ok (.ldc n, 2)) (k : At p l e R s m args below meth c D nL w0 Q kc ks (pc + 2) lv (.int v :: st) ws) : At p l e R s m args below meth c D nL w0 Q kc ks pc lv st ws := fun H locs ls hP hD hS h => lv_ldc C.1.1 C.1.2.1 C.1.2.2.2.1 (C.1.2.2.2.2 _ hw) d (k H locs ls hP hD hS h)
theorem A_ldc2 (C : CX p s m args meth c cc nL ret own D t) {n : Nat} {v : Int64} (hw : Cond.constantLong own n v ∈ GW) (d : decode cc pc = .ok (.ldc2_w n, 3)) (k : At p l e R s m args below meth c D nL w0 Q kc ks (pc + 3) lv (.long v :: st) ws) : At p l e R s m args below meth c D nL w0 Q kc ks pc lv st ws := fun H locs ls hP hD hS h => lv_ldc2 C.1.1 C.1.2.1 C.1.2.2.2.1 (C.1.2.2.2.2 _ hw) d (k H locs ls hP hD hS h)
theorem A_lconst (C : CX p s m args meth c cc nL ret own D t) {n : Fin 2} (v : Int64) (d : decode cc pc = .ok (.lconst n, 1)) (hv : Int64.ofNat (n : Nat) = v) (k : At p l e R s m args below meth c D nL w0 Q kc ks (pc + 1) lv (.long v :: st) ws) : At p l e R s m args below meth c D nL w0 Q kc ks pc lv st ws := fun H locs ls hP hD hS h => lv_lconst C.1.1 C.1.2.1 d hv (k H locs ls hP hD hS h)
theorem A_iload_n (C : CX p s m args meth c cc nL ret own D t) (j : Nat) {f : Fin 4} {i : Nat} {x : Int32} (d : decode cc pc = .ok (.iload_n f, 1)) (hi : (f : Nat) = i) (hl : lv[j]? = some (i, .int x)) (k : At p l e R s m args below meth c D nL w0 Q kc ks (pc + 1) lv (.int x :: st) ws) : At p l e R s m args below meth c D nL w0 Q kc ks pc lv st ws := fun H locs ls hP hD hS h => lv_iload_n C.1.1 C.1.2.1 d hi (lv_at h j hl) (k H locs ls hP hD hS h)
theorem A_iload (C : CX p s m args meth c cc nL ret own D t) (j : Nat) {i : Nat} {x : Int32} (d : decode cc pc = .ok (.iload i, 2)) (hl : lv[j]? = some (i, .int x)) (k : At p l e R s m args below meth c D nL w0 Q kc ks (pc + 2) lv (.int x :: st) ws) : At p l e R s m args below meth c D nL w0 Q kc ks pc lv st ws := fun H locs ls hP hD hS h => lv_iload C.1.1 C.1.2.1 d (lv_at h j hl) (k H locs ls hP hD hS h)
theorem A_lload_n (C : CX p s m args meth c cc nL ret own D t) (j : Nat) {f : Fin 4} {i : Nat} {x : Int64} (d : decode cc pc = .ok (.lload_n f, 1)) (hi : (f : Nat) = i) (hl : lv[j]? = some (i, .long x)) (k : At p l e R s m args below meth c D nL w0 Q kc ks (pc + 1) lv (.long x :: st) ws) : At p l e R s m args below meth c D nL w0 Q kc ks pc lv st ws := fun H locs ls hP hD hS h => lv_lload_n C.1.1 C.1.2.1 d hi (lv_at h j hl) (k H locs ls hP hD hS h)
theorem A_lload (C : CX p s m args meth c cc nL ret own D t) (j : Nat) {i : Nat} {x : Int64} (d : decode cc pc = .ok (.lload i, 2)) (hl : lv[j]? = some (i, .long x)) (k : At p l e R s m args below meth c D nL w0 Q kc ks (pc + 2) lv (.long x :: st) ws) : At p l e R s m args below meth c D nL w0 Q kc ks pc lv st ws := fun H locs ls hP hD hS h => lv_lload C.1.1 C.1.2.1 d (lv_at h j hl) (k H locs ls hP hD hS h)
theorem A_aload_n (C : CX p s m args meth c cc nL ret own D t) (j : Nat) {f : Fin 4} {i : Nat} {x : Nat} (d : decode cc pc = .ok (.aload_n f, 1)) (hi : (f : Nat) = i) (hl : lv[j]? = some (i, .ref x)) (k : At p l e R s m args below meth c D nL w0 Q kc ks (pc + 1) lv (.ref x :: st) ws) : At p l e R s m args below meth c D nL w0 Q kc ks pc lv st ws := fun H locs ls hP hD hS h => lv_aload_n C.1.1 C.1.2.1 d hi (lv_at h j hl) (k H locs ls hP hD hS h)
theorem A_istore_n (C : CX p s m args meth c cc nL ret own D t) {f : Fin 4} {i : Nat} {x : Int32} (lv' : List (Nat × Value)) (d : decode cc pc = .ok (.istore_n f, 1)) (hi : (f : Nat) = i) (hn : i < nL) (hl : (i, Value.int x) :: lv.filter (fun q => !(q.1 == i) && !(q.1 + 1 == i && q.2.category == 2)) = lv') (k : At p l e R s m args below meth c D nL w0 Q kc ks (pc + 1) lv' st ws) : At p l e R s m args below meth c D nL w0 Q kc ks pc lv (.int x :: st) ws := fun H locs ls hP hD hS h => lv_istore_n C.1.1 C.1.2.1 d hi h hn hl (fun ls' h' => k H locs ls' hP hD hS h')
theorem A_istore (C : CX p s m args meth c cc nL ret own D t) {i : Nat} {x : Int32} (lv' : List (Nat × Value)) (d : decode cc pc = .ok (.istore i, 2)) (hn : i < nL) (hl : (i, Value.int x) :: lv.filter (fun q => !(q.1 == i) && !(q.1 + 1 == i && q.2.category == 2)) = lv') (k : At p l e R s m args below meth c D nL w0 Q kc ks (pc + 2) lv' st ws) : At p l e R s m args below meth c D nL w0 Q kc ks pc lv (.int x :: st) ws := fun H locs ls hP hD hS h => lv_istore C.1.1 C.1.2.1 d h hn hl (fun ls' h' => k H locs ls' hP hD hS h')
theorem A_astore_n (C : CX p s m args meth c cc nL ret own D t) {f : Fin 4} {i : Nat} {x : Nat} (lv' : List (Nat × Value)) (d : decode cc pc = .ok (.astore_n f, 1)) (hi : (f : Nat) = i) (hn : i < nL) (hl : (i, Value.ref x) :: lv.filter (fun q => !(q.1 == i) && !(q.1 + 1 == i && q.2.category == 2)) = lv') (k : At p l e R s m args below meth c D nL w0 Q kc ks (pc + 1) lv' st ws) : At p l e R s m args below meth c D nL w0 Q kc ks pc lv (.ref x :: st) ws := fun H locs ls hP hD hS h => lv_astore_n C.1.1 C.1.2.1 d hi h hn hl (fun ls' h' => k H locs ls' hP hD hS h')
theorem A_iinc (C : CX p s m args meth c cc nL ret own D t) (j : Nat) {i : Nat} {n : Int} {x : Int32} (v : Int32) (lv' : List (Nat × Value)) (d : decode cc pc = .ok (.iinc i n, 3)) (hk : lv[j]? = some (i, .int x)) (hv : x + Int32.ofInt n = v) (hn : i < nL) (hl : (i, Value.int v) :: lv.filter (fun q => !(q.1 == i) && !(q.1 + 1 == i && q.2.category == 2)) = lv') (k : At p l e R s m args below meth c D nL w0 Q kc ks (pc + 3) lv' st ws) : At p l e R s m args below meth c D nL w0 Q kc ks pc lv st ws := fun H locs ls hP hD hS h => lv_iinc C.1.1 C.1.2.1 d h hk hv hn hl (fun ls' h' => k H locs ls' hP hD hS h')
theorem A_iadd (C : CX p s m args meth c cc nL ret own D t) {x y : Int32} (d : decode cc pc = .ok (.iadd, 1)) (k : At p l e R s m args below meth c D nL w0 Q kc ks (pc + 1) lv (.int (x + y) :: st) ws) : At p l e R s m args below meth c D nL w0 Q kc ks pc lv (.int y :: .int x :: st) ws := fun H locs ls hP hD hS h => lv_iadd C.1.1 C.1.2.1 d (k H locs ls hP hD hS h)
theorem A_isub (C : CX p s m args meth c cc nL ret own D t) {x y : Int32} (d : decode cc pc = .ok (.isub, 1)) (k : At p l e R s m args below meth c D nL w0 Q kc ks (pc + 1) lv (.int (x - y) :: st) ws) : At p l e R s m args below meth c D nL w0 Q kc ks pc lv (.int y :: .int x :: st) ws := fun H locs ls hP hD hS h => lv_isub C.1.1 C.1.2.1 d (k H locs ls hP hD hS h)
theorem A_imul (C : CX p s m args meth c cc nL ret own D t) {x y : Int32} (d : decode cc pc = .ok (.imul, 1)) (k : At p l e R s m args below meth c D nL w0 Q kc ks (pc + 1) lv (.int (x * y) :: st) ws) : At p l e R s m args below meth c D nL w0 Q kc ks pc lv (.int y :: .int x :: st) ws := fun H locs ls hP hD hS h => lv_imul C.1.1 C.1.2.1 d (k H locs ls hP hD hS h)
theorem A_idiv (C : CX p s m args meth c cc nL ret own D t) {x y : Int32} (d : decode cc pc = .ok (.idiv, 1)) (h0 : ck (nz y) a = some r) (k : a = some r → At p l e R s m args below meth c D nL w0 Q kc ks (pc + 1) lv (.int (x / y) :: st) ws) : At p l e R s m args below meth c D nL w0 Q kc ks pc lv (.int y :: .int x :: st) ws := fun H locs ls hP hD hS h => lv_idiv C.1.1 C.1.2.1 d (of_decide_eq_true (ck_some h0).1) (k (ck_some h0).2 H locs ls hP hD hS h)
theorem A_irem (C : CX p s m args meth c cc nL ret own D t) {x y : Int32} (d : decode cc pc = .ok (.irem, 1)) (h0 : ck (nz y) a = some r) (k : a = some r → At p l e R s m args below meth c D nL w0 Q kc ks (pc + 1) lv (.int (x - x / y * y) :: st) ws) : At p l e R s m args below meth c D nL w0 Q kc ks pc lv (.int y :: .int x :: st) ws := fun H locs ls hP hD hS h => lv_irem C.1.1 C.1.2.1 d (of_decide_eq_true (ck_some h0).1) (k (ck_some h0).2 H locs ls hP hD hS h)
theorem A_ishl (C : CX p s m args meth c cc nL ret own D t) {x y : Int32} (d : decode cc pc = .ok (.ishl, 1)) (k : At p l e R s m args below meth c D nL w0 Q kc ks (pc + 1) lv (.int (x <<< (y &&& 31)) :: st) ws) : At p l e R s m args below meth c D nL w0 Q kc ks pc lv (.int y :: .int x :: st) ws := fun H locs ls hP hD hS h => lv_ishl C.1.1 C.1.2.1 d (k H locs ls hP hD hS h)
theorem A_ishr (C : CX p s m args meth c cc nL ret own D t) {x y : Int32} (d : decode cc pc = .ok (.ishr, 1)) (k : At p l e R s m args below meth c D nL w0 Q kc ks (pc + 1) lv (.int (x >>> (y &&& 31)) :: st) ws) : At p l e R s m args below meth c D nL w0 Q kc ks pc lv (.int y :: .int x :: st) ws := fun H locs ls hP hD hS h => lv_ishr C.1.1 C.1.2.1 d (k H locs ls hP hD hS h)
theorem A_iand (C : CX p s m args meth c cc nL ret own D t) {x y : Int32} (d : decode cc pc = .ok (.iand, 1)) (k : At p l e R s m args below meth c D nL w0 Q kc ks (pc + 1) lv (.int (x &&& y) :: st) ws) : At p l e R s m args below meth c D nL w0 Q kc ks pc lv (.int y :: .int x :: st) ws := fun H locs ls hP hD hS h => lv_iand C.1.1 C.1.2.1 d (k H locs ls hP hD hS h)
theorem A_ior (C : CX p s m args meth c cc nL ret own D t) {x y : Int32} (d : decode cc pc = .ok (.ior, 1)) (k : At p l e R s m args below meth c D nL w0 Q kc ks (pc + 1) lv (.int (x ||| y) :: st) ws) : At p l e R s m args below meth c D nL w0 Q kc ks pc lv (.int y :: .int x :: st) ws := fun H locs ls hP hD hS h => lv_ior C.1.1 C.1.2.1 d (k H locs ls hP hD hS h)
theorem A_ixor (C : CX p s m args meth c cc nL ret own D t) {x y : Int32} (d : decode cc pc = .ok (.ixor, 1)) (k : At p l e R s m args below meth c D nL w0 Q kc ks (pc + 1) lv (.int (x ^^^ y) :: st) ws) : At p l e R s m args below meth c D nL w0 Q kc ks pc lv (.int y :: .int x :: st) ws := fun H locs ls hP hD hS h => lv_ixor C.1.1 C.1.2.1 d (k H locs ls hP hD hS h)
theorem A_ladd (C : CX p s m args meth c cc nL ret own D t) {x y : Int64} (d : decode cc pc = .ok (.ladd, 1)) (k : At p l e R s m args below meth c D nL w0 Q kc ks (pc + 1) lv (.long (x + y) :: st) ws) : At p l e R s m args below meth c D nL w0 Q kc ks pc lv (.long y :: .long x :: st) ws := fun H locs ls hP hD hS h => lv_ladd C.1.1 C.1.2.1 d (k H locs ls hP hD hS h)
theorem A_lcmp (C : CX p s m args meth c cc nL ret own D t) {x y : Int64} (d : decode cc pc = .ok (.lcmp, 1)) (k : At p l e R s m args below meth c D nL w0 Q kc ks (pc + 1) lv (.int (lg_cmp x y) :: st) ws) : At p l e R s m args below meth c D nL w0 Q kc ks pc lv (.long y :: .long x :: st) ws := fun H locs ls hP hD hS h => W.lcmp C.1.1 C.1.2.1 d (k H locs ls hP hD hS h)
theorem A_i2l (C : CX p s m args meth c cc nL ret own D t) {x : Int32} (d : decode cc pc = .ok (.i2l, 1)) (k : At p l e R s m args below meth c D nL w0 Q kc ks (pc + 1) lv (.long x.toInt64 :: st) ws) : At p l e R s m args below meth c D nL w0 Q kc ks pc lv (.int x :: st) ws := fun H locs ls hP hD hS h => lv_i2l C.1.1 C.1.2.1 d rfl (k H locs ls hP hD hS h)
theorem A_dup (C : CX p s m args meth c cc nL ret own D t) {va : Value} (d : decode cc pc = .ok (.dup, 1)) (hv : va.category = 1) (k : At p l e R s m args below meth c D nL w0 Q kc ks (pc + 1) lv (va :: va :: st) ws) : At p l e R s m args below meth c D nL w0 Q kc ks pc lv (va :: st) ws := fun H locs ls hP hD hS h => lv_dup C.1.1 C.1.2.1 d hv (k H locs ls hP hD hS h)
theorem A_dup2 (C : CX p s m args meth c cc nL ret own D t) {va vb : Value} (d : decode cc pc = .ok (.dup2, 1)) (hv : va.category = 1) (hvb : vb.category = 1) (k : At p l e R s m args below meth c D nL w0 Q kc ks (pc + 1) lv (va :: vb :: va :: vb :: st) ws) : At p l e R s m args below meth c D nL w0 Q kc ks pc lv (va :: vb :: st) ws := fun H locs ls hP hD hS h => lv_dup2_11 C.1.1 C.1.2.1 d hv hvb (k H locs ls hP hD hS h)
theorem A_pop (C : CX p s m args meth c cc nL ret own D t) {va : Value} (d : decode cc pc = .ok (.pop, 1)) (hv : va.category = 1) (k : At p l e R s m args below meth c D nL w0 Q kc ks (pc + 1) lv st ws) : At p l e R s m args below meth c D nL w0 Q kc ks pc lv (va :: st) ws := fun H locs ls hP hD hS h => lv_pop C.1.1 C.1.2.1 d hv (k H locs ls hP hD hS h)
theorem A_goto (C : CX p s m args meth c cc nL ret own D t) {off : Int} (tgt : Nat) (d : decode cc pc = .ok (.goto off, 3)) (ht : (pc : Int) + off = (tgt : Int)) (k : At p l e R s m args below meth c D nL w0 Q kc ks tgt lv st ws) : At p l e R s m args below meth c D nL w0 Q kc ks pc lv st ws := fun H locs ls hP hD hS h => lv_goto C.1.1 C.1.2.1 d ht (k H locs ls hP hD hS h)
theorem A_if_eq (C : CX p s m args meth c cc nL ret own D t) {x : Int32} {off : Int} (tgt : Nat) (d : decode cc pc = .ok (.ifCond .eq off, 3)) (ht : (pc : Int) + off = (tgt : Int)) (h0 : (if x = 0 then a else b) = some r) (kt : a = some r → At p l e R s m args below meth c D nL w0 Q kc ks tgt lv st ws) (kf : b = some r → At p l e R s m args below meth c D nL w0 Q kc ks (pc + 3) lv st ws) : At p l e R s m args below meth c D nL w0 Q kc ks pc lv (.int x :: st) ws := fun H locs ls hP hD hS h => lv_if_eq C.1.1 C.1.2.1 d ht (fun cq => kt (by rw [if_pos cq] at h0; exact h0) H locs ls hP hD hS h) (fun cq => kf (by rw [if_neg cq] at h0; exact h0) H locs ls hP hD hS h)
theorem A_if_lt (C : CX p s m args meth c cc nL ret own D t) {x : Int32} {off : Int} (tgt : Nat) (d : decode cc pc = .ok (.ifCond .lt off, 3)) (ht : (pc : Int) + off = (tgt : Int)) (h0 : (if x < 0 then a else b) = some r) (kt : a = some r → At p l e R s m args below meth c D nL w0 Q kc ks tgt lv st ws) (kf : b = some r → At p l e R s m args below meth c D nL w0 Q kc ks (pc + 3) lv st ws) : At p l e R s m args below meth c D nL w0 Q kc ks pc lv (.int x :: st) ws := fun H locs ls hP hD hS h => lv_if_lt C.1.1 C.1.2.1 d ht (fun cq => kt (by rw [if_pos cq] at h0; exact h0) H locs ls hP hD hS h) (fun cq => kf (by rw [if_neg cq] at h0; exact h0) H locs ls hP hD hS h)
theorem A_if_ge (C : CX p s m args meth c cc nL ret own D t) {x : Int32} {off : Int} (tgt : Nat) (d : decode cc pc = .ok (.ifCond .ge off, 3)) (ht : (pc : Int) + off = (tgt : Int)) (h0 : (if 0 ≤ x then a else b) = some r) (kt : a = some r → At p l e R s m args below meth c D nL w0 Q kc ks tgt lv st ws) (kf : b = some r → At p l e R s m args below meth c D nL w0 Q kc ks (pc + 3) lv st ws) : At p l e R s m args below meth c D nL w0 Q kc ks pc lv (.int x :: st) ws := fun H locs ls hP hD hS h => lv_if_ge C.1.1 C.1.2.1 d ht (fun cq => kt (by rw [if_pos cq] at h0; exact h0) H locs ls hP hD hS h) (fun cq => kf (by rw [if_neg cq] at h0; exact h0) H locs ls hP hD hS h)
theorem A_if_gt (C : CX p s m args meth c cc nL ret own D t) {x : Int32} {off : Int} (tgt : Nat) (d : decode cc pc = .ok (.ifCond .gt off, 3)) (ht : (pc : Int) + off = (tgt : Int)) (h0 : (if 0 < x then a else b) = some r) (kt : a = some r → At p l e R s m args below meth c D nL w0 Q kc ks tgt lv st ws) (kf : b = some r → At p l e R s m args below meth c D nL w0 Q kc ks (pc + 3) lv st ws) : At p l e R s m args below meth c D nL w0 Q kc ks pc lv (.int x :: st) ws := fun H locs ls hP hD hS h => lv_if_gt C.1.1 C.1.2.1 d ht (fun cq => kt (by rw [if_pos cq] at h0; exact h0) H locs ls hP hD hS h) (fun cq => kf (by rw [if_neg cq] at h0; exact h0) H locs ls hP hD hS h)
theorem A_if_le (C : CX p s m args meth c cc nL ret own D t) {x : Int32} {off : Int} (tgt : Nat) (d : decode cc pc = .ok (.ifCond .le off, 3)) (ht : (pc : Int) + off = (tgt : Int)) (h0 : (if x ≤ 0 then a else b) = some r) (kt : a = some r → At p l e R s m args below meth c D nL w0 Q kc ks tgt lv st ws) (kf : b = some r → At p l e R s m args below meth c D nL w0 Q kc ks (pc + 3) lv st ws) : At p l e R s m args below meth c D nL w0 Q kc ks pc lv (.int x :: st) ws := fun H locs ls hP hD hS h => lv_if_le C.1.1 C.1.2.1 d ht (fun cq => kt (by rw [if_pos cq] at h0; exact h0) H locs ls hP hD hS h) (fun cq => kf (by rw [if_neg cq] at h0; exact h0) H locs ls hP hD hS h)
theorem A_if_ne (C : CX p s m args meth c cc nL ret own D t) {x : Int32} {off : Int} (tgt : Nat) (d : decode cc pc = .ok (.ifCond .ne off, 3)) (ht : (pc : Int) + off = (tgt : Int)) (h0 : (if x = 0 then b else a) = some r) (kt : a = some r → At p l e R s m args below meth c D nL w0 Q kc ks tgt lv st ws) (kf : b = some r → At p l e R s m args below meth c D nL w0 Q kc ks (pc + 3) lv st ws) : At p l e R s m args below meth c D nL w0 Q kc ks pc lv (.int x :: st) ws := fun H locs ls hP hD hS h => lv_if_ne C.1.1 C.1.2.1 d ht (fun cq => kt (by rw [if_neg cq] at h0; exact h0) H locs ls hP hD hS h) (fun cq => kf (by rw [if_pos cq] at h0; exact h0) H locs ls hP hD hS h)
theorem A_icmp_eq (C : CX p s m args meth c cc nL ret own D t) {x y : Int32} {off : Int} (tgt : Nat) (d : decode cc pc = .ok (.if_icmp .eq off, 3)) (ht : (pc : Int) + off = (tgt : Int)) (h0 : (if x = y then a else b) = some r) (kt : a = some r → At p l e R s m args below meth c D nL w0 Q kc ks tgt lv st ws) (kf : b = some r → At p l e R s m args below meth c D nL w0 Q kc ks (pc + 3) lv st ws) : At p l e R s m args below meth c D nL w0 Q kc ks pc lv (.int y :: .int x :: st) ws := fun H locs ls hP hD hS h => lv_icmp_eq C.1.1 C.1.2.1 d ht (fun cq => kt (by rw [if_pos cq] at h0; exact h0) H locs ls hP hD hS h) (fun cq => kf (by rw [if_neg cq] at h0; exact h0) H locs ls hP hD hS h)
theorem A_icmp_lt (C : CX p s m args meth c cc nL ret own D t) {x y : Int32} {off : Int} (tgt : Nat) (d : decode cc pc = .ok (.if_icmp .lt off, 3)) (ht : (pc : Int) + off = (tgt : Int)) (h0 : (if x < y then a else b) = some r) (kt : a = some r → At p l e R s m args below meth c D nL w0 Q kc ks tgt lv st ws) (kf : b = some r → At p l e R s m args below meth c D nL w0 Q kc ks (pc + 3) lv st ws) : At p l e R s m args below meth c D nL w0 Q kc ks pc lv (.int y :: .int x :: st) ws := fun H locs ls hP hD hS h => lv_icmp_lt C.1.1 C.1.2.1 d ht (fun cq => kt (by rw [if_pos cq] at h0; exact h0) H locs ls hP hD hS h) (fun cq => kf (by rw [if_neg cq] at h0; exact h0) H locs ls hP hD hS h)
theorem A_icmp_ge (C : CX p s m args meth c cc nL ret own D t) {x y : Int32} {off : Int} (tgt : Nat) (d : decode cc pc = .ok (.if_icmp .ge off, 3)) (ht : (pc : Int) + off = (tgt : Int)) (h0 : (if y ≤ x then a else b) = some r) (kt : a = some r → At p l e R s m args below meth c D nL w0 Q kc ks tgt lv st ws) (kf : b = some r → At p l e R s m args below meth c D nL w0 Q kc ks (pc + 3) lv st ws) : At p l e R s m args below meth c D nL w0 Q kc ks pc lv (.int y :: .int x :: st) ws := fun H locs ls hP hD hS h => lv_icmp_ge C.1.1 C.1.2.1 d ht (fun cq => kt (by rw [if_pos cq] at h0; exact h0) H locs ls hP hD hS h) (fun cq => kf (by rw [if_neg cq] at h0; exact h0) H locs ls hP hD hS h)
theorem A_icmp_gt (C : CX p s m args meth c cc nL ret own D t) {x y : Int32} {off : Int} (tgt : Nat) (d : decode cc pc = .ok (.if_icmp .gt off, 3)) (ht : (pc : Int) + off = (tgt : Int)) (h0 : (if y < x then a else b) = some r) (kt : a = some r → At p l e R s m args below meth c D nL w0 Q kc ks tgt lv st ws) (kf : b = some r → At p l e R s m args below meth c D nL w0 Q kc ks (pc + 3) lv st ws) : At p l e R s m args below meth c D nL w0 Q kc ks pc lv (.int y :: .int x :: st) ws := fun H locs ls hP hD hS h => lv_icmp_gt C.1.1 C.1.2.1 d ht (fun cq => kt (by rw [if_pos cq] at h0; exact h0) H locs ls hP hD hS h) (fun cq => kf (by rw [if_neg cq] at h0; exact h0) H locs ls hP hD hS h)
theorem A_icmp_le (C : CX p s m args meth c cc nL ret own D t) {x y : Int32} {off : Int} (tgt : Nat) (d : decode cc pc = .ok (.if_icmp .le off, 3)) (ht : (pc : Int) + off = (tgt : Int)) (h0 : (if x ≤ y then a else b) = some r) (kt : a = some r → At p l e R s m args below meth c D nL w0 Q kc ks tgt lv st ws) (kf : b = some r → At p l e R s m args below meth c D nL w0 Q kc ks (pc + 3) lv st ws) : At p l e R s m args below meth c D nL w0 Q kc ks pc lv (.int y :: .int x :: st) ws := fun H locs ls hP hD hS h => lv_icmp_le C.1.1 C.1.2.1 d ht (fun cq => kt (by rw [if_pos cq] at h0; exact h0) H locs ls hP hD hS h) (fun cq => kf (by rw [if_neg cq] at h0; exact h0) H locs ls hP hD hS h)
theorem A_icmp_ne (C : CX p s m args meth c cc nL ret own D t) {x y : Int32} {off : Int} (tgt : Nat) (d : decode cc pc = .ok (.if_icmp .ne off, 3)) (ht : (pc : Int) + off = (tgt : Int)) (h0 : (if x = y then b else a) = some r) (kt : a = some r → At p l e R s m args below meth c D nL w0 Q kc ks tgt lv st ws) (kf : b = some r → At p l e R s m args below meth c D nL w0 Q kc ks (pc + 3) lv st ws) : At p l e R s m args below meth c D nL w0 Q kc ks pc lv (.int y :: .int x :: st) ws := fun H locs ls hP hD hS h => lv_icmp_ne C.1.1 C.1.2.1 d ht (fun cq => kt (by rw [if_neg cq] at h0; exact h0) H locs ls hP hD hS h) (fun cq => kf (by rw [if_pos cq] at h0; exact h0) H locs ls hP hD hS h)
end ROWS
end
section
-- blocks' values; contracts; the frame by permutation; rows for fields, rows of numbers, calls, ends
abbrev BV : Type := (Nat → Int32) × (Nat → Nat → Int32) × Int64
def gI (S : BV) (k : Nat) : Int32 := S.1 k
def gA (S : BV) (k : Nat) (i : Int32) : Int32 := S.2.1 k i.toNatClampNeg
def gJ (S : BV) : Int64 := S.2.2
def pI (S : BV) (k : Nat) (v : Int32) : BV := (upd S.1 k v, S.2)
def pA (S : BV) (k : Nat) (i v : Int32) : BV := (S.1, va_up S.2.1 k (upd (S.2.1 k) i.toNatClampNeg v), S.2.2)
def pJ (S : BV) (v : Int64) : BV := (S.1, S.2.1, v)
def rmD (d : Nat) : Room := { frames := d, cells := 0, slots := 0, locals := 34 * d }
def PoI (D : va_G) (ws : va_W) (sz : Nat) (Φ : Int32 → va_W → Prop) : Array Value → State → Outcome → State → Prop := va_Qi Φ (fun u t => va_P D classes u t.heap ∧ va_D (va_A ws sz) u) (va_A ws sz)
def PoL (D : va_G) (ws : va_W) (sz : Nat) (Φ : Int64 → va_W → Prop) : Array Value → State → Outcome → State → Prop := va_Ql Φ (fun u t => va_P D classes u t.heap ∧ va_D (va_A ws sz) u) (va_A ws sz)
def PoV (D : va_G) (ws : va_W) (sz : Nat) (Φ : va_W → Prop) : Array Value → State → Outcome → State → Prop := va_Qv Φ (fun u t => va_P D classes u t.heap ∧ va_D (va_A ws sz) u) (va_A ws sz)
def PoR (D : va_G) (ws : va_W) (sz : Nat) (Φ : Nat → va_W → Prop) : Array Value → State → Outcome → State → Prop := va_Qr (fun (_ : va_W) => True) (fun u a t => Φ a u ∧ va_P D classes u t.heap ∧ va_D (va_A ws sz) u) (va_A ws sz)
/-- contracts: from the world ws the method answers x and leaves the world w with Φ x w -/
def MetI (l : Launch) (y : MethodName) (cb : ByteArray) (mL : Nat) (ret : Option FieldType) (rm : Room) (D : va_G) (t : ty4) (av : List Value) (ws : va_W) (Φ : Int32 → va_W → Prop) : Prop := ∀ sz : Nat, Met l y (Cond.code y cb mL ret :: GW) rm (PreW D t av ws sz) (PoI D ws sz Φ) rm.cells rm.slots (va_A ws sz)
def MetL (l : Launch) (y : MethodName) (cb : ByteArray) (mL : Nat) (ret : Option FieldType) (rm : Room) (D : va_G) (t : ty4) (av : List Value) (ws : va_W) (Φ : Int64 → va_W → Prop) : Prop := ∀ sz : Nat, Met l y (Cond.code y cb mL ret :: GW) rm (PreW D t av ws sz) (PoL D ws sz Φ) rm.cells rm.slots (va_A ws sz)
def MetV (l : Launch) (y : MethodName) (cb : ByteArray) (mL : Nat) (ret : Option FieldType) (rm : Room) (D : va_G) (t : ty4) (av : List Value) (ws : va_W) (Φ : va_W → Prop) : Prop := ∀ sz : Nat, Met l y (Cond.code y cb mL ret :: GW) rm (PreW D t av ws sz) (PoV D ws sz Φ) rm.cells rm.slots (va_A ws sz)
def MetR (l : Launch) (y : MethodName) (cb : ByteArray) (mL : Nat) (ret : Option FieldType) (rm : Room) (D : va_G) (t : ty4) (av : List Value) (ws : va_W) (Φ : Nat → va_W → Prop) : Prop := ∀ sz : Nat, Met l y (Cond.code y cb mL ret :: GW) rm (PreW D t av ws sz) (PoR D ws sz Φ) rm.cells rm.slots (va_A ws sz)
abbrev QI (below : List Frame) (args : Array Value) (s : State) (D : va_G) (w0 : va_W) (Φ : Int32 → va_W → Prop) (mc ms : Nat) : State → Prop := MQ below (PoI D w0 s.heap.size Φ) args s mc ms (va_A w0 s.heap.size)
abbrev QL (below : List Frame) (args : Array Value) (s : State) (D : va_G) (w0 : va_W) (Φ : Int64 → va_W → Prop) (mc ms : Nat) : State → Prop := MQ below (PoL D w0 s.heap.size Φ) args s mc ms (va_A w0 s.heap.size)
abbrev QV (below : List Frame) (args : Array Value) (s : State) (D : va_G) (w0 : va_W) (Φ : va_W → Prop) (mc ms : Nat) : State → Prop := MQ below (PoV D w0 s.heap.size Φ) args s mc ms (va_A w0 s.heap.size)
abbrev QR (below : List Frame) (args : Array Value) (s : State) (D : va_G) (w0 : va_W) (Φ : Nat → va_W → Prop) (mc ms : Nat) : State → Prop := MQ below (PoR D w0 s.heap.size Φ) args s mc ms (va_A w0 s.heap.size)
theorem preW_blind {D : va_G} {t : ty4} {av : List Value} {ws : va_W} {sz : Nat} : FrameBlind (PreW D t av ws sz) := by
  intro a U g mk h
  obtain ⟨h1, h2, h3, h4, h5⟩ := h
  exact ⟨h1, h2, h3, ⟨va_K.moved (u := U) (U := U.calling g mk a) (Vm.Alike.refl U.vm) h4.1, NW.same (u := U) (U := U.calling g mk a) rfl h4.2⟩, h5⟩
theorem vaP_iff {D : va_G} {cl : List vw_C} {ws : va_W} {H : Heap} : va_P D cl ws H ↔ ∀ q ∈ ws, va_at D cl q H := ⟨fun h q hq => by obtain ⟨k, hk⟩ := List.getElem?_of_mem hq; exact h k q hk, fun h k q hk => h q (List.mem_of_getElem? hk)⟩
theorem vaD_iff {A : Nat → Prop} {ws : va_W} : va_D A ws ↔ (ws.map (fun q => q.1)).Nodup ∧ ∀ q ∈ ws, A q.1 := by
  constructor
  · intro h
    refine ⟨?_, fun q hq => by obtain ⟨k, hk⟩ := List.getElem?_of_mem hq; exact h.2 k q hk⟩
    rw [List.nodup_iff_pairwise_ne, List.pairwise_iff_getElem]
    intro i j hi hj hij he
    have hi' : i < ws.length := by simpa using hi
    have hj' : j < ws.length := by simpa using hj
    rw [List.getElem_map, List.getElem_map] at he
    have := h.1 i j ws[i] ws[j] (List.getElem?_eq_getElem hi') (List.getElem?_eq_getElem hj') he
    omega
  · intro h
    refine ⟨fun i j p q hp hq he => ?_, fun k q hk => h.2 q (List.mem_of_getElem? hk)⟩
    have hn := h.1
    rw [List.nodup_iff_pairwise_ne, List.pairwise_iff_getElem] at hn
    obtain ⟨hi, hp⟩ := List.getElem?_eq_some_iff.mp hp
    obtain ⟨hj, hq⟩ := List.getElem?_eq_some_iff.mp hq
    rcases Nat.lt_trichotomy i j with h1 | h1 | h1
    · exact absurd (by rw [List.getElem_map, List.getElem_map, hp, hq]; exact he) (hn i j (by simpa using hi) (by simpa using hj) h1)
    · exact h1
    · exact absurd (by rw [List.getElem_map, List.getElem_map, hp, hq]; exact he.symm) (hn j i (by simpa using hj) (by simpa using hi) h1)
theorem vaP_perm {D : va_G} {cl : List vw_C} {ws ws' : va_W} {H : Heap} (h : ws.Perm ws') (hP : va_P D cl ws H) : va_P D cl ws' H := vaP_iff.mpr (fun q hq => vaP_iff.mp hP q (h.mem_iff.mpr hq))
theorem vaD_perm {A : Nat → Prop} {ws ws' : va_W} (h : ws.Perm ws') (hD : va_D A ws) : va_D A ws' := vaD_iff.mpr ⟨(h.map _).nodup (vaD_iff.mp hD).1, fun q hq => (vaD_iff.mp hD).2 q (h.mem_iff.mpr hq)⟩
theorem cut_pre {D : va_G} {cl : List vw_C} {A : Nat → Prop} {ws wr wc : va_W} {H : Heap} (h : ws.Perm (wr ++ wc)) (hP : va_P D cl ws H) (hD : va_D A ws) : va_P D cl wc H ∧ va_D A wc := by
  have hP' := vaP_iff.mp (vaP_perm h hP)
  have hD' := vaD_iff.mp (vaD_perm h hD)
  refine ⟨vaP_iff.mpr (fun q hq => hP' q (List.mem_append_right _ hq)), vaD_iff.mpr ⟨?_, fun q hq => hD'.2 q (List.mem_append_right _ hq)⟩⟩
  have := hD'.1
  rw [List.map_append] at this
  exact (List.nodup_append.mp this).2.1
theorem cut_free {D : va_G} {cl : List vw_C} {A : Nat → Prop} {wc : va_W} {H0 H : Heap} {locs : List Loc} (hD : va_D A wc) (hS : va_S A H0 H locs) (hA : ∀ q, H0.size ≤ q → A q) : ∀ q, va_A wc H.size q → A q := by
  intro q h
  rcases h with ⟨k, e, h⟩ | h
  · exact hD.2 k (q, e) h
  · exact hA q (Nat.le_trans hS.1 h)
theorem cut_post {D : va_G} {cl : List vw_C} {A : Nat → Prop} {ws wr wc w1 : va_W} {H H1 : Heap} (h : ws.Perm (wr ++ wc)) (hP : va_P D cl ws H) (hD : va_D A ws) (hk : ∀ q : Nat, q < H.size → ¬ va_A wc H.size q → H1[q]? = H[q]?) (hF : ∀ q, va_A wc H.size q → A q) (hP1 : va_P D cl w1 H1) (hD1 : va_D (va_A wc H.size) w1) : va_P D cl (wr ++ w1) H1 ∧ va_D A (wr ++ w1) := by
  have hP' := vaP_iff.mp (vaP_perm h hP)
  have hD' := vaD_iff.mp (vaD_perm h hD)
  have hD1' := vaD_iff.mp hD1
  have hnd := hD'.1
  rw [List.map_append] at hnd
  obtain ⟨n1, n2, n3⟩ := List.nodup_append.mp hnd
  have apart : ∀ q ∈ wr, q.1 < H.size ∧ ¬ va_A wc H.size q.1 := by
    intro q hq
    have hlt := (hP' q (List.mem_append_left _ hq)).lt
    refine ⟨hlt, fun hh => ?_⟩
    rcases hh with ⟨k, e, hh⟩ | hh
    · exact n3 q.1 (List.mem_map.mpr ⟨q, hq, rfl⟩) q.1 (List.mem_map.mpr ⟨(q.1, e), List.mem_of_getElem? hh, rfl⟩) rfl
    · omega
  refine ⟨vaP_iff.mpr (fun q hq => ?_), vaD_iff.mpr ⟨?_, fun q hq => ?_⟩⟩
  · rcases List.mem_append.mp hq with hq | hq
    · exact (hP' q (List.mem_append_left _ hq)).kept (hk q.1 (apart q hq).1 (apart q hq).2)
    · exact vaP_iff.mp hP1 q hq
  · rw [List.map_append]
    refine List.nodup_append.mpr ⟨n1, hD1'.1, ?_⟩
    intro a ha b hb hab
    obtain ⟨q, hq, rfl⟩ := List.mem_map.mp ha
    obtain ⟨q2, hq2, rfl⟩ := List.mem_map.mp hb
    exact (apart q hq).2 (by rw [hab]; exact hD1'.2 q2 hq2)
  · rcases List.mem_append.mp hq with hq | hq
    · exact hD'.2 q (List.mem_append_left _ hq)
    · exact hF _ (hD1'.2 q hq)
theorem cutA (u b v : va_W) : (u ++ (b ++ v)).Perm ((u ++ v) ++ b) := by
  rw [List.append_assoc]
  exact List.Perm.append_left u List.perm_append_comm
theorem cutB (u b v c w : va_W) : (u ++ (b ++ (v ++ (c ++ w)))).Perm ((u ++ (v ++ w)) ++ (b ++ c)) := by
  rw [List.append_assoc]
  refine List.Perm.append_left u ?_
  have h1 : (b ++ (v ++ (c ++ w))).Perm (b ++ ((v ++ w) ++ c)) := List.Perm.append_left b (cutA v c w)
  refine h1.trans ?_
  refine (List.perm_append_comm_assoc b (v ++ w) c).trans ?_
  exact List.Perm.refl _
def MwOk (y : MethodName) (cb : ByteArray) (mL : Nat) (ret : Option FieldType) (n : Nat) : Prop := Cond.code y cb mL ret ∈ GW ∧ Cond.initialized y.cls ∈ GW ∧ y.cls ≠ "java/lang/invoke/MethodHandle" ∧ y.cls ≠ "java/lang/invoke/VarHandle" ∧ (parseMethodDescriptor y.desc).map (fun d => d.parameters.length) = some n
theorem mw_good {y : MethodName} {cb : ByteArray} {mL : Nat} {ret : Option FieldType} {n : Nat} (h : MwOk y cb mL ret n) : GoodIn GW (Cond.code y cb mL ret :: GW) := gw_all (fun w hw => by
  rcases List.mem_cons.mp hw with h1 | h1
  · rw [h1]; exact h.1
  · exact h1)
/-- the room that a callee asks for is there -/
def RmOk (rm R : Room) (mL kc ks : Nat) : Prop := rm.frames + 1 ≤ R.frames ∧ 8 + (mL + 11) + rm.locals ≤ R.locals ∧ kc + rm.cells ≤ R.cells ∧ ks + rm.slots ≤ R.slots
theorem inb_in {i : Int32} {n : Nat} (h : inb i n = true) : vp_in i n := by
  unfold inb at h
  have h2 := of_decide_eq_true h
  exact h2
section ROWS2
variable {p : Program} {l : Launch} {e : Env} {R : Room} {s : State} {m : MethodId} {args : Array Value} {below : List Frame} {meth : Method} {c : Code} {D : va_G} {nL : Nat} {w0 : va_W} {Q : State → Prop} {cc : ByteArray} {ret : Option FieldType} {own : String} {t : ty4} {pc : Nat} {lv : List (Nat × Value)} {st : List Value} {ws : va_W} {α : Type} {a b : Option α} {r : α} {kc ks : Nat}
theorem A_perm {ws' : va_W} (h : ws.Perm ws') (k : At p l e R s m args below meth c D nL w0 Q kc ks pc lv st ws') : At p l e R s m args below meth c D nL w0 Q kc ks pc lv st ws := fun H locs ls hP hD hS hl => k H locs ls (vaP_perm h hP) (vaD_perm h hD) hS hl
/-- fields -/
theorem A_get (C : CX p s m args meth c cc nL ret own D t) {ref Cn : String} {T : u_T} {N ci index ad : Nat} {fs : List Value} {v : Value} (q0 k : Nat) (hin : ∀ w ∈ u_ws Cn T N, w ∈ GW) (hc : classes[ci]? = some (Cn, T, N)) (hk : k < N) (hw : Cond.fieldLink own index ref (T k).2.1 (T k).2.2.1 ∈ GW) (hs : (T k).1 = ref) (he : ws[q0]? = some (ad, .inr (ci, fs))) (hv : fs[k]? = some v) (d : decode cc pc = .ok (.getfield index, 3)) (kk : At p l e R s m args below meth c D nL w0 Q kc ks (pc + 3) lv (v :: st) ws) : At p l e R s m args below meth c D nL w0 Q kc ks pc lv (.ref ad :: st) ws := fun H locs ls hP hD hS hl => va_get C.1.1 C.1.2.1 C.1.2.2.2.2 hin C.1.2.2.2.1 C.2.2.2.1 hP q0 he hc k hk (C.1.2.2.2.2 _ hw) (fun x hx => by rw [← hs]; exact hx) hv d (kk H locs ls hP hD hS hl)
theorem A_put (C : CX p s m args meth c cc nL ret own D t) {ref Cn : String} {T : u_T} {N ci index ad : Nat} {fs : List Value} {v : Value} (q0 k : Nat) (ws' : va_W) (ty0 : Nat → FieldType) (hin : ∀ w ∈ u_ws Cn T N, w ∈ GW) (hty : ∀ k, k < N → parseFieldDescriptor (T k).2.2.1 = some (ty0 k)) (hnm : ∀ a, a < N → ∀ b, b < N → a ≠ b → (T a).2.1 ≠ (T b).2.1) (hc : classes[ci]? = some (Cn, T, N)) (hk : k < N) (hw : Cond.fieldLink own index ref (T k).2.1 (T k).2.2.1 ∈ GW) (hs : (T k).1 = ref) (hfin : (T k).2.2.2 = false) (hn : narrow (ty0 k) v = v) (hfit : fits (ty0 k) v = true) (he : ws[q0]? = some (ad, .inr (ci, fs))) (hl : k < fs.length) (hws : ws.set q0 (ad, .inr (ci, fs.set k v)) = ws') (d : decode cc pc = .ok (.putfield index, 3)) (kk : At p l e R s m args below meth c D nL w0 Q kc ks (pc + 3) lv st ws') : At p l e R s m args below meth c D nL w0 Q kc ks pc lv (v :: .ref ad :: st) ws := fun H locs ls hP hD hS hlv => va_put C.1.1 C.1.2.1 C.1.2.2.2.2 hin ty0 hty hnm C.1.2.2.2.1 C.2.2.2.1 hP hD hS q0 he hc k hk (C.1.2.2.2.2 _ hw) (fun x hx => by rw [← hs]; exact hx) hfin (hty k hk) hn hfit hl d (fun H1 locs1 hP1 hD1 hS1 => kk H1 locs1 ls (by rw [← hws]; exact hP1) (by rw [← hws]; exact hD1) hS1 hlv)
/-- rows of numbers -/
theorem A_iald (C : CX p s m args meth c cc nL ret own D t) {n : Nat} {f : Nat → Int32} {i : Int32} {ad : Nat} (q0 : Nat) (ha : ws[q0]? = some (ad, .inl (t.1, n, .inl f))) (d : decode cc pc = .ok (.iaload, 1)) (h0 : ck (inb i n) a = some r) (kk : a = some r → At p l e R s m args below meth c D nL w0 Q kc ks (pc + 1) lv (.int (f i.toNatClampNeg) :: st) ws) : At p l e R s m args below meth c D nL w0 Q kc ks pc lv (.int i :: .ref ad :: st) ws := fun H locs ls hP hD hS hl => va_iald C.1.1 C.1.2.1 C.2.2.2.1 hP q0 0 ha rfl (inb_in (ck_some h0).1) d (kk (ck_some h0).2 H locs ls hP hD hS hl)
theorem A_iast (C : CX p s m args meth c cc nL ret own D t) {n : Nat} {f : Nat → Int32} {i x : Int32} {ad : Nat} (q0 : Nat) (ws' : va_W) (ha : ws[q0]? = some (ad, .inl (t.1, n, .inl f))) (hws : ws.set q0 (ad, .inl (t.1, n, .inl (upd f i.toNatClampNeg x))) = ws') (d : decode cc pc = .ok (.iastore, 1)) (h0 : ck (inb i n) a = some r) (kk : a = some r → At p l e R s m args below meth c D nL w0 Q kc ks (pc + 1) lv st ws') : At p l e R s m args below meth c D nL w0 Q kc ks pc lv (.int x :: .int i :: .ref ad :: st) ws := fun H locs ls hP hD hS hl => va_iast C.1.1 C.1.2.1 C.2.2.2.1 hP hD hS q0 0 ha rfl (inb_in (ck_some h0).1) d (fun H1 locs1 hP1 hD1 hS1 => kk (ck_some h0).2 H1 locs1 ls (by rw [← hws]; exact hP1) (by rw [← hws]; exact hD1) hS1 hl)
theorem A_zald (C : CX p s m args meth c cc nL ret own D t) {n : Nat} {f : Nat → Int32} {i : Int32} {ad : Nat} (q0 : Nat) (ha : ws[q0]? = some (ad, .inl (t.2.1, n, .inl f))) (d : decode cc pc = .ok (.baload, 1)) (h0 : ck (inb i n) a = some r) (kk : a = some r → At p l e R s m args below meth c D nL w0 Q kc ks (pc + 1) lv (.int (f i.toNatClampNeg) :: st) ws) : At p l e R s m args below meth c D nL w0 Q kc ks pc lv (.int i :: .ref ad :: st) ws := fun H locs ls hP hD hS hl => va_zald C.1.1 C.1.2.1 C.2.2.2.1 hP q0 1 ha rfl (inb_in (ck_some h0).1) d (kk (ck_some h0).2 H locs ls hP hD hS hl)
theorem A_zast (C : CX p s m args meth c cc nL ret own D t) {n : Nat} {f : Nat → Int32} {i x : Int32} {ad : Nat} (q0 : Nat) (ws' : va_W) (ha : ws[q0]? = some (ad, .inl (t.2.1, n, .inl f))) (hx : vp_nar .boolean x = x) (hws : ws.set q0 (ad, .inl (t.2.1, n, .inl (upd f i.toNatClampNeg x))) = ws') (d : decode cc pc = .ok (.bastore, 1)) (h0 : ck (inb i n) a = some r) (kk : a = some r → At p l e R s m args below meth c D nL w0 Q kc ks (pc + 1) lv st ws') : At p l e R s m args below meth c D nL w0 Q kc ks pc lv (.int x :: .int i :: .ref ad :: st) ws := fun H locs ls hP hD hS hl => va_zast C.1.1 C.1.2.1 C.2.2.2.1 hP hD hS q0 1 ha rfl (inb_in (ck_some h0).1) d (fun H1 locs1 hP1 hD1 hS1 => kk (ck_some h0).2 H1 locs1 ls (by rw [← hws, ← hx]; rw [hx] at hP1 ⊢; exact hP1) (by rw [← hws]; rw [hx] at hD1; exact hD1) hS1 hl)
/-- ends -/
theorem A_iret (C : CX p s m args meth c cc nL (some .int) own D t) {Φ : Int32 → va_W → Prop} {x : Int32} (d : decode cc pc = .ok (.ireturn, 1)) (hΦ : Φ x ws) : At p l e R s m args below meth c D nL w0 (QI below args s D w0 Φ kc ks) kc ks pc lv [.int x] ws := fun H locs ls hP hD hS hl => W.iret C.1.1 C.1.2.1 C.2.1 (fun t ht hW => ⟨⟨x, ws, rfl, hΦ, by rw [ht]; exact hP, hD⟩, hS.F ht⟩) hS.2.2 d C.2.2.1
theorem A_zret (C : CX p s m args meth c cc nL (some .boolean) own D t) {Φ : Int32 → va_W → Prop} {x : Int32} (d : decode cc pc = .ok (.ireturn, 1)) (hz : isb x = true) (hΦ : Φ x ws) : At p l e R s m args below meth c D nL w0 (QI below args s D w0 Φ kc ks) kc ks pc lv [.int x] ws := fun H locs ls hP hD hS hl => W.zret C.1.1 C.1.2.1 C.2.1 (of_decide_eq_true hz) (fun t ht hW => ⟨⟨x, ws, rfl, hΦ, by rw [ht]; exact hP, hD⟩, hS.F ht⟩) hS.2.2 d C.2.2.1
theorem A_lret (C : CX p s m args meth c cc nL (some .long) own D t) {Φ : Int64 → va_W → Prop} {x : Int64} (d : decode cc pc = .ok (.lreturn, 1)) (hΦ : Φ x ws) : At p l e R s m args below meth c D nL w0 (QL below args s D w0 Φ kc ks) kc ks pc lv [.long x] ws := fun H locs ls hP hD hS hl => W.lret C.1.1 C.1.2.1 C.2.1 (fun t ht hW => ⟨⟨x, ws, rfl, hΦ, by rw [ht]; exact hP, hD⟩, hS.F ht⟩) hS.2.2 d C.2.2.1
theorem A_vret (C : CX p s m args meth c cc nL none own D t) {Φ : va_W → Prop} (d : decode cc pc = .ok (.return_, 1)) (hΦ : Φ ws) : At p l e R s m args below meth c D nL w0 (QV below args s D w0 Φ kc ks) kc ks pc lv [] ws := fun H locs ls hP hD hS hl => W.vret C.1.1 C.1.2.1 C.2.1 (fun t ht hW => ⟨⟨ws, rfl, hΦ, by rw [ht]; exact hP, hD⟩, hS.F ht⟩) hS.2.2 d C.2.2.1
theorem A_aret (C : CX p s m args meth c cc nL ret own D t) {Φ : Nat → va_W → Prop} {x : Nat} {nm : String} (hret : ret = some (.object nm)) (d : decode cc pc = .ok (.areturn, 1)) (hΦ : Φ x ws) : At p l e R s m args below meth c D nL w0 (QR below args s D w0 Φ kc ks) kc ks pc lv [.ref x] ws := fun H locs ls hP hD hS hl => W.aret C.1.1 C.1.2.1 (by rw [C.2.1, hret]) (Or.inl ⟨_, rfl⟩) (Or.inr ⟨x, rfl⟩) (fun t ht hW => ⟨⟨ws, x, rfl, trivial, hΦ, by rw [ht]; exact hP, hD⟩, hS.F ht⟩) hS.2.2 d C.2.2.1
theorem A_callI {wc wr : va_W} {Φ : Int32 → va_W → Prop} {rm : Room} {av : Array Value} {rest : List Value} (hA0 : ws.Perm (wr ++ wc)) (hrun : ∀ (H : Heap) (locs : List Loc) (ls : Array Slot), va_P D classes wc H → va_D (fun _ => True) wc → lv_has ls nL lv → va_Run p l e R s m args below meth c H locs kc ks rm.cells rm.slots (F0 m pc ls st) rest (PoI D wc H.size Φ av) (va_A wc H.size))
    (k : ∀ (x : Int32) (w1 : va_W), Φ x w1 → At p l e R s m args below meth c D nL w0 Q (kc + rm.cells) (ks + rm.slots) (pc + 3) lv (.int x :: rest) (wr ++ w1)) : At p l e R s m args below meth c D nL w0 Q kc ks pc lv st ws := by
  intro H locs ls hP hD hS hl
  obtain ⟨hPc, hDc⟩ := cut_pre hA0 hP hD
  have hF := cut_free (D := D) (cl := classes) hDc hS (fun q h => Or.inr h)
  refine va_calli (hrun H locs ls hPc (hDc.weaken (fun _ _ _ _ => trivial)) hl) hS (fun q _ h => hF q h) hF (fun x u t1 H1 locs1 ht hvm hw hB hz1 hk1 hS1 => ?_)
  obtain ⟨hP1, hD1⟩ := hB
  rw [ht] at hP1
  obtain ⟨hP2, hD2⟩ := cut_post hA0 hP hD hk1 hF hP1 hD1
  exact k x u hw H1 locs1 ls hP2 hD2 hS1 hl
theorem A_callL {wc wr : va_W} {Φ : Int64 → va_W → Prop} {rm : Room} {av : Array Value} {rest : List Value} (hA0 : ws.Perm (wr ++ wc)) (hrun : ∀ (H : Heap) (locs : List Loc) (ls : Array Slot), va_P D classes wc H → va_D (fun _ => True) wc → lv_has ls nL lv → va_Run p l e R s m args below meth c H locs kc ks rm.cells rm.slots (F0 m pc ls st) rest (PoL D wc H.size Φ av) (va_A wc H.size))
    (k : ∀ (x : Int64) (w1 : va_W), Φ x w1 → At p l e R s m args below meth c D nL w0 Q (kc + rm.cells) (ks + rm.slots) (pc + 3) lv (.long x :: rest) (wr ++ w1)) : At p l e R s m args below meth c D nL w0 Q kc ks pc lv st ws := by
  intro H locs ls hP hD hS hl
  obtain ⟨hPc, hDc⟩ := cut_pre hA0 hP hD
  have hF := cut_free (D := D) (cl := classes) hDc hS (fun q h => Or.inr h)
  refine va_calll (hrun H locs ls hPc (hDc.weaken (fun _ _ _ _ => trivial)) hl) hS (fun q _ h => hF q h) hF (fun x u t1 H1 locs1 ht hvm hw hB hz1 hk1 hS1 => ?_)
  obtain ⟨hP1, hD1⟩ := hB
  rw [ht] at hP1
  obtain ⟨hP2, hD2⟩ := cut_post hA0 hP hD hk1 hF hP1 hD1
  exact k x u hw H1 locs1 ls hP2 hD2 hS1 hl
theorem A_callV {wc wr : va_W} {Φ : va_W → Prop} {rm : Room} {av : Array Value} {rest : List Value} (hA0 : ws.Perm (wr ++ wc)) (hrun : ∀ (H : Heap) (locs : List Loc) (ls : Array Slot), va_P D classes wc H → va_D (fun _ => True) wc → lv_has ls nL lv → va_Run p l e R s m args below meth c H locs kc ks rm.cells rm.slots (F0 m pc ls st) rest (PoV D wc H.size Φ av) (va_A wc H.size))
    (k : ∀ (w1 : va_W), Φ w1 → At p l e R s m args below meth c D nL w0 Q (kc + rm.cells) (ks + rm.slots) (pc + 3) lv rest (wr ++ w1)) : At p l e R s m args below meth c D nL w0 Q kc ks pc lv st ws := by
  intro H locs ls hP hD hS hl
  obtain ⟨hPc, hDc⟩ := cut_pre hA0 hP hD
  have hF := cut_free (D := D) (cl := classes) hDc hS (fun q h => Or.inr h)
  refine va_callv (hrun H locs ls hPc (hDc.weaken (fun _ _ _ _ => trivial)) hl) hS (fun q _ h => hF q h) hF (fun u t1 H1 locs1 ht hvm hw hB hz1 hk1 hS1 => ?_)
  obtain ⟨hP1, hD1⟩ := hB
  rw [ht] at hP1
  obtain ⟨hP2, hD2⟩ := cut_post hA0 hP hD hk1 hF hP1 hD1
  exact k u hw H1 locs1 ls hP2 hD2 hS1 hl
theorem A_callR {wc wr : va_W} {Φ : Nat → va_W → Prop} {rm : Room} {av : Array Value} {rest : List Value} (hA0 : ws.Perm (wr ++ wc)) (hrun : ∀ (H : Heap) (locs : List Loc) (ls : Array Slot), va_P D classes wc H → va_D (fun _ => True) wc → lv_has ls nL lv → va_Run p l e R s m args below meth c H locs kc ks rm.cells rm.slots (F0 m pc ls st) rest (PoR D wc H.size Φ av) (va_A wc H.size))
    (k : ∀ (x : Nat) (w1 : va_W), Φ x w1 → At p l e R s m args below meth c D nL w0 Q (kc + rm.cells) (ks + rm.slots) (pc + 3) lv (.ref x :: rest) (wr ++ w1)) : At p l e R s m args below meth c D nL w0 Q kc ks pc lv st ws := by
  intro H locs ls hP hD hS hl
  obtain ⟨hPc, hDc⟩ := cut_pre hA0 hP hD
  have hF := cut_free (D := D) (cl := classes) hDc hS (fun q h => Or.inr h)
  refine va_callr (hrun H locs ls hPc (hDc.weaken (fun _ _ _ _ => trivial)) hl) hS (fun q _ h => hF q h) hF (fun u x t1 H1 locs1 ht hvm _ hB hz1 hk1 hS1 => ?_)
  obtain ⟨hw, hP1, hD1⟩ := hB
  rw [ht] at hP1
  obtain ⟨hP2, hD2⟩ := cut_post hA0 hP hD hk1 hF hP1 hD1
  exact k x u hw H1 locs1 ls hP2 hD2 hS1 hl
theorem A_vI (C : CX p s m args meth c cc nL ret own D t) {y : MethodName} {cb : ByteArray} {mL : Nat} {ret2 : Option FieldType} {rm : Room} {As rest : List Value} {wc wr : va_W} {index n : Nat} {Φ : Int32 → va_W → Prop} {b0 ci : Nat} {Cn : String} {T : u_T} {N : Nat} {fs : List Value} (q0 : Nat) (hM : MetI l y cb mL ret2 rm D t (.ref b0 :: As) wc Φ) (hw : MwOk y cb mL ret2 n) (hl : Cond.methodLink own index y ∈ GW) (hi : Cond.instanceMethod y ∈ GW) (hsel : Cond.selects Cn y y ∈ GW) (hR : RmOk rm R mL kc ks) (hcut : ws.Perm (wr ++ wc)) (hrecv : wc[q0]? = some (b0, .inr (ci, fs))) (hc : classes[ci]? = some (Cn, T, N)) (hn : As.length = n) (hst : st = As.reverse ++ .ref b0 :: rest) (hcat : (rest.map fun v => v.category).sum ≤ 8) (d : decode cc pc = .ok (.invokevirtual index, 3)) (k : ∀ (x : Int32) (w1 : va_W), Φ x w1 → At p l e R s m args below meth c D nL w0 Q (kc + rm.cells) (ks + rm.slots) (pc + 3) lv (.int x :: rest) (wr ++ w1)) : At p l e R s m args below meth c D nL w0 Q kc ks pc lv st ws :=
  A_callI hcut (fun H locs ls hPc hDc hlv => va_runV (As := As) (rest := rest) (C := Cn) C.1 (hM H.size) ⟨callB_of n C.1.2.2.2.2 (mw_good hw) rfl rfl rfl (C.1.2.2.2.2 _ hw.2.1) (C.1.2.2.2.2 _ hl) hw.2.2 ⟨hR.1, hR.2.1⟩, C.1.2.2.2.2 _ hi, C.1.2.2.2.2 _ hsel⟩ ⟨preW_blind, va_recv C.2.2.2.1 hPc hc hrecv, fun U hU hW => ⟨rfl, by rw [hU], by rw [hU]; exact hPc, KB.warm hW C.2.2.2, hDc⟩⟩ rfl hn hlv.1 hst (lv_room hcat) d ⟨hR.2.2.1, hR.2.2.2⟩) k
theorem A_sI (C : CX p s m args meth c cc nL ret own D t) {y : MethodName} {cb : ByteArray} {mL : Nat} {ret2 : Option FieldType} {rm : Room} {As rest : List Value} {wc wr : va_W} {index n : Nat} {Φ : Int32 → va_W → Prop} (hM : MetI l y cb mL ret2 rm D t As wc Φ) (hw : MwOk y cb mL ret2 n) (hl : Cond.methodLink own index y ∈ GW) (hi : Cond.static y ∈ GW) (hR : RmOk rm R mL kc ks) (hcut : ws.Perm (wr ++ wc)) (hn : As.length = n) (hst : st = As.reverse ++ rest) (hcat : (rest.map fun v => v.category).sum ≤ 8) (d : decode cc pc = .ok (.invokestatic index, 3)) (k : ∀ (x : Int32) (w1 : va_W), Φ x w1 → At p l e R s m args below meth c D nL w0 Q (kc + rm.cells) (ks + rm.slots) (pc + 3) lv (.int x :: rest) (wr ++ w1)) : At p l e R s m args below meth c D nL w0 Q kc ks pc lv st ws :=
  A_callI hcut (fun H locs ls hPc hDc hlv => va_runS (As := As) (rest := rest) C.1 (hM H.size) ⟨callB_of n C.1.2.2.2.2 (mw_good hw) rfl rfl rfl (C.1.2.2.2.2 _ hw.2.1) (C.1.2.2.2.2 _ hl) hw.2.2 ⟨hR.1, hR.2.1⟩, C.1.2.2.2.2 _ hi⟩ ⟨preW_blind, fun U hU hW => ⟨rfl, by rw [hU], by rw [hU]; exact hPc, KB.warm hW C.2.2.2, hDc⟩⟩ rfl hn hlv.1 hst (lv_room hcat) d ⟨hR.2.2.1, hR.2.2.2⟩) k
theorem A_snI (C : CX p s m args meth c cc nL ret own D t) {y : MethodName} {cb : ByteArray} {mL : Nat} {ret2 : Option FieldType} {rm : Room} {As rest : List Value} {wc wr : va_W} {index n : Nat} {Φ : Int32 → va_W → Prop} {host : String} (hM : MetI l y cb mL ret2 rm D t As wc Φ) (hw : MwOk y cb mL ret2 n) (hl : va_Nw (.methodLinkNest own index y host) s) (hi : Cond.static y ∈ GW) (hR : RmOk rm R mL kc ks) (hcut : ws.Perm (wr ++ wc)) (hn : As.length = n) (hst : st = As.reverse ++ rest) (hcat : (rest.map fun v => v.category).sum ≤ 8) (d : decode cc pc = .ok (.invokestatic index, 3)) (k : ∀ (x : Int32) (w1 : va_W), Φ x w1 → At p l e R s m args below meth c D nL w0 Q (kc + rm.cells) (ks + rm.slots) (pc + 3) lv (.int x :: rest) (wr ++ w1)) : At p l e R s m args below meth c D nL w0 Q kc ks pc lv st ws :=
  A_callI hcut (fun H locs ls hPc hDc hlv => va_runSN (As := As) (rest := rest) C.1 (hM H.size) ⟨va_cnB n C.1.2.2.2.2 (mw_good hw) rfl rfl rfl hl (C.1.2.2.2.2 _ hw.2.1) hw.2.2 ⟨hR.1, hR.2.1⟩, C.1.2.2.2.2 _ hi, trivial⟩ ⟨preW_blind, fun U hU hW => ⟨rfl, by rw [hU], by rw [hU]; exact hPc, KB.warm hW C.2.2.2, hDc⟩⟩ rfl hn hlv.1 hst (lv_room hcat) d ⟨hR.2.2.1, hR.2.2.2⟩) k
theorem A_vL (C : CX p s m args meth c cc nL ret own D t) {y : MethodName} {cb : ByteArray} {mL : Nat} {ret2 : Option FieldType} {rm : Room} {As rest : List Value} {wc wr : va_W} {index n : Nat} {Φ : Int64 → va_W → Prop} {b0 ci : Nat} {Cn : String} {T : u_T} {N : Nat} {fs : List Value} (q0 : Nat) (hM : MetL l y cb mL ret2 rm D t (.ref b0 :: As) wc Φ) (hw : MwOk y cb mL ret2 n) (hl : Cond.methodLink own index y ∈ GW) (hi : Cond.instanceMethod y ∈ GW) (hsel : Cond.selects Cn y y ∈ GW) (hR : RmOk rm R mL kc ks) (hcut : ws.Perm (wr ++ wc)) (hrecv : wc[q0]? = some (b0, .inr (ci, fs))) (hc : classes[ci]? = some (Cn, T, N)) (hn : As.length = n) (hst : st = As.reverse ++ .ref b0 :: rest) (hcat : (rest.map fun v => v.category).sum ≤ 8) (d : decode cc pc = .ok (.invokevirtual index, 3)) (k : ∀ (x : Int64) (w1 : va_W), Φ x w1 → At p l e R s m args below meth c D nL w0 Q (kc + rm.cells) (ks + rm.slots) (pc + 3) lv (.long x :: rest) (wr ++ w1)) : At p l e R s m args below meth c D nL w0 Q kc ks pc lv st ws :=
  A_callL hcut (fun H locs ls hPc hDc hlv => va_runV (As := As) (rest := rest) (C := Cn) C.1 (hM H.size) ⟨callB_of n C.1.2.2.2.2 (mw_good hw) rfl rfl rfl (C.1.2.2.2.2 _ hw.2.1) (C.1.2.2.2.2 _ hl) hw.2.2 ⟨hR.1, hR.2.1⟩, C.1.2.2.2.2 _ hi, C.1.2.2.2.2 _ hsel⟩ ⟨preW_blind, va_recv C.2.2.2.1 hPc hc hrecv, fun U hU hW => ⟨rfl, by rw [hU], by rw [hU]; exact hPc, KB.warm hW C.2.2.2, hDc⟩⟩ rfl hn hlv.1 hst (lv_room hcat) d ⟨hR.2.2.1, hR.2.2.2⟩) k
theorem A_vV (C : CX p s m args meth c cc nL ret own D t) {y : MethodName} {cb : ByteArray} {mL : Nat} {ret2 : Option FieldType} {rm : Room} {As rest : List Value} {wc wr : va_W} {index n : Nat} {Φ : va_W → Prop} {b0 ci : Nat} {Cn : String} {T : u_T} {N : Nat} {fs : List Value} (q0 : Nat) (hM : MetV l y cb mL ret2 rm D t (.ref b0 :: As) wc Φ) (hw : MwOk y cb mL ret2 n) (hl : Cond.methodLink own index y ∈ GW) (hi : Cond.instanceMethod y ∈ GW) (hsel : Cond.selects Cn y y ∈ GW) (hR : RmOk rm R mL kc ks) (hcut : ws.Perm (wr ++ wc)) (hrecv : wc[q0]? = some (b0, .inr (ci, fs))) (hc : classes[ci]? = some (Cn, T, N)) (hn : As.length = n) (hst : st = As.reverse ++ .ref b0 :: rest) (hcat : (rest.map fun v => v.category).sum ≤ 8) (d : decode cc pc = .ok (.invokevirtual index, 3)) (k : ∀ (w1 : va_W), Φ w1 → At p l e R s m args below meth c D nL w0 Q (kc + rm.cells) (ks + rm.slots) (pc + 3) lv rest (wr ++ w1)) : At p l e R s m args below meth c D nL w0 Q kc ks pc lv st ws :=
  A_callV hcut (fun H locs ls hPc hDc hlv => va_runV (As := As) (rest := rest) (C := Cn) C.1 (hM H.size) ⟨callB_of n C.1.2.2.2.2 (mw_good hw) rfl rfl rfl (C.1.2.2.2.2 _ hw.2.1) (C.1.2.2.2.2 _ hl) hw.2.2 ⟨hR.1, hR.2.1⟩, C.1.2.2.2.2 _ hi, C.1.2.2.2.2 _ hsel⟩ ⟨preW_blind, va_recv C.2.2.2.1 hPc hc hrecv, fun U hU hW => ⟨rfl, by rw [hU], by rw [hU]; exact hPc, KB.warm hW C.2.2.2, hDc⟩⟩ rfl hn hlv.1 hst (lv_room hcat) d ⟨hR.2.2.1, hR.2.2.2⟩) k
theorem A_iV (C : CX p s m args meth c cc nL ret own D t) {y : MethodName} {cb : ByteArray} {mL : Nat} {rm : Room} {As rest : List Value} {wc wr : va_W} {index n : Nat} {Φ : va_W → Prop} {b0 : Nat} (hM : MetV l y cb mL none rm D t (.ref b0 :: As) wc Φ) (hw : MwOk y cb mL none n) (hl : Cond.methodLink own index y ∈ GW) (hi : Cond.instanceMethod y ∈ GW) (hy : y.name = "<init>") (hR : RmOk rm R mL kc ks) (hcut : ws.Perm (wr ++ wc)) (hn : As.length = n) (hst : st = As.reverse ++ .ref b0 :: rest) (hcat : (rest.map fun v => v.category).sum ≤ 8) (d : decode cc pc = .ok (.invokespecial index, 3)) (k : ∀ (w1 : va_W), Φ w1 → At p l e R s m args below meth c D nL w0 Q (kc + rm.cells) (ks + rm.slots) (pc + 3) lv rest (wr ++ w1)) : At p l e R s m args below meth c D nL w0 Q kc ks pc lv st ws :=
  A_callV hcut (fun H locs ls hPc hDc hlv => va_runI (As := As) (rest := rest) C.1 (hM H.size) ⟨callB_of n C.1.2.2.2.2 (mw_good hw) rfl rfl rfl (C.1.2.2.2.2 _ hw.2.1) (C.1.2.2.2.2 _ hl) hw.2.2 ⟨hR.1, hR.2.1⟩, hy, C.1.2.2.2.2 _ hi⟩ ⟨preW_blind, fun U hU hW => ⟨rfl, by rw [hU], by rw [hU]; exact hPc, KB.warm hW C.2.2.2, hDc⟩⟩ rfl hn hlv.1 hst (lv_room hcat) d ⟨hR.2.2.1, hR.2.2.2⟩) k
theorem A_inV (C : CX p s m args meth c cc nL ret own D t) {y : MethodName} {cb : ByteArray} {mL : Nat} {rm : Room} {As rest : List Value} {wc wr : va_W} {index n : Nat} {Φ : va_W → Prop} {b0 : Nat} {host : String} (hM : MetV l y cb mL none rm D t (.ref b0 :: As) wc Φ) (hw : MwOk y cb mL none n) (hl : va_Nw (.methodLinkNest own index y host) s) (hi : Cond.instanceMethod y ∈ GW) (hy : y.name = "<init>") (hR : RmOk rm R mL kc ks) (hcut : ws.Perm (wr ++ wc)) (hn : As.length = n) (hst : st = As.reverse ++ .ref b0 :: rest) (hcat : (rest.map fun v => v.category).sum ≤ 8) (d : decode cc pc = .ok (.invokespecial index, 3)) (k : ∀ (w1 : va_W), Φ w1 → At p l e R s m args below meth c D nL w0 Q (kc + rm.cells) (ks + rm.slots) (pc + 3) lv rest (wr ++ w1)) : At p l e R s m args below meth c D nL w0 Q kc ks pc lv st ws :=
  A_callV hcut (fun H locs ls hPc hDc hlv => va_runIN (As := As) (rest := rest) C.1 (hM H.size) ⟨va_cnB n C.1.2.2.2.2 (mw_good hw) rfl rfl rfl hl (C.1.2.2.2.2 _ hw.2.1) hw.2.2 ⟨hR.1, hR.2.1⟩, hy, C.1.2.2.2.2 _ hi⟩ ⟨preW_blind, fun U hU hW => ⟨rfl, by rw [hU], by rw [hU]; exact hPc, KB.warm hW C.2.2.2, hDc⟩⟩ rfl hn hlv.1 hst (lv_room hcat) d ⟨hR.2.2.1, hR.2.2.2⟩) k
theorem A_vR (C : CX p s m args meth c cc nL ret own D t) {y : MethodName} {cb : ByteArray} {mL : Nat} {ret2 : Option FieldType} {rm : Room} {As rest : List Value} {wc wr : va_W} {index n : Nat} {Φ : Nat → va_W → Prop} {b0 ci : Nat} {Cn : String} {T : u_T} {N : Nat} {fs : List Value} (q0 : Nat) (hM : MetR l y cb mL ret2 rm D t (.ref b0 :: As) wc Φ) (hw : MwOk y cb mL ret2 n) (hl : Cond.methodLink own index y ∈ GW) (hi : Cond.instanceMethod y ∈ GW) (hsel : Cond.selects Cn y y ∈ GW) (hR : RmOk rm R mL kc ks) (hcut : ws.Perm (wr ++ wc)) (hrecv : wc[q0]? = some (b0, .inr (ci, fs))) (hc : classes[ci]? = some (Cn, T, N)) (hn : As.length = n) (hst : st = As.reverse ++ .ref b0 :: rest) (hcat : (rest.map fun v => v.category).sum ≤ 8) (d : decode cc pc = .ok (.invokevirtual index, 3)) (k : ∀ (x : Nat) (w1 : va_W), Φ x w1 → At p l e R s m args below meth c D nL w0 Q (kc + rm.cells) (ks + rm.slots) (pc + 3) lv (.ref x :: rest) (wr ++ w1)) : At p l e R s m args below meth c D nL w0 Q kc ks pc lv st ws :=
  A_callR hcut (fun H locs ls hPc hDc hlv => va_runV (As := As) (rest := rest) (C := Cn) C.1 (hM H.size) ⟨callB_of n C.1.2.2.2.2 (mw_good hw) rfl rfl rfl (C.1.2.2.2.2 _ hw.2.1) (C.1.2.2.2.2 _ hl) hw.2.2 ⟨hR.1, hR.2.1⟩, C.1.2.2.2.2 _ hi, C.1.2.2.2.2 _ hsel⟩ ⟨preW_blind, va_recv C.2.2.2.1 hPc hc hrecv, fun U hU hW => ⟨rfl, by rw [hU], by rw [hU]; exact hPc, KB.warm hW C.2.2.2, hDc⟩⟩ rfl hn hlv.1 hst (lv_room hcat) d ⟨hR.2.2.1, hR.2.2.2⟩) k
theorem A_mmax (C : CX p s m args meth c cc nL ret own D t) {x y : Int32} {index : Nat} {rest : List Value} (hl : Cond.methodLink own index Lib.Math.max.name ∈ GW) (hi : Cond.static Lib.Math.max.name ∈ GW) (h2 : Cond.initialized "java/lang/Math" ∈ GW) (h3 : Cond.code Lib.Math.max.name Lib.Math.max.code 2 (some .int) ∈ GW) (hf : 1 ≤ R.frames) (hlo : (rest.map fun v => v.category).sum + 13 ≤ R.locals) (hkc : kc ≤ R.cells) (hks : ks ≤ R.slots) (d : decode cc pc = .ok (.invokestatic index, 3)) (k : At p l e R s m args below meth c D nL w0 Q kc ks (pc + 3) lv (.int (if x < y then y else x) :: rest) ws) : At p l e R s m args below meth c D nL w0 Q kc ks pc lv (.int y :: .int x :: rest) ws := fun H locs ls hP hD hS hlv => va_mmax C.1.1 C.1.2.1 (by rw [C.1.2.2.1, hlv.1]) C.1.2.2.2.1 (C.1.2.2.2.2 _ hl) (C.1.2.2.2.2 _ hi) (C.1.2.2.2.2 _ h2) (C.1.2.2.2.2 _ h3) hf hlo hkc hks d (k H locs ls hP hD hS hlv)
theorem A_mmin (C : CX p s m args meth c cc nL ret own D t) {x y : Int32} {index : Nat} {rest : List Value} (hl : Cond.methodLink own index Lib.Math.min.name ∈ GW) (hi : Cond.static Lib.Math.min.name ∈ GW) (h2 : Cond.initialized "java/lang/Math" ∈ GW) (h3 : Cond.code Lib.Math.min.name Lib.Math.min.code 2 (some .int) ∈ GW) (hf : 1 ≤ R.frames) (hlo : (rest.map fun v => v.category).sum + 13 ≤ R.locals) (hkc : kc ≤ R.cells) (hks : ks ≤ R.slots) (d : decode cc pc = .ok (.invokestatic index, 3)) (k : At p l e R s m args below meth c D nL w0 Q kc ks (pc + 3) lv (.int (if y < x then y else x) :: rest) ws) : At p l e R s m args below meth c D nL w0 Q kc ks pc lv (.int y :: .int x :: rest) ws := fun H locs ls hP hD hS hlv => va_mmin C.1.1 C.1.2.1 (by rw [C.1.2.2.1, hlv.1]) C.1.2.2.2.1 (C.1.2.2.2.2 _ hl) (C.1.2.2.2.2 _ hi) (C.1.2.2.2.2 _ h2) (C.1.2.2.2.2 _ h3) hf hlo hkc hks d (k H locs ls hP hD hS hlv)
theorem A_tabIn (C : CX p s m args meth c cc nL ret own D t) {dflt lo hi : Int} {offs : Array Int} {len : Nat} {x : Int32} {off : Int} (tgt : Nat) (d : decode cc pc = .ok (.tableswitch dflt lo hi offs, len)) (h1 : ¬ x.toInt < lo) (h2 : ¬ hi < x.toInt) (ho : offs[(x.toInt - lo).toNat]? = some off) (ht : (pc : Int) + off = (tgt : Int)) (k : At p l e R s m args below meth c D nL w0 Q kc ks tgt lv st ws) : At p l e R s m args below meth c D nL w0 Q kc ks pc lv (.int x :: st) ws := fun H locs ls hP hD hS hl => lv_tableIn C.1.1 C.1.2.1 d h1 h2 ho ht (k H locs ls hP hD hS hl)
theorem A_tabOut (C : CX p s m args meth c cc nL ret own D t) {dflt lo hi : Int} {offs : Array Int} {len : Nat} {x : Int32} (tgt : Nat) (d : decode cc pc = .ok (.tableswitch dflt lo hi offs, len)) (h : x.toInt < lo ∨ hi < x.toInt) (ht : (pc : Int) + dflt = (tgt : Int)) (k : At p l e R s m args below meth c D nL w0 Q kc ks tgt lv st ws) : At p l e R s m args below meth c D nL w0 Q kc ks pc lv (.int x :: st) ws := fun H locs ls hP hD hS hl => lv_tableOut C.1.1 C.1.2.1 d h ht (k H locs ls hP hD hS hl)
theorem A_look (C : CX p s m args meth c cc nL ret own D t) {dflt : Int} {ps : Array (Int × Int)} {len : Nat} {x : Int32} {off : Int} (tgt : Nat) (d : decode cc pc = .ok (.lookupswitch dflt ps, len)) (hp : (ps.toList.zip (ps.toList.drop 1)).all (fun (a, next) => a.1 < next.1) = true) (ho : Op.lookupswitch.offset ps.toList dflt x.toInt = off) (ht : (pc : Int) + off = (tgt : Int)) (k : At p l e R s m args below meth c D nL w0 Q kc ks tgt lv st ws) : At p l e R s m args below meth c D nL w0 Q kc ks pc lv (.int x :: st) ws := fun H locs ls hP hD hS hl => lv_lookup C.1.1 C.1.2.1 d hp ho ht (k H locs ls hP hD hS hl)
theorem sw_split {x k : Int32} {P : Prop} (h0 : (if x = k then a else b) = some r) (ht : x = k → a = some r → P) (hf : ¬ x = k → b = some r → P) : P := by
  by_cases h : x = k
  · rw [if_pos h] at h0; exact ht h h0
  · rw [if_neg h] at h0; exact hf h h0
theorem MetI_of {y : MethodName} {cb : ByteArray} {mL : Nat} {ret : Option FieldType} {rm : Room} {av : List Value} {ws : va_W} {Φ : Int32 → va_W → Prop} (hy : plainName y.cls = true) (hlen : (lg_sl av).length ≤ mL) (body : ∀ (p : Program) (e : Env) (s : State) (m : MethodId) (below : List Frame) (meth : Method) (c : Code), CX p s m av.toArray meth c cb mL ret y.cls D t → (y.name = "<init>" → meth.name = "<init>") → At p l e rm s m av.toArray below meth c D mL ws (QI below av.toArray s D ws Φ rm.cells rm.slots) 0 0 0 (lv_args 0 av) [] ws) : MetI l y cb mL ret rm D t av ws Φ := by
  intro sz
  refine Met.ofW (cc := cb) (maxL := mL) (ret := ret) hy rfl ?_
  intro p e s m args below meth c s₁ B hml hv
  obtain ⟨rfl, hsz, hP, hK, hD0⟩ := hv
  subst hsz
  have hts := atoms_spec (ws := Cond.code y cb mL ret :: GW) B.pre
  have hlv := lv_entry av (n := mL) hlen
  rw [lg_entry_eq]
  exact body p e s m below meth c ⟨⟨B.exec, B.bytes, hml, findClass_of_methodNamed B.named, fun w hw => hts w (List.mem_cons_of_mem _ hw)⟩, B.returns, B.notSynchronized, hK⟩ (fun h => (name_of_methodNamed B.named B.method).1.trans h) s.heap [] _ hP hD0.self va_S.rf hlv
theorem MetL_of {y : MethodName} {cb : ByteArray} {mL : Nat} {ret : Option FieldType} {rm : Room} {av : List Value} {ws : va_W} {Φ : Int64 → va_W → Prop} (hy : plainName y.cls = true) (hlen : (lg_sl av).length ≤ mL) (body : ∀ (p : Program) (e : Env) (s : State) (m : MethodId) (below : List Frame) (meth : Method) (c : Code), CX p s m av.toArray meth c cb mL ret y.cls D t → (y.name = "<init>" → meth.name = "<init>") → At p l e rm s m av.toArray below meth c D mL ws (QL below av.toArray s D ws Φ rm.cells rm.slots) 0 0 0 (lv_args 0 av) [] ws) : MetL l y cb mL ret rm D t av ws Φ := by
  intro sz
  refine Met.ofW (cc := cb) (maxL := mL) (ret := ret) hy rfl ?_
  intro p e s m args below meth c s₁ B hml hv
  obtain ⟨rfl, hsz, hP, hK, hD0⟩ := hv
  subst hsz
  have hts := atoms_spec (ws := Cond.code y cb mL ret :: GW) B.pre
  have hlv := lv_entry av (n := mL) hlen
  rw [lg_entry_eq]
  exact body p e s m below meth c ⟨⟨B.exec, B.bytes, hml, findClass_of_methodNamed B.named, fun w hw => hts w (List.mem_cons_of_mem _ hw)⟩, B.returns, B.notSynchronized, hK⟩ (fun h => (name_of_methodNamed B.named B.method).1.trans h) s.heap [] _ hP hD0.self va_S.rf hlv
theorem MetV_of {y : MethodName} {cb : ByteArray} {mL : Nat} {ret : Option FieldType} {rm : Room} {av : List Value} {ws : va_W} {Φ : va_W → Prop} (hy : plainName y.cls = true) (hlen : (lg_sl av).length ≤ mL) (body : ∀ (p : Program) (e : Env) (s : State) (m : MethodId) (below : List Frame) (meth : Method) (c : Code), CX p s m av.toArray meth c cb mL ret y.cls D t → (y.name = "<init>" → meth.name = "<init>") → At p l e rm s m av.toArray below meth c D mL ws (QV below av.toArray s D ws Φ rm.cells rm.slots) 0 0 0 (lv_args 0 av) [] ws) : MetV l y cb mL ret rm D t av ws Φ := by
  intro sz
  refine Met.ofW (cc := cb) (maxL := mL) (ret := ret) hy rfl ?_
  intro p e s m args below meth c s₁ B hml hv
  obtain ⟨rfl, hsz, hP, hK, hD0⟩ := hv
  subst hsz
  have hts := atoms_spec (ws := Cond.code y cb mL ret :: GW) B.pre
  have hlv := lv_entry av (n := mL) hlen
  rw [lg_entry_eq]
  exact body p e s m below meth c ⟨⟨B.exec, B.bytes, hml, findClass_of_methodNamed B.named, fun w hw => hts w (List.mem_cons_of_mem _ hw)⟩, B.returns, B.notSynchronized, hK⟩ (fun h => (name_of_methodNamed B.named B.method).1.trans h) s.heap [] _ hP hD0.self va_S.rf hlv
theorem MetR_of {y : MethodName} {cb : ByteArray} {mL : Nat} {ret : Option FieldType} {rm : Room} {av : List Value} {ws : va_W} {Φ : Nat → va_W → Prop} (hy : plainName y.cls = true) (hlen : (lg_sl av).length ≤ mL) (body : ∀ (p : Program) (e : Env) (s : State) (m : MethodId) (below : List Frame) (meth : Method) (c : Code), CX p s m av.toArray meth c cb mL ret y.cls D t → (y.name = "<init>" → meth.name = "<init>") → At p l e rm s m av.toArray below meth c D mL ws (QR below av.toArray s D ws Φ rm.cells rm.slots) 0 0 0 (lv_args 0 av) [] ws) : MetR l y cb mL ret rm D t av ws Φ := by
  intro sz
  refine Met.ofW (cc := cb) (maxL := mL) (ret := ret) hy rfl ?_
  intro p e s m args below meth c s₁ B hml hv
  obtain ⟨rfl, hsz, hP, hK, hD0⟩ := hv
  subst hsz
  have hts := atoms_spec (ws := Cond.code y cb mL ret :: GW) B.pre
  have hlv := lv_entry av (n := mL) hlen
  rw [lg_entry_eq]
  exact body p e s m below meth c ⟨⟨B.exec, B.bytes, hml, findClass_of_methodNamed B.named, fun w hw => hts w (List.mem_cons_of_mem _ hw)⟩, B.returns, B.notSynchronized, hK⟩ (fun h => (name_of_methodNamed B.named B.method).1.trans h) s.heap [] _ hP hD0.self va_S.rf hlv
end ROWS2
end
section
-- the words that the rows use, by their places
theorem fl_5_12 : Cond.fieldLink RX5 12 "SpringPawn" "reader" "LSpringPawn$Reader;" ∈ GW := gw_t1 188 rfl rfl
theorem fl_5_19 : Cond.fieldLink RX5 19 "SpringPawn" "land" "LSpringPawn$Land;" ∈ GW := gw_t1 189 rfl rfl
theorem fl_5_26 : Cond.fieldLink RX5 26 "SpringPawn" "story" "LSpringPawn$Story;" ∈ GW := gw_t1 190 rfl rfl
theorem fl_5_30 : Cond.fieldLink RX5 30 "SpringPawn" "images" "[LSpringPawn$Story;" ∈ GW := gw_t1 191 rfl rfl
theorem fl_5_34 : Cond.fieldLink RX5 34 "SpringPawn" "kept" "[Z" ∈ GW := gw_t1 192 rfl rfl
theorem fl_5_41 : Cond.fieldLink RX5 41 "SpringPawn" "ahead" "LSpringPawn$Standing;" ∈ GW := gw_t1 193 rfl rfl
theorem fl_5_45 : Cond.fieldLink RX5 45 "SpringPawn" "toldCrop" "[I" ∈ GW := gw_t1 194 rfl rfl
theorem fl_5_49 : Cond.fieldLink RX5 49 "SpringPawn" "toldIs" "[I" ∈ GW := gw_t1 195 rfl rfl
theorem fl_5_52 : Cond.fieldLink RX5 52 "SpringPawn" "told" "I" ∈ GW := gw_t1 196 rfl rfl
theorem fl_5_56 : Cond.fieldLink RX5 56 "SpringPawn" "traced" "J" ∈ GW := gw_t1 197 rfl rfl
theorem fl_5_64 : Cond.fieldLink RX5 64 "SpringPawn$Reader" "text" "LSpringPawn$Text;" ∈ GW := gw_t1 114 rfl rfl
theorem fl_5_74 : Cond.fieldLink RX5 74 "SpringPawn$Text" "size" "I" ∈ GW := gw_t1 31 rfl rfl
theorem fl_5_94 : Cond.fieldLink RX5 94 "SpringPawn$Land" "season" "[I" ∈ GW := gw_t1 67 rfl rfl
theorem fl_5_97 : Cond.fieldLink RX5 97 "SpringPawn$Land" "gift" "[I" ∈ GW := gw_t1 69 rfl rfl
theorem fl_5_104 : Cond.fieldLink RX5 104 "SpringPawn$Story" "now" "LSpringPawn$Standing;" ∈ GW := gw_t1 174 rfl rfl
theorem fl_5_113 : Cond.fieldLink RX5 113 "SpringPawn$Land" "needs" "[I" ∈ GW := gw_t1 74 rfl rfl
theorem fl_5_116 : Cond.fieldLink RX5 116 "SpringPawn$Land" "least" "[I" ∈ GW := gw_t1 76 rfl rfl
theorem fl_5_119 : Cond.fieldLink RX5 119 "SpringPawn$Land" "worth" "[I" ∈ GW := gw_t1 78 rfl rfl
theorem fl_5_138 : Cond.fieldLink RX5 138 "SpringPawn$Standing" "loanDays" "[I" ∈ GW := gw_t1 148 rfl rfl
theorem fl_5_141 : Cond.fieldLink RX5 141 "SpringPawn$Standing" "lent" "[I" ∈ GW := gw_t1 150 rfl rfl
theorem fl_5_144 : Cond.fieldLink RX5 144 "SpringPawn$Standing" "age" "[I" ∈ GW := gw_t1 152 rfl rfl
theorem fl_5_167 : Cond.fieldLink RX5 167 "SpringPawn$Standing" "purse" "I" ∈ GW := gw_t1 156 rfl rfl
theorem fl_5_174 : Cond.fieldLink RX5 174 "SpringPawn$Standing" "years" "I" ∈ GW := gw_t1 158 rfl rfl
theorem fl_5_185 : Cond.fieldLink RX5 185 "SpringPawn$Story" "known" "I" ∈ GW := gw_t1 177 rfl rfl
theorem fl_5_191 : Cond.fieldLink RX5 191 "SpringPawn$Standing" "lapsed" "I" ∈ GW := gw_t1 154 rfl rfl
theorem fl_5_224 : Cond.fieldLink RX5 224 "SpringPawn$Land" "days" "I" ∈ GW := gw_t1 65 rfl rfl
theorem fl_5_262 : Cond.fieldLink RX5 262 "SpringPawn$Land" "seasons" "I" ∈ GW := gw_t1 61 rfl rfl
theorem fl_5_265 : Cond.fieldLink RX5 265 "SpringPawn$Land" "crops" "I" ∈ GW := gw_t1 72 rfl rfl
theorem fl_5_268 : Cond.fieldLink RX5 268 "SpringPawn$Land" "price" "I" ∈ GW := gw_t1 81 rfl rfl
theorem fl_5_271 : Cond.fieldLink RX5 271 "SpringPawn$Land" "interest" "I" ∈ GW := gw_t1 85 rfl rfl
theorem fl_5_274 : Cond.fieldLink RX5 274 "SpringPawn$Land" "lapse" "I" ∈ GW := gw_t1 89 rfl rfl
theorem fl_0_9 : Cond.fieldLink RX0 9 "SpringPawn$Land" "seasons" "I" ∈ GW := gw_t1 59 rfl rfl
theorem fl_0_15 : Cond.fieldLink RX0 15 "SpringPawn$Land" "days" "I" ∈ GW := gw_t1 62 rfl rfl
theorem fl_0_18 : Cond.fieldLink RX0 18 "SpringPawn$Land" "season" "[I" ∈ GW := gw_t1 66 rfl rfl
theorem fl_0_22 : Cond.fieldLink RX0 22 "SpringPawn$Land" "gift" "[I" ∈ GW := gw_t1 68 rfl rfl
theorem fl_0_25 : Cond.fieldLink RX0 25 "SpringPawn$Land" "crops" "I" ∈ GW := gw_t1 70 rfl rfl
theorem fl_0_28 : Cond.fieldLink RX0 28 "SpringPawn$Land" "needs" "[I" ∈ GW := gw_t1 73 rfl rfl
theorem fl_0_31 : Cond.fieldLink RX0 31 "SpringPawn$Land" "least" "[I" ∈ GW := gw_t1 75 rfl rfl
theorem fl_0_34 : Cond.fieldLink RX0 34 "SpringPawn$Land" "worth" "[I" ∈ GW := gw_t1 77 rfl rfl
theorem fl_0_37 : Cond.fieldLink RX0 37 "SpringPawn$Land" "price" "I" ∈ GW := gw_t1 79 rfl rfl
theorem fl_0_40 : Cond.fieldLink RX0 40 "SpringPawn$Land" "interest" "I" ∈ GW := gw_t1 82 rfl rfl
theorem fl_0_43 : Cond.fieldLink RX0 43 "SpringPawn$Land" "lapse" "I" ∈ GW := gw_t1 86 rfl rfl
theorem fl_1_12 : Cond.fieldLink RX1 12 "SpringPawn$Reader" "text" "LSpringPawn$Text;" ∈ GW := gw_t1 113 rfl rfl
theorem fl_1_21 : Cond.fieldLink RX1 21 "SpringPawn$Reader" "draft" "LSpringPawn$Land;" ∈ GW := gw_t1 115 rfl rfl
theorem fl_1_25 : Cond.fieldLink RX1 25 "SpringPawn$Reader" "fault" "I" ∈ GW := gw_t1 116 rfl rfl
theorem fl_1_29 : Cond.fieldLink RX1 29 "SpringPawn$Reader" "hasPrice" "Z" ∈ GW := gw_t1 117 rfl rfl
theorem fl_1_33 : Cond.fieldLink RX1 33 "SpringPawn$Reader" "hasInterest" "Z" ∈ GW := gw_t1 118 rfl rfl
theorem fl_1_36 : Cond.fieldLink RX1 36 "SpringPawn$Reader" "hasLapse" "Z" ∈ GW := gw_t1 119 rfl rfl
theorem fl_1_45 : Cond.fieldLink RX1 45 "SpringPawn$Text" "tokenKind" "I" ∈ GW := gw_t1 35 rfl rfl
theorem fl_1_51 : Cond.fieldLink RX1 51 "SpringPawn$Text" "tokenValue" "I" ∈ GW := gw_t1 37 rfl rfl
theorem fl_1_76 : Cond.fieldLink RX1 76 "SpringPawn$Land" "seasons" "I" ∈ GW := gw_t1 60 rfl rfl
theorem fl_1_82 : Cond.fieldLink RX1 82 "SpringPawn$Land" "days" "I" ∈ GW := gw_t1 63 rfl rfl
theorem fl_1_98 : Cond.fieldLink RX1 98 "SpringPawn$Land" "crops" "I" ∈ GW := gw_t1 71 rfl rfl
theorem fl_1_105 : Cond.fieldLink RX1 105 "SpringPawn$Land" "price" "I" ∈ GW := gw_t1 80 rfl rfl
theorem fl_1_108 : Cond.fieldLink RX1 108 "SpringPawn$Land" "interest" "I" ∈ GW := gw_t1 83 rfl rfl
theorem fl_1_111 : Cond.fieldLink RX1 111 "SpringPawn$Land" "lapse" "I" ∈ GW := gw_t1 87 rfl rfl
theorem fl_1_121 : Cond.fieldLink RX1 121 "SpringPawn$Text" "tokenAt" "I" ∈ GW := gw_t1 33 rfl rfl
theorem fl_2_9 : Cond.fieldLink RX2 9 "SpringPawn$Standing" "loanDays" "[I" ∈ GW := gw_t1 147 rfl rfl
theorem fl_2_15 : Cond.fieldLink RX2 15 "SpringPawn$Standing" "lent" "[I" ∈ GW := gw_t1 149 rfl rfl
theorem fl_2_18 : Cond.fieldLink RX2 18 "SpringPawn$Standing" "age" "[I" ∈ GW := gw_t1 151 rfl rfl
theorem fl_2_21 : Cond.fieldLink RX2 21 "SpringPawn$Standing" "lapsed" "I" ∈ GW := gw_t1 153 rfl rfl
theorem fl_2_25 : Cond.fieldLink RX2 25 "SpringPawn$Standing" "purse" "I" ∈ GW := gw_t1 155 rfl rfl
theorem fl_2_28 : Cond.fieldLink RX2 28 "SpringPawn$Standing" "years" "I" ∈ GW := gw_t1 157 rfl rfl
theorem fl_2_76 : Cond.fieldLink RX2 76 "SpringPawn$Land" "days" "I" ∈ GW := gw_t1 64 rfl rfl
theorem fl_2_79 : Cond.fieldLink RX2 79 "SpringPawn$Land" "interest" "I" ∈ GW := gw_t1 84 rfl rfl
theorem fl_2_82 : Cond.fieldLink RX2 82 "SpringPawn$Land" "lapse" "I" ∈ GW := gw_t1 88 rfl rfl
theorem fl_3_12 : Cond.fieldLink RX3 12 "SpringPawn$Story" "now" "LSpringPawn$Standing;" ∈ GW := gw_t1 173 rfl rfl
theorem fl_3_18 : Cond.fieldLink RX3 18 "SpringPawn$Story" "past" "[LSpringPawn$Standing;" ∈ GW := gw_t1 175 rfl rfl
theorem fl_3_22 : Cond.fieldLink RX3 22 "SpringPawn$Story" "known" "I" ∈ GW := gw_t1 176 rfl rfl
theorem fl_4_9 : Cond.fieldLink RX4 9 "SpringPawn$Text" "bytes" "[I" ∈ GW := gw_t1 29 rfl rfl
theorem fl_4_15 : Cond.fieldLink RX4 15 "SpringPawn$Text" "size" "I" ∈ GW := gw_t1 30 rfl rfl
theorem fl_4_19 : Cond.fieldLink RX4 19 "SpringPawn$Text" "tokenAt" "I" ∈ GW := gw_t1 32 rfl rfl
theorem fl_4_22 : Cond.fieldLink RX4 22 "SpringPawn$Text" "tokenKind" "I" ∈ GW := gw_t1 34 rfl rfl
theorem fl_4_25 : Cond.fieldLink RX4 25 "SpringPawn$Text" "tokenValue" "I" ∈ GW := gw_t1 36 rfl rfl
theorem fl_4_28 : Cond.fieldLink RX4 28 "SpringPawn$Text" "place" "I" ∈ GW := gw_t1 38 rfl rfl
theorem fl_6_7 : Cond.fieldLink RX6 7 "SpringPawnModel" "text" "[I" ∈ GW := gw_t3 174 rfl rfl
theorem fl_6_13 : Cond.fieldLink RX6 13 "SpringPawnModel" "read" "[I" ∈ GW := gw_t3 180 rfl rfl
theorem fl_6_16 : Cond.fieldLink RX6 16 "SpringPawnModel" "paper" "[I" ∈ GW := gw_t3 181 rfl rfl
theorem fl_6_19 : Cond.fieldLink RX6 19 "SpringPawnModel" "now" "[I" ∈ GW := gw_t3 182 rfl rfl
theorem fl_6_22 : Cond.fieldLink RX6 22 "SpringPawnModel" "undone" "[I" ∈ GW := gw_t3 183 rfl rfl
theorem fl_6_25 : Cond.fieldLink RX6 25 "SpringPawnModel" "aside" "[I" ∈ GW := gw_t3 185 rfl rfl
theorem fl_6_28 : Cond.fieldLink RX6 28 "SpringPawnModel" "toldCrop" "[I" ∈ GW := gw_t3 187 rfl rfl
theorem fl_6_31 : Cond.fieldLink RX6 31 "SpringPawnModel" "toldIs" "[I" ∈ GW := gw_t3 188 rfl rfl
theorem fl_6_34 : Cond.fieldLink RX6 34 "SpringPawnModel" "kept" "[I" ∈ GW := gw_t3 190 rfl rfl
theorem fl_6_49 : Cond.fieldLink RX6 49 "SpringPawnModel" "size" "I" ∈ GW := gw_t3 175 rfl rfl
theorem fl_6_61 : Cond.fieldLink RX6 61 "SpringPawnModel" "at" "I" ∈ GW := gw_t3 176 rfl rfl
theorem fl_6_64 : Cond.fieldLink RX6 64 "SpringPawnModel" "told" "I" ∈ GW := gw_t3 179 rfl rfl
theorem fl_6_71 : Cond.fieldLink RX6 71 "SpringPawnModel" "begin" "I" ∈ GW := gw_t3 177 rfl rfl
theorem fl_6_74 : Cond.fieldLink RX6 74 "SpringPawnModel" "token" "I" ∈ GW := gw_t3 178 rfl rfl
theorem fl_6_110 : Cond.fieldLink RX6 110 "SpringPawnModel" "toldMany" "I" ∈ GW := gw_t3 186 rfl rfl
theorem fl_6_113 : Cond.fieldLink RX6 113 "SpringPawnModel" "undos" "I" ∈ GW := gw_t3 184 rfl rfl
theorem fl_6_206 : Cond.fieldLink RX6 206 "SpringPawnModel" "trace" "J" ∈ GW := gw_t3 189 rfl rfl
theorem ml_5_3 : Cond.methodLink RX5 3 objectInit ∈ GW := gw_t1 14 rfl rfl
theorem ml_5_25 : Cond.methodLink RX5 25 yX3_init ∈ GW := gw_t1 137 rfl rfl
theorem ml_5_60 : Cond.methodLink RX5 60 yX5_isWithin ∈ GW := gw_t1 224 rfl rfl
theorem ml_5_68 : Cond.methodLink RX5 68 yX4_take ∈ GW := gw_t1 227 rfl rfl
theorem ml_5_77 : Cond.methodLink RX5 77 yX4_drop ∈ GW := gw_t1 235 rfl rfl
theorem ml_5_81 : Cond.methodLink RX5 81 yX1_readItems ∈ GW := gw_t2 3 rfl rfl
theorem ml_5_84 : Cond.methodLink RX5 84 yX1_handOver ∈ GW := gw_t2 91 rfl rfl
theorem ml_5_88 : Cond.methodLink RX5 88 yX3_startAnew ∈ GW := gw_t2 95 rfl rfl
theorem ml_5_91 : Cond.methodLink RX5 91 yX5_isDay ∈ GW := gw_t2 111 rfl rfl
theorem ml_5_100 : Cond.methodLink RX5 100 yX5_howDayIs ∈ GW := gw_t2 115 rfl rfl
theorem ml_5_107 : Cond.methodLink RX5 107 yX2_loanOf ∈ GW := gw_t2 122 rfl rfl
theorem ml_5_110 : Cond.methodLink RX5 110 yX5_isCrop ∈ GW := gw_t2 131 rfl rfl
theorem ml_5_122 : Cond.methodLink RX5 122 yX5_ripensNow ∈ GW := gw_t2 135 rfl rfl
theorem ml_5_125 : Cond.methodLink RX5 125 yX5_daysIn ∈ GW := gw_t2 139 rfl rfl
theorem ml_5_128 : Cond.methodLink RX5 128 yX0_ripensOn ∈ GW := gw_t2 162 rfl rfl
theorem ml_5_132 : Cond.methodLink RX5 132 yX5_isLoan ∈ GW := gw_t2 171 rfl rfl
theorem ml_5_135 : Cond.methodLink RX5 135 yX2_isFree ∈ GW := gw_t2 174 rfl rfl
theorem ml_5_147 : Cond.methodLink RX5 147 yX2_lowestFree ∈ GW := gw_t2 182 rfl rfl
theorem ml_5_150 : Cond.methodLink RX5 150 yX5_isRowIn ∈ GW := gw_t2 187 rfl rfl
theorem ml_5_154 : Cond.methodLink RX5 154 yX3_remember ∈ GW := gw_t2 192 rfl rfl
theorem ml_5_157 : Cond.methodLink RX5 157 yX0_lentFor ∈ GW := gw_t2 204 rfl rfl
theorem ml_5_160 : Cond.methodLink RX5 160 yX5_rowBits ∈ GW := gw_t2 191 rfl rfl
theorem ml_5_163 : Cond.methodLink RX5 163 yX2_pawn ∈ GW := gw_t2 208 rfl rfl
theorem ml_5_170 : Cond.methodLink RX5 170 yX2_redeem ∈ GW := gw_t2 216 rfl rfl
theorem ml_5_177 : Cond.methodLink RX5 177 yX2_passYear ∈ GW := gw_t2 224 rfl rfl
theorem ml_5_181 : Cond.methodLink RX5 181 yX3_goBack ∈ GW := gw_t3 17 rfl rfl
theorem ml_5_188 : Cond.methodLink RX5 188 yX2_daysOut ∈ GW := gw_t3 25 rfl rfl
theorem ml_5_194 : Cond.methodLink RX5 194 yX0_harvest ∈ GW := gw_t3 26 rfl rfl
theorem ml_5_197 : Cond.methodLink RX5 197 yX0_gap ∈ GW := gw_t3 27 rfl rfl
theorem ml_5_200 : Cond.methodLink RX5 200 yX2_owed ∈ GW := gw_t3 34 rfl rfl
theorem ml_5_203 : Cond.methodLink RX5 203 yX5_cheapestRow ∈ GW := gw_t3 50 rfl rfl
theorem ml_5_206 : Cond.methodLink RX5 206 yX5_bestFreeing ∈ GW := gw_t3 58 rfl rfl
theorem ml_5_209 : Cond.methodLink RX5 209 yX2_daysOfSet ∈ GW := gw_t3 67 rfl rfl
theorem ml_5_212 : Cond.methodLink RX5 212 yX2_become ∈ GW := gw_t3 72 rfl rfl
theorem ml_5_216 : Cond.methodLink RX5 216 yX2_daysIn ∈ GW := gw_t2 143 rfl rfl
theorem ml_5_218 : Cond.methodLink RX5 218 yX0_ripening ∈ GW := gw_t3 77 rfl rfl
theorem ml_5_221 : Cond.methodLink RX5 221 yX0_allDays ∈ GW := gw_t3 90 rfl rfl
theorem ml_5_227 : Cond.methodLink RX5 227 yX5_agreesWithTold ∈ GW := gw_t3 91 rfl rfl
theorem ml_5_230 : Cond.methodLink RX5 230 yX5_chancesOf ∈ GW := gw_t3 99 rfl rfl
theorem ml_5_234 : Cond.methodLink RX5 234 yX0_worthOf ∈ GW := gw_t3 102 rfl rfl
theorem ml_5_237 : Cond.methodLink RX5 237 yX5_greatestDivisor ∈ GW := gw_t3 103 rfl rfl
theorem ml_5_241 : Cond.methodLink RX5 241 yX5_markAsCrop ∈ GW := gw_t3 111 rfl rfl
theorem ml_5_244 : Cond.methodLink RX5 244 yX5_markAsHay ∈ GW := gw_t3 115 rfl rfl
theorem ml_5_247 : Cond.methodLink RX5 247 yX5_markAsPlum ∈ GW := gw_t3 120 rfl rfl
theorem ml_5_250 : Cond.methodLink RX5 250 yX5_markAsClover ∈ GW := gw_t3 125 rfl rfl
theorem ml_5_253 : Cond.methodLink RX5 253 yX5_markAsSloe ∈ GW := gw_t3 130 rfl rfl
theorem ml_5_256 : Cond.methodLink RX5 256 yX5_markAsLamb ∈ GW := gw_t3 135 rfl rfl
theorem ml_5_259 : Cond.methodLink RX5 259 yX3_become ∈ GW := gw_t3 144 rfl rfl
theorem ml_5_277 : Cond.methodLink RX5 277 yX5_has ∈ GW := gw_t2 119 rfl rfl
theorem ml_5_280 : Cond.methodLink RX5 280 yX2_costOfSet ∈ GW := gw_t3 62 rfl rfl
theorem ml_5_283 : Cond.methodLink RX5 283 yX2_isSetOfLoans ∈ GW := gw_t3 63 rfl rfl
theorem ml_0_3 : Cond.methodLink RX0 3 objectInit ∈ GW := gw_t1 58 rfl rfl
theorem ml_0_54 : Cond.methodLink RX0 54 yX0_ripensOn ∈ GW := gw_t2 237 rfl rfl
theorem ml_0_57 : Cond.methodLink RX0 57 yX0_ripening ∈ GW := gw_t2 233 rfl rfl
theorem ml_0_61 : Cond.methodLink RX0 61 yX0_worthOf ∈ GW := gw_t2 238 rfl rfl
theorem ml_0_64 : Cond.methodLink RX0 64 Lib.Math.max.name ∈ GW := gw_t3 31 rfl rfl
theorem ml_1_3 : Cond.methodLink RX1 3 objectInit ∈ GW := gw_t1 22 rfl rfl
theorem ml_1_39 : Cond.methodLink RX1 39 yX0_startAnew ∈ GW := gw_t2 7 rfl rfl
theorem ml_1_42 : Cond.methodLink RX1 42 yX4_toFirstToken ∈ GW := gw_t2 11 rfl rfl
theorem ml_1_48 : Cond.methodLink RX1 48 yX1_readItem ∈ GW := gw_t2 36 rfl rfl
theorem ml_1_54 : Cond.methodLink RX1 54 yX1_readSeason ∈ GW := gw_t2 40 rfl rfl
theorem ml_1_57 : Cond.methodLink RX1 57 yX1_readCrop ∈ GW := gw_t2 67 rfl rfl
theorem ml_1_60 : Cond.methodLink RX1 60 yX1_readPrice ∈ GW := gw_t2 75 rfl rfl
theorem ml_1_63 : Cond.methodLink RX1 63 yX1_readInterest ∈ GW := gw_t2 79 rfl rfl
theorem ml_1_66 : Cond.methodLink RX1 66 yX1_readLapse ∈ GW := gw_t2 83 rfl rfl
theorem ml_1_69 : Cond.methodLink RX1 69 yX1_refuseUnless ∈ GW := gw_t2 48 rfl rfl
theorem ml_1_73 : Cond.methodLink RX1 73 yX1_readEnd ∈ GW := gw_t2 87 rfl rfl
theorem ml_1_79 : Cond.methodLink RX1 79 yX1_readLetter ∈ GW := gw_t2 44 rfl rfl
theorem ml_1_85 : Cond.methodLink RX1 85 Lib.Math.min.name ∈ GW := gw_t2 57 rfl rfl
theorem ml_1_91 : Cond.methodLink RX1 91 yX1_readNumber ∈ GW := gw_t2 58 rfl rfl
theorem ml_1_94 : Cond.methodLink RX1 94 yX0_addSeason ∈ GW := gw_t2 63 rfl rfl
theorem ml_1_101 : Cond.methodLink RX1 101 yX0_addCrop ∈ GW := gw_t2 71 rfl rfl
theorem ml_1_114 : Cond.methodLink RX1 114 yX1_toNextToken ∈ GW := gw_t2 52 rfl rfl
theorem ml_1_124 : Cond.methodLink RX1 124 yX4_toNextToken ∈ GW := gw_t2 56 rfl rfl
theorem ml_2_3 : Cond.methodLink RX2 3 objectInit ∈ GW := gw_t1 146 rfl rfl
theorem ml_2_31 : Cond.methodLink RX2 31 yX2_setFree ∈ GW := gw_t2 103 rfl rfl
theorem ml_2_35 : Cond.methodLink RX2 35 yX2_isFree ∈ GW := gw_t2 186 rfl rfl
theorem ml_2_43 : Cond.methodLink RX2 43 yX2_daysOfSet ∈ GW := gw_t2 158 rfl rfl
theorem ml_2_47 : Cond.methodLink RX2 47 yX0_allDays ∈ GW := gw_t2 147 rfl rfl
theorem ml_2_53 : Cond.methodLink RX2 53 yX2_daysOut ∈ GW := gw_t2 154 rfl rfl
theorem ml_2_56 : Cond.methodLink RX2 56 yX2_costOfSet ∈ GW := gw_t3 38 rfl rfl
theorem ml_2_59 : Cond.methodLink RX2 59 yX2_daysIn ∈ GW := gw_t2 228 rfl rfl
theorem ml_2_63 : Cond.methodLink RX2 63 yX0_harvest ∈ GW := gw_t2 229 rfl rfl
theorem ml_2_66 : Cond.methodLink RX2 66 yX2_takeInterest ∈ GW := gw_t3 2 rfl rfl
theorem ml_2_70 : Cond.methodLink RX2 70 yX2_grow ∈ GW := gw_t3 9 rfl rfl
theorem ml_2_73 : Cond.methodLink RX2 73 yX2_behindLast ∈ GW := gw_t3 6 rfl rfl
theorem ml_3_3 : Cond.methodLink RX3 3 objectInit ∈ GW := gw_t1 140 rfl rfl
theorem ml_3_26 : Cond.methodLink RX3 26 yX2_startAnew ∈ GW := gw_t2 99 rfl rfl
theorem ml_3_29 : Cond.methodLink RX3 29 yX2_become ∈ GW := gw_t2 200 rfl rfl
theorem ml_3_33 : Cond.methodLink RX3 33 yX3_loseOldest ∈ GW := gw_t2 196 rfl rfl
theorem ml_4_3 : Cond.methodLink RX4 3 objectInit ∈ GW := gw_t1 28 rfl rfl
theorem ml_4_31 : Cond.methodLink RX4 31 yX4_toNextToken ∈ GW := gw_t2 15 rfl rfl
theorem ml_4_34 : Cond.methodLink RX4 34 yX4_isLetter ∈ GW := gw_t2 19 rfl rfl
theorem ml_4_38 : Cond.methodLink RX4 38 yX4_scanLetters ∈ GW := gw_t2 22 rfl rfl
theorem ml_4_41 : Cond.methodLink RX4 41 yX4_isDigit ∈ GW := gw_t2 26 rfl rfl
theorem ml_4_44 : Cond.methodLink RX4 44 yX4_scanNumber ∈ GW := gw_t2 29 rfl rfl
theorem ml_4_47 : Cond.methodLink RX4 47 Lib.Math.min.name ∈ GW := gw_t2 33 rfl rfl
theorem ml_L_9 : Cond.methodLink RL 9 yX5_init ∈ GW := gw_t1 11 rfl rfl
theorem ml_L_12 : Cond.methodLink RL 12 yX6_init ∈ GW := gw_t3 162 rfl rfl
theorem ml_L_13 : Cond.methodLink RL 13 yX5_type ∈ GW := gw_t1 220 rfl rfl
theorem ml_L_17 : Cond.methodLink RL 17 yX6_type ∈ GW := gw_t3 226 rfl rfl
theorem ml_L_18 : Cond.methodLink RL 18 yX5_clear ∈ GW := gw_t1 231 rfl rfl
theorem ml_L_22 : Cond.methodLink RL 22 yX6_clear ∈ GW := gw_t3 234 rfl rfl
theorem ml_L_23 : Cond.methodLink RL 23 yX5_valley ∈ GW := gw_t1 239 rfl rfl
theorem ml_L_26 : Cond.methodLink RL 26 yX6_valley ∈ GW := gw_t3 238 rfl rfl
theorem ml_L_27 : Cond.methodLink RL 27 yX5_day ∈ GW := gw_t2 107 rfl rfl
theorem ml_L_31 : Cond.methodLink RL 31 yX6_day ∈ GW := gw_t4 48 rfl rfl
theorem ml_L_32 : Cond.methodLink RL 32 yX5_crop ∈ GW := gw_t2 127 rfl rfl
theorem ml_L_35 : Cond.methodLink RL 35 yX6_crop ∈ GW := gw_t4 65 rfl rfl
theorem ml_L_36 : Cond.methodLink RL 36 yX5_loan ∈ GW := gw_t2 167 rfl rfl
theorem ml_L_39 : Cond.methodLink RL 39 yX6_loan ∈ GW := gw_t4 86 rfl rfl
theorem ml_L_40 : Cond.methodLink RL 40 yX5_pawns ∈ GW := gw_t2 178 rfl rfl
theorem ml_L_43 : Cond.methodLink RL 43 yX6_pawns ∈ GW := gw_t4 94 rfl rfl
theorem ml_L_44 : Cond.methodLink RL 44 yX5_redeems ∈ GW := gw_t2 212 rfl rfl
theorem ml_L_47 : Cond.methodLink RL 47 yX6_redeems ∈ GW := gw_t4 114 rfl rfl
theorem ml_L_48 : Cond.methodLink RL 48 yX5_year ∈ GW := gw_t2 220 rfl rfl
theorem ml_L_51 : Cond.methodLink RL 51 yX6_year ∈ GW := gw_t4 126 rfl rfl
theorem ml_L_52 : Cond.methodLink RL 52 yX5_undo ∈ GW := gw_t3 13 rfl rfl
theorem ml_L_55 : Cond.methodLink RL 55 yX6_undo ∈ GW := gw_t4 146 rfl rfl
theorem ml_L_56 : Cond.methodLink RL 56 yX5_now ∈ GW := gw_t3 21 rfl rfl
theorem ml_L_59 : Cond.methodLink RL 59 yX6_now ∈ GW := gw_t4 150 rfl rfl
theorem ml_L_60 : Cond.methodLink RL 60 yX5_lends ∈ GW := gw_t3 42 rfl rfl
theorem ml_L_63 : Cond.methodLink RL 63 yX6_lends ∈ GW := gw_t4 158 rfl rfl
theorem ml_L_64 : Cond.methodLink RL 64 yX5_cheap ∈ GW := gw_t3 46 rfl rfl
theorem ml_L_67 : Cond.methodLink RL 67 yX6_cheap ∈ GW := gw_t4 162 rfl rfl
theorem ml_L_68 : Cond.methodLink RL 68 yX5_freeing ∈ GW := gw_t3 54 rfl rfl
theorem ml_L_71 : Cond.methodLink RL 71 yX6_freeing ∈ GW := gw_t4 167 rfl rfl
theorem ml_L_72 : Cond.methodLink RL 72 yX5_rich ∈ GW := gw_t3 68 rfl rfl
theorem ml_L_75 : Cond.methodLink RL 75 yX6_rich ∈ GW := gw_t4 171 rfl rfl
theorem ml_L_76 : Cond.methodLink RL 76 yX5_bare ∈ GW := gw_t3 73 rfl rfl
theorem ml_L_79 : Cond.methodLink RL 79 yX6_bare ∈ GW := gw_t4 184 rfl rfl
theorem ml_L_80 : Cond.methodLink RL 80 yX5_tells ∈ GW := gw_t3 78 rfl rfl
theorem ml_L_83 : Cond.methodLink RL 83 yX6_tells ∈ GW := gw_t4 192 rfl rfl
theorem ml_L_84 : Cond.methodLink RL 84 yX5_forget ∈ GW := gw_t3 82 rfl rfl
theorem ml_L_87 : Cond.methodLink RL 87 yX6_forget ∈ GW := gw_t4 196 rfl rfl
theorem ml_L_88 : Cond.methodLink RL 88 yX5_fits ∈ GW := gw_t3 86 rfl rfl
theorem ml_L_91 : Cond.methodLink RL 91 yX6_fits ∈ GW := gw_t4 200 rfl rfl
theorem ml_L_92 : Cond.methodLink RL 92 yX5_odds ∈ GW := gw_t3 95 rfl rfl
theorem ml_L_96 : Cond.methodLink RL 96 yX6_odds ∈ GW := gw_t4 208 rfl rfl
theorem ml_L_97 : Cond.methodLink RL 97 yX5_mark ∈ GW := gw_t3 106 rfl rfl
theorem ml_L_100 : Cond.methodLink RL 100 yX6_mark ∈ GW := gw_t4 213 rfl rfl
theorem ml_L_101 : Cond.methodLink RL 101 yX5_keep ∈ GW := gw_t3 140 rfl rfl
theorem ml_L_104 : Cond.methodLink RL 104 yX6_keep ∈ GW := gw_t4 228 rfl rfl
theorem ml_L_105 : Cond.methodLink RL 105 yX5_back ∈ GW := gw_t3 148 rfl rfl
theorem ml_L_108 : Cond.methodLink RL 108 yX6_back ∈ GW := gw_t4 232 rfl rfl
theorem ml_L_109 : Cond.methodLink RL 109 yX5_count ∈ GW := gw_t3 152 rfl rfl
theorem ml_L_112 : Cond.methodLink RL 112 yX6_count ∈ GW := gw_t4 236 rfl rfl
theorem ml_L_113 : Cond.methodLink RL 113 yX5_trace ∈ GW := gw_t3 156 rfl rfl
theorem ml_L_117 : Cond.methodLink RL 117 yX6_trace ∈ GW := gw_t4 224 rfl rfl
theorem ml_6_1 : Cond.methodLink RX6 1 objectInit ∈ GW := gw_t3 165 rfl rfl
theorem ml_6_37 : Cond.methodLink RX6 37 yX6_plain ∈ GW := gw_t3 166 rfl rfl
theorem ml_6_40 : Cond.methodLink RX6 40 yX6_takes ∈ GW := gw_t3 170 rfl rfl
theorem ml_6_45 : Cond.methodLink RX6 45 yX6_in ∈ GW := gw_t3 231 rfl rfl
theorem ml_6_67 : Cond.methodLink RX6 67 yX6_isLetter ∈ GW := gw_t4 6 rfl rfl
theorem ml_6_77 : Cond.methodLink RX6 77 yX6_isFigure ∈ GW := gw_t4 15 rfl rfl
theorem ml_6_80 : Cond.methodLink RX6 80 yX6_readLetters ∈ GW := gw_t4 11 rfl rfl
theorem ml_6_83 : Cond.methodLink RX6 83 yX6_readNumber ∈ GW := gw_t4 20 rfl rfl
theorem ml_6_86 : Cond.methodLink RX6 86 yX6_reads ∈ GW := gw_t4 2 rfl rfl
theorem ml_6_89 : Cond.methodLink RX6 89 yX6_number ∈ GW := gw_t4 32 rfl rfl
theorem ml_6_93 : Cond.methodLink RX6 93 yX6_itemEnds ∈ GW := gw_t4 36 rfl rfl
theorem ml_6_97 : Cond.methodLink RX6 97 yX6_readSeason ∈ GW := gw_t4 28 rfl rfl
theorem ml_6_100 : Cond.methodLink RX6 100 yX6_readCrop ∈ GW := gw_t4 40 rfl rfl
theorem ml_6_103 : Cond.methodLink RX6 103 yX6_once ∈ GW := gw_t4 44 rfl rfl
theorem ml_6_107 : Cond.methodLink RX6 107 yX6_readItem ∈ GW := gw_t4 24 rfl rfl
theorem ml_6_116 : Cond.methodLink RX6 116 yX6_days ∈ GW := gw_t4 56 rfl rfl
theorem ml_6_122 : Cond.methodLink RX6 122 yX6_loanDays ∈ GW := gw_t4 61 rfl rfl
theorem ml_6_126 : Cond.methodLink RX6 126 yX6_out ∈ GW := gw_t4 78 rfl rfl
theorem ml_6_129 : Cond.methodLink RX6 129 yX6_ripens ∈ GW := gw_t4 82 rfl rfl
theorem ml_6_133 : Cond.methodLink RX6 133 yX6_worth ∈ GW := gw_t4 138 rfl rfl
theorem ml_6_136 : Cond.methodLink RX6 136 yX6_isDay ∈ GW := gw_t4 52 rfl rfl
theorem ml_6_139 : Cond.methodLink RX6 139 yX6_isCrop ∈ GW := gw_t4 69 rfl rfl
theorem ml_6_144 : Cond.methodLink RX6 144 yX6_notIn ∈ GW := gw_t4 74 rfl rfl
theorem ml_6_147 : Cond.methodLink RX6 147 yX6_isLoan ∈ GW := gw_t4 90 rfl rfl
theorem ml_6_152 : Cond.methodLink RX6 152 yX6_row ∈ GW := gw_t4 103 rfl rfl
theorem ml_6_157 : Cond.methodLink RX6 157 yX6_isFree ∈ GW := gw_t4 99 rfl rfl
theorem ml_6_160 : Cond.methodLink RX6 160 yX6_notes ∈ GW := gw_t4 106 rfl rfl
theorem ml_6_163 : Cond.methodLink RX6 163 yX6_lendsOf ∈ GW := gw_t4 110 rfl rfl
theorem ml_6_166 : Cond.methodLink RX6 166 yX6_lent ∈ GW := gw_t4 118 rfl rfl
theorem ml_6_169 : Cond.methodLink RX6 169 yX6_frees ∈ GW := gw_t4 122 rfl rfl
theorem ml_6_173 : Cond.methodLink RX6 173 yX6_harvest ∈ GW := gw_t4 134 rfl rfl
theorem ml_6_176 : Cond.methodLink RX6 176 yX6_ages ∈ GW := gw_t4 142 rfl rfl
theorem ml_6_179 : Cond.methodLink RX6 179 yX6_goesBy ∈ GW := gw_t4 130 rfl rfl
theorem ml_6_182 : Cond.methodLink RX6 182 yX6_gap ∈ GW := gw_t4 154 rfl rfl
theorem ml_6_189 : Cond.methodLink RX6 189 yX6_asides ∈ GW := gw_t4 176 rfl rfl
theorem ml_6_192 : Cond.methodLink RX6 192 yX6_backs ∈ GW := gw_t4 180 rfl rfl
theorem ml_6_195 : Cond.methodLink RX6 195 yX6_isBare ∈ GW := gw_t4 188 rfl rfl
theorem ml_6_198 : Cond.methodLink RX6 198 yX6_isSo ∈ GW := gw_t4 204 rfl rfl
theorem cs_5_240 : Cond.constant RX5 240 (-1000000) ∈ GW := gw_t3 110 rfl rfl
theorem cs_6_205 : Cond.constant RX6 205 (-1000000) ∈ GW := gw_t4 218 rfl rfl
theorem cl_5_286 : Cond.constantLong RX5 286 (10) ∈ GW := gw_t3 119 rfl rfl
theorem cl_5_288 : Cond.constantLong RX5 288 (100) ∈ GW := gw_t3 124 rfl rfl
theorem cl_5_290 : Cond.constantLong RX5 290 (1000) ∈ GW := gw_t3 129 rfl rfl
theorem cl_5_292 : Cond.constantLong RX5 292 (10000) ∈ GW := gw_t3 134 rfl rfl
theorem cl_5_294 : Cond.constantLong RX5 294 (100000) ∈ GW := gw_t3 139 rfl rfl
theorem cl_6_43 : Cond.constantLong RX6 43 (255) ∈ GW := gw_t3 230 rfl rfl
theorem cl_6_53 : Cond.constantLong RX6 53 (97) ∈ GW := gw_t4 9 rfl rfl
theorem cl_6_55 : Cond.constantLong RX6 55 (122) ∈ GW := gw_t4 10 rfl rfl
theorem cl_6_57 : Cond.constantLong RX6 57 (48) ∈ GW := gw_t4 18 rfl rfl
theorem cl_6_59 : Cond.constantLong RX6 59 (57) ∈ GW := gw_t4 19 rfl rfl
theorem cl_6_120 : Cond.constantLong RX6 120 (3) ∈ GW := gw_t4 60 rfl rfl
theorem cl_6_142 : Cond.constantLong RX6 142 (4) ∈ GW := gw_t4 73 rfl rfl
theorem cl_6_150 : Cond.constantLong RX6 150 (2) ∈ GW := gw_t4 93 rfl rfl
theorem cl_6_155 : Cond.constantLong RX6 155 (9) ∈ GW := gw_t4 98 rfl rfl
theorem cl_6_185 : Cond.constantLong RX6 185 (999) ∈ GW := gw_t4 166 rfl rfl
theorem cl_6_187 : Cond.constantLong RX6 187 (9999) ∈ GW := gw_t4 175 rfl rfl
theorem cl_6_201 : Cond.constantLong RX6 201 (10) ∈ GW := gw_t4 212 rfl rfl
theorem cl_6_203 : Cond.constantLong RX6 203 (5) ∈ GW := gw_t4 217 rfl rfl
theorem cl_6_210 : Cond.constantLong RX6 210 (11) ∈ GW := gw_t4 219 rfl rfl
theorem cl_6_212 : Cond.constantLong RX6 212 (101) ∈ GW := gw_t4 220 rfl rfl
theorem cl_6_214 : Cond.constantLong RX6 214 (1011) ∈ GW := gw_t4 221 rfl rfl
theorem cl_6_216 : Cond.constantLong RX6 216 (10101) ∈ GW := gw_t4 222 rfl rfl
theorem cl_6_218 : Cond.constantLong RX6 218 (100001) ∈ GW := gw_t4 223 rfl rfl
theorem kl_5_9 : Cond.classLink RX5 9 RX1 ∈ GW := gw_t1 17 rfl rfl
theorem kl_5_16 : Cond.classLink RX5 16 RX0 ∈ GW := gw_t1 133 rfl rfl
theorem kl_5_23 : Cond.classLink RX5 23 RX3 ∈ GW := gw_t1 135 rfl rfl
theorem kl_5_38 : Cond.classLink RX5 38 RX2 ∈ GW := gw_t1 186 rfl rfl
theorem kl_1_9 : Cond.classLink RX1 9 RX4 ∈ GW := gw_t1 23 rfl rfl
theorem kl_1_18 : Cond.classLink RX1 18 RX0 ∈ GW := gw_t1 53 rfl rfl
theorem kl_3_9 : Cond.classLink RX3 9 RX2 ∈ GW := gw_t1 141 rfl rfl
theorem kl_L_7 : Cond.classLink RL 7 RX5 ∈ GW := gw_t1 9 rfl rfl
theorem kl_L_10 : Cond.classLink RL 10 RX6 ∈ GW := gw_t3 160 rfl rfl
theorem mw_0_init : MwOk yX0_init cX0_init 1 none 0 := ⟨gw_t1 57 rfl rfl, gw_t1 4 rfl rfl, by decide +kernel, by decide +kernel, by decide +kernel⟩
theorem im_0_init : Cond.instanceMethod yX0_init ∈ GW := gw_t1 56 rfl rfl
theorem mw_0_startAnew : MwOk yX0_startAnew cX0_startAnew 1 none 0 := ⟨gw_t2 10 rfl rfl, gw_t1 4 rfl rfl, by decide +kernel, by decide +kernel, by decide +kernel⟩
theorem im_0_startAnew : Cond.instanceMethod yX0_startAnew ∈ GW := gw_t2 8 rfl rfl
theorem sl_0_startAnew : Cond.selects RX0 yX0_startAnew yX0_startAnew ∈ GW := gw_t2 9 rfl rfl
theorem mw_0_addSeason : MwOk yX0_addSeason cX0_addSeason 4 none 2 := ⟨gw_t2 66 rfl rfl, gw_t1 4 rfl rfl, by decide +kernel, by decide +kernel, by decide +kernel⟩
theorem im_0_addSeason : Cond.instanceMethod yX0_addSeason ∈ GW := gw_t2 64 rfl rfl
theorem sl_0_addSeason : Cond.selects RX0 yX0_addSeason yX0_addSeason ∈ GW := gw_t2 65 rfl rfl
theorem mw_0_addCrop : MwOk yX0_addCrop cX0_addCrop 4 none 3 := ⟨gw_t2 74 rfl rfl, gw_t1 4 rfl rfl, by decide +kernel, by decide +kernel, by decide +kernel⟩
theorem im_0_addCrop : Cond.instanceMethod yX0_addCrop ∈ GW := gw_t2 72 rfl rfl
theorem sl_0_addCrop : Cond.selects RX0 yX0_addCrop yX0_addCrop ∈ GW := gw_t2 73 rfl rfl
theorem mw_0_allDays : MwOk yX0_allDays cX0_allDays 1 (some .int) 0 := ⟨gw_t2 150 rfl rfl, gw_t1 4 rfl rfl, by decide +kernel, by decide +kernel, by decide +kernel⟩
theorem im_0_allDays : Cond.instanceMethod yX0_allDays ∈ GW := gw_t2 148 rfl rfl
theorem sl_0_allDays : Cond.selects RX0 yX0_allDays yX0_allDays ∈ GW := gw_t2 149 rfl rfl
theorem mw_0_lentFor : MwOk yX0_lentFor cX0_lentFor 5 (some .int) 2 := ⟨gw_t2 207 rfl rfl, gw_t1 4 rfl rfl, by decide +kernel, by decide +kernel, by decide +kernel⟩
theorem im_0_lentFor : Cond.instanceMethod yX0_lentFor ∈ GW := gw_t2 205 rfl rfl
theorem sl_0_lentFor : Cond.selects RX0 yX0_lentFor yX0_lentFor ∈ GW := gw_t2 206 rfl rfl
theorem mw_0_ripensOn : MwOk yX0_ripensOn cX0_ripensOn 7 (some .int) 2 := ⟨gw_t2 165 rfl rfl, gw_t1 4 rfl rfl, by decide +kernel, by decide +kernel, by decide +kernel⟩
theorem im_0_ripensOn : Cond.instanceMethod yX0_ripensOn ∈ GW := gw_t2 163 rfl rfl
theorem sl_0_ripensOn : Cond.selects RX0 yX0_ripensOn yX0_ripensOn ∈ GW := gw_t2 164 rfl rfl
theorem mw_0_ripening : MwOk yX0_ripening cX0_ripening 4 (some .int) 1 := ⟨gw_t2 236 rfl rfl, gw_t1 4 rfl rfl, by decide +kernel, by decide +kernel, by decide +kernel⟩
theorem im_0_ripening : Cond.instanceMethod yX0_ripening ∈ GW := gw_t2 234 rfl rfl
theorem sl_0_ripening : Cond.selects RX0 yX0_ripening yX0_ripening ∈ GW := gw_t2 235 rfl rfl
theorem mw_0_worthOf : MwOk yX0_worthOf cX0_worthOf 4 (some .int) 1 := ⟨gw_t3 1 rfl rfl, gw_t1 4 rfl rfl, by decide +kernel, by decide +kernel, by decide +kernel⟩
theorem im_0_worthOf : Cond.instanceMethod yX0_worthOf ∈ GW := gw_t2 239 rfl rfl
theorem sl_0_worthOf : Cond.selects RX0 yX0_worthOf yX0_worthOf ∈ GW := gw_t3 0 rfl rfl
theorem mw_0_harvest : MwOk yX0_harvest cX0_harvest 2 (some .int) 1 := ⟨gw_t2 232 rfl rfl, gw_t1 4 rfl rfl, by decide +kernel, by decide +kernel, by decide +kernel⟩
theorem im_0_harvest : Cond.instanceMethod yX0_harvest ∈ GW := gw_t2 230 rfl rfl
theorem sl_0_harvest : Cond.selects RX0 yX0_harvest yX0_harvest ∈ GW := gw_t2 231 rfl rfl
theorem mw_0_gap : MwOk yX0_gap cX0_gap 5 (some .int) 1 := ⟨gw_t3 30 rfl rfl, gw_t1 4 rfl rfl, by decide +kernel, by decide +kernel, by decide +kernel⟩
theorem im_0_gap : Cond.instanceMethod yX0_gap ∈ GW := gw_t3 28 rfl rfl
theorem sl_0_gap : Cond.selects RX0 yX0_gap yX0_gap ∈ GW := gw_t3 29 rfl rfl
theorem mw_1_init : MwOk yX1_init cX1_init 1 none 0 := ⟨gw_t1 21 rfl rfl, gw_t1 2 rfl rfl, by decide +kernel, by decide +kernel, by decide +kernel⟩
theorem im_1_init : Cond.instanceMethod yX1_init ∈ GW := gw_t1 20 rfl rfl
theorem mw_1_readItems : MwOk yX1_readItems cX1_readItems 2 (some .int) 0 := ⟨gw_t2 6 rfl rfl, gw_t1 2 rfl rfl, by decide +kernel, by decide +kernel, by decide +kernel⟩
theorem im_1_readItems : Cond.instanceMethod yX1_readItems ∈ GW := gw_t2 4 rfl rfl
theorem sl_1_readItems : Cond.selects RX1 yX1_readItems yX1_readItems ∈ GW := gw_t2 5 rfl rfl
theorem mw_1_handOver : MwOk yX1_handOver cX1_handOver 3 (some (.object "SpringPawn$Land")) 1 := ⟨gw_t2 94 rfl rfl, gw_t1 2 rfl rfl, by decide +kernel, by decide +kernel, by decide +kernel⟩
theorem im_1_handOver : Cond.instanceMethod yX1_handOver ∈ GW := gw_t2 92 rfl rfl
theorem sl_1_handOver : Cond.selects RX1 yX1_handOver yX1_handOver ∈ GW := gw_t2 93 rfl rfl
theorem mw_1_readItem : MwOk yX1_readItem cX1_readItem 1 none 0 := ⟨gw_t2 39 rfl rfl, gw_t1 2 rfl rfl, by decide +kernel, by decide +kernel, by decide +kernel⟩
theorem im_1_readItem : Cond.instanceMethod yX1_readItem ∈ GW := gw_t2 38 rfl rfl
theorem sl_1_readItem : Cond.selects RX1 yX1_readItem yX1_readItem ∈ GW := gw_s1 2 rfl
theorem mw_1_readSeason : MwOk yX1_readSeason cX1_readSeason 3 none 0 := ⟨gw_t2 43 rfl rfl, gw_t1 2 rfl rfl, by decide +kernel, by decide +kernel, by decide +kernel⟩
theorem im_1_readSeason : Cond.instanceMethod yX1_readSeason ∈ GW := gw_t2 42 rfl rfl
theorem sl_1_readSeason : Cond.selects RX1 yX1_readSeason yX1_readSeason ∈ GW := gw_s1 3 rfl
theorem mw_1_readCrop : MwOk yX1_readCrop cX1_readCrop 4 none 0 := ⟨gw_t2 70 rfl rfl, gw_t1 2 rfl rfl, by decide +kernel, by decide +kernel, by decide +kernel⟩
theorem im_1_readCrop : Cond.instanceMethod yX1_readCrop ∈ GW := gw_t2 69 rfl rfl
theorem sl_1_readCrop : Cond.selects RX1 yX1_readCrop yX1_readCrop ∈ GW := gw_s1 8 rfl
theorem mw_1_readPrice : MwOk yX1_readPrice cX1_readPrice 1 none 0 := ⟨gw_t2 78 rfl rfl, gw_t1 2 rfl rfl, by decide +kernel, by decide +kernel, by decide +kernel⟩
theorem im_1_readPrice : Cond.instanceMethod yX1_readPrice ∈ GW := gw_t2 77 rfl rfl
theorem sl_1_readPrice : Cond.selects RX1 yX1_readPrice yX1_readPrice ∈ GW := gw_s1 9 rfl
theorem mw_1_readInterest : MwOk yX1_readInterest cX1_readInterest 1 none 0 := ⟨gw_t2 82 rfl rfl, gw_t1 2 rfl rfl, by decide +kernel, by decide +kernel, by decide +kernel⟩
theorem im_1_readInterest : Cond.instanceMethod yX1_readInterest ∈ GW := gw_t2 81 rfl rfl
theorem sl_1_readInterest : Cond.selects RX1 yX1_readInterest yX1_readInterest ∈ GW := gw_s1 10 rfl
theorem mw_1_readLapse : MwOk yX1_readLapse cX1_readLapse 1 none 0 := ⟨gw_t2 86 rfl rfl, gw_t1 2 rfl rfl, by decide +kernel, by decide +kernel, by decide +kernel⟩
theorem im_1_readLapse : Cond.instanceMethod yX1_readLapse ∈ GW := gw_t2 85 rfl rfl
theorem sl_1_readLapse : Cond.selects RX1 yX1_readLapse yX1_readLapse ∈ GW := gw_s1 11 rfl
theorem mw_1_readLetter : MwOk yX1_readLetter cX1_readLetter 2 none 1 := ⟨gw_t2 47 rfl rfl, gw_t1 2 rfl rfl, by decide +kernel, by decide +kernel, by decide +kernel⟩
theorem im_1_readLetter : Cond.instanceMethod yX1_readLetter ∈ GW := gw_t2 46 rfl rfl
theorem sl_1_readLetter : Cond.selects RX1 yX1_readLetter yX1_readLetter ∈ GW := gw_s1 4 rfl
theorem mw_1_readNumber : MwOk yX1_readNumber cX1_readNumber 4 (some .int) 2 := ⟨gw_t2 61 rfl rfl, gw_t1 2 rfl rfl, by decide +kernel, by decide +kernel, by decide +kernel⟩
theorem im_1_readNumber : Cond.instanceMethod yX1_readNumber ∈ GW := gw_t2 60 rfl rfl
theorem sl_1_readNumber : Cond.selects RX1 yX1_readNumber yX1_readNumber ∈ GW := gw_s1 7 rfl
theorem mw_1_readEnd : MwOk yX1_readEnd cX1_readEnd 1 none 0 := ⟨gw_t2 90 rfl rfl, gw_t1 2 rfl rfl, by decide +kernel, by decide +kernel, by decide +kernel⟩
theorem im_1_readEnd : Cond.instanceMethod yX1_readEnd ∈ GW := gw_t2 89 rfl rfl
theorem sl_1_readEnd : Cond.selects RX1 yX1_readEnd yX1_readEnd ∈ GW := gw_s1 12 rfl
theorem mw_1_refuseUnless : MwOk yX1_refuseUnless cX1_refuseUnless 2 none 1 := ⟨gw_t2 51 rfl rfl, gw_t1 2 rfl rfl, by decide +kernel, by decide +kernel, by decide +kernel⟩
theorem im_1_refuseUnless : Cond.instanceMethod yX1_refuseUnless ∈ GW := gw_t2 50 rfl rfl
theorem sl_1_refuseUnless : Cond.selects RX1 yX1_refuseUnless yX1_refuseUnless ∈ GW := gw_s1 5 rfl
theorem mw_1_toNextToken : MwOk yX1_toNextToken cX1_toNextToken 1 none 0 := ⟨gw_t2 55 rfl rfl, gw_t1 2 rfl rfl, by decide +kernel, by decide +kernel, by decide +kernel⟩
theorem im_1_toNextToken : Cond.instanceMethod yX1_toNextToken ∈ GW := gw_t2 54 rfl rfl
theorem sl_1_toNextToken : Cond.selects RX1 yX1_toNextToken yX1_toNextToken ∈ GW := gw_s1 6 rfl
theorem mw_2_init : MwOk yX2_init cX2_init 1 none 0 := ⟨gw_t1 145 rfl rfl, gw_t1 6 rfl rfl, by decide +kernel, by decide +kernel, by decide +kernel⟩
theorem im_2_init : Cond.instanceMethod yX2_init ∈ GW := gw_t1 144 rfl rfl
theorem mw_2_startAnew : MwOk yX2_startAnew cX2_startAnew 2 none 0 := ⟨gw_t2 102 rfl rfl, gw_t1 6 rfl rfl, by decide +kernel, by decide +kernel, by decide +kernel⟩
theorem im_2_startAnew : Cond.instanceMethod yX2_startAnew ∈ GW := gw_t2 100 rfl rfl
theorem sl_2_startAnew : Cond.selects RX2 yX2_startAnew yX2_startAnew ∈ GW := gw_t2 101 rfl rfl
theorem mw_2_become : MwOk yX2_become cX2_become 3 none 1 := ⟨gw_t2 203 rfl rfl, gw_t1 6 rfl rfl, by decide +kernel, by decide +kernel, by decide +kernel⟩
theorem im_2_become : Cond.instanceMethod yX2_become ∈ GW := gw_t2 201 rfl rfl
theorem sl_2_become : Cond.selects RX2 yX2_become yX2_become ∈ GW := gw_t2 202 rfl rfl
theorem mw_2_isFree : MwOk yX2_isFree cX2_isFree 2 (some .boolean) 1 := ⟨gw_t2 177 rfl rfl, gw_t1 6 rfl rfl, by decide +kernel, by decide +kernel, by decide +kernel⟩
theorem im_2_isFree : Cond.instanceMethod yX2_isFree ∈ GW := gw_t2 175 rfl rfl
theorem sl_2_isFree : Cond.selects RX2 yX2_isFree yX2_isFree ∈ GW := gw_t2 176 rfl rfl
theorem mw_2_lowestFree : MwOk yX2_lowestFree cX2_lowestFree 2 (some .int) 0 := ⟨gw_t2 185 rfl rfl, gw_t1 6 rfl rfl, by decide +kernel, by decide +kernel, by decide +kernel⟩
theorem im_2_lowestFree : Cond.instanceMethod yX2_lowestFree ∈ GW := gw_t2 183 rfl rfl
theorem sl_2_lowestFree : Cond.selects RX2 yX2_lowestFree yX2_lowestFree ∈ GW := gw_t2 184 rfl rfl
theorem mw_2_loanOf : MwOk yX2_loanOf cX2_loanOf 3 (some .int) 1 := ⟨gw_t2 125 rfl rfl, gw_t1 6 rfl rfl, by decide +kernel, by decide +kernel, by decide +kernel⟩
theorem im_2_loanOf : Cond.instanceMethod yX2_loanOf ∈ GW := gw_t2 123 rfl rfl
theorem sl_2_loanOf : Cond.selects RX2 yX2_loanOf yX2_loanOf ∈ GW := gw_t2 124 rfl rfl
theorem mw_2_daysOut : MwOk yX2_daysOut cX2_daysOut 1 (some .int) 0 := ⟨gw_t2 157 rfl rfl, gw_t1 6 rfl rfl, by decide +kernel, by decide +kernel, by decide +kernel⟩
theorem im_2_daysOut : Cond.instanceMethod yX2_daysOut ∈ GW := gw_t2 155 rfl rfl
theorem sl_2_daysOut : Cond.selects RX2 yX2_daysOut yX2_daysOut ∈ GW := gw_t2 156 rfl rfl
theorem mw_2_daysIn : MwOk yX2_daysIn cX2_daysIn 2 (some .int) 1 := ⟨gw_t2 146 rfl rfl, gw_t1 6 rfl rfl, by decide +kernel, by decide +kernel, by decide +kernel⟩
theorem im_2_daysIn : Cond.instanceMethod yX2_daysIn ∈ GW := gw_t2 144 rfl rfl
theorem sl_2_daysIn : Cond.selects RX2 yX2_daysIn yX2_daysIn ∈ GW := gw_t2 145 rfl rfl
theorem mw_2_owed : MwOk yX2_owed cX2_owed 1 (some .int) 0 := ⟨gw_t3 37 rfl rfl, gw_t1 6 rfl rfl, by decide +kernel, by decide +kernel, by decide +kernel⟩
theorem im_2_owed : Cond.instanceMethod yX2_owed ∈ GW := gw_t3 35 rfl rfl
theorem sl_2_owed : Cond.selects RX2 yX2_owed yX2_owed ∈ GW := gw_t3 36 rfl rfl
theorem mw_2_daysOfSet : MwOk yX2_daysOfSet cX2_daysOfSet 4 (some .int) 1 := ⟨gw_t2 161 rfl rfl, gw_t1 6 rfl rfl, by decide +kernel, by decide +kernel, by decide +kernel⟩
theorem im_2_daysOfSet : Cond.instanceMethod yX2_daysOfSet ∈ GW := gw_t2 159 rfl rfl
theorem sl_2_daysOfSet : Cond.selects RX2 yX2_daysOfSet yX2_daysOfSet ∈ GW := gw_t2 160 rfl rfl
theorem mw_2_costOfSet : MwOk yX2_costOfSet cX2_costOfSet 4 (some .int) 1 := ⟨gw_t3 41 rfl rfl, gw_t1 6 rfl rfl, by decide +kernel, by decide +kernel, by decide +kernel⟩
theorem im_2_costOfSet : Cond.instanceMethod yX2_costOfSet ∈ GW := gw_t3 39 rfl rfl
theorem sl_2_costOfSet : Cond.selects RX2 yX2_costOfSet yX2_costOfSet ∈ GW := gw_t3 40 rfl rfl
theorem mw_2_isSetOfLoans : MwOk yX2_isSetOfLoans cX2_isSetOfLoans 3 (some .boolean) 1 := ⟨gw_t3 66 rfl rfl, gw_t1 6 rfl rfl, by decide +kernel, by decide +kernel, by decide +kernel⟩
theorem im_2_isSetOfLoans : Cond.instanceMethod yX2_isSetOfLoans ∈ GW := gw_t3 64 rfl rfl
theorem sl_2_isSetOfLoans : Cond.selects RX2 yX2_isSetOfLoans yX2_isSetOfLoans ∈ GW := gw_t3 65 rfl rfl
theorem mw_2_pawn : MwOk yX2_pawn cX2_pawn 4 none 3 := ⟨gw_t2 211 rfl rfl, gw_t1 6 rfl rfl, by decide +kernel, by decide +kernel, by decide +kernel⟩
theorem im_2_pawn : Cond.instanceMethod yX2_pawn ∈ GW := gw_t2 209 rfl rfl
theorem sl_2_pawn : Cond.selects RX2 yX2_pawn yX2_pawn ∈ GW := gw_t2 210 rfl rfl
theorem mw_2_redeem : MwOk yX2_redeem cX2_redeem 2 none 1 := ⟨gw_t2 219 rfl rfl, gw_t1 6 rfl rfl, by decide +kernel, by decide +kernel, by decide +kernel⟩
theorem im_2_redeem : Cond.instanceMethod yX2_redeem ∈ GW := gw_t2 217 rfl rfl
theorem sl_2_redeem : Cond.selects RX2 yX2_redeem yX2_redeem ∈ GW := gw_t2 218 rfl rfl
theorem mw_2_passYear : MwOk yX2_passYear cX2_passYear 4 (some .int) 1 := ⟨gw_t2 227 rfl rfl, gw_t1 6 rfl rfl, by decide +kernel, by decide +kernel, by decide +kernel⟩
theorem im_2_passYear : Cond.instanceMethod yX2_passYear ∈ GW := gw_t2 225 rfl rfl
theorem sl_2_passYear : Cond.selects RX2 yX2_passYear yX2_passYear ∈ GW := gw_t2 226 rfl rfl
theorem mw_2_takeInterest : MwOk yX2_takeInterest cX2_takeInterest 6 none 2 := ⟨gw_t3 5 rfl rfl, gw_t1 6 rfl rfl, by decide +kernel, by decide +kernel, by decide +kernel⟩
theorem im_2_takeInterest : Cond.instanceMethod yX2_takeInterest ∈ GW := gw_t3 4 rfl rfl
theorem sl_2_takeInterest : Cond.selects RX2 yX2_takeInterest yX2_takeInterest ∈ GW := gw_s2 5 rfl
theorem mw_2_grow : MwOk yX2_grow cX2_grow 3 none 2 := ⟨gw_t3 12 rfl rfl, gw_t1 6 rfl rfl, by decide +kernel, by decide +kernel, by decide +kernel⟩
theorem im_2_grow : Cond.instanceMethod yX2_grow ∈ GW := gw_t3 11 rfl rfl
theorem sl_2_grow : Cond.selects RX2 yX2_grow yX2_grow ∈ GW := gw_s2 6 rfl
theorem mw_2_setFree : MwOk yX2_setFree cX2_setFree 2 none 1 := ⟨gw_t2 106 rfl rfl, gw_t1 6 rfl rfl, by decide +kernel, by decide +kernel, by decide +kernel⟩
theorem im_2_setFree : Cond.instanceMethod yX2_setFree ∈ GW := gw_t2 105 rfl rfl
theorem sl_2_setFree : Cond.selects RX2 yX2_setFree yX2_setFree ∈ GW := gw_s1 13 rfl
theorem mw_2_behindLast : MwOk yX2_behindLast cX2_behindLast 3 (some .int) 1 := ⟨gw_t3 8 rfl rfl, gw_t1 6 rfl rfl, by decide +kernel, by decide +kernel, by decide +kernel⟩
theorem st_2_behindLast : Cond.static yX2_behindLast ∈ GW := gw_t3 7 rfl rfl
theorem mw_3_init : MwOk yX3_init cX3_init 2 none 0 := ⟨gw_t1 139 rfl rfl, gw_t1 5 rfl rfl, by decide +kernel, by decide +kernel, by decide +kernel⟩
theorem im_3_init : Cond.instanceMethod yX3_init ∈ GW := gw_t1 138 rfl rfl
theorem mw_3_startAnew : MwOk yX3_startAnew cX3_startAnew 1 none 0 := ⟨gw_t2 98 rfl rfl, gw_t1 5 rfl rfl, by decide +kernel, by decide +kernel, by decide +kernel⟩
theorem im_3_startAnew : Cond.instanceMethod yX3_startAnew ∈ GW := gw_t2 96 rfl rfl
theorem sl_3_startAnew : Cond.selects RX3 yX3_startAnew yX3_startAnew ∈ GW := gw_t2 97 rfl rfl
theorem mw_3_become : MwOk yX3_become cX3_become 3 none 1 := ⟨gw_t3 147 rfl rfl, gw_t1 5 rfl rfl, by decide +kernel, by decide +kernel, by decide +kernel⟩
theorem im_3_become : Cond.instanceMethod yX3_become ∈ GW := gw_t3 145 rfl rfl
theorem sl_3_become : Cond.selects RX3 yX3_become yX3_become ∈ GW := gw_t3 146 rfl rfl
theorem mw_3_remember : MwOk yX3_remember cX3_remember 1 none 0 := ⟨gw_t2 195 rfl rfl, gw_t1 5 rfl rfl, by decide +kernel, by decide +kernel, by decide +kernel⟩
theorem im_3_remember : Cond.instanceMethod yX3_remember ∈ GW := gw_t2 193 rfl rfl
theorem sl_3_remember : Cond.selects RX3 yX3_remember yX3_remember ∈ GW := gw_t2 194 rfl rfl
theorem mw_3_goBack : MwOk yX3_goBack cX3_goBack 1 (some .boolean) 0 := ⟨gw_t3 20 rfl rfl, gw_t1 5 rfl rfl, by decide +kernel, by decide +kernel, by decide +kernel⟩
theorem im_3_goBack : Cond.instanceMethod yX3_goBack ∈ GW := gw_t3 18 rfl rfl
theorem sl_3_goBack : Cond.selects RX3 yX3_goBack yX3_goBack ∈ GW := gw_t3 19 rfl rfl
theorem mw_3_loseOldest : MwOk yX3_loseOldest cX3_loseOldest 3 none 0 := ⟨gw_t2 199 rfl rfl, gw_t1 5 rfl rfl, by decide +kernel, by decide +kernel, by decide +kernel⟩
theorem im_3_loseOldest : Cond.instanceMethod yX3_loseOldest ∈ GW := gw_t2 198 rfl rfl
theorem sl_3_loseOldest : Cond.selects RX3 yX3_loseOldest yX3_loseOldest ∈ GW := gw_s2 4 rfl
theorem mw_4_init : MwOk yX4_init cX4_init 1 none 0 := ⟨gw_t1 27 rfl rfl, gw_t1 3 rfl rfl, by decide +kernel, by decide +kernel, by decide +kernel⟩
theorem im_4_init : Cond.instanceMethod yX4_init ∈ GW := gw_t1 26 rfl rfl
theorem mw_4_take : MwOk yX4_take cX4_take 2 (some .boolean) 1 := ⟨gw_t1 230 rfl rfl, gw_t1 3 rfl rfl, by decide +kernel, by decide +kernel, by decide +kernel⟩
theorem im_4_take : Cond.instanceMethod yX4_take ∈ GW := gw_t1 228 rfl rfl
theorem sl_4_take : Cond.selects RX4 yX4_take yX4_take ∈ GW := gw_t1 229 rfl rfl
theorem mw_4_drop : MwOk yX4_drop cX4_drop 2 (some .int) 0 := ⟨gw_t1 238 rfl rfl, gw_t1 3 rfl rfl, by decide +kernel, by decide +kernel, by decide +kernel⟩
theorem im_4_drop : Cond.instanceMethod yX4_drop ∈ GW := gw_t1 236 rfl rfl
theorem sl_4_drop : Cond.selects RX4 yX4_drop yX4_drop ∈ GW := gw_t1 237 rfl rfl
theorem mw_4_toFirstToken : MwOk yX4_toFirstToken cX4_toFirstToken 1 none 0 := ⟨gw_t2 14 rfl rfl, gw_t1 3 rfl rfl, by decide +kernel, by decide +kernel, by decide +kernel⟩
theorem im_4_toFirstToken : Cond.instanceMethod yX4_toFirstToken ∈ GW := gw_t2 12 rfl rfl
theorem sl_4_toFirstToken : Cond.selects RX4 yX4_toFirstToken yX4_toFirstToken ∈ GW := gw_t2 13 rfl rfl
theorem mw_4_toNextToken : MwOk yX4_toNextToken cX4_toNextToken 1 none 0 := ⟨gw_t2 18 rfl rfl, gw_t1 3 rfl rfl, by decide +kernel, by decide +kernel, by decide +kernel⟩
theorem im_4_toNextToken : Cond.instanceMethod yX4_toNextToken ∈ GW := gw_t2 16 rfl rfl
theorem sl_4_toNextToken : Cond.selects RX4 yX4_toNextToken yX4_toNextToken ∈ GW := gw_t2 17 rfl rfl
theorem mw_4_scanLetters : MwOk yX4_scanLetters cX4_scanLetters 1 none 0 := ⟨gw_t2 25 rfl rfl, gw_t1 3 rfl rfl, by decide +kernel, by decide +kernel, by decide +kernel⟩
theorem im_4_scanLetters : Cond.instanceMethod yX4_scanLetters ∈ GW := gw_t2 24 rfl rfl
theorem sl_4_scanLetters : Cond.selects RX4 yX4_scanLetters yX4_scanLetters ∈ GW := gw_s1 0 rfl
theorem mw_4_scanNumber : MwOk yX4_scanNumber cX4_scanNumber 2 none 0 := ⟨gw_t2 32 rfl rfl, gw_t1 3 rfl rfl, by decide +kernel, by decide +kernel, by decide +kernel⟩
theorem im_4_scanNumber : Cond.instanceMethod yX4_scanNumber ∈ GW := gw_t2 31 rfl rfl
theorem sl_4_scanNumber : Cond.selects RX4 yX4_scanNumber yX4_scanNumber ∈ GW := gw_s1 1 rfl
theorem mw_4_isLetter : MwOk yX4_isLetter cX4_isLetter 1 (some .boolean) 1 := ⟨gw_t2 21 rfl rfl, gw_t1 3 rfl rfl, by decide +kernel, by decide +kernel, by decide +kernel⟩
theorem st_4_isLetter : Cond.static yX4_isLetter ∈ GW := gw_t2 20 rfl rfl
theorem mw_4_isDigit : MwOk yX4_isDigit cX4_isDigit 1 (some .boolean) 1 := ⟨gw_t2 28 rfl rfl, gw_t1 3 rfl rfl, by decide +kernel, by decide +kernel, by decide +kernel⟩
theorem st_4_isDigit : Cond.static yX4_isDigit ∈ GW := gw_t2 27 rfl rfl
theorem mw_5_init : MwOk yX5_init cX5_init 2 none 0 := ⟨gw_t1 13 rfl rfl, gw_t1 1 rfl rfl, by decide +kernel, by decide +kernel, by decide +kernel⟩
theorem im_5_init : Cond.instanceMethod yX5_init ∈ GW := gw_t1 12 rfl rfl
theorem mw_5_type : MwOk yX5_type cX5_type 2 (some .int) 1 := ⟨gw_t1 223 rfl rfl, gw_t1 1 rfl rfl, by decide +kernel, by decide +kernel, by decide +kernel⟩
theorem im_5_type : Cond.instanceMethod yX5_type ∈ GW := gw_t1 221 rfl rfl
theorem sl_5_type : Cond.selects RX5 yX5_type yX5_type ∈ GW := gw_t1 222 rfl rfl
theorem mw_5_clear : MwOk yX5_clear cX5_clear 1 (some .int) 0 := ⟨gw_t1 234 rfl rfl, gw_t1 1 rfl rfl, by decide +kernel, by decide +kernel, by decide +kernel⟩
theorem im_5_clear : Cond.instanceMethod yX5_clear ∈ GW := gw_t1 232 rfl rfl
theorem sl_5_clear : Cond.selects RX5 yX5_clear yX5_clear ∈ GW := gw_t1 233 rfl rfl
theorem mw_5_valley : MwOk yX5_valley cX5_valley 3 (some .int) 0 := ⟨gw_t2 2 rfl rfl, gw_t1 1 rfl rfl, by decide +kernel, by decide +kernel, by decide +kernel⟩
theorem im_5_valley : Cond.instanceMethod yX5_valley ∈ GW := gw_t2 0 rfl rfl
theorem sl_5_valley : Cond.selects RX5 yX5_valley yX5_valley ∈ GW := gw_t2 1 rfl rfl
theorem mw_5_day : MwOk yX5_day cX5_day 3 (some .int) 2 := ⟨gw_t2 110 rfl rfl, gw_t1 1 rfl rfl, by decide +kernel, by decide +kernel, by decide +kernel⟩
theorem im_5_day : Cond.instanceMethod yX5_day ∈ GW := gw_t2 108 rfl rfl
theorem sl_5_day : Cond.selects RX5 yX5_day yX5_day ∈ GW := gw_t2 109 rfl rfl
theorem mw_5_crop : MwOk yX5_crop cX5_crop 3 (some .int) 2 := ⟨gw_t2 130 rfl rfl, gw_t1 1 rfl rfl, by decide +kernel, by decide +kernel, by decide +kernel⟩
theorem im_5_crop : Cond.instanceMethod yX5_crop ∈ GW := gw_t2 128 rfl rfl
theorem sl_5_crop : Cond.selects RX5 yX5_crop yX5_crop ∈ GW := gw_t2 129 rfl rfl
theorem mw_5_loan : MwOk yX5_loan cX5_loan 4 (some .int) 2 := ⟨gw_t2 170 rfl rfl, gw_t1 1 rfl rfl, by decide +kernel, by decide +kernel, by decide +kernel⟩
theorem im_5_loan : Cond.instanceMethod yX5_loan ∈ GW := gw_t2 168 rfl rfl
theorem sl_5_loan : Cond.selects RX5 yX5_loan yX5_loan ∈ GW := gw_t2 169 rfl rfl
theorem mw_5_pawns : MwOk yX5_pawns cX5_pawns 5 (some .int) 2 := ⟨gw_t2 181 rfl rfl, gw_t1 1 rfl rfl, by decide +kernel, by decide +kernel, by decide +kernel⟩
theorem im_5_pawns : Cond.instanceMethod yX5_pawns ∈ GW := gw_t2 179 rfl rfl
theorem sl_5_pawns : Cond.selects RX5 yX5_pawns yX5_pawns ∈ GW := gw_t2 180 rfl rfl
theorem mw_5_redeems : MwOk yX5_redeems cX5_redeems 3 (some .int) 1 := ⟨gw_t2 215 rfl rfl, gw_t1 1 rfl rfl, by decide +kernel, by decide +kernel, by decide +kernel⟩
theorem im_5_redeems : Cond.instanceMethod yX5_redeems ∈ GW := gw_t2 213 rfl rfl
theorem sl_5_redeems : Cond.selects RX5 yX5_redeems yX5_redeems ∈ GW := gw_t2 214 rfl rfl
theorem mw_5_year : MwOk yX5_year cX5_year 1 (some .int) 0 := ⟨gw_t2 223 rfl rfl, gw_t1 1 rfl rfl, by decide +kernel, by decide +kernel, by decide +kernel⟩
theorem im_5_year : Cond.instanceMethod yX5_year ∈ GW := gw_t2 221 rfl rfl
theorem sl_5_year : Cond.selects RX5 yX5_year yX5_year ∈ GW := gw_t2 222 rfl rfl
theorem mw_5_undo : MwOk yX5_undo cX5_undo 1 (some .int) 0 := ⟨gw_t3 16 rfl rfl, gw_t1 1 rfl rfl, by decide +kernel, by decide +kernel, by decide +kernel⟩
theorem im_5_undo : Cond.instanceMethod yX5_undo ∈ GW := gw_t3 14 rfl rfl
theorem sl_5_undo : Cond.selects RX5 yX5_undo yX5_undo ∈ GW := gw_t3 15 rfl rfl
theorem mw_5_now : MwOk yX5_now cX5_now 3 (some .int) 1 := ⟨gw_t3 24 rfl rfl, gw_t1 1 rfl rfl, by decide +kernel, by decide +kernel, by decide +kernel⟩
theorem im_5_now : Cond.instanceMethod yX5_now ∈ GW := gw_t3 22 rfl rfl
theorem sl_5_now : Cond.selects RX5 yX5_now yX5_now ∈ GW := gw_t3 23 rfl rfl
theorem mw_5_lends : MwOk yX5_lends cX5_lends 3 (some .int) 2 := ⟨gw_t3 45 rfl rfl, gw_t1 1 rfl rfl, by decide +kernel, by decide +kernel, by decide +kernel⟩
theorem im_5_lends : Cond.instanceMethod yX5_lends ∈ GW := gw_t3 43 rfl rfl
theorem sl_5_lends : Cond.selects RX5 yX5_lends yX5_lends ∈ GW := gw_t3 44 rfl rfl
theorem mw_5_cheap : MwOk yX5_cheap cX5_cheap 6 (some .int) 2 := ⟨gw_t3 49 rfl rfl, gw_t1 1 rfl rfl, by decide +kernel, by decide +kernel, by decide +kernel⟩
theorem im_5_cheap : Cond.instanceMethod yX5_cheap ∈ GW := gw_t3 47 rfl rfl
theorem sl_5_cheap : Cond.selects RX5 yX5_cheap yX5_cheap ∈ GW := gw_t3 48 rfl rfl
theorem mw_5_freeing : MwOk yX5_freeing cX5_freeing 3 (some .int) 1 := ⟨gw_t3 57 rfl rfl, gw_t1 1 rfl rfl, by decide +kernel, by decide +kernel, by decide +kernel⟩
theorem im_5_freeing : Cond.instanceMethod yX5_freeing ∈ GW := gw_t3 55 rfl rfl
theorem sl_5_freeing : Cond.selects RX5 yX5_freeing yX5_freeing ∈ GW := gw_t3 56 rfl rfl
theorem mw_5_rich : MwOk yX5_rich cX5_rich 3 (some .int) 1 := ⟨gw_t3 71 rfl rfl, gw_t1 1 rfl rfl, by decide +kernel, by decide +kernel, by decide +kernel⟩
theorem im_5_rich : Cond.instanceMethod yX5_rich ∈ GW := gw_t3 69 rfl rfl
theorem sl_5_rich : Cond.selects RX5 yX5_rich yX5_rich ∈ GW := gw_t3 70 rfl rfl
theorem mw_5_bare : MwOk yX5_bare cX5_bare 2 (some .int) 0 := ⟨gw_t3 76 rfl rfl, gw_t1 1 rfl rfl, by decide +kernel, by decide +kernel, by decide +kernel⟩
theorem im_5_bare : Cond.instanceMethod yX5_bare ∈ GW := gw_t3 74 rfl rfl
theorem sl_5_bare : Cond.selects RX5 yX5_bare yX5_bare ∈ GW := gw_t3 75 rfl rfl
theorem mw_5_tells : MwOk yX5_tells cX5_tells 3 (some .int) 2 := ⟨gw_t3 81 rfl rfl, gw_t1 1 rfl rfl, by decide +kernel, by decide +kernel, by decide +kernel⟩
theorem im_5_tells : Cond.instanceMethod yX5_tells ∈ GW := gw_t3 79 rfl rfl
theorem sl_5_tells : Cond.selects RX5 yX5_tells yX5_tells ∈ GW := gw_t3 80 rfl rfl
theorem mw_5_forget : MwOk yX5_forget cX5_forget 2 (some .int) 0 := ⟨gw_t3 85 rfl rfl, gw_t1 1 rfl rfl, by decide +kernel, by decide +kernel, by decide +kernel⟩
theorem im_5_forget : Cond.instanceMethod yX5_forget ∈ GW := gw_t3 83 rfl rfl
theorem sl_5_forget : Cond.selects RX5 yX5_forget yX5_forget ∈ GW := gw_t3 84 rfl rfl
theorem mw_5_fits : MwOk yX5_fits cX5_fits 8 (some .int) 1 := ⟨gw_t3 89 rfl rfl, gw_t1 1 rfl rfl, by decide +kernel, by decide +kernel, by decide +kernel⟩
theorem im_5_fits : Cond.instanceMethod yX5_fits ∈ GW := gw_t3 87 rfl rfl
theorem sl_5_fits : Cond.selects RX5 yX5_fits yX5_fits ∈ GW := gw_t3 88 rfl rfl
theorem mw_5_odds : MwOk yX5_odds cX5_odds 9 (some .int) 3 := ⟨gw_t3 98 rfl rfl, gw_t1 1 rfl rfl, by decide +kernel, by decide +kernel, by decide +kernel⟩
theorem im_5_odds : Cond.instanceMethod yX5_odds ∈ GW := gw_t3 96 rfl rfl
theorem sl_5_odds : Cond.selects RX5 yX5_odds yX5_odds ∈ GW := gw_t3 97 rfl rfl
theorem mw_5_mark : MwOk yX5_mark cX5_mark 3 (some .int) 2 := ⟨gw_t3 109 rfl rfl, gw_t1 1 rfl rfl, by decide +kernel, by decide +kernel, by decide +kernel⟩
theorem im_5_mark : Cond.instanceMethod yX5_mark ∈ GW := gw_t3 107 rfl rfl
theorem sl_5_mark : Cond.selects RX5 yX5_mark yX5_mark ∈ GW := gw_t3 108 rfl rfl
theorem mw_5_keep : MwOk yX5_keep cX5_keep 2 (some .int) 1 := ⟨gw_t3 143 rfl rfl, gw_t1 1 rfl rfl, by decide +kernel, by decide +kernel, by decide +kernel⟩
theorem im_5_keep : Cond.instanceMethod yX5_keep ∈ GW := gw_t3 141 rfl rfl
theorem sl_5_keep : Cond.selects RX5 yX5_keep yX5_keep ∈ GW := gw_t3 142 rfl rfl
theorem mw_5_back : MwOk yX5_back cX5_back 2 (some .int) 1 := ⟨gw_t3 151 rfl rfl, gw_t1 1 rfl rfl, by decide +kernel, by decide +kernel, by decide +kernel⟩
theorem im_5_back : Cond.instanceMethod yX5_back ∈ GW := gw_t3 149 rfl rfl
theorem sl_5_back : Cond.selects RX5 yX5_back yX5_back ∈ GW := gw_t3 150 rfl rfl
theorem mw_5_count : MwOk yX5_count cX5_count 2 (some .int) 1 := ⟨gw_t3 155 rfl rfl, gw_t1 1 rfl rfl, by decide +kernel, by decide +kernel, by decide +kernel⟩
theorem im_5_count : Cond.instanceMethod yX5_count ∈ GW := gw_t3 153 rfl rfl
theorem sl_5_count : Cond.selects RX5 yX5_count yX5_count ∈ GW := gw_t3 154 rfl rfl
theorem mw_5_trace : MwOk yX5_trace cX5_trace 1 (some .long) 0 := ⟨gw_t3 159 rfl rfl, gw_t1 1 rfl rfl, by decide +kernel, by decide +kernel, by decide +kernel⟩
theorem im_5_trace : Cond.instanceMethod yX5_trace ∈ GW := gw_t3 157 rfl rfl
theorem sl_5_trace : Cond.selects RX5 yX5_trace yX5_trace ∈ GW := gw_t3 158 rfl rfl
theorem mw_5_isWithin : MwOk yX5_isWithin cX5_isWithin 3 (some .boolean) 3 := ⟨gw_t1 226 rfl rfl, gw_t1 1 rfl rfl, by decide +kernel, by decide +kernel, by decide +kernel⟩
theorem st_5_isWithin : Cond.static yX5_isWithin ∈ GW := gw_t1 225 rfl rfl
theorem mw_5_isDay : MwOk yX5_isDay cX5_isDay 2 (some .boolean) 1 := ⟨gw_t2 114 rfl rfl, gw_t1 1 rfl rfl, by decide +kernel, by decide +kernel, by decide +kernel⟩
theorem im_5_isDay : Cond.instanceMethod yX5_isDay ∈ GW := gw_t2 113 rfl rfl
theorem sl_5_isDay : Cond.selects RX5 yX5_isDay yX5_isDay ∈ GW := gw_s1 14 rfl
theorem mw_5_isCrop : MwOk yX5_isCrop cX5_isCrop 2 (some .boolean) 1 := ⟨gw_t2 134 rfl rfl, gw_t1 1 rfl rfl, by decide +kernel, by decide +kernel, by decide +kernel⟩
theorem im_5_isCrop : Cond.instanceMethod yX5_isCrop ∈ GW := gw_t2 133 rfl rfl
theorem sl_5_isCrop : Cond.selects RX5 yX5_isCrop yX5_isCrop ∈ GW := gw_s2 0 rfl
theorem mw_5_isLoan : MwOk yX5_isLoan cX5_isLoan 1 (some .boolean) 1 := ⟨gw_t2 173 rfl rfl, gw_t1 1 rfl rfl, by decide +kernel, by decide +kernel, by decide +kernel⟩
theorem st_5_isLoan : Cond.static yX5_isLoan ∈ GW := gw_t2 172 rfl rfl
theorem mw_5_has : MwOk yX5_has cX5_has 2 (some .boolean) 2 := ⟨gw_t2 121 rfl rfl, gw_t1 1 rfl rfl, by decide +kernel, by decide +kernel, by decide +kernel⟩
theorem st_5_has : Cond.static yX5_has ∈ GW := gw_t2 120 rfl rfl
theorem mw_5_rowBits : MwOk yX5_rowBits cX5_rowBits 2 (some .int) 2 := ⟨gw_t2 153 rfl rfl, gw_t1 1 rfl rfl, by decide +kernel, by decide +kernel, by decide +kernel⟩
theorem st_5_rowBits : Cond.static yX5_rowBits ∈ GW := gw_t2 152 rfl rfl
theorem mw_5_daysIn : MwOk yX5_daysIn cX5_daysIn 1 (some .int) 0 := ⟨gw_t2 142 rfl rfl, gw_t1 1 rfl rfl, by decide +kernel, by decide +kernel, by decide +kernel⟩
theorem im_5_daysIn : Cond.instanceMethod yX5_daysIn ∈ GW := gw_t2 141 rfl rfl
theorem sl_5_daysIn : Cond.selects RX5 yX5_daysIn yX5_daysIn ∈ GW := gw_s2 2 rfl
theorem mw_5_isRowIn : MwOk yX5_isRowIn cX5_isRowIn 3 (some .boolean) 2 := ⟨gw_t2 190 rfl rfl, gw_t1 1 rfl rfl, by decide +kernel, by decide +kernel, by decide +kernel⟩
theorem im_5_isRowIn : Cond.instanceMethod yX5_isRowIn ∈ GW := gw_t2 189 rfl rfl
theorem sl_5_isRowIn : Cond.selects RX5 yX5_isRowIn yX5_isRowIn ∈ GW := gw_s2 3 rfl
theorem mw_5_ripensNow : MwOk yX5_ripensNow cX5_ripensNow 2 (some .boolean) 1 := ⟨gw_t2 138 rfl rfl, gw_t1 1 rfl rfl, by decide +kernel, by decide +kernel, by decide +kernel⟩
theorem im_5_ripensNow : Cond.instanceMethod yX5_ripensNow ∈ GW := gw_t2 137 rfl rfl
theorem sl_5_ripensNow : Cond.selects RX5 yX5_ripensNow yX5_ripensNow ∈ GW := gw_s2 1 rfl
theorem mw_5_howDayIs : MwOk yX5_howDayIs cX5_howDayIs 2 (some .int) 1 := ⟨gw_t2 118 rfl rfl, gw_t1 1 rfl rfl, by decide +kernel, by decide +kernel, by decide +kernel⟩
theorem im_5_howDayIs : Cond.instanceMethod yX5_howDayIs ∈ GW := gw_t2 117 rfl rfl
theorem sl_5_howDayIs : Cond.selects RX5 yX5_howDayIs yX5_howDayIs ∈ GW := gw_s1 15 rfl
theorem mw_5_cheapestRow : MwOk yX5_cheapestRow cX5_cheapestRow 9 (some .int) 1 := ⟨gw_t3 53 rfl rfl, gw_t1 1 rfl rfl, by decide +kernel, by decide +kernel, by decide +kernel⟩
theorem im_5_cheapestRow : Cond.instanceMethod yX5_cheapestRow ∈ GW := gw_t3 52 rfl rfl
theorem sl_5_cheapestRow : Cond.selects RX5 yX5_cheapestRow yX5_cheapestRow ∈ GW := gw_s2 7 rfl
theorem mw_5_bestFreeing : MwOk yX5_bestFreeing cX5_bestFreeing 9 (some .int) 0 := ⟨gw_t3 61 rfl rfl, gw_t1 1 rfl rfl, by decide +kernel, by decide +kernel, by decide +kernel⟩
theorem im_5_bestFreeing : Cond.instanceMethod yX5_bestFreeing ∈ GW := gw_t3 60 rfl rfl
theorem sl_5_bestFreeing : Cond.selects RX5 yX5_bestFreeing yX5_bestFreeing ∈ GW := gw_s2 8 rfl
theorem mw_5_agreesWithTold : MwOk yX5_agreesWithTold cX5_agreesWithTold 4 (some .boolean) 1 := ⟨gw_t3 94 rfl rfl, gw_t1 1 rfl rfl, by decide +kernel, by decide +kernel, by decide +kernel⟩
theorem im_5_agreesWithTold : Cond.instanceMethod yX5_agreesWithTold ∈ GW := gw_t3 93 rfl rfl
theorem sl_5_agreesWithTold : Cond.selects RX5 yX5_agreesWithTold yX5_agreesWithTold ∈ GW := gw_s2 9 rfl
theorem mw_5_chancesOf : MwOk yX5_chancesOf cX5_chancesOf 5 (some .int) 3 := ⟨gw_t3 101 rfl rfl, gw_t1 1 rfl rfl, by decide +kernel, by decide +kernel, by decide +kernel⟩
theorem st_5_chancesOf : Cond.static yX5_chancesOf ∈ GW := gw_t3 100 rfl rfl
theorem mw_5_greatestDivisor : MwOk yX5_greatestDivisor cX5_greatestDivisor 6 (some .int) 2 := ⟨gw_t3 105 rfl rfl, gw_t1 1 rfl rfl, by decide +kernel, by decide +kernel, by decide +kernel⟩
theorem st_5_greatestDivisor : Cond.static yX5_greatestDivisor ∈ GW := gw_t3 104 rfl rfl
theorem mw_5_markAsCrop : MwOk yX5_markAsCrop cX5_markAsCrop 2 (some .int) 1 := ⟨gw_t3 114 rfl rfl, gw_t1 1 rfl rfl, by decide +kernel, by decide +kernel, by decide +kernel⟩
theorem im_5_markAsCrop : Cond.instanceMethod yX5_markAsCrop ∈ GW := gw_t3 113 rfl rfl
theorem sl_5_markAsCrop : Cond.selects RX5 yX5_markAsCrop yX5_markAsCrop ∈ GW := gw_s2 10 rfl
theorem mw_5_markAsHay : MwOk yX5_markAsHay cX5_markAsHay 2 (some .int) 1 := ⟨gw_t3 118 rfl rfl, gw_t1 1 rfl rfl, by decide +kernel, by decide +kernel, by decide +kernel⟩
theorem im_5_markAsHay : Cond.instanceMethod yX5_markAsHay ∈ GW := gw_t3 117 rfl rfl
theorem sl_5_markAsHay : Cond.selects RX5 yX5_markAsHay yX5_markAsHay ∈ GW := gw_s2 11 rfl
theorem mw_5_markAsPlum : MwOk yX5_markAsPlum cX5_markAsPlum 2 (some .int) 1 := ⟨gw_t3 123 rfl rfl, gw_t1 1 rfl rfl, by decide +kernel, by decide +kernel, by decide +kernel⟩
theorem im_5_markAsPlum : Cond.instanceMethod yX5_markAsPlum ∈ GW := gw_t3 122 rfl rfl
theorem sl_5_markAsPlum : Cond.selects RX5 yX5_markAsPlum yX5_markAsPlum ∈ GW := gw_s2 12 rfl
theorem mw_5_markAsClover : MwOk yX5_markAsClover cX5_markAsClover 2 (some .int) 1 := ⟨gw_t3 128 rfl rfl, gw_t1 1 rfl rfl, by decide +kernel, by decide +kernel, by decide +kernel⟩
theorem im_5_markAsClover : Cond.instanceMethod yX5_markAsClover ∈ GW := gw_t3 127 rfl rfl
theorem sl_5_markAsClover : Cond.selects RX5 yX5_markAsClover yX5_markAsClover ∈ GW := gw_s2 13 rfl
theorem mw_5_markAsSloe : MwOk yX5_markAsSloe cX5_markAsSloe 2 (some .int) 1 := ⟨gw_t3 133 rfl rfl, gw_t1 1 rfl rfl, by decide +kernel, by decide +kernel, by decide +kernel⟩
theorem im_5_markAsSloe : Cond.instanceMethod yX5_markAsSloe ∈ GW := gw_t3 132 rfl rfl
theorem sl_5_markAsSloe : Cond.selects RX5 yX5_markAsSloe yX5_markAsSloe ∈ GW := gw_s2 14 rfl
theorem mw_5_markAsLamb : MwOk yX5_markAsLamb cX5_markAsLamb 2 (some .int) 1 := ⟨gw_t3 138 rfl rfl, gw_t1 1 rfl rfl, by decide +kernel, by decide +kernel, by decide +kernel⟩
theorem im_5_markAsLamb : Cond.instanceMethod yX5_markAsLamb ∈ GW := gw_t3 137 rfl rfl
theorem sl_5_markAsLamb : Cond.selects RX5 yX5_markAsLamb yX5_markAsLamb ∈ GW := gw_s2 15 rfl
theorem mw_6_in : MwOk yX6_in cX6_in 6 (some .boolean) 3 := ⟨gw_t3 233 rfl rfl, gw_t1 7 rfl rfl, by decide +kernel, by decide +kernel, by decide +kernel⟩
theorem st_6_in : Cond.static yX6_in ∈ GW := gw_t3 232 rfl rfl
theorem mw_6_init : MwOk yX6_init cX6_init 1 none 0 := ⟨gw_t3 164 rfl rfl, gw_t1 7 rfl rfl, by decide +kernel, by decide +kernel, by decide +kernel⟩
theorem im_6_init : Cond.instanceMethod yX6_init ∈ GW := gw_t3 163 rfl rfl
theorem mw_6_type : MwOk yX6_type cX6_type 2 (some .int) 1 := ⟨gw_t3 229 rfl rfl, gw_t1 7 rfl rfl, by decide +kernel, by decide +kernel, by decide +kernel⟩
theorem im_6_type : Cond.instanceMethod yX6_type ∈ GW := gw_t3 227 rfl rfl
theorem sl_6_type : Cond.selects RX6 yX6_type yX6_type ∈ GW := gw_t3 228 rfl rfl
theorem mw_6_clear : MwOk yX6_clear cX6_clear 2 (some .int) 0 := ⟨gw_t3 237 rfl rfl, gw_t1 7 rfl rfl, by decide +kernel, by decide +kernel, by decide +kernel⟩
theorem im_6_clear : Cond.instanceMethod yX6_clear ∈ GW := gw_t3 235 rfl rfl
theorem sl_6_clear : Cond.selects RX6 yX6_clear yX6_clear ∈ GW := gw_t3 236 rfl rfl
theorem mw_6_isLetter : MwOk yX6_isLetter cX6_isLetter 1 (some .boolean) 1 := ⟨gw_t4 8 rfl rfl, gw_t1 7 rfl rfl, by decide +kernel, by decide +kernel, by decide +kernel⟩
theorem st_6_isLetter : Cond.static yX6_isLetter ∈ GW := gw_t4 7 rfl rfl
theorem mw_6_isFigure : MwOk yX6_isFigure cX6_isFigure 1 (some .boolean) 1 := ⟨gw_t4 17 rfl rfl, gw_t1 7 rfl rfl, by decide +kernel, by decide +kernel, by decide +kernel⟩
theorem st_6_isFigure : Cond.static yX6_isFigure ∈ GW := gw_t4 16 rfl rfl
theorem mw_6_readLetters : MwOk yX6_readLetters cX6_readLetters 2 none 0 := ⟨gw_t4 14 rfl rfl, gw_t1 7 rfl rfl, by decide +kernel, by decide +kernel, by decide +kernel⟩
theorem im_6_readLetters : Cond.instanceMethod yX6_readLetters ∈ GW := gw_t4 13 rfl rfl
theorem sl_6_readLetters : Cond.selects RX6 yX6_readLetters yX6_readLetters ∈ GW := gw_s3 3 rfl
theorem mw_6_readNumber : MwOk yX6_readNumber cX6_readNumber 2 none 0 := ⟨gw_t4 23 rfl rfl, gw_t1 7 rfl rfl, by decide +kernel, by decide +kernel, by decide +kernel⟩
theorem im_6_readNumber : Cond.instanceMethod yX6_readNumber ∈ GW := gw_t4 22 rfl rfl
theorem sl_6_readNumber : Cond.selects RX6 yX6_readNumber yX6_readNumber ∈ GW := gw_s3 4 rfl
theorem mw_6_reads : MwOk yX6_reads cX6_reads 1 none 0 := ⟨gw_t4 5 rfl rfl, gw_t1 7 rfl rfl, by decide +kernel, by decide +kernel, by decide +kernel⟩
theorem im_6_reads : Cond.instanceMethod yX6_reads ∈ GW := gw_t4 4 rfl rfl
theorem sl_6_reads : Cond.selects RX6 yX6_reads yX6_reads ∈ GW := gw_s3 2 rfl
theorem mw_6_number : MwOk yX6_number cX6_number 3 (some .boolean) 2 := ⟨gw_t4 35 rfl rfl, gw_t1 7 rfl rfl, by decide +kernel, by decide +kernel, by decide +kernel⟩
theorem im_6_number : Cond.instanceMethod yX6_number ∈ GW := gw_t4 34 rfl rfl
theorem sl_6_number : Cond.selects RX6 yX6_number yX6_number ∈ GW := gw_s3 7 rfl
theorem mw_6_itemEnds : MwOk yX6_itemEnds cX6_itemEnds 1 (some .boolean) 0 := ⟨gw_t4 39 rfl rfl, gw_t1 7 rfl rfl, by decide +kernel, by decide +kernel, by decide +kernel⟩
theorem im_6_itemEnds : Cond.instanceMethod yX6_itemEnds ∈ GW := gw_t4 38 rfl rfl
theorem sl_6_itemEnds : Cond.selects RX6 yX6_itemEnds yX6_itemEnds ∈ GW := gw_s3 8 rfl
theorem mw_6_plain : MwOk yX6_plain cX6_plain 2 none 0 := ⟨gw_t3 169 rfl rfl, gw_t1 7 rfl rfl, by decide +kernel, by decide +kernel, by decide +kernel⟩
theorem im_6_plain : Cond.instanceMethod yX6_plain ∈ GW := gw_t3 168 rfl rfl
theorem sl_6_plain : Cond.selects RX6 yX6_plain yX6_plain ∈ GW := gw_s3 0 rfl
theorem mw_6_readSeason : MwOk yX6_readSeason cX6_readSeason 4 (some .boolean) 0 := ⟨gw_t4 31 rfl rfl, gw_t1 7 rfl rfl, by decide +kernel, by decide +kernel, by decide +kernel⟩
theorem im_6_readSeason : Cond.instanceMethod yX6_readSeason ∈ GW := gw_t4 30 rfl rfl
theorem sl_6_readSeason : Cond.selects RX6 yX6_readSeason yX6_readSeason ∈ GW := gw_s3 6 rfl
theorem mw_6_readCrop : MwOk yX6_readCrop cX6_readCrop 2 (some .boolean) 0 := ⟨gw_t4 43 rfl rfl, gw_t1 7 rfl rfl, by decide +kernel, by decide +kernel, by decide +kernel⟩
theorem im_6_readCrop : Cond.instanceMethod yX6_readCrop ∈ GW := gw_t4 42 rfl rfl
theorem sl_6_readCrop : Cond.selects RX6 yX6_readCrop yX6_readCrop ∈ GW := gw_s3 9 rfl
theorem mw_6_once : MwOk yX6_once cX6_once 4 (some .boolean) 3 := ⟨gw_t4 47 rfl rfl, gw_t1 7 rfl rfl, by decide +kernel, by decide +kernel, by decide +kernel⟩
theorem im_6_once : Cond.instanceMethod yX6_once ∈ GW := gw_t4 46 rfl rfl
theorem sl_6_once : Cond.selects RX6 yX6_once yX6_once ∈ GW := gw_s3 10 rfl
theorem mw_6_readItem : MwOk yX6_readItem cX6_readItem 1 (some .boolean) 0 := ⟨gw_t4 27 rfl rfl, gw_t1 7 rfl rfl, by decide +kernel, by decide +kernel, by decide +kernel⟩
theorem im_6_readItem : Cond.instanceMethod yX6_readItem ∈ GW := gw_t4 26 rfl rfl
theorem sl_6_readItem : Cond.selects RX6 yX6_readItem yX6_readItem ∈ GW := gw_s3 5 rfl
theorem mw_6_valley : MwOk yX6_valley cX6_valley 2 (some .int) 0 := ⟨gw_t4 1 rfl rfl, gw_t1 7 rfl rfl, by decide +kernel, by decide +kernel, by decide +kernel⟩
theorem im_6_valley : Cond.instanceMethod yX6_valley ∈ GW := gw_t3 239 rfl rfl
theorem sl_6_valley : Cond.selects RX6 yX6_valley yX6_valley ∈ GW := gw_t4 0 rfl rfl
theorem mw_6_takes : MwOk yX6_takes cX6_takes 2 none 0 := ⟨gw_t3 173 rfl rfl, gw_t1 7 rfl rfl, by decide +kernel, by decide +kernel, by decide +kernel⟩
theorem im_6_takes : Cond.instanceMethod yX6_takes ∈ GW := gw_t3 172 rfl rfl
theorem sl_6_takes : Cond.selects RX6 yX6_takes yX6_takes ∈ GW := gw_s3 1 rfl
theorem mw_6_days : MwOk yX6_days cX6_days 1 (some .int) 0 := ⟨gw_t4 59 rfl rfl, gw_t1 7 rfl rfl, by decide +kernel, by decide +kernel, by decide +kernel⟩
theorem im_6_days : Cond.instanceMethod yX6_days ∈ GW := gw_t4 58 rfl rfl
theorem sl_6_days : Cond.selects RX6 yX6_days yX6_days ∈ GW := gw_s3 12 rfl
theorem mw_6_isDay : MwOk yX6_isDay cX6_isDay 2 (some .boolean) 1 := ⟨gw_t4 55 rfl rfl, gw_t1 7 rfl rfl, by decide +kernel, by decide +kernel, by decide +kernel⟩
theorem im_6_isDay : Cond.instanceMethod yX6_isDay ∈ GW := gw_t4 54 rfl rfl
theorem sl_6_isDay : Cond.selects RX6 yX6_isDay yX6_isDay ∈ GW := gw_s3 11 rfl
theorem mw_6_isCrop : MwOk yX6_isCrop cX6_isCrop 2 (some .boolean) 1 := ⟨gw_t4 72 rfl rfl, gw_t1 7 rfl rfl, by decide +kernel, by decide +kernel, by decide +kernel⟩
theorem im_6_isCrop : Cond.instanceMethod yX6_isCrop ∈ GW := gw_t4 71 rfl rfl
theorem sl_6_isCrop : Cond.selects RX6 yX6_isCrop yX6_isCrop ∈ GW := gw_s3 14 rfl
theorem mw_6_isLoan : MwOk yX6_isLoan cX6_isLoan 1 (some .boolean) 1 := ⟨gw_t4 92 rfl rfl, gw_t1 7 rfl rfl, by decide +kernel, by decide +kernel, by decide +kernel⟩
theorem st_6_isLoan : Cond.static yX6_isLoan ∈ GW := gw_t4 91 rfl rfl
theorem mw_6_loanDays : MwOk yX6_loanDays cX6_loanDays 2 (some .int) 1 := ⟨gw_t4 64 rfl rfl, gw_t1 7 rfl rfl, by decide +kernel, by decide +kernel, by decide +kernel⟩
theorem im_6_loanDays : Cond.instanceMethod yX6_loanDays ∈ GW := gw_t4 63 rfl rfl
theorem sl_6_loanDays : Cond.selects RX6 yX6_loanDays yX6_loanDays ∈ GW := gw_s3 13 rfl
theorem mw_6_lent : MwOk yX6_lent cX6_lent 2 (some .int) 1 := ⟨gw_t4 121 rfl rfl, gw_t1 7 rfl rfl, by decide +kernel, by decide +kernel, by decide +kernel⟩
theorem im_6_lent : Cond.instanceMethod yX6_lent ∈ GW := gw_t4 120 rfl rfl
theorem sl_6_lent : Cond.selects RX6 yX6_lent yX6_lent ∈ GW := gw_s4 5 rfl
theorem mw_6_out : MwOk yX6_out cX6_out 1 (some .int) 0 := ⟨gw_t4 81 rfl rfl, gw_t1 7 rfl rfl, by decide +kernel, by decide +kernel, by decide +kernel⟩
theorem im_6_out : Cond.instanceMethod yX6_out ∈ GW := gw_t4 80 rfl rfl
theorem sl_6_out : Cond.selects RX6 yX6_out yX6_out ∈ GW := gw_s4 0 rfl
theorem mw_6_notIn : MwOk yX6_notIn cX6_notIn 1 (some .int) 0 := ⟨gw_t4 77 rfl rfl, gw_t1 7 rfl rfl, by decide +kernel, by decide +kernel, by decide +kernel⟩
theorem im_6_notIn : Cond.instanceMethod yX6_notIn ∈ GW := gw_t4 76 rfl rfl
theorem sl_6_notIn : Cond.selects RX6 yX6_notIn yX6_notIn ∈ GW := gw_s3 15 rfl
theorem mw_6_ripens : MwOk yX6_ripens cX6_ripens 7 (some .int) 2 := ⟨gw_t4 85 rfl rfl, gw_t1 7 rfl rfl, by decide +kernel, by decide +kernel, by decide +kernel⟩
theorem im_6_ripens : Cond.instanceMethod yX6_ripens ∈ GW := gw_t4 84 rfl rfl
theorem sl_6_ripens : Cond.selects RX6 yX6_ripens yX6_ripens ∈ GW := gw_s4 1 rfl
theorem mw_6_worth : MwOk yX6_worth cX6_worth 2 (some .int) 1 := ⟨gw_t4 141 rfl rfl, gw_t1 7 rfl rfl, by decide +kernel, by decide +kernel, by decide +kernel⟩
theorem im_6_worth : Cond.instanceMethod yX6_worth ∈ GW := gw_t4 140 rfl rfl
theorem sl_6_worth : Cond.selects RX6 yX6_worth yX6_worth ∈ GW := gw_s4 9 rfl
theorem mw_6_harvest : MwOk yX6_harvest cX6_harvest 4 (some .int) 1 := ⟨gw_t4 137 rfl rfl, gw_t1 7 rfl rfl, by decide +kernel, by decide +kernel, by decide +kernel⟩
theorem im_6_harvest : Cond.instanceMethod yX6_harvest ∈ GW := gw_t4 136 rfl rfl
theorem sl_6_harvest : Cond.selects RX6 yX6_harvest yX6_harvest ∈ GW := gw_s4 8 rfl
theorem mw_6_day : MwOk yX6_day cX6_day 5 (some .int) 2 := ⟨gw_t4 51 rfl rfl, gw_t1 7 rfl rfl, by decide +kernel, by decide +kernel, by decide +kernel⟩
theorem im_6_day : Cond.instanceMethod yX6_day ∈ GW := gw_t4 49 rfl rfl
theorem sl_6_day : Cond.selects RX6 yX6_day yX6_day ∈ GW := gw_t4 50 rfl rfl
theorem mw_6_crop : MwOk yX6_crop cX6_crop 4 (some .int) 2 := ⟨gw_t4 68 rfl rfl, gw_t1 7 rfl rfl, by decide +kernel, by decide +kernel, by decide +kernel⟩
theorem im_6_crop : Cond.instanceMethod yX6_crop ∈ GW := gw_t4 66 rfl rfl
theorem sl_6_crop : Cond.selects RX6 yX6_crop yX6_crop ∈ GW := gw_t4 67 rfl rfl
theorem mw_6_loan : MwOk yX6_loan cX6_loan 3 (some .int) 2 := ⟨gw_t4 89 rfl rfl, gw_t1 7 rfl rfl, by decide +kernel, by decide +kernel, by decide +kernel⟩
theorem im_6_loan : Cond.instanceMethod yX6_loan ∈ GW := gw_t4 87 rfl rfl
theorem sl_6_loan : Cond.selects RX6 yX6_loan yX6_loan ∈ GW := gw_t4 88 rfl rfl
theorem mw_6_notes : MwOk yX6_notes cX6_notes 2 none 0 := ⟨gw_t4 109 rfl rfl, gw_t1 7 rfl rfl, by decide +kernel, by decide +kernel, by decide +kernel⟩
theorem im_6_notes : Cond.instanceMethod yX6_notes ∈ GW := gw_t4 108 rfl rfl
theorem sl_6_notes : Cond.selects RX6 yX6_notes yX6_notes ∈ GW := gw_s4 3 rfl
theorem mw_6_row : MwOk yX6_row cX6_row 2 (some .int) 2 := ⟨gw_t4 105 rfl rfl, gw_t1 7 rfl rfl, by decide +kernel, by decide +kernel, by decide +kernel⟩
theorem st_6_row : Cond.static yX6_row ∈ GW := gw_t4 104 rfl rfl
theorem mw_6_lendsOf : MwOk yX6_lendsOf cX6_lendsOf 5 (some .int) 2 := ⟨gw_t4 113 rfl rfl, gw_t1 7 rfl rfl, by decide +kernel, by decide +kernel, by decide +kernel⟩
theorem im_6_lendsOf : Cond.instanceMethod yX6_lendsOf ∈ GW := gw_t4 112 rfl rfl
theorem sl_6_lendsOf : Cond.selects RX6 yX6_lendsOf yX6_lendsOf ∈ GW := gw_s4 4 rfl
theorem mw_6_isFree : MwOk yX6_isFree cX6_isFree 3 (some .boolean) 2 := ⟨gw_t4 102 rfl rfl, gw_t1 7 rfl rfl, by decide +kernel, by decide +kernel, by decide +kernel⟩
theorem im_6_isFree : Cond.instanceMethod yX6_isFree ∈ GW := gw_t4 101 rfl rfl
theorem sl_6_isFree : Cond.selects RX6 yX6_isFree yX6_isFree ∈ GW := gw_s4 2 rfl
theorem mw_6_pawns : MwOk yX6_pawns cX6_pawns 5 (some .int) 2 := ⟨gw_t4 97 rfl rfl, gw_t1 7 rfl rfl, by decide +kernel, by decide +kernel, by decide +kernel⟩
theorem im_6_pawns : Cond.instanceMethod yX6_pawns ∈ GW := gw_t4 95 rfl rfl
theorem sl_6_pawns : Cond.selects RX6 yX6_pawns yX6_pawns ∈ GW := gw_t4 96 rfl rfl
theorem mw_6_frees : MwOk yX6_frees cX6_frees 3 none 1 := ⟨gw_t4 125 rfl rfl, gw_t1 7 rfl rfl, by decide +kernel, by decide +kernel, by decide +kernel⟩
theorem im_6_frees : Cond.instanceMethod yX6_frees ∈ GW := gw_t4 124 rfl rfl
theorem sl_6_frees : Cond.selects RX6 yX6_frees yX6_frees ∈ GW := gw_s4 6 rfl
theorem mw_6_redeems : MwOk yX6_redeems cX6_redeems 2 (some .int) 1 := ⟨gw_t4 117 rfl rfl, gw_t1 7 rfl rfl, by decide +kernel, by decide +kernel, by decide +kernel⟩
theorem im_6_redeems : Cond.instanceMethod yX6_redeems ∈ GW := gw_t4 115 rfl rfl
theorem sl_6_redeems : Cond.selects RX6 yX6_redeems yX6_redeems ∈ GW := gw_t4 116 rfl rfl
theorem mw_6_goesBy : MwOk yX6_goesBy cX6_goesBy 3 (some .int) 0 := ⟨gw_t4 133 rfl rfl, gw_t1 7 rfl rfl, by decide +kernel, by decide +kernel, by decide +kernel⟩
theorem im_6_goesBy : Cond.instanceMethod yX6_goesBy ∈ GW := gw_t4 132 rfl rfl
theorem sl_6_goesBy : Cond.selects RX6 yX6_goesBy yX6_goesBy ∈ GW := gw_s4 7 rfl
theorem mw_6_ages : MwOk yX6_ages cX6_ages 5 none 1 := ⟨gw_t4 145 rfl rfl, gw_t1 7 rfl rfl, by decide +kernel, by decide +kernel, by decide +kernel⟩
theorem im_6_ages : Cond.instanceMethod yX6_ages ∈ GW := gw_t4 144 rfl rfl
theorem sl_6_ages : Cond.selects RX6 yX6_ages yX6_ages ∈ GW := gw_s4 10 rfl
theorem mw_6_year : MwOk yX6_year cX6_year 1 (some .int) 0 := ⟨gw_t4 129 rfl rfl, gw_t1 7 rfl rfl, by decide +kernel, by decide +kernel, by decide +kernel⟩
theorem im_6_year : Cond.instanceMethod yX6_year ∈ GW := gw_t4 127 rfl rfl
theorem sl_6_year : Cond.selects RX6 yX6_year yX6_year ∈ GW := gw_t4 128 rfl rfl
theorem mw_6_undo : MwOk yX6_undo cX6_undo 2 (some .int) 0 := ⟨gw_t4 149 rfl rfl, gw_t1 7 rfl rfl, by decide +kernel, by decide +kernel, by decide +kernel⟩
theorem im_6_undo : Cond.instanceMethod yX6_undo ∈ GW := gw_t4 147 rfl rfl
theorem sl_6_undo : Cond.selects RX6 yX6_undo yX6_undo ∈ GW := gw_t4 148 rfl rfl
theorem mw_6_gap : MwOk yX6_gap cX6_gap 4 (some .int) 0 := ⟨gw_t4 157 rfl rfl, gw_t1 7 rfl rfl, by decide +kernel, by decide +kernel, by decide +kernel⟩
theorem im_6_gap : Cond.instanceMethod yX6_gap ∈ GW := gw_t4 156 rfl rfl
theorem sl_6_gap : Cond.selects RX6 yX6_gap yX6_gap ∈ GW := gw_s4 11 rfl
theorem mw_6_now : MwOk yX6_now cX6_now 2 (some .int) 1 := ⟨gw_t4 153 rfl rfl, gw_t1 7 rfl rfl, by decide +kernel, by decide +kernel, by decide +kernel⟩
theorem im_6_now : Cond.instanceMethod yX6_now ∈ GW := gw_t4 151 rfl rfl
theorem sl_6_now : Cond.selects RX6 yX6_now yX6_now ∈ GW := gw_t4 152 rfl rfl
theorem mw_6_lends : MwOk yX6_lends cX6_lends 3 (some .int) 2 := ⟨gw_t4 161 rfl rfl, gw_t1 7 rfl rfl, by decide +kernel, by decide +kernel, by decide +kernel⟩
theorem im_6_lends : Cond.instanceMethod yX6_lends ∈ GW := gw_t4 159 rfl rfl
theorem sl_6_lends : Cond.selects RX6 yX6_lends yX6_lends ∈ GW := gw_t4 160 rfl rfl
theorem mw_6_cheap : MwOk yX6_cheap cX6_cheap 10 (some .int) 2 := ⟨gw_t4 165 rfl rfl, gw_t1 7 rfl rfl, by decide +kernel, by decide +kernel, by decide +kernel⟩
theorem im_6_cheap : Cond.instanceMethod yX6_cheap ∈ GW := gw_t4 163 rfl rfl
theorem sl_6_cheap : Cond.selects RX6 yX6_cheap yX6_cheap ∈ GW := gw_t4 164 rfl rfl
theorem mw_6_freeing : MwOk yX6_freeing cX6_freeing 11 (some .int) 1 := ⟨gw_t4 170 rfl rfl, gw_t1 7 rfl rfl, by decide +kernel, by decide +kernel, by decide +kernel⟩
theorem im_6_freeing : Cond.instanceMethod yX6_freeing ∈ GW := gw_t4 168 rfl rfl
theorem sl_6_freeing : Cond.selects RX6 yX6_freeing yX6_freeing ∈ GW := gw_t4 169 rfl rfl
theorem mw_6_asides : MwOk yX6_asides cX6_asides 2 none 0 := ⟨gw_t4 179 rfl rfl, gw_t1 7 rfl rfl, by decide +kernel, by decide +kernel, by decide +kernel⟩
theorem im_6_asides : Cond.instanceMethod yX6_asides ∈ GW := gw_t4 178 rfl rfl
theorem sl_6_asides : Cond.selects RX6 yX6_asides yX6_asides ∈ GW := gw_s4 12 rfl
theorem mw_6_backs : MwOk yX6_backs cX6_backs 2 none 0 := ⟨gw_t4 183 rfl rfl, gw_t1 7 rfl rfl, by decide +kernel, by decide +kernel, by decide +kernel⟩
theorem im_6_backs : Cond.instanceMethod yX6_backs ∈ GW := gw_t4 182 rfl rfl
theorem sl_6_backs : Cond.selects RX6 yX6_backs yX6_backs ∈ GW := gw_s4 13 rfl
theorem mw_6_rich : MwOk yX6_rich cX6_rich 3 (some .int) 1 := ⟨gw_t4 174 rfl rfl, gw_t1 7 rfl rfl, by decide +kernel, by decide +kernel, by decide +kernel⟩
theorem im_6_rich : Cond.instanceMethod yX6_rich ∈ GW := gw_t4 172 rfl rfl
theorem sl_6_rich : Cond.selects RX6 yX6_rich yX6_rich ∈ GW := gw_t4 173 rfl rfl
theorem mw_6_isBare : MwOk yX6_isBare cX6_isBare 3 (some .boolean) 0 := ⟨gw_t4 191 rfl rfl, gw_t1 7 rfl rfl, by decide +kernel, by decide +kernel, by decide +kernel⟩
theorem im_6_isBare : Cond.instanceMethod yX6_isBare ∈ GW := gw_t4 190 rfl rfl
theorem sl_6_isBare : Cond.selects RX6 yX6_isBare yX6_isBare ∈ GW := gw_s4 14 rfl
theorem mw_6_bare : MwOk yX6_bare cX6_bare 2 (some .int) 0 := ⟨gw_t4 187 rfl rfl, gw_t1 7 rfl rfl, by decide +kernel, by decide +kernel, by decide +kernel⟩
theorem im_6_bare : Cond.instanceMethod yX6_bare ∈ GW := gw_t4 185 rfl rfl
theorem sl_6_bare : Cond.selects RX6 yX6_bare yX6_bare ∈ GW := gw_t4 186 rfl rfl
theorem mw_6_tells : MwOk yX6_tells cX6_tells 3 (some .int) 2 := ⟨gw_t4 195 rfl rfl, gw_t1 7 rfl rfl, by decide +kernel, by decide +kernel, by decide +kernel⟩
theorem im_6_tells : Cond.instanceMethod yX6_tells ∈ GW := gw_t4 193 rfl rfl
theorem sl_6_tells : Cond.selects RX6 yX6_tells yX6_tells ∈ GW := gw_t4 194 rfl rfl
theorem mw_6_forget : MwOk yX6_forget cX6_forget 2 (some .int) 0 := ⟨gw_t4 199 rfl rfl, gw_t1 7 rfl rfl, by decide +kernel, by decide +kernel, by decide +kernel⟩
theorem im_6_forget : Cond.instanceMethod yX6_forget ∈ GW := gw_t4 197 rfl rfl
theorem sl_6_forget : Cond.selects RX6 yX6_forget yX6_forget ∈ GW := gw_t4 198 rfl rfl
theorem mw_6_isSo : MwOk yX6_isSo cX6_isSo 4 (some .boolean) 1 := ⟨gw_t4 207 rfl rfl, gw_t1 7 rfl rfl, by decide +kernel, by decide +kernel, by decide +kernel⟩
theorem im_6_isSo : Cond.instanceMethod yX6_isSo ∈ GW := gw_t4 206 rfl rfl
theorem sl_6_isSo : Cond.selects RX6 yX6_isSo yX6_isSo ∈ GW := gw_s4 15 rfl
theorem mw_6_fits : MwOk yX6_fits cX6_fits 7 (some .int) 1 := ⟨gw_t4 203 rfl rfl, gw_t1 7 rfl rfl, by decide +kernel, by decide +kernel, by decide +kernel⟩
theorem im_6_fits : Cond.instanceMethod yX6_fits ∈ GW := gw_t4 201 rfl rfl
theorem sl_6_fits : Cond.selects RX6 yX6_fits yX6_fits ∈ GW := gw_t4 202 rfl rfl
theorem mw_6_odds : MwOk yX6_odds cX6_odds 12 (some .int) 3 := ⟨gw_t4 211 rfl rfl, gw_t1 7 rfl rfl, by decide +kernel, by decide +kernel, by decide +kernel⟩
theorem im_6_odds : Cond.instanceMethod yX6_odds ∈ GW := gw_t4 209 rfl rfl
theorem sl_6_odds : Cond.selects RX6 yX6_odds yX6_odds ∈ GW := gw_t4 210 rfl rfl
theorem mw_6_mark : MwOk yX6_mark cX6_mark 4 (some .int) 2 := ⟨gw_t4 216 rfl rfl, gw_t1 7 rfl rfl, by decide +kernel, by decide +kernel, by decide +kernel⟩
theorem im_6_mark : Cond.instanceMethod yX6_mark ∈ GW := gw_t4 214 rfl rfl
theorem sl_6_mark : Cond.selects RX6 yX6_mark yX6_mark ∈ GW := gw_t4 215 rfl rfl
theorem mw_6_trace : MwOk yX6_trace cX6_trace 1 (some .long) 0 := ⟨gw_t4 227 rfl rfl, gw_t1 7 rfl rfl, by decide +kernel, by decide +kernel, by decide +kernel⟩
theorem im_6_trace : Cond.instanceMethod yX6_trace ∈ GW := gw_t4 225 rfl rfl
theorem sl_6_trace : Cond.selects RX6 yX6_trace yX6_trace ∈ GW := gw_t4 226 rfl rfl
theorem mw_6_keep : MwOk yX6_keep cX6_keep 4 (some .int) 1 := ⟨gw_t4 231 rfl rfl, gw_t1 7 rfl rfl, by decide +kernel, by decide +kernel, by decide +kernel⟩
theorem im_6_keep : Cond.instanceMethod yX6_keep ∈ GW := gw_t4 229 rfl rfl
theorem sl_6_keep : Cond.selects RX6 yX6_keep yX6_keep ∈ GW := gw_t4 230 rfl rfl
theorem mw_6_back : MwOk yX6_back cX6_back 4 (some .int) 1 := ⟨gw_t4 235 rfl rfl, gw_t1 7 rfl rfl, by decide +kernel, by decide +kernel, by decide +kernel⟩
theorem im_6_back : Cond.instanceMethod yX6_back ∈ GW := gw_t4 233 rfl rfl
theorem sl_6_back : Cond.selects RX6 yX6_back yX6_back ∈ GW := gw_t4 234 rfl rfl
theorem mw_6_count : MwOk yX6_count cX6_count 2 (some .int) 1 := ⟨gw_t4 239 rfl rfl, gw_t1 7 rfl rfl, by decide +kernel, by decide +kernel, by decide +kernel⟩
theorem im_6_count : Cond.instanceMethod yX6_count ∈ GW := gw_t4 237 rfl rfl
theorem sl_6_count : Cond.selects RX6 yX6_count yX6_count ∈ GW := gw_t4 238 rfl rfl
theorem st_max : Cond.static Lib.Math.max.name ∈ GW := gw_t3 32 rfl rfl
theorem cw_max : Cond.code Lib.Math.max.name Lib.Math.max.code 2 (some .int) ∈ GW := gw_t3 33 rfl rfl
theorem st_min : Cond.static Lib.Math.min.name ∈ GW := gw_t2 34 rfl rfl
theorem cw_min : Cond.code Lib.Math.min.name Lib.Math.min.code 2 (some .int) ∈ GW := gw_t2 35 rfl rfl
theorem in_math : Cond.initialized "java/lang/Math" ∈ GW := gw_t1 8 rfl rfl
theorem inG0 : ∀ w ∈ u_ws RX0 TX0 11, w ∈ GW := by decide +kernel
theorem inG1 : ∀ w ∈ u_ws RX1 TX1 6, w ∈ GW := by decide +kernel
theorem inG2 : ∀ w ∈ u_ws RX2 TX2 6, w ∈ GW := by decide +kernel
theorem inG3 : ∀ w ∈ u_ws RX3 TX3 3, w ∈ GW := by decide +kernel
theorem inG4 : ∀ w ∈ u_ws RX4 TX4 6, w ∈ GW := by decide +kernel
theorem inG5 : ∀ w ∈ u_ws RX5 TX5 10, w ∈ GW := by decide +kernel
theorem inG6 : ∀ w ∈ u_ws RX6 TX6 17, w ∈ GW := by decide +kernel
end
