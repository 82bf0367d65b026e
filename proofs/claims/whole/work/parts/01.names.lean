-- ===== PART A: goes FIRST, ahead of the names: the tables' words, and 'selects' of the private methods out of them =====
/-- a private method of a class that the tables say can be made, by its rows of tables_1 -/
def lw_okq (q : MethodName × Nat) : Prop := (q.1.cls ≠ "java/lang/invoke/MethodHandle" ∧ q.1.cls ≠ "java/lang/invoke/VarHandle") ∧ Cond.instantiable q.1.cls q.2 ∈ tables_1 ∧ Cond.privateMethod q.1 ∈ tables_1 ∧ Cond.instanceMethod q.1 ∈ tables_1
theorem lw_p0 : lw_okq (⟨"FarBoards", "begin", "(II)V"⟩, 10) := ⟨⟨by decide +kernel, by decide +kernel⟩, List.mem_of_getElem? (i := 15) (by decide +kernel), List.mem_of_getElem? (i := 240) (by decide +kernel), List.mem_of_getElem? (i := 241) (by decide +kernel)⟩
theorem lw_p1 : lw_okq (⟨"FarBoards$Ground", "addCell", "(III)V"⟩, 11) := ⟨⟨by decide +kernel, by decide +kernel⟩, List.mem_of_getElem? (i := 43) (by decide +kernel), List.mem_of_getElem? (i := 249) (by decide +kernel), List.mem_of_getElem? (i := 250) (by decide +kernel)⟩
theorem lw_p2 : lw_okq (⟨"FarBoards$Ground", "addFirstRing", "()V"⟩, 11) := ⟨⟨by decide +kernel, by decide +kernel⟩, List.mem_of_getElem? (i := 43) (by decide +kernel), List.mem_of_getElem? (i := 253) (by decide +kernel), List.mem_of_getElem? (i := 254) (by decide +kernel)⟩
theorem lw_p3 : lw_okq (⟨"FarBoards$Ground", "addRing", "(I)V"⟩, 11) := ⟨⟨by decide +kernel, by decide +kernel⟩, List.mem_of_getElem? (i := 43) (by decide +kernel), List.mem_of_getElem? (i := 257) (by decide +kernel), List.mem_of_getElem? (i := 258) (by decide +kernel)⟩
theorem lw_p4 : lw_okq (⟨"FarBoards$Ground", "ownOf", "(I)I"⟩, 11) := ⟨⟨by decide +kernel, by decide +kernel⟩, List.mem_of_getElem? (i := 43) (by decide +kernel), List.mem_of_getElem? (i := 261) (by decide +kernel), List.mem_of_getElem? (i := 262) (by decide +kernel)⟩
theorem lw_p5 : lw_okq (⟨"FarBoards$Ground", "behind", "(I)I"⟩, 11) := ⟨⟨by decide +kernel, by decide +kernel⟩, List.mem_of_getElem? (i := 43) (by decide +kernel), List.mem_of_getElem? (i := 269) (by decide +kernel), List.mem_of_getElem? (i := 270) (by decide +kernel)⟩
theorem lw_p6 : lw_okq (⟨"FarBoards$Ground", "listRound", "(I)V"⟩, 11) := ⟨⟨by decide +kernel, by decide +kernel⟩, List.mem_of_getElem? (i := 43) (by decide +kernel), List.mem_of_getElem? (i := 273) (by decide +kernel), List.mem_of_getElem? (i := 274) (by decide +kernel)⟩
theorem lw_p7 : lw_okq (⟨"FarBoards$Ground", "listRoundTheFirst", "()V"⟩, 11) := ⟨⟨by decide +kernel, by decide +kernel⟩, List.mem_of_getElem? (i := 43) (by decide +kernel), List.mem_of_getElem? (i := 277) (by decide +kernel), List.mem_of_getElem? (i := 278) (by decide +kernel)⟩
theorem lw_p8 : lw_okq (⟨"FarBoards$Ground", "list", "(I)V"⟩, 11) := ⟨⟨by decide +kernel, by decide +kernel⟩, List.mem_of_getElem? (i := 43) (by decide +kernel), List.mem_of_getElem? (i := 281) (by decide +kernel), List.mem_of_getElem? (i := 282) (by decide +kernel)⟩
theorem lw_p9 : lw_okq (⟨"FarBoards$Ground", "listChildren", "(I)V"⟩, 11) := ⟨⟨by decide +kernel, by decide +kernel⟩, List.mem_of_getElem? (i := 43) (by decide +kernel), List.mem_of_getElem? (i := 285) (by decide +kernel), List.mem_of_getElem? (i := 286) (by decide +kernel)⟩
theorem lw_p10 : lw_okq (⟨"FarBoards$Ground", "ahead", "(I)I"⟩, 11) := ⟨⟨by decide +kernel, by decide +kernel⟩, List.mem_of_getElem? (i := 43) (by decide +kernel), List.mem_of_getElem? (i := 289) (by decide +kernel), List.mem_of_getElem? (i := 290) (by decide +kernel)⟩
theorem lw_p11 : lw_okq (⟨"FarBoards", "finding", "(I)I"⟩, 10) := ⟨⟨by decide +kernel, by decide +kernel⟩, List.mem_of_getElem? (i := 15) (by decide +kernel), List.mem_of_getElem? (i := 347) (by decide +kernel), List.mem_of_getElem? (i := 348) (by decide +kernel)⟩
theorem lw_p12 : lw_okq (⟨"FarBoards", "sound", "(I)I"⟩, 10) := ⟨⟨by decide +kernel, by decide +kernel⟩, List.mem_of_getElem? (i := 15) (by decide +kernel), List.mem_of_getElem? (i := 356) (by decide +kernel), List.mem_of_getElem? (i := 357) (by decide +kernel)⟩
theorem lw_p13 : lw_okq (⟨"FarBoards$Ways", "reachFrom", "(II)I"⟩, 6) := ⟨⟨by decide +kernel, by decide +kernel⟩, List.mem_of_getElem? (i := 103) (by decide +kernel), List.mem_of_getElem? (i := 466) (by decide +kernel), List.mem_of_getElem? (i := 467) (by decide +kernel)⟩
theorem lw_p14 : lw_okq (⟨"FarBoards$Ways", "nearer", "(I)I"⟩, 6) := ⟨⟨by decide +kernel, by decide +kernel⟩, List.mem_of_getElem? (i := 103) (by decide +kernel), List.mem_of_getElem? (i := 480) (by decide +kernel), List.mem_of_getElem? (i := 481) (by decide +kernel)⟩
theorem lw_p15 : lw_okq (⟨"FarBoards$Ways", "walksInto", "(I)I"⟩, 6) := ⟨⟨by decide +kernel, by decide +kernel⟩, List.mem_of_getElem? (i := 103) (by decide +kernel), List.mem_of_getElem? (i := 492) (by decide +kernel), List.mem_of_getElem? (i := 493) (by decide +kernel)⟩
def lw_privs_1 : List (MethodName × Nat) := [(⟨"FarBoards", "begin", "(II)V"⟩, 10), (⟨"FarBoards$Ground", "addCell", "(III)V"⟩, 11), (⟨"FarBoards$Ground", "addFirstRing", "()V"⟩, 11), (⟨"FarBoards$Ground", "addRing", "(I)V"⟩, 11), (⟨"FarBoards$Ground", "ownOf", "(I)I"⟩, 11), (⟨"FarBoards$Ground", "behind", "(I)I"⟩, 11), (⟨"FarBoards$Ground", "listRound", "(I)V"⟩, 11), (⟨"FarBoards$Ground", "listRoundTheFirst", "()V"⟩, 11), (⟨"FarBoards$Ground", "list", "(I)V"⟩, 11), (⟨"FarBoards$Ground", "listChildren", "(I)V"⟩, 11), (⟨"FarBoards$Ground", "ahead", "(I)I"⟩, 11), (⟨"FarBoards", "finding", "(I)I"⟩, 10), (⟨"FarBoards", "sound", "(I)I"⟩, 10), (⟨"FarBoards$Ways", "reachFrom", "(II)I"⟩, 6), (⟨"FarBoards$Ways", "nearer", "(I)I"⟩, 6), (⟨"FarBoards$Ways", "walksInto", "(I)I"⟩, 6)]
theorem lw_r1 : ∀ q ∈ lw_privs_1, lw_okq q := List.forall_mem_cons.mpr ⟨lw_p0, List.forall_mem_cons.mpr ⟨lw_p1, List.forall_mem_cons.mpr ⟨lw_p2, List.forall_mem_cons.mpr ⟨lw_p3, List.forall_mem_cons.mpr ⟨lw_p4, List.forall_mem_cons.mpr ⟨lw_p5, List.forall_mem_cons.mpr ⟨lw_p6, List.forall_mem_cons.mpr ⟨lw_p7, List.forall_mem_cons.mpr ⟨lw_p8, List.forall_mem_cons.mpr ⟨lw_p9, List.forall_mem_cons.mpr ⟨lw_p10, List.forall_mem_cons.mpr ⟨lw_p11, List.forall_mem_cons.mpr ⟨lw_p12, List.forall_mem_cons.mpr ⟨lw_p13, List.forall_mem_cons.mpr ⟨lw_p14, List.forall_mem_cons.mpr ⟨lw_p15, fun _ h => absurd h List.not_mem_nil⟩⟩⟩⟩⟩⟩⟩⟩⟩⟩⟩⟩⟩⟩⟩⟩
theorem lw_p16 : lw_okq (⟨"FarBoards$Tape", "faultAt", "(IIZ)I"⟩, 6) := ⟨⟨by decide +kernel, by decide +kernel⟩, List.mem_of_getElem? (i := 156) (by decide +kernel), List.mem_of_getElem? (i := 531) (by decide +kernel), List.mem_of_getElem? (i := 532) (by decide +kernel)⟩
theorem lw_p17 : lw_okq (⟨"FarBoards$Tape", "numberFault", "(IZ)I"⟩, 6) := ⟨⟨by decide +kernel, by decide +kernel⟩, List.mem_of_getElem? (i := 156) (by decide +kernel), List.mem_of_getElem? (i := 538) (by decide +kernel), List.mem_of_getElem? (i := 539) (by decide +kernel)⟩
theorem lw_p18 : lw_okq (⟨"FarBoards$Tape", "figuresFrom", "(I)I"⟩, 6) := ⟨⟨by decide +kernel, by decide +kernel⟩, List.mem_of_getElem? (i := 156) (by decide +kernel), List.mem_of_getElem? (i := 542) (by decide +kernel), List.mem_of_getElem? (i := 543) (by decide +kernel)⟩
theorem lw_p19 : lw_okq (⟨"FarBoards$Tape", "numberAt", "(I)I"⟩, 6) := ⟨⟨by decide +kernel, by decide +kernel⟩, List.mem_of_getElem? (i := 156) (by decide +kernel), List.mem_of_getElem? (i := 546) (by decide +kernel), List.mem_of_getElem? (i := 547) (by decide +kernel)⟩
theorem lw_p20 : lw_okq (⟨"FarBoards$Tape", "open", "(III)V"⟩, 6) := ⟨⟨by decide +kernel, by decide +kernel⟩, List.mem_of_getElem? (i := 156) (by decide +kernel), List.mem_of_getElem? (i := 564) (by decide +kernel), List.mem_of_getElem? (i := 565) (by decide +kernel)⟩
theorem lw_p21 : lw_okq (⟨"FarBoards$Tape", "close", "(II)I"⟩, 6) := ⟨⟨by decide +kernel, by decide +kernel⟩, List.mem_of_getElem? (i := 156) (by decide +kernel), List.mem_of_getElem? (i := 568) (by decide +kernel), List.mem_of_getElem? (i := 569) (by decide +kernel)⟩
theorem lw_p22 : lw_okq (⟨"FarBoards$Tape", "repeat", "(III)I"⟩, 6) := ⟨⟨by decide +kernel, by decide +kernel⟩, List.mem_of_getElem? (i := 156) (by decide +kernel), List.mem_of_getElem? (i := 572) (by decide +kernel), List.mem_of_getElem? (i := 573) (by decide +kernel)⟩
theorem lw_p23 : lw_okq (⟨"FarBoards$Tape", "add", "(BII)I"⟩, 6) := ⟨⟨by decide +kernel, by decide +kernel⟩, List.mem_of_getElem? (i := 156) (by decide +kernel), List.mem_of_getElem? (i := 576) (by decide +kernel), List.mem_of_getElem? (i := 577) (by decide +kernel)⟩
theorem lw_p24 : lw_okq (⟨"FarBoards$Mouse", "forward", "()V"⟩, 5) := ⟨⟨by decide +kernel, by decide +kernel⟩, List.mem_of_getElem? (i := 130) (by decide +kernel), List.mem_of_getElem? (i := 585) (by decide +kernel), List.mem_of_getElem? (i := 586) (by decide +kernel)⟩
theorem lw_p25 : lw_okq (⟨"FarBoards$Colours", "clash", "(II)Z"⟩, 4) := ⟨⟨by decide +kernel, by decide +kernel⟩, List.mem_of_getElem? (i := 185) (by decide +kernel), List.mem_of_getElem? (i := 624) (by decide +kernel), List.mem_of_getElem? (i := 625) (by decide +kernel)⟩
theorem lw_p26 : lw_okq (⟨"FarBoards", "isCountable", "(II)Z"⟩, 10) := ⟨⟨by decide +kernel, by decide +kernel⟩, List.mem_of_getElem? (i := 15) (by decide +kernel), List.mem_of_getElem? (i := 633) (by decide +kernel), List.mem_of_getElem? (i := 634) (by decide +kernel)⟩
theorem lw_p27 : lw_okq (⟨"FarBoards$Colours", "prepare", "(I)V"⟩, 4) := ⟨⟨by decide +kernel, by decide +kernel⟩, List.mem_of_getElem? (i := 185) (by decide +kernel), List.mem_of_getElem? (i := 641) (by decide +kernel), List.mem_of_getElem? (i := 642) (by decide +kernel)⟩
theorem lw_p28 : lw_okq (⟨"FarBoards$Life", "livingBeside", "(I)I"⟩, 3) := ⟨⟨by decide +kernel, by decide +kernel⟩, List.mem_of_getElem? (i := 205) (by decide +kernel), List.mem_of_getElem? (i := 674) (by decide +kernel), List.mem_of_getElem? (i := 675) (by decide +kernel)⟩
theorem lw_p29 : lw_okq (⟨"FarBoards", "isTurn", "(I)Z"⟩, 10) := ⟨⟨by decide +kernel, by decide +kernel⟩, List.mem_of_getElem? (i := 15) (by decide +kernel), List.mem_of_getElem? (i := 694) (by decide +kernel), List.mem_of_getElem? (i := 695) (by decide +kernel)⟩
theorem lw_p30 : lw_okq (⟨"FarBoards$Ground", "sizeOf", "(I)I"⟩, 11) := ⟨⟨by decide +kernel, by decide +kernel⟩, List.mem_of_getElem? (i := 43) (by decide +kernel), List.mem_of_getElem? (i := 707) (by decide +kernel), List.mem_of_getElem? (i := 708) (by decide +kernel)⟩
theorem lw_p31 : lw_okq (⟨"FarBoards$Asks", "answer", "(III)I"⟩, 3) := ⟨⟨by decide +kernel, by decide +kernel⟩, List.mem_of_getElem? (i := 222) (by decide +kernel), List.mem_of_getElem? (i := 745) (by decide +kernel), List.mem_of_getElem? (i := 746) (by decide +kernel)⟩
def lw_privs_2 : List (MethodName × Nat) := [(⟨"FarBoards$Tape", "faultAt", "(IIZ)I"⟩, 6), (⟨"FarBoards$Tape", "numberFault", "(IZ)I"⟩, 6), (⟨"FarBoards$Tape", "figuresFrom", "(I)I"⟩, 6), (⟨"FarBoards$Tape", "numberAt", "(I)I"⟩, 6), (⟨"FarBoards$Tape", "open", "(III)V"⟩, 6), (⟨"FarBoards$Tape", "close", "(II)I"⟩, 6), (⟨"FarBoards$Tape", "repeat", "(III)I"⟩, 6), (⟨"FarBoards$Tape", "add", "(BII)I"⟩, 6), (⟨"FarBoards$Mouse", "forward", "()V"⟩, 5), (⟨"FarBoards$Colours", "clash", "(II)Z"⟩, 4), (⟨"FarBoards", "isCountable", "(II)Z"⟩, 10), (⟨"FarBoards$Colours", "prepare", "(I)V"⟩, 4), (⟨"FarBoards$Life", "livingBeside", "(I)I"⟩, 3), (⟨"FarBoards", "isTurn", "(I)Z"⟩, 10), (⟨"FarBoards$Ground", "sizeOf", "(I)I"⟩, 11), (⟨"FarBoards$Asks", "answer", "(III)I"⟩, 3)]
theorem lw_r2 : ∀ q ∈ lw_privs_2, lw_okq q := List.forall_mem_cons.mpr ⟨lw_p16, List.forall_mem_cons.mpr ⟨lw_p17, List.forall_mem_cons.mpr ⟨lw_p18, List.forall_mem_cons.mpr ⟨lw_p19, List.forall_mem_cons.mpr ⟨lw_p20, List.forall_mem_cons.mpr ⟨lw_p21, List.forall_mem_cons.mpr ⟨lw_p22, List.forall_mem_cons.mpr ⟨lw_p23, List.forall_mem_cons.mpr ⟨lw_p24, List.forall_mem_cons.mpr ⟨lw_p25, List.forall_mem_cons.mpr ⟨lw_p26, List.forall_mem_cons.mpr ⟨lw_p27, List.forall_mem_cons.mpr ⟨lw_p28, List.forall_mem_cons.mpr ⟨lw_p29, List.forall_mem_cons.mpr ⟨lw_p30, List.forall_mem_cons.mpr ⟨lw_p31, fun _ h => absurd h List.not_mem_nil⟩⟩⟩⟩⟩⟩⟩⟩⟩⟩⟩⟩⟩⟩⟩⟩
theorem lw_p32 : lw_okq (⟨"FarBoards$Asks", "sizeAsked", "(II)I"⟩, 3) := ⟨⟨by decide +kernel, by decide +kernel⟩, List.mem_of_getElem? (i := 222) (by decide +kernel), List.mem_of_getElem? (i := 749) (by decide +kernel), List.mem_of_getElem? (i := 750) (by decide +kernel)⟩
theorem lw_p33 : lw_okq (⟨"FarBoards$Asks", "enter", "(I)V"⟩, 3) := ⟨⟨by decide +kernel, by decide +kernel⟩, List.mem_of_getElem? (i := 222) (by decide +kernel), List.mem_of_getElem? (i := 754) (by decide +kernel), List.mem_of_getElem? (i := 755) (by decide +kernel)⟩
theorem lw_p34 : lw_okq (⟨"FarBoards$Asks", "lentSize", "(I)I"⟩, 3) := ⟨⟨by decide +kernel, by decide +kernel⟩, List.mem_of_getElem? (i := 222) (by decide +kernel), List.mem_of_getElem? (i := 758) (by decide +kernel), List.mem_of_getElem? (i := 759) (by decide +kernel)⟩
theorem lw_p35 : lw_okq (⟨"FarBoards$Asks", "markAsked", "(II)I"⟩, 3) := ⟨⟨by decide +kernel, by decide +kernel⟩, List.mem_of_getElem? (i := 222) (by decide +kernel), List.mem_of_getElem? (i := 766) (by decide +kernel), List.mem_of_getElem? (i := 767) (by decide +kernel)⟩
theorem lw_p36 : lw_okq (⟨"FarBoards$Asks", "lentMark", "(I)I"⟩, 3) := ⟨⟨by decide +kernel, by decide +kernel⟩, List.mem_of_getElem? (i := 222) (by decide +kernel), List.mem_of_getElem? (i := 770) (by decide +kernel), List.mem_of_getElem? (i := 771) (by decide +kernel)⟩
theorem lw_p37 : lw_okq (⟨"FarBoardsModel", "build", "(II)V"⟩, 40) := ⟨⟨by decide +kernel, by decide +kernel⟩, List.mem_of_getElem? (i := 796) (by decide +kernel), List.mem_of_getElem? (i := 802) (by decide +kernel), List.mem_of_getElem? (i := 803) (by decide +kernel)⟩
theorem lw_p38 : lw_okq (⟨"FarBoardsModel", "add", "(III)V"⟩, 40) := ⟨⟨by decide +kernel, by decide +kernel⟩, List.mem_of_getElem? (i := 796) (by decide +kernel), List.mem_of_getElem? (i := 807) (by decide +kernel), List.mem_of_getElem? (i := 808) (by decide +kernel)⟩
theorem lw_p39 : lw_okq (⟨"FarBoardsModel", "parents", "(I)I"⟩, 40) := ⟨⟨by decide +kernel, by decide +kernel⟩, List.mem_of_getElem? (i := 796) (by decide +kernel), List.mem_of_getElem? (i := 811) (by decide +kernel), List.mem_of_getElem? (i := 812) (by decide +kernel)⟩
theorem lw_p40 : lw_okq (⟨"FarBoardsModel", "lay", "()V"⟩, 40) := ⟨⟨by decide +kernel, by decide +kernel⟩, List.mem_of_getElem? (i := 796) (by decide +kernel), List.mem_of_getElem? (i := 815) (by decide +kernel), List.mem_of_getElem? (i := 816) (by decide +kernel)⟩
theorem lw_p41 : lw_okq (⟨"FarBoardsModel", "round", "(II)I"⟩, 40) := ⟨⟨by decide +kernel, by decide +kernel⟩, List.mem_of_getElem? (i := 796) (by decide +kernel), List.mem_of_getElem? (i := 819) (by decide +kernel), List.mem_of_getElem? (i := 820) (by decide +kernel)⟩
theorem lw_p42 : lw_okq (⟨"FarBoardsModel", "ringEnd", "(I)I"⟩, 40) := ⟨⟨by decide +kernel, by decide +kernel⟩, List.mem_of_getElem? (i := 796) (by decide +kernel), List.mem_of_getElem? (i := 823) (by decide +kernel), List.mem_of_getElem? (i := 824) (by decide +kernel)⟩
theorem lw_p43 : lw_okq (⟨"FarBoardsModel", "lastChild", "(I)I"⟩, 40) := ⟨⟨by decide +kernel, by decide +kernel⟩, List.mem_of_getElem? (i := 796) (by decide +kernel), List.mem_of_getElem? (i := 827) (by decide +kernel), List.mem_of_getElem? (i := 828) (by decide +kernel)⟩
theorem lw_p44 : lw_okq (⟨"FarBoardsModel", "finding", "(I)I"⟩, 40) := ⟨⟨by decide +kernel, by decide +kernel⟩, List.mem_of_getElem? (i := 796) (by decide +kernel), List.mem_of_getElem? (i := 967) (by decide +kernel), List.mem_of_getElem? (i := 968) (by decide +kernel)⟩
theorem lw_p45 : lw_okq (⟨"FarBoardsModel", "sizeOf", "(II)J"⟩, 40) := ⟨⟨by decide +kernel, by decide +kernel⟩, List.mem_of_getElem? (i := 796) (by decide +kernel), List.mem_of_getElem? (i := 991) (by decide +kernel), List.mem_of_getElem? (i := 992) (by decide +kernel)⟩
theorem lw_p46 : lw_okq (⟨"FarBoardsModel", "isCell", "(I)Z"⟩, 40) := ⟨⟨by decide +kernel, by decide +kernel⟩, List.mem_of_getElem? (i := 796) (by decide +kernel), List.mem_of_getElem? (i := 1001) (by decide +kernel), List.mem_of_getElem? (i := 1002) (by decide +kernel)⟩
theorem lw_p47 : lw_okq (⟨"FarBoardsModel", "isSide", "(I)Z"⟩, 40) := ⟨⟨by decide +kernel, by decide +kernel⟩, List.mem_of_getElem? (i := 796) (by decide +kernel), List.mem_of_getElem? (i := 1009) (by decide +kernel), List.mem_of_getElem? (i := 1010) (by decide +kernel)⟩
def lw_privs_3 : List (MethodName × Nat) := [(⟨"FarBoards$Asks", "sizeAsked", "(II)I"⟩, 3), (⟨"FarBoards$Asks", "enter", "(I)V"⟩, 3), (⟨"FarBoards$Asks", "lentSize", "(I)I"⟩, 3), (⟨"FarBoards$Asks", "markAsked", "(II)I"⟩, 3), (⟨"FarBoards$Asks", "lentMark", "(I)I"⟩, 3), (⟨"FarBoardsModel", "build", "(II)V"⟩, 40), (⟨"FarBoardsModel", "add", "(III)V"⟩, 40), (⟨"FarBoardsModel", "parents", "(I)I"⟩, 40), (⟨"FarBoardsModel", "lay", "()V"⟩, 40), (⟨"FarBoardsModel", "round", "(II)I"⟩, 40), (⟨"FarBoardsModel", "ringEnd", "(I)I"⟩, 40), (⟨"FarBoardsModel", "lastChild", "(I)I"⟩, 40), (⟨"FarBoardsModel", "finding", "(I)I"⟩, 40), (⟨"FarBoardsModel", "sizeOf", "(II)J"⟩, 40), (⟨"FarBoardsModel", "isCell", "(I)Z"⟩, 40), (⟨"FarBoardsModel", "isSide", "(I)Z"⟩, 40)]
theorem lw_r3 : ∀ q ∈ lw_privs_3, lw_okq q := List.forall_mem_cons.mpr ⟨lw_p32, List.forall_mem_cons.mpr ⟨lw_p33, List.forall_mem_cons.mpr ⟨lw_p34, List.forall_mem_cons.mpr ⟨lw_p35, List.forall_mem_cons.mpr ⟨lw_p36, List.forall_mem_cons.mpr ⟨lw_p37, List.forall_mem_cons.mpr ⟨lw_p38, List.forall_mem_cons.mpr ⟨lw_p39, List.forall_mem_cons.mpr ⟨lw_p40, List.forall_mem_cons.mpr ⟨lw_p41, List.forall_mem_cons.mpr ⟨lw_p42, List.forall_mem_cons.mpr ⟨lw_p43, List.forall_mem_cons.mpr ⟨lw_p44, List.forall_mem_cons.mpr ⟨lw_p45, List.forall_mem_cons.mpr ⟨lw_p46, List.forall_mem_cons.mpr ⟨lw_p47, fun _ h => absurd h List.not_mem_nil⟩⟩⟩⟩⟩⟩⟩⟩⟩⟩⟩⟩⟩⟩⟩⟩
theorem lw_p48 : lw_okq (⟨"FarBoardsModel", "byOf", "(II)I"⟩, 40) := ⟨⟨by decide +kernel, by decide +kernel⟩, List.mem_of_getElem? (i := 796) (by decide +kernel), List.mem_of_getElem? (i := 1017) (by decide +kernel), List.mem_of_getElem? (i := 1018) (by decide +kernel)⟩
theorem lw_p49 : lw_okq (⟨"FarBoardsModel", "spread", "(I)V"⟩, 40) := ⟨⟨by decide +kernel, by decide +kernel⟩, List.mem_of_getElem? (i := 796) (by decide +kernel), List.mem_of_getElem? (i := 1032) (by decide +kernel), List.mem_of_getElem? (i := 1033) (by decide +kernel)⟩
theorem lw_p50 : lw_okq (⟨"FarBoardsModel", "check", "()I"⟩, 40) := ⟨⟨by decide +kernel, by decide +kernel⟩, List.mem_of_getElem? (i := 796) (by decide +kernel), List.mem_of_getElem? (i := 1068) (by decide +kernel), List.mem_of_getElem? (i := 1069) (by decide +kernel)⟩
theorem lw_p51 : lw_okq (⟨"FarBoardsModel", "step", "()V"⟩, 40) := ⟨⟨by decide +kernel, by decide +kernel⟩, List.mem_of_getElem? (i := 796) (by decide +kernel), List.mem_of_getElem? (i := 1072) (by decide +kernel), List.mem_of_getElem? (i := 1073) (by decide +kernel)⟩
theorem lw_p52 : lw_okq (⟨"FarBoardsModel", "byteAt", "(I)I"⟩, 40) := ⟨⟨by decide +kernel, by decide +kernel⟩, List.mem_of_getElem? (i := 796) (by decide +kernel), List.mem_of_getElem? (i := 1076) (by decide +kernel), List.mem_of_getElem? (i := 1077) (by decide +kernel)⟩
theorem lw_p53 : lw_okq (⟨"FarBoardsModel", "runAll", "()V"⟩, 40) := ⟨⟨by decide +kernel, by decide +kernel⟩, List.mem_of_getElem? (i := 796) (by decide +kernel), List.mem_of_getElem? (i := 1086) (by decide +kernel), List.mem_of_getElem? (i := 1087) (by decide +kernel)⟩
theorem lw_p54 : lw_okq (⟨"FarBoardsModel", "act", "(I)V"⟩, 40) := ⟨⟨by decide +kernel, by decide +kernel⟩, List.mem_of_getElem? (i := 796) (by decide +kernel), List.mem_of_getElem? (i := 1090) (by decide +kernel), List.mem_of_getElem? (i := 1091) (by decide +kernel)⟩
theorem lw_p55 : lw_okq (⟨"FarBoardsModel", "isSome", "(II)Z"⟩, 40) := ⟨⟨by decide +kernel, by decide +kernel⟩, List.mem_of_getElem? (i := 796) (by decide +kernel), List.mem_of_getElem? (i := 1114) (by decide +kernel), List.mem_of_getElem? (i := 1115) (by decide +kernel)⟩
theorem lw_p56 : lw_okq (⟨"FarBoardsModel", "colourings", "(II)I"⟩, 40) := ⟨⟨by decide +kernel, by decide +kernel⟩, List.mem_of_getElem? (i := 796) (by decide +kernel), List.mem_of_getElem? (i := 1120) (by decide +kernel), List.mem_of_getElem? (i := 1121) (by decide +kernel)⟩
theorem lw_p57 : lw_okq (⟨"FarBoardsModel", "livingIn", "(I)I"⟩, 40) := ⟨⟨by decide +kernel, by decide +kernel⟩, List.mem_of_getElem? (i := 796) (by decide +kernel), List.mem_of_getElem? (i := 1138) (by decide +kernel), List.mem_of_getElem? (i := 1139) (by decide +kernel)⟩
theorem lw_p58 : lw_okq (⟨"FarBoardsModel", "turnedOf", "(II)I"⟩, 40) := ⟨⟨by decide +kernel, by decide +kernel⟩, List.mem_of_getElem? (i := 796) (by decide +kernel), List.mem_of_getElem? (i := 1150) (by decide +kernel), List.mem_of_getElem? (i := 1151) (by decide +kernel)⟩
theorem lw_p59 : lw_okq (⟨"FarBoardsModel", "kindOf", "(I)I"⟩, 40) := ⟨⟨by decide +kernel, by decide +kernel⟩, List.mem_of_getElem? (i := 796) (by decide +kernel), List.mem_of_getElem? (i := 1166) (by decide +kernel), List.mem_of_getElem? (i := 1167) (by decide +kernel)⟩
theorem lw_p60 : lw_okq (⟨"FarBoardsModel", "sizeBy", "(II)I"⟩, 40) := ⟨⟨by decide +kernel, by decide +kernel⟩, List.mem_of_getElem? (i := 796) (by decide +kernel), List.mem_of_getElem? (i := 1178) (by decide +kernel), List.mem_of_getElem? (i := 1179) (by decide +kernel)⟩
theorem lw_p61 : lw_okq (⟨"FarBoardsModel", "pairedSize", "(I)I"⟩, 40) := ⟨⟨by decide +kernel, by decide +kernel⟩, List.mem_of_getElem? (i := 796) (by decide +kernel), List.mem_of_getElem? (i := 1182) (by decide +kernel), List.mem_of_getElem? (i := 1183) (by decide +kernel)⟩
theorem lw_p62 : lw_okq (⟨"FarBoardsModel", "begins", "(I)V"⟩, 40) := ⟨⟨by decide +kernel, by decide +kernel⟩, List.mem_of_getElem? (i := 796) (by decide +kernel), List.mem_of_getElem? (i := 1186) (by decide +kernel), List.mem_of_getElem? (i := 1187) (by decide +kernel)⟩
theorem lw_p63 : lw_okq (⟨"FarBoardsModel", "markOf", "(II)I"⟩, 40) := ⟨⟨by decide +kernel, by decide +kernel⟩, List.mem_of_getElem? (i := 796) (by decide +kernel), List.mem_of_getElem? (i := 1190) (by decide +kernel), List.mem_of_getElem? (i := 1191) (by decide +kernel)⟩
def lw_privs_4 : List (MethodName × Nat) := [(⟨"FarBoardsModel", "byOf", "(II)I"⟩, 40), (⟨"FarBoardsModel", "spread", "(I)V"⟩, 40), (⟨"FarBoardsModel", "check", "()I"⟩, 40), (⟨"FarBoardsModel", "step", "()V"⟩, 40), (⟨"FarBoardsModel", "byteAt", "(I)I"⟩, 40), (⟨"FarBoardsModel", "runAll", "()V"⟩, 40), (⟨"FarBoardsModel", "act", "(I)V"⟩, 40), (⟨"FarBoardsModel", "isSome", "(II)Z"⟩, 40), (⟨"FarBoardsModel", "colourings", "(II)I"⟩, 40), (⟨"FarBoardsModel", "livingIn", "(I)I"⟩, 40), (⟨"FarBoardsModel", "turnedOf", "(II)I"⟩, 40), (⟨"FarBoardsModel", "kindOf", "(I)I"⟩, 40), (⟨"FarBoardsModel", "sizeBy", "(II)I"⟩, 40), (⟨"FarBoardsModel", "pairedSize", "(I)I"⟩, 40), (⟨"FarBoardsModel", "begins", "(I)V"⟩, 40), (⟨"FarBoardsModel", "markOf", "(II)I"⟩, 40)]
theorem lw_r4 : ∀ q ∈ lw_privs_4, lw_okq q := List.forall_mem_cons.mpr ⟨lw_p48, List.forall_mem_cons.mpr ⟨lw_p49, List.forall_mem_cons.mpr ⟨lw_p50, List.forall_mem_cons.mpr ⟨lw_p51, List.forall_mem_cons.mpr ⟨lw_p52, List.forall_mem_cons.mpr ⟨lw_p53, List.forall_mem_cons.mpr ⟨lw_p54, List.forall_mem_cons.mpr ⟨lw_p55, List.forall_mem_cons.mpr ⟨lw_p56, List.forall_mem_cons.mpr ⟨lw_p57, List.forall_mem_cons.mpr ⟨lw_p58, List.forall_mem_cons.mpr ⟨lw_p59, List.forall_mem_cons.mpr ⟨lw_p60, List.forall_mem_cons.mpr ⟨lw_p61, List.forall_mem_cons.mpr ⟨lw_p62, List.forall_mem_cons.mpr ⟨lw_p63, fun _ h => absurd h List.not_mem_nil⟩⟩⟩⟩⟩⟩⟩⟩⟩⟩⟩⟩⟩⟩⟩⟩
def lw_privs : List (MethodName × Nat) := lw_privs_1 ++ (lw_privs_2 ++ (lw_privs_3 ++ (lw_privs_4)))
def lw_tbl : List Cond := k2_sels lw_privs ++ tables_1
theorem lw_privs_ok : ∀ q ∈ lw_privs, lw_okq q := by
  show ∀ q ∈ lw_privs_1 ++ (lw_privs_2 ++ (lw_privs_3 ++ (lw_privs_4))), lw_okq q
  exact List.forall_mem_append.mpr ⟨lw_r1, List.forall_mem_append.mpr ⟨lw_r2, List.forall_mem_append.mpr ⟨lw_r3, lw_r4⟩⟩⟩
/-! names: of the claim's printed names, what the tables need -/
def RX0 : String := "FarBoards$Asks"
def TX0 : u_T := fun k => match k with
  | 0 => ("FarBoards$Asks", "bodies", "[I", true)
  | 1 => ("FarBoards$Asks", "traced", "I", false)
  | _ => ("FarBoards$Asks", "ground", "LFarBoards$Ground;", true)
def tyX0 : Nat → FieldType := fun k => match k with
  | 0 => .array .int
  | 1 => .int
  | _ => .object "FarBoards$Ground"
theorem nmX0 : ∀ a, a < 3 → ∀ b, b < 3 → a ≠ b → (TX0 a).2.1 ≠ (TX0 b).2.1 := by decide +kernel
theorem tyX0_ok : ∀ k, k < 3 → parseFieldDescriptor (TX0 k).2.2.1 = some (tyX0 k) := by decide +kernel
abbrev cX0_init : ByteArray := prog_2_method_1_code
def yX0_init : MethodName := ⟨RX0, "<init>", "(LFarBoards$Ground;)V"⟩
abbrev cX0_answerAnew : ByteArray := prog_2_method_2_code
def yX0_answerAnew : MethodName := ⟨RX0, "answerAnew", "(II)I"⟩
abbrev cX0_answer : ByteArray := prog_2_method_3_code
def yX0_answer : MethodName := ⟨RX0, "answer", "(III)I"⟩
abbrev cX0_sizeAsked : ByteArray := prog_2_method_4_code
def yX0_sizeAsked : MethodName := ⟨RX0, "sizeAsked", "(II)I"⟩
abbrev cX0_markAsked : ByteArray := prog_2_method_5_code
def yX0_markAsked : MethodName := ⟨RX0, "markAsked", "(II)I"⟩
abbrev cX0_lentSize : ByteArray := prog_2_method_6_code
def yX0_lentSize : MethodName := ⟨RX0, "lentSize", "(I)I"⟩
abbrev cX0_lentMark : ByteArray := prog_2_method_7_code
def yX0_lentMark : MethodName := ⟨RX0, "lentMark", "(I)I"⟩
abbrev cX0_enter : ByteArray := prog_2_method_8_code
def yX0_enter : MethodName := ⟨RX0, "enter", "(I)V"⟩
def RX1 : String := "FarBoards$Colours"
def TX1 : u_T := fun k => match k with
  | 0 => ("FarBoards$Colours", "colourOf", "[I", true)
  | 1 => ("FarBoards$Colours", "earlier", "[I", true)
  | 2 => ("FarBoards$Colours", "having", "[I", true)
  | _ => ("FarBoards$Colours", "ground", "LFarBoards$Ground;", true)
def tyX1 : Nat → FieldType := fun k => match k with
  | 0 => .array .int
  | 1 => .array .int
  | 2 => .array .int
  | _ => .object "FarBoards$Ground"
theorem nmX1 : ∀ a, a < 4 → ∀ b, b < 4 → a ≠ b → (TX1 a).2.1 ≠ (TX1 b).2.1 := by decide +kernel
theorem tyX1_ok : ∀ k, k < 4 → parseFieldDescriptor (TX1 k).2.2.1 = some (tyX1 k) := by decide +kernel
abbrev cX1_init : ByteArray := prog_3_method_1_code
def yX1_init : MethodName := ⟨RX1, "<init>", "(LFarBoards$Ground;)V"⟩
abbrev cX1_isColour : ByteArray := prog_3_method_2_code
def yX1_isColour : MethodName := ⟨RX1, "isColour", "(I)Z"⟩
abbrev cX1_clear : ByteArray := prog_3_method_3_code
def yX1_clear : MethodName := ⟨RX1, "clear", "()V"⟩
abbrev cX1_countClashes : ByteArray := prog_3_method_4_code
def yX1_countClashes : MethodName := ⟨RX1, "countClashes", "()I"⟩
abbrev cX1_countRows : ByteArray := prog_3_method_5_code
def yX1_countRows : MethodName := ⟨RX1, "countRows", "(II)I"⟩
abbrev cX1_colourInFirstRow : ByteArray := prog_3_method_6_code
def yX1_colourInFirstRow : MethodName := ⟨RX1, "colourInFirstRow", "(III)I"⟩
abbrev cX1_prepare : ByteArray := prog_3_method_7_code
def yX1_prepare : MethodName := ⟨RX1, "prepare", "(I)V"⟩
abbrev cX1_clash : ByteArray := prog_3_method_8_code
def yX1_clash : MethodName := ⟨RX1, "clash", "(II)Z"⟩
abbrev cX1_countFrom : ByteArray := prog_3_method_9_code
def yX1_countFrom : MethodName := ⟨RX1, "countFrom", "([I[IIIII)I"⟩
abbrev cX1_fillFrom : ByteArray := prog_3_method_10_code
def yX1_fillFrom : MethodName := ⟨RX1, "fillFrom", "([I[IIII)Z"⟩
def RX2 : String := "FarBoards$Ground"
def TX2 : u_T := fun k => match k with
  | 0 => ("FarBoards$Ground", "ringOf", "[I", true)
  | 1 => ("FarBoards$Ground", "firstParent", "[I", true)
  | 2 => ("FarBoards$Ground", "otherParent", "[I", true)
  | 3 => ("FarBoards$Ground", "ringStart", "[I", true)
  | 4 => ("FarBoards$Ground", "firstOwn", "[I", true)
  | 5 => ("FarBoards$Ground", "beside", "[I", true)
  | 6 => ("FarBoards$Ground", "besideStart", "[I", true)
  | 7 => ("FarBoards$Ground", "listed", "I", false)
  | 8 => ("FarBoards$Ground", "sides", "I", false)
  | 9 => ("FarBoards$Ground", "rings", "I", false)
  | _ => ("FarBoards$Ground", "cells", "I", false)
def tyX2 : Nat → FieldType := fun k => match k with
  | 0 => .array .int
  | 1 => .array .int
  | 2 => .array .int
  | 3 => .array .int
  | 4 => .array .int
  | 5 => .array .int
  | 6 => .array .int
  | 7 => .int
  | 8 => .int
  | 9 => .int
  | _ => .int
theorem nmX2 : ∀ a, a < 11 → ∀ b, b < 11 → a ≠ b → (TX2 a).2.1 ≠ (TX2 b).2.1 := by decide +kernel
theorem tyX2_ok : ∀ k, k < 11 → parseFieldDescriptor (TX2 k).2.2.1 = some (tyX2 k) := by decide +kernel
abbrev cX2_init : ByteArray := prog_4_method_1_code
def yX2_init : MethodName := ⟨RX2, "<init>", "()V"⟩
abbrev cX2_build : ByteArray := prog_4_method_2_code
def yX2_build : MethodName := ⟨RX2, "build", "(II)V"⟩
abbrev cX2_has : ByteArray := prog_4_method_3_code
def yX2_has : MethodName := ⟨RX2, "has", "(I)Z"⟩
abbrev cX2_hasSide : ByteArray := prog_4_method_4_code
def yX2_hasSide : MethodName := ⟨RX2, "hasSide", "(II)Z"⟩
abbrev cX2_hasRing : ByteArray := prog_4_method_5_code
def yX2_hasRing : MethodName := ⟨RX2, "hasRing", "(I)Z"⟩
abbrev cX2_beyond : ByteArray := prog_4_method_6_code
def yX2_beyond : MethodName := ⟨RX2, "beyond", "(II)I"⟩
abbrev cX2_sideTo : ByteArray := prog_4_method_7_code
def yX2_sideTo : MethodName := ⟨RX2, "sideTo", "(II)I"⟩
abbrev cX2_sideOn : ByteArray := prog_4_method_8_code
def yX2_sideOn : MethodName := ⟨RX2, "sideOn", "(II)I"⟩
abbrev cX2_parentsOf : ByteArray := prog_4_method_9_code
def yX2_parentsOf : MethodName := ⟨RX2, "parentsOf", "(I)I"⟩
abbrev cX2_placeOf : ByteArray := prog_4_method_10_code
def yX2_placeOf : MethodName := ⟨RX2, "placeOf", "(I)I"⟩
abbrev cX2_besides : ByteArray := prog_4_method_11_code
def yX2_besides : MethodName := ⟨RX2, "besides", "(I)I"⟩
abbrev cX2_childrenOf : ByteArray := prog_4_method_12_code
def yX2_childrenOf : MethodName := ⟨RX2, "childrenOf", "(I)I"⟩
abbrev cX2_toldKind : ByteArray := prog_4_method_13_code
def yX2_toldKind : MethodName := ⟨RX2, "toldKind", "(I)I"⟩
abbrev cX2_countTold : ByteArray := prog_4_method_14_code
def yX2_countTold : MethodName := ⟨RX2, "countTold", "(I)I"⟩
abbrev cX2_partOf : ByteArray := prog_4_method_15_code
def yX2_partOf : MethodName := ⟨RX2, "partOf", "(I)I"⟩
abbrev cX2_turn : ByteArray := prog_4_method_16_code
def yX2_turn : MethodName := ⟨RX2, "turn", "(II)I"⟩
abbrev cX2_sizeOf : ByteArray := prog_4_method_17_code
def yX2_sizeOf : MethodName := ⟨RX2, "sizeOf", "(I)I"⟩
abbrev cX2_behind : ByteArray := prog_4_method_18_code
def yX2_behind : MethodName := ⟨RX2, "behind", "(I)I"⟩
abbrev cX2_ahead : ByteArray := prog_4_method_19_code
def yX2_ahead : MethodName := ⟨RX2, "ahead", "(I)I"⟩
abbrev cX2_ownOf : ByteArray := prog_4_method_20_code
def yX2_ownOf : MethodName := ⟨RX2, "ownOf", "(I)I"⟩
abbrev cX2_addCell : ByteArray := prog_4_method_21_code
def yX2_addCell : MethodName := ⟨RX2, "addCell", "(III)V"⟩
abbrev cX2_addFirstRing : ByteArray := prog_4_method_22_code
def yX2_addFirstRing : MethodName := ⟨RX2, "addFirstRing", "()V"⟩
abbrev cX2_addRing : ByteArray := prog_4_method_23_code
def yX2_addRing : MethodName := ⟨RX2, "addRing", "(I)V"⟩
abbrev cX2_list : ByteArray := prog_4_method_24_code
def yX2_list : MethodName := ⟨RX2, "list", "(I)V"⟩
abbrev cX2_listRound : ByteArray := prog_4_method_25_code
def yX2_listRound : MethodName := ⟨RX2, "listRound", "(I)V"⟩
abbrev cX2_listRoundTheFirst : ByteArray := prog_4_method_26_code
def yX2_listRoundTheFirst : MethodName := ⟨RX2, "listRoundTheFirst", "()V"⟩
abbrev cX2_listChildren : ByteArray := prog_4_method_27_code
def yX2_listChildren : MethodName := ⟨RX2, "listChildren", "(I)V"⟩
def RX3 : String := "FarBoards$Life"
def TX3 : u_T := fun k => match k with
  | 0 => ("FarBoards$Life", "ground", "LFarBoards$Ground;", true)
  | 1 => ("FarBoards$Life", "lives", "[I", false)
  | _ => ("FarBoards$Life", "livesThen", "[I", false)
def tyX3 : Nat → FieldType := fun k => match k with
  | 0 => .object "FarBoards$Ground"
  | 1 => .array .int
  | _ => .array .int
theorem nmX3 : ∀ a, a < 3 → ∀ b, b < 3 → a ≠ b → (TX3 a).2.1 ≠ (TX3 b).2.1 := by decide +kernel
theorem tyX3_ok : ∀ k, k < 3 → parseFieldDescriptor (TX3 k).2.2.1 = some (tyX3 k) := by decide +kernel
abbrev cX3_init : ByteArray := prog_5_method_1_code
def yX3_init : MethodName := ⟨RX3, "<init>", "(LFarBoards$Ground;)V"⟩
abbrev cX3_clear : ByteArray := prog_5_method_2_code
def yX3_clear : MethodName := ⟨RX3, "clear", "()V"⟩
abbrev cX3_stepOn : ByteArray := prog_5_method_3_code
def yX3_stepOn : MethodName := ⟨RX3, "stepOn", "(II)V"⟩
abbrev cX3_countIn : ByteArray := prog_5_method_4_code
def yX3_countIn : MethodName := ⟨RX3, "countIn", "(II)I"⟩
abbrev cX3_isSameTurned : ByteArray := prog_5_method_5_code
def yX3_isSameTurned : MethodName := ⟨RX3, "isSameTurned", "(I)Z"⟩
abbrev cX3_livingBeside : ByteArray := prog_5_method_6_code
def yX3_livingBeside : MethodName := ⟨RX3, "livingBeside", "(I)I"⟩
def RX4 : String := "FarBoards$Mouse"
def TX4 : u_T := fun k => match k with
  | 0 => ("FarBoards$Mouse", "ground", "LFarBoards$Ground;", true)
  | 1 => ("FarBoards$Mouse", "at", "I", false)
  | 2 => ("FarBoards$Mouse", "facing", "I", false)
  | 3 => ("FarBoards$Mouse", "bumps", "I", false)
  | _ => ("FarBoards$Mouse", "stepped", "I", false)
def tyX4 : Nat → FieldType := fun k => match k with
  | 0 => .object "FarBoards$Ground"
  | 1 => .int
  | 2 => .int
  | 3 => .int
  | _ => .int
theorem nmX4 : ∀ a, a < 5 → ∀ b, b < 5 → a ≠ b → (TX4 a).2.1 ≠ (TX4 b).2.1 := by decide +kernel
theorem tyX4_ok : ∀ k, k < 5 → parseFieldDescriptor (TX4 k).2.2.1 = some (tyX4 k) := by decide +kernel
abbrev cX4_init : ByteArray := prog_6_method_1_code
def yX4_init : MethodName := ⟨RX4, "<init>", "(LFarBoards$Ground;)V"⟩
abbrev cX4_place : ByteArray := prog_6_method_2_code
def yX4_place : MethodName := ⟨RX4, "place", "(II)V"⟩
abbrev cX4_act : ByteArray := prog_6_method_3_code
def yX4_act : MethodName := ⟨RX4, "act", "(I)V"⟩
abbrev cX4_forward : ByteArray := prog_6_method_4_code
def yX4_forward : MethodName := ⟨RX4, "forward", "()V"⟩
def RX5 : String := "FarBoards$Sheets"
def TX5 : u_T := fun k => match k with
  | 0 => ("FarBoards$Sheets", "items", "[I", true)
  | 1 => ("FarBoards$Sheets", "lanes", "[I", true)
  | _ => ("FarBoards$Sheets", "sizes", "[I", true)
def tyX5 : Nat → FieldType := fun k => match k with
  | 0 => .array .int
  | 1 => .array .int
  | _ => .array .int
theorem nmX5 : ∀ a, a < 3 → ∀ b, b < 3 → a ≠ b → (TX5 a).2.1 ≠ (TX5 b).2.1 := by decide +kernel
theorem tyX5_ok : ∀ k, k < 3 → parseFieldDescriptor (TX5 k).2.2.1 = some (tyX5 k) := by decide +kernel
abbrev cX5_init : ByteArray := prog_7_method_1_code
def yX5_init : MethodName := ⟨RX5, "<init>", "()V"⟩
abbrev cX5_has : ByteArray := prog_7_method_2_code
def yX5_has : MethodName := ⟨RX5, "has", "(I)Z"⟩
abbrev cX5_isMissing : ByteArray := prog_7_method_3_code
def yX5_isMissing : MethodName := ⟨RX5, "isMissing", "(I)Z"⟩
abbrev cX5_areOfOneLane : ByteArray := prog_7_method_4_code
def yX5_areOfOneLane : MethodName := ⟨RX5, "areOfOneLane", "(II)Z"⟩
abbrev cX5_holds : ByteArray := prog_7_method_5_code
def yX5_holds : MethodName := ⟨RX5, "holds", "(III)Z"⟩
abbrev cX5_lay : ByteArray := prog_7_method_6_code
def yX5_lay : MethodName := ⟨RX5, "lay", "(III)V"⟩
abbrev cX5_takeAway : ByteArray := prog_7_method_7_code
def yX5_takeAway : MethodName := ⟨RX5, "takeAway", "(I)I"⟩
abbrev cX5_read : ByteArray := prog_7_method_8_code
def yX5_read : MethodName := ⟨RX5, "read", "(II)I"⟩
abbrev cX5_write : ByteArray := prog_7_method_9_code
def yX5_write : MethodName := ⟨RX5, "write", "(III)I"⟩
abbrev cX5_bring : ByteArray := prog_7_method_10_code
def yX5_bring : MethodName := ⟨RX5, "bring", "(IIIII)V"⟩
abbrev cX5_countLaid : ByteArray := prog_7_method_11_code
def yX5_countLaid : MethodName := ⟨RX5, "countLaid", "()I"⟩
abbrev cX5_narrowed : ByteArray := prog_7_method_12_code
def yX5_narrowed : MethodName := ⟨RX5, "narrowed", "(II)I"⟩
def RX6 : String := "FarBoards$Tape"
def TX6 : u_T := fun k => match k with
  | 0 => ("FarBoards$Tape", "acts", "[B", true)
  | 1 => ("FarBoards$Tape", "bytes", "[B", true)
  | 2 => ("FarBoards$Tape", "openedAt", "[I", true)
  | 3 => ("FarBoards$Tape", "openedOften", "[I", true)
  | 4 => ("FarBoards$Tape", "length", "I", false)
  | _ => ("FarBoards$Tape", "faultPlace", "I", false)
def tyX6 : Nat → FieldType := fun k => match k with
  | 0 => .array .byte
  | 1 => .array .byte
  | 2 => .array .int
  | 3 => .array .int
  | 4 => .int
  | _ => .int
theorem nmX6 : ∀ a, a < 6 → ∀ b, b < 6 → a ≠ b → (TX6 a).2.1 ≠ (TX6 b).2.1 := by decide +kernel
theorem tyX6_ok : ∀ k, k < 6 → parseFieldDescriptor (TX6 k).2.2.1 = some (tyX6 k) := by decide +kernel
abbrev cX6_init : ByteArray := prog_8_method_1_code
def yX6_init : MethodName := ⟨RX6, "<init>", "()V"⟩
abbrev cX6_take : ByteArray := prog_8_method_2_code
def yX6_take : MethodName := ⟨RX6, "take", "(JI)Z"⟩
abbrev cX6_check : ByteArray := prog_8_method_3_code
def yX6_check : MethodName := ⟨RX6, "check", "()I"⟩
abbrev cX6_unroll : ByteArray := prog_8_method_4_code
def yX6_unroll : MethodName := ⟨RX6, "unroll", "()I"⟩
abbrev cX6_open : ByteArray := prog_8_method_5_code
def yX6_open : MethodName := ⟨RX6, "open", "(III)V"⟩
abbrev cX6_close : ByteArray := prog_8_method_6_code
def yX6_close : MethodName := ⟨RX6, "close", "(II)I"⟩
abbrev cX6_add : ByteArray := prog_8_method_7_code
def yX6_add : MethodName := ⟨RX6, "add", "(BII)I"⟩
abbrev cX6_repeat : ByteArray := prog_8_method_8_code
def yX6_repeat : MethodName := ⟨RX6, "repeat", "(III)I"⟩
abbrev cX6_faultAt : ByteArray := prog_8_method_9_code
def yX6_faultAt : MethodName := ⟨RX6, "faultAt", "(IIZ)I"⟩
abbrev cX6_numberFault : ByteArray := prog_8_method_10_code
def yX6_numberFault : MethodName := ⟨RX6, "numberFault", "(IZ)I"⟩
abbrev cX6_figuresFrom : ByteArray := prog_8_method_11_code
def yX6_figuresFrom : MethodName := ⟨RX6, "figuresFrom", "(I)I"⟩
abbrev cX6_numberAt : ByteArray := prog_8_method_12_code
def yX6_numberAt : MethodName := ⟨RX6, "numberAt", "(I)I"⟩
abbrev cX6_depthOf : ByteArray := prog_8_method_13_code
def yX6_depthOf : MethodName := ⟨RX6, "depthOf", "(B)I"⟩
abbrev cX6_isBlank : ByteArray := prog_8_method_14_code
def yX6_isBlank : MethodName := ⟨RX6, "isBlank", "(B)Z"⟩
abbrev cX6_isFigure : ByteArray := prog_8_method_15_code
def yX6_isFigure : MethodName := ⟨RX6, "isFigure", "(B)Z"⟩
abbrev cX6_isLetter : ByteArray := prog_8_method_16_code
def yX6_isLetter : MethodName := ⟨RX6, "isLetter", "(B)Z"⟩
def RX7 : String := "FarBoards$Ways"
def TX7 : u_T := fun k => match k with
  | 0 => ("FarBoards$Ways", "distance", "[I", true)
  | 1 => ("FarBoards$Ways", "shortest", "[I", true)
  | 2 => ("FarBoards$Ways", "queue", "[I", true)
  | 3 => ("FarBoards$Ways", "ground", "LFarBoards$Ground;", true)
  | 4 => ("FarBoards$Ways", "walked", "[I", false)
  | _ => ("FarBoards$Ways", "walkedOn", "[I", false)
def tyX7 : Nat → FieldType := fun k => match k with
  | 0 => .array .int
  | 1 => .array .int
  | 2 => .array .int
  | 3 => .object "FarBoards$Ground"
  | 4 => .array .int
  | _ => .array .int
theorem nmX7 : ∀ a, a < 6 → ∀ b, b < 6 → a ≠ b → (TX7 a).2.1 ≠ (TX7 b).2.1 := by decide +kernel
theorem tyX7_ok : ∀ k, k < 6 → parseFieldDescriptor (TX7 k).2.2.1 = some (tyX7 k) := by decide +kernel
abbrev cX7_init : ByteArray := prog_9_method_1_code
def yX7_init : MethodName := ⟨RX7, "<init>", "(LFarBoards$Ground;)V"⟩
abbrev cX7_measure : ByteArray := prog_9_method_2_code
def yX7_measure : MethodName := ⟨RX7, "measure", "(I)V"⟩
abbrev cX7_cellOnTheWay : ByteArray := prog_9_method_3_code
def yX7_cellOnTheWay : MethodName := ⟨RX7, "cellOnTheWay", "(III)I"⟩
abbrev cX7_countWalks : ByteArray := prog_9_method_4_code
def yX7_countWalks : MethodName := ⟨RX7, "countWalks", "(III)I"⟩
abbrev cX7_countAt : ByteArray := prog_9_method_5_code
def yX7_countAt : MethodName := ⟨RX7, "countAt", "(II)I"⟩
abbrev cX7_reachFrom : ByteArray := prog_9_method_6_code
def yX7_reachFrom : MethodName := ⟨RX7, "reachFrom", "(II)I"⟩
abbrev cX7_nearer : ByteArray := prog_9_method_7_code
def yX7_nearer : MethodName := ⟨RX7, "nearer", "(I)I"⟩
abbrev cX7_walksInto : ByteArray := prog_9_method_8_code
def yX7_walksInto : MethodName := ⟨RX7, "walksInto", "(I)I"⟩
def RX8 : String := "FarBoards"
def TX8 : u_T := fun k => match k with
  | 0 => ("FarBoards", "sheets", "LFarBoards$Sheets;", true)
  | 1 => ("FarBoards", "ground", "LFarBoards$Ground;", true)
  | 2 => ("FarBoards", "ways", "LFarBoards$Ways;", true)
  | 3 => ("FarBoards", "mouse", "LFarBoards$Mouse;", true)
  | 4 => ("FarBoards", "tape", "LFarBoards$Tape;", true)
  | 5 => ("FarBoards", "colours", "LFarBoards$Colours;", true)
  | 6 => ("FarBoards", "life", "LFarBoards$Life;", true)
  | 7 => ("FarBoards", "asks", "LFarBoards$Asks;", true)
  | 8 => ("FarBoards", "latestFinding", "I", false)
  | _ => ("FarBoards", "latestFault", "I", false)
def tyX8 : Nat → FieldType := fun k => match k with
  | 0 => .object "FarBoards$Sheets"
  | 1 => .object "FarBoards$Ground"
  | 2 => .object "FarBoards$Ways"
  | 3 => .object "FarBoards$Mouse"
  | 4 => .object "FarBoards$Tape"
  | 5 => .object "FarBoards$Colours"
  | 6 => .object "FarBoards$Life"
  | 7 => .object "FarBoards$Asks"
  | 8 => .int
  | _ => .int
theorem nmX8 : ∀ a, a < 10 → ∀ b, b < 10 → a ≠ b → (TX8 a).2.1 ≠ (TX8 b).2.1 := by decide +kernel
theorem tyX8_ok : ∀ k, k < 10 → parseFieldDescriptor (TX8 k).2.2.1 = some (tyX8 k) := by decide +kernel
abbrev cX8_init : ByteArray := prog_1_method_1_code
def yX8_init : MethodName := ⟨RX8, "<init>", "()V"⟩
abbrev cX8_sheet : ByteArray := prog_1_method_2_code
def yX8_sheet : MethodName := ⟨RX8, "sheet", "(III)I"⟩
abbrev cX8_set : ByteArray := prog_1_method_3_code
def yX8_set : MethodName := ⟨RX8, "set", "(III)I"⟩
abbrev cX8_copy : ByteArray := prog_1_method_4_code
def yX8_copy : MethodName := ⟨RX8, "copy", "(IIIII)I"⟩
abbrev cX8_drop : ByteArray := prog_1_method_5_code
def yX8_drop : MethodName := ⟨RX8, "drop", "(I)I"⟩
abbrev cX8_board : ByteArray := prog_1_method_6_code
def yX8_board : MethodName := ⟨RX8, "board", "(II)I"⟩
abbrev cX8_cell : ByteArray := prog_1_method_7_code
def yX8_cell : MethodName := ⟨RX8, "cell", "(II)I"⟩
abbrev cX8_side : ByteArray := prog_1_method_8_code
def yX8_side : MethodName := ⟨RX8, "side", "(II)I"⟩
abbrev cX8_by : ByteArray := prog_1_method_9_code
def yX8_by : MethodName := ⟨RX8, "by", "(II)I"⟩
abbrev cX8_grown : ByteArray := prog_1_method_10_code
def yX8_grown : MethodName := ⟨RX8, "grown", "(III)I"⟩
abbrev cX8_far : ByteArray := prog_1_method_11_code
def yX8_far : MethodName := ⟨RX8, "far", "(III)I"⟩
abbrev cX8_way : ByteArray := prog_1_method_12_code
def yX8_way : MethodName := ⟨RX8, "way", "(III)I"⟩
abbrev cX8_walks : ByteArray := prog_1_method_13_code
def yX8_walks : MethodName := ⟨RX8, "walks", "(III)I"⟩
abbrev cX8_around : ByteArray := prog_1_method_14_code
def yX8_around : MethodName := ⟨RX8, "around", "(II)I"⟩
abbrev cX8_put : ByteArray := prog_1_method_15_code
def yX8_put : MethodName := ⟨RX8, "put", "(II)I"⟩
abbrev cX8_mouse : ByteArray := prog_1_method_16_code
def yX8_mouse : MethodName := ⟨RX8, "mouse", "(I)I"⟩
abbrev cX8_feed : ByteArray := prog_1_method_17_code
def yX8_feed : MethodName := ⟨RX8, "feed", "(JI)I"⟩
abbrev cX8_run : ByteArray := prog_1_method_18_code
def yX8_run : MethodName := ⟨RX8, "run", "()I"⟩
abbrev cX8_fault : ByteArray := prog_1_method_19_code
def yX8_fault : MethodName := ⟨RX8, "fault", "()I"⟩
abbrev cX8_paint : ByteArray := prog_1_method_20_code
def yX8_paint : MethodName := ⟨RX8, "paint", "(II)I"⟩
abbrev cX8_paints : ByteArray := prog_1_method_21_code
def yX8_paints : MethodName := ⟨RX8, "paints", "(IIII)I"⟩
abbrev cX8_clashes : ByteArray := prog_1_method_22_code
def yX8_clashes : MethodName := ⟨RX8, "clashes", "()I"⟩
abbrev cX8_coloured : ByteArray := prog_1_method_23_code
def yX8_coloured : MethodName := ⟨RX8, "coloured", "(II)I"⟩
abbrev cX8_found : ByteArray := prog_1_method_24_code
def yX8_found : MethodName := ⟨RX8, "found", "(III)I"⟩
abbrev cX8_live : ByteArray := prog_1_method_25_code
def yX8_live : MethodName := ⟨RX8, "live", "(II)I"⟩
abbrev cX8_steps : ByteArray := prog_1_method_26_code
def yX8_steps : MethodName := ⟨RX8, "steps", "(III)I"⟩
abbrev cX8_living : ByteArray := prog_1_method_27_code
def yX8_living : MethodName := ⟨RX8, "living", "(I)I"⟩
abbrev cX8_turned : ByteArray := prog_1_method_28_code
def yX8_turned : MethodName := ⟨RX8, "turned", "(II)I"⟩
abbrev cX8_alike : ByteArray := prog_1_method_29_code
def yX8_alike : MethodName := ⟨RX8, "alike", "(I)I"⟩
abbrev cX8_orbits : ByteArray := prog_1_method_30_code
def yX8_orbits : MethodName := ⟨RX8, "orbits", "(I)I"⟩
abbrev cX8_kind : ByteArray := prog_1_method_31_code
def yX8_kind : MethodName := ⟨RX8, "kind", "(I)I"⟩
abbrev cX8_as : ByteArray := prog_1_method_32_code
def yX8_as : MethodName := ⟨RX8, "as", "(II)I"⟩
abbrev cX8_ask : ByteArray := prog_1_method_33_code
def yX8_ask : MethodName := ⟨RX8, "ask", "(II)I"⟩
abbrev cX8_trace : ByteArray := prog_1_method_34_code
def yX8_trace : MethodName := ⟨RX8, "trace", "(I)I"⟩
abbrev cX8_count : ByteArray := prog_1_method_35_code
def yX8_count : MethodName := ⟨RX8, "count", "(I)I"⟩
abbrev cX8_status : ByteArray := prog_1_method_36_code
def yX8_status : MethodName := ⟨RX8, "status", "()I"⟩
abbrev cX8_begin : ByteArray := prog_1_method_37_code
def yX8_begin : MethodName := ⟨RX8, "begin", "(II)V"⟩
abbrev cX8_finding : ByteArray := prog_1_method_38_code
def yX8_finding : MethodName := ⟨RX8, "finding", "(I)I"⟩
abbrev cX8_sound : ByteArray := prog_1_method_39_code
def yX8_sound : MethodName := ⟨RX8, "sound", "(I)I"⟩
abbrev cX8_isTurn : ByteArray := prog_1_method_40_code
def yX8_isTurn : MethodName := ⟨RX8, "isTurn", "(I)Z"⟩
abbrev cX8_isCountable : ByteArray := prog_1_method_41_code
def yX8_isCountable : MethodName := ⟨RX8, "isCountable", "(II)Z"⟩
abbrev cX8_isRule : ByteArray := prog_1_method_42_code
def yX8_isRule : MethodName := ⟨RX8, "isRule", "(I)Z"⟩
abbrev cX8_isSideNumber : ByteArray := prog_1_method_43_code
def yX8_isSideNumber : MethodName := ⟨RX8, "isSideNumber", "(I)Z"⟩
abbrev cX8_growth : ByteArray := prog_1_method_44_code
def yX8_growth : MethodName := ⟨RX8, "growth", "(III)I"⟩
def RX9 : String := "FarBoardsModel"
def TX9 : u_T := fun k => match k with
  | 0 => ("FarBoardsModel", "thrown", "I", false)
  | 1 => ("FarBoardsModel", "status", "I", false)
  | 2 => ("FarBoardsModel", "lane", "[I", true)
  | 3 => ("FarBoardsModel", "many", "[I", true)
  | 4 => ("FarBoardsModel", "item", "[I", true)
  | 5 => ("FarBoardsModel", "sides", "I", false)
  | 6 => ("FarBoardsModel", "rings", "I", false)
  | 7 => ("FarBoardsModel", "cells", "I", false)
  | 8 => ("FarBoardsModel", "ringFirst", "[I", true)
  | 9 => ("FarBoardsModel", "ringOf", "[I", true)
  | 10 => ("FarBoardsModel", "parentOne", "[I", true)
  | 11 => ("FarBoardsModel", "parentTwo", "[I", true)
  | 12 => ("FarBoardsModel", "beside", "[I", true)
  | 13 => ("FarBoardsModel", "far", "[I", true)
  | 14 => ("FarBoardsModel", "ways", "[J", true)
  | 15 => ("FarBoardsModel", "queue", "[I", true)
  | 16 => ("FarBoardsModel", "walk", "[J", true)
  | 17 => ("FarBoardsModel", "then", "[J", true)
  | 18 => ("FarBoardsModel", "mouseCell", "I", false)
  | 19 => ("FarBoardsModel", "mouseSide", "I", false)
  | 20 => ("FarBoardsModel", "bumps", "I", false)
  | 21 => ("FarBoardsModel", "steps", "I", false)
  | 22 => ("FarBoardsModel", "tape", "[I", true)
  | 23 => ("FarBoardsModel", "taped", "I", false)
  | 24 => ("FarBoardsModel", "latest", "I", false)
  | 25 => ("FarBoardsModel", "size", "I", false)
  | 26 => ("FarBoardsModel", "cursor", "I", false)
  | 27 => ("FarBoardsModel", "token", "I", false)
  | 28 => ("FarBoardsModel", "from", "I", false)
  | 29 => ("FarBoardsModel", "number", "I", false)
  | 30 => ("FarBoardsModel", "began", "[I", true)
  | 31 => ("FarBoardsModel", "left", "[I", true)
  | 32 => ("FarBoardsModel", "makes", "[J", true)
  | 33 => ("FarBoardsModel", "colour", "[I", true)
  | 34 => ("FarBoardsModel", "tried", "[I", true)
  | 35 => ("FarBoardsModel", "first", "[I", true)
  | 36 => ("FarBoardsModel", "lives", "[Z", true)
  | 37 => ("FarBoardsModel", "next", "[Z", true)
  | 38 => ("FarBoardsModel", "trace", "[I", true)
  | _ => ("FarBoardsModel", "traced", "I", false)
def tyX9 : Nat → FieldType := fun k => match k with
  | 0 => .int
  | 1 => .int
  | 2 => .array .int
  | 3 => .array .int
  | 4 => .array .int
  | 5 => .int
  | 6 => .int
  | 7 => .int
  | 8 => .array .int
  | 9 => .array .int
  | 10 => .array .int
  | 11 => .array .int
  | 12 => .array .int
  | 13 => .array .int
  | 14 => .array .long
  | 15 => .array .int
  | 16 => .array .long
  | 17 => .array .long
  | 18 => .int
  | 19 => .int
  | 20 => .int
  | 21 => .int
  | 22 => .array .int
  | 23 => .int
  | 24 => .int
  | 25 => .int
  | 26 => .int
  | 27 => .int
  | 28 => .int
  | 29 => .int
  | 30 => .array .int
  | 31 => .array .int
  | 32 => .array .long
  | 33 => .array .int
  | 34 => .array .int
  | 35 => .array .int
  | 36 => .array .boolean
  | 37 => .array .boolean
  | 38 => .array .int
  | _ => .int
theorem nmX9 : ∀ a, a < 40 → ∀ b, b < 40 → a ≠ b → (TX9 a).2.1 ≠ (TX9 b).2.1 := by decide +kernel
theorem tyX9_ok : ∀ k, k < 40 → parseFieldDescriptor (TX9 k).2.2.1 = some (tyX9 k) := by decide +kernel
abbrev cX9_in : ByteArray := prog_11_method_2_code
def yX9_in : MethodName := ⟨RX9, "in", "(JJJ)Z"⟩
abbrev cX9_finding : ByteArray := prog_11_method_3_code
def yX9_finding : MethodName := ⟨RX9, "finding", "(I)I"⟩
abbrev cX9_init : ByteArray := prog_11_method_4_code
def yX9_init : MethodName := ⟨RX9, "<init>", "()V"⟩
abbrev cX9_isSheet : ByteArray := prog_11_method_5_code
def yX9_isSheet : MethodName := ⟨RX9, "isSheet", "(I)Z"⟩
abbrev cX9_sheet : ByteArray := prog_11_method_6_code
def yX9_sheet : MethodName := ⟨RX9, "sheet", "(III)I"⟩
abbrev cX9_set : ByteArray := prog_11_method_7_code
def yX9_set : MethodName := ⟨RX9, "set", "(III)I"⟩
abbrev cX9_copy : ByteArray := prog_11_method_8_code
def yX9_copy : MethodName := ⟨RX9, "copy", "(IIIII)I"⟩
abbrev cX9_drop : ByteArray := prog_11_method_9_code
def yX9_drop : MethodName := ⟨RX9, "drop", "(I)I"⟩
abbrev cX9_sizeOf : ByteArray := prog_11_method_10_code
def yX9_sizeOf : MethodName := ⟨RX9, "sizeOf", "(II)J"⟩
abbrev cX9_ringEnd : ByteArray := prog_11_method_11_code
def yX9_ringEnd : MethodName := ⟨RX9, "ringEnd", "(I)I"⟩
abbrev cX9_build : ByteArray := prog_11_method_12_code
def yX9_build : MethodName := ⟨RX9, "build", "(II)V"⟩
abbrev cX9_add : ByteArray := prog_11_method_13_code
def yX9_add : MethodName := ⟨RX9, "add", "(III)V"⟩
abbrev cX9_parents : ByteArray := prog_11_method_14_code
def yX9_parents : MethodName := ⟨RX9, "parents", "(I)I"⟩
abbrev cX9_round : ByteArray := prog_11_method_15_code
def yX9_round : MethodName := ⟨RX9, "round", "(II)I"⟩
abbrev cX9_lay : ByteArray := prog_11_method_16_code
def yX9_lay : MethodName := ⟨RX9, "lay", "()V"⟩
abbrev cX9_lastChild : ByteArray := prog_11_method_17_code
def yX9_lastChild : MethodName := ⟨RX9, "lastChild", "(I)I"⟩
abbrev cX9_board : ByteArray := prog_11_method_18_code
def yX9_board : MethodName := ⟨RX9, "board", "(II)I"⟩
abbrev cX9_isCell : ByteArray := prog_11_method_19_code
def yX9_isCell : MethodName := ⟨RX9, "isCell", "(I)Z"⟩
abbrev cX9_isSide : ByteArray := prog_11_method_20_code
def yX9_isSide : MethodName := ⟨RX9, "isSide", "(I)Z"⟩
abbrev cX9_cell : ByteArray := prog_11_method_21_code
def yX9_cell : MethodName := ⟨RX9, "cell", "(II)I"⟩
abbrev cX9_side : ByteArray := prog_11_method_22_code
def yX9_side : MethodName := ⟨RX9, "side", "(II)I"⟩
abbrev cX9_byOf : ByteArray := prog_11_method_23_code
def yX9_byOf : MethodName := ⟨RX9, "byOf", "(II)I"⟩
abbrev cX9_by : ByteArray := prog_11_method_24_code
def yX9_by : MethodName := ⟨RX9, "by", "(II)I"⟩
abbrev cX9_grown : ByteArray := prog_11_method_25_code
def yX9_grown : MethodName := ⟨RX9, "grown", "(III)I"⟩
abbrev cX9_spread : ByteArray := prog_11_method_26_code
def yX9_spread : MethodName := ⟨RX9, "spread", "(I)V"⟩
abbrev cX9_far : ByteArray := prog_11_method_27_code
def yX9_far : MethodName := ⟨RX9, "far", "(III)I"⟩
abbrev cX9_way : ByteArray := prog_11_method_28_code
def yX9_way : MethodName := ⟨RX9, "way", "(III)I"⟩
abbrev cX9_walks : ByteArray := prog_11_method_29_code
def yX9_walks : MethodName := ⟨RX9, "walks", "(III)I"⟩
abbrev cX9_around : ByteArray := prog_11_method_30_code
def yX9_around : MethodName := ⟨RX9, "around", "(II)I"⟩
abbrev cX9_put : ByteArray := prog_11_method_31_code
def yX9_put : MethodName := ⟨RX9, "put", "(II)I"⟩
abbrev cX9_mouse : ByteArray := prog_11_method_32_code
def yX9_mouse : MethodName := ⟨RX9, "mouse", "(I)I"⟩
abbrev cX9_act : ByteArray := prog_11_method_33_code
def yX9_act : MethodName := ⟨RX9, "act", "(I)V"⟩
abbrev cX9_feed : ByteArray := prog_11_method_34_code
def yX9_feed : MethodName := ⟨RX9, "feed", "(JI)I"⟩
abbrev cX9_byteAt : ByteArray := prog_11_method_35_code
def yX9_byteAt : MethodName := ⟨RX9, "byteAt", "(I)I"⟩
abbrev cX9_isFigure : ByteArray := prog_11_method_36_code
def yX9_isFigure : MethodName := ⟨RX9, "isFigure", "(I)Z"⟩
abbrev cX9_step : ByteArray := prog_11_method_37_code
def yX9_step : MethodName := ⟨RX9, "step", "()V"⟩
abbrev cX9_check : ByteArray := prog_11_method_38_code
def yX9_check : MethodName := ⟨RX9, "check", "()I"⟩
abbrev cX9_runAll : ByteArray := prog_11_method_39_code
def yX9_runAll : MethodName := ⟨RX9, "runAll", "()V"⟩
abbrev cX9_run : ByteArray := prog_11_method_40_code
def yX9_run : MethodName := ⟨RX9, "run", "()I"⟩
abbrev cX9_fault : ByteArray := prog_11_method_41_code
def yX9_fault : MethodName := ⟨RX9, "fault", "()I"⟩
abbrev cX9_paint : ByteArray := prog_11_method_42_code
def yX9_paint : MethodName := ⟨RX9, "paint", "(II)I"⟩
abbrev cX9_paints : ByteArray := prog_11_method_43_code
def yX9_paints : MethodName := ⟨RX9, "paints", "(IIII)I"⟩
abbrev cX9_clashes : ByteArray := prog_11_method_44_code
def yX9_clashes : MethodName := ⟨RX9, "clashes", "()I"⟩
abbrev cX9_colourings : ByteArray := prog_11_method_45_code
def yX9_colourings : MethodName := ⟨RX9, "colourings", "(II)I"⟩
abbrev cX9_isSome : ByteArray := prog_11_method_46_code
def yX9_isSome : MethodName := ⟨RX9, "isSome", "(II)Z"⟩
abbrev cX9_coloured : ByteArray := prog_11_method_47_code
def yX9_coloured : MethodName := ⟨RX9, "coloured", "(II)I"⟩
abbrev cX9_found : ByteArray := prog_11_method_48_code
def yX9_found : MethodName := ⟨RX9, "found", "(III)I"⟩
abbrev cX9_live : ByteArray := prog_11_method_49_code
def yX9_live : MethodName := ⟨RX9, "live", "(II)I"⟩
abbrev cX9_livingIn : ByteArray := prog_11_method_50_code
def yX9_livingIn : MethodName := ⟨RX9, "livingIn", "(I)I"⟩
abbrev cX9_steps : ByteArray := prog_11_method_51_code
def yX9_steps : MethodName := ⟨RX9, "steps", "(III)I"⟩
abbrev cX9_living : ByteArray := prog_11_method_52_code
def yX9_living : MethodName := ⟨RX9, "living", "(I)I"⟩
abbrev cX9_turnedOf : ByteArray := prog_11_method_53_code
def yX9_turnedOf : MethodName := ⟨RX9, "turnedOf", "(II)I"⟩
abbrev cX9_turned : ByteArray := prog_11_method_54_code
def yX9_turned : MethodName := ⟨RX9, "turned", "(II)I"⟩
abbrev cX9_alike : ByteArray := prog_11_method_55_code
def yX9_alike : MethodName := ⟨RX9, "alike", "(I)I"⟩
abbrev cX9_orbits : ByteArray := prog_11_method_56_code
def yX9_orbits : MethodName := ⟨RX9, "orbits", "(I)I"⟩
abbrev cX9_kindOf : ByteArray := prog_11_method_57_code
def yX9_kindOf : MethodName := ⟨RX9, "kindOf", "(I)I"⟩
abbrev cX9_kind : ByteArray := prog_11_method_58_code
def yX9_kind : MethodName := ⟨RX9, "kind", "(I)I"⟩
abbrev cX9_as : ByteArray := prog_11_method_59_code
def yX9_as : MethodName := ⟨RX9, "as", "(II)I"⟩
abbrev cX9_begins : ByteArray := prog_11_method_60_code
def yX9_begins : MethodName := ⟨RX9, "begins", "(I)V"⟩
abbrev cX9_pairedSize : ByteArray := prog_11_method_61_code
def yX9_pairedSize : MethodName := ⟨RX9, "pairedSize", "(I)I"⟩
abbrev cX9_markOf : ByteArray := prog_11_method_62_code
def yX9_markOf : MethodName := ⟨RX9, "markOf", "(II)I"⟩
abbrev cX9_sizeBy : ByteArray := prog_11_method_63_code
def yX9_sizeBy : MethodName := ⟨RX9, "sizeBy", "(II)I"⟩
abbrev cX9_ask : ByteArray := prog_11_method_64_code
def yX9_ask : MethodName := ⟨RX9, "ask", "(II)I"⟩
abbrev cX9_trace : ByteArray := prog_11_method_65_code
def yX9_trace : MethodName := ⟨RX9, "trace", "(I)I"⟩
abbrev cX9_count : ByteArray := prog_11_method_66_code
def yX9_count : MethodName := ⟨RX9, "count", "(I)I"⟩
abbrev cX9_status : ByteArray := prog_11_method_67_code
def yX9_status : MethodName := ⟨RX9, "status", "()I"⟩
def RJ9 : String := "java/lang/Math"
def TJ9 : u_T := fun k => match k with
  | _ => ("", "", "", false)
def tyJ9 : Nat → FieldType := fun k => match k with
  | _ => .int
theorem nmJ9 : ∀ a, a < 0 → ∀ b, b < 0 → a ≠ b → (TJ9 a).2.1 ≠ (TJ9 b).2.1 := by decide +kernel
theorem tyJ9_ok : ∀ k, k < 0 → parseFieldDescriptor (TJ9 k).2.2.1 = some (tyJ9 k) := by decide +kernel
abbrev cJ9_max_7cf53 : ByteArray := prog_12_method_65_code
def yJ9_max_7cf53 : MethodName := ⟨RJ9, "max", "(II)I"⟩
def RJ10 : String := "java/lang/System"
def TJ10 : u_T := fun k => match k with
  | _ => ("", "", "", false)
def tyJ10 : Nat → FieldType := fun k => match k with
  | _ => .int
theorem nmJ10 : ∀ a, a < 0 → ∀ b, b < 0 → a ≠ b → (TJ10 a).2.1 ≠ (TJ10 b).2.1 := by decide +kernel
theorem tyJ10_ok : ∀ k, k < 0 → parseFieldDescriptor (TJ10 k).2.2.1 = some (tyJ10 k) := by decide +kernel
def RJ7 : String := "java/util/Arrays"
def TJ7 : u_T := fun k => match k with
  | _ => ("", "", "", false)
def tyJ7 : Nat → FieldType := fun k => match k with
  | _ => .int
theorem nmJ7 : ∀ a, a < 0 → ∀ b, b < 0 → a ≠ b → (TJ7 a).2.1 ≠ (TJ7 b).2.1 := by decide +kernel
theorem tyJ7_ok : ∀ k, k < 0 → parseFieldDescriptor (TJ7 k).2.2.1 = some (tyJ7 k) := by decide +kernel
abbrev cJ7_fill_53178 : ByteArray := prog_14_method_103_code
def yJ7_fill_53178 : MethodName := ⟨RJ7, "fill", "([II)V"⟩
def RL : String := "FarBoardsLaw"
abbrev cL_law : ByteArray := code
def yL_law : MethodName := ⟨RL, "law", "([I)Z"⟩
abbrev vwCl : List vw_C := [(RX0, TX0, 3), (RX1, TX1, 4), (RX2, TX2, 11), (RX3, TX3, 3), (RX4, TX4, 5), (RX5, TX5, 3), (RX6, TX6, 6), (RX7, TX7, 6), (RX8, TX8, 10), (RX9, TX9, 40)]
