section
-- ===== PART A: goes FIRST, ahead of the names: the tables' words, and 'selects' of the private methods out of them =====
/-- a private method of a class that the tables say can be made, by its rows of tables_1 -/
def lw_okq (q : MethodName × Nat) : Prop := (q.1.cls ≠ "java/lang/invoke/MethodHandle" ∧ q.1.cls ≠ "java/lang/invoke/VarHandle") ∧ Cond.instantiable q.1.cls q.2 ∈ tables_1 ∧ Cond.privateMethod q.1 ∈ tables_1 ∧ Cond.instanceMethod q.1 ∈ tables_1
theorem lw_p0 : lw_okq (⟨"PaperKinds", "forgetLayings", "()V"⟩, 16) := ⟨⟨by decide +kernel, by decide +kernel⟩, List.mem_of_getElem? (i := 10) (by decide +kernel), List.mem_of_getElem? (i := 185) (by decide +kernel), List.mem_of_getElem? (i := 186) (by decide +kernel)⟩
theorem lw_p1 : lw_okq (⟨"PaperKinds", "forgetPage", "(I)V"⟩, 16) := ⟨⟨by decide +kernel, by decide +kernel⟩, List.mem_of_getElem? (i := 10) (by decide +kernel), List.mem_of_getElem? (i := 189) (by decide +kernel), List.mem_of_getElem? (i := 190) (by decide +kernel)⟩
theorem lw_p2 : lw_okq (⟨"PaperKinds", "isPage", "(I)Z"⟩, 16) := ⟨⟨by decide +kernel, by decide +kernel⟩, List.mem_of_getElem? (i := 10) (by decide +kernel), List.mem_of_getElem? (i := 251) (by decide +kernel), List.mem_of_getElem? (i := 252) (by decide +kernel)⟩
theorem lw_p3 : lw_okq (⟨"PaperKinds", "remake", "(I)V"⟩, 16) := ⟨⟨by decide +kernel, by decide +kernel⟩, List.mem_of_getElem? (i := 10) (by decide +kernel), List.mem_of_getElem? (i := 266) (by decide +kernel), List.mem_of_getElem? (i := 267) (by decide +kernel)⟩
theorem lw_p4 : lw_okq (⟨"PaperKinds$Maker", "countCarriers", "(LPaperKinds$Kind;I[LPaperKinds$Sheet;[I)V"⟩, 3) := ⟨⟨by decide +kernel, by decide +kernel⟩, List.mem_of_getElem? (i := 94) (by decide +kernel), List.mem_of_getElem? (i := 282) (by decide +kernel), List.mem_of_getElem? (i := 283) (by decide +kernel)⟩
theorem lw_p5 : lw_okq (⟨"PaperKinds$Maker", "gather", "(II[LPaperKinds$Sheet;[I)I"⟩, 3) := ⟨⟨by decide +kernel, by decide +kernel⟩, List.mem_of_getElem? (i := 94) (by decide +kernel), List.mem_of_getElem? (i := 286) (by decide +kernel), List.mem_of_getElem? (i := 287) (by decide +kernel)⟩
theorem lw_p6 : lw_okq (⟨"PaperKinds", "isTellable", "(II)Z"⟩, 16) := ⟨⟨by decide +kernel, by decide +kernel⟩, List.mem_of_getElem? (i := 10) (by decide +kernel), List.mem_of_getElem? (i := 302) (by decide +kernel), List.mem_of_getElem? (i := 303) (by decide +kernel)⟩
theorem lw_p7 : lw_okq (⟨"PaperKinds", "hasPages", "(I)Z"⟩, 16) := ⟨⟨by decide +kernel, by decide +kernel⟩, List.mem_of_getElem? (i := 10) (by decide +kernel), List.mem_of_getElem? (i := 326) (by decide +kernel), List.mem_of_getElem? (i := 327) (by decide +kernel)⟩
theorem lw_p8 : lw_okq (⟨"PaperKinds", "laying", "(ILPaperKinds$Kind;)J"⟩, 16) := ⟨⟨by decide +kernel, by decide +kernel⟩, List.mem_of_getElem? (i := 10) (by decide +kernel), List.mem_of_getElem? (i := 330) (by decide +kernel), List.mem_of_getElem? (i := 331) (by decide +kernel)⟩
theorem lw_p9 : lw_okq (⟨"PaperKinds$Layer", "setUp", "(LPaperKinds$Sheet;LPaperKinds$Sheet;)V"⟩, 19) := ⟨⟨by decide +kernel, by decide +kernel⟩, List.mem_of_getElem? (i := 22) (by decide +kernel), List.mem_of_getElem? (i := 341) (by decide +kernel), List.mem_of_getElem? (i := 342) (by decide +kernel)⟩
theorem lw_p10 : lw_okq (⟨"PaperKinds$Layer", "cheapestAt", "(IJ)J"⟩, 19) := ⟨⟨by decide +kernel, by decide +kernel⟩, List.mem_of_getElem? (i := 22) (by decide +kernel), List.mem_of_getElem? (i := 350) (by decide +kernel), List.mem_of_getElem? (i := 351) (by decide +kernel)⟩
theorem lw_p11 : lw_okq (⟨"PaperKinds$Layer", "fillCells", "(II)V"⟩, 19) := ⟨⟨by decide +kernel, by decide +kernel⟩, List.mem_of_getElem? (i := 22) (by decide +kernel), List.mem_of_getElem? (i := 364) (by decide +kernel), List.mem_of_getElem? (i := 365) (by decide +kernel)⟩
theorem lw_p12 : lw_okq (⟨"PaperKinds$Layer", "leastWithoutRivals", "()J"⟩, 19) := ⟨⟨by decide +kernel, by decide +kernel⟩, List.mem_of_getElem? (i := 22) (by decide +kernel), List.mem_of_getElem? (i := 368) (by decide +kernel), List.mem_of_getElem? (i := 369) (by decide +kernel)⟩
theorem lw_p13 : lw_okq (⟨"PaperKinds$Layer", "clearPrices", "()V"⟩, 19) := ⟨⟨by decide +kernel, by decide +kernel⟩, List.mem_of_getElem? (i := 22) (by decide +kernel), List.mem_of_getElem? (i := 375) (by decide +kernel), List.mem_of_getElem? (i := 376) (by decide +kernel)⟩
theorem lw_p14 : lw_okq (⟨"PaperKinds$Layer", "insert", "(I)J"⟩, 19) := ⟨⟨by decide +kernel, by decide +kernel⟩, List.mem_of_getElem? (i := 22) (by decide +kernel), List.mem_of_getElem? (i := 379) (by decide +kernel), List.mem_of_getElem? (i := 380) (by decide +kernel)⟩
theorem lw_p15 : lw_okq (⟨"PaperKinds$Layer", "reach", "(II)I"⟩, 19) := ⟨⟨by decide +kernel, by decide +kernel⟩, List.mem_of_getElem? (i := 22) (by decide +kernel), List.mem_of_getElem? (i := 383) (by decide +kernel), List.mem_of_getElem? (i := 384) (by decide +kernel)⟩
def lw_privs_1 : List (MethodName × Nat) := [(⟨"PaperKinds", "forgetLayings", "()V"⟩, 16), (⟨"PaperKinds", "forgetPage", "(I)V"⟩, 16), (⟨"PaperKinds", "isPage", "(I)Z"⟩, 16), (⟨"PaperKinds", "remake", "(I)V"⟩, 16), (⟨"PaperKinds$Maker", "countCarriers", "(LPaperKinds$Kind;I[LPaperKinds$Sheet;[I)V"⟩, 3), (⟨"PaperKinds$Maker", "gather", "(II[LPaperKinds$Sheet;[I)I"⟩, 3), (⟨"PaperKinds", "isTellable", "(II)Z"⟩, 16), (⟨"PaperKinds", "hasPages", "(I)Z"⟩, 16), (⟨"PaperKinds", "laying", "(ILPaperKinds$Kind;)J"⟩, 16), (⟨"PaperKinds$Layer", "setUp", "(LPaperKinds$Sheet;LPaperKinds$Sheet;)V"⟩, 19), (⟨"PaperKinds$Layer", "cheapestAt", "(IJ)J"⟩, 19), (⟨"PaperKinds$Layer", "fillCells", "(II)V"⟩, 19), (⟨"PaperKinds$Layer", "leastWithoutRivals", "()J"⟩, 19), (⟨"PaperKinds$Layer", "clearPrices", "()V"⟩, 19), (⟨"PaperKinds$Layer", "insert", "(I)J"⟩, 19), (⟨"PaperKinds$Layer", "reach", "(II)I"⟩, 19)]
theorem lw_r1 : ∀ q ∈ lw_privs_1, lw_okq q := List.forall_mem_cons.mpr ⟨lw_p0, List.forall_mem_cons.mpr ⟨lw_p1, List.forall_mem_cons.mpr ⟨lw_p2, List.forall_mem_cons.mpr ⟨lw_p3, List.forall_mem_cons.mpr ⟨lw_p4, List.forall_mem_cons.mpr ⟨lw_p5, List.forall_mem_cons.mpr ⟨lw_p6, List.forall_mem_cons.mpr ⟨lw_p7, List.forall_mem_cons.mpr ⟨lw_p8, List.forall_mem_cons.mpr ⟨lw_p9, List.forall_mem_cons.mpr ⟨lw_p10, List.forall_mem_cons.mpr ⟨lw_p11, List.forall_mem_cons.mpr ⟨lw_p12, List.forall_mem_cons.mpr ⟨lw_p13, List.forall_mem_cons.mpr ⟨lw_p14, List.forall_mem_cons.mpr ⟨lw_p15, fun _ h => absurd h List.not_mem_nil⟩⟩⟩⟩⟩⟩⟩⟩⟩⟩⟩⟩⟩⟩⟩⟩
theorem lw_p16 : lw_okq (⟨"PaperKinds$Layer", "raisePrices", "(IJ)V"⟩, 19) := ⟨⟨by decide +kernel, by decide +kernel⟩, List.mem_of_getElem? (i := 22) (by decide +kernel), List.mem_of_getElem? (i := 387) (by decide +kernel), List.mem_of_getElem? (i := 388) (by decide +kernel)⟩
theorem lw_p17 : lw_okq (⟨"PaperKinds$Layer", "handOn", "(II)V"⟩, 19) := ⟨⟨by decide +kernel, by decide +kernel⟩, List.mem_of_getElem? (i := 22) (by decide +kernel), List.mem_of_getElem? (i := 391) (by decide +kernel), List.mem_of_getElem? (i := 392) (by decide +kernel)⟩
theorem lw_p18 : lw_okq (⟨"PaperKinds", "rank", "(I[LPaperKinds$Kind;)I"⟩, 16) := ⟨⟨by decide +kernel, by decide +kernel⟩, List.mem_of_getElem? (i := 10) (by decide +kernel), List.mem_of_getElem? (i := 423) (by decide +kernel), List.mem_of_getElem? (i := 424) (by decide +kernel)⟩
theorem lw_p19 : lw_okq (⟨"PaperKinds", "findHeaps", "()V"⟩, 16) := ⟨⟨by decide +kernel, by decide +kernel⟩, List.mem_of_getElem? (i := 10) (by decide +kernel), List.mem_of_getElem? (i := 457) (by decide +kernel), List.mem_of_getElem? (i := 458) (by decide +kernel)⟩
theorem lw_p20 : lw_okq (⟨"PaperKinds", "nearCost", "(II)I"⟩, 16) := ⟨⟨by decide +kernel, by decide +kernel⟩, List.mem_of_getElem? (i := 10) (by decide +kernel), List.mem_of_getElem? (i := 461) (by decide +kernel), List.mem_of_getElem? (i := 462) (by decide +kernel)⟩
theorem lw_p21 : lw_okq (⟨"PaperKinds", "joinHeaps", "(II)V"⟩, 16) := ⟨⟨by decide +kernel, by decide +kernel⟩, List.mem_of_getElem? (i := 10) (by decide +kernel), List.mem_of_getElem? (i := 465) (by decide +kernel), List.mem_of_getElem? (i := 466) (by decide +kernel)⟩
theorem lw_p22 : lw_okq (⟨"PaperKinds", "tryTelling", "(II)V"⟩, 16) := ⟨⟨by decide +kernel, by decide +kernel⟩, List.mem_of_getElem? (i := 10) (by decide +kernel), List.mem_of_getElem? (i := 488) (by decide +kernel), List.mem_of_getElem? (i := 489) (by decide +kernel)⟩
theorem lw_p23 : lw_okq (⟨"PaperKinds", "tryMaking", "(LPaperKinds$Kind;I)V"⟩, 16) := ⟨⟨by decide +kernel, by decide +kernel⟩, List.mem_of_getElem? (i := 10) (by decide +kernel), List.mem_of_getElem? (i := 492) (by decide +kernel), List.mem_of_getElem? (i := 493) (by decide +kernel)⟩
theorem lw_p24 : lw_okq (⟨"PaperKinds", "boxesAskedFor", "(I)I"⟩, 16) := ⟨⟨by decide +kernel, by decide +kernel⟩, List.mem_of_getElem? (i := 10) (by decide +kernel), List.mem_of_getElem? (i := 500) (by decide +kernel), List.mem_of_getElem? (i := 501) (by decide +kernel)⟩
theorem lw_p25 : lw_okq (⟨"PaperKindsModel", "changes", "()V"⟩, 39) := ⟨⟨by decide +kernel, by decide +kernel⟩, List.mem_of_getElem? (i := 504) (by decide +kernel), List.mem_of_getElem? (i := 632) (by decide +kernel), List.mem_of_getElem? (i := 633) (by decide +kernel)⟩
theorem lw_p26 : lw_okq (⟨"PaperKindsModel", "isPage", "(I)Z"⟩, 39) := ⟨⟨by decide +kernel, by decide +kernel⟩, List.mem_of_getElem? (i := 504) (by decide +kernel), List.mem_of_getElem? (i := 640) (by decide +kernel), List.mem_of_getElem? (i := 641) (by decide +kernel)⟩
theorem lw_p27 : lw_okq (⟨"PaperKindsModel", "makes", "()V"⟩, 39) := ⟨⟨by decide +kernel, by decide +kernel⟩, List.mem_of_getElem? (i := 504) (by decide +kernel), List.mem_of_getElem? (i := 663) (by decide +kernel), List.mem_of_getElem? (i := 664) (by decide +kernel)⟩
theorem lw_p28 : lw_okq (⟨"PaperKindsModel", "makesSpot", "(II)V"⟩, 39) := ⟨⟨by decide +kernel, by decide +kernel⟩, List.mem_of_getElem? (i := 504) (by decide +kernel), List.mem_of_getElem? (i := 667) (by decide +kernel), List.mem_of_getElem? (i := 668) (by decide +kernel)⟩
theorem lw_p29 : lw_okq (⟨"PaperKindsModel", "boxWith", "(II)I"⟩, 39) := ⟨⟨by decide +kernel, by decide +kernel⟩, List.mem_of_getElem? (i := 504) (by decide +kernel), List.mem_of_getElem? (i := 671) (by decide +kernel), List.mem_of_getElem? (i := 672) (by decide +kernel)⟩
theorem lw_p30 : lw_okq (⟨"PaperKindsModel", "middle", "(I)I"⟩, 39) := ⟨⟨by decide +kernel, by decide +kernel⟩, List.mem_of_getElem? (i := 504) (by decide +kernel), List.mem_of_getElem? (i := 675) (by decide +kernel), List.mem_of_getElem? (i := 676) (by decide +kernel)⟩
theorem lw_p31 : lw_okq (⟨"PaperKindsModel", "isLaid", "(II)Z"⟩, 39) := ⟨⟨by decide +kernel, by decide +kernel⟩, List.mem_of_getElem? (i := 504) (by decide +kernel), List.mem_of_getElem? (i := 687) (by decide +kernel), List.mem_of_getElem? (i := 688) (by decide +kernel)⟩
def lw_privs_2 : List (MethodName × Nat) := [(⟨"PaperKinds$Layer", "raisePrices", "(IJ)V"⟩, 19), (⟨"PaperKinds$Layer", "handOn", "(II)V"⟩, 19), (⟨"PaperKinds", "rank", "(I[LPaperKinds$Kind;)I"⟩, 16), (⟨"PaperKinds", "findHeaps", "()V"⟩, 16), (⟨"PaperKinds", "nearCost", "(II)I"⟩, 16), (⟨"PaperKinds", "joinHeaps", "(II)V"⟩, 16), (⟨"PaperKinds", "tryTelling", "(II)V"⟩, 16), (⟨"PaperKinds", "tryMaking", "(LPaperKinds$Kind;I)V"⟩, 16), (⟨"PaperKinds", "boxesAskedFor", "(I)I"⟩, 16), (⟨"PaperKindsModel", "changes", "()V"⟩, 39), (⟨"PaperKindsModel", "isPage", "(I)Z"⟩, 39), (⟨"PaperKindsModel", "makes", "()V"⟩, 39), (⟨"PaperKindsModel", "makesSpot", "(II)V"⟩, 39), (⟨"PaperKindsModel", "boxWith", "(II)I"⟩, 39), (⟨"PaperKindsModel", "middle", "(I)I"⟩, 39), (⟨"PaperKindsModel", "isLaid", "(II)Z"⟩, 39)]
theorem lw_r2 : ∀ q ∈ lw_privs_2, lw_okq q := List.forall_mem_cons.mpr ⟨lw_p16, List.forall_mem_cons.mpr ⟨lw_p17, List.forall_mem_cons.mpr ⟨lw_p18, List.forall_mem_cons.mpr ⟨lw_p19, List.forall_mem_cons.mpr ⟨lw_p20, List.forall_mem_cons.mpr ⟨lw_p21, List.forall_mem_cons.mpr ⟨lw_p22, List.forall_mem_cons.mpr ⟨lw_p23, List.forall_mem_cons.mpr ⟨lw_p24, List.forall_mem_cons.mpr ⟨lw_p25, List.forall_mem_cons.mpr ⟨lw_p26, List.forall_mem_cons.mpr ⟨lw_p27, List.forall_mem_cons.mpr ⟨lw_p28, List.forall_mem_cons.mpr ⟨lw_p29, List.forall_mem_cons.mpr ⟨lw_p30, List.forall_mem_cons.mpr ⟨lw_p31, fun _ h => absurd h List.not_mem_nil⟩⟩⟩⟩⟩⟩⟩⟩⟩⟩⟩⟩⟩⟩⟩⟩
theorem lw_p32 : lw_okq (⟨"PaperKindsModel", "isKind", "(I)Z"⟩, 39) := ⟨⟨by decide +kernel, by decide +kernel⟩, List.mem_of_getElem? (i := 504) (by decide +kernel), List.mem_of_getElem? (i := 691) (by decide +kernel), List.mem_of_getElem? (i := 692) (by decide +kernel)⟩
theorem lw_p33 : lw_okq (⟨"PaperKindsModel", "takesPage", "(I)V"⟩, 39) := ⟨⟨by decide +kernel, by decide +kernel⟩, List.mem_of_getElem? (i := 504) (by decide +kernel), List.mem_of_getElem? (i := 695) (by decide +kernel), List.mem_of_getElem? (i := 696) (by decide +kernel)⟩
theorem lw_p34 : lw_okq (⟨"PaperKindsModel", "takesSpots", "(I)V"⟩, 39) := ⟨⟨by decide +kernel, by decide +kernel⟩, List.mem_of_getElem? (i := 504) (by decide +kernel), List.mem_of_getElem? (i := 699) (by decide +kernel), List.mem_of_getElem? (i := 700) (by decide +kernel)⟩
theorem lw_p35 : lw_okq (⟨"PaperKindsModel", "seeks", "()V"⟩, 39) := ⟨⟨by decide +kernel, by decide +kernel⟩, List.mem_of_getElem? (i := 504) (by decide +kernel), List.mem_of_getElem? (i := 703) (by decide +kernel), List.mem_of_getElem? (i := 704) (by decide +kernel)⟩
theorem lw_p36 : lw_okq (⟨"PaperKindsModel", "byMove", "(II)I"⟩, 39) := ⟨⟨by decide +kernel, by decide +kernel⟩, List.mem_of_getElem? (i := 504) (by decide +kernel), List.mem_of_getElem? (i := 708) (by decide +kernel), List.mem_of_getElem? (i := 709) (by decide +kernel)⟩
theorem lw_p37 : lw_okq (⟨"PaperKindsModel", "lays", "(IIII)I"⟩, 39) := ⟨⟨by decide +kernel, by decide +kernel⟩, List.mem_of_getElem? (i := 504) (by decide +kernel), List.mem_of_getElem? (i := 712) (by decide +kernel), List.mem_of_getElem? (i := 713) (by decide +kernel)⟩
theorem lw_p38 : lw_okq (⟨"PaperKindsModel", "places", "()V"⟩, 39) := ⟨⟨by decide +kernel, by decide +kernel⟩, List.mem_of_getElem? (i := 504) (by decide +kernel), List.mem_of_getElem? (i := 719) (by decide +kernel), List.mem_of_getElem? (i := 720) (by decide +kernel)⟩
theorem lw_p39 : lw_okq (⟨"PaperKindsModel", "sortOf", "(I)I"⟩, 39) := ⟨⟨by decide +kernel, by decide +kernel⟩, List.mem_of_getElem? (i := 504) (by decide +kernel), List.mem_of_getElem? (i := 735) (by decide +kernel), List.mem_of_getElem? (i := 736) (by decide +kernel)⟩
theorem lw_p40 : lw_okq (⟨"PaperKindsModel", "looks", "(I)V"⟩, 39) := ⟨⟨by decide +kernel, by decide +kernel⟩, List.mem_of_getElem? (i := 504) (by decide +kernel), List.mem_of_getElem? (i := 739) (by decide +kernel), List.mem_of_getElem? (i := 740) (by decide +kernel)⟩
theorem lw_p41 : lw_okq (⟨"PaperKindsModel", "costOf", "(II)I"⟩, 39) := ⟨⟨by decide +kernel, by decide +kernel⟩, List.mem_of_getElem? (i := 504) (by decide +kernel), List.mem_of_getElem? (i := 743) (by decide +kernel), List.mem_of_getElem? (i := 744) (by decide +kernel)⟩
theorem lw_p42 : lw_okq (⟨"PaperKindsModel", "gathers", "()V"⟩, 39) := ⟨⟨by decide +kernel, by decide +kernel⟩, List.mem_of_getElem? (i := 504) (by decide +kernel), List.mem_of_getElem? (i := 759) (by decide +kernel), List.mem_of_getElem? (i := 760) (by decide +kernel)⟩
theorem lw_p43 : lw_okq (⟨"PaperKindsModel", "isUnknown", "(I)Z"⟩, 39) := ⟨⟨by decide +kernel, by decide +kernel⟩, List.mem_of_getElem? (i := 504) (by decide +kernel), List.mem_of_getElem? (i := 763) (by decide +kernel), List.mem_of_getElem? (i := 764) (by decide +kernel)⟩
theorem lw_p44 : lw_okq (⟨"PaperKindsModel", "isNear", "(II)Z"⟩, 39) := ⟨⟨by decide +kernel, by decide +kernel⟩, List.mem_of_getElem? (i := 504) (by decide +kernel), List.mem_of_getElem? (i := 767) (by decide +kernel), List.mem_of_getElem? (i := 768) (by decide +kernel)⟩
theorem lw_p45 : lw_okq (⟨"PaperKindsModel", "joins", "(II)V"⟩, 39) := ⟨⟨by decide +kernel, by decide +kernel⟩, List.mem_of_getElem? (i := 504) (by decide +kernel), List.mem_of_getElem? (i := 771) (by decide +kernel), List.mem_of_getElem? (i := 772) (by decide +kernel)⟩
theorem lw_p46 : lw_okq (⟨"PaperKindsModel", "toldBy", "(II)I"⟩, 39) := ⟨⟨by decide +kernel, by decide +kernel⟩, List.mem_of_getElem? (i := 504) (by decide +kernel), List.mem_of_getElem? (i := 783) (by decide +kernel), List.mem_of_getElem? (i := 784) (by decide +kernel)⟩
theorem lw_p47 : lw_okq (⟨"PaperKindsModel", "spotWith", "(II)I"⟩, 39) := ⟨⟨by decide +kernel, by decide +kernel⟩, List.mem_of_getElem? (i := 504) (by decide +kernel), List.mem_of_getElem? (i := 787) (by decide +kernel), List.mem_of_getElem? (i := 788) (by decide +kernel)⟩
def lw_privs_3 : List (MethodName × Nat) := [(⟨"PaperKindsModel", "isKind", "(I)Z"⟩, 39), (⟨"PaperKindsModel", "takesPage", "(I)V"⟩, 39), (⟨"PaperKindsModel", "takesSpots", "(I)V"⟩, 39), (⟨"PaperKindsModel", "seeks", "()V"⟩, 39), (⟨"PaperKindsModel", "byMove", "(II)I"⟩, 39), (⟨"PaperKindsModel", "lays", "(IIII)I"⟩, 39), (⟨"PaperKindsModel", "places", "()V"⟩, 39), (⟨"PaperKindsModel", "sortOf", "(I)I"⟩, 39), (⟨"PaperKindsModel", "looks", "(I)V"⟩, 39), (⟨"PaperKindsModel", "costOf", "(II)I"⟩, 39), (⟨"PaperKindsModel", "gathers", "()V"⟩, 39), (⟨"PaperKindsModel", "isUnknown", "(I)Z"⟩, 39), (⟨"PaperKindsModel", "isNear", "(II)Z"⟩, 39), (⟨"PaperKindsModel", "joins", "(II)V"⟩, 39), (⟨"PaperKindsModel", "toldBy", "(II)I"⟩, 39), (⟨"PaperKindsModel", "spotWith", "(II)I"⟩, 39)]
theorem lw_r3 : ∀ q ∈ lw_privs_3, lw_okq q := List.forall_mem_cons.mpr ⟨lw_p32, List.forall_mem_cons.mpr ⟨lw_p33, List.forall_mem_cons.mpr ⟨lw_p34, List.forall_mem_cons.mpr ⟨lw_p35, List.forall_mem_cons.mpr ⟨lw_p36, List.forall_mem_cons.mpr ⟨lw_p37, List.forall_mem_cons.mpr ⟨lw_p38, List.forall_mem_cons.mpr ⟨lw_p39, List.forall_mem_cons.mpr ⟨lw_p40, List.forall_mem_cons.mpr ⟨lw_p41, List.forall_mem_cons.mpr ⟨lw_p42, List.forall_mem_cons.mpr ⟨lw_p43, List.forall_mem_cons.mpr ⟨lw_p44, List.forall_mem_cons.mpr ⟨lw_p45, List.forall_mem_cons.mpr ⟨lw_p46, List.forall_mem_cons.mpr ⟨lw_p47, fun _ h => absurd h List.not_mem_nil⟩⟩⟩⟩⟩⟩⟩⟩⟩⟩⟩⟩⟩⟩⟩⟩
theorem lw_p48 : lw_okq (⟨"PaperKindsModel", "areVersions", "(II)Z"⟩, 39) := ⟨⟨by decide +kernel, by decide +kernel⟩, List.mem_of_getElem? (i := 504) (by decide +kernel), List.mem_of_getElem? (i := 791) (by decide +kernel), List.mem_of_getElem? (i := 792) (by decide +kernel)⟩
def lw_privs_4 : List (MethodName × Nat) := [(⟨"PaperKindsModel", "areVersions", "(II)Z"⟩, 39)]
theorem lw_r4 : ∀ q ∈ lw_privs_4, lw_okq q := List.forall_mem_cons.mpr ⟨lw_p48, fun _ h => absurd h List.not_mem_nil⟩
def lw_privs : List (MethodName × Nat) := lw_privs_1 ++ (lw_privs_2 ++ (lw_privs_3 ++ (lw_privs_4)))
def lw_tbl : List Cond := k2_sels lw_privs ++ tables_1
theorem lw_privs_ok : ∀ q ∈ lw_privs, lw_okq q := by
  show ∀ q ∈ lw_privs_1 ++ (lw_privs_2 ++ (lw_privs_3 ++ (lw_privs_4))), lw_okq q
  exact List.forall_mem_append.mpr ⟨lw_r1, List.forall_mem_append.mpr ⟨lw_r2, List.forall_mem_append.mpr ⟨lw_r3, lw_r4⟩⟩⟩
end
section
def RX0 : String := "PaperKinds$Kind"
def TX0 : u_T := fun k => match k with
  | 0 => ("PaperKinds$Kind", "spots", "LPaperKinds$Sheet;", true)
  | 1 => ("PaperKinds$Kind", "layings", "[J", true)
  | _ => ("PaperKinds$Kind", "pageCount", "I", false)
def tyX0 : Nat → FieldType := fun k => match k with
  | 0 => .object "PaperKinds$Sheet"
  | 1 => .array .long
  | _ => .int
theorem nmX0 : ∀ a, a < 3 → ∀ b, b < 3 → a ≠ b → (TX0 a).2.1 ≠ (TX0 b).2.1 := by decide +kernel
theorem tyX0_ok : ∀ k, k < 3 → parseFieldDescriptor (TX0 k).2.2.1 = some (tyX0 k) := by decide +kernel
abbrev cX0_init : ByteArray := prog_2_method_1_code
def yX0_init : MethodName := ⟨RX0, "<init>", "()V"⟩
abbrev cX0_clear : ByteArray := prog_2_method_2_code
def yX0_clear : MethodName := ⟨RX0, "clear", "()V"⟩
def RX1 : String := "PaperKinds$Layer"
def TX1 : u_T := fun k => match k with
  | 0 => ("PaperKinds$Layer", "move", "I", false)
  | 1 => ("PaperKinds$Layer", "far", "I", false)
  | 2 => ("PaperKinds$Layer", "code", "I", false)
  | 3 => ("PaperKinds$Layer", "miss", "I", false)
  | 4 => ("PaperKinds$Layer", "extra", "I", false)
  | 5 => ("PaperKinds$Layer", "boxCount", "I", false)
  | 6 => ("PaperKinds$Layer", "spotCount", "I", false)
  | 7 => ("PaperKinds$Layer", "allMissed", "J", false)
  | 8 => ("PaperKinds$Layer", "crowded", "Z", false)
  | 9 => ("PaperKinds$Layer", "across", "[I", true)
  | 10 => ("PaperKinds$Layer", "down", "[I", true)
  | 11 => ("PaperKinds$Layer", "fixed", "[J", true)
  | 12 => ("PaperKinds$Layer", "cells", "[J", true)
  | 13 => ("PaperKinds$Layer", "boxPrices", "[J", true)
  | 14 => ("PaperKinds$Layer", "columnPrices", "[J", true)
  | 15 => ("PaperKinds$Layer", "boxOn", "[I", true)
  | 16 => ("PaperKinds$Layer", "slack", "[J", true)
  | 17 => ("PaperKinds$Layer", "cameFrom", "[I", true)
  | _ => ("PaperKinds$Layer", "reached", "[Z", true)
def tyX1 : Nat → FieldType := fun k => match k with
  | 0 => .int
  | 1 => .int
  | 2 => .int
  | 3 => .int
  | 4 => .int
  | 5 => .int
  | 6 => .int
  | 7 => .long
  | 8 => .boolean
  | 9 => .array .int
  | 10 => .array .int
  | 11 => .array .long
  | 12 => .array .long
  | 13 => .array .long
  | 14 => .array .long
  | 15 => .array .int
  | 16 => .array .long
  | 17 => .array .int
  | _ => .array .boolean
theorem nmX1 : ∀ a, a < 19 → ∀ b, b < 19 → a ≠ b → (TX1 a).2.1 ≠ (TX1 b).2.1 := by decide +kernel
theorem tyX1_ok : ∀ k, k < 19 → parseFieldDescriptor (TX1 k).2.2.1 = some (tyX1 k) := by decide +kernel
abbrev cX1_init : ByteArray := prog_3_method_1_code
def yX1_init : MethodName := ⟨RX1, "<init>", "()V"⟩
abbrev cX1_cheapest : ByteArray := prog_3_method_2_code
def yX1_cheapest : MethodName := ⟨RX1, "cheapest", "(LPaperKinds$Sheet;LPaperKinds$Sheet;)J"⟩
abbrev cX1_setUp : ByteArray := prog_3_method_3_code
def yX1_setUp : MethodName := ⟨RX1, "setUp", "(LPaperKinds$Sheet;LPaperKinds$Sheet;)V"⟩
abbrev cX1_cheapestAt : ByteArray := prog_3_method_4_code
def yX1_cheapestAt : MethodName := ⟨RX1, "cheapestAt", "(IJ)J"⟩
abbrev cX1_fillCells : ByteArray := prog_3_method_5_code
def yX1_fillCells : MethodName := ⟨RX1, "fillCells", "(II)V"⟩
abbrev cX1_leastWithoutRivals : ByteArray := prog_3_method_6_code
def yX1_leastWithoutRivals : MethodName := ⟨RX1, "leastWithoutRivals", "()J"⟩
abbrev cX1_clearPrices : ByteArray := prog_3_method_7_code
def yX1_clearPrices : MethodName := ⟨RX1, "clearPrices", "()V"⟩
abbrev cX1_insert : ByteArray := prog_3_method_8_code
def yX1_insert : MethodName := ⟨RX1, "insert", "(I)J"⟩
abbrev cX1_reach : ByteArray := prog_3_method_9_code
def yX1_reach : MethodName := ⟨RX1, "reach", "(II)I"⟩
abbrev cX1_raisePrices : ByteArray := prog_3_method_10_code
def yX1_raisePrices : MethodName := ⟨RX1, "raisePrices", "(IJ)V"⟩
abbrev cX1_handOn : ByteArray := prog_3_method_11_code
def yX1_handOn : MethodName := ⟨RX1, "handOn", "(II)V"⟩
def RX2 : String := "PaperKinds$Maker"
def TX2 : u_T := fun k => match k with
  | 0 => ("PaperKinds$Maker", "carriers", "[I", true)
  | 1 => ("PaperKinds$Maker", "xs", "[I", true)
  | _ => ("PaperKinds$Maker", "ys", "[I", true)
def tyX2 : Nat → FieldType := fun k => match k with
  | 0 => .array .int
  | 1 => .array .int
  | _ => .array .int
theorem nmX2 : ∀ a, a < 3 → ∀ b, b < 3 → a ≠ b → (TX2 a).2.1 ≠ (TX2 b).2.1 := by decide +kernel
theorem tyX2_ok : ∀ k, k < 3 → parseFieldDescriptor (TX2 k).2.2.1 = some (tyX2 k) := by decide +kernel
abbrev cX2_init : ByteArray := prog_4_method_1_code
def yX2_init : MethodName := ⟨RX2, "<init>", "()V"⟩
abbrev cX2_make : ByteArray := prog_4_method_2_code
def yX2_make : MethodName := ⟨RX2, "make", "(LPaperKinds$Kind;I[LPaperKinds$Sheet;[I)V"⟩
abbrev cX2_countCarriers : ByteArray := prog_4_method_3_code
def yX2_countCarriers : MethodName := ⟨RX2, "countCarriers", "(LPaperKinds$Kind;I[LPaperKinds$Sheet;[I)V"⟩
abbrev cX2_gather : ByteArray := prog_4_method_4_code
def yX2_gather : MethodName := ⟨RX2, "gather", "(II[LPaperKinds$Sheet;[I)I"⟩
abbrev cX2_putByRising : ByteArray := prog_4_method_5_code
def yX2_putByRising : MethodName := ⟨RX2, "putByRising", "([III)V"⟩
abbrev cX2_middle : ByteArray := prog_4_method_6_code
def yX2_middle : MethodName := ⟨RX2, "middle", "([II)I"⟩
def RX3 : String := "PaperKinds$Ranking"
def TX3 : u_T := fun k => match k with
  | 0 => ("PaperKinds$Ranking", "best", "I", false)
  | 1 => ("PaperKinds$Ranking", "least", "I", false)
  | _ => ("PaperKinds$Ranking", "next", "I", false)
def tyX3 : Nat → FieldType := fun k => match k with
  | 0 => .int
  | 1 => .int
  | _ => .int
theorem nmX3 : ∀ a, a < 3 → ∀ b, b < 3 → a ≠ b → (TX3 a).2.1 ≠ (TX3 b).2.1 := by decide +kernel
theorem tyX3_ok : ∀ k, k < 3 → parseFieldDescriptor (TX3 k).2.2.1 = some (tyX3 k) := by decide +kernel
abbrev cX3_init : ByteArray := prog_5_method_1_code
def yX3_init : MethodName := ⟨RX3, "<init>", "()V"⟩
abbrev cX3_clear : ByteArray := prog_5_method_2_code
def yX3_clear : MethodName := ⟨RX3, "clear", "()V"⟩
abbrev cX3_take : ByteArray := prog_5_method_3_code
def yX3_take : MethodName := ⟨RX3, "take", "(II)V"⟩
abbrev cX3_spread : ByteArray := prog_5_method_4_code
def yX3_spread : MethodName := ⟨RX3, "spread", "()I"⟩
abbrev cX3_answer : ByteArray := prog_5_method_5_code
def yX3_answer : MethodName := ⟨RX3, "answer", "(II)I"⟩
def RX4 : String := "PaperKinds$Sheet"
def TX4 : u_T := fun k => match k with
  | 0 => ("PaperKinds$Sheet", "codes", "[I", true)
  | 1 => ("PaperKinds$Sheet", "xs", "[I", true)
  | 2 => ("PaperKinds$Sheet", "ys", "[I", true)
  | 3 => ("PaperKinds$Sheet", "always", "[Z", true)
  | _ => ("PaperKinds$Sheet", "count", "I", false)
def tyX4 : Nat → FieldType := fun k => match k with
  | 0 => .array .int
  | 1 => .array .int
  | 2 => .array .int
  | 3 => .array .boolean
  | _ => .int
theorem nmX4 : ∀ a, a < 5 → ∀ b, b < 5 → a ≠ b → (TX4 a).2.1 ≠ (TX4 b).2.1 := by decide +kernel
theorem tyX4_ok : ∀ k, k < 5 → parseFieldDescriptor (TX4 k).2.2.1 = some (tyX4 k) := by decide +kernel
abbrev cX4_init : ByteArray := prog_6_method_1_code
def yX4_init : MethodName := ⟨RX4, "<init>", "(I)V"⟩
abbrev cX4_add : ByteArray := prog_6_method_2_code
def yX4_add : MethodName := ⟨RX4, "add", "(IIIZ)V"⟩
abbrev cX4_find : ByteArray := prog_6_method_3_code
def yX4_find : MethodName := ⟨RX4, "find", "(I)I"⟩
def RX5 : String := "PaperKinds"
def TX5 : u_T := fun k => match k with
  | 0 => ("PaperKinds", "pages", "[LPaperKinds$Sheet;", true)
  | 1 => ("PaperKinds", "tellings", "[I", true)
  | 2 => ("PaperKinds", "kinds", "[LPaperKinds$Kind;", true)
  | 3 => ("PaperKinds", "layer", "LPaperKinds$Layer;", true)
  | 4 => ("PaperKinds", "maker", "LPaperKinds$Maker;", true)
  | 5 => ("PaperKinds", "ranking", "LPaperKinds$Ranking;", true)
  | 6 => ("PaperKinds", "triedTellings", "[I", true)
  | 7 => ("PaperKinds", "triedKinds", "[LPaperKinds$Kind;", true)
  | 8 => ("PaperKinds", "leftKind", "LPaperKinds$Kind;", true)
  | 9 => ("PaperKinds", "joinedKind", "LPaperKinds$Kind;", true)
  | 10 => ("PaperKinds", "nearCosts", "[I", true)
  | 11 => ("PaperKinds", "heapOf", "[I", true)
  | 12 => ("PaperKinds", "pageCount", "I", false)
  | 13 => ("PaperKinds", "limit", "I", false)
  | 14 => ("PaperKinds", "gap", "I", false)
  | _ => ("PaperKinds", "nearness", "I", false)
def tyX5 : Nat → FieldType := fun k => match k with
  | 0 => .array (.object "PaperKinds$Sheet")
  | 1 => .array .int
  | 2 => .array (.object "PaperKinds$Kind")
  | 3 => .object "PaperKinds$Layer"
  | 4 => .object "PaperKinds$Maker"
  | 5 => .object "PaperKinds$Ranking"
  | 6 => .array .int
  | 7 => .array (.object "PaperKinds$Kind")
  | 8 => .object "PaperKinds$Kind"
  | 9 => .object "PaperKinds$Kind"
  | 10 => .array .int
  | 11 => .array .int
  | 12 => .int
  | 13 => .int
  | 14 => .int
  | _ => .int
theorem nmX5 : ∀ a, a < 16 → ∀ b, b < 16 → a ≠ b → (TX5 a).2.1 ≠ (TX5 b).2.1 := by decide +kernel
theorem tyX5_ok : ∀ k, k < 16 → parseFieldDescriptor (TX5 k).2.2.1 = some (tyX5 k) := by decide +kernel
abbrev cX5_init : ByteArray := prog_1_method_1_code
def yX5_init : MethodName := ⟨RX5, "<init>", "()V"⟩
abbrev cX5_page : ByteArray := prog_1_method_2_code
def yX5_page : MethodName := ⟨RX5, "page", "()I"⟩
abbrev cX5_box : ByteArray := prog_1_method_3_code
def yX5_box : MethodName := ⟨RX5, "box", "(IIII)I"⟩
abbrev cX5_tell : ByteArray := prog_1_method_4_code
def yX5_tell : MethodName := ⟨RX5, "tell", "(II)Z"⟩
abbrev cX5_weights : ByteArray := prog_1_method_5_code
def yX5_weights : MethodName := ⟨RX5, "weights", "(IIIII)Z"⟩
abbrev cX5_bounds : ByteArray := prog_1_method_6_code
def yX5_bounds : MethodName := ⟨RX5, "bounds", "(III)Z"⟩
abbrev cX5_kind : ByteArray := prog_1_method_7_code
def yX5_kind : MethodName := ⟨RX5, "kind", "(II)I"⟩
abbrev cX5_spot : ByteArray := prog_1_method_8_code
def yX5_spot : MethodName := ⟨RX5, "spot", "(III)I"⟩
abbrev cX5_lay : ByteArray := prog_1_method_9_code
def yX5_lay : MethodName := ⟨RX5, "lay", "(III)I"⟩
abbrev cX5_moved : ByteArray := prog_1_method_10_code
def yX5_moved : MethodName := ⟨RX5, "moved", "(IIZ)I"⟩
abbrev cX5_read : ByteArray := prog_1_method_11_code
def yX5_read : MethodName := ⟨RX5, "read", "(III)I"⟩
abbrev cX5_sorted : ByteArray := prog_1_method_12_code
def yX5_sorted : MethodName := ⟨RX5, "sorted", "(I)I"⟩
abbrev cX5_told : ByteArray := prog_1_method_13_code
def yX5_told : MethodName := ⟨RX5, "told", "(I)I"⟩
abbrev cX5_look : ByteArray := prog_1_method_14_code
def yX5_look : MethodName := ⟨RX5, "look", "()I"⟩
abbrev cX5_heaps : ByteArray := prog_1_method_15_code
def yX5_heaps : MethodName := ⟨RX5, "heaps", "()I"⟩
abbrev cX5_heap : ByteArray := prog_1_method_16_code
def yX5_heap : MethodName := ⟨RX5, "heap", "(I)I"⟩
abbrev cX5_versions : ByteArray := prog_1_method_17_code
def yX5_versions : MethodName := ⟨RX5, "versions", "(III)I"⟩
abbrev cX5_touch : ByteArray := prog_1_method_18_code
def yX5_touch : MethodName := ⟨RX5, "touch", "(II)I"⟩
abbrev cX5_about : ByteArray := prog_1_method_19_code
def yX5_about : MethodName := ⟨RX5, "about", "(I)I"⟩
abbrev cX5_boxesAskedFor : ByteArray := prog_1_method_20_code
def yX5_boxesAskedFor : MethodName := ⟨RX5, "boxesAskedFor", "(I)I"⟩
abbrev cX5_isIn : ByteArray := prog_1_method_21_code
def yX5_isIn : MethodName := ⟨RX5, "isIn", "(III)Z"⟩
abbrev cX5_isPage : ByteArray := prog_1_method_22_code
def yX5_isPage : MethodName := ⟨RX5, "isPage", "(I)Z"⟩
abbrev cX5_isKind : ByteArray := prog_1_method_23_code
def yX5_isKind : MethodName := ⟨RX5, "isKind", "(I)Z"⟩
abbrev cX5_hasPages : ByteArray := prog_1_method_24_code
def yX5_hasPages : MethodName := ⟨RX5, "hasPages", "(I)Z"⟩
abbrev cX5_isTellable : ByteArray := prog_1_method_25_code
def yX5_isTellable : MethodName := ⟨RX5, "isTellable", "(II)Z"⟩
abbrev cX5_remake : ByteArray := prog_1_method_26_code
def yX5_remake : MethodName := ⟨RX5, "remake", "(I)V"⟩
abbrev cX5_forgetLayings : ByteArray := prog_1_method_27_code
def yX5_forgetLayings : MethodName := ⟨RX5, "forgetLayings", "()V"⟩
abbrev cX5_forgetPage : ByteArray := prog_1_method_28_code
def yX5_forgetPage : MethodName := ⟨RX5, "forgetPage", "(I)V"⟩
abbrev cX5_laying : ByteArray := prog_1_method_29_code
def yX5_laying : MethodName := ⟨RX5, "laying", "(ILPaperKinds$Kind;)J"⟩
abbrev cX5_costIn : ByteArray := prog_1_method_30_code
def yX5_costIn : MethodName := ⟨RX5, "costIn", "(J)I"⟩
abbrev cX5_moveIn : ByteArray := prog_1_method_31_code
def yX5_moveIn : MethodName := ⟨RX5, "moveIn", "(J)I"⟩
abbrev cX5_spotIn : ByteArray := prog_1_method_32_code
def yX5_spotIn : MethodName := ⟨RX5, "spotIn", "(JI)I"⟩
abbrev cX5_acrossOf : ByteArray := prog_1_method_33_code
def yX5_acrossOf : MethodName := ⟨RX5, "acrossOf", "(I)I"⟩
abbrev cX5_downOf : ByteArray := prog_1_method_34_code
def yX5_downOf : MethodName := ⟨RX5, "downOf", "(I)I"⟩
abbrev cX5_rank : ByteArray := prog_1_method_35_code
def yX5_rank : MethodName := ⟨RX5, "rank", "(I[LPaperKinds$Kind;)I"⟩
abbrev cX5_findHeaps : ByteArray := prog_1_method_36_code
def yX5_findHeaps : MethodName := ⟨RX5, "findHeaps", "()V"⟩
abbrev cX5_joinHeaps : ByteArray := prog_1_method_37_code
def yX5_joinHeaps : MethodName := ⟨RX5, "joinHeaps", "(II)V"⟩
abbrev cX5_nearCost : ByteArray := prog_1_method_38_code
def yX5_nearCost : MethodName := ⟨RX5, "nearCost", "(II)I"⟩
abbrev cX5_codeApart : ByteArray := prog_1_method_39_code
def yX5_codeApart : MethodName := ⟨RX5, "codeApart", "(LPaperKinds$Sheet;LPaperKinds$Sheet;)I"⟩
abbrev cX5_tryTelling : ByteArray := prog_1_method_40_code
def yX5_tryTelling : MethodName := ⟨RX5, "tryTelling", "(II)V"⟩
abbrev cX5_tryMaking : ByteArray := prog_1_method_41_code
def yX5_tryMaking : MethodName := ⟨RX5, "tryMaking", "(LPaperKinds$Kind;I)V"⟩
def RX6 : String := "PaperKindsModel"
def TX6 : u_T := fun k => match k with
  | 0 => ("PaperKindsModel", "pages", "I", false)
  | 1 => ("PaperKindsModel", "boxes", "[I", true)
  | 2 => ("PaperKindsModel", "boxX", "[I", true)
  | 3 => ("PaperKindsModel", "boxY", "[I", true)
  | 4 => ("PaperKindsModel", "boxCode", "[I", true)
  | 5 => ("PaperKindsModel", "told", "[I", true)
  | 6 => ("PaperKindsModel", "weight", "[I", true)
  | 7 => ("PaperKindsModel", "limit", "I", false)
  | 8 => ("PaperKindsModel", "gap", "I", false)
  | 9 => ("PaperKindsModel", "heapBound", "I", false)
  | 10 => ("PaperKindsModel", "isMade", "Z", false)
  | 11 => ("PaperKindsModel", "kindPages", "[I", true)
  | 12 => ("PaperKindsModel", "spots", "[I", true)
  | 13 => ("PaperKindsModel", "spotCode", "[I", true)
  | 14 => ("PaperKindsModel", "spotX", "[I", true)
  | 15 => ("PaperKindsModel", "spotY", "[I", true)
  | 16 => ("PaperKindsModel", "isAlways", "[Z", true)
  | 17 => ("PaperKindsModel", "many", "I", false)
  | 18 => ("PaperKindsModel", "x", "[I", true)
  | 19 => ("PaperKindsModel", "y", "[I", true)
  | 20 => ("PaperKindsModel", "code", "[I", true)
  | 21 => ("PaperKindsModel", "places", "I", false)
  | 22 => ("PaperKindsModel", "placeX", "[I", true)
  | 23 => ("PaperKindsModel", "placeY", "[I", true)
  | 24 => ("PaperKindsModel", "placeCode", "[I", true)
  | 25 => ("PaperKindsModel", "mustBe", "[Z", true)
  | 26 => ("PaperKindsModel", "least", "[I", true)
  | 27 => ("PaperKindsModel", "fixed", "[I", true)
  | 28 => ("PaperKindsModel", "cost", "I", false)
  | 29 => ("PaperKindsModel", "moveX", "I", false)
  | 30 => ("PaperKindsModel", "moveY", "I", false)
  | 31 => ("PaperKindsModel", "laid", "[I", true)
  | 32 => ("PaperKindsModel", "costs", "[I", true)
  | 33 => ("PaperKindsModel", "row", "[I", true)
  | 34 => ("PaperKindsModel", "bestKind", "I", false)
  | 35 => ("PaperKindsModel", "bestCost", "I", false)
  | 36 => ("PaperKindsModel", "nextCost", "I", false)
  | 37 => ("PaperKindsModel", "heapOf", "[I", true)
  | _ => ("PaperKindsModel", "sortedAs", "[I", true)
def tyX6 : Nat → FieldType := fun k => match k with
  | 0 => .int
  | 1 => .array .int
  | 2 => .array .int
  | 3 => .array .int
  | 4 => .array .int
  | 5 => .array .int
  | 6 => .array .int
  | 7 => .int
  | 8 => .int
  | 9 => .int
  | 10 => .boolean
  | 11 => .array .int
  | 12 => .array .int
  | 13 => .array .int
  | 14 => .array .int
  | 15 => .array .int
  | 16 => .array .boolean
  | 17 => .int
  | 18 => .array .int
  | 19 => .array .int
  | 20 => .array .int
  | 21 => .int
  | 22 => .array .int
  | 23 => .array .int
  | 24 => .array .int
  | 25 => .array .boolean
  | 26 => .array .int
  | 27 => .array .int
  | 28 => .int
  | 29 => .int
  | 30 => .int
  | 31 => .array .int
  | 32 => .array .int
  | 33 => .array .int
  | 34 => .int
  | 35 => .int
  | 36 => .int
  | 37 => .array .int
  | _ => .array .int
theorem nmX6 : ∀ a, a < 39 → ∀ b, b < 39 → a ≠ b → (TX6 a).2.1 ≠ (TX6 b).2.1 := by decide +kernel
theorem tyX6_ok : ∀ k, k < 39 → parseFieldDescriptor (TX6 k).2.2.1 = some (tyX6 k) := by decide +kernel
abbrev cX6_init : ByteArray := prog_8_method_1_code
def yX6_init : MethodName := ⟨RX6, "<init>", "()V"⟩
abbrev cX6_in : ByteArray := prog_8_method_2_code
def yX6_in : MethodName := ⟨RX6, "in", "(III)Z"⟩
abbrev cX6_isPage : ByteArray := prog_8_method_3_code
def yX6_isPage : MethodName := ⟨RX6, "isPage", "(I)Z"⟩
abbrev cX6_changes : ByteArray := prog_8_method_4_code
def yX6_changes : MethodName := ⟨RX6, "changes", "()V"⟩
abbrev cX6_page : ByteArray := prog_8_method_5_code
def yX6_page : MethodName := ⟨RX6, "page", "()I"⟩
abbrev cX6_box : ByteArray := prog_8_method_6_code
def yX6_box : MethodName := ⟨RX6, "box", "(IIII)I"⟩
abbrev cX6_tell : ByteArray := prog_8_method_7_code
def yX6_tell : MethodName := ⟨RX6, "tell", "(II)Z"⟩
abbrev cX6_weights : ByteArray := prog_8_method_8_code
def yX6_weights : MethodName := ⟨RX6, "weights", "(IIIII)Z"⟩
abbrev cX6_bounds : ByteArray := prog_8_method_9_code
def yX6_bounds : MethodName := ⟨RX6, "bounds", "(III)Z"⟩
abbrev cX6_boxWith : ByteArray := prog_8_method_10_code
def yX6_boxWith : MethodName := ⟨RX6, "boxWith", "(II)I"⟩
abbrev cX6_middle : ByteArray := prog_8_method_11_code
def yX6_middle : MethodName := ⟨RX6, "middle", "(I)I"⟩
abbrev cX6_makes : ByteArray := prog_8_method_12_code
def yX6_makes : MethodName := ⟨RX6, "makes", "()V"⟩
abbrev cX6_makesSpot : ByteArray := prog_8_method_13_code
def yX6_makesSpot : MethodName := ⟨RX6, "makesSpot", "(II)V"⟩
abbrev cX6_isKind : ByteArray := prog_8_method_14_code
def yX6_isKind : MethodName := ⟨RX6, "isKind", "(I)Z"⟩
abbrev cX6_kind : ByteArray := prog_8_method_15_code
def yX6_kind : MethodName := ⟨RX6, "kind", "(II)I"⟩
abbrev cX6_spot : ByteArray := prog_8_method_16_code
def yX6_spot : MethodName := ⟨RX6, "spot", "(III)I"⟩
abbrev cX6_apart : ByteArray := prog_8_method_17_code
def yX6_apart : MethodName := ⟨RX6, "apart", "(II)I"⟩
abbrev cX6_lays : ByteArray := prog_8_method_18_code
def yX6_lays : MethodName := ⟨RX6, "lays", "(IIII)I"⟩
abbrev cX6_byMove : ByteArray := prog_8_method_19_code
def yX6_byMove : MethodName := ⟨RX6, "byMove", "(II)I"⟩
abbrev cX6_seeks : ByteArray := prog_8_method_20_code
def yX6_seeks : MethodName := ⟨RX6, "seeks", "()V"⟩
abbrev cX6_places : ByteArray := prog_8_method_21_code
def yX6_places : MethodName := ⟨RX6, "places", "()V"⟩
abbrev cX6_takesPage : ByteArray := prog_8_method_22_code
def yX6_takesPage : MethodName := ⟨RX6, "takesPage", "(I)V"⟩
abbrev cX6_takesSpots : ByteArray := prog_8_method_23_code
def yX6_takesSpots : MethodName := ⟨RX6, "takesSpots", "(I)V"⟩
abbrev cX6_costOf : ByteArray := prog_8_method_24_code
def yX6_costOf : MethodName := ⟨RX6, "costOf", "(II)I"⟩
abbrev cX6_isLaid : ByteArray := prog_8_method_25_code
def yX6_isLaid : MethodName := ⟨RX6, "isLaid", "(II)Z"⟩
abbrev cX6_lay : ByteArray := prog_8_method_26_code
def yX6_lay : MethodName := ⟨RX6, "lay", "(III)I"⟩
abbrev cX6_moved : ByteArray := prog_8_method_27_code
def yX6_moved : MethodName := ⟨RX6, "moved", "(IIZ)I"⟩
abbrev cX6_read : ByteArray := prog_8_method_28_code
def yX6_read : MethodName := ⟨RX6, "read", "(III)I"⟩
abbrev cX6_looks : ByteArray := prog_8_method_29_code
def yX6_looks : MethodName := ⟨RX6, "looks", "(I)V"⟩
abbrev cX6_sortOf : ByteArray := prog_8_method_30_code
def yX6_sortOf : MethodName := ⟨RX6, "sortOf", "(I)I"⟩
abbrev cX6_sorted : ByteArray := prog_8_method_31_code
def yX6_sorted : MethodName := ⟨RX6, "sorted", "(I)I"⟩
abbrev cX6_told : ByteArray := prog_8_method_32_code
def yX6_told : MethodName := ⟨RX6, "told", "(I)I"⟩
abbrev cX6_look : ByteArray := prog_8_method_33_code
def yX6_look : MethodName := ⟨RX6, "look", "()I"⟩
abbrev cX6_isUnknown : ByteArray := prog_8_method_34_code
def yX6_isUnknown : MethodName := ⟨RX6, "isUnknown", "(I)Z"⟩
abbrev cX6_isNear : ByteArray := prog_8_method_35_code
def yX6_isNear : MethodName := ⟨RX6, "isNear", "(II)Z"⟩
abbrev cX6_gathers : ByteArray := prog_8_method_36_code
def yX6_gathers : MethodName := ⟨RX6, "gathers", "()V"⟩
abbrev cX6_joins : ByteArray := prog_8_method_37_code
def yX6_joins : MethodName := ⟨RX6, "joins", "(II)V"⟩
abbrev cX6_heaps : ByteArray := prog_8_method_38_code
def yX6_heaps : MethodName := ⟨RX6, "heaps", "()I"⟩
abbrev cX6_heap : ByteArray := prog_8_method_39_code
def yX6_heap : MethodName := ⟨RX6, "heap", "(I)I"⟩
abbrev cX6_areVersions : ByteArray := prog_8_method_40_code
def yX6_areVersions : MethodName := ⟨RX6, "areVersions", "(II)Z"⟩
abbrev cX6_spotWith : ByteArray := prog_8_method_41_code
def yX6_spotWith : MethodName := ⟨RX6, "spotWith", "(II)I"⟩
abbrev cX6_toldBy : ByteArray := prog_8_method_42_code
def yX6_toldBy : MethodName := ⟨RX6, "toldBy", "(II)I"⟩
abbrev cX6_versions : ByteArray := prog_8_method_43_code
def yX6_versions : MethodName := ⟨RX6, "versions", "(III)I"⟩
abbrev cX6_touch : ByteArray := prog_8_method_44_code
def yX6_touch : MethodName := ⟨RX6, "touch", "(II)I"⟩
abbrev cX6_about : ByteArray := prog_8_method_45_code
def yX6_about : MethodName := ⟨RX6, "about", "(I)I"⟩
def RJ9 : String := "java/lang/Math"
def TJ9 : u_T := fun k => match k with
  | _ => ("", "", "", false)
def tyJ9 : Nat → FieldType := fun k => match k with
  | _ => .int
theorem nmJ9 : ∀ a, a < 0 → ∀ b, b < 0 → a ≠ b → (TJ9 a).2.1 ≠ (TJ9 b).2.1 := by decide +kernel
theorem tyJ9_ok : ∀ k, k < 0 → parseFieldDescriptor (TJ9 k).2.2.1 = some (tyJ9 k) := by decide +kernel
abbrev cJ9_abs_0f7a4 : ByteArray := prog_9_method_59_code
def yJ9_abs_0f7a4 : MethodName := ⟨RJ9, "abs", "(I)I"⟩
abbrev cJ9_max_7cf53 : ByteArray := prog_9_method_65_code
def yJ9_max_7cf53 : MethodName := ⟨RJ9, "max", "(II)I"⟩
abbrev cJ9_min_7cf53 : ByteArray := prog_9_method_69_code
def yJ9_min_7cf53 : MethodName := ⟨RJ9, "min", "(II)I"⟩
abbrev cJ9_min_f86c9 : ByteArray := prog_9_method_70_code
def yJ9_min_f86c9 : MethodName := ⟨RJ9, "min", "(JJ)J"⟩
def RL : String := "PaperKindsLaw"
abbrev cL_law : ByteArray := code
def yL_law : MethodName := ⟨RL, "law", "([I)Z"⟩
end
section
theorem dX0_init_0 : decode cX0_init 0 = .ok (.aload_n 0, 1) := by decide +kernel
theorem dX0_init_1 : decode cX0_init 1 = .ok (.invokespecial 3, 3) := by decide +kernel
theorem dX0_init_4 : decode cX0_init 4 = .ok (.aload_n 0, 1) := by decide +kernel
theorem dX0_init_5 : decode cX0_init 5 = .ok (.new 9, 3) := by decide +kernel
theorem dX0_init_8 : decode cX0_init 8 = .ok (.dup, 1) := by decide +kernel
theorem dX0_init_9 : decode cX0_init 9 = .ok (.bipush 16, 2) := by decide +kernel
theorem dX0_init_11 : decode cX0_init 11 = .ok (.invokespecial 11, 3) := by decide +kernel
theorem dX0_init_14 : decode cX0_init 14 = .ok (.putfield 14, 3) := by decide +kernel
theorem dX0_init_17 : decode cX0_init 17 = .ok (.aload_n 0, 1) := by decide +kernel
theorem dX0_init_18 : decode cX0_init 18 = .ok (.bipush 16, 2) := by decide +kernel
theorem dX0_init_20 : decode cX0_init 20 = .ok (.newarray .long, 2) := by decide +kernel
theorem dX0_init_22 : decode cX0_init 22 = .ok (.putfield 20, 3) := by decide +kernel
theorem dX0_init_25 : decode cX0_init 25 = .ok (.aload_n 0, 1) := by decide +kernel
theorem dX0_init_26 : decode cX0_init 26 = .ok (.iconst 0, 1) := by decide +kernel
theorem dX0_init_27 : decode cX0_init 27 = .ok (.putfield 24, 3) := by decide +kernel
theorem dX0_init_30 : decode cX0_init 30 = .ok (.return_, 1) := by decide +kernel
theorem dX0_clear_0 : decode cX0_clear 0 = .ok (.aload_n 0, 1) := by decide +kernel
theorem dX0_clear_1 : decode cX0_clear 1 = .ok (.getfield 14, 3) := by decide +kernel
theorem dX0_clear_4 : decode cX0_clear 4 = .ok (.iconst 0, 1) := by decide +kernel
theorem dX0_clear_5 : decode cX0_clear 5 = .ok (.putfield 28, 3) := by decide +kernel
theorem dX0_clear_8 : decode cX0_clear 8 = .ok (.aload_n 0, 1) := by decide +kernel
theorem dX0_clear_9 : decode cX0_clear 9 = .ok (.iconst 0, 1) := by decide +kernel
theorem dX0_clear_10 : decode cX0_clear 10 = .ok (.putfield 24, 3) := by decide +kernel
theorem dX0_clear_13 : decode cX0_clear 13 = .ok (.iconst 0, 1) := by decide +kernel
theorem dX0_clear_14 : decode cX0_clear 14 = .ok (.istore_n 1, 1) := by decide +kernel
theorem dX0_clear_15 : decode cX0_clear 15 = .ok (.iload_n 1, 1) := by decide +kernel
theorem dX0_clear_16 : decode cX0_clear 16 = .ok (.bipush 16, 2) := by decide +kernel
theorem dX0_clear_18 : decode cX0_clear 18 = .ok (.if_icmp .ge 18, 3) := by decide +kernel
theorem dX0_clear_21 : decode cX0_clear 21 = .ok (.aload_n 0, 1) := by decide +kernel
theorem dX0_clear_22 : decode cX0_clear 22 = .ok (.getfield 20, 3) := by decide +kernel
theorem dX0_clear_25 : decode cX0_clear 25 = .ok (.iload_n 1, 1) := by decide +kernel
theorem dX0_clear_26 : decode cX0_clear 26 = .ok (.ldc2_w 31, 3) := by decide +kernel
theorem dX0_clear_29 : decode cX0_clear 29 = .ok (.lastore, 1) := by decide +kernel
theorem dX0_clear_30 : decode cX0_clear 30 = .ok (.iinc 1 1, 3) := by decide +kernel
theorem dX0_clear_33 : decode cX0_clear 33 = .ok (.goto (-18), 3) := by decide +kernel
theorem dX0_clear_36 : decode cX0_clear 36 = .ok (.return_, 1) := by decide +kernel
theorem dX1_init_0 : decode cX1_init 0 = .ok (.aload_n 0, 1) := by decide +kernel
theorem dX1_init_1 : decode cX1_init 1 = .ok (.invokespecial 3, 3) := by decide +kernel
theorem dX1_init_4 : decode cX1_init 4 = .ok (.aload_n 0, 1) := by decide +kernel
theorem dX1_init_5 : decode cX1_init 5 = .ok (.iconst 1, 1) := by decide +kernel
theorem dX1_init_6 : decode cX1_init 6 = .ok (.putfield 9, 3) := by decide +kernel
theorem dX1_init_9 : decode cX1_init 9 = .ok (.aload_n 0, 1) := by decide +kernel
theorem dX1_init_10 : decode cX1_init 10 = .ok (.iconst 1, 1) := by decide +kernel
theorem dX1_init_11 : decode cX1_init 11 = .ok (.putfield 15, 3) := by decide +kernel
theorem dX1_init_14 : decode cX1_init 14 = .ok (.aload_n 0, 1) := by decide +kernel
theorem dX1_init_15 : decode cX1_init 15 = .ok (.bipush 20, 2) := by decide +kernel
theorem dX1_init_17 : decode cX1_init 17 = .ok (.putfield 18, 3) := by decide +kernel
theorem dX1_init_20 : decode cX1_init 20 = .ok (.aload_n 0, 1) := by decide +kernel
theorem dX1_init_21 : decode cX1_init 21 = .ok (.bipush 16, 2) := by decide +kernel
theorem dX1_init_23 : decode cX1_init 23 = .ok (.putfield 21, 3) := by decide +kernel
theorem dX1_init_26 : decode cX1_init 26 = .ok (.aload_n 0, 1) := by decide +kernel
theorem dX1_init_27 : decode cX1_init 27 = .ok (.bipush 8, 2) := by decide +kernel
theorem dX1_init_29 : decode cX1_init 29 = .ok (.putfield 24, 3) := by decide +kernel
theorem dX1_init_32 : decode cX1_init 32 = .ok (.aload_n 0, 1) := by decide +kernel
theorem dX1_init_33 : decode cX1_init 33 = .ok (.iconst 0, 1) := by decide +kernel
theorem dX1_init_34 : decode cX1_init 34 = .ok (.putfield 27, 3) := by decide +kernel
theorem dX1_init_37 : decode cX1_init 37 = .ok (.aload_n 0, 1) := by decide +kernel
theorem dX1_init_38 : decode cX1_init 38 = .ok (.iconst 0, 1) := by decide +kernel
theorem dX1_init_39 : decode cX1_init 39 = .ok (.putfield 30, 3) := by decide +kernel
theorem dX1_init_42 : decode cX1_init 42 = .ok (.aload_n 0, 1) := by decide +kernel
theorem dX1_init_43 : decode cX1_init 43 = .ok (.lconst 0, 1) := by decide +kernel
theorem dX1_init_44 : decode cX1_init 44 = .ok (.putfield 33, 3) := by decide +kernel
theorem dX1_init_47 : decode cX1_init 47 = .ok (.aload_n 0, 1) := by decide +kernel
theorem dX1_init_48 : decode cX1_init 48 = .ok (.iconst 0, 1) := by decide +kernel
theorem dX1_init_49 : decode cX1_init 49 = .ok (.putfield 37, 3) := by decide +kernel
theorem dX1_init_52 : decode cX1_init 52 = .ok (.aload_n 0, 1) := by decide +kernel
theorem dX1_init_53 : decode cX1_init 53 = .ok (.sipush 136, 3) := by decide +kernel
theorem dX1_init_56 : decode cX1_init 56 = .ok (.newarray .int, 2) := by decide +kernel
theorem dX1_init_58 : decode cX1_init 58 = .ok (.putfield 41, 3) := by decide +kernel
theorem dX1_init_61 : decode cX1_init 61 = .ok (.aload_n 0, 1) := by decide +kernel
theorem dX1_init_62 : decode cX1_init 62 = .ok (.sipush 136, 3) := by decide +kernel
theorem dX1_init_65 : decode cX1_init 65 = .ok (.newarray .int, 2) := by decide +kernel
theorem dX1_init_67 : decode cX1_init 67 = .ok (.putfield 45, 3) := by decide +kernel
theorem dX1_init_70 : decode cX1_init 70 = .ok (.aload_n 0, 1) := by decide +kernel
theorem dX1_init_71 : decode cX1_init 71 = .ok (.sipush 136, 3) := by decide +kernel
theorem dX1_init_74 : decode cX1_init 74 = .ok (.newarray .long, 2) := by decide +kernel
theorem dX1_init_76 : decode cX1_init 76 = .ok (.putfield 48, 3) := by decide +kernel
theorem dX1_init_79 : decode cX1_init 79 = .ok (.aload_n 0, 1) := by decide +kernel
theorem dX1_init_80 : decode cX1_init 80 = .ok (.sipush 136, 3) := by decide +kernel
theorem dX1_init_83 : decode cX1_init 83 = .ok (.newarray .long, 2) := by decide +kernel
theorem dX1_init_85 : decode cX1_init 85 = .ok (.putfield 52, 3) := by decide +kernel
theorem dX1_init_88 : decode cX1_init 88 = .ok (.aload_n 0, 1) := by decide +kernel
theorem dX1_init_89 : decode cX1_init 89 = .ok (.bipush 8, 2) := by decide +kernel
theorem dX1_init_91 : decode cX1_init 91 = .ok (.newarray .long, 2) := by decide +kernel
theorem dX1_init_93 : decode cX1_init 93 = .ok (.putfield 55, 3) := by decide +kernel
theorem dX1_init_96 : decode cX1_init 96 = .ok (.aload_n 0, 1) := by decide +kernel
theorem dX1_init_97 : decode cX1_init 97 = .ok (.bipush 17, 2) := by decide +kernel
theorem dX1_init_99 : decode cX1_init 99 = .ok (.newarray .long, 2) := by decide +kernel
theorem dX1_init_101 : decode cX1_init 101 = .ok (.putfield 58, 3) := by decide +kernel
theorem dX1_init_104 : decode cX1_init 104 = .ok (.aload_n 0, 1) := by decide +kernel
theorem dX1_init_105 : decode cX1_init 105 = .ok (.bipush 17, 2) := by decide +kernel
theorem dX1_init_107 : decode cX1_init 107 = .ok (.newarray .int, 2) := by decide +kernel
theorem dX1_init_109 : decode cX1_init 109 = .ok (.putfield 61, 3) := by decide +kernel
theorem dX1_init_112 : decode cX1_init 112 = .ok (.aload_n 0, 1) := by decide +kernel
theorem dX1_init_113 : decode cX1_init 113 = .ok (.bipush 17, 2) := by decide +kernel
theorem dX1_init_115 : decode cX1_init 115 = .ok (.newarray .long, 2) := by decide +kernel
theorem dX1_init_117 : decode cX1_init 117 = .ok (.putfield 64, 3) := by decide +kernel
theorem dX1_init_120 : decode cX1_init 120 = .ok (.aload_n 0, 1) := by decide +kernel
theorem dX1_init_121 : decode cX1_init 121 = .ok (.bipush 17, 2) := by decide +kernel
theorem dX1_init_123 : decode cX1_init 123 = .ok (.newarray .int, 2) := by decide +kernel
theorem dX1_init_125 : decode cX1_init 125 = .ok (.putfield 67, 3) := by decide +kernel
theorem dX1_init_128 : decode cX1_init 128 = .ok (.aload_n 0, 1) := by decide +kernel
theorem dX1_init_129 : decode cX1_init 129 = .ok (.bipush 17, 2) := by decide +kernel
theorem dX1_init_131 : decode cX1_init 131 = .ok (.newarray .boolean, 2) := by decide +kernel
theorem dX1_init_133 : decode cX1_init 133 = .ok (.putfield 70, 3) := by decide +kernel
theorem dX1_init_136 : decode cX1_init 136 = .ok (.return_, 1) := by decide +kernel
theorem dX1_cheapest_0 : decode cX1_cheapest 0 = .ok (.aload_n 0, 1) := by decide +kernel
theorem dX1_cheapest_1 : decode cX1_cheapest 1 = .ok (.aload_n 1, 1) := by decide +kernel
theorem dX1_cheapest_2 : decode cX1_cheapest 2 = .ok (.getfield 74, 3) := by decide +kernel
theorem dX1_cheapest_5 : decode cX1_cheapest 5 = .ok (.bipush 8, 2) := by decide +kernel
theorem dX1_cheapest_7 : decode cX1_cheapest 7 = .ok (.invokestatic 79, 3) := by decide +kernel
theorem dX1_cheapest_10 : decode cX1_cheapest 10 = .ok (.putfield 27, 3) := by decide +kernel
theorem dX1_cheapest_13 : decode cX1_cheapest 13 = .ok (.aload_n 0, 1) := by decide +kernel
theorem dX1_cheapest_14 : decode cX1_cheapest 14 = .ok (.aload_n 2, 1) := by decide +kernel
theorem dX1_cheapest_15 : decode cX1_cheapest 15 = .ok (.getfield 74, 3) := by decide +kernel
theorem dX1_cheapest_18 : decode cX1_cheapest 18 = .ok (.bipush 16, 2) := by decide +kernel
theorem dX1_cheapest_20 : decode cX1_cheapest 20 = .ok (.invokestatic 79, 3) := by decide +kernel
theorem dX1_cheapest_23 : decode cX1_cheapest 23 = .ok (.putfield 30, 3) := by decide +kernel
theorem dX1_cheapest_26 : decode cX1_cheapest 26 = .ok (.aload_n 0, 1) := by decide +kernel
theorem dX1_cheapest_27 : decode cX1_cheapest 27 = .ok (.aload_n 1, 1) := by decide +kernel
theorem dX1_cheapest_28 : decode cX1_cheapest 28 = .ok (.aload_n 2, 1) := by decide +kernel
theorem dX1_cheapest_29 : decode cX1_cheapest 29 = .ok (.invokevirtual 85, 3) := by decide +kernel
theorem dX1_cheapest_32 : decode cX1_cheapest 32 = .ok (.aload_n 0, 1) := by decide +kernel
theorem dX1_cheapest_33 : decode cX1_cheapest 33 = .ok (.bipush 24, 2) := by decide +kernel
theorem dX1_cheapest_35 : decode cX1_cheapest 35 = .ok (.ldc2_w 89, 3) := by decide +kernel
theorem dX1_cheapest_38 : decode cX1_cheapest 38 = .ok (.invokevirtual 91, 3) := by decide +kernel
theorem dX1_cheapest_41 : decode cX1_cheapest 41 = .ok (.lstore_n 3, 1) := by decide +kernel
theorem dX1_cheapest_42 : decode cX1_cheapest 42 = .ok (.iconst 0, 1) := by decide +kernel
theorem dX1_cheapest_43 : decode cX1_cheapest 43 = .ok (.istore 5, 2) := by decide +kernel
theorem dX1_cheapest_45 : decode cX1_cheapest 45 = .ok (.iload 5, 2) := by decide +kernel
theorem dX1_cheapest_47 : decode cX1_cheapest 47 = .ok (.bipush 49, 2) := by decide +kernel
theorem dX1_cheapest_49 : decode cX1_cheapest 49 = .ok (.if_icmp .ge 17, 3) := by decide +kernel
theorem dX1_cheapest_52 : decode cX1_cheapest 52 = .ok (.aload_n 0, 1) := by decide +kernel
theorem dX1_cheapest_53 : decode cX1_cheapest 53 = .ok (.iload 5, 2) := by decide +kernel
theorem dX1_cheapest_55 : decode cX1_cheapest 55 = .ok (.lload_n 3, 1) := by decide +kernel
theorem dX1_cheapest_56 : decode cX1_cheapest 56 = .ok (.invokevirtual 91, 3) := by decide +kernel
theorem dX1_cheapest_59 : decode cX1_cheapest 59 = .ok (.lstore_n 3, 1) := by decide +kernel
theorem dX1_cheapest_60 : decode cX1_cheapest 60 = .ok (.iinc 5 1, 3) := by decide +kernel
theorem dX1_cheapest_63 : decode cX1_cheapest 63 = .ok (.goto (-18), 3) := by decide +kernel
theorem dX1_cheapest_66 : decode cX1_cheapest 66 = .ok (.lload_n 3, 1) := by decide +kernel
theorem dX1_cheapest_67 : decode cX1_cheapest 67 = .ok (.lreturn, 1) := by decide +kernel
theorem dX1_setUp_0 : decode cX1_setUp 0 = .ok (.aload_n 0, 1) := by decide +kernel
theorem dX1_setUp_1 : decode cX1_setUp 1 = .ok (.lconst 0, 1) := by decide +kernel
theorem dX1_setUp_2 : decode cX1_setUp 2 = .ok (.putfield 33, 3) := by decide +kernel
theorem dX1_setUp_5 : decode cX1_setUp 5 = .ok (.iconst 0, 1) := by decide +kernel
theorem dX1_setUp_6 : decode cX1_setUp 6 = .ok (.istore_n 3, 1) := by decide +kernel
theorem dX1_setUp_7 : decode cX1_setUp 7 = .ok (.iload_n 3, 1) := by decide +kernel
theorem dX1_setUp_8 : decode cX1_setUp 8 = .ok (.aload_n 0, 1) := by decide +kernel
theorem dX1_setUp_9 : decode cX1_setUp 9 = .ok (.getfield 30, 3) := by decide +kernel
theorem dX1_setUp_12 : decode cX1_setUp 12 = .ok (.if_icmp .ge 167, 3) := by decide +kernel
theorem dX1_setUp_15 : decode cX1_setUp 15 = .ok (.aload_n 2, 1) := by decide +kernel
theorem dX1_setUp_16 : decode cX1_setUp 16 = .ok (.getfield 95, 3) := by decide +kernel
theorem dX1_setUp_19 : decode cX1_setUp 19 = .ok (.iload_n 3, 1) := by decide +kernel
theorem dX1_setUp_20 : decode cX1_setUp 20 = .ok (.baload, 1) := by decide +kernel
theorem dX1_setUp_21 : decode cX1_setUp 21 = .ok (.ifCond .eq 10, 3) := by decide +kernel
theorem dX1_setUp_24 : decode cX1_setUp 24 = .ok (.aload_n 0, 1) := by decide +kernel
theorem dX1_setUp_25 : decode cX1_setUp 25 = .ok (.getfield 21, 3) := by decide +kernel
theorem dX1_setUp_28 : decode cX1_setUp 28 = .ok (.goto 9, 3) := by decide +kernel
theorem dX1_setUp_31 : decode cX1_setUp 31 = .ok (.aload_n 0, 1) := by decide +kernel
theorem dX1_setUp_32 : decode cX1_setUp 32 = .ok (.getfield 21, 3) := by decide +kernel
theorem dX1_setUp_35 : decode cX1_setUp 35 = .ok (.iconst 2, 1) := by decide +kernel
theorem dX1_setUp_36 : decode cX1_setUp 36 = .ok (.idiv, 1) := by decide +kernel
theorem dX1_setUp_37 : decode cX1_setUp 37 = .ok (.istore 4, 2) := by decide +kernel
theorem dX1_setUp_39 : decode cX1_setUp 39 = .ok (.aload_n 0, 1) := by decide +kernel
theorem dX1_setUp_40 : decode cX1_setUp 40 = .ok (.dup, 1) := by decide +kernel
theorem dX1_setUp_41 : decode cX1_setUp 41 = .ok (.getfield 33, 3) := by decide +kernel
theorem dX1_setUp_44 : decode cX1_setUp 44 = .ok (.iload 4, 2) := by decide +kernel
theorem dX1_setUp_46 : decode cX1_setUp 46 = .ok (.i2l, 1) := by decide +kernel
theorem dX1_setUp_47 : decode cX1_setUp 47 = .ok (.ladd, 1) := by decide +kernel
theorem dX1_setUp_48 : decode cX1_setUp 48 = .ok (.putfield 33, 3) := by decide +kernel
theorem dX1_setUp_51 : decode cX1_setUp 51 = .ok (.iconst 0, 1) := by decide +kernel
theorem dX1_setUp_52 : decode cX1_setUp 52 = .ok (.istore 5, 2) := by decide +kernel
theorem dX1_setUp_54 : decode cX1_setUp 54 = .ok (.iload 5, 2) := by decide +kernel
theorem dX1_setUp_56 : decode cX1_setUp 56 = .ok (.aload_n 0, 1) := by decide +kernel
theorem dX1_setUp_57 : decode cX1_setUp 57 = .ok (.getfield 27, 3) := by decide +kernel
theorem dX1_setUp_60 : decode cX1_setUp 60 = .ok (.if_icmp .ge 113, 3) := by decide +kernel
theorem dX1_setUp_63 : decode cX1_setUp 63 = .ok (.iload 5, 2) := by decide +kernel
theorem dX1_setUp_65 : decode cX1_setUp 65 = .ok (.bipush 17, 2) := by decide +kernel
theorem dX1_setUp_67 : decode cX1_setUp 67 = .ok (.imul, 1) := by decide +kernel
theorem dX1_setUp_68 : decode cX1_setUp 68 = .ok (.iload_n 3, 1) := by decide +kernel
theorem dX1_setUp_69 : decode cX1_setUp 69 = .ok (.iadd, 1) := by decide +kernel
theorem dX1_setUp_70 : decode cX1_setUp 70 = .ok (.istore 6, 2) := by decide +kernel
theorem dX1_setUp_72 : decode cX1_setUp 72 = .ok (.aload_n 1, 1) := by decide +kernel
theorem dX1_setUp_73 : decode cX1_setUp 73 = .ok (.getfield 98, 3) := by decide +kernel
theorem dX1_setUp_76 : decode cX1_setUp 76 = .ok (.iload 5, 2) := by decide +kernel
theorem dX1_setUp_78 : decode cX1_setUp 78 = .ok (.iaload, 1) := by decide +kernel
theorem dX1_setUp_79 : decode cX1_setUp 79 = .ok (.aload_n 2, 1) := by decide +kernel
theorem dX1_setUp_80 : decode cX1_setUp 80 = .ok (.getfield 98, 3) := by decide +kernel
theorem dX1_setUp_83 : decode cX1_setUp 83 = .ok (.iload_n 3, 1) := by decide +kernel
theorem dX1_setUp_84 : decode cX1_setUp 84 = .ok (.iaload, 1) := by decide +kernel
theorem dX1_setUp_85 : decode cX1_setUp 85 = .ok (.if_icmp .ne 7, 3) := by decide +kernel
theorem dX1_setUp_88 : decode cX1_setUp 88 = .ok (.iconst 0, 1) := by decide +kernel
theorem dX1_setUp_89 : decode cX1_setUp 89 = .ok (.goto 7, 3) := by decide +kernel
theorem dX1_setUp_92 : decode cX1_setUp 92 = .ok (.aload_n 0, 1) := by decide +kernel
theorem dX1_setUp_93 : decode cX1_setUp 93 = .ok (.getfield 18, 3) := by decide +kernel
theorem dX1_setUp_96 : decode cX1_setUp 96 = .ok (.istore 7, 2) := by decide +kernel
theorem dX1_setUp_98 : decode cX1_setUp 98 = .ok (.aload_n 0, 1) := by decide +kernel
theorem dX1_setUp_99 : decode cX1_setUp 99 = .ok (.getfield 41, 3) := by decide +kernel
theorem dX1_setUp_102 : decode cX1_setUp 102 = .ok (.iload 6, 2) := by decide +kernel
theorem dX1_setUp_104 : decode cX1_setUp 104 = .ok (.aload_n 1, 1) := by decide +kernel
theorem dX1_setUp_105 : decode cX1_setUp 105 = .ok (.getfield 101, 3) := by decide +kernel
theorem dX1_setUp_108 : decode cX1_setUp 108 = .ok (.iload 5, 2) := by decide +kernel
theorem dX1_setUp_110 : decode cX1_setUp 110 = .ok (.iaload, 1) := by decide +kernel
theorem dX1_setUp_111 : decode cX1_setUp 111 = .ok (.aload_n 2, 1) := by decide +kernel
theorem dX1_setUp_112 : decode cX1_setUp 112 = .ok (.getfield 101, 3) := by decide +kernel
theorem dX1_setUp_115 : decode cX1_setUp 115 = .ok (.iload_n 3, 1) := by decide +kernel
theorem dX1_setUp_116 : decode cX1_setUp 116 = .ok (.iaload, 1) := by decide +kernel
theorem dX1_setUp_117 : decode cX1_setUp 117 = .ok (.isub, 1) := by decide +kernel
theorem dX1_setUp_118 : decode cX1_setUp 118 = .ok (.iastore, 1) := by decide +kernel
theorem dX1_setUp_119 : decode cX1_setUp 119 = .ok (.aload_n 0, 1) := by decide +kernel
theorem dX1_setUp_120 : decode cX1_setUp 120 = .ok (.getfield 45, 3) := by decide +kernel
theorem dX1_setUp_123 : decode cX1_setUp 123 = .ok (.iload 6, 2) := by decide +kernel
theorem dX1_setUp_125 : decode cX1_setUp 125 = .ok (.aload_n 1, 1) := by decide +kernel
theorem dX1_setUp_126 : decode cX1_setUp 126 = .ok (.getfield 104, 3) := by decide +kernel
theorem dX1_setUp_129 : decode cX1_setUp 129 = .ok (.iload 5, 2) := by decide +kernel
theorem dX1_setUp_131 : decode cX1_setUp 131 = .ok (.iaload, 1) := by decide +kernel
theorem dX1_setUp_132 : decode cX1_setUp 132 = .ok (.aload_n 2, 1) := by decide +kernel
theorem dX1_setUp_133 : decode cX1_setUp 133 = .ok (.getfield 104, 3) := by decide +kernel
theorem dX1_setUp_136 : decode cX1_setUp 136 = .ok (.iload_n 3, 1) := by decide +kernel
theorem dX1_setUp_137 : decode cX1_setUp 137 = .ok (.iaload, 1) := by decide +kernel
theorem dX1_setUp_138 : decode cX1_setUp 138 = .ok (.isub, 1) := by decide +kernel
theorem dX1_setUp_139 : decode cX1_setUp 139 = .ok (.iastore, 1) := by decide +kernel
theorem dX1_setUp_140 : decode cX1_setUp 140 = .ok (.aload_n 0, 1) := by decide +kernel
theorem dX1_setUp_141 : decode cX1_setUp 141 = .ok (.getfield 48, 3) := by decide +kernel
theorem dX1_setUp_144 : decode cX1_setUp 144 = .ok (.iload 6, 2) := by decide +kernel
theorem dX1_setUp_146 : decode cX1_setUp 146 = .ok (.iload 7, 2) := by decide +kernel
theorem dX1_setUp_148 : decode cX1_setUp 148 = .ok (.iload 4, 2) := by decide +kernel
theorem dX1_setUp_150 : decode cX1_setUp 150 = .ok (.isub, 1) := by decide +kernel
theorem dX1_setUp_151 : decode cX1_setUp 151 = .ok (.i2l, 1) := by decide +kernel
theorem dX1_setUp_152 : decode cX1_setUp 152 = .ok (.ldc2_w 107, 3) := by decide +kernel
theorem dX1_setUp_155 : decode cX1_setUp 155 = .ok (.lmul, 1) := by decide +kernel
theorem dX1_setUp_156 : decode cX1_setUp 156 = .ok (.iload_n 3, 1) := by decide +kernel
theorem dX1_setUp_157 : decode cX1_setUp 157 = .ok (.i2l, 1) := by decide +kernel
theorem dX1_setUp_158 : decode cX1_setUp 158 = .ok (.getstatic 109, 3) := by decide +kernel
theorem dX1_setUp_161 : decode cX1_setUp 161 = .ok (.iload 5, 2) := by decide +kernel
theorem dX1_setUp_163 : decode cX1_setUp 163 = .ok (.laload, 1) := by decide +kernel
theorem dX1_setUp_164 : decode cX1_setUp 164 = .ok (.lmul, 1) := by decide +kernel
theorem dX1_setUp_165 : decode cX1_setUp 165 = .ok (.ladd, 1) := by decide +kernel
theorem dX1_setUp_166 : decode cX1_setUp 166 = .ok (.lastore, 1) := by decide +kernel
theorem dX1_setUp_167 : decode cX1_setUp 167 = .ok (.iinc 5 1, 3) := by decide +kernel
theorem dX1_setUp_170 : decode cX1_setUp 170 = .ok (.goto (-116), 3) := by decide +kernel
theorem dX1_setUp_173 : decode cX1_setUp 173 = .ok (.iinc 3 1, 3) := by decide +kernel
theorem dX1_setUp_176 : decode cX1_setUp 176 = .ok (.goto (-169), 3) := by decide +kernel
theorem dX1_setUp_179 : decode cX1_setUp 179 = .ok (.iconst 0, 1) := by decide +kernel
theorem dX1_setUp_180 : decode cX1_setUp 180 = .ok (.istore_n 3, 1) := by decide +kernel
theorem dX1_setUp_181 : decode cX1_setUp 181 = .ok (.iload_n 3, 1) := by decide +kernel
theorem dX1_setUp_182 : decode cX1_setUp 182 = .ok (.aload_n 0, 1) := by decide +kernel
theorem dX1_setUp_183 : decode cX1_setUp 183 = .ok (.getfield 27, 3) := by decide +kernel
theorem dX1_setUp_186 : decode cX1_setUp 186 = .ok (.if_icmp .ge 42, 3) := by decide +kernel
theorem dX1_setUp_189 : decode cX1_setUp 189 = .ok (.aload_n 0, 1) := by decide +kernel
theorem dX1_setUp_190 : decode cX1_setUp 190 = .ok (.getfield 52, 3) := by decide +kernel
theorem dX1_setUp_193 : decode cX1_setUp 193 = .ok (.iload_n 3, 1) := by decide +kernel
theorem dX1_setUp_194 : decode cX1_setUp 194 = .ok (.bipush 17, 2) := by decide +kernel
theorem dX1_setUp_196 : decode cX1_setUp 196 = .ok (.imul, 1) := by decide +kernel
theorem dX1_setUp_197 : decode cX1_setUp 197 = .ok (.aload_n 0, 1) := by decide +kernel
theorem dX1_setUp_198 : decode cX1_setUp 198 = .ok (.getfield 30, 3) := by decide +kernel
theorem dX1_setUp_201 : decode cX1_setUp 201 = .ok (.iadd, 1) := by decide +kernel
theorem dX1_setUp_202 : decode cX1_setUp 202 = .ok (.aload_n 0, 1) := by decide +kernel
theorem dX1_setUp_203 : decode cX1_setUp 203 = .ok (.getfield 24, 3) := by decide +kernel
theorem dX1_setUp_206 : decode cX1_setUp 206 = .ok (.i2l, 1) := by decide +kernel
theorem dX1_setUp_207 : decode cX1_setUp 207 = .ok (.ldc2_w 107, 3) := by decide +kernel
theorem dX1_setUp_210 : decode cX1_setUp 210 = .ok (.lmul, 1) := by decide +kernel
theorem dX1_setUp_211 : decode cX1_setUp 211 = .ok (.ldc2_w 112, 3) := by decide +kernel
theorem dX1_setUp_214 : decode cX1_setUp 214 = .ok (.getstatic 109, 3) := by decide +kernel
theorem dX1_setUp_217 : decode cX1_setUp 217 = .ok (.iload_n 3, 1) := by decide +kernel
theorem dX1_setUp_218 : decode cX1_setUp 218 = .ok (.laload, 1) := by decide +kernel
theorem dX1_setUp_219 : decode cX1_setUp 219 = .ok (.lmul, 1) := by decide +kernel
theorem dX1_setUp_220 : decode cX1_setUp 220 = .ok (.ladd, 1) := by decide +kernel
theorem dX1_setUp_221 : decode cX1_setUp 221 = .ok (.lastore, 1) := by decide +kernel
theorem dX1_setUp_222 : decode cX1_setUp 222 = .ok (.iinc 3 1, 3) := by decide +kernel
theorem dX1_setUp_225 : decode cX1_setUp 225 = .ok (.goto (-44), 3) := by decide +kernel
theorem dX1_setUp_228 : decode cX1_setUp 228 = .ok (.return_, 1) := by decide +kernel
theorem dX1_cheapestAt_0 : decode cX1_cheapestAt 0 = .ok (.iload_n 1, 1) := by decide +kernel
theorem dX1_cheapestAt_1 : decode cX1_cheapestAt 1 = .ok (.invokestatic 114, 3) := by decide +kernel
theorem dX1_cheapestAt_4 : decode cX1_cheapestAt 4 = .ok (.istore 4, 2) := by decide +kernel
theorem dX1_cheapestAt_6 : decode cX1_cheapestAt 6 = .ok (.iload_n 1, 1) := by decide +kernel
theorem dX1_cheapestAt_7 : decode cX1_cheapestAt 7 = .ok (.invokestatic 118, 3) := by decide +kernel
theorem dX1_cheapestAt_10 : decode cX1_cheapestAt 10 = .ok (.istore 5, 2) := by decide +kernel
theorem dX1_cheapestAt_12 : decode cX1_cheapestAt 12 = .ok (.aload_n 0, 1) := by decide +kernel
theorem dX1_cheapestAt_13 : decode cX1_cheapestAt 13 = .ok (.getfield 33, 3) := by decide +kernel
theorem dX1_cheapestAt_16 : decode cX1_cheapestAt 16 = .ok (.aload_n 0, 1) := by decide +kernel
theorem dX1_cheapestAt_17 : decode cX1_cheapestAt 17 = .ok (.getfield 9, 3) := by decide +kernel
theorem dX1_cheapestAt_20 : decode cX1_cheapestAt 20 = .ok (.iload 4, 2) := by decide +kernel
theorem dX1_cheapestAt_22 : decode cX1_cheapestAt 22 = .ok (.invokestatic 121, 3) := by decide +kernel
theorem dX1_cheapestAt_25 : decode cX1_cheapestAt 25 = .ok (.iload 5, 2) := by decide +kernel
theorem dX1_cheapestAt_27 : decode cX1_cheapestAt 27 = .ok (.invokestatic 121, 3) := by decide +kernel
theorem dX1_cheapestAt_30 : decode cX1_cheapestAt 30 = .ok (.iadd, 1) := by decide +kernel
theorem dX1_cheapestAt_31 : decode cX1_cheapestAt 31 = .ok (.imul, 1) := by decide +kernel
theorem dX1_cheapestAt_32 : decode cX1_cheapestAt 32 = .ok (.i2l, 1) := by decide +kernel
theorem dX1_cheapestAt_33 : decode cX1_cheapestAt 33 = .ok (.ladd, 1) := by decide +kernel
theorem dX1_cheapestAt_34 : decode cX1_cheapestAt 34 = .ok (.ldc2_w 107, 3) := by decide +kernel
theorem dX1_cheapestAt_37 : decode cX1_cheapestAt 37 = .ok (.lmul, 1) := by decide +kernel
theorem dX1_cheapestAt_38 : decode cX1_cheapestAt 38 = .ok (.iload_n 1, 1) := by decide +kernel
theorem dX1_cheapestAt_39 : decode cX1_cheapestAt 39 = .ok (.i2l, 1) := by decide +kernel
theorem dX1_cheapestAt_40 : decode cX1_cheapestAt 40 = .ok (.ldc2_w 124, 3) := by decide +kernel
theorem dX1_cheapestAt_43 : decode cX1_cheapestAt 43 = .ok (.lmul, 1) := by decide +kernel
theorem dX1_cheapestAt_44 : decode cX1_cheapestAt 44 = .ok (.ladd, 1) := by decide +kernel
theorem dX1_cheapestAt_45 : decode cX1_cheapestAt 45 = .ok (.lstore 6, 2) := by decide +kernel
theorem dX1_cheapestAt_47 : decode cX1_cheapestAt 47 = .ok (.aload_n 0, 1) := by decide +kernel
theorem dX1_cheapestAt_48 : decode cX1_cheapestAt 48 = .ok (.iload 4, 2) := by decide +kernel
theorem dX1_cheapestAt_50 : decode cX1_cheapestAt 50 = .ok (.iload 5, 2) := by decide +kernel
theorem dX1_cheapestAt_52 : decode cX1_cheapestAt 52 = .ok (.invokevirtual 126, 3) := by decide +kernel
theorem dX1_cheapestAt_55 : decode cX1_cheapestAt 55 = .ok (.lload 6, 2) := by decide +kernel
theorem dX1_cheapestAt_57 : decode cX1_cheapestAt 57 = .ok (.aload_n 0, 1) := by decide +kernel
theorem dX1_cheapestAt_58 : decode cX1_cheapestAt 58 = .ok (.invokevirtual 130, 3) := by decide +kernel
theorem dX1_cheapestAt_61 : decode cX1_cheapestAt 61 = .ok (.ladd, 1) := by decide +kernel
theorem dX1_cheapestAt_62 : decode cX1_cheapestAt 62 = .ok (.lstore 8, 2) := by decide +kernel
theorem dX1_cheapestAt_64 : decode cX1_cheapestAt 64 = .ok (.lload 8, 2) := by decide +kernel
theorem dX1_cheapestAt_66 : decode cX1_cheapestAt 66 = .ok (.lload_n 2, 1) := by decide +kernel
theorem dX1_cheapestAt_67 : decode cX1_cheapestAt 67 = .ok (.lcmp, 1) := by decide +kernel
theorem dX1_cheapestAt_68 : decode cX1_cheapestAt 68 = .ok (.ifCond .ge 10, 3) := by decide +kernel
theorem dX1_cheapestAt_71 : decode cX1_cheapestAt 71 = .ok (.aload_n 0, 1) := by decide +kernel
theorem dX1_cheapestAt_72 : decode cX1_cheapestAt 72 = .ok (.getfield 37, 3) := by decide +kernel
theorem dX1_cheapestAt_75 : decode cX1_cheapestAt 75 = .ok (.ifCond .ne 10, 3) := by decide +kernel
theorem dX1_cheapestAt_78 : decode cX1_cheapestAt 78 = .ok (.lload 8, 2) := by decide +kernel
theorem dX1_cheapestAt_80 : decode cX1_cheapestAt 80 = .ok (.lload_n 2, 1) := by decide +kernel
theorem dX1_cheapestAt_81 : decode cX1_cheapestAt 81 = .ok (.invokestatic 134, 3) := by decide +kernel
theorem dX1_cheapestAt_84 : decode cX1_cheapestAt 84 = .ok (.lreturn, 1) := by decide +kernel
theorem dX1_cheapestAt_85 : decode cX1_cheapestAt 85 = .ok (.aload_n 0, 1) := by decide +kernel
theorem dX1_cheapestAt_86 : decode cX1_cheapestAt 86 = .ok (.invokevirtual 137, 3) := by decide +kernel
theorem dX1_cheapestAt_89 : decode cX1_cheapestAt 89 = .ok (.lload 6, 2) := by decide +kernel
theorem dX1_cheapestAt_91 : decode cX1_cheapestAt 91 = .ok (.lstore 10, 2) := by decide +kernel
theorem dX1_cheapestAt_93 : decode cX1_cheapestAt 93 = .ok (.iconst 0, 1) := by decide +kernel
theorem dX1_cheapestAt_94 : decode cX1_cheapestAt 94 = .ok (.istore 12, 2) := by decide +kernel
theorem dX1_cheapestAt_96 : decode cX1_cheapestAt 96 = .ok (.iload 12, 2) := by decide +kernel
theorem dX1_cheapestAt_98 : decode cX1_cheapestAt 98 = .ok (.aload_n 0, 1) := by decide +kernel
theorem dX1_cheapestAt_99 : decode cX1_cheapestAt 99 = .ok (.getfield 27, 3) := by decide +kernel
theorem dX1_cheapestAt_102 : decode cX1_cheapestAt 102 = .ok (.if_icmp .ge 20, 3) := by decide +kernel
theorem dX1_cheapestAt_105 : decode cX1_cheapestAt 105 = .ok (.lload 10, 2) := by decide +kernel
theorem dX1_cheapestAt_107 : decode cX1_cheapestAt 107 = .ok (.aload_n 0, 1) := by decide +kernel
theorem dX1_cheapestAt_108 : decode cX1_cheapestAt 108 = .ok (.iload 12, 2) := by decide +kernel
theorem dX1_cheapestAt_110 : decode cX1_cheapestAt 110 = .ok (.invokevirtual 140, 3) := by decide +kernel
theorem dX1_cheapestAt_113 : decode cX1_cheapestAt 113 = .ok (.ladd, 1) := by decide +kernel
theorem dX1_cheapestAt_114 : decode cX1_cheapestAt 114 = .ok (.lstore 10, 2) := by decide +kernel
theorem dX1_cheapestAt_116 : decode cX1_cheapestAt 116 = .ok (.iinc 12 1, 3) := by decide +kernel
theorem dX1_cheapestAt_119 : decode cX1_cheapestAt 119 = .ok (.goto (-23), 3) := by decide +kernel
theorem dX1_cheapestAt_122 : decode cX1_cheapestAt 122 = .ok (.lload 10, 2) := by decide +kernel
theorem dX1_cheapestAt_124 : decode cX1_cheapestAt 124 = .ok (.lload_n 2, 1) := by decide +kernel
theorem dX1_cheapestAt_125 : decode cX1_cheapestAt 125 = .ok (.invokestatic 134, 3) := by decide +kernel
theorem dX1_cheapestAt_128 : decode cX1_cheapestAt 128 = .ok (.lreturn, 1) := by decide +kernel
theorem dX1_fillCells_0 : decode cX1_fillCells 0 = .ok (.aload_n 0, 1) := by decide +kernel
theorem dX1_fillCells_1 : decode cX1_fillCells 1 = .ok (.getfield 15, 3) := by decide +kernel
theorem dX1_fillCells_4 : decode cX1_fillCells 4 = .ok (.i2l, 1) := by decide +kernel
theorem dX1_fillCells_5 : decode cX1_fillCells 5 = .ok (.ldc2_w 107, 3) := by decide +kernel
theorem dX1_fillCells_8 : decode cX1_fillCells 8 = .ok (.lmul, 1) := by decide +kernel
theorem dX1_fillCells_9 : decode cX1_fillCells 9 = .ok (.lstore_n 3, 1) := by decide +kernel
theorem dX1_fillCells_10 : decode cX1_fillCells 10 = .ok (.iconst 0, 1) := by decide +kernel
theorem dX1_fillCells_11 : decode cX1_fillCells 11 = .ok (.istore 5, 2) := by decide +kernel
theorem dX1_fillCells_13 : decode cX1_fillCells 13 = .ok (.iload 5, 2) := by decide +kernel
theorem dX1_fillCells_15 : decode cX1_fillCells 15 = .ok (.aload_n 0, 1) := by decide +kernel
theorem dX1_fillCells_16 : decode cX1_fillCells 16 = .ok (.getfield 27, 3) := by decide +kernel
theorem dX1_fillCells_19 : decode cX1_fillCells 19 = .ok (.if_icmp .ge 84, 3) := by decide +kernel
theorem dX1_fillCells_22 : decode cX1_fillCells 22 = .ok (.iload 5, 2) := by decide +kernel
theorem dX1_fillCells_24 : decode cX1_fillCells 24 = .ok (.bipush 17, 2) := by decide +kernel
theorem dX1_fillCells_26 : decode cX1_fillCells 26 = .ok (.imul, 1) := by decide +kernel
theorem dX1_fillCells_27 : decode cX1_fillCells 27 = .ok (.aload_n 0, 1) := by decide +kernel
theorem dX1_fillCells_28 : decode cX1_fillCells 28 = .ok (.getfield 30, 3) := by decide +kernel
theorem dX1_fillCells_31 : decode cX1_fillCells 31 = .ok (.iadd, 1) := by decide +kernel
theorem dX1_fillCells_32 : decode cX1_fillCells 32 = .ok (.istore 6, 2) := by decide +kernel
theorem dX1_fillCells_34 : decode cX1_fillCells 34 = .ok (.iload 5, 2) := by decide +kernel
theorem dX1_fillCells_36 : decode cX1_fillCells 36 = .ok (.bipush 17, 2) := by decide +kernel
theorem dX1_fillCells_38 : decode cX1_fillCells 38 = .ok (.imul, 1) := by decide +kernel
theorem dX1_fillCells_39 : decode cX1_fillCells 39 = .ok (.istore 7, 2) := by decide +kernel
theorem dX1_fillCells_41 : decode cX1_fillCells 41 = .ok (.iload 7, 2) := by decide +kernel
theorem dX1_fillCells_43 : decode cX1_fillCells 43 = .ok (.iload 6, 2) := by decide +kernel
theorem dX1_fillCells_45 : decode cX1_fillCells 45 = .ok (.if_icmp .ge 52, 3) := by decide +kernel
theorem dX1_fillCells_48 : decode cX1_fillCells 48 = .ok (.aload_n 0, 1) := by decide +kernel
theorem dX1_fillCells_49 : decode cX1_fillCells 49 = .ok (.getfield 52, 3) := by decide +kernel
theorem dX1_fillCells_52 : decode cX1_fillCells 52 = .ok (.iload 7, 2) := by decide +kernel
theorem dX1_fillCells_54 : decode cX1_fillCells 54 = .ok (.aload_n 0, 1) := by decide +kernel
theorem dX1_fillCells_55 : decode cX1_fillCells 55 = .ok (.getfield 48, 3) := by decide +kernel
theorem dX1_fillCells_58 : decode cX1_fillCells 58 = .ok (.iload 7, 2) := by decide +kernel
theorem dX1_fillCells_60 : decode cX1_fillCells 60 = .ok (.laload, 1) := by decide +kernel
theorem dX1_fillCells_61 : decode cX1_fillCells 61 = .ok (.lload_n 3, 1) := by decide +kernel
theorem dX1_fillCells_62 : decode cX1_fillCells 62 = .ok (.aload_n 0, 1) := by decide +kernel
theorem dX1_fillCells_63 : decode cX1_fillCells 63 = .ok (.getfield 41, 3) := by decide +kernel
theorem dX1_fillCells_66 : decode cX1_fillCells 66 = .ok (.iload 7, 2) := by decide +kernel
theorem dX1_fillCells_68 : decode cX1_fillCells 68 = .ok (.iaload, 1) := by decide +kernel
theorem dX1_fillCells_69 : decode cX1_fillCells 69 = .ok (.iload_n 1, 1) := by decide +kernel
theorem dX1_fillCells_70 : decode cX1_fillCells 70 = .ok (.iadd, 1) := by decide +kernel
theorem dX1_fillCells_71 : decode cX1_fillCells 71 = .ok (.invokestatic 121, 3) := by decide +kernel
theorem dX1_fillCells_74 : decode cX1_fillCells 74 = .ok (.aload_n 0, 1) := by decide +kernel
theorem dX1_fillCells_75 : decode cX1_fillCells 75 = .ok (.getfield 45, 3) := by decide +kernel
theorem dX1_fillCells_78 : decode cX1_fillCells 78 = .ok (.iload 7, 2) := by decide +kernel
theorem dX1_fillCells_80 : decode cX1_fillCells 80 = .ok (.iaload, 1) := by decide +kernel
theorem dX1_fillCells_81 : decode cX1_fillCells 81 = .ok (.iload_n 2, 1) := by decide +kernel
theorem dX1_fillCells_82 : decode cX1_fillCells 82 = .ok (.iadd, 1) := by decide +kernel
theorem dX1_fillCells_83 : decode cX1_fillCells 83 = .ok (.invokestatic 121, 3) := by decide +kernel
theorem dX1_fillCells_86 : decode cX1_fillCells 86 = .ok (.iadd, 1) := by decide +kernel
theorem dX1_fillCells_87 : decode cX1_fillCells 87 = .ok (.i2l, 1) := by decide +kernel
theorem dX1_fillCells_88 : decode cX1_fillCells 88 = .ok (.lmul, 1) := by decide +kernel
theorem dX1_fillCells_89 : decode cX1_fillCells 89 = .ok (.ladd, 1) := by decide +kernel
theorem dX1_fillCells_90 : decode cX1_fillCells 90 = .ok (.lastore, 1) := by decide +kernel
theorem dX1_fillCells_91 : decode cX1_fillCells 91 = .ok (.iinc 7 1, 3) := by decide +kernel
theorem dX1_fillCells_94 : decode cX1_fillCells 94 = .ok (.goto (-53), 3) := by decide +kernel
theorem dX1_fillCells_97 : decode cX1_fillCells 97 = .ok (.iinc 5 1, 3) := by decide +kernel
theorem dX1_fillCells_100 : decode cX1_fillCells 100 = .ok (.goto (-87), 3) := by decide +kernel
theorem dX1_fillCells_103 : decode cX1_fillCells 103 = .ok (.return_, 1) := by decide +kernel
theorem dX1_leastWithoutRivals_0 : decode cX1_leastWithoutRivals 0 = .ok (.lconst 0, 1) := by decide +kernel
theorem dX1_leastWithoutRivals_1 : decode cX1_leastWithoutRivals 1 = .ok (.lstore_n 1, 1) := by decide +kernel
theorem dX1_leastWithoutRivals_2 : decode cX1_leastWithoutRivals 2 = .ok (.iconst 0, 1) := by decide +kernel
theorem dX1_leastWithoutRivals_3 : decode cX1_leastWithoutRivals 3 = .ok (.istore_n 3, 1) := by decide +kernel
theorem dX1_leastWithoutRivals_4 : decode cX1_leastWithoutRivals 4 = .ok (.aload_n 0, 1) := by decide +kernel
theorem dX1_leastWithoutRivals_5 : decode cX1_leastWithoutRivals 5 = .ok (.iconst 0, 1) := by decide +kernel
theorem dX1_leastWithoutRivals_6 : decode cX1_leastWithoutRivals 6 = .ok (.putfield 37, 3) := by decide +kernel
theorem dX1_leastWithoutRivals_9 : decode cX1_leastWithoutRivals 9 = .ok (.iconst 0, 1) := by decide +kernel
theorem dX1_leastWithoutRivals_10 : decode cX1_leastWithoutRivals 10 = .ok (.istore 4, 2) := by decide +kernel
theorem dX1_leastWithoutRivals_12 : decode cX1_leastWithoutRivals 12 = .ok (.iload 4, 2) := by decide +kernel
theorem dX1_leastWithoutRivals_14 : decode cX1_leastWithoutRivals 14 = .ok (.aload_n 0, 1) := by decide +kernel
theorem dX1_leastWithoutRivals_15 : decode cX1_leastWithoutRivals 15 = .ok (.getfield 27, 3) := by decide +kernel
theorem dX1_leastWithoutRivals_18 : decode cX1_leastWithoutRivals 18 = .ok (.if_icmp .ge 123, 3) := by decide +kernel
theorem dX1_leastWithoutRivals_21 : decode cX1_leastWithoutRivals 21 = .ok (.iload 4, 2) := by decide +kernel
theorem dX1_leastWithoutRivals_23 : decode cX1_leastWithoutRivals 23 = .ok (.bipush 17, 2) := by decide +kernel
theorem dX1_leastWithoutRivals_25 : decode cX1_leastWithoutRivals 25 = .ok (.imul, 1) := by decide +kernel
theorem dX1_leastWithoutRivals_26 : decode cX1_leastWithoutRivals 26 = .ok (.istore 5, 2) := by decide +kernel
theorem dX1_leastWithoutRivals_28 : decode cX1_leastWithoutRivals 28 = .ok (.aload_n 0, 1) := by decide +kernel
theorem dX1_leastWithoutRivals_29 : decode cX1_leastWithoutRivals 29 = .ok (.getfield 30, 3) := by decide +kernel
theorem dX1_leastWithoutRivals_32 : decode cX1_leastWithoutRivals 32 = .ok (.istore 6, 2) := by decide +kernel
theorem dX1_leastWithoutRivals_34 : decode cX1_leastWithoutRivals 34 = .ok (.iconst 0, 1) := by decide +kernel
theorem dX1_leastWithoutRivals_35 : decode cX1_leastWithoutRivals 35 = .ok (.istore 7, 2) := by decide +kernel
theorem dX1_leastWithoutRivals_37 : decode cX1_leastWithoutRivals 37 = .ok (.iload 7, 2) := by decide +kernel
theorem dX1_leastWithoutRivals_39 : decode cX1_leastWithoutRivals 39 = .ok (.aload_n 0, 1) := by decide +kernel
theorem dX1_leastWithoutRivals_40 : decode cX1_leastWithoutRivals 40 = .ok (.getfield 30, 3) := by decide +kernel
theorem dX1_leastWithoutRivals_43 : decode cX1_leastWithoutRivals 43 = .ok (.if_icmp .ge 37, 3) := by decide +kernel
theorem dX1_leastWithoutRivals_46 : decode cX1_leastWithoutRivals 46 = .ok (.aload_n 0, 1) := by decide +kernel
theorem dX1_leastWithoutRivals_47 : decode cX1_leastWithoutRivals 47 = .ok (.getfield 52, 3) := by decide +kernel
theorem dX1_leastWithoutRivals_50 : decode cX1_leastWithoutRivals 50 = .ok (.iload 5, 2) := by decide +kernel
theorem dX1_leastWithoutRivals_52 : decode cX1_leastWithoutRivals 52 = .ok (.iload 7, 2) := by decide +kernel
theorem dX1_leastWithoutRivals_54 : decode cX1_leastWithoutRivals 54 = .ok (.iadd, 1) := by decide +kernel
theorem dX1_leastWithoutRivals_55 : decode cX1_leastWithoutRivals 55 = .ok (.laload, 1) := by decide +kernel
theorem dX1_leastWithoutRivals_56 : decode cX1_leastWithoutRivals 56 = .ok (.aload_n 0, 1) := by decide +kernel
theorem dX1_leastWithoutRivals_57 : decode cX1_leastWithoutRivals 57 = .ok (.getfield 52, 3) := by decide +kernel
theorem dX1_leastWithoutRivals_60 : decode cX1_leastWithoutRivals 60 = .ok (.iload 5, 2) := by decide +kernel
theorem dX1_leastWithoutRivals_62 : decode cX1_leastWithoutRivals 62 = .ok (.iload 6, 2) := by decide +kernel
theorem dX1_leastWithoutRivals_64 : decode cX1_leastWithoutRivals 64 = .ok (.iadd, 1) := by decide +kernel
theorem dX1_leastWithoutRivals_65 : decode cX1_leastWithoutRivals 65 = .ok (.laload, 1) := by decide +kernel
theorem dX1_leastWithoutRivals_66 : decode cX1_leastWithoutRivals 66 = .ok (.lcmp, 1) := by decide +kernel
theorem dX1_leastWithoutRivals_67 : decode cX1_leastWithoutRivals 67 = .ok (.ifCond .ge 7, 3) := by decide +kernel
theorem dX1_leastWithoutRivals_70 : decode cX1_leastWithoutRivals 70 = .ok (.iload 7, 2) := by decide +kernel
theorem dX1_leastWithoutRivals_72 : decode cX1_leastWithoutRivals 72 = .ok (.istore 6, 2) := by decide +kernel
theorem dX1_leastWithoutRivals_74 : decode cX1_leastWithoutRivals 74 = .ok (.iinc 7 1, 3) := by decide +kernel
theorem dX1_leastWithoutRivals_77 : decode cX1_leastWithoutRivals 77 = .ok (.goto (-40), 3) := by decide +kernel
theorem dX1_leastWithoutRivals_80 : decode cX1_leastWithoutRivals 80 = .ok (.lload_n 1, 1) := by decide +kernel
theorem dX1_leastWithoutRivals_81 : decode cX1_leastWithoutRivals 81 = .ok (.aload_n 0, 1) := by decide +kernel
theorem dX1_leastWithoutRivals_82 : decode cX1_leastWithoutRivals 82 = .ok (.getfield 52, 3) := by decide +kernel
theorem dX1_leastWithoutRivals_85 : decode cX1_leastWithoutRivals 85 = .ok (.iload 5, 2) := by decide +kernel
theorem dX1_leastWithoutRivals_87 : decode cX1_leastWithoutRivals 87 = .ok (.iload 6, 2) := by decide +kernel
theorem dX1_leastWithoutRivals_89 : decode cX1_leastWithoutRivals 89 = .ok (.iadd, 1) := by decide +kernel
theorem dX1_leastWithoutRivals_90 : decode cX1_leastWithoutRivals 90 = .ok (.laload, 1) := by decide +kernel
theorem dX1_leastWithoutRivals_91 : decode cX1_leastWithoutRivals 91 = .ok (.ladd, 1) := by decide +kernel
theorem dX1_leastWithoutRivals_92 : decode cX1_leastWithoutRivals 92 = .ok (.lstore_n 1, 1) := by decide +kernel
theorem dX1_leastWithoutRivals_93 : decode cX1_leastWithoutRivals 93 = .ok (.iload 6, 2) := by decide +kernel
theorem dX1_leastWithoutRivals_95 : decode cX1_leastWithoutRivals 95 = .ok (.aload_n 0, 1) := by decide +kernel
theorem dX1_leastWithoutRivals_96 : decode cX1_leastWithoutRivals 96 = .ok (.getfield 30, 3) := by decide +kernel
theorem dX1_leastWithoutRivals_99 : decode cX1_leastWithoutRivals 99 = .ok (.if_icmp .ge 36, 3) := by decide +kernel
theorem dX1_leastWithoutRivals_102 : decode cX1_leastWithoutRivals 102 = .ok (.aload_n 0, 1) := by decide +kernel
theorem dX1_leastWithoutRivals_103 : decode cX1_leastWithoutRivals 103 = .ok (.aload_n 0, 1) := by decide +kernel
theorem dX1_leastWithoutRivals_104 : decode cX1_leastWithoutRivals 104 = .ok (.getfield 37, 3) := by decide +kernel
theorem dX1_leastWithoutRivals_107 : decode cX1_leastWithoutRivals 107 = .ok (.ifCond .ne 13, 3) := by decide +kernel
theorem dX1_leastWithoutRivals_110 : decode cX1_leastWithoutRivals 110 = .ok (.iload_n 3, 1) := by decide +kernel
theorem dX1_leastWithoutRivals_111 : decode cX1_leastWithoutRivals 111 = .ok (.iload 6, 2) := by decide +kernel
theorem dX1_leastWithoutRivals_113 : decode cX1_leastWithoutRivals 113 = .ok (.ishr, 1) := by decide +kernel
theorem dX1_leastWithoutRivals_114 : decode cX1_leastWithoutRivals 114 = .ok (.iconst 1, 1) := by decide +kernel
theorem dX1_leastWithoutRivals_115 : decode cX1_leastWithoutRivals 115 = .ok (.iand, 1) := by decide +kernel
theorem dX1_leastWithoutRivals_116 : decode cX1_leastWithoutRivals 116 = .ok (.iconst 1, 1) := by decide +kernel
theorem dX1_leastWithoutRivals_117 : decode cX1_leastWithoutRivals 117 = .ok (.if_icmp .ne 7, 3) := by decide +kernel
theorem dX1_leastWithoutRivals_120 : decode cX1_leastWithoutRivals 120 = .ok (.iconst 1, 1) := by decide +kernel
theorem dX1_leastWithoutRivals_121 : decode cX1_leastWithoutRivals 121 = .ok (.goto 4, 3) := by decide +kernel
theorem dX1_leastWithoutRivals_124 : decode cX1_leastWithoutRivals 124 = .ok (.iconst 0, 1) := by decide +kernel
theorem dX1_leastWithoutRivals_125 : decode cX1_leastWithoutRivals 125 = .ok (.putfield 37, 3) := by decide +kernel
theorem dX1_leastWithoutRivals_128 : decode cX1_leastWithoutRivals 128 = .ok (.iload_n 3, 1) := by decide +kernel
theorem dX1_leastWithoutRivals_129 : decode cX1_leastWithoutRivals 129 = .ok (.iconst 1, 1) := by decide +kernel
theorem dX1_leastWithoutRivals_130 : decode cX1_leastWithoutRivals 130 = .ok (.iload 6, 2) := by decide +kernel
theorem dX1_leastWithoutRivals_132 : decode cX1_leastWithoutRivals 132 = .ok (.ishl, 1) := by decide +kernel
theorem dX1_leastWithoutRivals_133 : decode cX1_leastWithoutRivals 133 = .ok (.ior, 1) := by decide +kernel
theorem dX1_leastWithoutRivals_134 : decode cX1_leastWithoutRivals 134 = .ok (.istore_n 3, 1) := by decide +kernel
theorem dX1_leastWithoutRivals_135 : decode cX1_leastWithoutRivals 135 = .ok (.iinc 4 1, 3) := by decide +kernel
theorem dX1_leastWithoutRivals_138 : decode cX1_leastWithoutRivals 138 = .ok (.goto (-126), 3) := by decide +kernel
theorem dX1_leastWithoutRivals_141 : decode cX1_leastWithoutRivals 141 = .ok (.lload_n 1, 1) := by decide +kernel
theorem dX1_leastWithoutRivals_142 : decode cX1_leastWithoutRivals 142 = .ok (.lreturn, 1) := by decide +kernel
theorem dX1_clearPrices_0 : decode cX1_clearPrices 0 = .ok (.iconst 0, 1) := by decide +kernel
theorem dX1_clearPrices_1 : decode cX1_clearPrices 1 = .ok (.istore_n 1, 1) := by decide +kernel
theorem dX1_clearPrices_2 : decode cX1_clearPrices 2 = .ok (.iload_n 1, 1) := by decide +kernel
theorem dX1_clearPrices_3 : decode cX1_clearPrices 3 = .ok (.aload_n 0, 1) := by decide +kernel
theorem dX1_clearPrices_4 : decode cX1_clearPrices 4 = .ok (.getfield 27, 3) := by decide +kernel
theorem dX1_clearPrices_7 : decode cX1_clearPrices 7 = .ok (.if_icmp .ge 16, 3) := by decide +kernel
theorem dX1_clearPrices_10 : decode cX1_clearPrices 10 = .ok (.aload_n 0, 1) := by decide +kernel
theorem dX1_clearPrices_11 : decode cX1_clearPrices 11 = .ok (.getfield 55, 3) := by decide +kernel
theorem dX1_clearPrices_14 : decode cX1_clearPrices 14 = .ok (.iload_n 1, 1) := by decide +kernel
theorem dX1_clearPrices_15 : decode cX1_clearPrices 15 = .ok (.lconst 0, 1) := by decide +kernel
theorem dX1_clearPrices_16 : decode cX1_clearPrices 16 = .ok (.lastore, 1) := by decide +kernel
theorem dX1_clearPrices_17 : decode cX1_clearPrices 17 = .ok (.iinc 1 1, 3) := by decide +kernel
theorem dX1_clearPrices_20 : decode cX1_clearPrices 20 = .ok (.goto (-18), 3) := by decide +kernel
theorem dX1_clearPrices_23 : decode cX1_clearPrices 23 = .ok (.iconst 0, 1) := by decide +kernel
theorem dX1_clearPrices_24 : decode cX1_clearPrices 24 = .ok (.istore_n 1, 1) := by decide +kernel
theorem dX1_clearPrices_25 : decode cX1_clearPrices 25 = .ok (.iload_n 1, 1) := by decide +kernel
theorem dX1_clearPrices_26 : decode cX1_clearPrices 26 = .ok (.aload_n 0, 1) := by decide +kernel
theorem dX1_clearPrices_27 : decode cX1_clearPrices 27 = .ok (.getfield 30, 3) := by decide +kernel
theorem dX1_clearPrices_30 : decode cX1_clearPrices 30 = .ok (.if_icmp .gt 23, 3) := by decide +kernel
theorem dX1_clearPrices_33 : decode cX1_clearPrices 33 = .ok (.aload_n 0, 1) := by decide +kernel
theorem dX1_clearPrices_34 : decode cX1_clearPrices 34 = .ok (.getfield 58, 3) := by decide +kernel
theorem dX1_clearPrices_37 : decode cX1_clearPrices 37 = .ok (.iload_n 1, 1) := by decide +kernel
theorem dX1_clearPrices_38 : decode cX1_clearPrices 38 = .ok (.lconst 0, 1) := by decide +kernel
theorem dX1_clearPrices_39 : decode cX1_clearPrices 39 = .ok (.lastore, 1) := by decide +kernel
theorem dX1_clearPrices_40 : decode cX1_clearPrices 40 = .ok (.aload_n 0, 1) := by decide +kernel
theorem dX1_clearPrices_41 : decode cX1_clearPrices 41 = .ok (.getfield 61, 3) := by decide +kernel
theorem dX1_clearPrices_44 : decode cX1_clearPrices 44 = .ok (.iload_n 1, 1) := by decide +kernel
theorem dX1_clearPrices_45 : decode cX1_clearPrices 45 = .ok (.iconst (-1), 1) := by decide +kernel
theorem dX1_clearPrices_46 : decode cX1_clearPrices 46 = .ok (.iastore, 1) := by decide +kernel
theorem dX1_clearPrices_47 : decode cX1_clearPrices 47 = .ok (.iinc 1 1, 3) := by decide +kernel
theorem dX1_clearPrices_50 : decode cX1_clearPrices 50 = .ok (.goto (-25), 3) := by decide +kernel
theorem dX1_clearPrices_53 : decode cX1_clearPrices 53 = .ok (.return_, 1) := by decide +kernel
theorem dX1_insert_0 : decode cX1_insert 0 = .ok (.iconst 0, 1) := by decide +kernel
theorem dX1_insert_1 : decode cX1_insert 1 = .ok (.istore_n 2, 1) := by decide +kernel
theorem dX1_insert_2 : decode cX1_insert 2 = .ok (.iload_n 2, 1) := by decide +kernel
theorem dX1_insert_3 : decode cX1_insert 3 = .ok (.aload_n 0, 1) := by decide +kernel
theorem dX1_insert_4 : decode cX1_insert 4 = .ok (.getfield 30, 3) := by decide +kernel
theorem dX1_insert_7 : decode cX1_insert 7 = .ok (.if_icmp .gt 25, 3) := by decide +kernel
theorem dX1_insert_10 : decode cX1_insert 10 = .ok (.aload_n 0, 1) := by decide +kernel
theorem dX1_insert_11 : decode cX1_insert 11 = .ok (.getfield 64, 3) := by decide +kernel
theorem dX1_insert_14 : decode cX1_insert 14 = .ok (.iload_n 2, 1) := by decide +kernel
theorem dX1_insert_15 : decode cX1_insert 15 = .ok (.ldc2_w 89, 3) := by decide +kernel
theorem dX1_insert_18 : decode cX1_insert 18 = .ok (.lastore, 1) := by decide +kernel
theorem dX1_insert_19 : decode cX1_insert 19 = .ok (.aload_n 0, 1) := by decide +kernel
theorem dX1_insert_20 : decode cX1_insert 20 = .ok (.getfield 70, 3) := by decide +kernel
theorem dX1_insert_23 : decode cX1_insert 23 = .ok (.iload_n 2, 1) := by decide +kernel
theorem dX1_insert_24 : decode cX1_insert 24 = .ok (.iconst 0, 1) := by decide +kernel
theorem dX1_insert_25 : decode cX1_insert 25 = .ok (.bastore, 1) := by decide +kernel
theorem dX1_insert_26 : decode cX1_insert 26 = .ok (.iinc 2 1, 3) := by decide +kernel
theorem dX1_insert_29 : decode cX1_insert 29 = .ok (.goto (-27), 3) := by decide +kernel
theorem dX1_insert_32 : decode cX1_insert 32 = .ok (.lconst 0, 1) := by decide +kernel
theorem dX1_insert_33 : decode cX1_insert 33 = .ok (.lstore_n 2, 1) := by decide +kernel
theorem dX1_insert_34 : decode cX1_insert 34 = .ok (.iconst (-1), 1) := by decide +kernel
theorem dX1_insert_35 : decode cX1_insert 35 = .ok (.istore 4, 2) := by decide +kernel
theorem dX1_insert_37 : decode cX1_insert 37 = .ok (.iload_n 1, 1) := by decide +kernel
theorem dX1_insert_38 : decode cX1_insert 38 = .ok (.istore 5, 2) := by decide +kernel
theorem dX1_insert_40 : decode cX1_insert 40 = .ok (.iconst 0, 1) := by decide +kernel
theorem dX1_insert_41 : decode cX1_insert 41 = .ok (.istore 6, 2) := by decide +kernel
theorem dX1_insert_43 : decode cX1_insert 43 = .ok (.iload 6, 2) := by decide +kernel
theorem dX1_insert_45 : decode cX1_insert 45 = .ok (.aload_n 0, 1) := by decide +kernel
theorem dX1_insert_46 : decode cX1_insert 46 = .ok (.getfield 30, 3) := by decide +kernel
theorem dX1_insert_49 : decode cX1_insert 49 = .ok (.if_icmp .gt 82, 3) := by decide +kernel
theorem dX1_insert_52 : decode cX1_insert 52 = .ok (.aload_n 0, 1) := by decide +kernel
theorem dX1_insert_53 : decode cX1_insert 53 = .ok (.iload 5, 2) := by decide +kernel
theorem dX1_insert_55 : decode cX1_insert 55 = .ok (.iload 4, 2) := by decide +kernel
theorem dX1_insert_57 : decode cX1_insert 57 = .ok (.invokevirtual 144, 3) := by decide +kernel
theorem dX1_insert_60 : decode cX1_insert 60 = .ok (.istore 7, 2) := by decide +kernel
theorem dX1_insert_62 : decode cX1_insert 62 = .ok (.lload_n 2, 1) := by decide +kernel
theorem dX1_insert_63 : decode cX1_insert 63 = .ok (.aload_n 0, 1) := by decide +kernel
theorem dX1_insert_64 : decode cX1_insert 64 = .ok (.getfield 64, 3) := by decide +kernel
theorem dX1_insert_67 : decode cX1_insert 67 = .ok (.iload 7, 2) := by decide +kernel
theorem dX1_insert_69 : decode cX1_insert 69 = .ok (.laload, 1) := by decide +kernel
theorem dX1_insert_70 : decode cX1_insert 70 = .ok (.ladd, 1) := by decide +kernel
theorem dX1_insert_71 : decode cX1_insert 71 = .ok (.lstore_n 2, 1) := by decide +kernel
theorem dX1_insert_72 : decode cX1_insert 72 = .ok (.aload_n 0, 1) := by decide +kernel
theorem dX1_insert_73 : decode cX1_insert 73 = .ok (.iload_n 1, 1) := by decide +kernel
theorem dX1_insert_74 : decode cX1_insert 74 = .ok (.aload_n 0, 1) := by decide +kernel
theorem dX1_insert_75 : decode cX1_insert 75 = .ok (.getfield 64, 3) := by decide +kernel
theorem dX1_insert_78 : decode cX1_insert 78 = .ok (.iload 7, 2) := by decide +kernel
theorem dX1_insert_80 : decode cX1_insert 80 = .ok (.laload, 1) := by decide +kernel
theorem dX1_insert_81 : decode cX1_insert 81 = .ok (.invokevirtual 147, 3) := by decide +kernel
theorem dX1_insert_84 : decode cX1_insert 84 = .ok (.aload_n 0, 1) := by decide +kernel
theorem dX1_insert_85 : decode cX1_insert 85 = .ok (.getfield 61, 3) := by decide +kernel
theorem dX1_insert_88 : decode cX1_insert 88 = .ok (.iload 7, 2) := by decide +kernel
theorem dX1_insert_90 : decode cX1_insert 90 = .ok (.iaload, 1) := by decide +kernel
theorem dX1_insert_91 : decode cX1_insert 91 = .ok (.iconst (-1), 1) := by decide +kernel
theorem dX1_insert_92 : decode cX1_insert 92 = .ok (.if_icmp .ne 12, 3) := by decide +kernel
theorem dX1_insert_95 : decode cX1_insert 95 = .ok (.aload_n 0, 1) := by decide +kernel
theorem dX1_insert_96 : decode cX1_insert 96 = .ok (.iload_n 1, 1) := by decide +kernel
theorem dX1_insert_97 : decode cX1_insert 97 = .ok (.iload 7, 2) := by decide +kernel
theorem dX1_insert_99 : decode cX1_insert 99 = .ok (.invokevirtual 151, 3) := by decide +kernel
theorem dX1_insert_102 : decode cX1_insert 102 = .ok (.lload_n 2, 1) := by decide +kernel
theorem dX1_insert_103 : decode cX1_insert 103 = .ok (.lreturn, 1) := by decide +kernel
theorem dX1_insert_104 : decode cX1_insert 104 = .ok (.aload_n 0, 1) := by decide +kernel
theorem dX1_insert_105 : decode cX1_insert 105 = .ok (.getfield 70, 3) := by decide +kernel
theorem dX1_insert_108 : decode cX1_insert 108 = .ok (.iload 7, 2) := by decide +kernel
theorem dX1_insert_110 : decode cX1_insert 110 = .ok (.iconst 1, 1) := by decide +kernel
theorem dX1_insert_111 : decode cX1_insert 111 = .ok (.bastore, 1) := by decide +kernel
theorem dX1_insert_112 : decode cX1_insert 112 = .ok (.iload 7, 2) := by decide +kernel
theorem dX1_insert_114 : decode cX1_insert 114 = .ok (.istore 4, 2) := by decide +kernel
theorem dX1_insert_116 : decode cX1_insert 116 = .ok (.aload_n 0, 1) := by decide +kernel
theorem dX1_insert_117 : decode cX1_insert 117 = .ok (.getfield 61, 3) := by decide +kernel
theorem dX1_insert_120 : decode cX1_insert 120 = .ok (.iload 7, 2) := by decide +kernel
theorem dX1_insert_122 : decode cX1_insert 122 = .ok (.iaload, 1) := by decide +kernel
theorem dX1_insert_123 : decode cX1_insert 123 = .ok (.istore 5, 2) := by decide +kernel
theorem dX1_insert_125 : decode cX1_insert 125 = .ok (.iinc 6 1, 3) := by decide +kernel
theorem dX1_insert_128 : decode cX1_insert 128 = .ok (.goto (-85), 3) := by decide +kernel
theorem dX1_insert_131 : decode cX1_insert 131 = .ok (.lload_n 2, 1) := by decide +kernel
theorem dX1_insert_132 : decode cX1_insert 132 = .ok (.lreturn, 1) := by decide +kernel
theorem dX1_reach_0 : decode cX1_reach 0 = .ok (.aload_n 0, 1) := by decide +kernel
theorem dX1_reach_1 : decode cX1_reach 1 = .ok (.getfield 30, 3) := by decide +kernel
theorem dX1_reach_4 : decode cX1_reach 4 = .ok (.istore_n 3, 1) := by decide +kernel
theorem dX1_reach_5 : decode cX1_reach 5 = .ok (.aload_n 0, 1) := by decide +kernel
theorem dX1_reach_6 : decode cX1_reach 6 = .ok (.getfield 30, 3) := by decide +kernel
theorem dX1_reach_9 : decode cX1_reach 9 = .ok (.istore 4, 2) := by decide +kernel
theorem dX1_reach_11 : decode cX1_reach 11 = .ok (.iload 4, 2) := by decide +kernel
theorem dX1_reach_13 : decode cX1_reach 13 = .ok (.ifCond .lt 98, 3) := by decide +kernel
theorem dX1_reach_16 : decode cX1_reach 16 = .ok (.aload_n 0, 1) := by decide +kernel
theorem dX1_reach_17 : decode cX1_reach 17 = .ok (.getfield 70, 3) := by decide +kernel
theorem dX1_reach_20 : decode cX1_reach 20 = .ok (.iload 4, 2) := by decide +kernel
theorem dX1_reach_22 : decode cX1_reach 22 = .ok (.baload, 1) := by decide +kernel
theorem dX1_reach_23 : decode cX1_reach 23 = .ok (.ifCond .ne 82, 3) := by decide +kernel
theorem dX1_reach_26 : decode cX1_reach 26 = .ok (.aload_n 0, 1) := by decide +kernel
theorem dX1_reach_27 : decode cX1_reach 27 = .ok (.getfield 52, 3) := by decide +kernel
theorem dX1_reach_30 : decode cX1_reach 30 = .ok (.iload_n 1, 1) := by decide +kernel
theorem dX1_reach_31 : decode cX1_reach 31 = .ok (.bipush 17, 2) := by decide +kernel
theorem dX1_reach_33 : decode cX1_reach 33 = .ok (.imul, 1) := by decide +kernel
theorem dX1_reach_34 : decode cX1_reach 34 = .ok (.iload 4, 2) := by decide +kernel
theorem dX1_reach_36 : decode cX1_reach 36 = .ok (.iadd, 1) := by decide +kernel
theorem dX1_reach_37 : decode cX1_reach 37 = .ok (.laload, 1) := by decide +kernel
theorem dX1_reach_38 : decode cX1_reach 38 = .ok (.aload_n 0, 1) := by decide +kernel
theorem dX1_reach_39 : decode cX1_reach 39 = .ok (.getfield 55, 3) := by decide +kernel
theorem dX1_reach_42 : decode cX1_reach 42 = .ok (.iload_n 1, 1) := by decide +kernel
theorem dX1_reach_43 : decode cX1_reach 43 = .ok (.laload, 1) := by decide +kernel
theorem dX1_reach_44 : decode cX1_reach 44 = .ok (.lsub, 1) := by decide +kernel
theorem dX1_reach_45 : decode cX1_reach 45 = .ok (.aload_n 0, 1) := by decide +kernel
theorem dX1_reach_46 : decode cX1_reach 46 = .ok (.getfield 58, 3) := by decide +kernel
theorem dX1_reach_49 : decode cX1_reach 49 = .ok (.iload 4, 2) := by decide +kernel
theorem dX1_reach_51 : decode cX1_reach 51 = .ok (.laload, 1) := by decide +kernel
theorem dX1_reach_52 : decode cX1_reach 52 = .ok (.lsub, 1) := by decide +kernel
theorem dX1_reach_53 : decode cX1_reach 53 = .ok (.lstore 5, 2) := by decide +kernel
theorem dX1_reach_55 : decode cX1_reach 55 = .ok (.lload 5, 2) := by decide +kernel
theorem dX1_reach_57 : decode cX1_reach 57 = .ok (.aload_n 0, 1) := by decide +kernel
theorem dX1_reach_58 : decode cX1_reach 58 = .ok (.getfield 64, 3) := by decide +kernel
theorem dX1_reach_61 : decode cX1_reach 61 = .ok (.iload 4, 2) := by decide +kernel
theorem dX1_reach_63 : decode cX1_reach 63 = .ok (.laload, 1) := by decide +kernel
theorem dX1_reach_64 : decode cX1_reach 64 = .ok (.lcmp, 1) := by decide +kernel
theorem dX1_reach_65 : decode cX1_reach 65 = .ok (.ifCond .ge 20, 3) := by decide +kernel
theorem dX1_reach_68 : decode cX1_reach 68 = .ok (.aload_n 0, 1) := by decide +kernel
theorem dX1_reach_69 : decode cX1_reach 69 = .ok (.getfield 64, 3) := by decide +kernel
theorem dX1_reach_72 : decode cX1_reach 72 = .ok (.iload 4, 2) := by decide +kernel
theorem dX1_reach_74 : decode cX1_reach 74 = .ok (.lload 5, 2) := by decide +kernel
theorem dX1_reach_76 : decode cX1_reach 76 = .ok (.lastore, 1) := by decide +kernel
theorem dX1_reach_77 : decode cX1_reach 77 = .ok (.aload_n 0, 1) := by decide +kernel
theorem dX1_reach_78 : decode cX1_reach 78 = .ok (.getfield 67, 3) := by decide +kernel
theorem dX1_reach_81 : decode cX1_reach 81 = .ok (.iload 4, 2) := by decide +kernel
theorem dX1_reach_83 : decode cX1_reach 83 = .ok (.iload_n 2, 1) := by decide +kernel
theorem dX1_reach_84 : decode cX1_reach 84 = .ok (.iastore, 1) := by decide +kernel
theorem dX1_reach_85 : decode cX1_reach 85 = .ok (.aload_n 0, 1) := by decide +kernel
theorem dX1_reach_86 : decode cX1_reach 86 = .ok (.getfield 64, 3) := by decide +kernel
theorem dX1_reach_89 : decode cX1_reach 89 = .ok (.iload 4, 2) := by decide +kernel
theorem dX1_reach_91 : decode cX1_reach 91 = .ok (.laload, 1) := by decide +kernel
theorem dX1_reach_92 : decode cX1_reach 92 = .ok (.aload_n 0, 1) := by decide +kernel
theorem dX1_reach_93 : decode cX1_reach 93 = .ok (.getfield 64, 3) := by decide +kernel
theorem dX1_reach_96 : decode cX1_reach 96 = .ok (.iload_n 3, 1) := by decide +kernel
theorem dX1_reach_97 : decode cX1_reach 97 = .ok (.laload, 1) := by decide +kernel
theorem dX1_reach_98 : decode cX1_reach 98 = .ok (.lcmp, 1) := by decide +kernel
theorem dX1_reach_99 : decode cX1_reach 99 = .ok (.ifCond .ge 6, 3) := by decide +kernel
theorem dX1_reach_102 : decode cX1_reach 102 = .ok (.iload 4, 2) := by decide +kernel
theorem dX1_reach_104 : decode cX1_reach 104 = .ok (.istore_n 3, 1) := by decide +kernel
theorem dX1_reach_105 : decode cX1_reach 105 = .ok (.iinc 4 (-1), 3) := by decide +kernel
theorem dX1_reach_108 : decode cX1_reach 108 = .ok (.goto (-97), 3) := by decide +kernel
theorem dX1_reach_111 : decode cX1_reach 111 = .ok (.iload_n 3, 1) := by decide +kernel
theorem dX1_reach_112 : decode cX1_reach 112 = .ok (.ireturn, 1) := by decide +kernel
theorem dX1_raisePrices_0 : decode cX1_raisePrices 0 = .ok (.aload_n 0, 1) := by decide +kernel
theorem dX1_raisePrices_1 : decode cX1_raisePrices 1 = .ok (.getfield 55, 3) := by decide +kernel
theorem dX1_raisePrices_4 : decode cX1_raisePrices 4 = .ok (.iload_n 1, 1) := by decide +kernel
theorem dX1_raisePrices_5 : decode cX1_raisePrices 5 = .ok (.dup2, 1) := by decide +kernel
theorem dX1_raisePrices_6 : decode cX1_raisePrices 6 = .ok (.laload, 1) := by decide +kernel
theorem dX1_raisePrices_7 : decode cX1_raisePrices 7 = .ok (.lload_n 2, 1) := by decide +kernel
theorem dX1_raisePrices_8 : decode cX1_raisePrices 8 = .ok (.ladd, 1) := by decide +kernel
theorem dX1_raisePrices_9 : decode cX1_raisePrices 9 = .ok (.lastore, 1) := by decide +kernel
theorem dX1_raisePrices_10 : decode cX1_raisePrices 10 = .ok (.iconst 0, 1) := by decide +kernel
theorem dX1_raisePrices_11 : decode cX1_raisePrices 11 = .ok (.istore 4, 2) := by decide +kernel
theorem dX1_raisePrices_13 : decode cX1_raisePrices 13 = .ok (.iload 4, 2) := by decide +kernel
theorem dX1_raisePrices_15 : decode cX1_raisePrices 15 = .ok (.aload_n 0, 1) := by decide +kernel
theorem dX1_raisePrices_16 : decode cX1_raisePrices 16 = .ok (.getfield 30, 3) := by decide +kernel
theorem dX1_raisePrices_19 : decode cX1_raisePrices 19 = .ok (.if_icmp .gt 71, 3) := by decide +kernel
theorem dX1_raisePrices_22 : decode cX1_raisePrices 22 = .ok (.aload_n 0, 1) := by decide +kernel
theorem dX1_raisePrices_23 : decode cX1_raisePrices 23 = .ok (.getfield 70, 3) := by decide +kernel
theorem dX1_raisePrices_26 : decode cX1_raisePrices 26 = .ok (.iload 4, 2) := by decide +kernel
theorem dX1_raisePrices_28 : decode cX1_raisePrices 28 = .ok (.baload, 1) := by decide +kernel
theorem dX1_raisePrices_29 : decode cX1_raisePrices 29 = .ok (.ifCond .eq 44, 3) := by decide +kernel
theorem dX1_raisePrices_32 : decode cX1_raisePrices 32 = .ok (.aload_n 0, 1) := by decide +kernel
theorem dX1_raisePrices_33 : decode cX1_raisePrices 33 = .ok (.getfield 61, 3) := by decide +kernel
theorem dX1_raisePrices_36 : decode cX1_raisePrices 36 = .ok (.iload 4, 2) := by decide +kernel
theorem dX1_raisePrices_38 : decode cX1_raisePrices 38 = .ok (.iaload, 1) := by decide +kernel
theorem dX1_raisePrices_39 : decode cX1_raisePrices 39 = .ok (.iconst (-1), 1) := by decide +kernel
theorem dX1_raisePrices_40 : decode cX1_raisePrices 40 = .ok (.if_icmp .eq 33, 3) := by decide +kernel
theorem dX1_raisePrices_43 : decode cX1_raisePrices 43 = .ok (.aload_n 0, 1) := by decide +kernel
theorem dX1_raisePrices_44 : decode cX1_raisePrices 44 = .ok (.getfield 55, 3) := by decide +kernel
theorem dX1_raisePrices_47 : decode cX1_raisePrices 47 = .ok (.aload_n 0, 1) := by decide +kernel
theorem dX1_raisePrices_48 : decode cX1_raisePrices 48 = .ok (.getfield 61, 3) := by decide +kernel
theorem dX1_raisePrices_51 : decode cX1_raisePrices 51 = .ok (.iload 4, 2) := by decide +kernel
theorem dX1_raisePrices_53 : decode cX1_raisePrices 53 = .ok (.iaload, 1) := by decide +kernel
theorem dX1_raisePrices_54 : decode cX1_raisePrices 54 = .ok (.dup2, 1) := by decide +kernel
theorem dX1_raisePrices_55 : decode cX1_raisePrices 55 = .ok (.laload, 1) := by decide +kernel
theorem dX1_raisePrices_56 : decode cX1_raisePrices 56 = .ok (.lload_n 2, 1) := by decide +kernel
theorem dX1_raisePrices_57 : decode cX1_raisePrices 57 = .ok (.ladd, 1) := by decide +kernel
theorem dX1_raisePrices_58 : decode cX1_raisePrices 58 = .ok (.lastore, 1) := by decide +kernel
theorem dX1_raisePrices_59 : decode cX1_raisePrices 59 = .ok (.aload_n 0, 1) := by decide +kernel
theorem dX1_raisePrices_60 : decode cX1_raisePrices 60 = .ok (.getfield 58, 3) := by decide +kernel
theorem dX1_raisePrices_63 : decode cX1_raisePrices 63 = .ok (.iload 4, 2) := by decide +kernel
theorem dX1_raisePrices_65 : decode cX1_raisePrices 65 = .ok (.dup2, 1) := by decide +kernel
theorem dX1_raisePrices_66 : decode cX1_raisePrices 66 = .ok (.laload, 1) := by decide +kernel
theorem dX1_raisePrices_67 : decode cX1_raisePrices 67 = .ok (.lload_n 2, 1) := by decide +kernel
theorem dX1_raisePrices_68 : decode cX1_raisePrices 68 = .ok (.lsub, 1) := by decide +kernel
theorem dX1_raisePrices_69 : decode cX1_raisePrices 69 = .ok (.lastore, 1) := by decide +kernel
theorem dX1_raisePrices_70 : decode cX1_raisePrices 70 = .ok (.goto 14, 3) := by decide +kernel
theorem dX1_raisePrices_73 : decode cX1_raisePrices 73 = .ok (.aload_n 0, 1) := by decide +kernel
theorem dX1_raisePrices_74 : decode cX1_raisePrices 74 = .ok (.getfield 64, 3) := by decide +kernel
theorem dX1_raisePrices_77 : decode cX1_raisePrices 77 = .ok (.iload 4, 2) := by decide +kernel
theorem dX1_raisePrices_79 : decode cX1_raisePrices 79 = .ok (.dup2, 1) := by decide +kernel
theorem dX1_raisePrices_80 : decode cX1_raisePrices 80 = .ok (.laload, 1) := by decide +kernel
theorem dX1_raisePrices_81 : decode cX1_raisePrices 81 = .ok (.lload_n 2, 1) := by decide +kernel
theorem dX1_raisePrices_82 : decode cX1_raisePrices 82 = .ok (.lsub, 1) := by decide +kernel
theorem dX1_raisePrices_83 : decode cX1_raisePrices 83 = .ok (.lastore, 1) := by decide +kernel
theorem dX1_raisePrices_84 : decode cX1_raisePrices 84 = .ok (.iinc 4 1, 3) := by decide +kernel
theorem dX1_raisePrices_87 : decode cX1_raisePrices 87 = .ok (.goto (-74), 3) := by decide +kernel
theorem dX1_raisePrices_90 : decode cX1_raisePrices 90 = .ok (.return_, 1) := by decide +kernel
theorem dX1_handOn_0 : decode cX1_handOn 0 = .ok (.iload_n 2, 1) := by decide +kernel
theorem dX1_handOn_1 : decode cX1_handOn 1 = .ok (.istore_n 3, 1) := by decide +kernel
theorem dX1_handOn_2 : decode cX1_handOn 2 = .ok (.iconst 0, 1) := by decide +kernel
theorem dX1_handOn_3 : decode cX1_handOn 3 = .ok (.istore 4, 2) := by decide +kernel
theorem dX1_handOn_5 : decode cX1_handOn 5 = .ok (.iload 4, 2) := by decide +kernel
theorem dX1_handOn_7 : decode cX1_handOn 7 = .ok (.aload_n 0, 1) := by decide +kernel
theorem dX1_handOn_8 : decode cX1_handOn 8 = .ok (.getfield 30, 3) := by decide +kernel
theorem dX1_handOn_11 : decode cX1_handOn 11 = .ok (.if_icmp .gt 56, 3) := by decide +kernel
theorem dX1_handOn_14 : decode cX1_handOn 14 = .ok (.iload_n 3, 1) := by decide +kernel
theorem dX1_handOn_15 : decode cX1_handOn 15 = .ok (.iconst (-1), 1) := by decide +kernel
theorem dX1_handOn_16 : decode cX1_handOn 16 = .ok (.if_icmp .eq 51, 3) := by decide +kernel
theorem dX1_handOn_19 : decode cX1_handOn 19 = .ok (.aload_n 0, 1) := by decide +kernel
theorem dX1_handOn_20 : decode cX1_handOn 20 = .ok (.getfield 67, 3) := by decide +kernel
theorem dX1_handOn_23 : decode cX1_handOn 23 = .ok (.iload_n 3, 1) := by decide +kernel
theorem dX1_handOn_24 : decode cX1_handOn 24 = .ok (.iaload, 1) := by decide +kernel
theorem dX1_handOn_25 : decode cX1_handOn 25 = .ok (.istore 5, 2) := by decide +kernel
theorem dX1_handOn_27 : decode cX1_handOn 27 = .ok (.iload_n 3, 1) := by decide +kernel
theorem dX1_handOn_28 : decode cX1_handOn 28 = .ok (.aload_n 0, 1) := by decide +kernel
theorem dX1_handOn_29 : decode cX1_handOn 29 = .ok (.getfield 30, 3) := by decide +kernel
theorem dX1_handOn_32 : decode cX1_handOn 32 = .ok (.if_icmp .ge 26, 3) := by decide +kernel
theorem dX1_handOn_35 : decode cX1_handOn 35 = .ok (.aload_n 0, 1) := by decide +kernel
theorem dX1_handOn_36 : decode cX1_handOn 36 = .ok (.getfield 61, 3) := by decide +kernel
theorem dX1_handOn_39 : decode cX1_handOn 39 = .ok (.iload_n 3, 1) := by decide +kernel
theorem dX1_handOn_40 : decode cX1_handOn 40 = .ok (.iload 5, 2) := by decide +kernel
theorem dX1_handOn_42 : decode cX1_handOn 42 = .ok (.iconst (-1), 1) := by decide +kernel
theorem dX1_handOn_43 : decode cX1_handOn 43 = .ok (.if_icmp .ne 7, 3) := by decide +kernel
theorem dX1_handOn_46 : decode cX1_handOn 46 = .ok (.iload_n 1, 1) := by decide +kernel
theorem dX1_handOn_47 : decode cX1_handOn 47 = .ok (.goto 10, 3) := by decide +kernel
theorem dX1_handOn_50 : decode cX1_handOn 50 = .ok (.aload_n 0, 1) := by decide +kernel
theorem dX1_handOn_51 : decode cX1_handOn 51 = .ok (.getfield 61, 3) := by decide +kernel
theorem dX1_handOn_54 : decode cX1_handOn 54 = .ok (.iload 5, 2) := by decide +kernel
theorem dX1_handOn_56 : decode cX1_handOn 56 = .ok (.iaload, 1) := by decide +kernel
theorem dX1_handOn_57 : decode cX1_handOn 57 = .ok (.iastore, 1) := by decide +kernel
theorem dX1_handOn_58 : decode cX1_handOn 58 = .ok (.iload 5, 2) := by decide +kernel
theorem dX1_handOn_60 : decode cX1_handOn 60 = .ok (.istore_n 3, 1) := by decide +kernel
theorem dX1_handOn_61 : decode cX1_handOn 61 = .ok (.iinc 4 1, 3) := by decide +kernel
theorem dX1_handOn_64 : decode cX1_handOn 64 = .ok (.goto (-59), 3) := by decide +kernel
theorem dX1_handOn_67 : decode cX1_handOn 67 = .ok (.return_, 1) := by decide +kernel
theorem dX2_init_0 : decode cX2_init 0 = .ok (.aload_n 0, 1) := by decide +kernel
theorem dX2_init_1 : decode cX2_init 1 = .ok (.invokespecial 3, 3) := by decide +kernel
theorem dX2_init_4 : decode cX2_init 4 = .ok (.aload_n 0, 1) := by decide +kernel
theorem dX2_init_5 : decode cX2_init 5 = .ok (.bipush 100, 2) := by decide +kernel
theorem dX2_init_7 : decode cX2_init 7 = .ok (.newarray .int, 2) := by decide +kernel
theorem dX2_init_9 : decode cX2_init 9 = .ok (.putfield 9, 3) := by decide +kernel
theorem dX2_init_12 : decode cX2_init 12 = .ok (.aload_n 0, 1) := by decide +kernel
theorem dX2_init_13 : decode cX2_init 13 = .ok (.bipush 16, 2) := by decide +kernel
theorem dX2_init_15 : decode cX2_init 15 = .ok (.newarray .int, 2) := by decide +kernel
theorem dX2_init_17 : decode cX2_init 17 = .ok (.putfield 15, 3) := by decide +kernel
theorem dX2_init_20 : decode cX2_init 20 = .ok (.aload_n 0, 1) := by decide +kernel
theorem dX2_init_21 : decode cX2_init 21 = .ok (.bipush 16, 2) := by decide +kernel
theorem dX2_init_23 : decode cX2_init 23 = .ok (.newarray .int, 2) := by decide +kernel
theorem dX2_init_25 : decode cX2_init 25 = .ok (.putfield 18, 3) := by decide +kernel
theorem dX2_init_28 : decode cX2_init 28 = .ok (.return_, 1) := by decide +kernel
theorem dX2_make_0 : decode cX2_make 0 = .ok (.aload_n 1, 1) := by decide +kernel
theorem dX2_make_1 : decode cX2_make 1 = .ok (.invokevirtual 21, 3) := by decide +kernel
theorem dX2_make_4 : decode cX2_make 4 = .ok (.aload_n 0, 1) := by decide +kernel
theorem dX2_make_5 : decode cX2_make 5 = .ok (.aload_n 1, 1) := by decide +kernel
theorem dX2_make_6 : decode cX2_make 6 = .ok (.iload_n 2, 1) := by decide +kernel
theorem dX2_make_7 : decode cX2_make 7 = .ok (.aload_n 3, 1) := by decide +kernel
theorem dX2_make_8 : decode cX2_make 8 = .ok (.aload 4, 2) := by decide +kernel
theorem dX2_make_10 : decode cX2_make 10 = .ok (.invokevirtual 26, 3) := by decide +kernel
theorem dX2_make_13 : decode cX2_make 13 = .ok (.iconst 1, 1) := by decide +kernel
theorem dX2_make_14 : decode cX2_make 14 = .ok (.istore 5, 2) := by decide +kernel
theorem dX2_make_16 : decode cX2_make 16 = .ok (.iload 5, 2) := by decide +kernel
theorem dX2_make_18 : decode cX2_make 18 = .ok (.bipush 99, 2) := by decide +kernel
theorem dX2_make_20 : decode cX2_make 20 = .ok (.if_icmp .gt 88, 3) := by decide +kernel
theorem dX2_make_23 : decode cX2_make 23 = .ok (.aload_n 0, 1) := by decide +kernel
theorem dX2_make_24 : decode cX2_make 24 = .ok (.getfield 9, 3) := by decide +kernel
theorem dX2_make_27 : decode cX2_make 27 = .ok (.iload 5, 2) := by decide +kernel
theorem dX2_make_29 : decode cX2_make 29 = .ok (.iaload, 1) := by decide +kernel
theorem dX2_make_30 : decode cX2_make 30 = .ok (.ifCond .le 72, 3) := by decide +kernel
theorem dX2_make_33 : decode cX2_make 33 = .ok (.iconst 2, 1) := by decide +kernel
theorem dX2_make_34 : decode cX2_make 34 = .ok (.aload_n 0, 1) := by decide +kernel
theorem dX2_make_35 : decode cX2_make 35 = .ok (.getfield 9, 3) := by decide +kernel
theorem dX2_make_38 : decode cX2_make 38 = .ok (.iload 5, 2) := by decide +kernel
theorem dX2_make_40 : decode cX2_make 40 = .ok (.iaload, 1) := by decide +kernel
theorem dX2_make_41 : decode cX2_make 41 = .ok (.imul, 1) := by decide +kernel
theorem dX2_make_42 : decode cX2_make 42 = .ok (.aload_n 1, 1) := by decide +kernel
theorem dX2_make_43 : decode cX2_make 43 = .ok (.getfield 30, 3) := by decide +kernel
theorem dX2_make_46 : decode cX2_make 46 = .ok (.if_icmp .lt 56, 3) := by decide +kernel
theorem dX2_make_49 : decode cX2_make 49 = .ok (.aload_n 0, 1) := by decide +kernel
theorem dX2_make_50 : decode cX2_make 50 = .ok (.iload 5, 2) := by decide +kernel
theorem dX2_make_52 : decode cX2_make 52 = .ok (.iload_n 2, 1) := by decide +kernel
theorem dX2_make_53 : decode cX2_make 53 = .ok (.aload_n 3, 1) := by decide +kernel
theorem dX2_make_54 : decode cX2_make 54 = .ok (.aload 4, 2) := by decide +kernel
theorem dX2_make_56 : decode cX2_make 56 = .ok (.invokevirtual 34, 3) := by decide +kernel
theorem dX2_make_59 : decode cX2_make 59 = .ok (.istore 6, 2) := by decide +kernel
theorem dX2_make_61 : decode cX2_make 61 = .ok (.aload_n 1, 1) := by decide +kernel
theorem dX2_make_62 : decode cX2_make 62 = .ok (.getfield 38, 3) := by decide +kernel
theorem dX2_make_65 : decode cX2_make 65 = .ok (.iload 5, 2) := by decide +kernel
theorem dX2_make_67 : decode cX2_make 67 = .ok (.aload_n 0, 1) := by decide +kernel
theorem dX2_make_68 : decode cX2_make 68 = .ok (.getfield 15, 3) := by decide +kernel
theorem dX2_make_71 : decode cX2_make 71 = .ok (.iload 6, 2) := by decide +kernel
theorem dX2_make_73 : decode cX2_make 73 = .ok (.invokestatic 42, 3) := by decide +kernel
theorem dX2_make_76 : decode cX2_make 76 = .ok (.aload_n 0, 1) := by decide +kernel
theorem dX2_make_77 : decode cX2_make 77 = .ok (.getfield 18, 3) := by decide +kernel
theorem dX2_make_80 : decode cX2_make 80 = .ok (.iload 6, 2) := by decide +kernel
theorem dX2_make_82 : decode cX2_make 82 = .ok (.invokestatic 42, 3) := by decide +kernel
theorem dX2_make_85 : decode cX2_make 85 = .ok (.iload 6, 2) := by decide +kernel
theorem dX2_make_87 : decode cX2_make 87 = .ok (.aload_n 1, 1) := by decide +kernel
theorem dX2_make_88 : decode cX2_make 88 = .ok (.getfield 30, 3) := by decide +kernel
theorem dX2_make_91 : decode cX2_make 91 = .ok (.if_icmp .ne 7, 3) := by decide +kernel
theorem dX2_make_94 : decode cX2_make 94 = .ok (.iconst 1, 1) := by decide +kernel
theorem dX2_make_95 : decode cX2_make 95 = .ok (.goto 4, 3) := by decide +kernel
theorem dX2_make_98 : decode cX2_make 98 = .ok (.iconst 0, 1) := by decide +kernel
theorem dX2_make_99 : decode cX2_make 99 = .ok (.invokevirtual 46, 3) := by decide +kernel
theorem dX2_make_102 : decode cX2_make 102 = .ok (.iinc 5 1, 3) := by decide +kernel
theorem dX2_make_105 : decode cX2_make 105 = .ok (.goto (-89), 3) := by decide +kernel
theorem dX2_make_108 : decode cX2_make 108 = .ok (.return_, 1) := by decide +kernel
theorem dX2_countCarriers_0 : decode cX2_countCarriers 0 = .ok (.iconst 0, 1) := by decide +kernel
theorem dX2_countCarriers_1 : decode cX2_countCarriers 1 = .ok (.istore 5, 2) := by decide +kernel
theorem dX2_countCarriers_3 : decode cX2_countCarriers 3 = .ok (.iload 5, 2) := by decide +kernel
theorem dX2_countCarriers_5 : decode cX2_countCarriers 5 = .ok (.bipush 99, 2) := by decide +kernel
theorem dX2_countCarriers_7 : decode cX2_countCarriers 7 = .ok (.if_icmp .gt 17, 3) := by decide +kernel
theorem dX2_countCarriers_10 : decode cX2_countCarriers 10 = .ok (.aload_n 0, 1) := by decide +kernel
theorem dX2_countCarriers_11 : decode cX2_countCarriers 11 = .ok (.getfield 9, 3) := by decide +kernel
theorem dX2_countCarriers_14 : decode cX2_countCarriers 14 = .ok (.iload 5, 2) := by decide +kernel
theorem dX2_countCarriers_16 : decode cX2_countCarriers 16 = .ok (.iconst 0, 1) := by decide +kernel
theorem dX2_countCarriers_17 : decode cX2_countCarriers 17 = .ok (.iastore, 1) := by decide +kernel
theorem dX2_countCarriers_18 : decode cX2_countCarriers 18 = .ok (.iinc 5 1, 3) := by decide +kernel
theorem dX2_countCarriers_21 : decode cX2_countCarriers 21 = .ok (.goto (-18), 3) := by decide +kernel
theorem dX2_countCarriers_24 : decode cX2_countCarriers 24 = .ok (.iconst 0, 1) := by decide +kernel
theorem dX2_countCarriers_25 : decode cX2_countCarriers 25 = .ok (.istore 5, 2) := by decide +kernel
theorem dX2_countCarriers_27 : decode cX2_countCarriers 27 = .ok (.iload 5, 2) := by decide +kernel
theorem dX2_countCarriers_29 : decode cX2_countCarriers 29 = .ok (.bipush 16, 2) := by decide +kernel
theorem dX2_countCarriers_31 : decode cX2_countCarriers 31 = .ok (.if_icmp .ge 68, 3) := by decide +kernel
theorem dX2_countCarriers_34 : decode cX2_countCarriers 34 = .ok (.aload 4, 2) := by decide +kernel
theorem dX2_countCarriers_36 : decode cX2_countCarriers 36 = .ok (.iload 5, 2) := by decide +kernel
theorem dX2_countCarriers_38 : decode cX2_countCarriers 38 = .ok (.iaload, 1) := by decide +kernel
theorem dX2_countCarriers_39 : decode cX2_countCarriers 39 = .ok (.iload_n 2, 1) := by decide +kernel
theorem dX2_countCarriers_40 : decode cX2_countCarriers 40 = .ok (.if_icmp .ne 53, 3) := by decide +kernel
theorem dX2_countCarriers_43 : decode cX2_countCarriers 43 = .ok (.aload_n 1, 1) := by decide +kernel
theorem dX2_countCarriers_44 : decode cX2_countCarriers 44 = .ok (.dup, 1) := by decide +kernel
theorem dX2_countCarriers_45 : decode cX2_countCarriers 45 = .ok (.getfield 30, 3) := by decide +kernel
theorem dX2_countCarriers_48 : decode cX2_countCarriers 48 = .ok (.iconst 1, 1) := by decide +kernel
theorem dX2_countCarriers_49 : decode cX2_countCarriers 49 = .ok (.iadd, 1) := by decide +kernel
theorem dX2_countCarriers_50 : decode cX2_countCarriers 50 = .ok (.putfield 30, 3) := by decide +kernel
theorem dX2_countCarriers_53 : decode cX2_countCarriers 53 = .ok (.iconst 0, 1) := by decide +kernel
theorem dX2_countCarriers_54 : decode cX2_countCarriers 54 = .ok (.istore 6, 2) := by decide +kernel
theorem dX2_countCarriers_56 : decode cX2_countCarriers 56 = .ok (.iload 6, 2) := by decide +kernel
theorem dX2_countCarriers_58 : decode cX2_countCarriers 58 = .ok (.aload_n 3, 1) := by decide +kernel
theorem dX2_countCarriers_59 : decode cX2_countCarriers 59 = .ok (.iload 5, 2) := by decide +kernel
theorem dX2_countCarriers_61 : decode cX2_countCarriers 61 = .ok (.aaload, 1) := by decide +kernel
theorem dX2_countCarriers_62 : decode cX2_countCarriers 62 = .ok (.getfield 52, 3) := by decide +kernel
theorem dX2_countCarriers_65 : decode cX2_countCarriers 65 = .ok (.if_icmp .ge 28, 3) := by decide +kernel
theorem dX2_countCarriers_68 : decode cX2_countCarriers 68 = .ok (.aload_n 0, 1) := by decide +kernel
theorem dX2_countCarriers_69 : decode cX2_countCarriers 69 = .ok (.getfield 9, 3) := by decide +kernel
theorem dX2_countCarriers_72 : decode cX2_countCarriers 72 = .ok (.aload_n 3, 1) := by decide +kernel
theorem dX2_countCarriers_73 : decode cX2_countCarriers 73 = .ok (.iload 5, 2) := by decide +kernel
theorem dX2_countCarriers_75 : decode cX2_countCarriers 75 = .ok (.aaload, 1) := by decide +kernel
theorem dX2_countCarriers_76 : decode cX2_countCarriers 76 = .ok (.getfield 55, 3) := by decide +kernel
theorem dX2_countCarriers_79 : decode cX2_countCarriers 79 = .ok (.iload 6, 2) := by decide +kernel
theorem dX2_countCarriers_81 : decode cX2_countCarriers 81 = .ok (.iaload, 1) := by decide +kernel
theorem dX2_countCarriers_82 : decode cX2_countCarriers 82 = .ok (.dup2, 1) := by decide +kernel
theorem dX2_countCarriers_83 : decode cX2_countCarriers 83 = .ok (.iaload, 1) := by decide +kernel
theorem dX2_countCarriers_84 : decode cX2_countCarriers 84 = .ok (.iconst 1, 1) := by decide +kernel
theorem dX2_countCarriers_85 : decode cX2_countCarriers 85 = .ok (.iadd, 1) := by decide +kernel
theorem dX2_countCarriers_86 : decode cX2_countCarriers 86 = .ok (.iastore, 1) := by decide +kernel
theorem dX2_countCarriers_87 : decode cX2_countCarriers 87 = .ok (.iinc 6 1, 3) := by decide +kernel
theorem dX2_countCarriers_90 : decode cX2_countCarriers 90 = .ok (.goto (-34), 3) := by decide +kernel
theorem dX2_countCarriers_93 : decode cX2_countCarriers 93 = .ok (.iinc 5 1, 3) := by decide +kernel
theorem dX2_countCarriers_96 : decode cX2_countCarriers 96 = .ok (.goto (-69), 3) := by decide +kernel
theorem dX2_countCarriers_99 : decode cX2_countCarriers 99 = .ok (.return_, 1) := by decide +kernel
theorem dX2_gather_0 : decode cX2_gather 0 = .ok (.iconst 0, 1) := by decide +kernel
theorem dX2_gather_1 : decode cX2_gather 1 = .ok (.istore 5, 2) := by decide +kernel
theorem dX2_gather_3 : decode cX2_gather 3 = .ok (.iconst 0, 1) := by decide +kernel
theorem dX2_gather_4 : decode cX2_gather 4 = .ok (.istore 6, 2) := by decide +kernel
theorem dX2_gather_6 : decode cX2_gather 6 = .ok (.iload 6, 2) := by decide +kernel
theorem dX2_gather_8 : decode cX2_gather 8 = .ok (.bipush 16, 2) := by decide +kernel
theorem dX2_gather_10 : decode cX2_gather 10 = .ok (.if_icmp .ge 79, 3) := by decide +kernel
theorem dX2_gather_13 : decode cX2_gather 13 = .ok (.aload 4, 2) := by decide +kernel
theorem dX2_gather_15 : decode cX2_gather 15 = .ok (.iload 6, 2) := by decide +kernel
theorem dX2_gather_17 : decode cX2_gather 17 = .ok (.iaload, 1) := by decide +kernel
theorem dX2_gather_18 : decode cX2_gather 18 = .ok (.iload_n 2, 1) := by decide +kernel
theorem dX2_gather_19 : decode cX2_gather 19 = .ok (.if_icmp .ne 14, 3) := by decide +kernel
theorem dX2_gather_22 : decode cX2_gather 22 = .ok (.aload_n 3, 1) := by decide +kernel
theorem dX2_gather_23 : decode cX2_gather 23 = .ok (.iload 6, 2) := by decide +kernel
theorem dX2_gather_25 : decode cX2_gather 25 = .ok (.aaload, 1) := by decide +kernel
theorem dX2_gather_26 : decode cX2_gather 26 = .ok (.iload_n 1, 1) := by decide +kernel
theorem dX2_gather_27 : decode cX2_gather 27 = .ok (.invokevirtual 58, 3) := by decide +kernel
theorem dX2_gather_30 : decode cX2_gather 30 = .ok (.goto 4, 3) := by decide +kernel
theorem dX2_gather_33 : decode cX2_gather 33 = .ok (.iconst (-1), 1) := by decide +kernel
theorem dX2_gather_34 : decode cX2_gather 34 = .ok (.istore 7, 2) := by decide +kernel
theorem dX2_gather_36 : decode cX2_gather 36 = .ok (.iload 7, 2) := by decide +kernel
theorem dX2_gather_38 : decode cX2_gather 38 = .ok (.iconst (-1), 1) := by decide +kernel
theorem dX2_gather_39 : decode cX2_gather 39 = .ok (.if_icmp .eq 44, 3) := by decide +kernel
theorem dX2_gather_42 : decode cX2_gather 42 = .ok (.aload_n 0, 1) := by decide +kernel
theorem dX2_gather_43 : decode cX2_gather 43 = .ok (.getfield 15, 3) := by decide +kernel
theorem dX2_gather_46 : decode cX2_gather 46 = .ok (.iload 5, 2) := by decide +kernel
theorem dX2_gather_48 : decode cX2_gather 48 = .ok (.aload_n 3, 1) := by decide +kernel
theorem dX2_gather_49 : decode cX2_gather 49 = .ok (.iload 6, 2) := by decide +kernel
theorem dX2_gather_51 : decode cX2_gather 51 = .ok (.aaload, 1) := by decide +kernel
theorem dX2_gather_52 : decode cX2_gather 52 = .ok (.getfield 62, 3) := by decide +kernel
theorem dX2_gather_55 : decode cX2_gather 55 = .ok (.iload 7, 2) := by decide +kernel
theorem dX2_gather_57 : decode cX2_gather 57 = .ok (.iaload, 1) := by decide +kernel
theorem dX2_gather_58 : decode cX2_gather 58 = .ok (.invokestatic 63, 3) := by decide +kernel
theorem dX2_gather_61 : decode cX2_gather 61 = .ok (.aload_n 0, 1) := by decide +kernel
theorem dX2_gather_62 : decode cX2_gather 62 = .ok (.getfield 18, 3) := by decide +kernel
theorem dX2_gather_65 : decode cX2_gather 65 = .ok (.iload 5, 2) := by decide +kernel
theorem dX2_gather_67 : decode cX2_gather 67 = .ok (.aload_n 3, 1) := by decide +kernel
theorem dX2_gather_68 : decode cX2_gather 68 = .ok (.iload 6, 2) := by decide +kernel
theorem dX2_gather_70 : decode cX2_gather 70 = .ok (.aaload, 1) := by decide +kernel
theorem dX2_gather_71 : decode cX2_gather 71 = .ok (.getfield 67, 3) := by decide +kernel
theorem dX2_gather_74 : decode cX2_gather 74 = .ok (.iload 7, 2) := by decide +kernel
theorem dX2_gather_76 : decode cX2_gather 76 = .ok (.iaload, 1) := by decide +kernel
theorem dX2_gather_77 : decode cX2_gather 77 = .ok (.invokestatic 63, 3) := by decide +kernel
theorem dX2_gather_80 : decode cX2_gather 80 = .ok (.iinc 5 1, 3) := by decide +kernel
theorem dX2_gather_83 : decode cX2_gather 83 = .ok (.iinc 6 1, 3) := by decide +kernel
theorem dX2_gather_86 : decode cX2_gather 86 = .ok (.goto (-80), 3) := by decide +kernel
theorem dX2_gather_89 : decode cX2_gather 89 = .ok (.iload 5, 2) := by decide +kernel
theorem dX2_gather_91 : decode cX2_gather 91 = .ok (.ireturn, 1) := by decide +kernel
theorem dX2_putByRising_0 : decode cX2_putByRising 0 = .ok (.iload_n 1, 1) := by decide +kernel
theorem dX2_putByRising_1 : decode cX2_putByRising 1 = .ok (.istore_n 3, 1) := by decide +kernel
theorem dX2_putByRising_2 : decode cX2_putByRising 2 = .ok (.iload_n 3, 1) := by decide +kernel
theorem dX2_putByRising_3 : decode cX2_putByRising 3 = .ok (.ifCond .le 26, 3) := by decide +kernel
theorem dX2_putByRising_6 : decode cX2_putByRising 6 = .ok (.aload_n 0, 1) := by decide +kernel
theorem dX2_putByRising_7 : decode cX2_putByRising 7 = .ok (.iload_n 3, 1) := by decide +kernel
theorem dX2_putByRising_8 : decode cX2_putByRising 8 = .ok (.iconst 1, 1) := by decide +kernel
theorem dX2_putByRising_9 : decode cX2_putByRising 9 = .ok (.isub, 1) := by decide +kernel
theorem dX2_putByRising_10 : decode cX2_putByRising 10 = .ok (.iaload, 1) := by decide +kernel
theorem dX2_putByRising_11 : decode cX2_putByRising 11 = .ok (.iload_n 2, 1) := by decide +kernel
theorem dX2_putByRising_12 : decode cX2_putByRising 12 = .ok (.if_icmp .le 17, 3) := by decide +kernel
theorem dX2_putByRising_15 : decode cX2_putByRising 15 = .ok (.aload_n 0, 1) := by decide +kernel
theorem dX2_putByRising_16 : decode cX2_putByRising 16 = .ok (.iload_n 3, 1) := by decide +kernel
theorem dX2_putByRising_17 : decode cX2_putByRising 17 = .ok (.aload_n 0, 1) := by decide +kernel
theorem dX2_putByRising_18 : decode cX2_putByRising 18 = .ok (.iload_n 3, 1) := by decide +kernel
theorem dX2_putByRising_19 : decode cX2_putByRising 19 = .ok (.iconst 1, 1) := by decide +kernel
theorem dX2_putByRising_20 : decode cX2_putByRising 20 = .ok (.isub, 1) := by decide +kernel
theorem dX2_putByRising_21 : decode cX2_putByRising 21 = .ok (.iaload, 1) := by decide +kernel
theorem dX2_putByRising_22 : decode cX2_putByRising 22 = .ok (.iastore, 1) := by decide +kernel
theorem dX2_putByRising_23 : decode cX2_putByRising 23 = .ok (.iinc 3 (-1), 3) := by decide +kernel
theorem dX2_putByRising_26 : decode cX2_putByRising 26 = .ok (.goto (-24), 3) := by decide +kernel
theorem dX2_putByRising_29 : decode cX2_putByRising 29 = .ok (.aload_n 0, 1) := by decide +kernel
theorem dX2_putByRising_30 : decode cX2_putByRising 30 = .ok (.iload_n 3, 1) := by decide +kernel
theorem dX2_putByRising_31 : decode cX2_putByRising 31 = .ok (.iload_n 2, 1) := by decide +kernel
theorem dX2_putByRising_32 : decode cX2_putByRising 32 = .ok (.iastore, 1) := by decide +kernel
theorem dX2_putByRising_33 : decode cX2_putByRising 33 = .ok (.return_, 1) := by decide +kernel
theorem dX2_middle_0 : decode cX2_middle 0 = .ok (.iload_n 1, 1) := by decide +kernel
theorem dX2_middle_1 : decode cX2_middle 1 = .ok (.ifCond .le 13, 3) := by decide +kernel
theorem dX2_middle_4 : decode cX2_middle 4 = .ok (.aload_n 0, 1) := by decide +kernel
theorem dX2_middle_5 : decode cX2_middle 5 = .ok (.iload_n 1, 1) := by decide +kernel
theorem dX2_middle_6 : decode cX2_middle 6 = .ok (.iconst 1, 1) := by decide +kernel
theorem dX2_middle_7 : decode cX2_middle 7 = .ok (.isub, 1) := by decide +kernel
theorem dX2_middle_8 : decode cX2_middle 8 = .ok (.iconst 2, 1) := by decide +kernel
theorem dX2_middle_9 : decode cX2_middle 9 = .ok (.idiv, 1) := by decide +kernel
theorem dX2_middle_10 : decode cX2_middle 10 = .ok (.iaload, 1) := by decide +kernel
theorem dX2_middle_11 : decode cX2_middle 11 = .ok (.goto 4, 3) := by decide +kernel
theorem dX2_middle_14 : decode cX2_middle 14 = .ok (.iconst 0, 1) := by decide +kernel
theorem dX2_middle_15 : decode cX2_middle 15 = .ok (.ireturn, 1) := by decide +kernel
theorem dX3_init_0 : decode cX3_init 0 = .ok (.aload_n 0, 1) := by decide +kernel
theorem dX3_init_1 : decode cX3_init 1 = .ok (.invokespecial 3, 3) := by decide +kernel
theorem dX3_init_4 : decode cX3_init 4 = .ok (.aload_n 0, 1) := by decide +kernel
theorem dX3_init_5 : decode cX3_init 5 = .ok (.iconst (-1), 1) := by decide +kernel
theorem dX3_init_6 : decode cX3_init 6 = .ok (.putfield 9, 3) := by decide +kernel
theorem dX3_init_9 : decode cX3_init 9 = .ok (.aload_n 0, 1) := by decide +kernel
theorem dX3_init_10 : decode cX3_init 10 = .ok (.ldc 15, 2) := by decide +kernel
theorem dX3_init_12 : decode cX3_init 12 = .ok (.putfield 16, 3) := by decide +kernel
theorem dX3_init_15 : decode cX3_init 15 = .ok (.aload_n 0, 1) := by decide +kernel
theorem dX3_init_16 : decode cX3_init 16 = .ok (.ldc 15, 2) := by decide +kernel
theorem dX3_init_18 : decode cX3_init 18 = .ok (.putfield 19, 3) := by decide +kernel
theorem dX3_init_21 : decode cX3_init 21 = .ok (.return_, 1) := by decide +kernel
theorem dX3_clear_0 : decode cX3_clear 0 = .ok (.aload_n 0, 1) := by decide +kernel
theorem dX3_clear_1 : decode cX3_clear 1 = .ok (.iconst (-1), 1) := by decide +kernel
theorem dX3_clear_2 : decode cX3_clear 2 = .ok (.putfield 9, 3) := by decide +kernel
theorem dX3_clear_5 : decode cX3_clear 5 = .ok (.aload_n 0, 1) := by decide +kernel
theorem dX3_clear_6 : decode cX3_clear 6 = .ok (.ldc 15, 2) := by decide +kernel
theorem dX3_clear_8 : decode cX3_clear 8 = .ok (.putfield 16, 3) := by decide +kernel
theorem dX3_clear_11 : decode cX3_clear 11 = .ok (.aload_n 0, 1) := by decide +kernel
theorem dX3_clear_12 : decode cX3_clear 12 = .ok (.ldc 15, 2) := by decide +kernel
theorem dX3_clear_14 : decode cX3_clear 14 = .ok (.putfield 19, 3) := by decide +kernel
theorem dX3_clear_17 : decode cX3_clear 17 = .ok (.return_, 1) := by decide +kernel
theorem dX3_take_0 : decode cX3_take 0 = .ok (.iload_n 2, 1) := by decide +kernel
theorem dX3_take_1 : decode cX3_take 1 = .ok (.aload_n 0, 1) := by decide +kernel
theorem dX3_take_2 : decode cX3_take 2 = .ok (.getfield 16, 3) := by decide +kernel
theorem dX3_take_5 : decode cX3_take 5 = .ok (.if_icmp .ge 24, 3) := by decide +kernel
theorem dX3_take_8 : decode cX3_take 8 = .ok (.aload_n 0, 1) := by decide +kernel
theorem dX3_take_9 : decode cX3_take 9 = .ok (.aload_n 0, 1) := by decide +kernel
theorem dX3_take_10 : decode cX3_take 10 = .ok (.getfield 16, 3) := by decide +kernel
theorem dX3_take_13 : decode cX3_take 13 = .ok (.putfield 19, 3) := by decide +kernel
theorem dX3_take_16 : decode cX3_take 16 = .ok (.aload_n 0, 1) := by decide +kernel
theorem dX3_take_17 : decode cX3_take 17 = .ok (.iload_n 2, 1) := by decide +kernel
theorem dX3_take_18 : decode cX3_take 18 = .ok (.putfield 16, 3) := by decide +kernel
theorem dX3_take_21 : decode cX3_take 21 = .ok (.aload_n 0, 1) := by decide +kernel
theorem dX3_take_22 : decode cX3_take 22 = .ok (.iload_n 1, 1) := by decide +kernel
theorem dX3_take_23 : decode cX3_take 23 = .ok (.putfield 9, 3) := by decide +kernel
theorem dX3_take_26 : decode cX3_take 26 = .ok (.goto 16, 3) := by decide +kernel
theorem dX3_take_29 : decode cX3_take 29 = .ok (.iload_n 2, 1) := by decide +kernel
theorem dX3_take_30 : decode cX3_take 30 = .ok (.aload_n 0, 1) := by decide +kernel
theorem dX3_take_31 : decode cX3_take 31 = .ok (.getfield 19, 3) := by decide +kernel
theorem dX3_take_34 : decode cX3_take 34 = .ok (.if_icmp .ge 8, 3) := by decide +kernel
theorem dX3_take_37 : decode cX3_take 37 = .ok (.aload_n 0, 1) := by decide +kernel
theorem dX3_take_38 : decode cX3_take 38 = .ok (.iload_n 2, 1) := by decide +kernel
theorem dX3_take_39 : decode cX3_take 39 = .ok (.putfield 19, 3) := by decide +kernel
theorem dX3_take_42 : decode cX3_take 42 = .ok (.return_, 1) := by decide +kernel
theorem dX3_spread_0 : decode cX3_spread 0 = .ok (.aload_n 0, 1) := by decide +kernel
theorem dX3_spread_1 : decode cX3_spread 1 = .ok (.getfield 19, 3) := by decide +kernel
theorem dX3_spread_4 : decode cX3_spread 4 = .ok (.aload_n 0, 1) := by decide +kernel
theorem dX3_spread_5 : decode cX3_spread 5 = .ok (.getfield 16, 3) := by decide +kernel
theorem dX3_spread_8 : decode cX3_spread 8 = .ok (.isub, 1) := by decide +kernel
theorem dX3_spread_9 : decode cX3_spread 9 = .ok (.ireturn, 1) := by decide +kernel
theorem dX3_answer_0 : decode cX3_answer 0 = .ok (.aload_n 0, 1) := by decide +kernel
theorem dX3_answer_1 : decode cX3_answer 1 = .ok (.getfield 9, 3) := by decide +kernel
theorem dX3_answer_4 : decode cX3_answer 4 = .ok (.iconst (-1), 1) := by decide +kernel
theorem dX3_answer_5 : decode cX3_answer 5 = .ok (.if_icmp .eq 11, 3) := by decide +kernel
theorem dX3_answer_8 : decode cX3_answer 8 = .ok (.aload_n 0, 1) := by decide +kernel
theorem dX3_answer_9 : decode cX3_answer 9 = .ok (.getfield 16, 3) := by decide +kernel
theorem dX3_answer_12 : decode cX3_answer 12 = .ok (.iload_n 1, 1) := by decide +kernel
theorem dX3_answer_13 : decode cX3_answer 13 = .ok (.if_icmp .le 6, 3) := by decide +kernel
theorem dX3_answer_16 : decode cX3_answer 16 = .ok (.bipush 10, 2) := by decide +kernel
theorem dX3_answer_18 : decode cX3_answer 18 = .ok (.ireturn, 1) := by decide +kernel
theorem dX3_answer_19 : decode cX3_answer 19 = .ok (.aload_n 0, 1) := by decide +kernel
theorem dX3_answer_20 : decode cX3_answer 20 = .ok (.invokevirtual 22, 3) := by decide +kernel
theorem dX3_answer_23 : decode cX3_answer 23 = .ok (.iload_n 2, 1) := by decide +kernel
theorem dX3_answer_24 : decode cX3_answer 24 = .ok (.if_icmp .ge 8, 3) := by decide +kernel
theorem dX3_answer_27 : decode cX3_answer 27 = .ok (.bipush 11, 2) := by decide +kernel
theorem dX3_answer_29 : decode cX3_answer 29 = .ok (.goto 7, 3) := by decide +kernel
theorem dX3_answer_32 : decode cX3_answer 32 = .ok (.aload_n 0, 1) := by decide +kernel
theorem dX3_answer_33 : decode cX3_answer 33 = .ok (.getfield 9, 3) := by decide +kernel
theorem dX3_answer_36 : decode cX3_answer 36 = .ok (.ireturn, 1) := by decide +kernel
theorem dX4_init_0 : decode cX4_init 0 = .ok (.aload_n 0, 1) := by decide +kernel
theorem dX4_init_1 : decode cX4_init 1 = .ok (.invokespecial 3, 3) := by decide +kernel
theorem dX4_init_4 : decode cX4_init 4 = .ok (.aload_n 0, 1) := by decide +kernel
theorem dX4_init_5 : decode cX4_init 5 = .ok (.iconst 0, 1) := by decide +kernel
theorem dX4_init_6 : decode cX4_init 6 = .ok (.putfield 9, 3) := by decide +kernel
theorem dX4_init_9 : decode cX4_init 9 = .ok (.aload_n 0, 1) := by decide +kernel
theorem dX4_init_10 : decode cX4_init 10 = .ok (.iload_n 1, 1) := by decide +kernel
theorem dX4_init_11 : decode cX4_init 11 = .ok (.newarray .int, 2) := by decide +kernel
theorem dX4_init_13 : decode cX4_init 13 = .ok (.putfield 15, 3) := by decide +kernel
theorem dX4_init_16 : decode cX4_init 16 = .ok (.aload_n 0, 1) := by decide +kernel
theorem dX4_init_17 : decode cX4_init 17 = .ok (.iload_n 1, 1) := by decide +kernel
theorem dX4_init_18 : decode cX4_init 18 = .ok (.newarray .int, 2) := by decide +kernel
theorem dX4_init_20 : decode cX4_init 20 = .ok (.putfield 19, 3) := by decide +kernel
theorem dX4_init_23 : decode cX4_init 23 = .ok (.aload_n 0, 1) := by decide +kernel
theorem dX4_init_24 : decode cX4_init 24 = .ok (.iload_n 1, 1) := by decide +kernel
theorem dX4_init_25 : decode cX4_init 25 = .ok (.newarray .int, 2) := by decide +kernel
theorem dX4_init_27 : decode cX4_init 27 = .ok (.putfield 22, 3) := by decide +kernel
theorem dX4_init_30 : decode cX4_init 30 = .ok (.aload_n 0, 1) := by decide +kernel
theorem dX4_init_31 : decode cX4_init 31 = .ok (.iload_n 1, 1) := by decide +kernel
theorem dX4_init_32 : decode cX4_init 32 = .ok (.newarray .boolean, 2) := by decide +kernel
theorem dX4_init_34 : decode cX4_init 34 = .ok (.putfield 25, 3) := by decide +kernel
theorem dX4_init_37 : decode cX4_init 37 = .ok (.return_, 1) := by decide +kernel
theorem dX4_add_0 : decode cX4_add 0 = .ok (.aload_n 0, 1) := by decide +kernel
theorem dX4_add_1 : decode cX4_add 1 = .ok (.getfield 9, 3) := by decide +kernel
theorem dX4_add_4 : decode cX4_add 4 = .ok (.aload_n 0, 1) := by decide +kernel
theorem dX4_add_5 : decode cX4_add 5 = .ok (.getfield 15, 3) := by decide +kernel
theorem dX4_add_8 : decode cX4_add 8 = .ok (.arraylength, 1) := by decide +kernel
theorem dX4_add_9 : decode cX4_add 9 = .ok (.if_icmp .ge 54, 3) := by decide +kernel
theorem dX4_add_12 : decode cX4_add 12 = .ok (.aload_n 0, 1) := by decide +kernel
theorem dX4_add_13 : decode cX4_add 13 = .ok (.getfield 15, 3) := by decide +kernel
theorem dX4_add_16 : decode cX4_add 16 = .ok (.aload_n 0, 1) := by decide +kernel
theorem dX4_add_17 : decode cX4_add 17 = .ok (.getfield 9, 3) := by decide +kernel
theorem dX4_add_20 : decode cX4_add 20 = .ok (.iload_n 1, 1) := by decide +kernel
theorem dX4_add_21 : decode cX4_add 21 = .ok (.iastore, 1) := by decide +kernel
theorem dX4_add_22 : decode cX4_add 22 = .ok (.aload_n 0, 1) := by decide +kernel
theorem dX4_add_23 : decode cX4_add 23 = .ok (.getfield 19, 3) := by decide +kernel
theorem dX4_add_26 : decode cX4_add 26 = .ok (.aload_n 0, 1) := by decide +kernel
theorem dX4_add_27 : decode cX4_add 27 = .ok (.getfield 9, 3) := by decide +kernel
theorem dX4_add_30 : decode cX4_add 30 = .ok (.iload_n 2, 1) := by decide +kernel
theorem dX4_add_31 : decode cX4_add 31 = .ok (.iastore, 1) := by decide +kernel
theorem dX4_add_32 : decode cX4_add 32 = .ok (.aload_n 0, 1) := by decide +kernel
theorem dX4_add_33 : decode cX4_add 33 = .ok (.getfield 22, 3) := by decide +kernel
theorem dX4_add_36 : decode cX4_add 36 = .ok (.aload_n 0, 1) := by decide +kernel
theorem dX4_add_37 : decode cX4_add 37 = .ok (.getfield 9, 3) := by decide +kernel
theorem dX4_add_40 : decode cX4_add 40 = .ok (.iload_n 3, 1) := by decide +kernel
theorem dX4_add_41 : decode cX4_add 41 = .ok (.iastore, 1) := by decide +kernel
theorem dX4_add_42 : decode cX4_add 42 = .ok (.aload_n 0, 1) := by decide +kernel
theorem dX4_add_43 : decode cX4_add 43 = .ok (.getfield 25, 3) := by decide +kernel
theorem dX4_add_46 : decode cX4_add 46 = .ok (.aload_n 0, 1) := by decide +kernel
theorem dX4_add_47 : decode cX4_add 47 = .ok (.getfield 9, 3) := by decide +kernel
theorem dX4_add_50 : decode cX4_add 50 = .ok (.iload 4, 2) := by decide +kernel
theorem dX4_add_52 : decode cX4_add 52 = .ok (.bastore, 1) := by decide +kernel
theorem dX4_add_53 : decode cX4_add 53 = .ok (.aload_n 0, 1) := by decide +kernel
theorem dX4_add_54 : decode cX4_add 54 = .ok (.dup, 1) := by decide +kernel
theorem dX4_add_55 : decode cX4_add 55 = .ok (.getfield 9, 3) := by decide +kernel
theorem dX4_add_58 : decode cX4_add 58 = .ok (.iconst 1, 1) := by decide +kernel
theorem dX4_add_59 : decode cX4_add 59 = .ok (.iadd, 1) := by decide +kernel
theorem dX4_add_60 : decode cX4_add 60 = .ok (.putfield 9, 3) := by decide +kernel
theorem dX4_add_63 : decode cX4_add 63 = .ok (.return_, 1) := by decide +kernel
theorem dX4_find_0 : decode cX4_find 0 = .ok (.iconst 0, 1) := by decide +kernel
theorem dX4_find_1 : decode cX4_find 1 = .ok (.istore_n 2, 1) := by decide +kernel
theorem dX4_find_2 : decode cX4_find 2 = .ok (.iload_n 2, 1) := by decide +kernel
theorem dX4_find_3 : decode cX4_find 3 = .ok (.aload_n 0, 1) := by decide +kernel
theorem dX4_find_4 : decode cX4_find 4 = .ok (.getfield 9, 3) := by decide +kernel
theorem dX4_find_7 : decode cX4_find 7 = .ok (.if_icmp .ge 21, 3) := by decide +kernel
theorem dX4_find_10 : decode cX4_find 10 = .ok (.aload_n 0, 1) := by decide +kernel
theorem dX4_find_11 : decode cX4_find 11 = .ok (.getfield 15, 3) := by decide +kernel
theorem dX4_find_14 : decode cX4_find 14 = .ok (.iload_n 2, 1) := by decide +kernel
theorem dX4_find_15 : decode cX4_find 15 = .ok (.iaload, 1) := by decide +kernel
theorem dX4_find_16 : decode cX4_find 16 = .ok (.iload_n 1, 1) := by decide +kernel
theorem dX4_find_17 : decode cX4_find 17 = .ok (.if_icmp .ne 5, 3) := by decide +kernel
theorem dX4_find_20 : decode cX4_find 20 = .ok (.iload_n 2, 1) := by decide +kernel
theorem dX4_find_21 : decode cX4_find 21 = .ok (.ireturn, 1) := by decide +kernel
theorem dX4_find_22 : decode cX4_find 22 = .ok (.iinc 2 1, 3) := by decide +kernel
theorem dX4_find_25 : decode cX4_find 25 = .ok (.goto (-23), 3) := by decide +kernel
theorem dX4_find_28 : decode cX4_find 28 = .ok (.iconst (-1), 1) := by decide +kernel
theorem dX4_find_29 : decode cX4_find 29 = .ok (.ireturn, 1) := by decide +kernel
end
section
theorem dX5_init_0 : decode cX5_init 0 = .ok (.aload_n 0, 1) := by decide +kernel
theorem dX5_init_1 : decode cX5_init 1 = .ok (.invokespecial 3, 3) := by decide +kernel
theorem dX5_init_4 : decode cX5_init 4 = .ok (.aload_n 0, 1) := by decide +kernel
theorem dX5_init_5 : decode cX5_init 5 = .ok (.bipush 16, 2) := by decide +kernel
theorem dX5_init_7 : decode cX5_init 7 = .ok (.anewarray 9, 3) := by decide +kernel
theorem dX5_init_10 : decode cX5_init 10 = .ok (.putfield 11, 3) := by decide +kernel
theorem dX5_init_13 : decode cX5_init 13 = .ok (.aload_n 0, 1) := by decide +kernel
theorem dX5_init_14 : decode cX5_init 14 = .ok (.bipush 16, 2) := by decide +kernel
theorem dX5_init_16 : decode cX5_init 16 = .ok (.newarray .int, 2) := by decide +kernel
theorem dX5_init_18 : decode cX5_init 18 = .ok (.putfield 15, 3) := by decide +kernel
theorem dX5_init_21 : decode cX5_init 21 = .ok (.aload_n 0, 1) := by decide +kernel
theorem dX5_init_22 : decode cX5_init 22 = .ok (.iconst 5, 1) := by decide +kernel
theorem dX5_init_23 : decode cX5_init 23 = .ok (.anewarray 19, 3) := by decide +kernel
theorem dX5_init_26 : decode cX5_init 26 = .ok (.putfield 21, 3) := by decide +kernel
theorem dX5_init_29 : decode cX5_init 29 = .ok (.aload_n 0, 1) := by decide +kernel
theorem dX5_init_30 : decode cX5_init 30 = .ok (.new 25, 3) := by decide +kernel
theorem dX5_init_33 : decode cX5_init 33 = .ok (.dup, 1) := by decide +kernel
theorem dX5_init_34 : decode cX5_init 34 = .ok (.invokespecial 27, 3) := by decide +kernel
theorem dX5_init_37 : decode cX5_init 37 = .ok (.putfield 28, 3) := by decide +kernel
theorem dX5_init_40 : decode cX5_init 40 = .ok (.aload_n 0, 1) := by decide +kernel
theorem dX5_init_41 : decode cX5_init 41 = .ok (.new 32, 3) := by decide +kernel
theorem dX5_init_44 : decode cX5_init 44 = .ok (.dup, 1) := by decide +kernel
theorem dX5_init_45 : decode cX5_init 45 = .ok (.invokespecial 34, 3) := by decide +kernel
theorem dX5_init_48 : decode cX5_init 48 = .ok (.putfield 35, 3) := by decide +kernel
theorem dX5_init_51 : decode cX5_init 51 = .ok (.aload_n 0, 1) := by decide +kernel
theorem dX5_init_52 : decode cX5_init 52 = .ok (.new 39, 3) := by decide +kernel
theorem dX5_init_55 : decode cX5_init 55 = .ok (.dup, 1) := by decide +kernel
theorem dX5_init_56 : decode cX5_init 56 = .ok (.invokespecial 41, 3) := by decide +kernel
theorem dX5_init_59 : decode cX5_init 59 = .ok (.putfield 42, 3) := by decide +kernel
theorem dX5_init_62 : decode cX5_init 62 = .ok (.aload_n 0, 1) := by decide +kernel
theorem dX5_init_63 : decode cX5_init 63 = .ok (.bipush 16, 2) := by decide +kernel
theorem dX5_init_65 : decode cX5_init 65 = .ok (.newarray .int, 2) := by decide +kernel
theorem dX5_init_67 : decode cX5_init 67 = .ok (.putfield 46, 3) := by decide +kernel
theorem dX5_init_70 : decode cX5_init 70 = .ok (.aload_n 0, 1) := by decide +kernel
theorem dX5_init_71 : decode cX5_init 71 = .ok (.iconst 5, 1) := by decide +kernel
theorem dX5_init_72 : decode cX5_init 72 = .ok (.anewarray 19, 3) := by decide +kernel
theorem dX5_init_75 : decode cX5_init 75 = .ok (.putfield 49, 3) := by decide +kernel
theorem dX5_init_78 : decode cX5_init 78 = .ok (.aload_n 0, 1) := by decide +kernel
theorem dX5_init_79 : decode cX5_init 79 = .ok (.new 19, 3) := by decide +kernel
theorem dX5_init_82 : decode cX5_init 82 = .ok (.dup, 1) := by decide +kernel
theorem dX5_init_83 : decode cX5_init 83 = .ok (.invokespecial 52, 3) := by decide +kernel
theorem dX5_init_86 : decode cX5_init 86 = .ok (.putfield 53, 3) := by decide +kernel
theorem dX5_init_89 : decode cX5_init 89 = .ok (.aload_n 0, 1) := by decide +kernel
theorem dX5_init_90 : decode cX5_init 90 = .ok (.new 19, 3) := by decide +kernel
theorem dX5_init_93 : decode cX5_init 93 = .ok (.dup, 1) := by decide +kernel
theorem dX5_init_94 : decode cX5_init 94 = .ok (.invokespecial 52, 3) := by decide +kernel
theorem dX5_init_97 : decode cX5_init 97 = .ok (.putfield 57, 3) := by decide +kernel
theorem dX5_init_100 : decode cX5_init 100 = .ok (.aload_n 0, 1) := by decide +kernel
theorem dX5_init_101 : decode cX5_init 101 = .ok (.sipush 256, 3) := by decide +kernel
theorem dX5_init_104 : decode cX5_init 104 = .ok (.newarray .int, 2) := by decide +kernel
theorem dX5_init_106 : decode cX5_init 106 = .ok (.putfield 60, 3) := by decide +kernel
theorem dX5_init_109 : decode cX5_init 109 = .ok (.aload_n 0, 1) := by decide +kernel
theorem dX5_init_110 : decode cX5_init 110 = .ok (.bipush 16, 2) := by decide +kernel
theorem dX5_init_112 : decode cX5_init 112 = .ok (.newarray .int, 2) := by decide +kernel
theorem dX5_init_114 : decode cX5_init 114 = .ok (.putfield 63, 3) := by decide +kernel
theorem dX5_init_117 : decode cX5_init 117 = .ok (.aload_n 0, 1) := by decide +kernel
theorem dX5_init_118 : decode cX5_init 118 = .ok (.iconst 0, 1) := by decide +kernel
theorem dX5_init_119 : decode cX5_init 119 = .ok (.putfield 66, 3) := by decide +kernel
theorem dX5_init_122 : decode cX5_init 122 = .ok (.aload_n 0, 1) := by decide +kernel
theorem dX5_init_123 : decode cX5_init 123 = .ok (.bipush 60, 2) := by decide +kernel
theorem dX5_init_125 : decode cX5_init 125 = .ok (.putfield 70, 3) := by decide +kernel
theorem dX5_init_128 : decode cX5_init 128 = .ok (.aload_n 0, 1) := by decide +kernel
theorem dX5_init_129 : decode cX5_init 129 = .ok (.bipush 10, 2) := by decide +kernel
theorem dX5_init_131 : decode cX5_init 131 = .ok (.putfield 73, 3) := by decide +kernel
theorem dX5_init_134 : decode cX5_init 134 = .ok (.aload_n 0, 1) := by decide +kernel
theorem dX5_init_135 : decode cX5_init 135 = .ok (.bipush 30, 2) := by decide +kernel
theorem dX5_init_137 : decode cX5_init 137 = .ok (.putfield 76, 3) := by decide +kernel
theorem dX5_init_140 : decode cX5_init 140 = .ok (.iconst 0, 1) := by decide +kernel
theorem dX5_init_141 : decode cX5_init 141 = .ok (.istore_n 1, 1) := by decide +kernel
theorem dX5_init_142 : decode cX5_init 142 = .ok (.iload_n 1, 1) := by decide +kernel
theorem dX5_init_143 : decode cX5_init 143 = .ok (.bipush 16, 2) := by decide +kernel
theorem dX5_init_145 : decode cX5_init 145 = .ok (.if_icmp .ge 31, 3) := by decide +kernel
theorem dX5_init_148 : decode cX5_init 148 = .ok (.aload_n 0, 1) := by decide +kernel
theorem dX5_init_149 : decode cX5_init 149 = .ok (.getfield 11, 3) := by decide +kernel
theorem dX5_init_152 : decode cX5_init 152 = .ok (.iload_n 1, 1) := by decide +kernel
theorem dX5_init_153 : decode cX5_init 153 = .ok (.new 9, 3) := by decide +kernel
theorem dX5_init_156 : decode cX5_init 156 = .ok (.dup, 1) := by decide +kernel
theorem dX5_init_157 : decode cX5_init 157 = .ok (.bipush 8, 2) := by decide +kernel
theorem dX5_init_159 : decode cX5_init 159 = .ok (.invokespecial 79, 3) := by decide +kernel
theorem dX5_init_162 : decode cX5_init 162 = .ok (.aastore, 1) := by decide +kernel
theorem dX5_init_163 : decode cX5_init 163 = .ok (.aload_n 0, 1) := by decide +kernel
theorem dX5_init_164 : decode cX5_init 164 = .ok (.getfield 15, 3) := by decide +kernel
theorem dX5_init_167 : decode cX5_init 167 = .ok (.iload_n 1, 1) := by decide +kernel
theorem dX5_init_168 : decode cX5_init 168 = .ok (.iconst (-1), 1) := by decide +kernel
theorem dX5_init_169 : decode cX5_init 169 = .ok (.iastore, 1) := by decide +kernel
theorem dX5_init_170 : decode cX5_init 170 = .ok (.iinc 1 1, 3) := by decide +kernel
theorem dX5_init_173 : decode cX5_init 173 = .ok (.goto (-31), 3) := by decide +kernel
theorem dX5_init_176 : decode cX5_init 176 = .ok (.iconst 0, 1) := by decide +kernel
theorem dX5_init_177 : decode cX5_init 177 = .ok (.istore_n 1, 1) := by decide +kernel
theorem dX5_init_178 : decode cX5_init 178 = .ok (.iload_n 1, 1) := by decide +kernel
theorem dX5_init_179 : decode cX5_init 179 = .ok (.iconst 5, 1) := by decide +kernel
theorem dX5_init_180 : decode cX5_init 180 = .ok (.if_icmp .ge 34, 3) := by decide +kernel
theorem dX5_init_183 : decode cX5_init 183 = .ok (.aload_n 0, 1) := by decide +kernel
theorem dX5_init_184 : decode cX5_init 184 = .ok (.getfield 21, 3) := by decide +kernel
theorem dX5_init_187 : decode cX5_init 187 = .ok (.iload_n 1, 1) := by decide +kernel
theorem dX5_init_188 : decode cX5_init 188 = .ok (.new 19, 3) := by decide +kernel
theorem dX5_init_191 : decode cX5_init 191 = .ok (.dup, 1) := by decide +kernel
theorem dX5_init_192 : decode cX5_init 192 = .ok (.invokespecial 52, 3) := by decide +kernel
theorem dX5_init_195 : decode cX5_init 195 = .ok (.aastore, 1) := by decide +kernel
theorem dX5_init_196 : decode cX5_init 196 = .ok (.aload_n 0, 1) := by decide +kernel
theorem dX5_init_197 : decode cX5_init 197 = .ok (.getfield 49, 3) := by decide +kernel
theorem dX5_init_200 : decode cX5_init 200 = .ok (.iload_n 1, 1) := by decide +kernel
theorem dX5_init_201 : decode cX5_init 201 = .ok (.aload_n 0, 1) := by decide +kernel
theorem dX5_init_202 : decode cX5_init 202 = .ok (.getfield 21, 3) := by decide +kernel
theorem dX5_init_205 : decode cX5_init 205 = .ok (.iload_n 1, 1) := by decide +kernel
theorem dX5_init_206 : decode cX5_init 206 = .ok (.aaload, 1) := by decide +kernel
theorem dX5_init_207 : decode cX5_init 207 = .ok (.aastore, 1) := by decide +kernel
theorem dX5_init_208 : decode cX5_init 208 = .ok (.iinc 1 1, 3) := by decide +kernel
theorem dX5_init_211 : decode cX5_init 211 = .ok (.goto (-33), 3) := by decide +kernel
theorem dX5_init_214 : decode cX5_init 214 = .ok (.aload_n 0, 1) := by decide +kernel
theorem dX5_init_215 : decode cX5_init 215 = .ok (.invokevirtual 82, 3) := by decide +kernel
theorem dX5_init_218 : decode cX5_init 218 = .ok (.return_, 1) := by decide +kernel
theorem dX5_page_0 : decode cX5_page 0 = .ok (.aload_n 0, 1) := by decide +kernel
theorem dX5_page_1 : decode cX5_page 1 = .ok (.getfield 66, 3) := by decide +kernel
theorem dX5_page_4 : decode cX5_page 4 = .ok (.bipush 16, 2) := by decide +kernel
theorem dX5_page_6 : decode cX5_page 6 = .ok (.if_icmp .lt 5, 3) := by decide +kernel
theorem dX5_page_9 : decode cX5_page 9 = .ok (.iconst (-1), 1) := by decide +kernel
theorem dX5_page_10 : decode cX5_page 10 = .ok (.ireturn, 1) := by decide +kernel
theorem dX5_page_11 : decode cX5_page 11 = .ok (.aload_n 0, 1) := by decide +kernel
theorem dX5_page_12 : decode cX5_page 12 = .ok (.dup, 1) := by decide +kernel
theorem dX5_page_13 : decode cX5_page 13 = .ok (.getfield 66, 3) := by decide +kernel
theorem dX5_page_16 : decode cX5_page 16 = .ok (.iconst 1, 1) := by decide +kernel
theorem dX5_page_17 : decode cX5_page 17 = .ok (.iadd, 1) := by decide +kernel
theorem dX5_page_18 : decode cX5_page 18 = .ok (.putfield 66, 3) := by decide +kernel
theorem dX5_page_21 : decode cX5_page 21 = .ok (.aload_n 0, 1) := by decide +kernel
theorem dX5_page_22 : decode cX5_page 22 = .ok (.getfield 66, 3) := by decide +kernel
theorem dX5_page_25 : decode cX5_page 25 = .ok (.iconst 1, 1) := by decide +kernel
theorem dX5_page_26 : decode cX5_page 26 = .ok (.isub, 1) := by decide +kernel
theorem dX5_page_27 : decode cX5_page 27 = .ok (.ireturn, 1) := by decide +kernel
theorem dX5_box_0 : decode cX5_box 0 = .ok (.aload_n 0, 1) := by decide +kernel
theorem dX5_box_1 : decode cX5_box 1 = .ok (.iload_n 1, 1) := by decide +kernel
theorem dX5_box_2 : decode cX5_box 2 = .ok (.invokevirtual 85, 3) := by decide +kernel
theorem dX5_box_5 : decode cX5_box 5 = .ok (.ifCond .eq 34, 3) := by decide +kernel
theorem dX5_box_8 : decode cX5_box 8 = .ok (.iload_n 2, 1) := by decide +kernel
theorem dX5_box_9 : decode cX5_box 9 = .ok (.iconst 0, 1) := by decide +kernel
theorem dX5_box_10 : decode cX5_box 10 = .ok (.bipush 63, 2) := by decide +kernel
theorem dX5_box_12 : decode cX5_box 12 = .ok (.invokestatic 89, 3) := by decide +kernel
theorem dX5_box_15 : decode cX5_box 15 = .ok (.ifCond .eq 24, 3) := by decide +kernel
theorem dX5_box_18 : decode cX5_box 18 = .ok (.iload_n 3, 1) := by decide +kernel
theorem dX5_box_19 : decode cX5_box 19 = .ok (.iconst 0, 1) := by decide +kernel
theorem dX5_box_20 : decode cX5_box 20 = .ok (.bipush 63, 2) := by decide +kernel
theorem dX5_box_22 : decode cX5_box 22 = .ok (.invokestatic 89, 3) := by decide +kernel
theorem dX5_box_25 : decode cX5_box 25 = .ok (.ifCond .eq 14, 3) := by decide +kernel
theorem dX5_box_28 : decode cX5_box 28 = .ok (.iload 4, 2) := by decide +kernel
theorem dX5_box_30 : decode cX5_box 30 = .ok (.iconst 1, 1) := by decide +kernel
theorem dX5_box_31 : decode cX5_box 31 = .ok (.bipush 99, 2) := by decide +kernel
theorem dX5_box_33 : decode cX5_box 33 = .ok (.invokestatic 89, 3) := by decide +kernel
theorem dX5_box_36 : decode cX5_box 36 = .ok (.ifCond .ne 5, 3) := by decide +kernel
theorem dX5_box_39 : decode cX5_box 39 = .ok (.iconst (-1), 1) := by decide +kernel
theorem dX5_box_40 : decode cX5_box 40 = .ok (.ireturn, 1) := by decide +kernel
theorem dX5_box_41 : decode cX5_box 41 = .ok (.aload_n 0, 1) := by decide +kernel
theorem dX5_box_42 : decode cX5_box 42 = .ok (.getfield 11, 3) := by decide +kernel
theorem dX5_box_45 : decode cX5_box 45 = .ok (.iload_n 1, 1) := by decide +kernel
theorem dX5_box_46 : decode cX5_box 46 = .ok (.aaload, 1) := by decide +kernel
theorem dX5_box_47 : decode cX5_box 47 = .ok (.astore 5, 2) := by decide +kernel
theorem dX5_box_49 : decode cX5_box 49 = .ok (.aload 5, 2) := by decide +kernel
theorem dX5_box_51 : decode cX5_box 51 = .ok (.getfield 93, 3) := by decide +kernel
theorem dX5_box_54 : decode cX5_box 54 = .ok (.bipush 8, 2) := by decide +kernel
theorem dX5_box_56 : decode cX5_box 56 = .ok (.if_icmp .ge 14, 3) := by decide +kernel
theorem dX5_box_59 : decode cX5_box 59 = .ok (.aload 5, 2) := by decide +kernel
theorem dX5_box_61 : decode cX5_box 61 = .ok (.iload 4, 2) := by decide +kernel
theorem dX5_box_63 : decode cX5_box 63 = .ok (.invokevirtual 96, 3) := by decide +kernel
theorem dX5_box_66 : decode cX5_box 66 = .ok (.iconst (-1), 1) := by decide +kernel
theorem dX5_box_67 : decode cX5_box 67 = .ok (.if_icmp .eq 5, 3) := by decide +kernel
theorem dX5_box_70 : decode cX5_box 70 = .ok (.iconst (-1), 1) := by decide +kernel
theorem dX5_box_71 : decode cX5_box 71 = .ok (.ireturn, 1) := by decide +kernel
theorem dX5_box_72 : decode cX5_box 72 = .ok (.aload 5, 2) := by decide +kernel
theorem dX5_box_74 : decode cX5_box 74 = .ok (.iload 4, 2) := by decide +kernel
theorem dX5_box_76 : decode cX5_box 76 = .ok (.iload_n 2, 1) := by decide +kernel
theorem dX5_box_77 : decode cX5_box 77 = .ok (.iload_n 3, 1) := by decide +kernel
theorem dX5_box_78 : decode cX5_box 78 = .ok (.iconst 1, 1) := by decide +kernel
theorem dX5_box_79 : decode cX5_box 79 = .ok (.invokevirtual 100, 3) := by decide +kernel
theorem dX5_box_82 : decode cX5_box 82 = .ok (.aload_n 0, 1) := by decide +kernel
theorem dX5_box_83 : decode cX5_box 83 = .ok (.iload_n 1, 1) := by decide +kernel
theorem dX5_box_84 : decode cX5_box 84 = .ok (.invokevirtual 104, 3) := by decide +kernel
theorem dX5_box_87 : decode cX5_box 87 = .ok (.aload_n 0, 1) := by decide +kernel
theorem dX5_box_88 : decode cX5_box 88 = .ok (.aload_n 0, 1) := by decide +kernel
theorem dX5_box_89 : decode cX5_box 89 = .ok (.getfield 15, 3) := by decide +kernel
theorem dX5_box_92 : decode cX5_box 92 = .ok (.iload_n 1, 1) := by decide +kernel
theorem dX5_box_93 : decode cX5_box 93 = .ok (.iaload, 1) := by decide +kernel
theorem dX5_box_94 : decode cX5_box 94 = .ok (.invokevirtual 107, 3) := by decide +kernel
theorem dX5_box_97 : decode cX5_box 97 = .ok (.aload 5, 2) := by decide +kernel
theorem dX5_box_99 : decode cX5_box 99 = .ok (.getfield 93, 3) := by decide +kernel
theorem dX5_box_102 : decode cX5_box 102 = .ok (.iconst 1, 1) := by decide +kernel
theorem dX5_box_103 : decode cX5_box 103 = .ok (.isub, 1) := by decide +kernel
theorem dX5_box_104 : decode cX5_box 104 = .ok (.ireturn, 1) := by decide +kernel
theorem dX5_tell_0 : decode cX5_tell 0 = .ok (.aload_n 0, 1) := by decide +kernel
theorem dX5_tell_1 : decode cX5_tell 1 = .ok (.iload_n 1, 1) := by decide +kernel
theorem dX5_tell_2 : decode cX5_tell 2 = .ok (.iload_n 2, 1) := by decide +kernel
theorem dX5_tell_3 : decode cX5_tell 3 = .ok (.invokevirtual 110, 3) := by decide +kernel
theorem dX5_tell_6 : decode cX5_tell 6 = .ok (.ifCond .ne 5, 3) := by decide +kernel
theorem dX5_tell_9 : decode cX5_tell 9 = .ok (.iconst 0, 1) := by decide +kernel
theorem dX5_tell_10 : decode cX5_tell 10 = .ok (.ireturn, 1) := by decide +kernel
theorem dX5_tell_11 : decode cX5_tell 11 = .ok (.aload_n 0, 1) := by decide +kernel
theorem dX5_tell_12 : decode cX5_tell 12 = .ok (.getfield 15, 3) := by decide +kernel
theorem dX5_tell_15 : decode cX5_tell 15 = .ok (.iload_n 1, 1) := by decide +kernel
theorem dX5_tell_16 : decode cX5_tell 16 = .ok (.iaload, 1) := by decide +kernel
theorem dX5_tell_17 : decode cX5_tell 17 = .ok (.istore_n 3, 1) := by decide +kernel
theorem dX5_tell_18 : decode cX5_tell 18 = .ok (.aload_n 0, 1) := by decide +kernel
theorem dX5_tell_19 : decode cX5_tell 19 = .ok (.getfield 15, 3) := by decide +kernel
theorem dX5_tell_22 : decode cX5_tell 22 = .ok (.iload_n 1, 1) := by decide +kernel
theorem dX5_tell_23 : decode cX5_tell 23 = .ok (.iload_n 2, 1) := by decide +kernel
theorem dX5_tell_24 : decode cX5_tell 24 = .ok (.iastore, 1) := by decide +kernel
theorem dX5_tell_25 : decode cX5_tell 25 = .ok (.aload_n 0, 1) := by decide +kernel
theorem dX5_tell_26 : decode cX5_tell 26 = .ok (.iload_n 3, 1) := by decide +kernel
theorem dX5_tell_27 : decode cX5_tell 27 = .ok (.invokevirtual 107, 3) := by decide +kernel
theorem dX5_tell_30 : decode cX5_tell 30 = .ok (.aload_n 0, 1) := by decide +kernel
theorem dX5_tell_31 : decode cX5_tell 31 = .ok (.iload_n 2, 1) := by decide +kernel
theorem dX5_tell_32 : decode cX5_tell 32 = .ok (.invokevirtual 107, 3) := by decide +kernel
theorem dX5_tell_35 : decode cX5_tell 35 = .ok (.iconst 1, 1) := by decide +kernel
theorem dX5_tell_36 : decode cX5_tell 36 = .ok (.ireturn, 1) := by decide +kernel
theorem dX5_weights_0 : decode cX5_weights 0 = .ok (.iload_n 1, 1) := by decide +kernel
theorem dX5_weights_1 : decode cX5_weights 1 = .ok (.iconst 0, 1) := by decide +kernel
theorem dX5_weights_2 : decode cX5_weights 2 = .ok (.bipush 9, 2) := by decide +kernel
theorem dX5_weights_4 : decode cX5_weights 4 = .ok (.invokestatic 89, 3) := by decide +kernel
theorem dX5_weights_7 : decode cX5_weights 7 = .ok (.ifCond .eq 45, 3) := by decide +kernel
theorem dX5_weights_10 : decode cX5_weights 10 = .ok (.iload_n 2, 1) := by decide +kernel
theorem dX5_weights_11 : decode cX5_weights 11 = .ok (.iconst 0, 1) := by decide +kernel
theorem dX5_weights_12 : decode cX5_weights 12 = .ok (.bipush 9, 2) := by decide +kernel
theorem dX5_weights_14 : decode cX5_weights 14 = .ok (.invokestatic 89, 3) := by decide +kernel
theorem dX5_weights_17 : decode cX5_weights 17 = .ok (.ifCond .eq 35, 3) := by decide +kernel
theorem dX5_weights_20 : decode cX5_weights 20 = .ok (.iload_n 3, 1) := by decide +kernel
theorem dX5_weights_21 : decode cX5_weights 21 = .ok (.iconst 0, 1) := by decide +kernel
theorem dX5_weights_22 : decode cX5_weights 22 = .ok (.bipush 99, 2) := by decide +kernel
theorem dX5_weights_24 : decode cX5_weights 24 = .ok (.invokestatic 89, 3) := by decide +kernel
theorem dX5_weights_27 : decode cX5_weights 27 = .ok (.ifCond .eq 25, 3) := by decide +kernel
theorem dX5_weights_30 : decode cX5_weights 30 = .ok (.iload 4, 2) := by decide +kernel
theorem dX5_weights_32 : decode cX5_weights 32 = .ok (.iconst 0, 1) := by decide +kernel
theorem dX5_weights_33 : decode cX5_weights 33 = .ok (.bipush 99, 2) := by decide +kernel
theorem dX5_weights_35 : decode cX5_weights 35 = .ok (.invokestatic 89, 3) := by decide +kernel
theorem dX5_weights_38 : decode cX5_weights 38 = .ok (.ifCond .eq 14, 3) := by decide +kernel
theorem dX5_weights_41 : decode cX5_weights 41 = .ok (.iload 5, 2) := by decide +kernel
theorem dX5_weights_43 : decode cX5_weights 43 = .ok (.iconst 0, 1) := by decide +kernel
theorem dX5_weights_44 : decode cX5_weights 44 = .ok (.bipush 99, 2) := by decide +kernel
theorem dX5_weights_46 : decode cX5_weights 46 = .ok (.invokestatic 89, 3) := by decide +kernel
theorem dX5_weights_49 : decode cX5_weights 49 = .ok (.ifCond .ne 5, 3) := by decide +kernel
theorem dX5_weights_52 : decode cX5_weights 52 = .ok (.iconst 0, 1) := by decide +kernel
theorem dX5_weights_53 : decode cX5_weights 53 = .ok (.ireturn, 1) := by decide +kernel
theorem dX5_weights_54 : decode cX5_weights 54 = .ok (.aload_n 0, 1) := by decide +kernel
theorem dX5_weights_55 : decode cX5_weights 55 = .ok (.getfield 28, 3) := by decide +kernel
theorem dX5_weights_58 : decode cX5_weights 58 = .ok (.iload_n 1, 1) := by decide +kernel
theorem dX5_weights_59 : decode cX5_weights 59 = .ok (.putfield 114, 3) := by decide +kernel
theorem dX5_weights_62 : decode cX5_weights 62 = .ok (.aload_n 0, 1) := by decide +kernel
theorem dX5_weights_63 : decode cX5_weights 63 = .ok (.getfield 28, 3) := by decide +kernel
theorem dX5_weights_66 : decode cX5_weights 66 = .ok (.iload_n 2, 1) := by decide +kernel
theorem dX5_weights_67 : decode cX5_weights 67 = .ok (.putfield 117, 3) := by decide +kernel
theorem dX5_weights_70 : decode cX5_weights 70 = .ok (.aload_n 0, 1) := by decide +kernel
theorem dX5_weights_71 : decode cX5_weights 71 = .ok (.getfield 28, 3) := by decide +kernel
theorem dX5_weights_74 : decode cX5_weights 74 = .ok (.iload_n 3, 1) := by decide +kernel
theorem dX5_weights_75 : decode cX5_weights 75 = .ok (.putfield 120, 3) := by decide +kernel
theorem dX5_weights_78 : decode cX5_weights 78 = .ok (.aload_n 0, 1) := by decide +kernel
theorem dX5_weights_79 : decode cX5_weights 79 = .ok (.getfield 28, 3) := by decide +kernel
theorem dX5_weights_82 : decode cX5_weights 82 = .ok (.iload 4, 2) := by decide +kernel
theorem dX5_weights_84 : decode cX5_weights 84 = .ok (.putfield 123, 3) := by decide +kernel
theorem dX5_weights_87 : decode cX5_weights 87 = .ok (.aload_n 0, 1) := by decide +kernel
theorem dX5_weights_88 : decode cX5_weights 88 = .ok (.getfield 28, 3) := by decide +kernel
theorem dX5_weights_91 : decode cX5_weights 91 = .ok (.iload 5, 2) := by decide +kernel
theorem dX5_weights_93 : decode cX5_weights 93 = .ok (.putfield 126, 3) := by decide +kernel
theorem dX5_weights_96 : decode cX5_weights 96 = .ok (.aload_n 0, 1) := by decide +kernel
theorem dX5_weights_97 : decode cX5_weights 97 = .ok (.invokevirtual 82, 3) := by decide +kernel
theorem dX5_weights_100 : decode cX5_weights 100 = .ok (.iconst 1, 1) := by decide +kernel
theorem dX5_weights_101 : decode cX5_weights 101 = .ok (.ireturn, 1) := by decide +kernel
theorem dX5_bounds_0 : decode cX5_bounds 0 = .ok (.iload_n 1, 1) := by decide +kernel
theorem dX5_bounds_1 : decode cX5_bounds 1 = .ok (.iconst 0, 1) := by decide +kernel
theorem dX5_bounds_2 : decode cX5_bounds 2 = .ok (.sipush 1000, 3) := by decide +kernel
theorem dX5_bounds_5 : decode cX5_bounds 5 = .ok (.invokestatic 89, 3) := by decide +kernel
theorem dX5_bounds_8 : decode cX5_bounds 8 = .ok (.ifCond .eq 25, 3) := by decide +kernel
theorem dX5_bounds_11 : decode cX5_bounds 11 = .ok (.iload_n 2, 1) := by decide +kernel
theorem dX5_bounds_12 : decode cX5_bounds 12 = .ok (.iconst 0, 1) := by decide +kernel
theorem dX5_bounds_13 : decode cX5_bounds 13 = .ok (.sipush 1000, 3) := by decide +kernel
theorem dX5_bounds_16 : decode cX5_bounds 16 = .ok (.invokestatic 89, 3) := by decide +kernel
theorem dX5_bounds_19 : decode cX5_bounds 19 = .ok (.ifCond .eq 14, 3) := by decide +kernel
theorem dX5_bounds_22 : decode cX5_bounds 22 = .ok (.iload_n 3, 1) := by decide +kernel
theorem dX5_bounds_23 : decode cX5_bounds 23 = .ok (.iconst 0, 1) := by decide +kernel
theorem dX5_bounds_24 : decode cX5_bounds 24 = .ok (.sipush 1000, 3) := by decide +kernel
theorem dX5_bounds_27 : decode cX5_bounds 27 = .ok (.invokestatic 89, 3) := by decide +kernel
theorem dX5_bounds_30 : decode cX5_bounds 30 = .ok (.ifCond .ne 5, 3) := by decide +kernel
theorem dX5_bounds_33 : decode cX5_bounds 33 = .ok (.iconst 0, 1) := by decide +kernel
theorem dX5_bounds_34 : decode cX5_bounds 34 = .ok (.ireturn, 1) := by decide +kernel
theorem dX5_bounds_35 : decode cX5_bounds 35 = .ok (.aload_n 0, 1) := by decide +kernel
theorem dX5_bounds_36 : decode cX5_bounds 36 = .ok (.iload_n 1, 1) := by decide +kernel
theorem dX5_bounds_37 : decode cX5_bounds 37 = .ok (.putfield 70, 3) := by decide +kernel
theorem dX5_bounds_40 : decode cX5_bounds 40 = .ok (.aload_n 0, 1) := by decide +kernel
theorem dX5_bounds_41 : decode cX5_bounds 41 = .ok (.iload_n 2, 1) := by decide +kernel
theorem dX5_bounds_42 : decode cX5_bounds 42 = .ok (.putfield 73, 3) := by decide +kernel
theorem dX5_bounds_45 : decode cX5_bounds 45 = .ok (.aload_n 0, 1) := by decide +kernel
theorem dX5_bounds_46 : decode cX5_bounds 46 = .ok (.iload_n 3, 1) := by decide +kernel
theorem dX5_bounds_47 : decode cX5_bounds 47 = .ok (.putfield 76, 3) := by decide +kernel
theorem dX5_bounds_50 : decode cX5_bounds 50 = .ok (.iconst 1, 1) := by decide +kernel
theorem dX5_bounds_51 : decode cX5_bounds 51 = .ok (.ireturn, 1) := by decide +kernel
theorem dX5_kind_0 : decode cX5_kind 0 = .ok (.iload_n 1, 1) := by decide +kernel
theorem dX5_kind_1 : decode cX5_kind 1 = .ok (.invokestatic 129, 3) := by decide +kernel
theorem dX5_kind_4 : decode cX5_kind 4 = .ok (.ifCond .ne 5, 3) := by decide +kernel
theorem dX5_kind_7 : decode cX5_kind 7 = .ok (.iconst (-1), 1) := by decide +kernel
theorem dX5_kind_8 : decode cX5_kind 8 = .ok (.ireturn, 1) := by decide +kernel
theorem dX5_kind_9 : decode cX5_kind 9 = .ok (.iload_n 2, 1) := by decide +kernel
theorem dX5_kind_10 : decode cX5_kind 10 = .ok (.lookupswitch 49 #[(0, 26), (1, 36)], 26) := by decide +kernel
theorem dX5_kind_36 : decode cX5_kind 36 = .ok (.aload_n 0, 1) := by decide +kernel
theorem dX5_kind_37 : decode cX5_kind 37 = .ok (.getfield 21, 3) := by decide +kernel
theorem dX5_kind_40 : decode cX5_kind 40 = .ok (.iload_n 1, 1) := by decide +kernel
theorem dX5_kind_41 : decode cX5_kind 41 = .ok (.aaload, 1) := by decide +kernel
theorem dX5_kind_42 : decode cX5_kind 42 = .ok (.getfield 132, 3) := by decide +kernel
theorem dX5_kind_45 : decode cX5_kind 45 = .ok (.ireturn, 1) := by decide +kernel
theorem dX5_kind_46 : decode cX5_kind 46 = .ok (.aload_n 0, 1) := by decide +kernel
theorem dX5_kind_47 : decode cX5_kind 47 = .ok (.getfield 21, 3) := by decide +kernel
theorem dX5_kind_50 : decode cX5_kind 50 = .ok (.iload_n 1, 1) := by decide +kernel
theorem dX5_kind_51 : decode cX5_kind 51 = .ok (.aaload, 1) := by decide +kernel
theorem dX5_kind_52 : decode cX5_kind 52 = .ok (.getfield 133, 3) := by decide +kernel
theorem dX5_kind_55 : decode cX5_kind 55 = .ok (.getfield 93, 3) := by decide +kernel
theorem dX5_kind_58 : decode cX5_kind 58 = .ok (.ireturn, 1) := by decide +kernel
theorem dX5_kind_59 : decode cX5_kind 59 = .ok (.iconst (-1), 1) := by decide +kernel
theorem dX5_kind_60 : decode cX5_kind 60 = .ok (.ireturn, 1) := by decide +kernel
theorem dX5_spot_0 : decode cX5_spot 0 = .ok (.iload_n 1, 1) := by decide +kernel
theorem dX5_spot_1 : decode cX5_spot 1 = .ok (.invokestatic 129, 3) := by decide +kernel
theorem dX5_spot_4 : decode cX5_spot 4 = .ok (.ifCond .eq 25, 3) := by decide +kernel
theorem dX5_spot_7 : decode cX5_spot 7 = .ok (.iload_n 2, 1) := by decide +kernel
theorem dX5_spot_8 : decode cX5_spot 8 = .ok (.iconst 0, 1) := by decide +kernel
theorem dX5_spot_9 : decode cX5_spot 9 = .ok (.aload_n 0, 1) := by decide +kernel
theorem dX5_spot_10 : decode cX5_spot 10 = .ok (.getfield 21, 3) := by decide +kernel
theorem dX5_spot_13 : decode cX5_spot 13 = .ok (.iload_n 1, 1) := by decide +kernel
theorem dX5_spot_14 : decode cX5_spot 14 = .ok (.aaload, 1) := by decide +kernel
theorem dX5_spot_15 : decode cX5_spot 15 = .ok (.getfield 133, 3) := by decide +kernel
theorem dX5_spot_18 : decode cX5_spot 18 = .ok (.getfield 93, 3) := by decide +kernel
theorem dX5_spot_21 : decode cX5_spot 21 = .ok (.iconst 1, 1) := by decide +kernel
theorem dX5_spot_22 : decode cX5_spot 22 = .ok (.isub, 1) := by decide +kernel
theorem dX5_spot_23 : decode cX5_spot 23 = .ok (.invokestatic 89, 3) := by decide +kernel
theorem dX5_spot_26 : decode cX5_spot 26 = .ok (.ifCond .ne 5, 3) := by decide +kernel
theorem dX5_spot_29 : decode cX5_spot 29 = .ok (.iconst (-1), 1) := by decide +kernel
theorem dX5_spot_30 : decode cX5_spot 30 = .ok (.ireturn, 1) := by decide +kernel
theorem dX5_spot_31 : decode cX5_spot 31 = .ok (.aload_n 0, 1) := by decide +kernel
theorem dX5_spot_32 : decode cX5_spot 32 = .ok (.getfield 21, 3) := by decide +kernel
theorem dX5_spot_35 : decode cX5_spot 35 = .ok (.iload_n 1, 1) := by decide +kernel
theorem dX5_spot_36 : decode cX5_spot 36 = .ok (.aaload, 1) := by decide +kernel
theorem dX5_spot_37 : decode cX5_spot 37 = .ok (.getfield 133, 3) := by decide +kernel
theorem dX5_spot_40 : decode cX5_spot 40 = .ok (.astore 4, 2) := by decide +kernel
theorem dX5_spot_42 : decode cX5_spot 42 = .ok (.iload_n 3, 1) := by decide +kernel
theorem dX5_spot_43 : decode cX5_spot 43 = .ok (.tableswitch 69 0 3 #[29, 37, 45, 53], 29) := by decide +kernel
theorem dX5_spot_72 : decode cX5_spot 72 = .ok (.aload 4, 2) := by decide +kernel
theorem dX5_spot_74 : decode cX5_spot 74 = .ok (.getfield 137, 3) := by decide +kernel
theorem dX5_spot_77 : decode cX5_spot 77 = .ok (.iload_n 2, 1) := by decide +kernel
theorem dX5_spot_78 : decode cX5_spot 78 = .ok (.iaload, 1) := by decide +kernel
theorem dX5_spot_79 : decode cX5_spot 79 = .ok (.ireturn, 1) := by decide +kernel
theorem dX5_spot_80 : decode cX5_spot 80 = .ok (.aload 4, 2) := by decide +kernel
theorem dX5_spot_82 : decode cX5_spot 82 = .ok (.getfield 140, 3) := by decide +kernel
theorem dX5_spot_85 : decode cX5_spot 85 = .ok (.iload_n 2, 1) := by decide +kernel
theorem dX5_spot_86 : decode cX5_spot 86 = .ok (.iaload, 1) := by decide +kernel
theorem dX5_spot_87 : decode cX5_spot 87 = .ok (.ireturn, 1) := by decide +kernel
theorem dX5_spot_88 : decode cX5_spot 88 = .ok (.aload 4, 2) := by decide +kernel
theorem dX5_spot_90 : decode cX5_spot 90 = .ok (.getfield 143, 3) := by decide +kernel
theorem dX5_spot_93 : decode cX5_spot 93 = .ok (.iload_n 2, 1) := by decide +kernel
theorem dX5_spot_94 : decode cX5_spot 94 = .ok (.iaload, 1) := by decide +kernel
theorem dX5_spot_95 : decode cX5_spot 95 = .ok (.ireturn, 1) := by decide +kernel
theorem dX5_spot_96 : decode cX5_spot 96 = .ok (.aload 4, 2) := by decide +kernel
theorem dX5_spot_98 : decode cX5_spot 98 = .ok (.getfield 146, 3) := by decide +kernel
theorem dX5_spot_101 : decode cX5_spot 101 = .ok (.iload_n 2, 1) := by decide +kernel
theorem dX5_spot_102 : decode cX5_spot 102 = .ok (.baload, 1) := by decide +kernel
theorem dX5_spot_103 : decode cX5_spot 103 = .ok (.ifCond .eq 7, 3) := by decide +kernel
theorem dX5_spot_106 : decode cX5_spot 106 = .ok (.iconst 1, 1) := by decide +kernel
theorem dX5_spot_107 : decode cX5_spot 107 = .ok (.goto 4, 3) := by decide +kernel
theorem dX5_spot_110 : decode cX5_spot 110 = .ok (.iconst 0, 1) := by decide +kernel
theorem dX5_spot_111 : decode cX5_spot 111 = .ok (.ireturn, 1) := by decide +kernel
theorem dX5_spot_112 : decode cX5_spot 112 = .ok (.iconst (-1), 1) := by decide +kernel
theorem dX5_spot_113 : decode cX5_spot 113 = .ok (.ireturn, 1) := by decide +kernel
theorem dX5_lay_0 : decode cX5_lay 0 = .ok (.aload_n 0, 1) := by decide +kernel
theorem dX5_lay_1 : decode cX5_lay 1 = .ok (.iload_n 1, 1) := by decide +kernel
theorem dX5_lay_2 : decode cX5_lay 2 = .ok (.invokevirtual 85, 3) := by decide +kernel
theorem dX5_lay_5 : decode cX5_lay 5 = .ok (.ifCond .eq 11, 3) := by decide +kernel
theorem dX5_lay_8 : decode cX5_lay 8 = .ok (.aload_n 0, 1) := by decide +kernel
theorem dX5_lay_9 : decode cX5_lay 9 = .ok (.iload_n 2, 1) := by decide +kernel
theorem dX5_lay_10 : decode cX5_lay 10 = .ok (.invokevirtual 150, 3) := by decide +kernel
theorem dX5_lay_13 : decode cX5_lay 13 = .ok (.ifCond .ne 5, 3) := by decide +kernel
theorem dX5_lay_16 : decode cX5_lay 16 = .ok (.iconst (-1), 1) := by decide +kernel
theorem dX5_lay_17 : decode cX5_lay 17 = .ok (.ireturn, 1) := by decide +kernel
theorem dX5_lay_18 : decode cX5_lay 18 = .ok (.iload_n 3, 1) := by decide +kernel
theorem dX5_lay_19 : decode cX5_lay 19 = .ok (.ifCond .ne 18, 3) := by decide +kernel
theorem dX5_lay_22 : decode cX5_lay 22 = .ok (.aload_n 0, 1) := by decide +kernel
theorem dX5_lay_23 : decode cX5_lay 23 = .ok (.iload_n 1, 1) := by decide +kernel
theorem dX5_lay_24 : decode cX5_lay 24 = .ok (.aload_n 0, 1) := by decide +kernel
theorem dX5_lay_25 : decode cX5_lay 25 = .ok (.getfield 21, 3) := by decide +kernel
theorem dX5_lay_28 : decode cX5_lay 28 = .ok (.iload_n 2, 1) := by decide +kernel
theorem dX5_lay_29 : decode cX5_lay 29 = .ok (.aaload, 1) := by decide +kernel
theorem dX5_lay_30 : decode cX5_lay 30 = .ok (.invokevirtual 153, 3) := by decide +kernel
theorem dX5_lay_33 : decode cX5_lay 33 = .ok (.invokestatic 157, 3) := by decide +kernel
theorem dX5_lay_36 : decode cX5_lay 36 = .ok (.ireturn, 1) := by decide +kernel
theorem dX5_lay_37 : decode cX5_lay 37 = .ok (.iload_n 3, 1) := by decide +kernel
theorem dX5_lay_38 : decode cX5_lay 38 = .ok (.bipush 10, 2) := by decide +kernel
theorem dX5_lay_40 : decode cX5_lay 40 = .ok (.if_icmp .lt 19, 3) := by decide +kernel
theorem dX5_lay_43 : decode cX5_lay 43 = .ok (.iload_n 3, 1) := by decide +kernel
theorem dX5_lay_44 : decode cX5_lay 44 = .ok (.bipush 10, 2) := by decide +kernel
theorem dX5_lay_46 : decode cX5_lay 46 = .ok (.isub, 1) := by decide +kernel
theorem dX5_lay_47 : decode cX5_lay 47 = .ok (.aload_n 0, 1) := by decide +kernel
theorem dX5_lay_48 : decode cX5_lay 48 = .ok (.getfield 11, 3) := by decide +kernel
theorem dX5_lay_51 : decode cX5_lay 51 = .ok (.iload_n 1, 1) := by decide +kernel
theorem dX5_lay_52 : decode cX5_lay 52 = .ok (.aaload, 1) := by decide +kernel
theorem dX5_lay_53 : decode cX5_lay 53 = .ok (.getfield 93, 3) := by decide +kernel
theorem dX5_lay_56 : decode cX5_lay 56 = .ok (.if_icmp .lt 5, 3) := by decide +kernel
theorem dX5_lay_59 : decode cX5_lay 59 = .ok (.iconst (-1), 1) := by decide +kernel
theorem dX5_lay_60 : decode cX5_lay 60 = .ok (.ireturn, 1) := by decide +kernel
theorem dX5_lay_61 : decode cX5_lay 61 = .ok (.aload_n 0, 1) := by decide +kernel
theorem dX5_lay_62 : decode cX5_lay 62 = .ok (.iload_n 1, 1) := by decide +kernel
theorem dX5_lay_63 : decode cX5_lay 63 = .ok (.aload_n 0, 1) := by decide +kernel
theorem dX5_lay_64 : decode cX5_lay 64 = .ok (.getfield 21, 3) := by decide +kernel
theorem dX5_lay_67 : decode cX5_lay 67 = .ok (.iload_n 2, 1) := by decide +kernel
theorem dX5_lay_68 : decode cX5_lay 68 = .ok (.aaload, 1) := by decide +kernel
theorem dX5_lay_69 : decode cX5_lay 69 = .ok (.invokevirtual 153, 3) := by decide +kernel
theorem dX5_lay_72 : decode cX5_lay 72 = .ok (.iload_n 3, 1) := by decide +kernel
theorem dX5_lay_73 : decode cX5_lay 73 = .ok (.bipush 10, 2) := by decide +kernel
theorem dX5_lay_75 : decode cX5_lay 75 = .ok (.isub, 1) := by decide +kernel
theorem dX5_lay_76 : decode cX5_lay 76 = .ok (.invokestatic 161, 3) := by decide +kernel
theorem dX5_lay_79 : decode cX5_lay 79 = .ok (.ireturn, 1) := by decide +kernel
theorem dX5_moved_0 : decode cX5_moved 0 = .ok (.aload_n 0, 1) := by decide +kernel
theorem dX5_moved_1 : decode cX5_moved 1 = .ok (.iload_n 1, 1) := by decide +kernel
theorem dX5_moved_2 : decode cX5_moved 2 = .ok (.invokevirtual 85, 3) := by decide +kernel
theorem dX5_moved_5 : decode cX5_moved 5 = .ok (.ifCond .eq 11, 3) := by decide +kernel
theorem dX5_moved_8 : decode cX5_moved 8 = .ok (.aload_n 0, 1) := by decide +kernel
theorem dX5_moved_9 : decode cX5_moved 9 = .ok (.iload_n 2, 1) := by decide +kernel
theorem dX5_moved_10 : decode cX5_moved 10 = .ok (.invokevirtual 150, 3) := by decide +kernel
theorem dX5_moved_13 : decode cX5_moved 13 = .ok (.ifCond .ne 6, 3) := by decide +kernel
theorem dX5_moved_16 : decode cX5_moved 16 = .ok (.bipush (-10), 2) := by decide +kernel
theorem dX5_moved_18 : decode cX5_moved 18 = .ok (.ireturn, 1) := by decide +kernel
theorem dX5_moved_19 : decode cX5_moved 19 = .ok (.aload_n 0, 1) := by decide +kernel
theorem dX5_moved_20 : decode cX5_moved 20 = .ok (.iload_n 1, 1) := by decide +kernel
theorem dX5_moved_21 : decode cX5_moved 21 = .ok (.aload_n 0, 1) := by decide +kernel
theorem dX5_moved_22 : decode cX5_moved 22 = .ok (.getfield 21, 3) := by decide +kernel
theorem dX5_moved_25 : decode cX5_moved 25 = .ok (.iload_n 2, 1) := by decide +kernel
theorem dX5_moved_26 : decode cX5_moved 26 = .ok (.aaload, 1) := by decide +kernel
theorem dX5_moved_27 : decode cX5_moved 27 = .ok (.invokevirtual 153, 3) := by decide +kernel
theorem dX5_moved_30 : decode cX5_moved 30 = .ok (.invokestatic 165, 3) := by decide +kernel
theorem dX5_moved_33 : decode cX5_moved 33 = .ok (.istore 4, 2) := by decide +kernel
theorem dX5_moved_35 : decode cX5_moved 35 = .ok (.iload_n 3, 1) := by decide +kernel
theorem dX5_moved_36 : decode cX5_moved 36 = .ok (.ifCond .eq 11, 3) := by decide +kernel
theorem dX5_moved_39 : decode cX5_moved 39 = .ok (.iload 4, 2) := by decide +kernel
theorem dX5_moved_41 : decode cX5_moved 41 = .ok (.invokestatic 168, 3) := by decide +kernel
theorem dX5_moved_44 : decode cX5_moved 44 = .ok (.goto 8, 3) := by decide +kernel
theorem dX5_moved_47 : decode cX5_moved 47 = .ok (.iload 4, 2) := by decide +kernel
theorem dX5_moved_49 : decode cX5_moved 49 = .ok (.invokestatic 171, 3) := by decide +kernel
theorem dX5_moved_52 : decode cX5_moved 52 = .ok (.ireturn, 1) := by decide +kernel
theorem dX5_read_0 : decode cX5_read 0 = .ok (.aload_n 0, 1) := by decide +kernel
theorem dX5_read_1 : decode cX5_read 1 = .ok (.iload_n 1, 1) := by decide +kernel
theorem dX5_read_2 : decode cX5_read 2 = .ok (.invokevirtual 85, 3) := by decide +kernel
theorem dX5_read_5 : decode cX5_read 5 = .ok (.ifCond .eq 33, 3) := by decide +kernel
theorem dX5_read_8 : decode cX5_read 8 = .ok (.aload_n 0, 1) := by decide +kernel
theorem dX5_read_9 : decode cX5_read 9 = .ok (.iload_n 2, 1) := by decide +kernel
theorem dX5_read_10 : decode cX5_read 10 = .ok (.invokevirtual 150, 3) := by decide +kernel
theorem dX5_read_13 : decode cX5_read 13 = .ok (.ifCond .eq 25, 3) := by decide +kernel
theorem dX5_read_16 : decode cX5_read 16 = .ok (.iload_n 3, 1) := by decide +kernel
theorem dX5_read_17 : decode cX5_read 17 = .ok (.iconst 0, 1) := by decide +kernel
theorem dX5_read_18 : decode cX5_read 18 = .ok (.aload_n 0, 1) := by decide +kernel
theorem dX5_read_19 : decode cX5_read 19 = .ok (.getfield 21, 3) := by decide +kernel
theorem dX5_read_22 : decode cX5_read 22 = .ok (.iload_n 2, 1) := by decide +kernel
theorem dX5_read_23 : decode cX5_read 23 = .ok (.aaload, 1) := by decide +kernel
theorem dX5_read_24 : decode cX5_read 24 = .ok (.getfield 133, 3) := by decide +kernel
theorem dX5_read_27 : decode cX5_read 27 = .ok (.getfield 93, 3) := by decide +kernel
theorem dX5_read_30 : decode cX5_read 30 = .ok (.iconst 1, 1) := by decide +kernel
theorem dX5_read_31 : decode cX5_read 31 = .ok (.isub, 1) := by decide +kernel
theorem dX5_read_32 : decode cX5_read 32 = .ok (.invokestatic 89, 3) := by decide +kernel
theorem dX5_read_35 : decode cX5_read 35 = .ok (.ifCond .ne 5, 3) := by decide +kernel
theorem dX5_read_38 : decode cX5_read 38 = .ok (.iconst (-1), 1) := by decide +kernel
theorem dX5_read_39 : decode cX5_read 39 = .ok (.ireturn, 1) := by decide +kernel
theorem dX5_read_40 : decode cX5_read 40 = .ok (.aload_n 0, 1) := by decide +kernel
theorem dX5_read_41 : decode cX5_read 41 = .ok (.iload_n 1, 1) := by decide +kernel
theorem dX5_read_42 : decode cX5_read 42 = .ok (.aload_n 0, 1) := by decide +kernel
theorem dX5_read_43 : decode cX5_read 43 = .ok (.getfield 21, 3) := by decide +kernel
theorem dX5_read_46 : decode cX5_read 46 = .ok (.iload_n 2, 1) := by decide +kernel
theorem dX5_read_47 : decode cX5_read 47 = .ok (.aaload, 1) := by decide +kernel
theorem dX5_read_48 : decode cX5_read 48 = .ok (.invokevirtual 153, 3) := by decide +kernel
theorem dX5_read_51 : decode cX5_read 51 = .ok (.lstore 4, 2) := by decide +kernel
theorem dX5_read_53 : decode cX5_read 53 = .ok (.aload_n 0, 1) := by decide +kernel
theorem dX5_read_54 : decode cX5_read 54 = .ok (.getfield 11, 3) := by decide +kernel
theorem dX5_read_57 : decode cX5_read 57 = .ok (.iload_n 1, 1) := by decide +kernel
theorem dX5_read_58 : decode cX5_read 58 = .ok (.aaload, 1) := by decide +kernel
theorem dX5_read_59 : decode cX5_read 59 = .ok (.astore 6, 2) := by decide +kernel
theorem dX5_read_61 : decode cX5_read 61 = .ok (.iconst 0, 1) := by decide +kernel
theorem dX5_read_62 : decode cX5_read 62 = .ok (.istore 7, 2) := by decide +kernel
theorem dX5_read_64 : decode cX5_read 64 = .ok (.iload 7, 2) := by decide +kernel
theorem dX5_read_66 : decode cX5_read 66 = .ok (.aload 6, 2) := by decide +kernel
theorem dX5_read_68 : decode cX5_read 68 = .ok (.getfield 93, 3) := by decide +kernel
theorem dX5_read_71 : decode cX5_read 71 = .ok (.if_icmp .ge 29, 3) := by decide +kernel
theorem dX5_read_74 : decode cX5_read 74 = .ok (.lload 4, 2) := by decide +kernel
theorem dX5_read_76 : decode cX5_read 76 = .ok (.iload 7, 2) := by decide +kernel
theorem dX5_read_78 : decode cX5_read 78 = .ok (.invokestatic 161, 3) := by decide +kernel
theorem dX5_read_81 : decode cX5_read 81 = .ok (.iload_n 3, 1) := by decide +kernel
theorem dX5_read_82 : decode cX5_read 82 = .ok (.if_icmp .ne 12, 3) := by decide +kernel
theorem dX5_read_85 : decode cX5_read 85 = .ok (.aload 6, 2) := by decide +kernel
theorem dX5_read_87 : decode cX5_read 87 = .ok (.getfield 137, 3) := by decide +kernel
theorem dX5_read_90 : decode cX5_read 90 = .ok (.iload 7, 2) := by decide +kernel
theorem dX5_read_92 : decode cX5_read 92 = .ok (.iaload, 1) := by decide +kernel
theorem dX5_read_93 : decode cX5_read 93 = .ok (.ireturn, 1) := by decide +kernel
theorem dX5_read_94 : decode cX5_read 94 = .ok (.iinc 7 1, 3) := by decide +kernel
theorem dX5_read_97 : decode cX5_read 97 = .ok (.goto (-33), 3) := by decide +kernel
theorem dX5_read_100 : decode cX5_read 100 = .ok (.iconst (-1), 1) := by decide +kernel
theorem dX5_read_101 : decode cX5_read 101 = .ok (.ireturn, 1) := by decide +kernel
theorem dX5_sorted_0 : decode cX5_sorted 0 = .ok (.aload_n 0, 1) := by decide +kernel
theorem dX5_sorted_1 : decode cX5_sorted 1 = .ok (.iload_n 1, 1) := by decide +kernel
theorem dX5_sorted_2 : decode cX5_sorted 2 = .ok (.invokevirtual 85, 3) := by decide +kernel
theorem dX5_sorted_5 : decode cX5_sorted 5 = .ok (.ifCond .eq 15, 3) := by decide +kernel
theorem dX5_sorted_8 : decode cX5_sorted 8 = .ok (.aload_n 0, 1) := by decide +kernel
theorem dX5_sorted_9 : decode cX5_sorted 9 = .ok (.iload_n 1, 1) := by decide +kernel
theorem dX5_sorted_10 : decode cX5_sorted 10 = .ok (.aload_n 0, 1) := by decide +kernel
theorem dX5_sorted_11 : decode cX5_sorted 11 = .ok (.getfield 21, 3) := by decide +kernel
theorem dX5_sorted_14 : decode cX5_sorted 14 = .ok (.invokevirtual 174, 3) := by decide +kernel
theorem dX5_sorted_17 : decode cX5_sorted 17 = .ok (.goto 4, 3) := by decide +kernel
theorem dX5_sorted_20 : decode cX5_sorted 20 = .ok (.iconst (-1), 1) := by decide +kernel
theorem dX5_sorted_21 : decode cX5_sorted 21 = .ok (.ireturn, 1) := by decide +kernel
theorem dX5_told_0 : decode cX5_told 0 = .ok (.aload_n 0, 1) := by decide +kernel
theorem dX5_told_1 : decode cX5_told 1 = .ok (.iload_n 1, 1) := by decide +kernel
theorem dX5_told_2 : decode cX5_told 2 = .ok (.invokevirtual 85, 3) := by decide +kernel
theorem dX5_told_5 : decode cX5_told 5 = .ok (.ifCond .eq 12, 3) := by decide +kernel
theorem dX5_told_8 : decode cX5_told 8 = .ok (.aload_n 0, 1) := by decide +kernel
theorem dX5_told_9 : decode cX5_told 9 = .ok (.getfield 15, 3) := by decide +kernel
theorem dX5_told_12 : decode cX5_told 12 = .ok (.iload_n 1, 1) := by decide +kernel
theorem dX5_told_13 : decode cX5_told 13 = .ok (.iaload, 1) := by decide +kernel
theorem dX5_told_14 : decode cX5_told 14 = .ok (.goto 4, 3) := by decide +kernel
theorem dX5_told_17 : decode cX5_told 17 = .ok (.iconst (-1), 1) := by decide +kernel
theorem dX5_told_18 : decode cX5_told 18 = .ok (.ireturn, 1) := by decide +kernel
theorem dX5_look_0 : decode cX5_look 0 = .ok (.iconst (-1), 1) := by decide +kernel
theorem dX5_look_1 : decode cX5_look 1 = .ok (.istore_n 1, 1) := by decide +kernel
theorem dX5_look_2 : decode cX5_look 2 = .ok (.ldc 178, 2) := by decide +kernel
theorem dX5_look_4 : decode cX5_look 4 = .ok (.istore_n 2, 1) := by decide +kernel
theorem dX5_look_5 : decode cX5_look 5 = .ok (.iconst 0, 1) := by decide +kernel
theorem dX5_look_6 : decode cX5_look 6 = .ok (.istore_n 3, 1) := by decide +kernel
theorem dX5_look_7 : decode cX5_look 7 = .ok (.iload_n 3, 1) := by decide +kernel
theorem dX5_look_8 : decode cX5_look 8 = .ok (.aload_n 0, 1) := by decide +kernel
theorem dX5_look_9 : decode cX5_look 9 = .ok (.getfield 66, 3) := by decide +kernel
theorem dX5_look_12 : decode cX5_look 12 = .ok (.if_icmp .ge 54, 3) := by decide +kernel
theorem dX5_look_15 : decode cX5_look 15 = .ok (.aload_n 0, 1) := by decide +kernel
theorem dX5_look_16 : decode cX5_look 16 = .ok (.getfield 15, 3) := by decide +kernel
theorem dX5_look_19 : decode cX5_look 19 = .ok (.iload_n 3, 1) := by decide +kernel
theorem dX5_look_20 : decode cX5_look 20 = .ok (.iaload, 1) := by decide +kernel
theorem dX5_look_21 : decode cX5_look 21 = .ok (.iconst (-1), 1) := by decide +kernel
theorem dX5_look_22 : decode cX5_look 22 = .ok (.if_icmp .ne 38, 3) := by decide +kernel
theorem dX5_look_25 : decode cX5_look 25 = .ok (.aload_n 0, 1) := by decide +kernel
theorem dX5_look_26 : decode cX5_look 26 = .ok (.iload_n 3, 1) := by decide +kernel
theorem dX5_look_27 : decode cX5_look 27 = .ok (.aload_n 0, 1) := by decide +kernel
theorem dX5_look_28 : decode cX5_look 28 = .ok (.getfield 21, 3) := by decide +kernel
theorem dX5_look_31 : decode cX5_look 31 = .ok (.invokevirtual 174, 3) := by decide +kernel
theorem dX5_look_34 : decode cX5_look 34 = .ok (.bipush 11, 2) := by decide +kernel
theorem dX5_look_36 : decode cX5_look 36 = .ok (.if_icmp .ne 24, 3) := by decide +kernel
theorem dX5_look_39 : decode cX5_look 39 = .ok (.aload_n 0, 1) := by decide +kernel
theorem dX5_look_40 : decode cX5_look 40 = .ok (.getfield 42, 3) := by decide +kernel
theorem dX5_look_43 : decode cX5_look 43 = .ok (.invokevirtual 179, 3) := by decide +kernel
theorem dX5_look_46 : decode cX5_look 46 = .ok (.iload_n 2, 1) := by decide +kernel
theorem dX5_look_47 : decode cX5_look 47 = .ok (.if_icmp .ge 13, 3) := by decide +kernel
theorem dX5_look_50 : decode cX5_look 50 = .ok (.iload_n 3, 1) := by decide +kernel
theorem dX5_look_51 : decode cX5_look 51 = .ok (.istore_n 1, 1) := by decide +kernel
theorem dX5_look_52 : decode cX5_look 52 = .ok (.aload_n 0, 1) := by decide +kernel
theorem dX5_look_53 : decode cX5_look 53 = .ok (.getfield 42, 3) := by decide +kernel
theorem dX5_look_56 : decode cX5_look 56 = .ok (.invokevirtual 179, 3) := by decide +kernel
theorem dX5_look_59 : decode cX5_look 59 = .ok (.istore_n 2, 1) := by decide +kernel
theorem dX5_look_60 : decode cX5_look 60 = .ok (.iinc 3 1, 3) := by decide +kernel
theorem dX5_look_63 : decode cX5_look 63 = .ok (.goto (-56), 3) := by decide +kernel
theorem dX5_look_66 : decode cX5_look 66 = .ok (.iload_n 1, 1) := by decide +kernel
theorem dX5_look_67 : decode cX5_look 67 = .ok (.ireturn, 1) := by decide +kernel
theorem dX5_heaps_0 : decode cX5_heaps 0 = .ok (.aload_n 0, 1) := by decide +kernel
theorem dX5_heaps_1 : decode cX5_heaps 1 = .ok (.invokevirtual 183, 3) := by decide +kernel
theorem dX5_heaps_4 : decode cX5_heaps 4 = .ok (.iconst 0, 1) := by decide +kernel
theorem dX5_heaps_5 : decode cX5_heaps 5 = .ok (.istore_n 1, 1) := by decide +kernel
theorem dX5_heaps_6 : decode cX5_heaps 6 = .ok (.iconst 0, 1) := by decide +kernel
theorem dX5_heaps_7 : decode cX5_heaps 7 = .ok (.istore_n 2, 1) := by decide +kernel
theorem dX5_heaps_8 : decode cX5_heaps 8 = .ok (.iload_n 2, 1) := by decide +kernel
theorem dX5_heaps_9 : decode cX5_heaps 9 = .ok (.aload_n 0, 1) := by decide +kernel
theorem dX5_heaps_10 : decode cX5_heaps 10 = .ok (.getfield 66, 3) := by decide +kernel
theorem dX5_heaps_13 : decode cX5_heaps 13 = .ok (.if_icmp .ge 22, 3) := by decide +kernel
theorem dX5_heaps_16 : decode cX5_heaps 16 = .ok (.aload_n 0, 1) := by decide +kernel
theorem dX5_heaps_17 : decode cX5_heaps 17 = .ok (.getfield 63, 3) := by decide +kernel
theorem dX5_heaps_20 : decode cX5_heaps 20 = .ok (.iload_n 2, 1) := by decide +kernel
theorem dX5_heaps_21 : decode cX5_heaps 21 = .ok (.iaload, 1) := by decide +kernel
theorem dX5_heaps_22 : decode cX5_heaps 22 = .ok (.iload_n 2, 1) := by decide +kernel
theorem dX5_heaps_23 : decode cX5_heaps 23 = .ok (.if_icmp .ne 6, 3) := by decide +kernel
theorem dX5_heaps_26 : decode cX5_heaps 26 = .ok (.iinc 1 1, 3) := by decide +kernel
theorem dX5_heaps_29 : decode cX5_heaps 29 = .ok (.iinc 2 1, 3) := by decide +kernel
theorem dX5_heaps_32 : decode cX5_heaps 32 = .ok (.goto (-24), 3) := by decide +kernel
theorem dX5_heaps_35 : decode cX5_heaps 35 = .ok (.iload_n 1, 1) := by decide +kernel
theorem dX5_heaps_36 : decode cX5_heaps 36 = .ok (.ireturn, 1) := by decide +kernel
theorem dX5_heap_0 : decode cX5_heap 0 = .ok (.aload_n 0, 1) := by decide +kernel
theorem dX5_heap_1 : decode cX5_heap 1 = .ok (.iload_n 1, 1) := by decide +kernel
theorem dX5_heap_2 : decode cX5_heap 2 = .ok (.invokevirtual 85, 3) := by decide +kernel
theorem dX5_heap_5 : decode cX5_heap 5 = .ok (.ifCond .ne 5, 3) := by decide +kernel
theorem dX5_heap_8 : decode cX5_heap 8 = .ok (.iconst (-1), 1) := by decide +kernel
theorem dX5_heap_9 : decode cX5_heap 9 = .ok (.ireturn, 1) := by decide +kernel
theorem dX5_heap_10 : decode cX5_heap 10 = .ok (.aload_n 0, 1) := by decide +kernel
theorem dX5_heap_11 : decode cX5_heap 11 = .ok (.invokevirtual 183, 3) := by decide +kernel
theorem dX5_heap_14 : decode cX5_heap 14 = .ok (.aload_n 0, 1) := by decide +kernel
theorem dX5_heap_15 : decode cX5_heap 15 = .ok (.getfield 63, 3) := by decide +kernel
theorem dX5_heap_18 : decode cX5_heap 18 = .ok (.iload_n 1, 1) := by decide +kernel
theorem dX5_heap_19 : decode cX5_heap 19 = .ok (.iaload, 1) := by decide +kernel
theorem dX5_heap_20 : decode cX5_heap 20 = .ok (.ireturn, 1) := by decide +kernel
theorem dX5_versions_0 : decode cX5_versions 0 = .ok (.aload_n 0, 1) := by decide +kernel
theorem dX5_versions_1 : decode cX5_versions 1 = .ok (.iload_n 1, 1) := by decide +kernel
theorem dX5_versions_2 : decode cX5_versions 2 = .ok (.invokevirtual 150, 3) := by decide +kernel
theorem dX5_versions_5 : decode cX5_versions 5 = .ok (.ifCond .eq 16, 3) := by decide +kernel
theorem dX5_versions_8 : decode cX5_versions 8 = .ok (.aload_n 0, 1) := by decide +kernel
theorem dX5_versions_9 : decode cX5_versions 9 = .ok (.iload_n 2, 1) := by decide +kernel
theorem dX5_versions_10 : decode cX5_versions 10 = .ok (.invokevirtual 150, 3) := by decide +kernel
theorem dX5_versions_13 : decode cX5_versions 13 = .ok (.ifCond .eq 8, 3) := by decide +kernel
theorem dX5_versions_16 : decode cX5_versions 16 = .ok (.iload_n 1, 1) := by decide +kernel
theorem dX5_versions_17 : decode cX5_versions 17 = .ok (.iload_n 2, 1) := by decide +kernel
theorem dX5_versions_18 : decode cX5_versions 18 = .ok (.if_icmp .ne 5, 3) := by decide +kernel
theorem dX5_versions_21 : decode cX5_versions 21 = .ok (.iconst (-1), 1) := by decide +kernel
theorem dX5_versions_22 : decode cX5_versions 22 = .ok (.ireturn, 1) := by decide +kernel
theorem dX5_versions_23 : decode cX5_versions 23 = .ok (.aload_n 0, 1) := by decide +kernel
theorem dX5_versions_24 : decode cX5_versions 24 = .ok (.getfield 21, 3) := by decide +kernel
theorem dX5_versions_27 : decode cX5_versions 27 = .ok (.iload_n 1, 1) := by decide +kernel
theorem dX5_versions_28 : decode cX5_versions 28 = .ok (.iload_n 2, 1) := by decide +kernel
theorem dX5_versions_29 : decode cX5_versions 29 = .ok (.invokestatic 186, 3) := by decide +kernel
theorem dX5_versions_32 : decode cX5_versions 32 = .ok (.aaload, 1) := by decide +kernel
theorem dX5_versions_33 : decode cX5_versions 33 = .ok (.getfield 133, 3) := by decide +kernel
theorem dX5_versions_36 : decode cX5_versions 36 = .ok (.astore 4, 2) := by decide +kernel
theorem dX5_versions_38 : decode cX5_versions 38 = .ok (.aload_n 0, 1) := by decide +kernel
theorem dX5_versions_39 : decode cX5_versions 39 = .ok (.getfield 21, 3) := by decide +kernel
theorem dX5_versions_42 : decode cX5_versions 42 = .ok (.iload_n 1, 1) := by decide +kernel
theorem dX5_versions_43 : decode cX5_versions 43 = .ok (.iload_n 2, 1) := by decide +kernel
theorem dX5_versions_44 : decode cX5_versions 44 = .ok (.invokestatic 192, 3) := by decide +kernel
theorem dX5_versions_47 : decode cX5_versions 47 = .ok (.aaload, 1) := by decide +kernel
theorem dX5_versions_48 : decode cX5_versions 48 = .ok (.getfield 133, 3) := by decide +kernel
theorem dX5_versions_51 : decode cX5_versions 51 = .ok (.astore 5, 2) := by decide +kernel
theorem dX5_versions_53 : decode cX5_versions 53 = .ok (.iload_n 3, 1) := by decide +kernel
theorem dX5_versions_54 : decode cX5_versions 54 = .ok (.lookupswitch 61 #[(0, 26), (1, 53)], 26) := by decide +kernel
theorem dX5_versions_80 : decode cX5_versions 80 = .ok (.aload_n 0, 1) := by decide +kernel
theorem dX5_versions_81 : decode cX5_versions 81 = .ok (.getfield 28, 3) := by decide +kernel
theorem dX5_versions_84 : decode cX5_versions 84 = .ok (.aload 4, 2) := by decide +kernel
theorem dX5_versions_86 : decode cX5_versions 86 = .ok (.aload 5, 2) := by decide +kernel
theorem dX5_versions_88 : decode cX5_versions 88 = .ok (.invokevirtual 195, 3) := by decide +kernel
theorem dX5_versions_91 : decode cX5_versions 91 = .ok (.invokestatic 157, 3) := by decide +kernel
theorem dX5_versions_94 : decode cX5_versions 94 = .ok (.aload_n 0, 1) := by decide +kernel
theorem dX5_versions_95 : decode cX5_versions 95 = .ok (.getfield 76, 3) := by decide +kernel
theorem dX5_versions_98 : decode cX5_versions 98 = .ok (.if_icmp .gt 7, 3) := by decide +kernel
theorem dX5_versions_101 : decode cX5_versions 101 = .ok (.iconst 1, 1) := by decide +kernel
theorem dX5_versions_102 : decode cX5_versions 102 = .ok (.goto 4, 3) := by decide +kernel
theorem dX5_versions_105 : decode cX5_versions 105 = .ok (.iconst 0, 1) := by decide +kernel
theorem dX5_versions_106 : decode cX5_versions 106 = .ok (.ireturn, 1) := by decide +kernel
theorem dX5_versions_107 : decode cX5_versions 107 = .ok (.aload 4, 2) := by decide +kernel
theorem dX5_versions_109 : decode cX5_versions 109 = .ok (.aload 5, 2) := by decide +kernel
theorem dX5_versions_111 : decode cX5_versions 111 = .ok (.invokestatic 199, 3) := by decide +kernel
theorem dX5_versions_114 : decode cX5_versions 114 = .ok (.ireturn, 1) := by decide +kernel
theorem dX5_versions_115 : decode cX5_versions 115 = .ok (.iconst (-1), 1) := by decide +kernel
theorem dX5_versions_116 : decode cX5_versions 116 = .ok (.ireturn, 1) := by decide +kernel
theorem dX5_touch_0 : decode cX5_touch 0 = .ok (.aload_n 0, 1) := by decide +kernel
theorem dX5_touch_1 : decode cX5_touch 1 = .ok (.iload_n 1, 1) := by decide +kernel
theorem dX5_touch_2 : decode cX5_touch 2 = .ok (.iload_n 2, 1) := by decide +kernel
theorem dX5_touch_3 : decode cX5_touch 3 = .ok (.invokevirtual 110, 3) := by decide +kernel
theorem dX5_touch_6 : decode cX5_touch 6 = .ok (.ifCond .ne 5, 3) := by decide +kernel
theorem dX5_touch_9 : decode cX5_touch 9 = .ok (.iconst (-1), 1) := by decide +kernel
theorem dX5_touch_10 : decode cX5_touch 10 = .ok (.ireturn, 1) := by decide +kernel
theorem dX5_touch_11 : decode cX5_touch 11 = .ok (.aload_n 0, 1) := by decide +kernel
theorem dX5_touch_12 : decode cX5_touch 12 = .ok (.iload_n 1, 1) := by decide +kernel
theorem dX5_touch_13 : decode cX5_touch 13 = .ok (.iload_n 2, 1) := by decide +kernel
theorem dX5_touch_14 : decode cX5_touch 14 = .ok (.invokevirtual 203, 3) := by decide +kernel
theorem dX5_touch_17 : decode cX5_touch 17 = .ok (.iconst 0, 1) := by decide +kernel
theorem dX5_touch_18 : decode cX5_touch 18 = .ok (.istore_n 3, 1) := by decide +kernel
theorem dX5_touch_19 : decode cX5_touch 19 = .ok (.iconst 0, 1) := by decide +kernel
theorem dX5_touch_20 : decode cX5_touch 20 = .ok (.istore 4, 2) := by decide +kernel
theorem dX5_touch_22 : decode cX5_touch 22 = .ok (.iload 4, 2) := by decide +kernel
theorem dX5_touch_24 : decode cX5_touch 24 = .ok (.aload_n 0, 1) := by decide +kernel
theorem dX5_touch_25 : decode cX5_touch 25 = .ok (.getfield 66, 3) := by decide +kernel
theorem dX5_touch_28 : decode cX5_touch 28 = .ok (.if_icmp .ge 35, 3) := by decide +kernel
theorem dX5_touch_31 : decode cX5_touch 31 = .ok (.aload_n 0, 1) := by decide +kernel
theorem dX5_touch_32 : decode cX5_touch 32 = .ok (.iload 4, 2) := by decide +kernel
theorem dX5_touch_34 : decode cX5_touch 34 = .ok (.aload_n 0, 1) := by decide +kernel
theorem dX5_touch_35 : decode cX5_touch 35 = .ok (.getfield 21, 3) := by decide +kernel
theorem dX5_touch_38 : decode cX5_touch 38 = .ok (.invokevirtual 174, 3) := by decide +kernel
theorem dX5_touch_41 : decode cX5_touch 41 = .ok (.aload_n 0, 1) := by decide +kernel
theorem dX5_touch_42 : decode cX5_touch 42 = .ok (.iload 4, 2) := by decide +kernel
theorem dX5_touch_44 : decode cX5_touch 44 = .ok (.aload_n 0, 1) := by decide +kernel
theorem dX5_touch_45 : decode cX5_touch 45 = .ok (.getfield 49, 3) := by decide +kernel
theorem dX5_touch_48 : decode cX5_touch 48 = .ok (.invokevirtual 174, 3) := by decide +kernel
theorem dX5_touch_51 : decode cX5_touch 51 = .ok (.if_icmp .eq 6, 3) := by decide +kernel
theorem dX5_touch_54 : decode cX5_touch 54 = .ok (.iinc 3 1, 3) := by decide +kernel
theorem dX5_touch_57 : decode cX5_touch 57 = .ok (.iinc 4 1, 3) := by decide +kernel
theorem dX5_touch_60 : decode cX5_touch 60 = .ok (.goto (-38), 3) := by decide +kernel
theorem dX5_touch_63 : decode cX5_touch 63 = .ok (.iload_n 3, 1) := by decide +kernel
theorem dX5_touch_64 : decode cX5_touch 64 = .ok (.ireturn, 1) := by decide +kernel
theorem dX5_about_0 : decode cX5_about 0 = .ok (.iload_n 1, 1) := by decide +kernel
theorem dX5_about_1 : decode cX5_about 1 = .ok (.tableswitch 111 0 8 #[51, 56, 64, 72, 80, 88, 96, 101, 106], 51) := by decide +kernel
theorem dX5_about_52 : decode cX5_about 52 = .ok (.aload_n 0, 1) := by decide +kernel
theorem dX5_about_53 : decode cX5_about 53 = .ok (.getfield 66, 3) := by decide +kernel
theorem dX5_about_56 : decode cX5_about 56 = .ok (.ireturn, 1) := by decide +kernel
theorem dX5_about_57 : decode cX5_about 57 = .ok (.aload_n 0, 1) := by decide +kernel
theorem dX5_about_58 : decode cX5_about 58 = .ok (.getfield 28, 3) := by decide +kernel
theorem dX5_about_61 : decode cX5_about 61 = .ok (.getfield 114, 3) := by decide +kernel
theorem dX5_about_64 : decode cX5_about 64 = .ok (.ireturn, 1) := by decide +kernel
theorem dX5_about_65 : decode cX5_about 65 = .ok (.aload_n 0, 1) := by decide +kernel
theorem dX5_about_66 : decode cX5_about 66 = .ok (.getfield 28, 3) := by decide +kernel
theorem dX5_about_69 : decode cX5_about 69 = .ok (.getfield 117, 3) := by decide +kernel
theorem dX5_about_72 : decode cX5_about 72 = .ok (.ireturn, 1) := by decide +kernel
theorem dX5_about_73 : decode cX5_about 73 = .ok (.aload_n 0, 1) := by decide +kernel
theorem dX5_about_74 : decode cX5_about 74 = .ok (.getfield 28, 3) := by decide +kernel
theorem dX5_about_77 : decode cX5_about 77 = .ok (.getfield 120, 3) := by decide +kernel
theorem dX5_about_80 : decode cX5_about 80 = .ok (.ireturn, 1) := by decide +kernel
theorem dX5_about_81 : decode cX5_about 81 = .ok (.aload_n 0, 1) := by decide +kernel
theorem dX5_about_82 : decode cX5_about 82 = .ok (.getfield 28, 3) := by decide +kernel
theorem dX5_about_85 : decode cX5_about 85 = .ok (.getfield 123, 3) := by decide +kernel
theorem dX5_about_88 : decode cX5_about 88 = .ok (.ireturn, 1) := by decide +kernel
theorem dX5_about_89 : decode cX5_about 89 = .ok (.aload_n 0, 1) := by decide +kernel
theorem dX5_about_90 : decode cX5_about 90 = .ok (.getfield 28, 3) := by decide +kernel
theorem dX5_about_93 : decode cX5_about 93 = .ok (.getfield 126, 3) := by decide +kernel
theorem dX5_about_96 : decode cX5_about 96 = .ok (.ireturn, 1) := by decide +kernel
theorem dX5_about_97 : decode cX5_about 97 = .ok (.aload_n 0, 1) := by decide +kernel
theorem dX5_about_98 : decode cX5_about 98 = .ok (.getfield 70, 3) := by decide +kernel
theorem dX5_about_101 : decode cX5_about 101 = .ok (.ireturn, 1) := by decide +kernel
theorem dX5_about_102 : decode cX5_about 102 = .ok (.aload_n 0, 1) := by decide +kernel
theorem dX5_about_103 : decode cX5_about 103 = .ok (.getfield 73, 3) := by decide +kernel
theorem dX5_about_106 : decode cX5_about 106 = .ok (.ireturn, 1) := by decide +kernel
theorem dX5_about_107 : decode cX5_about 107 = .ok (.aload_n 0, 1) := by decide +kernel
theorem dX5_about_108 : decode cX5_about 108 = .ok (.getfield 76, 3) := by decide +kernel
theorem dX5_about_111 : decode cX5_about 111 = .ok (.ireturn, 1) := by decide +kernel
theorem dX5_about_112 : decode cX5_about 112 = .ok (.aload_n 0, 1) := by decide +kernel
theorem dX5_about_113 : decode cX5_about 113 = .ok (.iload_n 1, 1) := by decide +kernel
theorem dX5_about_114 : decode cX5_about 114 = .ok (.invokevirtual 207, 3) := by decide +kernel
theorem dX5_about_117 : decode cX5_about 117 = .ok (.ireturn, 1) := by decide +kernel
theorem dX5_boxesAskedFor_0 : decode cX5_boxesAskedFor 0 = .ok (.iload_n 1, 1) := by decide +kernel
theorem dX5_boxesAskedFor_1 : decode cX5_boxesAskedFor 1 = .ok (.bipush 20, 2) := by decide +kernel
theorem dX5_boxesAskedFor_3 : decode cX5_boxesAskedFor 3 = .ok (.if_icmp .lt 14, 3) := by decide +kernel
theorem dX5_boxesAskedFor_6 : decode cX5_boxesAskedFor 6 = .ok (.aload_n 0, 1) := by decide +kernel
theorem dX5_boxesAskedFor_7 : decode cX5_boxesAskedFor 7 = .ok (.iload_n 1, 1) := by decide +kernel
theorem dX5_boxesAskedFor_8 : decode cX5_boxesAskedFor 8 = .ok (.bipush 20, 2) := by decide +kernel
theorem dX5_boxesAskedFor_10 : decode cX5_boxesAskedFor 10 = .ok (.isub, 1) := by decide +kernel
theorem dX5_boxesAskedFor_11 : decode cX5_boxesAskedFor 11 = .ok (.invokevirtual 85, 3) := by decide +kernel
theorem dX5_boxesAskedFor_14 : decode cX5_boxesAskedFor 14 = .ok (.ifCond .ne 5, 3) := by decide +kernel
theorem dX5_boxesAskedFor_17 : decode cX5_boxesAskedFor 17 = .ok (.iconst (-1), 1) := by decide +kernel
theorem dX5_boxesAskedFor_18 : decode cX5_boxesAskedFor 18 = .ok (.ireturn, 1) := by decide +kernel
theorem dX5_boxesAskedFor_19 : decode cX5_boxesAskedFor 19 = .ok (.aload_n 0, 1) := by decide +kernel
theorem dX5_boxesAskedFor_20 : decode cX5_boxesAskedFor 20 = .ok (.getfield 11, 3) := by decide +kernel
theorem dX5_boxesAskedFor_23 : decode cX5_boxesAskedFor 23 = .ok (.iload_n 1, 1) := by decide +kernel
theorem dX5_boxesAskedFor_24 : decode cX5_boxesAskedFor 24 = .ok (.bipush 20, 2) := by decide +kernel
theorem dX5_boxesAskedFor_26 : decode cX5_boxesAskedFor 26 = .ok (.isub, 1) := by decide +kernel
theorem dX5_boxesAskedFor_27 : decode cX5_boxesAskedFor 27 = .ok (.aaload, 1) := by decide +kernel
theorem dX5_boxesAskedFor_28 : decode cX5_boxesAskedFor 28 = .ok (.getfield 93, 3) := by decide +kernel
theorem dX5_boxesAskedFor_31 : decode cX5_boxesAskedFor 31 = .ok (.ireturn, 1) := by decide +kernel
theorem dX5_isIn_0 : decode cX5_isIn 0 = .ok (.iload_n 0, 1) := by decide +kernel
theorem dX5_isIn_1 : decode cX5_isIn 1 = .ok (.iload_n 1, 1) := by decide +kernel
theorem dX5_isIn_2 : decode cX5_isIn 2 = .ok (.if_icmp .lt 12, 3) := by decide +kernel
theorem dX5_isIn_5 : decode cX5_isIn 5 = .ok (.iload_n 0, 1) := by decide +kernel
theorem dX5_isIn_6 : decode cX5_isIn 6 = .ok (.iload_n 2, 1) := by decide +kernel
theorem dX5_isIn_7 : decode cX5_isIn 7 = .ok (.if_icmp .gt 7, 3) := by decide +kernel
theorem dX5_isIn_10 : decode cX5_isIn 10 = .ok (.iconst 1, 1) := by decide +kernel
theorem dX5_isIn_11 : decode cX5_isIn 11 = .ok (.goto 4, 3) := by decide +kernel
theorem dX5_isIn_14 : decode cX5_isIn 14 = .ok (.iconst 0, 1) := by decide +kernel
theorem dX5_isIn_15 : decode cX5_isIn 15 = .ok (.ireturn, 1) := by decide +kernel
theorem dX5_isPage_0 : decode cX5_isPage 0 = .ok (.iload_n 1, 1) := by decide +kernel
theorem dX5_isPage_1 : decode cX5_isPage 1 = .ok (.ifCond .lt 15, 3) := by decide +kernel
theorem dX5_isPage_4 : decode cX5_isPage 4 = .ok (.iload_n 1, 1) := by decide +kernel
theorem dX5_isPage_5 : decode cX5_isPage 5 = .ok (.aload_n 0, 1) := by decide +kernel
theorem dX5_isPage_6 : decode cX5_isPage 6 = .ok (.getfield 66, 3) := by decide +kernel
theorem dX5_isPage_9 : decode cX5_isPage 9 = .ok (.if_icmp .ge 7, 3) := by decide +kernel
theorem dX5_isPage_12 : decode cX5_isPage 12 = .ok (.iconst 1, 1) := by decide +kernel
theorem dX5_isPage_13 : decode cX5_isPage 13 = .ok (.goto 4, 3) := by decide +kernel
theorem dX5_isPage_16 : decode cX5_isPage 16 = .ok (.iconst 0, 1) := by decide +kernel
theorem dX5_isPage_17 : decode cX5_isPage 17 = .ok (.ireturn, 1) := by decide +kernel
theorem dX5_isKind_0 : decode cX5_isKind 0 = .ok (.iload_n 0, 1) := by decide +kernel
theorem dX5_isKind_1 : decode cX5_isKind 1 = .ok (.ifCond .lt 12, 3) := by decide +kernel
theorem dX5_isKind_4 : decode cX5_isKind 4 = .ok (.iload_n 0, 1) := by decide +kernel
theorem dX5_isKind_5 : decode cX5_isKind 5 = .ok (.iconst 5, 1) := by decide +kernel
theorem dX5_isKind_6 : decode cX5_isKind 6 = .ok (.if_icmp .ge 7, 3) := by decide +kernel
theorem dX5_isKind_9 : decode cX5_isKind 9 = .ok (.iconst 1, 1) := by decide +kernel
theorem dX5_isKind_10 : decode cX5_isKind 10 = .ok (.goto 4, 3) := by decide +kernel
theorem dX5_isKind_13 : decode cX5_isKind 13 = .ok (.iconst 0, 1) := by decide +kernel
theorem dX5_isKind_14 : decode cX5_isKind 14 = .ok (.ireturn, 1) := by decide +kernel
theorem dX5_hasPages_0 : decode cX5_hasPages 0 = .ok (.iload_n 1, 1) := by decide +kernel
theorem dX5_hasPages_1 : decode cX5_hasPages 1 = .ok (.invokestatic 129, 3) := by decide +kernel
theorem dX5_hasPages_4 : decode cX5_hasPages 4 = .ok (.ifCond .eq 19, 3) := by decide +kernel
theorem dX5_hasPages_7 : decode cX5_hasPages 7 = .ok (.aload_n 0, 1) := by decide +kernel
theorem dX5_hasPages_8 : decode cX5_hasPages 8 = .ok (.getfield 21, 3) := by decide +kernel
theorem dX5_hasPages_11 : decode cX5_hasPages 11 = .ok (.iload_n 1, 1) := by decide +kernel
theorem dX5_hasPages_12 : decode cX5_hasPages 12 = .ok (.aaload, 1) := by decide +kernel
theorem dX5_hasPages_13 : decode cX5_hasPages 13 = .ok (.getfield 132, 3) := by decide +kernel
theorem dX5_hasPages_16 : decode cX5_hasPages 16 = .ok (.ifCond .le 7, 3) := by decide +kernel
theorem dX5_hasPages_19 : decode cX5_hasPages 19 = .ok (.iconst 1, 1) := by decide +kernel
theorem dX5_hasPages_20 : decode cX5_hasPages 20 = .ok (.goto 4, 3) := by decide +kernel
theorem dX5_hasPages_23 : decode cX5_hasPages 23 = .ok (.iconst 0, 1) := by decide +kernel
theorem dX5_hasPages_24 : decode cX5_hasPages 24 = .ok (.ireturn, 1) := by decide +kernel
theorem dX5_isTellable_0 : decode cX5_isTellable 0 = .ok (.aload_n 0, 1) := by decide +kernel
theorem dX5_isTellable_1 : decode cX5_isTellable 1 = .ok (.iload_n 1, 1) := by decide +kernel
theorem dX5_isTellable_2 : decode cX5_isTellable 2 = .ok (.invokevirtual 85, 3) := by decide +kernel
theorem dX5_isTellable_5 : decode cX5_isTellable 5 = .ok (.ifCond .eq 31, 3) := by decide +kernel
theorem dX5_isTellable_8 : decode cX5_isTellable 8 = .ok (.aload_n 0, 1) := by decide +kernel
theorem dX5_isTellable_9 : decode cX5_isTellable 9 = .ok (.getfield 11, 3) := by decide +kernel
theorem dX5_isTellable_12 : decode cX5_isTellable 12 = .ok (.iload_n 1, 1) := by decide +kernel
theorem dX5_isTellable_13 : decode cX5_isTellable 13 = .ok (.aaload, 1) := by decide +kernel
theorem dX5_isTellable_14 : decode cX5_isTellable 14 = .ok (.getfield 93, 3) := by decide +kernel
theorem dX5_isTellable_17 : decode cX5_isTellable 17 = .ok (.ifCond .le 19, 3) := by decide +kernel
theorem dX5_isTellable_20 : decode cX5_isTellable 20 = .ok (.iload_n 2, 1) := by decide +kernel
theorem dX5_isTellable_21 : decode cX5_isTellable 21 = .ok (.iconst (-1), 1) := by decide +kernel
theorem dX5_isTellable_22 : decode cX5_isTellable 22 = .ok (.if_icmp .eq 10, 3) := by decide +kernel
theorem dX5_isTellable_25 : decode cX5_isTellable 25 = .ok (.iload_n 2, 1) := by decide +kernel
theorem dX5_isTellable_26 : decode cX5_isTellable 26 = .ok (.invokestatic 129, 3) := by decide +kernel
theorem dX5_isTellable_29 : decode cX5_isTellable 29 = .ok (.ifCond .eq 7, 3) := by decide +kernel
theorem dX5_isTellable_32 : decode cX5_isTellable 32 = .ok (.iconst 1, 1) := by decide +kernel
theorem dX5_isTellable_33 : decode cX5_isTellable 33 = .ok (.goto 4, 3) := by decide +kernel
theorem dX5_isTellable_36 : decode cX5_isTellable 36 = .ok (.iconst 0, 1) := by decide +kernel
theorem dX5_isTellable_37 : decode cX5_isTellable 37 = .ok (.ireturn, 1) := by decide +kernel
theorem dX5_remake_0 : decode cX5_remake 0 = .ok (.iload_n 1, 1) := by decide +kernel
theorem dX5_remake_1 : decode cX5_remake 1 = .ok (.invokestatic 129, 3) := by decide +kernel
theorem dX5_remake_4 : decode cX5_remake 4 = .ok (.ifCond .eq 25, 3) := by decide +kernel
theorem dX5_remake_7 : decode cX5_remake 7 = .ok (.aload_n 0, 1) := by decide +kernel
theorem dX5_remake_8 : decode cX5_remake 8 = .ok (.getfield 35, 3) := by decide +kernel
theorem dX5_remake_11 : decode cX5_remake 11 = .ok (.aload_n 0, 1) := by decide +kernel
theorem dX5_remake_12 : decode cX5_remake 12 = .ok (.getfield 21, 3) := by decide +kernel
theorem dX5_remake_15 : decode cX5_remake 15 = .ok (.iload_n 1, 1) := by decide +kernel
theorem dX5_remake_16 : decode cX5_remake 16 = .ok (.aaload, 1) := by decide +kernel
theorem dX5_remake_17 : decode cX5_remake 17 = .ok (.iload_n 1, 1) := by decide +kernel
theorem dX5_remake_18 : decode cX5_remake 18 = .ok (.aload_n 0, 1) := by decide +kernel
theorem dX5_remake_19 : decode cX5_remake 19 = .ok (.getfield 11, 3) := by decide +kernel
theorem dX5_remake_22 : decode cX5_remake 22 = .ok (.aload_n 0, 1) := by decide +kernel
theorem dX5_remake_23 : decode cX5_remake 23 = .ok (.getfield 15, 3) := by decide +kernel
theorem dX5_remake_26 : decode cX5_remake 26 = .ok (.invokevirtual 210, 3) := by decide +kernel
theorem dX5_remake_29 : decode cX5_remake 29 = .ok (.return_, 1) := by decide +kernel
theorem dX5_forgetLayings_0 : decode cX5_forgetLayings 0 = .ok (.iconst 0, 1) := by decide +kernel
theorem dX5_forgetLayings_1 : decode cX5_forgetLayings 1 = .ok (.istore_n 1, 1) := by decide +kernel
theorem dX5_forgetLayings_2 : decode cX5_forgetLayings 2 = .ok (.iload_n 1, 1) := by decide +kernel
theorem dX5_forgetLayings_3 : decode cX5_forgetLayings 3 = .ok (.bipush 16, 2) := by decide +kernel
theorem dX5_forgetLayings_5 : decode cX5_forgetLayings 5 = .ok (.if_icmp .ge 14, 3) := by decide +kernel
theorem dX5_forgetLayings_8 : decode cX5_forgetLayings 8 = .ok (.aload_n 0, 1) := by decide +kernel
theorem dX5_forgetLayings_9 : decode cX5_forgetLayings 9 = .ok (.iload_n 1, 1) := by decide +kernel
theorem dX5_forgetLayings_10 : decode cX5_forgetLayings 10 = .ok (.invokevirtual 104, 3) := by decide +kernel
theorem dX5_forgetLayings_13 : decode cX5_forgetLayings 13 = .ok (.iinc 1 1, 3) := by decide +kernel
theorem dX5_forgetLayings_16 : decode cX5_forgetLayings 16 = .ok (.goto (-14), 3) := by decide +kernel
theorem dX5_forgetLayings_19 : decode cX5_forgetLayings 19 = .ok (.return_, 1) := by decide +kernel
theorem dX5_forgetPage_0 : decode cX5_forgetPage 0 = .ok (.iconst 0, 1) := by decide +kernel
theorem dX5_forgetPage_1 : decode cX5_forgetPage 1 = .ok (.istore_n 2, 1) := by decide +kernel
theorem dX5_forgetPage_2 : decode cX5_forgetPage 2 = .ok (.iload_n 2, 1) := by decide +kernel
theorem dX5_forgetPage_3 : decode cX5_forgetPage 3 = .ok (.iconst 5, 1) := by decide +kernel
theorem dX5_forgetPage_4 : decode cX5_forgetPage 4 = .ok (.if_icmp .ge 23, 3) := by decide +kernel
theorem dX5_forgetPage_7 : decode cX5_forgetPage 7 = .ok (.aload_n 0, 1) := by decide +kernel
theorem dX5_forgetPage_8 : decode cX5_forgetPage 8 = .ok (.getfield 21, 3) := by decide +kernel
theorem dX5_forgetPage_11 : decode cX5_forgetPage 11 = .ok (.iload_n 2, 1) := by decide +kernel
theorem dX5_forgetPage_12 : decode cX5_forgetPage 12 = .ok (.aaload, 1) := by decide +kernel
theorem dX5_forgetPage_13 : decode cX5_forgetPage 13 = .ok (.getfield 214, 3) := by decide +kernel
theorem dX5_forgetPage_16 : decode cX5_forgetPage 16 = .ok (.iload_n 1, 1) := by decide +kernel
theorem dX5_forgetPage_17 : decode cX5_forgetPage 17 = .ok (.ldc2_w 218, 3) := by decide +kernel
theorem dX5_forgetPage_20 : decode cX5_forgetPage 20 = .ok (.lastore, 1) := by decide +kernel
theorem dX5_forgetPage_21 : decode cX5_forgetPage 21 = .ok (.iinc 2 1, 3) := by decide +kernel
theorem dX5_forgetPage_24 : decode cX5_forgetPage 24 = .ok (.goto (-22), 3) := by decide +kernel
theorem dX5_forgetPage_27 : decode cX5_forgetPage 27 = .ok (.iconst 0, 1) := by decide +kernel
theorem dX5_forgetPage_28 : decode cX5_forgetPage 28 = .ok (.istore_n 2, 1) := by decide +kernel
theorem dX5_forgetPage_29 : decode cX5_forgetPage 29 = .ok (.iload_n 2, 1) := by decide +kernel
theorem dX5_forgetPage_30 : decode cX5_forgetPage 30 = .ok (.bipush 16, 2) := by decide +kernel
theorem dX5_forgetPage_32 : decode cX5_forgetPage 32 = .ok (.if_icmp .ge 33, 3) := by decide +kernel
theorem dX5_forgetPage_35 : decode cX5_forgetPage 35 = .ok (.aload_n 0, 1) := by decide +kernel
theorem dX5_forgetPage_36 : decode cX5_forgetPage 36 = .ok (.getfield 60, 3) := by decide +kernel
theorem dX5_forgetPage_39 : decode cX5_forgetPage 39 = .ok (.iload_n 1, 1) := by decide +kernel
theorem dX5_forgetPage_40 : decode cX5_forgetPage 40 = .ok (.bipush 16, 2) := by decide +kernel
theorem dX5_forgetPage_42 : decode cX5_forgetPage 42 = .ok (.imul, 1) := by decide +kernel
theorem dX5_forgetPage_43 : decode cX5_forgetPage 43 = .ok (.iload_n 2, 1) := by decide +kernel
theorem dX5_forgetPage_44 : decode cX5_forgetPage 44 = .ok (.iadd, 1) := by decide +kernel
theorem dX5_forgetPage_45 : decode cX5_forgetPage 45 = .ok (.iconst (-1), 1) := by decide +kernel
theorem dX5_forgetPage_46 : decode cX5_forgetPage 46 = .ok (.iastore, 1) := by decide +kernel
theorem dX5_forgetPage_47 : decode cX5_forgetPage 47 = .ok (.aload_n 0, 1) := by decide +kernel
theorem dX5_forgetPage_48 : decode cX5_forgetPage 48 = .ok (.getfield 60, 3) := by decide +kernel
theorem dX5_forgetPage_51 : decode cX5_forgetPage 51 = .ok (.iload_n 2, 1) := by decide +kernel
theorem dX5_forgetPage_52 : decode cX5_forgetPage 52 = .ok (.bipush 16, 2) := by decide +kernel
theorem dX5_forgetPage_54 : decode cX5_forgetPage 54 = .ok (.imul, 1) := by decide +kernel
theorem dX5_forgetPage_55 : decode cX5_forgetPage 55 = .ok (.iload_n 1, 1) := by decide +kernel
theorem dX5_forgetPage_56 : decode cX5_forgetPage 56 = .ok (.iadd, 1) := by decide +kernel
theorem dX5_forgetPage_57 : decode cX5_forgetPage 57 = .ok (.iconst (-1), 1) := by decide +kernel
theorem dX5_forgetPage_58 : decode cX5_forgetPage 58 = .ok (.iastore, 1) := by decide +kernel
theorem dX5_forgetPage_59 : decode cX5_forgetPage 59 = .ok (.iinc 2 1, 3) := by decide +kernel
theorem dX5_forgetPage_62 : decode cX5_forgetPage 62 = .ok (.goto (-33), 3) := by decide +kernel
theorem dX5_forgetPage_65 : decode cX5_forgetPage 65 = .ok (.return_, 1) := by decide +kernel
theorem dX5_laying_0 : decode cX5_laying 0 = .ok (.aload_n 2, 1) := by decide +kernel
theorem dX5_laying_1 : decode cX5_laying 1 = .ok (.getfield 214, 3) := by decide +kernel
theorem dX5_laying_4 : decode cX5_laying 4 = .ok (.iload_n 1, 1) := by decide +kernel
theorem dX5_laying_5 : decode cX5_laying 5 = .ok (.laload, 1) := by decide +kernel
theorem dX5_laying_6 : decode cX5_laying 6 = .ok (.ldc2_w 218, 3) := by decide +kernel
theorem dX5_laying_9 : decode cX5_laying 9 = .ok (.lcmp, 1) := by decide +kernel
theorem dX5_laying_10 : decode cX5_laying 10 = .ok (.ifCond .ne 26, 3) := by decide +kernel
theorem dX5_laying_13 : decode cX5_laying 13 = .ok (.aload_n 2, 1) := by decide +kernel
theorem dX5_laying_14 : decode cX5_laying 14 = .ok (.getfield 214, 3) := by decide +kernel
theorem dX5_laying_17 : decode cX5_laying 17 = .ok (.iload_n 1, 1) := by decide +kernel
theorem dX5_laying_18 : decode cX5_laying 18 = .ok (.aload_n 0, 1) := by decide +kernel
theorem dX5_laying_19 : decode cX5_laying 19 = .ok (.getfield 28, 3) := by decide +kernel
theorem dX5_laying_22 : decode cX5_laying 22 = .ok (.aload_n 0, 1) := by decide +kernel
theorem dX5_laying_23 : decode cX5_laying 23 = .ok (.getfield 11, 3) := by decide +kernel
theorem dX5_laying_26 : decode cX5_laying 26 = .ok (.iload_n 1, 1) := by decide +kernel
theorem dX5_laying_27 : decode cX5_laying 27 = .ok (.aaload, 1) := by decide +kernel
theorem dX5_laying_28 : decode cX5_laying 28 = .ok (.aload_n 2, 1) := by decide +kernel
theorem dX5_laying_29 : decode cX5_laying 29 = .ok (.getfield 133, 3) := by decide +kernel
theorem dX5_laying_32 : decode cX5_laying 32 = .ok (.invokevirtual 195, 3) := by decide +kernel
theorem dX5_laying_35 : decode cX5_laying 35 = .ok (.lastore, 1) := by decide +kernel
theorem dX5_laying_36 : decode cX5_laying 36 = .ok (.aload_n 2, 1) := by decide +kernel
theorem dX5_laying_37 : decode cX5_laying 37 = .ok (.getfield 214, 3) := by decide +kernel
theorem dX5_laying_40 : decode cX5_laying 40 = .ok (.iload_n 1, 1) := by decide +kernel
theorem dX5_laying_41 : decode cX5_laying 41 = .ok (.laload, 1) := by decide +kernel
theorem dX5_laying_42 : decode cX5_laying 42 = .ok (.lreturn, 1) := by decide +kernel
theorem dX5_costIn_0 : decode cX5_costIn 0 = .ok (.lload_n 0, 1) := by decide +kernel
theorem dX5_costIn_1 : decode cX5_costIn 1 = .ok (.ldc2_w 220, 3) := by decide +kernel
theorem dX5_costIn_4 : decode cX5_costIn 4 = .ok (.ldiv, 1) := by decide +kernel
theorem dX5_costIn_5 : decode cX5_costIn 5 = .ok (.l2i, 1) := by decide +kernel
theorem dX5_costIn_6 : decode cX5_costIn 6 = .ok (.ireturn, 1) := by decide +kernel
theorem dX5_moveIn_0 : decode cX5_moveIn 0 = .ok (.lload_n 0, 1) := by decide +kernel
theorem dX5_moveIn_1 : decode cX5_moveIn 1 = .ok (.ldc2_w 222, 3) := by decide +kernel
theorem dX5_moveIn_4 : decode cX5_moveIn 4 = .ok (.ldiv, 1) := by decide +kernel
theorem dX5_moveIn_5 : decode cX5_moveIn 5 = .ok (.ldc2_w 224, 3) := by decide +kernel
theorem dX5_moveIn_8 : decode cX5_moveIn 8 = .ok (.lrem, 1) := by decide +kernel
theorem dX5_moveIn_9 : decode cX5_moveIn 9 = .ok (.l2i, 1) := by decide +kernel
theorem dX5_moveIn_10 : decode cX5_moveIn 10 = .ok (.ireturn, 1) := by decide +kernel
theorem dX5_spotIn_0 : decode cX5_spotIn 0 = .ok (.lload_n 0, 1) := by decide +kernel
theorem dX5_spotIn_1 : decode cX5_spotIn 1 = .ok (.getstatic 226, 3) := by decide +kernel
theorem dX5_spotIn_4 : decode cX5_spotIn 4 = .ok (.iload_n 2, 1) := by decide +kernel
theorem dX5_spotIn_5 : decode cX5_spotIn 5 = .ok (.laload, 1) := by decide +kernel
theorem dX5_spotIn_6 : decode cX5_spotIn 6 = .ok (.ldiv, 1) := by decide +kernel
theorem dX5_spotIn_7 : decode cX5_spotIn 7 = .ok (.ldc2_w 229, 3) := by decide +kernel
theorem dX5_spotIn_10 : decode cX5_spotIn 10 = .ok (.lrem, 1) := by decide +kernel
theorem dX5_spotIn_11 : decode cX5_spotIn 11 = .ok (.l2i, 1) := by decide +kernel
theorem dX5_spotIn_12 : decode cX5_spotIn 12 = .ok (.istore_n 3, 1) := by decide +kernel
theorem dX5_spotIn_13 : decode cX5_spotIn 13 = .ok (.iload_n 3, 1) := by decide +kernel
theorem dX5_spotIn_14 : decode cX5_spotIn 14 = .ok (.bipush 16, 2) := by decide +kernel
theorem dX5_spotIn_16 : decode cX5_spotIn 16 = .ok (.if_icmp .ne 7, 3) := by decide +kernel
theorem dX5_spotIn_19 : decode cX5_spotIn 19 = .ok (.iconst (-1), 1) := by decide +kernel
theorem dX5_spotIn_20 : decode cX5_spotIn 20 = .ok (.goto 4, 3) := by decide +kernel
theorem dX5_spotIn_23 : decode cX5_spotIn 23 = .ok (.iload_n 3, 1) := by decide +kernel
theorem dX5_spotIn_24 : decode cX5_spotIn 24 = .ok (.ireturn, 1) := by decide +kernel
theorem dX5_acrossOf_0 : decode cX5_acrossOf 0 = .ok (.iload_n 0, 1) := by decide +kernel
theorem dX5_acrossOf_1 : decode cX5_acrossOf 1 = .ok (.bipush 7, 2) := by decide +kernel
theorem dX5_acrossOf_3 : decode cX5_acrossOf 3 = .ok (.idiv, 1) := by decide +kernel
theorem dX5_acrossOf_4 : decode cX5_acrossOf 4 = .ok (.iconst 3, 1) := by decide +kernel
theorem dX5_acrossOf_5 : decode cX5_acrossOf 5 = .ok (.isub, 1) := by decide +kernel
theorem dX5_acrossOf_6 : decode cX5_acrossOf 6 = .ok (.ireturn, 1) := by decide +kernel
theorem dX5_downOf_0 : decode cX5_downOf 0 = .ok (.iload_n 0, 1) := by decide +kernel
theorem dX5_downOf_1 : decode cX5_downOf 1 = .ok (.bipush 7, 2) := by decide +kernel
theorem dX5_downOf_3 : decode cX5_downOf 3 = .ok (.irem, 1) := by decide +kernel
theorem dX5_downOf_4 : decode cX5_downOf 4 = .ok (.iconst 3, 1) := by decide +kernel
theorem dX5_downOf_5 : decode cX5_downOf 5 = .ok (.isub, 1) := by decide +kernel
theorem dX5_downOf_6 : decode cX5_downOf 6 = .ok (.ireturn, 1) := by decide +kernel
theorem dX5_rank_0 : decode cX5_rank 0 = .ok (.aload_n 0, 1) := by decide +kernel
theorem dX5_rank_1 : decode cX5_rank 1 = .ok (.getfield 42, 3) := by decide +kernel
theorem dX5_rank_4 : decode cX5_rank 4 = .ok (.invokevirtual 231, 3) := by decide +kernel
theorem dX5_rank_7 : decode cX5_rank 7 = .ok (.iconst 0, 1) := by decide +kernel
theorem dX5_rank_8 : decode cX5_rank 8 = .ok (.istore_n 3, 1) := by decide +kernel
theorem dX5_rank_9 : decode cX5_rank 9 = .ok (.iload_n 3, 1) := by decide +kernel
theorem dX5_rank_10 : decode cX5_rank 10 = .ok (.iconst 5, 1) := by decide +kernel
theorem dX5_rank_11 : decode cX5_rank 11 = .ok (.if_icmp .ge 37, 3) := by decide +kernel
theorem dX5_rank_14 : decode cX5_rank 14 = .ok (.aload_n 2, 1) := by decide +kernel
theorem dX5_rank_15 : decode cX5_rank 15 = .ok (.iload_n 3, 1) := by decide +kernel
theorem dX5_rank_16 : decode cX5_rank 16 = .ok (.aaload, 1) := by decide +kernel
theorem dX5_rank_17 : decode cX5_rank 17 = .ok (.getfield 132, 3) := by decide +kernel
theorem dX5_rank_20 : decode cX5_rank 20 = .ok (.ifCond .le 22, 3) := by decide +kernel
theorem dX5_rank_23 : decode cX5_rank 23 = .ok (.aload_n 0, 1) := by decide +kernel
theorem dX5_rank_24 : decode cX5_rank 24 = .ok (.getfield 42, 3) := by decide +kernel
theorem dX5_rank_27 : decode cX5_rank 27 = .ok (.iload_n 3, 1) := by decide +kernel
theorem dX5_rank_28 : decode cX5_rank 28 = .ok (.aload_n 0, 1) := by decide +kernel
theorem dX5_rank_29 : decode cX5_rank 29 = .ok (.iload_n 1, 1) := by decide +kernel
theorem dX5_rank_30 : decode cX5_rank 30 = .ok (.aload_n 2, 1) := by decide +kernel
theorem dX5_rank_31 : decode cX5_rank 31 = .ok (.iload_n 3, 1) := by decide +kernel
theorem dX5_rank_32 : decode cX5_rank 32 = .ok (.aaload, 1) := by decide +kernel
theorem dX5_rank_33 : decode cX5_rank 33 = .ok (.invokevirtual 153, 3) := by decide +kernel
theorem dX5_rank_36 : decode cX5_rank 36 = .ok (.invokestatic 157, 3) := by decide +kernel
theorem dX5_rank_39 : decode cX5_rank 39 = .ok (.invokevirtual 234, 3) := by decide +kernel
theorem dX5_rank_42 : decode cX5_rank 42 = .ok (.iinc 3 1, 3) := by decide +kernel
theorem dX5_rank_45 : decode cX5_rank 45 = .ok (.goto (-36), 3) := by decide +kernel
theorem dX5_rank_48 : decode cX5_rank 48 = .ok (.aload_n 0, 1) := by decide +kernel
theorem dX5_rank_49 : decode cX5_rank 49 = .ok (.getfield 42, 3) := by decide +kernel
theorem dX5_rank_52 : decode cX5_rank 52 = .ok (.aload_n 0, 1) := by decide +kernel
theorem dX5_rank_53 : decode cX5_rank 53 = .ok (.getfield 70, 3) := by decide +kernel
theorem dX5_rank_56 : decode cX5_rank 56 = .ok (.aload_n 0, 1) := by decide +kernel
theorem dX5_rank_57 : decode cX5_rank 57 = .ok (.getfield 73, 3) := by decide +kernel
theorem dX5_rank_60 : decode cX5_rank 60 = .ok (.invokevirtual 237, 3) := by decide +kernel
theorem dX5_rank_63 : decode cX5_rank 63 = .ok (.ireturn, 1) := by decide +kernel
theorem dX5_findHeaps_0 : decode cX5_findHeaps 0 = .ok (.iconst 0, 1) := by decide +kernel
theorem dX5_findHeaps_1 : decode cX5_findHeaps 1 = .ok (.istore_n 1, 1) := by decide +kernel
theorem dX5_findHeaps_2 : decode cX5_findHeaps 2 = .ok (.iload_n 1, 1) := by decide +kernel
theorem dX5_findHeaps_3 : decode cX5_findHeaps 3 = .ok (.aload_n 0, 1) := by decide +kernel
theorem dX5_findHeaps_4 : decode cX5_findHeaps 4 = .ok (.getfield 66, 3) := by decide +kernel
theorem dX5_findHeaps_7 : decode cX5_findHeaps 7 = .ok (.if_icmp .ge 54, 3) := by decide +kernel
theorem dX5_findHeaps_10 : decode cX5_findHeaps 10 = .ok (.aload_n 0, 1) := by decide +kernel
theorem dX5_findHeaps_11 : decode cX5_findHeaps 11 = .ok (.getfield 15, 3) := by decide +kernel
theorem dX5_findHeaps_14 : decode cX5_findHeaps 14 = .ok (.iload_n 1, 1) := by decide +kernel
theorem dX5_findHeaps_15 : decode cX5_findHeaps 15 = .ok (.iaload, 1) := by decide +kernel
theorem dX5_findHeaps_16 : decode cX5_findHeaps 16 = .ok (.iconst (-1), 1) := by decide +kernel
theorem dX5_findHeaps_17 : decode cX5_findHeaps 17 = .ok (.if_icmp .ne 21, 3) := by decide +kernel
theorem dX5_findHeaps_20 : decode cX5_findHeaps 20 = .ok (.aload_n 0, 1) := by decide +kernel
theorem dX5_findHeaps_21 : decode cX5_findHeaps 21 = .ok (.iload_n 1, 1) := by decide +kernel
theorem dX5_findHeaps_22 : decode cX5_findHeaps 22 = .ok (.aload_n 0, 1) := by decide +kernel
theorem dX5_findHeaps_23 : decode cX5_findHeaps 23 = .ok (.getfield 21, 3) := by decide +kernel
theorem dX5_findHeaps_26 : decode cX5_findHeaps 26 = .ok (.invokevirtual 174, 3) := by decide +kernel
theorem dX5_findHeaps_29 : decode cX5_findHeaps 29 = .ok (.bipush 10, 2) := by decide +kernel
theorem dX5_findHeaps_31 : decode cX5_findHeaps 31 = .ok (.if_icmp .ne 7, 3) := by decide +kernel
theorem dX5_findHeaps_34 : decode cX5_findHeaps 34 = .ok (.iconst 1, 1) := by decide +kernel
theorem dX5_findHeaps_35 : decode cX5_findHeaps 35 = .ok (.goto 4, 3) := by decide +kernel
theorem dX5_findHeaps_38 : decode cX5_findHeaps 38 = .ok (.iconst 0, 1) := by decide +kernel
theorem dX5_findHeaps_39 : decode cX5_findHeaps 39 = .ok (.istore_n 2, 1) := by decide +kernel
theorem dX5_findHeaps_40 : decode cX5_findHeaps 40 = .ok (.aload_n 0, 1) := by decide +kernel
theorem dX5_findHeaps_41 : decode cX5_findHeaps 41 = .ok (.getfield 63, 3) := by decide +kernel
theorem dX5_findHeaps_44 : decode cX5_findHeaps 44 = .ok (.iload_n 1, 1) := by decide +kernel
theorem dX5_findHeaps_45 : decode cX5_findHeaps 45 = .ok (.iload_n 2, 1) := by decide +kernel
theorem dX5_findHeaps_46 : decode cX5_findHeaps 46 = .ok (.ifCond .eq 7, 3) := by decide +kernel
theorem dX5_findHeaps_49 : decode cX5_findHeaps 49 = .ok (.iload_n 1, 1) := by decide +kernel
theorem dX5_findHeaps_50 : decode cX5_findHeaps 50 = .ok (.goto 4, 3) := by decide +kernel
theorem dX5_findHeaps_53 : decode cX5_findHeaps 53 = .ok (.iconst (-1), 1) := by decide +kernel
theorem dX5_findHeaps_54 : decode cX5_findHeaps 54 = .ok (.iastore, 1) := by decide +kernel
theorem dX5_findHeaps_55 : decode cX5_findHeaps 55 = .ok (.iinc 1 1, 3) := by decide +kernel
theorem dX5_findHeaps_58 : decode cX5_findHeaps 58 = .ok (.goto (-56), 3) := by decide +kernel
theorem dX5_findHeaps_61 : decode cX5_findHeaps 61 = .ok (.iconst 0, 1) := by decide +kernel
theorem dX5_findHeaps_62 : decode cX5_findHeaps 62 = .ok (.istore_n 1, 1) := by decide +kernel
theorem dX5_findHeaps_63 : decode cX5_findHeaps 63 = .ok (.iload_n 1, 1) := by decide +kernel
theorem dX5_findHeaps_64 : decode cX5_findHeaps 64 = .ok (.aload_n 0, 1) := by decide +kernel
theorem dX5_findHeaps_65 : decode cX5_findHeaps 65 = .ok (.getfield 66, 3) := by decide +kernel
theorem dX5_findHeaps_68 : decode cX5_findHeaps 68 = .ok (.if_icmp .ge 91, 3) := by decide +kernel
theorem dX5_findHeaps_71 : decode cX5_findHeaps 71 = .ok (.iload_n 1, 1) := by decide +kernel
theorem dX5_findHeaps_72 : decode cX5_findHeaps 72 = .ok (.iconst 1, 1) := by decide +kernel
theorem dX5_findHeaps_73 : decode cX5_findHeaps 73 = .ok (.iadd, 1) := by decide +kernel
theorem dX5_findHeaps_74 : decode cX5_findHeaps 74 = .ok (.istore_n 2, 1) := by decide +kernel
theorem dX5_findHeaps_75 : decode cX5_findHeaps 75 = .ok (.iload_n 2, 1) := by decide +kernel
theorem dX5_findHeaps_76 : decode cX5_findHeaps 76 = .ok (.aload_n 0, 1) := by decide +kernel
theorem dX5_findHeaps_77 : decode cX5_findHeaps 77 = .ok (.getfield 66, 3) := by decide +kernel
theorem dX5_findHeaps_80 : decode cX5_findHeaps 80 = .ok (.if_icmp .ge 73, 3) := by decide +kernel
theorem dX5_findHeaps_83 : decode cX5_findHeaps 83 = .ok (.aload_n 0, 1) := by decide +kernel
theorem dX5_findHeaps_84 : decode cX5_findHeaps 84 = .ok (.getfield 63, 3) := by decide +kernel
theorem dX5_findHeaps_87 : decode cX5_findHeaps 87 = .ok (.iload_n 1, 1) := by decide +kernel
theorem dX5_findHeaps_88 : decode cX5_findHeaps 88 = .ok (.iaload, 1) := by decide +kernel
theorem dX5_findHeaps_89 : decode cX5_findHeaps 89 = .ok (.iconst (-1), 1) := by decide +kernel
theorem dX5_findHeaps_90 : decode cX5_findHeaps 90 = .ok (.if_icmp .eq 57, 3) := by decide +kernel
theorem dX5_findHeaps_93 : decode cX5_findHeaps 93 = .ok (.aload_n 0, 1) := by decide +kernel
theorem dX5_findHeaps_94 : decode cX5_findHeaps 94 = .ok (.getfield 63, 3) := by decide +kernel
theorem dX5_findHeaps_97 : decode cX5_findHeaps 97 = .ok (.iload_n 2, 1) := by decide +kernel
theorem dX5_findHeaps_98 : decode cX5_findHeaps 98 = .ok (.iaload, 1) := by decide +kernel
theorem dX5_findHeaps_99 : decode cX5_findHeaps 99 = .ok (.iconst (-1), 1) := by decide +kernel
theorem dX5_findHeaps_100 : decode cX5_findHeaps 100 = .ok (.if_icmp .eq 47, 3) := by decide +kernel
theorem dX5_findHeaps_103 : decode cX5_findHeaps 103 = .ok (.aload_n 0, 1) := by decide +kernel
theorem dX5_findHeaps_104 : decode cX5_findHeaps 104 = .ok (.getfield 63, 3) := by decide +kernel
theorem dX5_findHeaps_107 : decode cX5_findHeaps 107 = .ok (.iload_n 1, 1) := by decide +kernel
theorem dX5_findHeaps_108 : decode cX5_findHeaps 108 = .ok (.iaload, 1) := by decide +kernel
theorem dX5_findHeaps_109 : decode cX5_findHeaps 109 = .ok (.aload_n 0, 1) := by decide +kernel
theorem dX5_findHeaps_110 : decode cX5_findHeaps 110 = .ok (.getfield 63, 3) := by decide +kernel
theorem dX5_findHeaps_113 : decode cX5_findHeaps 113 = .ok (.iload_n 2, 1) := by decide +kernel
theorem dX5_findHeaps_114 : decode cX5_findHeaps 114 = .ok (.iaload, 1) := by decide +kernel
theorem dX5_findHeaps_115 : decode cX5_findHeaps 115 = .ok (.if_icmp .eq 32, 3) := by decide +kernel
theorem dX5_findHeaps_118 : decode cX5_findHeaps 118 = .ok (.aload_n 0, 1) := by decide +kernel
theorem dX5_findHeaps_119 : decode cX5_findHeaps 119 = .ok (.iload_n 1, 1) := by decide +kernel
theorem dX5_findHeaps_120 : decode cX5_findHeaps 120 = .ok (.iload_n 2, 1) := by decide +kernel
theorem dX5_findHeaps_121 : decode cX5_findHeaps 121 = .ok (.invokevirtual 240, 3) := by decide +kernel
theorem dX5_findHeaps_124 : decode cX5_findHeaps 124 = .ok (.aload_n 0, 1) := by decide +kernel
theorem dX5_findHeaps_125 : decode cX5_findHeaps 125 = .ok (.getfield 76, 3) := by decide +kernel
theorem dX5_findHeaps_128 : decode cX5_findHeaps 128 = .ok (.if_icmp .gt 19, 3) := by decide +kernel
theorem dX5_findHeaps_131 : decode cX5_findHeaps 131 = .ok (.aload_n 0, 1) := by decide +kernel
theorem dX5_findHeaps_132 : decode cX5_findHeaps 132 = .ok (.aload_n 0, 1) := by decide +kernel
theorem dX5_findHeaps_133 : decode cX5_findHeaps 133 = .ok (.getfield 63, 3) := by decide +kernel
theorem dX5_findHeaps_136 : decode cX5_findHeaps 136 = .ok (.iload_n 1, 1) := by decide +kernel
theorem dX5_findHeaps_137 : decode cX5_findHeaps 137 = .ok (.iaload, 1) := by decide +kernel
theorem dX5_findHeaps_138 : decode cX5_findHeaps 138 = .ok (.aload_n 0, 1) := by decide +kernel
theorem dX5_findHeaps_139 : decode cX5_findHeaps 139 = .ok (.getfield 63, 3) := by decide +kernel
theorem dX5_findHeaps_142 : decode cX5_findHeaps 142 = .ok (.iload_n 2, 1) := by decide +kernel
theorem dX5_findHeaps_143 : decode cX5_findHeaps 143 = .ok (.iaload, 1) := by decide +kernel
theorem dX5_findHeaps_144 : decode cX5_findHeaps 144 = .ok (.invokevirtual 243, 3) := by decide +kernel
theorem dX5_findHeaps_147 : decode cX5_findHeaps 147 = .ok (.iinc 2 1, 3) := by decide +kernel
theorem dX5_findHeaps_150 : decode cX5_findHeaps 150 = .ok (.goto (-75), 3) := by decide +kernel
theorem dX5_findHeaps_153 : decode cX5_findHeaps 153 = .ok (.iinc 1 1, 3) := by decide +kernel
theorem dX5_findHeaps_156 : decode cX5_findHeaps 156 = .ok (.goto (-93), 3) := by decide +kernel
theorem dX5_findHeaps_159 : decode cX5_findHeaps 159 = .ok (.return_, 1) := by decide +kernel
theorem dX5_joinHeaps_0 : decode cX5_joinHeaps 0 = .ok (.iload_n 1, 1) := by decide +kernel
theorem dX5_joinHeaps_1 : decode cX5_joinHeaps 1 = .ok (.iload_n 2, 1) := by decide +kernel
theorem dX5_joinHeaps_2 : decode cX5_joinHeaps 2 = .ok (.invokestatic 186, 3) := by decide +kernel
theorem dX5_joinHeaps_5 : decode cX5_joinHeaps 5 = .ok (.istore_n 3, 1) := by decide +kernel
theorem dX5_joinHeaps_6 : decode cX5_joinHeaps 6 = .ok (.iload_n 1, 1) := by decide +kernel
theorem dX5_joinHeaps_7 : decode cX5_joinHeaps 7 = .ok (.iload_n 2, 1) := by decide +kernel
theorem dX5_joinHeaps_8 : decode cX5_joinHeaps 8 = .ok (.invokestatic 192, 3) := by decide +kernel
theorem dX5_joinHeaps_11 : decode cX5_joinHeaps 11 = .ok (.istore 4, 2) := by decide +kernel
theorem dX5_joinHeaps_13 : decode cX5_joinHeaps 13 = .ok (.iconst 0, 1) := by decide +kernel
theorem dX5_joinHeaps_14 : decode cX5_joinHeaps 14 = .ok (.istore 5, 2) := by decide +kernel
theorem dX5_joinHeaps_16 : decode cX5_joinHeaps 16 = .ok (.iload 5, 2) := by decide +kernel
theorem dX5_joinHeaps_18 : decode cX5_joinHeaps 18 = .ok (.aload_n 0, 1) := by decide +kernel
theorem dX5_joinHeaps_19 : decode cX5_joinHeaps 19 = .ok (.getfield 66, 3) := by decide +kernel
theorem dX5_joinHeaps_22 : decode cX5_joinHeaps 22 = .ok (.if_icmp .ge 29, 3) := by decide +kernel
theorem dX5_joinHeaps_25 : decode cX5_joinHeaps 25 = .ok (.aload_n 0, 1) := by decide +kernel
theorem dX5_joinHeaps_26 : decode cX5_joinHeaps 26 = .ok (.getfield 63, 3) := by decide +kernel
theorem dX5_joinHeaps_29 : decode cX5_joinHeaps 29 = .ok (.iload 5, 2) := by decide +kernel
theorem dX5_joinHeaps_31 : decode cX5_joinHeaps 31 = .ok (.iaload, 1) := by decide +kernel
theorem dX5_joinHeaps_32 : decode cX5_joinHeaps 32 = .ok (.iload 4, 2) := by decide +kernel
theorem dX5_joinHeaps_34 : decode cX5_joinHeaps 34 = .ok (.if_icmp .ne 11, 3) := by decide +kernel
theorem dX5_joinHeaps_37 : decode cX5_joinHeaps 37 = .ok (.aload_n 0, 1) := by decide +kernel
theorem dX5_joinHeaps_38 : decode cX5_joinHeaps 38 = .ok (.getfield 63, 3) := by decide +kernel
theorem dX5_joinHeaps_41 : decode cX5_joinHeaps 41 = .ok (.iload 5, 2) := by decide +kernel
theorem dX5_joinHeaps_43 : decode cX5_joinHeaps 43 = .ok (.iload_n 3, 1) := by decide +kernel
theorem dX5_joinHeaps_44 : decode cX5_joinHeaps 44 = .ok (.iastore, 1) := by decide +kernel
theorem dX5_joinHeaps_45 : decode cX5_joinHeaps 45 = .ok (.iinc 5 1, 3) := by decide +kernel
theorem dX5_joinHeaps_48 : decode cX5_joinHeaps 48 = .ok (.goto (-32), 3) := by decide +kernel
theorem dX5_joinHeaps_51 : decode cX5_joinHeaps 51 = .ok (.return_, 1) := by decide +kernel
theorem dX5_nearCost_0 : decode cX5_nearCost 0 = .ok (.iload_n 1, 1) := by decide +kernel
theorem dX5_nearCost_1 : decode cX5_nearCost 1 = .ok (.bipush 16, 2) := by decide +kernel
theorem dX5_nearCost_3 : decode cX5_nearCost 3 = .ok (.imul, 1) := by decide +kernel
theorem dX5_nearCost_4 : decode cX5_nearCost 4 = .ok (.iload_n 2, 1) := by decide +kernel
theorem dX5_nearCost_5 : decode cX5_nearCost 5 = .ok (.iadd, 1) := by decide +kernel
theorem dX5_nearCost_6 : decode cX5_nearCost 6 = .ok (.istore_n 3, 1) := by decide +kernel
theorem dX5_nearCost_7 : decode cX5_nearCost 7 = .ok (.aload_n 0, 1) := by decide +kernel
theorem dX5_nearCost_8 : decode cX5_nearCost 8 = .ok (.getfield 60, 3) := by decide +kernel
theorem dX5_nearCost_11 : decode cX5_nearCost 11 = .ok (.iload_n 3, 1) := by decide +kernel
theorem dX5_nearCost_12 : decode cX5_nearCost 12 = .ok (.iaload, 1) := by decide +kernel
theorem dX5_nearCost_13 : decode cX5_nearCost 13 = .ok (.iconst (-1), 1) := by decide +kernel
theorem dX5_nearCost_14 : decode cX5_nearCost 14 = .ok (.if_icmp .ne 31, 3) := by decide +kernel
theorem dX5_nearCost_17 : decode cX5_nearCost 17 = .ok (.aload_n 0, 1) := by decide +kernel
theorem dX5_nearCost_18 : decode cX5_nearCost 18 = .ok (.getfield 60, 3) := by decide +kernel
theorem dX5_nearCost_21 : decode cX5_nearCost 21 = .ok (.iload_n 3, 1) := by decide +kernel
theorem dX5_nearCost_22 : decode cX5_nearCost 22 = .ok (.aload_n 0, 1) := by decide +kernel
theorem dX5_nearCost_23 : decode cX5_nearCost 23 = .ok (.getfield 28, 3) := by decide +kernel
theorem dX5_nearCost_26 : decode cX5_nearCost 26 = .ok (.aload_n 0, 1) := by decide +kernel
theorem dX5_nearCost_27 : decode cX5_nearCost 27 = .ok (.getfield 11, 3) := by decide +kernel
theorem dX5_nearCost_30 : decode cX5_nearCost 30 = .ok (.iload_n 1, 1) := by decide +kernel
theorem dX5_nearCost_31 : decode cX5_nearCost 31 = .ok (.aaload, 1) := by decide +kernel
theorem dX5_nearCost_32 : decode cX5_nearCost 32 = .ok (.aload_n 0, 1) := by decide +kernel
theorem dX5_nearCost_33 : decode cX5_nearCost 33 = .ok (.getfield 11, 3) := by decide +kernel
theorem dX5_nearCost_36 : decode cX5_nearCost 36 = .ok (.iload_n 2, 1) := by decide +kernel
theorem dX5_nearCost_37 : decode cX5_nearCost 37 = .ok (.aaload, 1) := by decide +kernel
theorem dX5_nearCost_38 : decode cX5_nearCost 38 = .ok (.invokevirtual 195, 3) := by decide +kernel
theorem dX5_nearCost_41 : decode cX5_nearCost 41 = .ok (.invokestatic 157, 3) := by decide +kernel
theorem dX5_nearCost_44 : decode cX5_nearCost 44 = .ok (.iastore, 1) := by decide +kernel
theorem dX5_nearCost_45 : decode cX5_nearCost 45 = .ok (.aload_n 0, 1) := by decide +kernel
theorem dX5_nearCost_46 : decode cX5_nearCost 46 = .ok (.getfield 60, 3) := by decide +kernel
theorem dX5_nearCost_49 : decode cX5_nearCost 49 = .ok (.iload_n 3, 1) := by decide +kernel
theorem dX5_nearCost_50 : decode cX5_nearCost 50 = .ok (.iaload, 1) := by decide +kernel
theorem dX5_nearCost_51 : decode cX5_nearCost 51 = .ok (.ireturn, 1) := by decide +kernel
theorem dX5_codeApart_0 : decode cX5_codeApart 0 = .ok (.iconst (-1), 1) := by decide +kernel
theorem dX5_codeApart_1 : decode cX5_codeApart 1 = .ok (.istore_n 2, 1) := by decide +kernel
theorem dX5_codeApart_2 : decode cX5_codeApart 2 = .ok (.iconst 1, 1) := by decide +kernel
theorem dX5_codeApart_3 : decode cX5_codeApart 3 = .ok (.istore_n 3, 1) := by decide +kernel
theorem dX5_codeApart_4 : decode cX5_codeApart 4 = .ok (.iload_n 3, 1) := by decide +kernel
theorem dX5_codeApart_5 : decode cX5_codeApart 5 = .ok (.bipush 99, 2) := by decide +kernel
theorem dX5_codeApart_7 : decode cX5_codeApart 7 = .ok (.if_icmp .gt 97, 3) := by decide +kernel
theorem dX5_codeApart_10 : decode cX5_codeApart 10 = .ok (.aload_n 0, 1) := by decide +kernel
theorem dX5_codeApart_11 : decode cX5_codeApart 11 = .ok (.iload_n 3, 1) := by decide +kernel
theorem dX5_codeApart_12 : decode cX5_codeApart 12 = .ok (.invokevirtual 96, 3) := by decide +kernel
theorem dX5_codeApart_15 : decode cX5_codeApart 15 = .ok (.istore 4, 2) := by decide +kernel
theorem dX5_codeApart_17 : decode cX5_codeApart 17 = .ok (.aload_n 1, 1) := by decide +kernel
theorem dX5_codeApart_18 : decode cX5_codeApart 18 = .ok (.iload_n 3, 1) := by decide +kernel
theorem dX5_codeApart_19 : decode cX5_codeApart 19 = .ok (.invokevirtual 96, 3) := by decide +kernel
theorem dX5_codeApart_22 : decode cX5_codeApart 22 = .ok (.istore 5, 2) := by decide +kernel
theorem dX5_codeApart_24 : decode cX5_codeApart 24 = .ok (.iload 4, 2) := by decide +kernel
theorem dX5_codeApart_26 : decode cX5_codeApart 26 = .ok (.iconst (-1), 1) := by decide +kernel
theorem dX5_codeApart_27 : decode cX5_codeApart 27 = .ok (.if_icmp .ne 7, 3) := by decide +kernel
theorem dX5_codeApart_30 : decode cX5_codeApart 30 = .ok (.iconst 1, 1) := by decide +kernel
theorem dX5_codeApart_31 : decode cX5_codeApart 31 = .ok (.goto 4, 3) := by decide +kernel
theorem dX5_codeApart_34 : decode cX5_codeApart 34 = .ok (.iconst 0, 1) := by decide +kernel
theorem dX5_codeApart_35 : decode cX5_codeApart 35 = .ok (.iload 5, 2) := by decide +kernel
theorem dX5_codeApart_37 : decode cX5_codeApart 37 = .ok (.iconst (-1), 1) := by decide +kernel
theorem dX5_codeApart_38 : decode cX5_codeApart 38 = .ok (.if_icmp .ne 7, 3) := by decide +kernel
theorem dX5_codeApart_41 : decode cX5_codeApart 41 = .ok (.iconst 1, 1) := by decide +kernel
theorem dX5_codeApart_42 : decode cX5_codeApart 42 = .ok (.goto 4, 3) := by decide +kernel
theorem dX5_codeApart_45 : decode cX5_codeApart 45 = .ok (.iconst 0, 1) := by decide +kernel
theorem dX5_codeApart_46 : decode cX5_codeApart 46 = .ok (.if_icmp .eq 5, 3) := by decide +kernel
theorem dX5_codeApart_49 : decode cX5_codeApart 49 = .ok (.iload_n 3, 1) := by decide +kernel
theorem dX5_codeApart_50 : decode cX5_codeApart 50 = .ok (.ireturn, 1) := by decide +kernel
theorem dX5_codeApart_51 : decode cX5_codeApart 51 = .ok (.iload_n 2, 1) := by decide +kernel
theorem dX5_codeApart_52 : decode cX5_codeApart 52 = .ok (.iconst (-1), 1) := by decide +kernel
theorem dX5_codeApart_53 : decode cX5_codeApart 53 = .ok (.if_icmp .ne 45, 3) := by decide +kernel
theorem dX5_codeApart_56 : decode cX5_codeApart 56 = .ok (.iload 4, 2) := by decide +kernel
theorem dX5_codeApart_58 : decode cX5_codeApart 58 = .ok (.iconst (-1), 1) := by decide +kernel
theorem dX5_codeApart_59 : decode cX5_codeApart 59 = .ok (.if_icmp .eq 39, 3) := by decide +kernel
theorem dX5_codeApart_62 : decode cX5_codeApart 62 = .ok (.aload_n 0, 1) := by decide +kernel
theorem dX5_codeApart_63 : decode cX5_codeApart 63 = .ok (.getfield 140, 3) := by decide +kernel
theorem dX5_codeApart_66 : decode cX5_codeApart 66 = .ok (.iload 4, 2) := by decide +kernel
theorem dX5_codeApart_68 : decode cX5_codeApart 68 = .ok (.iaload, 1) := by decide +kernel
theorem dX5_codeApart_69 : decode cX5_codeApart 69 = .ok (.aload_n 1, 1) := by decide +kernel
theorem dX5_codeApart_70 : decode cX5_codeApart 70 = .ok (.getfield 140, 3) := by decide +kernel
theorem dX5_codeApart_73 : decode cX5_codeApart 73 = .ok (.iload 5, 2) := by decide +kernel
theorem dX5_codeApart_75 : decode cX5_codeApart 75 = .ok (.iaload, 1) := by decide +kernel
theorem dX5_codeApart_76 : decode cX5_codeApart 76 = .ok (.if_icmp .ne 20, 3) := by decide +kernel
theorem dX5_codeApart_79 : decode cX5_codeApart 79 = .ok (.aload_n 0, 1) := by decide +kernel
theorem dX5_codeApart_80 : decode cX5_codeApart 80 = .ok (.getfield 143, 3) := by decide +kernel
theorem dX5_codeApart_83 : decode cX5_codeApart 83 = .ok (.iload 4, 2) := by decide +kernel
theorem dX5_codeApart_85 : decode cX5_codeApart 85 = .ok (.iaload, 1) := by decide +kernel
theorem dX5_codeApart_86 : decode cX5_codeApart 86 = .ok (.aload_n 1, 1) := by decide +kernel
theorem dX5_codeApart_87 : decode cX5_codeApart 87 = .ok (.getfield 143, 3) := by decide +kernel
theorem dX5_codeApart_90 : decode cX5_codeApart 90 = .ok (.iload 5, 2) := by decide +kernel
theorem dX5_codeApart_92 : decode cX5_codeApart 92 = .ok (.iaload, 1) := by decide +kernel
theorem dX5_codeApart_93 : decode cX5_codeApart 93 = .ok (.if_icmp .eq 5, 3) := by decide +kernel
theorem dX5_codeApart_96 : decode cX5_codeApart 96 = .ok (.iload_n 3, 1) := by decide +kernel
theorem dX5_codeApart_97 : decode cX5_codeApart 97 = .ok (.istore_n 2, 1) := by decide +kernel
theorem dX5_codeApart_98 : decode cX5_codeApart 98 = .ok (.iinc 3 1, 3) := by decide +kernel
theorem dX5_codeApart_101 : decode cX5_codeApart 101 = .ok (.goto (-97), 3) := by decide +kernel
theorem dX5_codeApart_104 : decode cX5_codeApart 104 = .ok (.iload_n 2, 1) := by decide +kernel
theorem dX5_codeApart_105 : decode cX5_codeApart 105 = .ok (.ireturn, 1) := by decide +kernel
theorem dX5_tryTelling_0 : decode cX5_tryTelling 0 = .ok (.iconst 0, 1) := by decide +kernel
theorem dX5_tryTelling_1 : decode cX5_tryTelling 1 = .ok (.istore_n 3, 1) := by decide +kernel
theorem dX5_tryTelling_2 : decode cX5_tryTelling 2 = .ok (.iload_n 3, 1) := by decide +kernel
theorem dX5_tryTelling_3 : decode cX5_tryTelling 3 = .ok (.bipush 16, 2) := by decide +kernel
theorem dX5_tryTelling_5 : decode cX5_tryTelling 5 = .ok (.if_icmp .ge 21, 3) := by decide +kernel
theorem dX5_tryTelling_8 : decode cX5_tryTelling 8 = .ok (.aload_n 0, 1) := by decide +kernel
theorem dX5_tryTelling_9 : decode cX5_tryTelling 9 = .ok (.getfield 46, 3) := by decide +kernel
theorem dX5_tryTelling_12 : decode cX5_tryTelling 12 = .ok (.iload_n 3, 1) := by decide +kernel
theorem dX5_tryTelling_13 : decode cX5_tryTelling 13 = .ok (.aload_n 0, 1) := by decide +kernel
theorem dX5_tryTelling_14 : decode cX5_tryTelling 14 = .ok (.getfield 15, 3) := by decide +kernel
theorem dX5_tryTelling_17 : decode cX5_tryTelling 17 = .ok (.iload_n 3, 1) := by decide +kernel
theorem dX5_tryTelling_18 : decode cX5_tryTelling 18 = .ok (.iaload, 1) := by decide +kernel
theorem dX5_tryTelling_19 : decode cX5_tryTelling 19 = .ok (.iastore, 1) := by decide +kernel
theorem dX5_tryTelling_20 : decode cX5_tryTelling 20 = .ok (.iinc 3 1, 3) := by decide +kernel
theorem dX5_tryTelling_23 : decode cX5_tryTelling 23 = .ok (.goto (-21), 3) := by decide +kernel
theorem dX5_tryTelling_26 : decode cX5_tryTelling 26 = .ok (.aload_n 0, 1) := by decide +kernel
theorem dX5_tryTelling_27 : decode cX5_tryTelling 27 = .ok (.getfield 46, 3) := by decide +kernel
theorem dX5_tryTelling_30 : decode cX5_tryTelling 30 = .ok (.iload_n 1, 1) := by decide +kernel
theorem dX5_tryTelling_31 : decode cX5_tryTelling 31 = .ok (.iload_n 2, 1) := by decide +kernel
theorem dX5_tryTelling_32 : decode cX5_tryTelling 32 = .ok (.iastore, 1) := by decide +kernel
theorem dX5_tryTelling_33 : decode cX5_tryTelling 33 = .ok (.iconst 0, 1) := by decide +kernel
theorem dX5_tryTelling_34 : decode cX5_tryTelling 34 = .ok (.istore_n 3, 1) := by decide +kernel
theorem dX5_tryTelling_35 : decode cX5_tryTelling 35 = .ok (.iload_n 3, 1) := by decide +kernel
theorem dX5_tryTelling_36 : decode cX5_tryTelling 36 = .ok (.iconst 5, 1) := by decide +kernel
theorem dX5_tryTelling_37 : decode cX5_tryTelling 37 = .ok (.if_icmp .ge 21, 3) := by decide +kernel
theorem dX5_tryTelling_40 : decode cX5_tryTelling 40 = .ok (.aload_n 0, 1) := by decide +kernel
theorem dX5_tryTelling_41 : decode cX5_tryTelling 41 = .ok (.getfield 49, 3) := by decide +kernel
theorem dX5_tryTelling_44 : decode cX5_tryTelling 44 = .ok (.iload_n 3, 1) := by decide +kernel
theorem dX5_tryTelling_45 : decode cX5_tryTelling 45 = .ok (.aload_n 0, 1) := by decide +kernel
theorem dX5_tryTelling_46 : decode cX5_tryTelling 46 = .ok (.getfield 21, 3) := by decide +kernel
theorem dX5_tryTelling_49 : decode cX5_tryTelling 49 = .ok (.iload_n 3, 1) := by decide +kernel
theorem dX5_tryTelling_50 : decode cX5_tryTelling 50 = .ok (.aaload, 1) := by decide +kernel
theorem dX5_tryTelling_51 : decode cX5_tryTelling 51 = .ok (.aastore, 1) := by decide +kernel
theorem dX5_tryTelling_52 : decode cX5_tryTelling 52 = .ok (.iinc 3 1, 3) := by decide +kernel
theorem dX5_tryTelling_55 : decode cX5_tryTelling 55 = .ok (.goto (-20), 3) := by decide +kernel
theorem dX5_tryTelling_58 : decode cX5_tryTelling 58 = .ok (.aload_n 0, 1) := by decide +kernel
theorem dX5_tryTelling_59 : decode cX5_tryTelling 59 = .ok (.aload_n 0, 1) := by decide +kernel
theorem dX5_tryTelling_60 : decode cX5_tryTelling 60 = .ok (.getfield 53, 3) := by decide +kernel
theorem dX5_tryTelling_63 : decode cX5_tryTelling 63 = .ok (.aload_n 0, 1) := by decide +kernel
theorem dX5_tryTelling_64 : decode cX5_tryTelling 64 = .ok (.getfield 15, 3) := by decide +kernel
theorem dX5_tryTelling_67 : decode cX5_tryTelling 67 = .ok (.iload_n 1, 1) := by decide +kernel
theorem dX5_tryTelling_68 : decode cX5_tryTelling 68 = .ok (.iaload, 1) := by decide +kernel
theorem dX5_tryTelling_69 : decode cX5_tryTelling 69 = .ok (.invokevirtual 246, 3) := by decide +kernel
theorem dX5_tryTelling_72 : decode cX5_tryTelling 72 = .ok (.aload_n 0, 1) := by decide +kernel
theorem dX5_tryTelling_73 : decode cX5_tryTelling 73 = .ok (.aload_n 0, 1) := by decide +kernel
theorem dX5_tryTelling_74 : decode cX5_tryTelling 74 = .ok (.getfield 57, 3) := by decide +kernel
theorem dX5_tryTelling_77 : decode cX5_tryTelling 77 = .ok (.iload_n 2, 1) := by decide +kernel
theorem dX5_tryTelling_78 : decode cX5_tryTelling 78 = .ok (.invokevirtual 246, 3) := by decide +kernel
theorem dX5_tryTelling_81 : decode cX5_tryTelling 81 = .ok (.return_, 1) := by decide +kernel
theorem dX5_tryMaking_0 : decode cX5_tryMaking 0 = .ok (.iload_n 2, 1) := by decide +kernel
theorem dX5_tryMaking_1 : decode cX5_tryMaking 1 = .ok (.invokestatic 129, 3) := by decide +kernel
theorem dX5_tryMaking_4 : decode cX5_tryMaking 4 = .ok (.ifCond .eq 27, 3) := by decide +kernel
theorem dX5_tryMaking_7 : decode cX5_tryMaking 7 = .ok (.aload_n 0, 1) := by decide +kernel
theorem dX5_tryMaking_8 : decode cX5_tryMaking 8 = .ok (.getfield 35, 3) := by decide +kernel
theorem dX5_tryMaking_11 : decode cX5_tryMaking 11 = .ok (.aload_n 1, 1) := by decide +kernel
theorem dX5_tryMaking_12 : decode cX5_tryMaking 12 = .ok (.iload_n 2, 1) := by decide +kernel
theorem dX5_tryMaking_13 : decode cX5_tryMaking 13 = .ok (.aload_n 0, 1) := by decide +kernel
theorem dX5_tryMaking_14 : decode cX5_tryMaking 14 = .ok (.getfield 11, 3) := by decide +kernel
theorem dX5_tryMaking_17 : decode cX5_tryMaking 17 = .ok (.aload_n 0, 1) := by decide +kernel
theorem dX5_tryMaking_18 : decode cX5_tryMaking 18 = .ok (.getfield 46, 3) := by decide +kernel
theorem dX5_tryMaking_21 : decode cX5_tryMaking 21 = .ok (.invokevirtual 210, 3) := by decide +kernel
theorem dX5_tryMaking_24 : decode cX5_tryMaking 24 = .ok (.aload_n 0, 1) := by decide +kernel
theorem dX5_tryMaking_25 : decode cX5_tryMaking 25 = .ok (.getfield 49, 3) := by decide +kernel
theorem dX5_tryMaking_28 : decode cX5_tryMaking 28 = .ok (.iload_n 2, 1) := by decide +kernel
theorem dX5_tryMaking_29 : decode cX5_tryMaking 29 = .ok (.aload_n 1, 1) := by decide +kernel
theorem dX5_tryMaking_30 : decode cX5_tryMaking 30 = .ok (.aastore, 1) := by decide +kernel
theorem dX5_tryMaking_31 : decode cX5_tryMaking 31 = .ok (.return_, 1) := by decide +kernel
end
section
theorem dX6_init_0 : decode cX6_init 0 = .ok (.aload_n 0, 1) := by decide +kernel
theorem dX6_init_1 : decode cX6_init 1 = .ok (.invokespecial 1, 3) := by decide +kernel
theorem dX6_init_4 : decode cX6_init 4 = .ok (.aload_n 0, 1) := by decide +kernel
theorem dX6_init_5 : decode cX6_init 5 = .ok (.bipush 16, 2) := by decide +kernel
theorem dX6_init_7 : decode cX6_init 7 = .ok (.newarray .int, 2) := by decide +kernel
theorem dX6_init_9 : decode cX6_init 9 = .ok (.putfield 7, 3) := by decide +kernel
theorem dX6_init_12 : decode cX6_init 12 = .ok (.aload_n 0, 1) := by decide +kernel
theorem dX6_init_13 : decode cX6_init 13 = .ok (.sipush 128, 3) := by decide +kernel
theorem dX6_init_16 : decode cX6_init 16 = .ok (.newarray .int, 2) := by decide +kernel
theorem dX6_init_18 : decode cX6_init 18 = .ok (.putfield 13, 3) := by decide +kernel
theorem dX6_init_21 : decode cX6_init 21 = .ok (.aload_n 0, 1) := by decide +kernel
theorem dX6_init_22 : decode cX6_init 22 = .ok (.sipush 128, 3) := by decide +kernel
theorem dX6_init_25 : decode cX6_init 25 = .ok (.newarray .int, 2) := by decide +kernel
theorem dX6_init_27 : decode cX6_init 27 = .ok (.putfield 16, 3) := by decide +kernel
theorem dX6_init_30 : decode cX6_init 30 = .ok (.aload_n 0, 1) := by decide +kernel
theorem dX6_init_31 : decode cX6_init 31 = .ok (.sipush 128, 3) := by decide +kernel
theorem dX6_init_34 : decode cX6_init 34 = .ok (.newarray .int, 2) := by decide +kernel
theorem dX6_init_36 : decode cX6_init 36 = .ok (.putfield 19, 3) := by decide +kernel
theorem dX6_init_39 : decode cX6_init 39 = .ok (.aload_n 0, 1) := by decide +kernel
theorem dX6_init_40 : decode cX6_init 40 = .ok (.bipush 16, 2) := by decide +kernel
theorem dX6_init_42 : decode cX6_init 42 = .ok (.newarray .int, 2) := by decide +kernel
theorem dX6_init_44 : decode cX6_init 44 = .ok (.dup, 1) := by decide +kernel
theorem dX6_init_45 : decode cX6_init 45 = .ok (.iconst 0, 1) := by decide +kernel
theorem dX6_init_46 : decode cX6_init 46 = .ok (.iconst (-1), 1) := by decide +kernel
theorem dX6_init_47 : decode cX6_init 47 = .ok (.iastore, 1) := by decide +kernel
theorem dX6_init_48 : decode cX6_init 48 = .ok (.dup, 1) := by decide +kernel
theorem dX6_init_49 : decode cX6_init 49 = .ok (.iconst 1, 1) := by decide +kernel
theorem dX6_init_50 : decode cX6_init 50 = .ok (.iconst (-1), 1) := by decide +kernel
theorem dX6_init_51 : decode cX6_init 51 = .ok (.iastore, 1) := by decide +kernel
theorem dX6_init_52 : decode cX6_init 52 = .ok (.dup, 1) := by decide +kernel
theorem dX6_init_53 : decode cX6_init 53 = .ok (.iconst 2, 1) := by decide +kernel
theorem dX6_init_54 : decode cX6_init 54 = .ok (.iconst (-1), 1) := by decide +kernel
theorem dX6_init_55 : decode cX6_init 55 = .ok (.iastore, 1) := by decide +kernel
theorem dX6_init_56 : decode cX6_init 56 = .ok (.dup, 1) := by decide +kernel
theorem dX6_init_57 : decode cX6_init 57 = .ok (.iconst 3, 1) := by decide +kernel
theorem dX6_init_58 : decode cX6_init 58 = .ok (.iconst (-1), 1) := by decide +kernel
theorem dX6_init_59 : decode cX6_init 59 = .ok (.iastore, 1) := by decide +kernel
theorem dX6_init_60 : decode cX6_init 60 = .ok (.dup, 1) := by decide +kernel
theorem dX6_init_61 : decode cX6_init 61 = .ok (.iconst 4, 1) := by decide +kernel
theorem dX6_init_62 : decode cX6_init 62 = .ok (.iconst (-1), 1) := by decide +kernel
theorem dX6_init_63 : decode cX6_init 63 = .ok (.iastore, 1) := by decide +kernel
theorem dX6_init_64 : decode cX6_init 64 = .ok (.dup, 1) := by decide +kernel
theorem dX6_init_65 : decode cX6_init 65 = .ok (.iconst 5, 1) := by decide +kernel
theorem dX6_init_66 : decode cX6_init 66 = .ok (.iconst (-1), 1) := by decide +kernel
theorem dX6_init_67 : decode cX6_init 67 = .ok (.iastore, 1) := by decide +kernel
theorem dX6_init_68 : decode cX6_init 68 = .ok (.dup, 1) := by decide +kernel
theorem dX6_init_69 : decode cX6_init 69 = .ok (.bipush 6, 2) := by decide +kernel
theorem dX6_init_71 : decode cX6_init 71 = .ok (.iconst (-1), 1) := by decide +kernel
theorem dX6_init_72 : decode cX6_init 72 = .ok (.iastore, 1) := by decide +kernel
theorem dX6_init_73 : decode cX6_init 73 = .ok (.dup, 1) := by decide +kernel
theorem dX6_init_74 : decode cX6_init 74 = .ok (.bipush 7, 2) := by decide +kernel
theorem dX6_init_76 : decode cX6_init 76 = .ok (.iconst (-1), 1) := by decide +kernel
theorem dX6_init_77 : decode cX6_init 77 = .ok (.iastore, 1) := by decide +kernel
theorem dX6_init_78 : decode cX6_init 78 = .ok (.dup, 1) := by decide +kernel
theorem dX6_init_79 : decode cX6_init 79 = .ok (.bipush 8, 2) := by decide +kernel
theorem dX6_init_81 : decode cX6_init 81 = .ok (.iconst (-1), 1) := by decide +kernel
theorem dX6_init_82 : decode cX6_init 82 = .ok (.iastore, 1) := by decide +kernel
theorem dX6_init_83 : decode cX6_init 83 = .ok (.dup, 1) := by decide +kernel
theorem dX6_init_84 : decode cX6_init 84 = .ok (.bipush 9, 2) := by decide +kernel
theorem dX6_init_86 : decode cX6_init 86 = .ok (.iconst (-1), 1) := by decide +kernel
theorem dX6_init_87 : decode cX6_init 87 = .ok (.iastore, 1) := by decide +kernel
theorem dX6_init_88 : decode cX6_init 88 = .ok (.dup, 1) := by decide +kernel
theorem dX6_init_89 : decode cX6_init 89 = .ok (.bipush 10, 2) := by decide +kernel
theorem dX6_init_91 : decode cX6_init 91 = .ok (.iconst (-1), 1) := by decide +kernel
theorem dX6_init_92 : decode cX6_init 92 = .ok (.iastore, 1) := by decide +kernel
theorem dX6_init_93 : decode cX6_init 93 = .ok (.dup, 1) := by decide +kernel
theorem dX6_init_94 : decode cX6_init 94 = .ok (.bipush 11, 2) := by decide +kernel
theorem dX6_init_96 : decode cX6_init 96 = .ok (.iconst (-1), 1) := by decide +kernel
theorem dX6_init_97 : decode cX6_init 97 = .ok (.iastore, 1) := by decide +kernel
theorem dX6_init_98 : decode cX6_init 98 = .ok (.dup, 1) := by decide +kernel
theorem dX6_init_99 : decode cX6_init 99 = .ok (.bipush 12, 2) := by decide +kernel
theorem dX6_init_101 : decode cX6_init 101 = .ok (.iconst (-1), 1) := by decide +kernel
theorem dX6_init_102 : decode cX6_init 102 = .ok (.iastore, 1) := by decide +kernel
theorem dX6_init_103 : decode cX6_init 103 = .ok (.dup, 1) := by decide +kernel
theorem dX6_init_104 : decode cX6_init 104 = .ok (.bipush 13, 2) := by decide +kernel
theorem dX6_init_106 : decode cX6_init 106 = .ok (.iconst (-1), 1) := by decide +kernel
theorem dX6_init_107 : decode cX6_init 107 = .ok (.iastore, 1) := by decide +kernel
theorem dX6_init_108 : decode cX6_init 108 = .ok (.dup, 1) := by decide +kernel
theorem dX6_init_109 : decode cX6_init 109 = .ok (.bipush 14, 2) := by decide +kernel
theorem dX6_init_111 : decode cX6_init 111 = .ok (.iconst (-1), 1) := by decide +kernel
theorem dX6_init_112 : decode cX6_init 112 = .ok (.iastore, 1) := by decide +kernel
theorem dX6_init_113 : decode cX6_init 113 = .ok (.dup, 1) := by decide +kernel
theorem dX6_init_114 : decode cX6_init 114 = .ok (.bipush 15, 2) := by decide +kernel
theorem dX6_init_116 : decode cX6_init 116 = .ok (.iconst (-1), 1) := by decide +kernel
theorem dX6_init_117 : decode cX6_init 117 = .ok (.iastore, 1) := by decide +kernel
theorem dX6_init_118 : decode cX6_init 118 = .ok (.putfield 22, 3) := by decide +kernel
theorem dX6_init_121 : decode cX6_init 121 = .ok (.aload_n 0, 1) := by decide +kernel
theorem dX6_init_122 : decode cX6_init 122 = .ok (.iconst 5, 1) := by decide +kernel
theorem dX6_init_123 : decode cX6_init 123 = .ok (.newarray .int, 2) := by decide +kernel
theorem dX6_init_125 : decode cX6_init 125 = .ok (.dup, 1) := by decide +kernel
theorem dX6_init_126 : decode cX6_init 126 = .ok (.iconst 0, 1) := by decide +kernel
theorem dX6_init_127 : decode cX6_init 127 = .ok (.iconst 1, 1) := by decide +kernel
theorem dX6_init_128 : decode cX6_init 128 = .ok (.iastore, 1) := by decide +kernel
theorem dX6_init_129 : decode cX6_init 129 = .ok (.dup, 1) := by decide +kernel
theorem dX6_init_130 : decode cX6_init 130 = .ok (.iconst 1, 1) := by decide +kernel
theorem dX6_init_131 : decode cX6_init 131 = .ok (.iconst 1, 1) := by decide +kernel
theorem dX6_init_132 : decode cX6_init 132 = .ok (.iastore, 1) := by decide +kernel
theorem dX6_init_133 : decode cX6_init 133 = .ok (.dup, 1) := by decide +kernel
theorem dX6_init_134 : decode cX6_init 134 = .ok (.iconst 2, 1) := by decide +kernel
theorem dX6_init_135 : decode cX6_init 135 = .ok (.bipush 20, 2) := by decide +kernel
theorem dX6_init_137 : decode cX6_init 137 = .ok (.iastore, 1) := by decide +kernel
theorem dX6_init_138 : decode cX6_init 138 = .ok (.dup, 1) := by decide +kernel
theorem dX6_init_139 : decode cX6_init 139 = .ok (.iconst 3, 1) := by decide +kernel
theorem dX6_init_140 : decode cX6_init 140 = .ok (.bipush 16, 2) := by decide +kernel
theorem dX6_init_142 : decode cX6_init 142 = .ok (.iastore, 1) := by decide +kernel
theorem dX6_init_143 : decode cX6_init 143 = .ok (.dup, 1) := by decide +kernel
theorem dX6_init_144 : decode cX6_init 144 = .ok (.iconst 4, 1) := by decide +kernel
theorem dX6_init_145 : decode cX6_init 145 = .ok (.bipush 8, 2) := by decide +kernel
theorem dX6_init_147 : decode cX6_init 147 = .ok (.iastore, 1) := by decide +kernel
theorem dX6_init_148 : decode cX6_init 148 = .ok (.putfield 25, 3) := by decide +kernel
theorem dX6_init_151 : decode cX6_init 151 = .ok (.aload_n 0, 1) := by decide +kernel
theorem dX6_init_152 : decode cX6_init 152 = .ok (.bipush 60, 2) := by decide +kernel
theorem dX6_init_154 : decode cX6_init 154 = .ok (.putfield 28, 3) := by decide +kernel
theorem dX6_init_157 : decode cX6_init 157 = .ok (.aload_n 0, 1) := by decide +kernel
theorem dX6_init_158 : decode cX6_init 158 = .ok (.bipush 10, 2) := by decide +kernel
theorem dX6_init_160 : decode cX6_init 160 = .ok (.putfield 32, 3) := by decide +kernel
theorem dX6_init_163 : decode cX6_init 163 = .ok (.aload_n 0, 1) := by decide +kernel
theorem dX6_init_164 : decode cX6_init 164 = .ok (.bipush 30, 2) := by decide +kernel
theorem dX6_init_166 : decode cX6_init 166 = .ok (.putfield 35, 3) := by decide +kernel
theorem dX6_init_169 : decode cX6_init 169 = .ok (.aload_n 0, 1) := by decide +kernel
theorem dX6_init_170 : decode cX6_init 170 = .ok (.iconst 5, 1) := by decide +kernel
theorem dX6_init_171 : decode cX6_init 171 = .ok (.newarray .int, 2) := by decide +kernel
theorem dX6_init_173 : decode cX6_init 173 = .ok (.putfield 38, 3) := by decide +kernel
theorem dX6_init_176 : decode cX6_init 176 = .ok (.aload_n 0, 1) := by decide +kernel
theorem dX6_init_177 : decode cX6_init 177 = .ok (.iconst 5, 1) := by decide +kernel
theorem dX6_init_178 : decode cX6_init 178 = .ok (.newarray .int, 2) := by decide +kernel
theorem dX6_init_180 : decode cX6_init 180 = .ok (.putfield 41, 3) := by decide +kernel
theorem dX6_init_183 : decode cX6_init 183 = .ok (.aload_n 0, 1) := by decide +kernel
theorem dX6_init_184 : decode cX6_init 184 = .ok (.bipush 80, 2) := by decide +kernel
theorem dX6_init_186 : decode cX6_init 186 = .ok (.newarray .int, 2) := by decide +kernel
theorem dX6_init_188 : decode cX6_init 188 = .ok (.putfield 44, 3) := by decide +kernel
theorem dX6_init_191 : decode cX6_init 191 = .ok (.aload_n 0, 1) := by decide +kernel
theorem dX6_init_192 : decode cX6_init 192 = .ok (.bipush 80, 2) := by decide +kernel
theorem dX6_init_194 : decode cX6_init 194 = .ok (.newarray .int, 2) := by decide +kernel
theorem dX6_init_196 : decode cX6_init 196 = .ok (.putfield 47, 3) := by decide +kernel
theorem dX6_init_199 : decode cX6_init 199 = .ok (.aload_n 0, 1) := by decide +kernel
theorem dX6_init_200 : decode cX6_init 200 = .ok (.bipush 80, 2) := by decide +kernel
theorem dX6_init_202 : decode cX6_init 202 = .ok (.newarray .int, 2) := by decide +kernel
theorem dX6_init_204 : decode cX6_init 204 = .ok (.putfield 50, 3) := by decide +kernel
theorem dX6_init_207 : decode cX6_init 207 = .ok (.aload_n 0, 1) := by decide +kernel
theorem dX6_init_208 : decode cX6_init 208 = .ok (.bipush 80, 2) := by decide +kernel
theorem dX6_init_210 : decode cX6_init 210 = .ok (.newarray .boolean, 2) := by decide +kernel
theorem dX6_init_212 : decode cX6_init 212 = .ok (.putfield 53, 3) := by decide +kernel
theorem dX6_init_215 : decode cX6_init 215 = .ok (.aload_n 0, 1) := by decide +kernel
theorem dX6_init_216 : decode cX6_init 216 = .ok (.bipush 8, 2) := by decide +kernel
theorem dX6_init_218 : decode cX6_init 218 = .ok (.newarray .int, 2) := by decide +kernel
theorem dX6_init_220 : decode cX6_init 220 = .ok (.putfield 57, 3) := by decide +kernel
theorem dX6_init_223 : decode cX6_init 223 = .ok (.aload_n 0, 1) := by decide +kernel
theorem dX6_init_224 : decode cX6_init 224 = .ok (.bipush 8, 2) := by decide +kernel
theorem dX6_init_226 : decode cX6_init 226 = .ok (.newarray .int, 2) := by decide +kernel
theorem dX6_init_228 : decode cX6_init 228 = .ok (.putfield 60, 3) := by decide +kernel
theorem dX6_init_231 : decode cX6_init 231 = .ok (.aload_n 0, 1) := by decide +kernel
theorem dX6_init_232 : decode cX6_init 232 = .ok (.bipush 8, 2) := by decide +kernel
theorem dX6_init_234 : decode cX6_init 234 = .ok (.newarray .int, 2) := by decide +kernel
theorem dX6_init_236 : decode cX6_init 236 = .ok (.putfield 63, 3) := by decide +kernel
theorem dX6_init_239 : decode cX6_init 239 = .ok (.aload_n 0, 1) := by decide +kernel
theorem dX6_init_240 : decode cX6_init 240 = .ok (.bipush 16, 2) := by decide +kernel
theorem dX6_init_242 : decode cX6_init 242 = .ok (.newarray .int, 2) := by decide +kernel
theorem dX6_init_244 : decode cX6_init 244 = .ok (.putfield 66, 3) := by decide +kernel
theorem dX6_init_247 : decode cX6_init 247 = .ok (.aload_n 0, 1) := by decide +kernel
theorem dX6_init_248 : decode cX6_init 248 = .ok (.bipush 16, 2) := by decide +kernel
theorem dX6_init_250 : decode cX6_init 250 = .ok (.newarray .int, 2) := by decide +kernel
theorem dX6_init_252 : decode cX6_init 252 = .ok (.putfield 69, 3) := by decide +kernel
theorem dX6_init_255 : decode cX6_init 255 = .ok (.aload_n 0, 1) := by decide +kernel
theorem dX6_init_256 : decode cX6_init 256 = .ok (.bipush 16, 2) := by decide +kernel
theorem dX6_init_258 : decode cX6_init 258 = .ok (.newarray .int, 2) := by decide +kernel
theorem dX6_init_260 : decode cX6_init 260 = .ok (.putfield 72, 3) := by decide +kernel
theorem dX6_init_263 : decode cX6_init 263 = .ok (.aload_n 0, 1) := by decide +kernel
theorem dX6_init_264 : decode cX6_init 264 = .ok (.bipush 16, 2) := by decide +kernel
theorem dX6_init_266 : decode cX6_init 266 = .ok (.newarray .boolean, 2) := by decide +kernel
theorem dX6_init_268 : decode cX6_init 268 = .ok (.putfield 75, 3) := by decide +kernel
theorem dX6_init_271 : decode cX6_init 271 = .ok (.aload_n 0, 1) := by decide +kernel
theorem dX6_init_272 : decode cX6_init 272 = .ok (.sipush 4352, 3) := by decide +kernel
theorem dX6_init_275 : decode cX6_init 275 = .ok (.newarray .int, 2) := by decide +kernel
theorem dX6_init_277 : decode cX6_init 277 = .ok (.putfield 78, 3) := by decide +kernel
theorem dX6_init_280 : decode cX6_init 280 = .ok (.aload_n 0, 1) := by decide +kernel
theorem dX6_init_281 : decode cX6_init 281 = .ok (.bipush 8, 2) := by decide +kernel
theorem dX6_init_283 : decode cX6_init 283 = .ok (.newarray .int, 2) := by decide +kernel
theorem dX6_init_285 : decode cX6_init 285 = .ok (.putfield 81, 3) := by decide +kernel
theorem dX6_init_288 : decode cX6_init 288 = .ok (.aload_n 0, 1) := by decide +kernel
theorem dX6_init_289 : decode cX6_init 289 = .ok (.bipush 8, 2) := by decide +kernel
theorem dX6_init_291 : decode cX6_init 291 = .ok (.newarray .int, 2) := by decide +kernel
theorem dX6_init_293 : decode cX6_init 293 = .ok (.putfield 84, 3) := by decide +kernel
theorem dX6_init_296 : decode cX6_init 296 = .ok (.aload_n 0, 1) := by decide +kernel
theorem dX6_init_297 : decode cX6_init 297 = .ok (.bipush 80, 2) := by decide +kernel
theorem dX6_init_299 : decode cX6_init 299 = .ok (.newarray .int, 2) := by decide +kernel
theorem dX6_init_301 : decode cX6_init 301 = .ok (.putfield 87, 3) := by decide +kernel
theorem dX6_init_304 : decode cX6_init 304 = .ok (.aload_n 0, 1) := by decide +kernel
theorem dX6_init_305 : decode cX6_init 305 = .ok (.bipush 16, 2) := by decide +kernel
theorem dX6_init_307 : decode cX6_init 307 = .ok (.newarray .int, 2) := by decide +kernel
theorem dX6_init_309 : decode cX6_init 309 = .ok (.putfield 90, 3) := by decide +kernel
theorem dX6_init_312 : decode cX6_init 312 = .ok (.aload_n 0, 1) := by decide +kernel
theorem dX6_init_313 : decode cX6_init 313 = .ok (.bipush 16, 2) := by decide +kernel
theorem dX6_init_315 : decode cX6_init 315 = .ok (.newarray .int, 2) := by decide +kernel
theorem dX6_init_317 : decode cX6_init 317 = .ok (.putfield 93, 3) := by decide +kernel
theorem dX6_init_320 : decode cX6_init 320 = .ok (.aload_n 0, 1) := by decide +kernel
theorem dX6_init_321 : decode cX6_init 321 = .ok (.bipush 16, 2) := by decide +kernel
theorem dX6_init_323 : decode cX6_init 323 = .ok (.newarray .int, 2) := by decide +kernel
theorem dX6_init_325 : decode cX6_init 325 = .ok (.putfield 96, 3) := by decide +kernel
theorem dX6_init_328 : decode cX6_init 328 = .ok (.return_, 1) := by decide +kernel
theorem dX6_box_0 : decode cX6_box 0 = .ok (.aload_n 0, 1) := by decide +kernel
theorem dX6_box_1 : decode cX6_box 1 = .ok (.iload_n 1, 1) := by decide +kernel
theorem dX6_box_2 : decode cX6_box 2 = .ok (.invokevirtual 113, 3) := by decide +kernel
theorem dX6_box_5 : decode cX6_box 5 = .ok (.ifCond .eq 45, 3) := by decide +kernel
theorem dX6_box_8 : decode cX6_box 8 = .ok (.iload_n 2, 1) := by decide +kernel
theorem dX6_box_9 : decode cX6_box 9 = .ok (.iconst 0, 1) := by decide +kernel
theorem dX6_box_10 : decode cX6_box 10 = .ok (.bipush 63, 2) := by decide +kernel
theorem dX6_box_12 : decode cX6_box 12 = .ok (.invokestatic 102, 3) := by decide +kernel
theorem dX6_box_15 : decode cX6_box 15 = .ok (.ifCond .eq 35, 3) := by decide +kernel
theorem dX6_box_18 : decode cX6_box 18 = .ok (.iload_n 3, 1) := by decide +kernel
theorem dX6_box_19 : decode cX6_box 19 = .ok (.iconst 0, 1) := by decide +kernel
theorem dX6_box_20 : decode cX6_box 20 = .ok (.bipush 63, 2) := by decide +kernel
theorem dX6_box_22 : decode cX6_box 22 = .ok (.invokestatic 102, 3) := by decide +kernel
theorem dX6_box_25 : decode cX6_box 25 = .ok (.ifCond .eq 25, 3) := by decide +kernel
theorem dX6_box_28 : decode cX6_box 28 = .ok (.iload 4, 2) := by decide +kernel
theorem dX6_box_30 : decode cX6_box 30 = .ok (.iconst 1, 1) := by decide +kernel
theorem dX6_box_31 : decode cX6_box 31 = .ok (.bipush 99, 2) := by decide +kernel
theorem dX6_box_33 : decode cX6_box 33 = .ok (.invokestatic 102, 3) := by decide +kernel
theorem dX6_box_36 : decode cX6_box 36 = .ok (.ifCond .eq 14, 3) := by decide +kernel
theorem dX6_box_39 : decode cX6_box 39 = .ok (.aload_n 0, 1) := by decide +kernel
theorem dX6_box_40 : decode cX6_box 40 = .ok (.getfield 7, 3) := by decide +kernel
theorem dX6_box_43 : decode cX6_box 43 = .ok (.iload_n 1, 1) := by decide +kernel
theorem dX6_box_44 : decode cX6_box 44 = .ok (.iaload, 1) := by decide +kernel
theorem dX6_box_45 : decode cX6_box 45 = .ok (.bipush 8, 2) := by decide +kernel
theorem dX6_box_47 : decode cX6_box 47 = .ok (.if_icmp .ne 5, 3) := by decide +kernel
theorem dX6_box_50 : decode cX6_box 50 = .ok (.iconst (-1), 1) := by decide +kernel
theorem dX6_box_51 : decode cX6_box 51 = .ok (.ireturn, 1) := by decide +kernel
theorem dX6_box_52 : decode cX6_box 52 = .ok (.iconst 0, 1) := by decide +kernel
theorem dX6_box_53 : decode cX6_box 53 = .ok (.istore 5, 2) := by decide +kernel
theorem dX6_box_55 : decode cX6_box 55 = .ok (.iload 5, 2) := by decide +kernel
theorem dX6_box_57 : decode cX6_box 57 = .ok (.aload_n 0, 1) := by decide +kernel
theorem dX6_box_58 : decode cX6_box 58 = .ok (.getfield 7, 3) := by decide +kernel
theorem dX6_box_61 : decode cX6_box 61 = .ok (.iload_n 1, 1) := by decide +kernel
theorem dX6_box_62 : decode cX6_box 62 = .ok (.iaload, 1) := by decide +kernel
theorem dX6_box_63 : decode cX6_box 63 = .ok (.if_icmp .ge 28, 3) := by decide +kernel
theorem dX6_box_66 : decode cX6_box 66 = .ok (.aload_n 0, 1) := by decide +kernel
theorem dX6_box_67 : decode cX6_box 67 = .ok (.getfield 19, 3) := by decide +kernel
theorem dX6_box_70 : decode cX6_box 70 = .ok (.bipush 8, 2) := by decide +kernel
theorem dX6_box_72 : decode cX6_box 72 = .ok (.iload_n 1, 1) := by decide +kernel
theorem dX6_box_73 : decode cX6_box 73 = .ok (.imul, 1) := by decide +kernel
theorem dX6_box_74 : decode cX6_box 74 = .ok (.iload 5, 2) := by decide +kernel
theorem dX6_box_76 : decode cX6_box 76 = .ok (.iadd, 1) := by decide +kernel
theorem dX6_box_77 : decode cX6_box 77 = .ok (.iaload, 1) := by decide +kernel
theorem dX6_box_78 : decode cX6_box 78 = .ok (.iload 4, 2) := by decide +kernel
theorem dX6_box_80 : decode cX6_box 80 = .ok (.if_icmp .ne 5, 3) := by decide +kernel
theorem dX6_box_83 : decode cX6_box 83 = .ok (.iconst (-1), 1) := by decide +kernel
theorem dX6_box_84 : decode cX6_box 84 = .ok (.ireturn, 1) := by decide +kernel
theorem dX6_box_85 : decode cX6_box 85 = .ok (.iinc 5 1, 3) := by decide +kernel
theorem dX6_box_88 : decode cX6_box 88 = .ok (.goto (-33), 3) := by decide +kernel
theorem dX6_box_91 : decode cX6_box 91 = .ok (.bipush 8, 2) := by decide +kernel
theorem dX6_box_93 : decode cX6_box 93 = .ok (.iload_n 1, 1) := by decide +kernel
theorem dX6_box_94 : decode cX6_box 94 = .ok (.imul, 1) := by decide +kernel
theorem dX6_box_95 : decode cX6_box 95 = .ok (.aload_n 0, 1) := by decide +kernel
theorem dX6_box_96 : decode cX6_box 96 = .ok (.getfield 7, 3) := by decide +kernel
theorem dX6_box_99 : decode cX6_box 99 = .ok (.iload_n 1, 1) := by decide +kernel
theorem dX6_box_100 : decode cX6_box 100 = .ok (.iaload, 1) := by decide +kernel
theorem dX6_box_101 : decode cX6_box 101 = .ok (.iadd, 1) := by decide +kernel
theorem dX6_box_102 : decode cX6_box 102 = .ok (.istore 5, 2) := by decide +kernel
theorem dX6_box_104 : decode cX6_box 104 = .ok (.aload_n 0, 1) := by decide +kernel
theorem dX6_box_105 : decode cX6_box 105 = .ok (.getfield 13, 3) := by decide +kernel
theorem dX6_box_108 : decode cX6_box 108 = .ok (.iload 5, 2) := by decide +kernel
theorem dX6_box_110 : decode cX6_box 110 = .ok (.iload_n 2, 1) := by decide +kernel
theorem dX6_box_111 : decode cX6_box 111 = .ok (.iastore, 1) := by decide +kernel
theorem dX6_box_112 : decode cX6_box 112 = .ok (.aload_n 0, 1) := by decide +kernel
theorem dX6_box_113 : decode cX6_box 113 = .ok (.getfield 16, 3) := by decide +kernel
theorem dX6_box_116 : decode cX6_box 116 = .ok (.iload 5, 2) := by decide +kernel
theorem dX6_box_118 : decode cX6_box 118 = .ok (.iload_n 3, 1) := by decide +kernel
theorem dX6_box_119 : decode cX6_box 119 = .ok (.iastore, 1) := by decide +kernel
theorem dX6_box_120 : decode cX6_box 120 = .ok (.aload_n 0, 1) := by decide +kernel
theorem dX6_box_121 : decode cX6_box 121 = .ok (.getfield 19, 3) := by decide +kernel
theorem dX6_box_124 : decode cX6_box 124 = .ok (.iload 5, 2) := by decide +kernel
theorem dX6_box_126 : decode cX6_box 126 = .ok (.iload 4, 2) := by decide +kernel
theorem dX6_box_128 : decode cX6_box 128 = .ok (.iastore, 1) := by decide +kernel
theorem dX6_box_129 : decode cX6_box 129 = .ok (.aload_n 0, 1) := by decide +kernel
theorem dX6_box_130 : decode cX6_box 130 = .ok (.getfield 7, 3) := by decide +kernel
theorem dX6_box_133 : decode cX6_box 133 = .ok (.iload_n 1, 1) := by decide +kernel
theorem dX6_box_134 : decode cX6_box 134 = .ok (.dup2, 1) := by decide +kernel
theorem dX6_box_135 : decode cX6_box 135 = .ok (.iaload, 1) := by decide +kernel
theorem dX6_box_136 : decode cX6_box 136 = .ok (.iconst 1, 1) := by decide +kernel
theorem dX6_box_137 : decode cX6_box 137 = .ok (.iadd, 1) := by decide +kernel
theorem dX6_box_138 : decode cX6_box 138 = .ok (.iastore, 1) := by decide +kernel
theorem dX6_box_139 : decode cX6_box 139 = .ok (.aload_n 0, 1) := by decide +kernel
theorem dX6_box_140 : decode cX6_box 140 = .ok (.invokevirtual 110, 3) := by decide +kernel
theorem dX6_box_143 : decode cX6_box 143 = .ok (.aload_n 0, 1) := by decide +kernel
theorem dX6_box_144 : decode cX6_box 144 = .ok (.getfield 7, 3) := by decide +kernel
theorem dX6_box_147 : decode cX6_box 147 = .ok (.iload_n 1, 1) := by decide +kernel
theorem dX6_box_148 : decode cX6_box 148 = .ok (.iaload, 1) := by decide +kernel
theorem dX6_box_149 : decode cX6_box 149 = .ok (.iconst 1, 1) := by decide +kernel
theorem dX6_box_150 : decode cX6_box 150 = .ok (.isub, 1) := by decide +kernel
theorem dX6_box_151 : decode cX6_box 151 = .ok (.ireturn, 1) := by decide +kernel
theorem dX6_weights_0 : decode cX6_weights 0 = .ok (.iload_n 1, 1) := by decide +kernel
theorem dX6_weights_1 : decode cX6_weights 1 = .ok (.iconst 0, 1) := by decide +kernel
theorem dX6_weights_2 : decode cX6_weights 2 = .ok (.bipush 9, 2) := by decide +kernel
theorem dX6_weights_4 : decode cX6_weights 4 = .ok (.invokestatic 102, 3) := by decide +kernel
theorem dX6_weights_7 : decode cX6_weights 7 = .ok (.ifCond .eq 45, 3) := by decide +kernel
theorem dX6_weights_10 : decode cX6_weights 10 = .ok (.iload_n 2, 1) := by decide +kernel
theorem dX6_weights_11 : decode cX6_weights 11 = .ok (.iconst 0, 1) := by decide +kernel
theorem dX6_weights_12 : decode cX6_weights 12 = .ok (.bipush 9, 2) := by decide +kernel
theorem dX6_weights_14 : decode cX6_weights 14 = .ok (.invokestatic 102, 3) := by decide +kernel
theorem dX6_weights_17 : decode cX6_weights 17 = .ok (.ifCond .eq 35, 3) := by decide +kernel
theorem dX6_weights_20 : decode cX6_weights 20 = .ok (.iload_n 3, 1) := by decide +kernel
theorem dX6_weights_21 : decode cX6_weights 21 = .ok (.iconst 0, 1) := by decide +kernel
theorem dX6_weights_22 : decode cX6_weights 22 = .ok (.bipush 99, 2) := by decide +kernel
theorem dX6_weights_24 : decode cX6_weights 24 = .ok (.invokestatic 102, 3) := by decide +kernel
theorem dX6_weights_27 : decode cX6_weights 27 = .ok (.ifCond .eq 25, 3) := by decide +kernel
theorem dX6_weights_30 : decode cX6_weights 30 = .ok (.iload 4, 2) := by decide +kernel
theorem dX6_weights_32 : decode cX6_weights 32 = .ok (.iconst 0, 1) := by decide +kernel
theorem dX6_weights_33 : decode cX6_weights 33 = .ok (.bipush 99, 2) := by decide +kernel
theorem dX6_weights_35 : decode cX6_weights 35 = .ok (.invokestatic 102, 3) := by decide +kernel
theorem dX6_weights_38 : decode cX6_weights 38 = .ok (.ifCond .eq 14, 3) := by decide +kernel
theorem dX6_weights_41 : decode cX6_weights 41 = .ok (.iload 5, 2) := by decide +kernel
theorem dX6_weights_43 : decode cX6_weights 43 = .ok (.iconst 0, 1) := by decide +kernel
theorem dX6_weights_44 : decode cX6_weights 44 = .ok (.bipush 99, 2) := by decide +kernel
theorem dX6_weights_46 : decode cX6_weights 46 = .ok (.invokestatic 102, 3) := by decide +kernel
theorem dX6_weights_49 : decode cX6_weights 49 = .ok (.ifCond .ne 5, 3) := by decide +kernel
theorem dX6_weights_52 : decode cX6_weights 52 = .ok (.iconst 0, 1) := by decide +kernel
theorem dX6_weights_53 : decode cX6_weights 53 = .ok (.ireturn, 1) := by decide +kernel
theorem dX6_weights_54 : decode cX6_weights 54 = .ok (.aload_n 0, 1) := by decide +kernel
theorem dX6_weights_55 : decode cX6_weights 55 = .ok (.getfield 25, 3) := by decide +kernel
theorem dX6_weights_58 : decode cX6_weights 58 = .ok (.iconst 0, 1) := by decide +kernel
theorem dX6_weights_59 : decode cX6_weights 59 = .ok (.iload_n 1, 1) := by decide +kernel
theorem dX6_weights_60 : decode cX6_weights 60 = .ok (.iastore, 1) := by decide +kernel
theorem dX6_weights_61 : decode cX6_weights 61 = .ok (.aload_n 0, 1) := by decide +kernel
theorem dX6_weights_62 : decode cX6_weights 62 = .ok (.getfield 25, 3) := by decide +kernel
theorem dX6_weights_65 : decode cX6_weights 65 = .ok (.iconst 1, 1) := by decide +kernel
theorem dX6_weights_66 : decode cX6_weights 66 = .ok (.iload_n 2, 1) := by decide +kernel
theorem dX6_weights_67 : decode cX6_weights 67 = .ok (.iastore, 1) := by decide +kernel
theorem dX6_weights_68 : decode cX6_weights 68 = .ok (.aload_n 0, 1) := by decide +kernel
theorem dX6_weights_69 : decode cX6_weights 69 = .ok (.getfield 25, 3) := by decide +kernel
theorem dX6_weights_72 : decode cX6_weights 72 = .ok (.iconst 2, 1) := by decide +kernel
theorem dX6_weights_73 : decode cX6_weights 73 = .ok (.iload_n 3, 1) := by decide +kernel
theorem dX6_weights_74 : decode cX6_weights 74 = .ok (.iastore, 1) := by decide +kernel
theorem dX6_weights_75 : decode cX6_weights 75 = .ok (.aload_n 0, 1) := by decide +kernel
theorem dX6_weights_76 : decode cX6_weights 76 = .ok (.getfield 25, 3) := by decide +kernel
theorem dX6_weights_79 : decode cX6_weights 79 = .ok (.iconst 3, 1) := by decide +kernel
theorem dX6_weights_80 : decode cX6_weights 80 = .ok (.iload 4, 2) := by decide +kernel
theorem dX6_weights_82 : decode cX6_weights 82 = .ok (.iastore, 1) := by decide +kernel
theorem dX6_weights_83 : decode cX6_weights 83 = .ok (.aload_n 0, 1) := by decide +kernel
theorem dX6_weights_84 : decode cX6_weights 84 = .ok (.getfield 25, 3) := by decide +kernel
theorem dX6_weights_87 : decode cX6_weights 87 = .ok (.iconst 4, 1) := by decide +kernel
theorem dX6_weights_88 : decode cX6_weights 88 = .ok (.iload 5, 2) := by decide +kernel
theorem dX6_weights_90 : decode cX6_weights 90 = .ok (.iastore, 1) := by decide +kernel
theorem dX6_weights_91 : decode cX6_weights 91 = .ok (.aload_n 0, 1) := by decide +kernel
theorem dX6_weights_92 : decode cX6_weights 92 = .ok (.invokevirtual 110, 3) := by decide +kernel
theorem dX6_weights_95 : decode cX6_weights 95 = .ok (.iconst 1, 1) := by decide +kernel
theorem dX6_weights_96 : decode cX6_weights 96 = .ok (.ireturn, 1) := by decide +kernel
theorem dX6_makesSpot_0 : decode cX6_makesSpot 0 = .ok (.iconst 0, 1) := by decide +kernel
theorem dX6_makesSpot_1 : decode cX6_makesSpot 1 = .ok (.istore_n 3, 1) := by decide +kernel
theorem dX6_makesSpot_2 : decode cX6_makesSpot 2 = .ok (.iconst 0, 1) := by decide +kernel
theorem dX6_makesSpot_3 : decode cX6_makesSpot 3 = .ok (.istore 4, 2) := by decide +kernel
theorem dX6_makesSpot_5 : decode cX6_makesSpot 5 = .ok (.iload 4, 2) := by decide +kernel
theorem dX6_makesSpot_7 : decode cX6_makesSpot 7 = .ok (.aload_n 0, 1) := by decide +kernel
theorem dX6_makesSpot_8 : decode cX6_makesSpot 8 = .ok (.getfield 99, 3) := by decide +kernel
theorem dX6_makesSpot_11 : decode cX6_makesSpot 11 = .ok (.if_icmp .ge 38, 3) := by decide +kernel
theorem dX6_makesSpot_14 : decode cX6_makesSpot 14 = .ok (.iload_n 3, 1) := by decide +kernel
theorem dX6_makesSpot_15 : decode cX6_makesSpot 15 = .ok (.aload_n 0, 1) := by decide +kernel
theorem dX6_makesSpot_16 : decode cX6_makesSpot 16 = .ok (.getfield 22, 3) := by decide +kernel
theorem dX6_makesSpot_19 : decode cX6_makesSpot 19 = .ok (.iload 4, 2) := by decide +kernel
theorem dX6_makesSpot_21 : decode cX6_makesSpot 21 = .ok (.iaload, 1) := by decide +kernel
theorem dX6_makesSpot_22 : decode cX6_makesSpot 22 = .ok (.iload_n 1, 1) := by decide +kernel
theorem dX6_makesSpot_23 : decode cX6_makesSpot 23 = .ok (.if_icmp .ne 17, 3) := by decide +kernel
theorem dX6_makesSpot_26 : decode cX6_makesSpot 26 = .ok (.aload_n 0, 1) := by decide +kernel
theorem dX6_makesSpot_27 : decode cX6_makesSpot 27 = .ok (.iload 4, 2) := by decide +kernel
theorem dX6_makesSpot_29 : decode cX6_makesSpot 29 = .ok (.iload_n 2, 1) := by decide +kernel
theorem dX6_makesSpot_30 : decode cX6_makesSpot 30 = .ok (.invokevirtual 121, 3) := by decide +kernel
theorem dX6_makesSpot_33 : decode cX6_makesSpot 33 = .ok (.ifCond .lt 7, 3) := by decide +kernel
theorem dX6_makesSpot_36 : decode cX6_makesSpot 36 = .ok (.iconst 1, 1) := by decide +kernel
theorem dX6_makesSpot_37 : decode cX6_makesSpot 37 = .ok (.goto 4, 3) := by decide +kernel
theorem dX6_makesSpot_40 : decode cX6_makesSpot 40 = .ok (.iconst 0, 1) := by decide +kernel
theorem dX6_makesSpot_41 : decode cX6_makesSpot 41 = .ok (.iadd, 1) := by decide +kernel
theorem dX6_makesSpot_42 : decode cX6_makesSpot 42 = .ok (.istore_n 3, 1) := by decide +kernel
theorem dX6_makesSpot_43 : decode cX6_makesSpot 43 = .ok (.iinc 4 1, 3) := by decide +kernel
theorem dX6_makesSpot_46 : decode cX6_makesSpot 46 = .ok (.goto (-41), 3) := by decide +kernel
theorem dX6_makesSpot_49 : decode cX6_makesSpot 49 = .ok (.iconst 2, 1) := by decide +kernel
theorem dX6_makesSpot_50 : decode cX6_makesSpot 50 = .ok (.iload_n 3, 1) := by decide +kernel
theorem dX6_makesSpot_51 : decode cX6_makesSpot 51 = .ok (.imul, 1) := by decide +kernel
theorem dX6_makesSpot_52 : decode cX6_makesSpot 52 = .ok (.aload_n 0, 1) := by decide +kernel
theorem dX6_makesSpot_53 : decode cX6_makesSpot 53 = .ok (.getfield 38, 3) := by decide +kernel
theorem dX6_makesSpot_56 : decode cX6_makesSpot 56 = .ok (.iload_n 1, 1) := by decide +kernel
theorem dX6_makesSpot_57 : decode cX6_makesSpot 57 = .ok (.iaload, 1) := by decide +kernel
theorem dX6_makesSpot_58 : decode cX6_makesSpot 58 = .ok (.if_icmp .ge 4, 3) := by decide +kernel
theorem dX6_makesSpot_61 : decode cX6_makesSpot 61 = .ok (.return_, 1) := by decide +kernel
theorem dX6_makesSpot_62 : decode cX6_makesSpot 62 = .ok (.bipush 16, 2) := by decide +kernel
theorem dX6_makesSpot_64 : decode cX6_makesSpot 64 = .ok (.iload_n 1, 1) := by decide +kernel
theorem dX6_makesSpot_65 : decode cX6_makesSpot 65 = .ok (.imul, 1) := by decide +kernel
theorem dX6_makesSpot_66 : decode cX6_makesSpot 66 = .ok (.aload_n 0, 1) := by decide +kernel
theorem dX6_makesSpot_67 : decode cX6_makesSpot 67 = .ok (.getfield 41, 3) := by decide +kernel
theorem dX6_makesSpot_70 : decode cX6_makesSpot 70 = .ok (.iload_n 1, 1) := by decide +kernel
theorem dX6_makesSpot_71 : decode cX6_makesSpot 71 = .ok (.iaload, 1) := by decide +kernel
theorem dX6_makesSpot_72 : decode cX6_makesSpot 72 = .ok (.iadd, 1) := by decide +kernel
theorem dX6_makesSpot_73 : decode cX6_makesSpot 73 = .ok (.istore 4, 2) := by decide +kernel
theorem dX6_makesSpot_75 : decode cX6_makesSpot 75 = .ok (.iconst 0, 1) := by decide +kernel
theorem dX6_makesSpot_76 : decode cX6_makesSpot 76 = .ok (.istore 5, 2) := by decide +kernel
theorem dX6_makesSpot_78 : decode cX6_makesSpot 78 = .ok (.iload 5, 2) := by decide +kernel
theorem dX6_makesSpot_80 : decode cX6_makesSpot 80 = .ok (.iconst 2, 1) := by decide +kernel
theorem dX6_makesSpot_81 : decode cX6_makesSpot 81 = .ok (.if_icmp .ge 120, 3) := by decide +kernel
theorem dX6_makesSpot_84 : decode cX6_makesSpot 84 = .ok (.iconst 0, 1) := by decide +kernel
theorem dX6_makesSpot_85 : decode cX6_makesSpot 85 = .ok (.istore 6, 2) := by decide +kernel
theorem dX6_makesSpot_87 : decode cX6_makesSpot 87 = .ok (.iconst 0, 1) := by decide +kernel
theorem dX6_makesSpot_88 : decode cX6_makesSpot 88 = .ok (.istore 7, 2) := by decide +kernel
theorem dX6_makesSpot_90 : decode cX6_makesSpot 90 = .ok (.iload 7, 2) := by decide +kernel
theorem dX6_makesSpot_92 : decode cX6_makesSpot 92 = .ok (.aload_n 0, 1) := by decide +kernel
theorem dX6_makesSpot_93 : decode cX6_makesSpot 93 = .ok (.getfield 99, 3) := by decide +kernel
theorem dX6_makesSpot_96 : decode cX6_makesSpot 96 = .ok (.if_icmp .ge 66, 3) := by decide +kernel
theorem dX6_makesSpot_99 : decode cX6_makesSpot 99 = .ok (.aload_n 0, 1) := by decide +kernel
theorem dX6_makesSpot_100 : decode cX6_makesSpot 100 = .ok (.iload 7, 2) := by decide +kernel
theorem dX6_makesSpot_102 : decode cX6_makesSpot 102 = .ok (.iload_n 2, 1) := by decide +kernel
theorem dX6_makesSpot_103 : decode cX6_makesSpot 103 = .ok (.invokevirtual 121, 3) := by decide +kernel
theorem dX6_makesSpot_106 : decode cX6_makesSpot 106 = .ok (.istore 8, 2) := by decide +kernel
theorem dX6_makesSpot_108 : decode cX6_makesSpot 108 = .ok (.aload_n 0, 1) := by decide +kernel
theorem dX6_makesSpot_109 : decode cX6_makesSpot 109 = .ok (.getfield 22, 3) := by decide +kernel
theorem dX6_makesSpot_112 : decode cX6_makesSpot 112 = .ok (.iload 7, 2) := by decide +kernel
theorem dX6_makesSpot_114 : decode cX6_makesSpot 114 = .ok (.iaload, 1) := by decide +kernel
theorem dX6_makesSpot_115 : decode cX6_makesSpot 115 = .ok (.iload_n 1, 1) := by decide +kernel
theorem dX6_makesSpot_116 : decode cX6_makesSpot 116 = .ok (.if_icmp .ne 40, 3) := by decide +kernel
theorem dX6_makesSpot_119 : decode cX6_makesSpot 119 = .ok (.iload 8, 2) := by decide +kernel
theorem dX6_makesSpot_121 : decode cX6_makesSpot 121 = .ok (.ifCond .lt 35, 3) := by decide +kernel
theorem dX6_makesSpot_124 : decode cX6_makesSpot 124 = .ok (.aload_n 0, 1) := by decide +kernel
theorem dX6_makesSpot_125 : decode cX6_makesSpot 125 = .ok (.getfield 90, 3) := by decide +kernel
theorem dX6_makesSpot_128 : decode cX6_makesSpot 128 = .ok (.iload 6, 2) := by decide +kernel
theorem dX6_makesSpot_130 : decode cX6_makesSpot 130 = .ok (.iload 5, 2) := by decide +kernel
theorem dX6_makesSpot_132 : decode cX6_makesSpot 132 = .ok (.ifCond .ne 13, 3) := by decide +kernel
theorem dX6_makesSpot_135 : decode cX6_makesSpot 135 = .ok (.aload_n 0, 1) := by decide +kernel
theorem dX6_makesSpot_136 : decode cX6_makesSpot 136 = .ok (.getfield 13, 3) := by decide +kernel
theorem dX6_makesSpot_139 : decode cX6_makesSpot 139 = .ok (.iload 8, 2) := by decide +kernel
theorem dX6_makesSpot_141 : decode cX6_makesSpot 141 = .ok (.iaload, 1) := by decide +kernel
theorem dX6_makesSpot_142 : decode cX6_makesSpot 142 = .ok (.goto 10, 3) := by decide +kernel
theorem dX6_makesSpot_145 : decode cX6_makesSpot 145 = .ok (.aload_n 0, 1) := by decide +kernel
theorem dX6_makesSpot_146 : decode cX6_makesSpot 146 = .ok (.getfield 16, 3) := by decide +kernel
theorem dX6_makesSpot_149 : decode cX6_makesSpot 149 = .ok (.iload 8, 2) := by decide +kernel
theorem dX6_makesSpot_151 : decode cX6_makesSpot 151 = .ok (.iaload, 1) := by decide +kernel
theorem dX6_makesSpot_152 : decode cX6_makesSpot 152 = .ok (.iastore, 1) := by decide +kernel
theorem dX6_makesSpot_153 : decode cX6_makesSpot 153 = .ok (.iinc 6 1, 3) := by decide +kernel
theorem dX6_makesSpot_156 : decode cX6_makesSpot 156 = .ok (.iinc 7 1, 3) := by decide +kernel
theorem dX6_makesSpot_159 : decode cX6_makesSpot 159 = .ok (.goto (-69), 3) := by decide +kernel
theorem dX6_makesSpot_162 : decode cX6_makesSpot 162 = .ok (.aload_n 0, 1) := by decide +kernel
theorem dX6_makesSpot_163 : decode cX6_makesSpot 163 = .ok (.iload_n 3, 1) := by decide +kernel
theorem dX6_makesSpot_164 : decode cX6_makesSpot 164 = .ok (.invokevirtual 125, 3) := by decide +kernel
theorem dX6_makesSpot_167 : decode cX6_makesSpot 167 = .ok (.istore 7, 2) := by decide +kernel
theorem dX6_makesSpot_169 : decode cX6_makesSpot 169 = .ok (.iload 5, 2) := by decide +kernel
theorem dX6_makesSpot_171 : decode cX6_makesSpot 171 = .ok (.ifCond .ne 15, 3) := by decide +kernel
theorem dX6_makesSpot_174 : decode cX6_makesSpot 174 = .ok (.aload_n 0, 1) := by decide +kernel
theorem dX6_makesSpot_175 : decode cX6_makesSpot 175 = .ok (.getfield 47, 3) := by decide +kernel
theorem dX6_makesSpot_178 : decode cX6_makesSpot 178 = .ok (.iload 4, 2) := by decide +kernel
theorem dX6_makesSpot_180 : decode cX6_makesSpot 180 = .ok (.iload 7, 2) := by decide +kernel
theorem dX6_makesSpot_182 : decode cX6_makesSpot 182 = .ok (.iastore, 1) := by decide +kernel
theorem dX6_makesSpot_183 : decode cX6_makesSpot 183 = .ok (.goto 12, 3) := by decide +kernel
theorem dX6_makesSpot_186 : decode cX6_makesSpot 186 = .ok (.aload_n 0, 1) := by decide +kernel
theorem dX6_makesSpot_187 : decode cX6_makesSpot 187 = .ok (.getfield 50, 3) := by decide +kernel
theorem dX6_makesSpot_190 : decode cX6_makesSpot 190 = .ok (.iload 4, 2) := by decide +kernel
theorem dX6_makesSpot_192 : decode cX6_makesSpot 192 = .ok (.iload 7, 2) := by decide +kernel
theorem dX6_makesSpot_194 : decode cX6_makesSpot 194 = .ok (.iastore, 1) := by decide +kernel
theorem dX6_makesSpot_195 : decode cX6_makesSpot 195 = .ok (.iinc 5 1, 3) := by decide +kernel
theorem dX6_makesSpot_198 : decode cX6_makesSpot 198 = .ok (.goto (-120), 3) := by decide +kernel
theorem dX6_makesSpot_201 : decode cX6_makesSpot 201 = .ok (.aload_n 0, 1) := by decide +kernel
theorem dX6_makesSpot_202 : decode cX6_makesSpot 202 = .ok (.getfield 44, 3) := by decide +kernel
theorem dX6_makesSpot_205 : decode cX6_makesSpot 205 = .ok (.iload 4, 2) := by decide +kernel
theorem dX6_makesSpot_207 : decode cX6_makesSpot 207 = .ok (.iload_n 2, 1) := by decide +kernel
theorem dX6_makesSpot_208 : decode cX6_makesSpot 208 = .ok (.iastore, 1) := by decide +kernel
theorem dX6_makesSpot_209 : decode cX6_makesSpot 209 = .ok (.aload_n 0, 1) := by decide +kernel
theorem dX6_makesSpot_210 : decode cX6_makesSpot 210 = .ok (.getfield 53, 3) := by decide +kernel
theorem dX6_makesSpot_213 : decode cX6_makesSpot 213 = .ok (.iload 4, 2) := by decide +kernel
theorem dX6_makesSpot_215 : decode cX6_makesSpot 215 = .ok (.iload_n 3, 1) := by decide +kernel
theorem dX6_makesSpot_216 : decode cX6_makesSpot 216 = .ok (.aload_n 0, 1) := by decide +kernel
theorem dX6_makesSpot_217 : decode cX6_makesSpot 217 = .ok (.getfield 38, 3) := by decide +kernel
theorem dX6_makesSpot_220 : decode cX6_makesSpot 220 = .ok (.iload_n 1, 1) := by decide +kernel
theorem dX6_makesSpot_221 : decode cX6_makesSpot 221 = .ok (.iaload, 1) := by decide +kernel
theorem dX6_makesSpot_222 : decode cX6_makesSpot 222 = .ok (.if_icmp .ne 7, 3) := by decide +kernel
theorem dX6_makesSpot_225 : decode cX6_makesSpot 225 = .ok (.iconst 1, 1) := by decide +kernel
theorem dX6_makesSpot_226 : decode cX6_makesSpot 226 = .ok (.goto 4, 3) := by decide +kernel
theorem dX6_makesSpot_229 : decode cX6_makesSpot 229 = .ok (.iconst 0, 1) := by decide +kernel
theorem dX6_makesSpot_230 : decode cX6_makesSpot 230 = .ok (.bastore, 1) := by decide +kernel
theorem dX6_makesSpot_231 : decode cX6_makesSpot 231 = .ok (.aload_n 0, 1) := by decide +kernel
theorem dX6_makesSpot_232 : decode cX6_makesSpot 232 = .ok (.getfield 41, 3) := by decide +kernel
theorem dX6_makesSpot_235 : decode cX6_makesSpot 235 = .ok (.iload_n 1, 1) := by decide +kernel
theorem dX6_makesSpot_236 : decode cX6_makesSpot 236 = .ok (.dup2, 1) := by decide +kernel
theorem dX6_makesSpot_237 : decode cX6_makesSpot 237 = .ok (.iaload, 1) := by decide +kernel
theorem dX6_makesSpot_238 : decode cX6_makesSpot 238 = .ok (.iconst 1, 1) := by decide +kernel
theorem dX6_makesSpot_239 : decode cX6_makesSpot 239 = .ok (.iadd, 1) := by decide +kernel
theorem dX6_makesSpot_240 : decode cX6_makesSpot 240 = .ok (.iastore, 1) := by decide +kernel
theorem dX6_makesSpot_241 : decode cX6_makesSpot 241 = .ok (.return_, 1) := by decide +kernel
theorem dX6_spot_0 : decode cX6_spot 0 = .ok (.aload_n 0, 1) := by decide +kernel
theorem dX6_spot_1 : decode cX6_spot 1 = .ok (.invokevirtual 129, 3) := by decide +kernel
theorem dX6_spot_4 : decode cX6_spot 4 = .ok (.iload_n 1, 1) := by decide +kernel
theorem dX6_spot_5 : decode cX6_spot 5 = .ok (.iconst 0, 1) := by decide +kernel
theorem dX6_spot_6 : decode cX6_spot 6 = .ok (.iconst 4, 1) := by decide +kernel
theorem dX6_spot_7 : decode cX6_spot 7 = .ok (.invokestatic 102, 3) := by decide +kernel
theorem dX6_spot_10 : decode cX6_spot 10 = .ok (.ifCond .eq 19, 3) := by decide +kernel
theorem dX6_spot_13 : decode cX6_spot 13 = .ok (.iload_n 2, 1) := by decide +kernel
theorem dX6_spot_14 : decode cX6_spot 14 = .ok (.iconst 0, 1) := by decide +kernel
theorem dX6_spot_15 : decode cX6_spot 15 = .ok (.aload_n 0, 1) := by decide +kernel
theorem dX6_spot_16 : decode cX6_spot 16 = .ok (.getfield 41, 3) := by decide +kernel
theorem dX6_spot_19 : decode cX6_spot 19 = .ok (.iload_n 1, 1) := by decide +kernel
theorem dX6_spot_20 : decode cX6_spot 20 = .ok (.iaload, 1) := by decide +kernel
theorem dX6_spot_21 : decode cX6_spot 21 = .ok (.iconst 1, 1) := by decide +kernel
theorem dX6_spot_22 : decode cX6_spot 22 = .ok (.isub, 1) := by decide +kernel
theorem dX6_spot_23 : decode cX6_spot 23 = .ok (.invokestatic 102, 3) := by decide +kernel
theorem dX6_spot_26 : decode cX6_spot 26 = .ok (.ifCond .ne 5, 3) := by decide +kernel
theorem dX6_spot_29 : decode cX6_spot 29 = .ok (.iconst (-1), 1) := by decide +kernel
theorem dX6_spot_30 : decode cX6_spot 30 = .ok (.ireturn, 1) := by decide +kernel
theorem dX6_spot_31 : decode cX6_spot 31 = .ok (.bipush 16, 2) := by decide +kernel
theorem dX6_spot_33 : decode cX6_spot 33 = .ok (.iload_n 1, 1) := by decide +kernel
theorem dX6_spot_34 : decode cX6_spot 34 = .ok (.imul, 1) := by decide +kernel
theorem dX6_spot_35 : decode cX6_spot 35 = .ok (.iload_n 2, 1) := by decide +kernel
theorem dX6_spot_36 : decode cX6_spot 36 = .ok (.iadd, 1) := by decide +kernel
theorem dX6_spot_37 : decode cX6_spot 37 = .ok (.istore 4, 2) := by decide +kernel
theorem dX6_spot_39 : decode cX6_spot 39 = .ok (.iload_n 3, 1) := by decide +kernel
theorem dX6_spot_40 : decode cX6_spot 40 = .ok (.tableswitch 72 0 3 #[32, 40, 48, 56], 32) := by decide +kernel
theorem dX6_spot_72 : decode cX6_spot 72 = .ok (.aload_n 0, 1) := by decide +kernel
theorem dX6_spot_73 : decode cX6_spot 73 = .ok (.getfield 44, 3) := by decide +kernel
theorem dX6_spot_76 : decode cX6_spot 76 = .ok (.iload 4, 2) := by decide +kernel
theorem dX6_spot_78 : decode cX6_spot 78 = .ok (.iaload, 1) := by decide +kernel
theorem dX6_spot_79 : decode cX6_spot 79 = .ok (.ireturn, 1) := by decide +kernel
theorem dX6_spot_80 : decode cX6_spot 80 = .ok (.aload_n 0, 1) := by decide +kernel
theorem dX6_spot_81 : decode cX6_spot 81 = .ok (.getfield 47, 3) := by decide +kernel
theorem dX6_spot_84 : decode cX6_spot 84 = .ok (.iload 4, 2) := by decide +kernel
theorem dX6_spot_86 : decode cX6_spot 86 = .ok (.iaload, 1) := by decide +kernel
theorem dX6_spot_87 : decode cX6_spot 87 = .ok (.ireturn, 1) := by decide +kernel
theorem dX6_spot_88 : decode cX6_spot 88 = .ok (.aload_n 0, 1) := by decide +kernel
theorem dX6_spot_89 : decode cX6_spot 89 = .ok (.getfield 50, 3) := by decide +kernel
theorem dX6_spot_92 : decode cX6_spot 92 = .ok (.iload 4, 2) := by decide +kernel
theorem dX6_spot_94 : decode cX6_spot 94 = .ok (.iaload, 1) := by decide +kernel
theorem dX6_spot_95 : decode cX6_spot 95 = .ok (.ireturn, 1) := by decide +kernel
theorem dX6_spot_96 : decode cX6_spot 96 = .ok (.aload_n 0, 1) := by decide +kernel
theorem dX6_spot_97 : decode cX6_spot 97 = .ok (.getfield 53, 3) := by decide +kernel
theorem dX6_spot_100 : decode cX6_spot 100 = .ok (.iload 4, 2) := by decide +kernel
theorem dX6_spot_102 : decode cX6_spot 102 = .ok (.baload, 1) := by decide +kernel
theorem dX6_spot_103 : decode cX6_spot 103 = .ok (.ifCond .eq 7, 3) := by decide +kernel
theorem dX6_spot_106 : decode cX6_spot 106 = .ok (.iconst 1, 1) := by decide +kernel
theorem dX6_spot_107 : decode cX6_spot 107 = .ok (.goto 4, 3) := by decide +kernel
theorem dX6_spot_110 : decode cX6_spot 110 = .ok (.iconst 0, 1) := by decide +kernel
theorem dX6_spot_111 : decode cX6_spot 111 = .ok (.ireturn, 1) := by decide +kernel
theorem dX6_spot_112 : decode cX6_spot 112 = .ok (.iconst (-1), 1) := by decide +kernel
theorem dX6_spot_113 : decode cX6_spot 113 = .ok (.ireturn, 1) := by decide +kernel
theorem dX6_byMove_0 : decode cX6_byMove 0 = .ok (.iconst 1, 1) := by decide +kernel
theorem dX6_byMove_1 : decode cX6_byMove 1 = .ok (.aload_n 0, 1) := by decide +kernel
theorem dX6_byMove_2 : decode cX6_byMove 2 = .ok (.getfield 135, 3) := by decide +kernel
theorem dX6_byMove_5 : decode cX6_byMove 5 = .ok (.ishl, 1) := by decide +kernel
theorem dX6_byMove_6 : decode cX6_byMove 6 = .ok (.istore_n 3, 1) := by decide +kernel
theorem dX6_byMove_7 : decode cX6_byMove 7 = .ok (.iconst 0, 1) := by decide +kernel
theorem dX6_byMove_8 : decode cX6_byMove 8 = .ok (.istore 4, 2) := by decide +kernel
theorem dX6_byMove_10 : decode cX6_byMove 10 = .ok (.iload 4, 2) := by decide +kernel
theorem dX6_byMove_12 : decode cX6_byMove 12 = .ok (.iload_n 3, 1) := by decide +kernel
theorem dX6_byMove_13 : decode cX6_byMove 13 = .ok (.if_icmp .ge 27, 3) := by decide +kernel
theorem dX6_byMove_16 : decode cX6_byMove 16 = .ok (.aload_n 0, 1) := by decide +kernel
theorem dX6_byMove_17 : decode cX6_byMove 17 = .ok (.getfield 78, 3) := by decide +kernel
theorem dX6_byMove_20 : decode cX6_byMove 20 = .ok (.iload 4, 2) := by decide +kernel
theorem dX6_byMove_22 : decode cX6_byMove 22 = .ok (.iload 4, 2) := by decide +kernel
theorem dX6_byMove_24 : decode cX6_byMove 24 = .ok (.ifCond .ne 7, 3) := by decide +kernel
theorem dX6_byMove_27 : decode cX6_byMove 27 = .ok (.iconst 0, 1) := by decide +kernel
theorem dX6_byMove_28 : decode cX6_byMove 28 = .ok (.goto 5, 3) := by decide +kernel
theorem dX6_byMove_31 : decode cX6_byMove 31 = .ok (.ldc 138, 2) := by decide +kernel
theorem dX6_byMove_33 : decode cX6_byMove 33 = .ok (.iastore, 1) := by decide +kernel
theorem dX6_byMove_34 : decode cX6_byMove 34 = .ok (.iinc 4 1, 3) := by decide +kernel
theorem dX6_byMove_37 : decode cX6_byMove 37 = .ok (.goto (-27), 3) := by decide +kernel
theorem dX6_byMove_40 : decode cX6_byMove 40 = .ok (.iconst 0, 1) := by decide +kernel
theorem dX6_byMove_41 : decode cX6_byMove 41 = .ok (.istore 4, 2) := by decide +kernel
theorem dX6_byMove_43 : decode cX6_byMove 43 = .ok (.iload 4, 2) := by decide +kernel
theorem dX6_byMove_45 : decode cX6_byMove 45 = .ok (.aload_n 0, 1) := by decide +kernel
theorem dX6_byMove_46 : decode cX6_byMove 46 = .ok (.getfield 139, 3) := by decide +kernel
theorem dX6_byMove_49 : decode cX6_byMove 49 = .ok (.if_icmp .ge 297, 3) := by decide +kernel
theorem dX6_byMove_52 : decode cX6_byMove 52 = .ok (.aload_n 0, 1) := by decide +kernel
theorem dX6_byMove_53 : decode cX6_byMove 53 = .ok (.getfield 75, 3) := by decide +kernel
theorem dX6_byMove_56 : decode cX6_byMove 56 = .ok (.iload 4, 2) := by decide +kernel
theorem dX6_byMove_58 : decode cX6_byMove 58 = .ok (.baload, 1) := by decide +kernel
theorem dX6_byMove_59 : decode cX6_byMove 59 = .ok (.ifCond .eq 12, 3) := by decide +kernel
theorem dX6_byMove_62 : decode cX6_byMove 62 = .ok (.aload_n 0, 1) := by decide +kernel
theorem dX6_byMove_63 : decode cX6_byMove 63 = .ok (.getfield 25, 3) := by decide +kernel
theorem dX6_byMove_66 : decode cX6_byMove 66 = .ok (.iconst 3, 1) := by decide +kernel
theorem dX6_byMove_67 : decode cX6_byMove 67 = .ok (.iaload, 1) := by decide +kernel
theorem dX6_byMove_68 : decode cX6_byMove 68 = .ok (.goto 11, 3) := by decide +kernel
theorem dX6_byMove_71 : decode cX6_byMove 71 = .ok (.aload_n 0, 1) := by decide +kernel
theorem dX6_byMove_72 : decode cX6_byMove 72 = .ok (.getfield 25, 3) := by decide +kernel
theorem dX6_byMove_75 : decode cX6_byMove 75 = .ok (.iconst 3, 1) := by decide +kernel
theorem dX6_byMove_76 : decode cX6_byMove 76 = .ok (.iaload, 1) := by decide +kernel
theorem dX6_byMove_77 : decode cX6_byMove 77 = .ok (.iconst 2, 1) := by decide +kernel
theorem dX6_byMove_78 : decode cX6_byMove 78 = .ok (.idiv, 1) := by decide +kernel
theorem dX6_byMove_79 : decode cX6_byMove 79 = .ok (.istore 5, 2) := by decide +kernel
theorem dX6_byMove_81 : decode cX6_byMove 81 = .ok (.iconst 0, 1) := by decide +kernel
theorem dX6_byMove_82 : decode cX6_byMove 82 = .ok (.istore 6, 2) := by decide +kernel
theorem dX6_byMove_84 : decode cX6_byMove 84 = .ok (.iconst 0, 1) := by decide +kernel
theorem dX6_byMove_85 : decode cX6_byMove 85 = .ok (.istore 7, 2) := by decide +kernel
theorem dX6_byMove_87 : decode cX6_byMove 87 = .ok (.iload 7, 2) := by decide +kernel
theorem dX6_byMove_89 : decode cX6_byMove 89 = .ok (.aload_n 0, 1) := by decide +kernel
theorem dX6_byMove_90 : decode cX6_byMove 90 = .ok (.getfield 135, 3) := by decide +kernel
theorem dX6_byMove_93 : decode cX6_byMove 93 = .ok (.if_icmp .ge 33, 3) := by decide +kernel
theorem dX6_byMove_96 : decode cX6_byMove 96 = .ok (.iload 6, 2) := by decide +kernel
theorem dX6_byMove_98 : decode cX6_byMove 98 = .ok (.ifCond .ne 15, 3) := by decide +kernel
theorem dX6_byMove_101 : decode cX6_byMove 101 = .ok (.aload_n 0, 1) := by decide +kernel
theorem dX6_byMove_102 : decode cX6_byMove 102 = .ok (.getfield 81, 3) := by decide +kernel
theorem dX6_byMove_105 : decode cX6_byMove 105 = .ok (.iload 7, 2) := by decide +kernel
theorem dX6_byMove_107 : decode cX6_byMove 107 = .ok (.iaload, 1) := by decide +kernel
theorem dX6_byMove_108 : decode cX6_byMove 108 = .ok (.iload 4, 2) := by decide +kernel
theorem dX6_byMove_110 : decode cX6_byMove 110 = .ok (.if_icmp .ne 7, 3) := by decide +kernel
theorem dX6_byMove_113 : decode cX6_byMove 113 = .ok (.iconst 1, 1) := by decide +kernel
theorem dX6_byMove_114 : decode cX6_byMove 114 = .ok (.goto 4, 3) := by decide +kernel
theorem dX6_byMove_117 : decode cX6_byMove 117 = .ok (.iconst 0, 1) := by decide +kernel
theorem dX6_byMove_118 : decode cX6_byMove 118 = .ok (.istore 6, 2) := by decide +kernel
theorem dX6_byMove_120 : decode cX6_byMove 120 = .ok (.iinc 7 1, 3) := by decide +kernel
theorem dX6_byMove_123 : decode cX6_byMove 123 = .ok (.goto (-36), 3) := by decide +kernel
theorem dX6_byMove_126 : decode cX6_byMove 126 = .ok (.iconst 0, 1) := by decide +kernel
theorem dX6_byMove_127 : decode cX6_byMove 127 = .ok (.istore 7, 2) := by decide +kernel
theorem dX6_byMove_129 : decode cX6_byMove 129 = .ok (.iload 7, 2) := by decide +kernel
theorem dX6_byMove_131 : decode cX6_byMove 131 = .ok (.iload_n 3, 1) := by decide +kernel
theorem dX6_byMove_132 : decode cX6_byMove 132 = .ok (.if_icmp .ge 52, 3) := by decide +kernel
theorem dX6_byMove_135 : decode cX6_byMove 135 = .ok (.aload_n 0, 1) := by decide +kernel
theorem dX6_byMove_136 : decode cX6_byMove 136 = .ok (.getfield 78, 3) := by decide +kernel
theorem dX6_byMove_139 : decode cX6_byMove 139 = .ok (.sipush 256, 3) := by decide +kernel
theorem dX6_byMove_142 : decode cX6_byMove 142 = .ok (.iload 4, 2) := by decide +kernel
theorem dX6_byMove_144 : decode cX6_byMove 144 = .ok (.iconst 1, 1) := by decide +kernel
theorem dX6_byMove_145 : decode cX6_byMove 145 = .ok (.iadd, 1) := by decide +kernel
theorem dX6_byMove_146 : decode cX6_byMove 146 = .ok (.imul, 1) := by decide +kernel
theorem dX6_byMove_147 : decode cX6_byMove 147 = .ok (.iload 7, 2) := by decide +kernel
theorem dX6_byMove_149 : decode cX6_byMove 149 = .ok (.iadd, 1) := by decide +kernel
theorem dX6_byMove_150 : decode cX6_byMove 150 = .ok (.iload 6, 2) := by decide +kernel
theorem dX6_byMove_152 : decode cX6_byMove 152 = .ok (.ifCond .eq 8, 3) := by decide +kernel
theorem dX6_byMove_155 : decode cX6_byMove 155 = .ok (.ldc 138, 2) := by decide +kernel
theorem dX6_byMove_157 : decode cX6_byMove 157 = .ok (.goto 20, 3) := by decide +kernel
theorem dX6_byMove_160 : decode cX6_byMove 160 = .ok (.aload_n 0, 1) := by decide +kernel
theorem dX6_byMove_161 : decode cX6_byMove 161 = .ok (.getfield 78, 3) := by decide +kernel
theorem dX6_byMove_164 : decode cX6_byMove 164 = .ok (.sipush 256, 3) := by decide +kernel
theorem dX6_byMove_167 : decode cX6_byMove 167 = .ok (.iload 4, 2) := by decide +kernel
theorem dX6_byMove_169 : decode cX6_byMove 169 = .ok (.imul, 1) := by decide +kernel
theorem dX6_byMove_170 : decode cX6_byMove 170 = .ok (.iload 7, 2) := by decide +kernel
theorem dX6_byMove_172 : decode cX6_byMove 172 = .ok (.iadd, 1) := by decide +kernel
theorem dX6_byMove_173 : decode cX6_byMove 173 = .ok (.iaload, 1) := by decide +kernel
theorem dX6_byMove_174 : decode cX6_byMove 174 = .ok (.iload 5, 2) := by decide +kernel
theorem dX6_byMove_176 : decode cX6_byMove 176 = .ok (.iadd, 1) := by decide +kernel
theorem dX6_byMove_177 : decode cX6_byMove 177 = .ok (.iastore, 1) := by decide +kernel
theorem dX6_byMove_178 : decode cX6_byMove 178 = .ok (.iinc 7 1, 3) := by decide +kernel
theorem dX6_byMove_181 : decode cX6_byMove 181 = .ok (.goto (-52), 3) := by decide +kernel
theorem dX6_byMove_184 : decode cX6_byMove 184 = .ok (.iconst 0, 1) := by decide +kernel
theorem dX6_byMove_185 : decode cX6_byMove 185 = .ok (.istore 7, 2) := by decide +kernel
theorem dX6_byMove_187 : decode cX6_byMove 187 = .ok (.iload 7, 2) := by decide +kernel
theorem dX6_byMove_189 : decode cX6_byMove 189 = .ok (.aload_n 0, 1) := by decide +kernel
theorem dX6_byMove_190 : decode cX6_byMove 190 = .ok (.getfield 135, 3) := by decide +kernel
theorem dX6_byMove_193 : decode cX6_byMove 193 = .ok (.if_icmp .ge 147, 3) := by decide +kernel
theorem dX6_byMove_196 : decode cX6_byMove 196 = .ok (.aload_n 0, 1) := by decide +kernel
theorem dX6_byMove_197 : decode cX6_byMove 197 = .ok (.getfield 81, 3) := by decide +kernel
theorem dX6_byMove_200 : decode cX6_byMove 200 = .ok (.iload 7, 2) := by decide +kernel
theorem dX6_byMove_202 : decode cX6_byMove 202 = .ok (.iaload, 1) := by decide +kernel
theorem dX6_byMove_203 : decode cX6_byMove 203 = .ok (.iload 4, 2) := by decide +kernel
theorem dX6_byMove_205 : decode cX6_byMove 205 = .ok (.if_icmp .eq 23, 3) := by decide +kernel
theorem dX6_byMove_208 : decode cX6_byMove 208 = .ok (.aload_n 0, 1) := by decide +kernel
theorem dX6_byMove_209 : decode cX6_byMove 209 = .ok (.getfield 81, 3) := by decide +kernel
theorem dX6_byMove_212 : decode cX6_byMove 212 = .ok (.iload 7, 2) := by decide +kernel
theorem dX6_byMove_214 : decode cX6_byMove 214 = .ok (.iaload, 1) := by decide +kernel
theorem dX6_byMove_215 : decode cX6_byMove 215 = .ok (.bipush (-2), 2) := by decide +kernel
theorem dX6_byMove_217 : decode cX6_byMove 217 = .ok (.if_icmp .ne 117, 3) := by decide +kernel
theorem dX6_byMove_220 : decode cX6_byMove 220 = .ok (.iload 6, 2) := by decide +kernel
theorem dX6_byMove_222 : decode cX6_byMove 222 = .ok (.ifCond .eq 6, 3) := by decide +kernel
theorem dX6_byMove_225 : decode cX6_byMove 225 = .ok (.goto 109, 3) := by decide +kernel
theorem dX6_byMove_228 : decode cX6_byMove 228 = .ok (.aload_n 0, 1) := by decide +kernel
theorem dX6_byMove_229 : decode cX6_byMove 229 = .ok (.iload 7, 2) := by decide +kernel
theorem dX6_byMove_231 : decode cX6_byMove 231 = .ok (.iload 4, 2) := by decide +kernel
theorem dX6_byMove_233 : decode cX6_byMove 233 = .ok (.iload_n 1, 1) := by decide +kernel
theorem dX6_byMove_234 : decode cX6_byMove 234 = .ok (.iload_n 2, 1) := by decide +kernel
theorem dX6_byMove_235 : decode cX6_byMove 235 = .ok (.invokevirtual 142, 3) := by decide +kernel
theorem dX6_byMove_238 : decode cX6_byMove 238 = .ok (.istore 8, 2) := by decide +kernel
theorem dX6_byMove_240 : decode cX6_byMove 240 = .ok (.iconst 0, 1) := by decide +kernel
theorem dX6_byMove_241 : decode cX6_byMove 241 = .ok (.istore 9, 2) := by decide +kernel
theorem dX6_byMove_243 : decode cX6_byMove 243 = .ok (.iload 9, 2) := by decide +kernel
theorem dX6_byMove_245 : decode cX6_byMove 245 = .ok (.iload_n 3, 1) := by decide +kernel
theorem dX6_byMove_246 : decode cX6_byMove 246 = .ok (.if_icmp .ge 88, 3) := by decide +kernel
theorem dX6_byMove_249 : decode cX6_byMove 249 = .ok (.sipush 256, 3) := by decide +kernel
theorem dX6_byMove_252 : decode cX6_byMove 252 = .ok (.iload 4, 2) := by decide +kernel
theorem dX6_byMove_254 : decode cX6_byMove 254 = .ok (.iconst 1, 1) := by decide +kernel
theorem dX6_byMove_255 : decode cX6_byMove 255 = .ok (.iadd, 1) := by decide +kernel
theorem dX6_byMove_256 : decode cX6_byMove 256 = .ok (.imul, 1) := by decide +kernel
theorem dX6_byMove_257 : decode cX6_byMove 257 = .ok (.iload 9, 2) := by decide +kernel
theorem dX6_byMove_259 : decode cX6_byMove 259 = .ok (.iconst 1, 1) := by decide +kernel
theorem dX6_byMove_260 : decode cX6_byMove 260 = .ok (.iload 7, 2) := by decide +kernel
theorem dX6_byMove_262 : decode cX6_byMove 262 = .ok (.ishl, 1) := by decide +kernel
theorem dX6_byMove_263 : decode cX6_byMove 263 = .ok (.ior, 1) := by decide +kernel
theorem dX6_byMove_264 : decode cX6_byMove 264 = .ok (.iadd, 1) := by decide +kernel
theorem dX6_byMove_265 : decode cX6_byMove 265 = .ok (.istore 10, 2) := by decide +kernel
theorem dX6_byMove_267 : decode cX6_byMove 267 = .ok (.iload 9, 2) := by decide +kernel
theorem dX6_byMove_269 : decode cX6_byMove 269 = .ok (.iload 7, 2) := by decide +kernel
theorem dX6_byMove_271 : decode cX6_byMove 271 = .ok (.ishr, 1) := by decide +kernel
theorem dX6_byMove_272 : decode cX6_byMove 272 = .ok (.iconst 1, 1) := by decide +kernel
theorem dX6_byMove_273 : decode cX6_byMove 273 = .ok (.iand, 1) := by decide +kernel
theorem dX6_byMove_274 : decode cX6_byMove 274 = .ok (.ifCond .ne 54, 3) := by decide +kernel
theorem dX6_byMove_277 : decode cX6_byMove 277 = .ok (.aload_n 0, 1) := by decide +kernel
theorem dX6_byMove_278 : decode cX6_byMove 278 = .ok (.getfield 78, 3) := by decide +kernel
theorem dX6_byMove_281 : decode cX6_byMove 281 = .ok (.sipush 256, 3) := by decide +kernel
theorem dX6_byMove_284 : decode cX6_byMove 284 = .ok (.iload 4, 2) := by decide +kernel
theorem dX6_byMove_286 : decode cX6_byMove 286 = .ok (.imul, 1) := by decide +kernel
theorem dX6_byMove_287 : decode cX6_byMove 287 = .ok (.iload 9, 2) := by decide +kernel
theorem dX6_byMove_289 : decode cX6_byMove 289 = .ok (.iadd, 1) := by decide +kernel
theorem dX6_byMove_290 : decode cX6_byMove 290 = .ok (.iaload, 1) := by decide +kernel
theorem dX6_byMove_291 : decode cX6_byMove 291 = .ok (.iload 8, 2) := by decide +kernel
theorem dX6_byMove_293 : decode cX6_byMove 293 = .ok (.iadd, 1) := by decide +kernel
theorem dX6_byMove_294 : decode cX6_byMove 294 = .ok (.aload_n 0, 1) := by decide +kernel
theorem dX6_byMove_295 : decode cX6_byMove 295 = .ok (.getfield 78, 3) := by decide +kernel
theorem dX6_byMove_298 : decode cX6_byMove 298 = .ok (.iload 10, 2) := by decide +kernel
theorem dX6_byMove_300 : decode cX6_byMove 300 = .ok (.iaload, 1) := by decide +kernel
theorem dX6_byMove_301 : decode cX6_byMove 301 = .ok (.if_icmp .ge 27, 3) := by decide +kernel
theorem dX6_byMove_304 : decode cX6_byMove 304 = .ok (.aload_n 0, 1) := by decide +kernel
theorem dX6_byMove_305 : decode cX6_byMove 305 = .ok (.getfield 78, 3) := by decide +kernel
theorem dX6_byMove_308 : decode cX6_byMove 308 = .ok (.iload 10, 2) := by decide +kernel
theorem dX6_byMove_310 : decode cX6_byMove 310 = .ok (.aload_n 0, 1) := by decide +kernel
theorem dX6_byMove_311 : decode cX6_byMove 311 = .ok (.getfield 78, 3) := by decide +kernel
theorem dX6_byMove_314 : decode cX6_byMove 314 = .ok (.sipush 256, 3) := by decide +kernel
theorem dX6_byMove_317 : decode cX6_byMove 317 = .ok (.iload 4, 2) := by decide +kernel
theorem dX6_byMove_319 : decode cX6_byMove 319 = .ok (.imul, 1) := by decide +kernel
theorem dX6_byMove_320 : decode cX6_byMove 320 = .ok (.iload 9, 2) := by decide +kernel
theorem dX6_byMove_322 : decode cX6_byMove 322 = .ok (.iadd, 1) := by decide +kernel
theorem dX6_byMove_323 : decode cX6_byMove 323 = .ok (.iaload, 1) := by decide +kernel
theorem dX6_byMove_324 : decode cX6_byMove 324 = .ok (.iload 8, 2) := by decide +kernel
theorem dX6_byMove_326 : decode cX6_byMove 326 = .ok (.iadd, 1) := by decide +kernel
theorem dX6_byMove_327 : decode cX6_byMove 327 = .ok (.iastore, 1) := by decide +kernel
theorem dX6_byMove_328 : decode cX6_byMove 328 = .ok (.iinc 9 1, 3) := by decide +kernel
theorem dX6_byMove_331 : decode cX6_byMove 331 = .ok (.goto (-88), 3) := by decide +kernel
theorem dX6_byMove_334 : decode cX6_byMove 334 = .ok (.iinc 7 1, 3) := by decide +kernel
theorem dX6_byMove_337 : decode cX6_byMove 337 = .ok (.goto (-150), 3) := by decide +kernel
theorem dX6_byMove_340 : decode cX6_byMove 340 = .ok (.iinc 4 1, 3) := by decide +kernel
theorem dX6_byMove_343 : decode cX6_byMove 343 = .ok (.goto (-300), 3) := by decide +kernel
theorem dX6_byMove_346 : decode cX6_byMove 346 = .ok (.ldc 138, 2) := by decide +kernel
theorem dX6_byMove_348 : decode cX6_byMove 348 = .ok (.istore 4, 2) := by decide +kernel
theorem dX6_byMove_350 : decode cX6_byMove 350 = .ok (.iconst 0, 1) := by decide +kernel
theorem dX6_byMove_351 : decode cX6_byMove 351 = .ok (.istore 5, 2) := by decide +kernel
theorem dX6_byMove_353 : decode cX6_byMove 353 = .ok (.iload 5, 2) := by decide +kernel
theorem dX6_byMove_355 : decode cX6_byMove 355 = .ok (.iload_n 3, 1) := by decide +kernel
theorem dX6_byMove_356 : decode cX6_byMove 356 = .ok (.if_icmp .ge 86, 3) := by decide +kernel
theorem dX6_byMove_359 : decode cX6_byMove 359 = .ok (.aload_n 0, 1) := by decide +kernel
theorem dX6_byMove_360 : decode cX6_byMove 360 = .ok (.getfield 78, 3) := by decide +kernel
theorem dX6_byMove_363 : decode cX6_byMove 363 = .ok (.sipush 256, 3) := by decide +kernel
theorem dX6_byMove_366 : decode cX6_byMove 366 = .ok (.aload_n 0, 1) := by decide +kernel
theorem dX6_byMove_367 : decode cX6_byMove 367 = .ok (.getfield 139, 3) := by decide +kernel
theorem dX6_byMove_370 : decode cX6_byMove 370 = .ok (.imul, 1) := by decide +kernel
theorem dX6_byMove_371 : decode cX6_byMove 371 = .ok (.iload 5, 2) := by decide +kernel
theorem dX6_byMove_373 : decode cX6_byMove 373 = .ok (.iadd, 1) := by decide +kernel
theorem dX6_byMove_374 : decode cX6_byMove 374 = .ok (.iaload, 1) := by decide +kernel
theorem dX6_byMove_375 : decode cX6_byMove 375 = .ok (.istore 6, 2) := by decide +kernel
theorem dX6_byMove_377 : decode cX6_byMove 377 = .ok (.iconst 0, 1) := by decide +kernel
theorem dX6_byMove_378 : decode cX6_byMove 378 = .ok (.istore 7, 2) := by decide +kernel
theorem dX6_byMove_380 : decode cX6_byMove 380 = .ok (.iload 7, 2) := by decide +kernel
theorem dX6_byMove_382 : decode cX6_byMove 382 = .ok (.aload_n 0, 1) := by decide +kernel
theorem dX6_byMove_383 : decode cX6_byMove 383 = .ok (.getfield 135, 3) := by decide +kernel
theorem dX6_byMove_386 : decode cX6_byMove 386 = .ok (.if_icmp .ge 34, 3) := by decide +kernel
theorem dX6_byMove_389 : decode cX6_byMove 389 = .ok (.iload 6, 2) := by decide +kernel
theorem dX6_byMove_391 : decode cX6_byMove 391 = .ok (.iload 5, 2) := by decide +kernel
theorem dX6_byMove_393 : decode cX6_byMove 393 = .ok (.iload 7, 2) := by decide +kernel
theorem dX6_byMove_395 : decode cX6_byMove 395 = .ok (.ishr, 1) := by decide +kernel
theorem dX6_byMove_396 : decode cX6_byMove 396 = .ok (.iconst 1, 1) := by decide +kernel
theorem dX6_byMove_397 : decode cX6_byMove 397 = .ok (.iand, 1) := by decide +kernel
theorem dX6_byMove_398 : decode cX6_byMove 398 = .ok (.ifCond .ne 12, 3) := by decide +kernel
theorem dX6_byMove_401 : decode cX6_byMove 401 = .ok (.aload_n 0, 1) := by decide +kernel
theorem dX6_byMove_402 : decode cX6_byMove 402 = .ok (.getfield 25, 3) := by decide +kernel
theorem dX6_byMove_405 : decode cX6_byMove 405 = .ok (.iconst 4, 1) := by decide +kernel
theorem dX6_byMove_406 : decode cX6_byMove 406 = .ok (.iaload, 1) := by decide +kernel
theorem dX6_byMove_407 : decode cX6_byMove 407 = .ok (.goto 4, 3) := by decide +kernel
theorem dX6_byMove_410 : decode cX6_byMove 410 = .ok (.iconst 0, 1) := by decide +kernel
theorem dX6_byMove_411 : decode cX6_byMove 411 = .ok (.iadd, 1) := by decide +kernel
theorem dX6_byMove_412 : decode cX6_byMove 412 = .ok (.istore 6, 2) := by decide +kernel
theorem dX6_byMove_414 : decode cX6_byMove 414 = .ok (.iinc 7 1, 3) := by decide +kernel
theorem dX6_byMove_417 : decode cX6_byMove 417 = .ok (.goto (-37), 3) := by decide +kernel
theorem dX6_byMove_420 : decode cX6_byMove 420 = .ok (.iload 6, 2) := by decide +kernel
theorem dX6_byMove_422 : decode cX6_byMove 422 = .ok (.iload 4, 2) := by decide +kernel
theorem dX6_byMove_424 : decode cX6_byMove 424 = .ok (.if_icmp .ge 8, 3) := by decide +kernel
theorem dX6_byMove_427 : decode cX6_byMove 427 = .ok (.iload 6, 2) := by decide +kernel
theorem dX6_byMove_429 : decode cX6_byMove 429 = .ok (.goto 5, 3) := by decide +kernel
theorem dX6_byMove_432 : decode cX6_byMove 432 = .ok (.iload 4, 2) := by decide +kernel
theorem dX6_byMove_434 : decode cX6_byMove 434 = .ok (.istore 4, 2) := by decide +kernel
theorem dX6_byMove_436 : decode cX6_byMove 436 = .ok (.iinc 5 1, 3) := by decide +kernel
theorem dX6_byMove_439 : decode cX6_byMove 439 = .ok (.goto (-86), 3) := by decide +kernel
theorem dX6_byMove_442 : decode cX6_byMove 442 = .ok (.iload 4, 2) := by decide +kernel
theorem dX6_byMove_444 : decode cX6_byMove 444 = .ok (.aload_n 0, 1) := by decide +kernel
theorem dX6_byMove_445 : decode cX6_byMove 445 = .ok (.getfield 25, 3) := by decide +kernel
theorem dX6_byMove_448 : decode cX6_byMove 448 = .ok (.iconst 0, 1) := by decide +kernel
theorem dX6_byMove_449 : decode cX6_byMove 449 = .ok (.iaload, 1) := by decide +kernel
theorem dX6_byMove_450 : decode cX6_byMove 450 = .ok (.iload_n 1, 1) := by decide +kernel
theorem dX6_byMove_451 : decode cX6_byMove 451 = .ok (.iconst 0, 1) := by decide +kernel
theorem dX6_byMove_452 : decode cX6_byMove 452 = .ok (.invokestatic 132, 3) := by decide +kernel
theorem dX6_byMove_455 : decode cX6_byMove 455 = .ok (.iload_n 2, 1) := by decide +kernel
theorem dX6_byMove_456 : decode cX6_byMove 456 = .ok (.iconst 0, 1) := by decide +kernel
theorem dX6_byMove_457 : decode cX6_byMove 457 = .ok (.invokestatic 132, 3) := by decide +kernel
theorem dX6_byMove_460 : decode cX6_byMove 460 = .ok (.iadd, 1) := by decide +kernel
theorem dX6_byMove_461 : decode cX6_byMove 461 = .ok (.imul, 1) := by decide +kernel
theorem dX6_byMove_462 : decode cX6_byMove 462 = .ok (.iadd, 1) := by decide +kernel
theorem dX6_byMove_463 : decode cX6_byMove 463 = .ok (.ireturn, 1) := by decide +kernel
theorem dX6_takesSpots_0 : decode cX6_takesSpots 0 = .ok (.aload_n 0, 1) := by decide +kernel
theorem dX6_takesSpots_1 : decode cX6_takesSpots 1 = .ok (.aload_n 0, 1) := by decide +kernel
theorem dX6_takesSpots_2 : decode cX6_takesSpots 2 = .ok (.getfield 41, 3) := by decide +kernel
theorem dX6_takesSpots_5 : decode cX6_takesSpots 5 = .ok (.iload_n 1, 1) := by decide +kernel
theorem dX6_takesSpots_6 : decode cX6_takesSpots 6 = .ok (.iaload, 1) := by decide +kernel
theorem dX6_takesSpots_7 : decode cX6_takesSpots 7 = .ok (.putfield 139, 3) := by decide +kernel
theorem dX6_takesSpots_10 : decode cX6_takesSpots 10 = .ok (.iconst 0, 1) := by decide +kernel
theorem dX6_takesSpots_11 : decode cX6_takesSpots 11 = .ok (.istore_n 2, 1) := by decide +kernel
theorem dX6_takesSpots_12 : decode cX6_takesSpots 12 = .ok (.iload_n 2, 1) := by decide +kernel
theorem dX6_takesSpots_13 : decode cX6_takesSpots 13 = .ok (.aload_n 0, 1) := by decide +kernel
theorem dX6_takesSpots_14 : decode cX6_takesSpots 14 = .ok (.getfield 139, 3) := by decide +kernel
theorem dX6_takesSpots_17 : decode cX6_takesSpots 17 = .ok (.if_icmp .ge 77, 3) := by decide +kernel
theorem dX6_takesSpots_20 : decode cX6_takesSpots 20 = .ok (.aload_n 0, 1) := by decide +kernel
theorem dX6_takesSpots_21 : decode cX6_takesSpots 21 = .ok (.getfield 66, 3) := by decide +kernel
theorem dX6_takesSpots_24 : decode cX6_takesSpots 24 = .ok (.iload_n 2, 1) := by decide +kernel
theorem dX6_takesSpots_25 : decode cX6_takesSpots 25 = .ok (.aload_n 0, 1) := by decide +kernel
theorem dX6_takesSpots_26 : decode cX6_takesSpots 26 = .ok (.getfield 47, 3) := by decide +kernel
theorem dX6_takesSpots_29 : decode cX6_takesSpots 29 = .ok (.bipush 16, 2) := by decide +kernel
theorem dX6_takesSpots_31 : decode cX6_takesSpots 31 = .ok (.iload_n 1, 1) := by decide +kernel
theorem dX6_takesSpots_32 : decode cX6_takesSpots 32 = .ok (.imul, 1) := by decide +kernel
theorem dX6_takesSpots_33 : decode cX6_takesSpots 33 = .ok (.iload_n 2, 1) := by decide +kernel
theorem dX6_takesSpots_34 : decode cX6_takesSpots 34 = .ok (.iadd, 1) := by decide +kernel
theorem dX6_takesSpots_35 : decode cX6_takesSpots 35 = .ok (.iaload, 1) := by decide +kernel
theorem dX6_takesSpots_36 : decode cX6_takesSpots 36 = .ok (.iastore, 1) := by decide +kernel
theorem dX6_takesSpots_37 : decode cX6_takesSpots 37 = .ok (.aload_n 0, 1) := by decide +kernel
theorem dX6_takesSpots_38 : decode cX6_takesSpots 38 = .ok (.getfield 69, 3) := by decide +kernel
theorem dX6_takesSpots_41 : decode cX6_takesSpots 41 = .ok (.iload_n 2, 1) := by decide +kernel
theorem dX6_takesSpots_42 : decode cX6_takesSpots 42 = .ok (.aload_n 0, 1) := by decide +kernel
theorem dX6_takesSpots_43 : decode cX6_takesSpots 43 = .ok (.getfield 50, 3) := by decide +kernel
theorem dX6_takesSpots_46 : decode cX6_takesSpots 46 = .ok (.bipush 16, 2) := by decide +kernel
theorem dX6_takesSpots_48 : decode cX6_takesSpots 48 = .ok (.iload_n 1, 1) := by decide +kernel
theorem dX6_takesSpots_49 : decode cX6_takesSpots 49 = .ok (.imul, 1) := by decide +kernel
theorem dX6_takesSpots_50 : decode cX6_takesSpots 50 = .ok (.iload_n 2, 1) := by decide +kernel
theorem dX6_takesSpots_51 : decode cX6_takesSpots 51 = .ok (.iadd, 1) := by decide +kernel
theorem dX6_takesSpots_52 : decode cX6_takesSpots 52 = .ok (.iaload, 1) := by decide +kernel
theorem dX6_takesSpots_53 : decode cX6_takesSpots 53 = .ok (.iastore, 1) := by decide +kernel
theorem dX6_takesSpots_54 : decode cX6_takesSpots 54 = .ok (.aload_n 0, 1) := by decide +kernel
theorem dX6_takesSpots_55 : decode cX6_takesSpots 55 = .ok (.getfield 72, 3) := by decide +kernel
theorem dX6_takesSpots_58 : decode cX6_takesSpots 58 = .ok (.iload_n 2, 1) := by decide +kernel
theorem dX6_takesSpots_59 : decode cX6_takesSpots 59 = .ok (.aload_n 0, 1) := by decide +kernel
theorem dX6_takesSpots_60 : decode cX6_takesSpots 60 = .ok (.getfield 44, 3) := by decide +kernel
theorem dX6_takesSpots_63 : decode cX6_takesSpots 63 = .ok (.bipush 16, 2) := by decide +kernel
theorem dX6_takesSpots_65 : decode cX6_takesSpots 65 = .ok (.iload_n 1, 1) := by decide +kernel
theorem dX6_takesSpots_66 : decode cX6_takesSpots 66 = .ok (.imul, 1) := by decide +kernel
theorem dX6_takesSpots_67 : decode cX6_takesSpots 67 = .ok (.iload_n 2, 1) := by decide +kernel
theorem dX6_takesSpots_68 : decode cX6_takesSpots 68 = .ok (.iadd, 1) := by decide +kernel
theorem dX6_takesSpots_69 : decode cX6_takesSpots 69 = .ok (.iaload, 1) := by decide +kernel
theorem dX6_takesSpots_70 : decode cX6_takesSpots 70 = .ok (.iastore, 1) := by decide +kernel
theorem dX6_takesSpots_71 : decode cX6_takesSpots 71 = .ok (.aload_n 0, 1) := by decide +kernel
theorem dX6_takesSpots_72 : decode cX6_takesSpots 72 = .ok (.getfield 75, 3) := by decide +kernel
theorem dX6_takesSpots_75 : decode cX6_takesSpots 75 = .ok (.iload_n 2, 1) := by decide +kernel
theorem dX6_takesSpots_76 : decode cX6_takesSpots 76 = .ok (.aload_n 0, 1) := by decide +kernel
theorem dX6_takesSpots_77 : decode cX6_takesSpots 77 = .ok (.getfield 53, 3) := by decide +kernel
theorem dX6_takesSpots_80 : decode cX6_takesSpots 80 = .ok (.bipush 16, 2) := by decide +kernel
theorem dX6_takesSpots_82 : decode cX6_takesSpots 82 = .ok (.iload_n 1, 1) := by decide +kernel
theorem dX6_takesSpots_83 : decode cX6_takesSpots 83 = .ok (.imul, 1) := by decide +kernel
theorem dX6_takesSpots_84 : decode cX6_takesSpots 84 = .ok (.iload_n 2, 1) := by decide +kernel
theorem dX6_takesSpots_85 : decode cX6_takesSpots 85 = .ok (.iadd, 1) := by decide +kernel
theorem dX6_takesSpots_86 : decode cX6_takesSpots 86 = .ok (.baload, 1) := by decide +kernel
theorem dX6_takesSpots_87 : decode cX6_takesSpots 87 = .ok (.bastore, 1) := by decide +kernel
theorem dX6_takesSpots_88 : decode cX6_takesSpots 88 = .ok (.iinc 2 1, 3) := by decide +kernel
theorem dX6_takesSpots_91 : decode cX6_takesSpots 91 = .ok (.goto (-79), 3) := by decide +kernel
theorem dX6_takesSpots_94 : decode cX6_takesSpots 94 = .ok (.return_, 1) := by decide +kernel
theorem dX6_areVersions_0 : decode cX6_areVersions 0 = .ok (.aload_n 0, 1) := by decide +kernel
theorem dX6_areVersions_1 : decode cX6_areVersions 1 = .ok (.aload_n 0, 1) := by decide +kernel
theorem dX6_areVersions_2 : decode cX6_areVersions 2 = .ok (.getfield 41, 3) := by decide +kernel
theorem dX6_areVersions_5 : decode cX6_areVersions 5 = .ok (.iload_n 1, 1) := by decide +kernel
theorem dX6_areVersions_6 : decode cX6_areVersions 6 = .ok (.iaload, 1) := by decide +kernel
theorem dX6_areVersions_7 : decode cX6_areVersions 7 = .ok (.bipush 8, 2) := by decide +kernel
theorem dX6_areVersions_9 : decode cX6_areVersions 9 = .ok (.if_icmp .ge 12, 3) := by decide +kernel
theorem dX6_areVersions_12 : decode cX6_areVersions 12 = .ok (.aload_n 0, 1) := by decide +kernel
theorem dX6_areVersions_13 : decode cX6_areVersions 13 = .ok (.getfield 41, 3) := by decide +kernel
theorem dX6_areVersions_16 : decode cX6_areVersions 16 = .ok (.iload_n 1, 1) := by decide +kernel
theorem dX6_areVersions_17 : decode cX6_areVersions 17 = .ok (.iaload, 1) := by decide +kernel
theorem dX6_areVersions_18 : decode cX6_areVersions 18 = .ok (.goto 5, 3) := by decide +kernel
theorem dX6_areVersions_21 : decode cX6_areVersions 21 = .ok (.bipush 8, 2) := by decide +kernel
theorem dX6_areVersions_23 : decode cX6_areVersions 23 = .ok (.putfield 135, 3) := by decide +kernel
theorem dX6_areVersions_26 : decode cX6_areVersions 26 = .ok (.iconst 0, 1) := by decide +kernel
theorem dX6_areVersions_27 : decode cX6_areVersions 27 = .ok (.istore_n 3, 1) := by decide +kernel
theorem dX6_areVersions_28 : decode cX6_areVersions 28 = .ok (.iload_n 3, 1) := by decide +kernel
theorem dX6_areVersions_29 : decode cX6_areVersions 29 = .ok (.aload_n 0, 1) := by decide +kernel
theorem dX6_areVersions_30 : decode cX6_areVersions 30 = .ok (.getfield 135, 3) := by decide +kernel
theorem dX6_areVersions_33 : decode cX6_areVersions 33 = .ok (.if_icmp .ge 60, 3) := by decide +kernel
theorem dX6_areVersions_36 : decode cX6_areVersions 36 = .ok (.aload_n 0, 1) := by decide +kernel
theorem dX6_areVersions_37 : decode cX6_areVersions 37 = .ok (.getfield 57, 3) := by decide +kernel
theorem dX6_areVersions_40 : decode cX6_areVersions 40 = .ok (.iload_n 3, 1) := by decide +kernel
theorem dX6_areVersions_41 : decode cX6_areVersions 41 = .ok (.aload_n 0, 1) := by decide +kernel
theorem dX6_areVersions_42 : decode cX6_areVersions 42 = .ok (.getfield 47, 3) := by decide +kernel
theorem dX6_areVersions_45 : decode cX6_areVersions 45 = .ok (.bipush 16, 2) := by decide +kernel
theorem dX6_areVersions_47 : decode cX6_areVersions 47 = .ok (.iload_n 1, 1) := by decide +kernel
theorem dX6_areVersions_48 : decode cX6_areVersions 48 = .ok (.imul, 1) := by decide +kernel
theorem dX6_areVersions_49 : decode cX6_areVersions 49 = .ok (.iload_n 3, 1) := by decide +kernel
theorem dX6_areVersions_50 : decode cX6_areVersions 50 = .ok (.iadd, 1) := by decide +kernel
theorem dX6_areVersions_51 : decode cX6_areVersions 51 = .ok (.iaload, 1) := by decide +kernel
theorem dX6_areVersions_52 : decode cX6_areVersions 52 = .ok (.iastore, 1) := by decide +kernel
theorem dX6_areVersions_53 : decode cX6_areVersions 53 = .ok (.aload_n 0, 1) := by decide +kernel
theorem dX6_areVersions_54 : decode cX6_areVersions 54 = .ok (.getfield 60, 3) := by decide +kernel
theorem dX6_areVersions_57 : decode cX6_areVersions 57 = .ok (.iload_n 3, 1) := by decide +kernel
theorem dX6_areVersions_58 : decode cX6_areVersions 58 = .ok (.aload_n 0, 1) := by decide +kernel
theorem dX6_areVersions_59 : decode cX6_areVersions 59 = .ok (.getfield 50, 3) := by decide +kernel
theorem dX6_areVersions_62 : decode cX6_areVersions 62 = .ok (.bipush 16, 2) := by decide +kernel
theorem dX6_areVersions_64 : decode cX6_areVersions 64 = .ok (.iload_n 1, 1) := by decide +kernel
theorem dX6_areVersions_65 : decode cX6_areVersions 65 = .ok (.imul, 1) := by decide +kernel
theorem dX6_areVersions_66 : decode cX6_areVersions 66 = .ok (.iload_n 3, 1) := by decide +kernel
theorem dX6_areVersions_67 : decode cX6_areVersions 67 = .ok (.iadd, 1) := by decide +kernel
theorem dX6_areVersions_68 : decode cX6_areVersions 68 = .ok (.iaload, 1) := by decide +kernel
theorem dX6_areVersions_69 : decode cX6_areVersions 69 = .ok (.iastore, 1) := by decide +kernel
theorem dX6_areVersions_70 : decode cX6_areVersions 70 = .ok (.aload_n 0, 1) := by decide +kernel
theorem dX6_areVersions_71 : decode cX6_areVersions 71 = .ok (.getfield 63, 3) := by decide +kernel
theorem dX6_areVersions_74 : decode cX6_areVersions 74 = .ok (.iload_n 3, 1) := by decide +kernel
theorem dX6_areVersions_75 : decode cX6_areVersions 75 = .ok (.aload_n 0, 1) := by decide +kernel
theorem dX6_areVersions_76 : decode cX6_areVersions 76 = .ok (.getfield 44, 3) := by decide +kernel
theorem dX6_areVersions_79 : decode cX6_areVersions 79 = .ok (.bipush 16, 2) := by decide +kernel
theorem dX6_areVersions_81 : decode cX6_areVersions 81 = .ok (.iload_n 1, 1) := by decide +kernel
theorem dX6_areVersions_82 : decode cX6_areVersions 82 = .ok (.imul, 1) := by decide +kernel
theorem dX6_areVersions_83 : decode cX6_areVersions 83 = .ok (.iload_n 3, 1) := by decide +kernel
theorem dX6_areVersions_84 : decode cX6_areVersions 84 = .ok (.iadd, 1) := by decide +kernel
theorem dX6_areVersions_85 : decode cX6_areVersions 85 = .ok (.iaload, 1) := by decide +kernel
theorem dX6_areVersions_86 : decode cX6_areVersions 86 = .ok (.iastore, 1) := by decide +kernel
theorem dX6_areVersions_87 : decode cX6_areVersions 87 = .ok (.iinc 3 1, 3) := by decide +kernel
theorem dX6_areVersions_90 : decode cX6_areVersions 90 = .ok (.goto (-62), 3) := by decide +kernel
theorem dX6_areVersions_93 : decode cX6_areVersions 93 = .ok (.aload_n 0, 1) := by decide +kernel
theorem dX6_areVersions_94 : decode cX6_areVersions 94 = .ok (.iload_n 2, 1) := by decide +kernel
theorem dX6_areVersions_95 : decode cX6_areVersions 95 = .ok (.invokevirtual 162, 3) := by decide +kernel
theorem dX6_areVersions_98 : decode cX6_areVersions 98 = .ok (.aload_n 0, 1) := by decide +kernel
theorem dX6_areVersions_99 : decode cX6_areVersions 99 = .ok (.invokevirtual 165, 3) := by decide +kernel
theorem dX6_areVersions_102 : decode cX6_areVersions 102 = .ok (.aload_n 0, 1) := by decide +kernel
theorem dX6_areVersions_103 : decode cX6_areVersions 103 = .ok (.getfield 146, 3) := by decide +kernel
theorem dX6_areVersions_106 : decode cX6_areVersions 106 = .ok (.aload_n 0, 1) := by decide +kernel
theorem dX6_areVersions_107 : decode cX6_areVersions 107 = .ok (.getfield 35, 3) := by decide +kernel
theorem dX6_areVersions_110 : decode cX6_areVersions 110 = .ok (.if_icmp .gt 7, 3) := by decide +kernel
theorem dX6_areVersions_113 : decode cX6_areVersions 113 = .ok (.iconst 1, 1) := by decide +kernel
theorem dX6_areVersions_114 : decode cX6_areVersions 114 = .ok (.goto 4, 3) := by decide +kernel
theorem dX6_areVersions_117 : decode cX6_areVersions 117 = .ok (.iconst 0, 1) := by decide +kernel
theorem dX6_areVersions_118 : decode cX6_areVersions 118 = .ok (.ireturn, 1) := by decide +kernel
theorem dX6_versions_0 : decode cX6_versions 0 = .ok (.aload_n 0, 1) := by decide +kernel
theorem dX6_versions_1 : decode cX6_versions 1 = .ok (.iload_n 1, 1) := by decide +kernel
theorem dX6_versions_2 : decode cX6_versions 2 = .ok (.invokevirtual 168, 3) := by decide +kernel
theorem dX6_versions_5 : decode cX6_versions 5 = .ok (.ifCond .eq 25, 3) := by decide +kernel
theorem dX6_versions_8 : decode cX6_versions 8 = .ok (.aload_n 0, 1) := by decide +kernel
theorem dX6_versions_9 : decode cX6_versions 9 = .ok (.iload_n 2, 1) := by decide +kernel
theorem dX6_versions_10 : decode cX6_versions 10 = .ok (.invokevirtual 168, 3) := by decide +kernel
theorem dX6_versions_13 : decode cX6_versions 13 = .ok (.ifCond .eq 17, 3) := by decide +kernel
theorem dX6_versions_16 : decode cX6_versions 16 = .ok (.iload_n 1, 1) := by decide +kernel
theorem dX6_versions_17 : decode cX6_versions 17 = .ok (.iload_n 2, 1) := by decide +kernel
theorem dX6_versions_18 : decode cX6_versions 18 = .ok (.if_icmp .eq 12, 3) := by decide +kernel
theorem dX6_versions_21 : decode cX6_versions 21 = .ok (.iload_n 3, 1) := by decide +kernel
theorem dX6_versions_22 : decode cX6_versions 22 = .ok (.iconst 0, 1) := by decide +kernel
theorem dX6_versions_23 : decode cX6_versions 23 = .ok (.iconst 1, 1) := by decide +kernel
theorem dX6_versions_24 : decode cX6_versions 24 = .ok (.invokestatic 102, 3) := by decide +kernel
theorem dX6_versions_27 : decode cX6_versions 27 = .ok (.ifCond .ne 5, 3) := by decide +kernel
theorem dX6_versions_30 : decode cX6_versions 30 = .ok (.iconst (-1), 1) := by decide +kernel
theorem dX6_versions_31 : decode cX6_versions 31 = .ok (.ireturn, 1) := by decide +kernel
theorem dX6_versions_32 : decode cX6_versions 32 = .ok (.iload_n 1, 1) := by decide +kernel
theorem dX6_versions_33 : decode cX6_versions 33 = .ok (.iload_n 2, 1) := by decide +kernel
theorem dX6_versions_34 : decode cX6_versions 34 = .ok (.if_icmp .ge 7, 3) := by decide +kernel
theorem dX6_versions_37 : decode cX6_versions 37 = .ok (.iload_n 1, 1) := by decide +kernel
theorem dX6_versions_38 : decode cX6_versions 38 = .ok (.goto 4, 3) := by decide +kernel
theorem dX6_versions_41 : decode cX6_versions 41 = .ok (.iload_n 2, 1) := by decide +kernel
theorem dX6_versions_42 : decode cX6_versions 42 = .ok (.istore 4, 2) := by decide +kernel
theorem dX6_versions_44 : decode cX6_versions 44 = .ok (.iload_n 1, 1) := by decide +kernel
theorem dX6_versions_45 : decode cX6_versions 45 = .ok (.iload_n 2, 1) := by decide +kernel
theorem dX6_versions_46 : decode cX6_versions 46 = .ok (.if_icmp .ge 7, 3) := by decide +kernel
theorem dX6_versions_49 : decode cX6_versions 49 = .ok (.iload_n 2, 1) := by decide +kernel
theorem dX6_versions_50 : decode cX6_versions 50 = .ok (.goto 4, 3) := by decide +kernel
theorem dX6_versions_53 : decode cX6_versions 53 = .ok (.iload_n 1, 1) := by decide +kernel
theorem dX6_versions_54 : decode cX6_versions 54 = .ok (.istore 5, 2) := by decide +kernel
theorem dX6_versions_56 : decode cX6_versions 56 = .ok (.iload_n 3, 1) := by decide +kernel
theorem dX6_versions_57 : decode cX6_versions 57 = .ok (.iconst 1, 1) := by decide +kernel
theorem dX6_versions_58 : decode cX6_versions 58 = .ok (.if_icmp .ne 14, 3) := by decide +kernel
theorem dX6_versions_61 : decode cX6_versions 61 = .ok (.aload_n 0, 1) := by decide +kernel
theorem dX6_versions_62 : decode cX6_versions 62 = .ok (.iload 4, 2) := by decide +kernel
theorem dX6_versions_64 : decode cX6_versions 64 = .ok (.iload 5, 2) := by decide +kernel
theorem dX6_versions_66 : decode cX6_versions 66 = .ok (.invokevirtual 210, 3) := by decide +kernel
theorem dX6_versions_69 : decode cX6_versions 69 = .ok (.goto 19, 3) := by decide +kernel
theorem dX6_versions_72 : decode cX6_versions 72 = .ok (.aload_n 0, 1) := by decide +kernel
theorem dX6_versions_73 : decode cX6_versions 73 = .ok (.iload 4, 2) := by decide +kernel
theorem dX6_versions_75 : decode cX6_versions 75 = .ok (.iload 5, 2) := by decide +kernel
theorem dX6_versions_77 : decode cX6_versions 77 = .ok (.invokevirtual 213, 3) := by decide +kernel
theorem dX6_versions_80 : decode cX6_versions 80 = .ok (.ifCond .eq 7, 3) := by decide +kernel
theorem dX6_versions_83 : decode cX6_versions 83 = .ok (.iconst 1, 1) := by decide +kernel
theorem dX6_versions_84 : decode cX6_versions 84 = .ok (.goto 4, 3) := by decide +kernel
theorem dX6_versions_87 : decode cX6_versions 87 = .ok (.iconst 0, 1) := by decide +kernel
theorem dX6_versions_88 : decode cX6_versions 88 = .ok (.ireturn, 1) := by decide +kernel
theorem dX6_touch_0 : decode cX6_touch 0 = .ok (.aload_n 0, 1) := by decide +kernel
theorem dX6_touch_1 : decode cX6_touch 1 = .ok (.iload_n 1, 1) := by decide +kernel
theorem dX6_touch_2 : decode cX6_touch 2 = .ok (.invokevirtual 113, 3) := by decide +kernel
theorem dX6_touch_5 : decode cX6_touch 5 = .ok (.ifCond .eq 21, 3) := by decide +kernel
theorem dX6_touch_8 : decode cX6_touch 8 = .ok (.iload_n 2, 1) := by decide +kernel
theorem dX6_touch_9 : decode cX6_touch 9 = .ok (.iconst (-1), 1) := by decide +kernel
theorem dX6_touch_10 : decode cX6_touch 10 = .ok (.iconst 4, 1) := by decide +kernel
theorem dX6_touch_11 : decode cX6_touch 11 = .ok (.invokestatic 102, 3) := by decide +kernel
theorem dX6_touch_14 : decode cX6_touch 14 = .ok (.ifCond .eq 12, 3) := by decide +kernel
theorem dX6_touch_17 : decode cX6_touch 17 = .ok (.aload_n 0, 1) := by decide +kernel
theorem dX6_touch_18 : decode cX6_touch 18 = .ok (.getfield 7, 3) := by decide +kernel
theorem dX6_touch_21 : decode cX6_touch 21 = .ok (.iload_n 1, 1) := by decide +kernel
theorem dX6_touch_22 : decode cX6_touch 22 = .ok (.iaload, 1) := by decide +kernel
theorem dX6_touch_23 : decode cX6_touch 23 = .ok (.ifCond .ne 5, 3) := by decide +kernel
theorem dX6_touch_26 : decode cX6_touch 26 = .ok (.iconst (-1), 1) := by decide +kernel
theorem dX6_touch_27 : decode cX6_touch 27 = .ok (.ireturn, 1) := by decide +kernel
theorem dX6_touch_28 : decode cX6_touch 28 = .ok (.iconst 0, 1) := by decide +kernel
theorem dX6_touch_29 : decode cX6_touch 29 = .ok (.istore_n 3, 1) := by decide +kernel
theorem dX6_touch_30 : decode cX6_touch 30 = .ok (.iload_n 3, 1) := by decide +kernel
theorem dX6_touch_31 : decode cX6_touch 31 = .ok (.aload_n 0, 1) := by decide +kernel
theorem dX6_touch_32 : decode cX6_touch 32 = .ok (.getfield 99, 3) := by decide +kernel
theorem dX6_touch_35 : decode cX6_touch 35 = .ok (.if_icmp .ge 20, 3) := by decide +kernel
theorem dX6_touch_38 : decode cX6_touch 38 = .ok (.aload_n 0, 1) := by decide +kernel
theorem dX6_touch_39 : decode cX6_touch 39 = .ok (.getfield 96, 3) := by decide +kernel
theorem dX6_touch_42 : decode cX6_touch 42 = .ok (.iload_n 3, 1) := by decide +kernel
theorem dX6_touch_43 : decode cX6_touch 43 = .ok (.aload_n 0, 1) := by decide +kernel
theorem dX6_touch_44 : decode cX6_touch 44 = .ok (.iload_n 3, 1) := by decide +kernel
theorem dX6_touch_45 : decode cX6_touch 45 = .ok (.invokevirtual 192, 3) := by decide +kernel
theorem dX6_touch_48 : decode cX6_touch 48 = .ok (.iastore, 1) := by decide +kernel
theorem dX6_touch_49 : decode cX6_touch 49 = .ok (.iinc 3 1, 3) := by decide +kernel
theorem dX6_touch_52 : decode cX6_touch 52 = .ok (.goto (-22), 3) := by decide +kernel
theorem dX6_touch_55 : decode cX6_touch 55 = .ok (.aload_n 0, 1) := by decide +kernel
theorem dX6_touch_56 : decode cX6_touch 56 = .ok (.getfield 22, 3) := by decide +kernel
theorem dX6_touch_59 : decode cX6_touch 59 = .ok (.iload_n 1, 1) := by decide +kernel
theorem dX6_touch_60 : decode cX6_touch 60 = .ok (.iaload, 1) := by decide +kernel
theorem dX6_touch_61 : decode cX6_touch 61 = .ok (.istore_n 3, 1) := by decide +kernel
theorem dX6_touch_62 : decode cX6_touch 62 = .ok (.aload_n 0, 1) := by decide +kernel
theorem dX6_touch_63 : decode cX6_touch 63 = .ok (.getfield 22, 3) := by decide +kernel
theorem dX6_touch_66 : decode cX6_touch 66 = .ok (.iload_n 1, 1) := by decide +kernel
theorem dX6_touch_67 : decode cX6_touch 67 = .ok (.iload_n 2, 1) := by decide +kernel
theorem dX6_touch_68 : decode cX6_touch 68 = .ok (.iastore, 1) := by decide +kernel
theorem dX6_touch_69 : decode cX6_touch 69 = .ok (.aload_n 0, 1) := by decide +kernel
theorem dX6_touch_70 : decode cX6_touch 70 = .ok (.invokevirtual 110, 3) := by decide +kernel
theorem dX6_touch_73 : decode cX6_touch 73 = .ok (.iconst 0, 1) := by decide +kernel
theorem dX6_touch_74 : decode cX6_touch 74 = .ok (.istore 4, 2) := by decide +kernel
theorem dX6_touch_76 : decode cX6_touch 76 = .ok (.iconst 0, 1) := by decide +kernel
theorem dX6_touch_77 : decode cX6_touch 77 = .ok (.istore 5, 2) := by decide +kernel
theorem dX6_touch_79 : decode cX6_touch 79 = .ok (.iload 5, 2) := by decide +kernel
theorem dX6_touch_81 : decode cX6_touch 81 = .ok (.aload_n 0, 1) := by decide +kernel
theorem dX6_touch_82 : decode cX6_touch 82 = .ok (.getfield 99, 3) := by decide +kernel
theorem dX6_touch_85 : decode cX6_touch 85 = .ok (.if_icmp .ge 35, 3) := by decide +kernel
theorem dX6_touch_88 : decode cX6_touch 88 = .ok (.iload 4, 2) := by decide +kernel
theorem dX6_touch_90 : decode cX6_touch 90 = .ok (.aload_n 0, 1) := by decide +kernel
theorem dX6_touch_91 : decode cX6_touch 91 = .ok (.iload 5, 2) := by decide +kernel
theorem dX6_touch_93 : decode cX6_touch 93 = .ok (.invokevirtual 192, 3) := by decide +kernel
theorem dX6_touch_96 : decode cX6_touch 96 = .ok (.aload_n 0, 1) := by decide +kernel
theorem dX6_touch_97 : decode cX6_touch 97 = .ok (.getfield 96, 3) := by decide +kernel
theorem dX6_touch_100 : decode cX6_touch 100 = .ok (.iload 5, 2) := by decide +kernel
theorem dX6_touch_102 : decode cX6_touch 102 = .ok (.iaload, 1) := by decide +kernel
theorem dX6_touch_103 : decode cX6_touch 103 = .ok (.if_icmp .eq 7, 3) := by decide +kernel
theorem dX6_touch_106 : decode cX6_touch 106 = .ok (.iconst 1, 1) := by decide +kernel
theorem dX6_touch_107 : decode cX6_touch 107 = .ok (.goto 4, 3) := by decide +kernel
theorem dX6_touch_110 : decode cX6_touch 110 = .ok (.iconst 0, 1) := by decide +kernel
theorem dX6_touch_111 : decode cX6_touch 111 = .ok (.iadd, 1) := by decide +kernel
theorem dX6_touch_112 : decode cX6_touch 112 = .ok (.istore 4, 2) := by decide +kernel
theorem dX6_touch_114 : decode cX6_touch 114 = .ok (.iinc 5 1, 3) := by decide +kernel
theorem dX6_touch_117 : decode cX6_touch 117 = .ok (.goto (-38), 3) := by decide +kernel
theorem dX6_touch_120 : decode cX6_touch 120 = .ok (.aload_n 0, 1) := by decide +kernel
theorem dX6_touch_121 : decode cX6_touch 121 = .ok (.getfield 22, 3) := by decide +kernel
theorem dX6_touch_124 : decode cX6_touch 124 = .ok (.iload_n 1, 1) := by decide +kernel
theorem dX6_touch_125 : decode cX6_touch 125 = .ok (.iload_n 3, 1) := by decide +kernel
theorem dX6_touch_126 : decode cX6_touch 126 = .ok (.iastore, 1) := by decide +kernel
theorem dX6_touch_127 : decode cX6_touch 127 = .ok (.aload_n 0, 1) := by decide +kernel
theorem dX6_touch_128 : decode cX6_touch 128 = .ok (.invokevirtual 110, 3) := by decide +kernel
theorem dX6_touch_131 : decode cX6_touch 131 = .ok (.iload 4, 2) := by decide +kernel
theorem dX6_touch_133 : decode cX6_touch 133 = .ok (.ireturn, 1) := by decide +kernel
end
section
theorem dL_law_0 : decode cL_law 0 = .ok (.new 7, 3) := by decide +kernel
theorem dL_law_3 : decode cL_law 3 = .ok (.dup, 1) := by decide +kernel
theorem dL_law_4 : decode cL_law 4 = .ok (.invokespecial 9, 3) := by decide +kernel
theorem dL_law_7 : decode cL_law 7 = .ok (.astore_n 1, 1) := by decide +kernel
theorem dL_law_8 : decode cL_law 8 = .ok (.new 10, 3) := by decide +kernel
theorem dL_law_11 : decode cL_law 11 = .ok (.dup, 1) := by decide +kernel
theorem dL_law_12 : decode cL_law 12 = .ok (.invokespecial 12, 3) := by decide +kernel
theorem dL_law_15 : decode cL_law 15 = .ok (.astore_n 2, 1) := by decide +kernel
theorem dL_law_16 : decode cL_law 16 = .ok (.iconst 0, 1) := by decide +kernel
theorem dL_law_17 : decode cL_law 17 = .ok (.istore_n 3, 1) := by decide +kernel
theorem dL_law_18 : decode cL_law 18 = .ok (.iload_n 3, 1) := by decide +kernel
theorem dL_law_19 : decode cL_law 19 = .ok (.aload_n 0, 1) := by decide +kernel
theorem dL_law_20 : decode cL_law 20 = .ok (.arraylength, 1) := by decide +kernel
theorem dL_law_21 : decode cL_law 21 = .ok (.bipush 6, 2) := by decide +kernel
theorem dL_law_23 : decode cL_law 23 = .ok (.isub, 1) := by decide +kernel
theorem dL_law_24 : decode cL_law 24 = .ok (.if_icmp .gt 722, 3) := by decide +kernel
theorem dL_law_27 : decode cL_law 27 = .ok (.aload_n 0, 1) := by decide +kernel
theorem dL_law_28 : decode cL_law 28 = .ok (.iload_n 3, 1) := by decide +kernel
theorem dL_law_29 : decode cL_law 29 = .ok (.iaload, 1) := by decide +kernel
theorem dL_law_30 : decode cL_law 30 = .ok (.bipush 31, 2) := by decide +kernel
theorem dL_law_32 : decode cL_law 32 = .ok (.iand, 1) := by decide +kernel
theorem dL_law_33 : decode cL_law 33 = .ok (.tableswitch 707 0 17 #[87, 100, 153, 186, 249, 292, 325, 368, 411, 470, 513, 536, 559, 572, 585, 608, 651, 684], 87) := by decide +kernel
theorem dL_law_120 : decode cL_law 120 = .ok (.aload_n 1, 1) := by decide +kernel
theorem dL_law_121 : decode cL_law 121 = .ok (.invokevirtual 13, 3) := by decide +kernel
theorem dL_law_124 : decode cL_law 124 = .ok (.aload_n 2, 1) := by decide +kernel
theorem dL_law_125 : decode cL_law 125 = .ok (.invokevirtual 17, 3) := by decide +kernel
theorem dL_law_128 : decode cL_law 128 = .ok (.if_icmp .eq 612, 3) := by decide +kernel
theorem dL_law_131 : decode cL_law 131 = .ok (.iconst 0, 1) := by decide +kernel
theorem dL_law_132 : decode cL_law 132 = .ok (.ireturn, 1) := by decide +kernel
theorem dL_law_133 : decode cL_law 133 = .ok (.aload_n 1, 1) := by decide +kernel
theorem dL_law_134 : decode cL_law 134 = .ok (.aload_n 0, 1) := by decide +kernel
theorem dL_law_135 : decode cL_law 135 = .ok (.iload_n 3, 1) := by decide +kernel
theorem dL_law_136 : decode cL_law 136 = .ok (.iconst 1, 1) := by decide +kernel
theorem dL_law_137 : decode cL_law 137 = .ok (.iadd, 1) := by decide +kernel
theorem dL_law_138 : decode cL_law 138 = .ok (.iaload, 1) := by decide +kernel
theorem dL_law_139 : decode cL_law 139 = .ok (.aload_n 0, 1) := by decide +kernel
theorem dL_law_140 : decode cL_law 140 = .ok (.iload_n 3, 1) := by decide +kernel
theorem dL_law_141 : decode cL_law 141 = .ok (.iconst 2, 1) := by decide +kernel
theorem dL_law_142 : decode cL_law 142 = .ok (.iadd, 1) := by decide +kernel
theorem dL_law_143 : decode cL_law 143 = .ok (.iaload, 1) := by decide +kernel
theorem dL_law_144 : decode cL_law 144 = .ok (.aload_n 0, 1) := by decide +kernel
theorem dL_law_145 : decode cL_law 145 = .ok (.iload_n 3, 1) := by decide +kernel
theorem dL_law_146 : decode cL_law 146 = .ok (.iconst 3, 1) := by decide +kernel
theorem dL_law_147 : decode cL_law 147 = .ok (.iadd, 1) := by decide +kernel
theorem dL_law_148 : decode cL_law 148 = .ok (.iaload, 1) := by decide +kernel
theorem dL_law_149 : decode cL_law 149 = .ok (.aload_n 0, 1) := by decide +kernel
theorem dL_law_150 : decode cL_law 150 = .ok (.iload_n 3, 1) := by decide +kernel
theorem dL_law_151 : decode cL_law 151 = .ok (.iconst 4, 1) := by decide +kernel
theorem dL_law_152 : decode cL_law 152 = .ok (.iadd, 1) := by decide +kernel
theorem dL_law_153 : decode cL_law 153 = .ok (.iaload, 1) := by decide +kernel
theorem dL_law_154 : decode cL_law 154 = .ok (.invokevirtual 18, 3) := by decide +kernel
theorem dL_law_157 : decode cL_law 157 = .ok (.aload_n 2, 1) := by decide +kernel
theorem dL_law_158 : decode cL_law 158 = .ok (.aload_n 0, 1) := by decide +kernel
theorem dL_law_159 : decode cL_law 159 = .ok (.iload_n 3, 1) := by decide +kernel
theorem dL_law_160 : decode cL_law 160 = .ok (.iconst 1, 1) := by decide +kernel
theorem dL_law_161 : decode cL_law 161 = .ok (.iadd, 1) := by decide +kernel
theorem dL_law_162 : decode cL_law 162 = .ok (.iaload, 1) := by decide +kernel
theorem dL_law_163 : decode cL_law 163 = .ok (.aload_n 0, 1) := by decide +kernel
theorem dL_law_164 : decode cL_law 164 = .ok (.iload_n 3, 1) := by decide +kernel
theorem dL_law_165 : decode cL_law 165 = .ok (.iconst 2, 1) := by decide +kernel
theorem dL_law_166 : decode cL_law 166 = .ok (.iadd, 1) := by decide +kernel
theorem dL_law_167 : decode cL_law 167 = .ok (.iaload, 1) := by decide +kernel
theorem dL_law_168 : decode cL_law 168 = .ok (.aload_n 0, 1) := by decide +kernel
theorem dL_law_169 : decode cL_law 169 = .ok (.iload_n 3, 1) := by decide +kernel
theorem dL_law_170 : decode cL_law 170 = .ok (.iconst 3, 1) := by decide +kernel
theorem dL_law_171 : decode cL_law 171 = .ok (.iadd, 1) := by decide +kernel
theorem dL_law_172 : decode cL_law 172 = .ok (.iaload, 1) := by decide +kernel
theorem dL_law_173 : decode cL_law 173 = .ok (.aload_n 0, 1) := by decide +kernel
theorem dL_law_174 : decode cL_law 174 = .ok (.iload_n 3, 1) := by decide +kernel
theorem dL_law_175 : decode cL_law 175 = .ok (.iconst 4, 1) := by decide +kernel
theorem dL_law_176 : decode cL_law 176 = .ok (.iadd, 1) := by decide +kernel
theorem dL_law_177 : decode cL_law 177 = .ok (.iaload, 1) := by decide +kernel
theorem dL_law_178 : decode cL_law 178 = .ok (.invokevirtual 22, 3) := by decide +kernel
theorem dL_law_181 : decode cL_law 181 = .ok (.if_icmp .eq 559, 3) := by decide +kernel
theorem dL_law_184 : decode cL_law 184 = .ok (.iconst 0, 1) := by decide +kernel
theorem dL_law_185 : decode cL_law 185 = .ok (.ireturn, 1) := by decide +kernel
theorem dL_law_186 : decode cL_law 186 = .ok (.aload_n 1, 1) := by decide +kernel
theorem dL_law_187 : decode cL_law 187 = .ok (.aload_n 0, 1) := by decide +kernel
theorem dL_law_188 : decode cL_law 188 = .ok (.iload_n 3, 1) := by decide +kernel
theorem dL_law_189 : decode cL_law 189 = .ok (.iconst 1, 1) := by decide +kernel
theorem dL_law_190 : decode cL_law 190 = .ok (.iadd, 1) := by decide +kernel
theorem dL_law_191 : decode cL_law 191 = .ok (.iaload, 1) := by decide +kernel
theorem dL_law_192 : decode cL_law 192 = .ok (.aload_n 0, 1) := by decide +kernel
theorem dL_law_193 : decode cL_law 193 = .ok (.iload_n 3, 1) := by decide +kernel
theorem dL_law_194 : decode cL_law 194 = .ok (.iconst 2, 1) := by decide +kernel
theorem dL_law_195 : decode cL_law 195 = .ok (.iadd, 1) := by decide +kernel
theorem dL_law_196 : decode cL_law 196 = .ok (.iaload, 1) := by decide +kernel
theorem dL_law_197 : decode cL_law 197 = .ok (.invokevirtual 23, 3) := by decide +kernel
theorem dL_law_200 : decode cL_law 200 = .ok (.aload_n 2, 1) := by decide +kernel
theorem dL_law_201 : decode cL_law 201 = .ok (.aload_n 0, 1) := by decide +kernel
theorem dL_law_202 : decode cL_law 202 = .ok (.iload_n 3, 1) := by decide +kernel
theorem dL_law_203 : decode cL_law 203 = .ok (.iconst 1, 1) := by decide +kernel
theorem dL_law_204 : decode cL_law 204 = .ok (.iadd, 1) := by decide +kernel
theorem dL_law_205 : decode cL_law 205 = .ok (.iaload, 1) := by decide +kernel
theorem dL_law_206 : decode cL_law 206 = .ok (.aload_n 0, 1) := by decide +kernel
theorem dL_law_207 : decode cL_law 207 = .ok (.iload_n 3, 1) := by decide +kernel
theorem dL_law_208 : decode cL_law 208 = .ok (.iconst 2, 1) := by decide +kernel
theorem dL_law_209 : decode cL_law 209 = .ok (.iadd, 1) := by decide +kernel
theorem dL_law_210 : decode cL_law 210 = .ok (.iaload, 1) := by decide +kernel
theorem dL_law_211 : decode cL_law 211 = .ok (.invokevirtual 27, 3) := by decide +kernel
theorem dL_law_214 : decode cL_law 214 = .ok (.if_icmp .eq 526, 3) := by decide +kernel
theorem dL_law_217 : decode cL_law 217 = .ok (.iconst 0, 1) := by decide +kernel
theorem dL_law_218 : decode cL_law 218 = .ok (.ireturn, 1) := by decide +kernel
theorem dL_law_219 : decode cL_law 219 = .ok (.aload_n 1, 1) := by decide +kernel
theorem dL_law_220 : decode cL_law 220 = .ok (.aload_n 0, 1) := by decide +kernel
theorem dL_law_221 : decode cL_law 221 = .ok (.iload_n 3, 1) := by decide +kernel
theorem dL_law_222 : decode cL_law 222 = .ok (.iconst 1, 1) := by decide +kernel
theorem dL_law_223 : decode cL_law 223 = .ok (.iadd, 1) := by decide +kernel
theorem dL_law_224 : decode cL_law 224 = .ok (.iaload, 1) := by decide +kernel
theorem dL_law_225 : decode cL_law 225 = .ok (.aload_n 0, 1) := by decide +kernel
theorem dL_law_226 : decode cL_law 226 = .ok (.iload_n 3, 1) := by decide +kernel
theorem dL_law_227 : decode cL_law 227 = .ok (.iconst 2, 1) := by decide +kernel
theorem dL_law_228 : decode cL_law 228 = .ok (.iadd, 1) := by decide +kernel
theorem dL_law_229 : decode cL_law 229 = .ok (.iaload, 1) := by decide +kernel
theorem dL_law_230 : decode cL_law 230 = .ok (.aload_n 0, 1) := by decide +kernel
theorem dL_law_231 : decode cL_law 231 = .ok (.iload_n 3, 1) := by decide +kernel
theorem dL_law_232 : decode cL_law 232 = .ok (.iconst 3, 1) := by decide +kernel
theorem dL_law_233 : decode cL_law 233 = .ok (.iadd, 1) := by decide +kernel
theorem dL_law_234 : decode cL_law 234 = .ok (.iaload, 1) := by decide +kernel
theorem dL_law_235 : decode cL_law 235 = .ok (.aload_n 0, 1) := by decide +kernel
theorem dL_law_236 : decode cL_law 236 = .ok (.iload_n 3, 1) := by decide +kernel
theorem dL_law_237 : decode cL_law 237 = .ok (.iconst 4, 1) := by decide +kernel
theorem dL_law_238 : decode cL_law 238 = .ok (.iadd, 1) := by decide +kernel
theorem dL_law_239 : decode cL_law 239 = .ok (.iaload, 1) := by decide +kernel
theorem dL_law_240 : decode cL_law 240 = .ok (.aload_n 0, 1) := by decide +kernel
theorem dL_law_241 : decode cL_law 241 = .ok (.iload_n 3, 1) := by decide +kernel
theorem dL_law_242 : decode cL_law 242 = .ok (.iconst 5, 1) := by decide +kernel
theorem dL_law_243 : decode cL_law 243 = .ok (.iadd, 1) := by decide +kernel
theorem dL_law_244 : decode cL_law 244 = .ok (.iaload, 1) := by decide +kernel
theorem dL_law_245 : decode cL_law 245 = .ok (.invokevirtual 28, 3) := by decide +kernel
theorem dL_law_248 : decode cL_law 248 = .ok (.aload_n 2, 1) := by decide +kernel
theorem dL_law_249 : decode cL_law 249 = .ok (.aload_n 0, 1) := by decide +kernel
theorem dL_law_250 : decode cL_law 250 = .ok (.iload_n 3, 1) := by decide +kernel
theorem dL_law_251 : decode cL_law 251 = .ok (.iconst 1, 1) := by decide +kernel
theorem dL_law_252 : decode cL_law 252 = .ok (.iadd, 1) := by decide +kernel
theorem dL_law_253 : decode cL_law 253 = .ok (.iaload, 1) := by decide +kernel
theorem dL_law_254 : decode cL_law 254 = .ok (.aload_n 0, 1) := by decide +kernel
theorem dL_law_255 : decode cL_law 255 = .ok (.iload_n 3, 1) := by decide +kernel
theorem dL_law_256 : decode cL_law 256 = .ok (.iconst 2, 1) := by decide +kernel
theorem dL_law_257 : decode cL_law 257 = .ok (.iadd, 1) := by decide +kernel
theorem dL_law_258 : decode cL_law 258 = .ok (.iaload, 1) := by decide +kernel
theorem dL_law_259 : decode cL_law 259 = .ok (.aload_n 0, 1) := by decide +kernel
theorem dL_law_260 : decode cL_law 260 = .ok (.iload_n 3, 1) := by decide +kernel
theorem dL_law_261 : decode cL_law 261 = .ok (.iconst 3, 1) := by decide +kernel
theorem dL_law_262 : decode cL_law 262 = .ok (.iadd, 1) := by decide +kernel
theorem dL_law_263 : decode cL_law 263 = .ok (.iaload, 1) := by decide +kernel
theorem dL_law_264 : decode cL_law 264 = .ok (.aload_n 0, 1) := by decide +kernel
theorem dL_law_265 : decode cL_law 265 = .ok (.iload_n 3, 1) := by decide +kernel
theorem dL_law_266 : decode cL_law 266 = .ok (.iconst 4, 1) := by decide +kernel
theorem dL_law_267 : decode cL_law 267 = .ok (.iadd, 1) := by decide +kernel
theorem dL_law_268 : decode cL_law 268 = .ok (.iaload, 1) := by decide +kernel
theorem dL_law_269 : decode cL_law 269 = .ok (.aload_n 0, 1) := by decide +kernel
theorem dL_law_270 : decode cL_law 270 = .ok (.iload_n 3, 1) := by decide +kernel
theorem dL_law_271 : decode cL_law 271 = .ok (.iconst 5, 1) := by decide +kernel
theorem dL_law_272 : decode cL_law 272 = .ok (.iadd, 1) := by decide +kernel
theorem dL_law_273 : decode cL_law 273 = .ok (.iaload, 1) := by decide +kernel
theorem dL_law_274 : decode cL_law 274 = .ok (.invokevirtual 32, 3) := by decide +kernel
theorem dL_law_277 : decode cL_law 277 = .ok (.if_icmp .eq 463, 3) := by decide +kernel
theorem dL_law_280 : decode cL_law 280 = .ok (.iconst 0, 1) := by decide +kernel
theorem dL_law_281 : decode cL_law 281 = .ok (.ireturn, 1) := by decide +kernel
theorem dL_law_282 : decode cL_law 282 = .ok (.aload_n 1, 1) := by decide +kernel
theorem dL_law_283 : decode cL_law 283 = .ok (.aload_n 0, 1) := by decide +kernel
theorem dL_law_284 : decode cL_law 284 = .ok (.iload_n 3, 1) := by decide +kernel
theorem dL_law_285 : decode cL_law 285 = .ok (.iconst 1, 1) := by decide +kernel
theorem dL_law_286 : decode cL_law 286 = .ok (.iadd, 1) := by decide +kernel
theorem dL_law_287 : decode cL_law 287 = .ok (.iaload, 1) := by decide +kernel
theorem dL_law_288 : decode cL_law 288 = .ok (.aload_n 0, 1) := by decide +kernel
theorem dL_law_289 : decode cL_law 289 = .ok (.iload_n 3, 1) := by decide +kernel
theorem dL_law_290 : decode cL_law 290 = .ok (.iconst 2, 1) := by decide +kernel
theorem dL_law_291 : decode cL_law 291 = .ok (.iadd, 1) := by decide +kernel
theorem dL_law_292 : decode cL_law 292 = .ok (.iaload, 1) := by decide +kernel
theorem dL_law_293 : decode cL_law 293 = .ok (.aload_n 0, 1) := by decide +kernel
theorem dL_law_294 : decode cL_law 294 = .ok (.iload_n 3, 1) := by decide +kernel
theorem dL_law_295 : decode cL_law 295 = .ok (.iconst 3, 1) := by decide +kernel
theorem dL_law_296 : decode cL_law 296 = .ok (.iadd, 1) := by decide +kernel
theorem dL_law_297 : decode cL_law 297 = .ok (.iaload, 1) := by decide +kernel
theorem dL_law_298 : decode cL_law 298 = .ok (.invokevirtual 33, 3) := by decide +kernel
theorem dL_law_301 : decode cL_law 301 = .ok (.aload_n 2, 1) := by decide +kernel
theorem dL_law_302 : decode cL_law 302 = .ok (.aload_n 0, 1) := by decide +kernel
theorem dL_law_303 : decode cL_law 303 = .ok (.iload_n 3, 1) := by decide +kernel
theorem dL_law_304 : decode cL_law 304 = .ok (.iconst 1, 1) := by decide +kernel
theorem dL_law_305 : decode cL_law 305 = .ok (.iadd, 1) := by decide +kernel
theorem dL_law_306 : decode cL_law 306 = .ok (.iaload, 1) := by decide +kernel
theorem dL_law_307 : decode cL_law 307 = .ok (.aload_n 0, 1) := by decide +kernel
theorem dL_law_308 : decode cL_law 308 = .ok (.iload_n 3, 1) := by decide +kernel
theorem dL_law_309 : decode cL_law 309 = .ok (.iconst 2, 1) := by decide +kernel
theorem dL_law_310 : decode cL_law 310 = .ok (.iadd, 1) := by decide +kernel
theorem dL_law_311 : decode cL_law 311 = .ok (.iaload, 1) := by decide +kernel
theorem dL_law_312 : decode cL_law 312 = .ok (.aload_n 0, 1) := by decide +kernel
theorem dL_law_313 : decode cL_law 313 = .ok (.iload_n 3, 1) := by decide +kernel
theorem dL_law_314 : decode cL_law 314 = .ok (.iconst 3, 1) := by decide +kernel
theorem dL_law_315 : decode cL_law 315 = .ok (.iadd, 1) := by decide +kernel
theorem dL_law_316 : decode cL_law 316 = .ok (.iaload, 1) := by decide +kernel
theorem dL_law_317 : decode cL_law 317 = .ok (.invokevirtual 37, 3) := by decide +kernel
theorem dL_law_320 : decode cL_law 320 = .ok (.if_icmp .eq 420, 3) := by decide +kernel
theorem dL_law_323 : decode cL_law 323 = .ok (.iconst 0, 1) := by decide +kernel
theorem dL_law_324 : decode cL_law 324 = .ok (.ireturn, 1) := by decide +kernel
theorem dL_law_325 : decode cL_law 325 = .ok (.aload_n 1, 1) := by decide +kernel
theorem dL_law_326 : decode cL_law 326 = .ok (.aload_n 0, 1) := by decide +kernel
theorem dL_law_327 : decode cL_law 327 = .ok (.iload_n 3, 1) := by decide +kernel
theorem dL_law_328 : decode cL_law 328 = .ok (.iconst 1, 1) := by decide +kernel
theorem dL_law_329 : decode cL_law 329 = .ok (.iadd, 1) := by decide +kernel
theorem dL_law_330 : decode cL_law 330 = .ok (.iaload, 1) := by decide +kernel
theorem dL_law_331 : decode cL_law 331 = .ok (.aload_n 0, 1) := by decide +kernel
theorem dL_law_332 : decode cL_law 332 = .ok (.iload_n 3, 1) := by decide +kernel
theorem dL_law_333 : decode cL_law 333 = .ok (.iconst 2, 1) := by decide +kernel
theorem dL_law_334 : decode cL_law 334 = .ok (.iadd, 1) := by decide +kernel
theorem dL_law_335 : decode cL_law 335 = .ok (.iaload, 1) := by decide +kernel
theorem dL_law_336 : decode cL_law 336 = .ok (.invokevirtual 38, 3) := by decide +kernel
theorem dL_law_339 : decode cL_law 339 = .ok (.aload_n 2, 1) := by decide +kernel
theorem dL_law_340 : decode cL_law 340 = .ok (.aload_n 0, 1) := by decide +kernel
theorem dL_law_341 : decode cL_law 341 = .ok (.iload_n 3, 1) := by decide +kernel
theorem dL_law_342 : decode cL_law 342 = .ok (.iconst 1, 1) := by decide +kernel
theorem dL_law_343 : decode cL_law 343 = .ok (.iadd, 1) := by decide +kernel
theorem dL_law_344 : decode cL_law 344 = .ok (.iaload, 1) := by decide +kernel
theorem dL_law_345 : decode cL_law 345 = .ok (.aload_n 0, 1) := by decide +kernel
theorem dL_law_346 : decode cL_law 346 = .ok (.iload_n 3, 1) := by decide +kernel
theorem dL_law_347 : decode cL_law 347 = .ok (.iconst 2, 1) := by decide +kernel
theorem dL_law_348 : decode cL_law 348 = .ok (.iadd, 1) := by decide +kernel
theorem dL_law_349 : decode cL_law 349 = .ok (.iaload, 1) := by decide +kernel
theorem dL_law_350 : decode cL_law 350 = .ok (.invokevirtual 42, 3) := by decide +kernel
theorem dL_law_353 : decode cL_law 353 = .ok (.if_icmp .eq 387, 3) := by decide +kernel
theorem dL_law_356 : decode cL_law 356 = .ok (.iconst 0, 1) := by decide +kernel
theorem dL_law_357 : decode cL_law 357 = .ok (.ireturn, 1) := by decide +kernel
theorem dL_law_358 : decode cL_law 358 = .ok (.aload_n 1, 1) := by decide +kernel
theorem dL_law_359 : decode cL_law 359 = .ok (.aload_n 0, 1) := by decide +kernel
theorem dL_law_360 : decode cL_law 360 = .ok (.iload_n 3, 1) := by decide +kernel
theorem dL_law_361 : decode cL_law 361 = .ok (.iconst 1, 1) := by decide +kernel
theorem dL_law_362 : decode cL_law 362 = .ok (.iadd, 1) := by decide +kernel
theorem dL_law_363 : decode cL_law 363 = .ok (.iaload, 1) := by decide +kernel
theorem dL_law_364 : decode cL_law 364 = .ok (.aload_n 0, 1) := by decide +kernel
theorem dL_law_365 : decode cL_law 365 = .ok (.iload_n 3, 1) := by decide +kernel
theorem dL_law_366 : decode cL_law 366 = .ok (.iconst 2, 1) := by decide +kernel
theorem dL_law_367 : decode cL_law 367 = .ok (.iadd, 1) := by decide +kernel
theorem dL_law_368 : decode cL_law 368 = .ok (.iaload, 1) := by decide +kernel
theorem dL_law_369 : decode cL_law 369 = .ok (.aload_n 0, 1) := by decide +kernel
theorem dL_law_370 : decode cL_law 370 = .ok (.iload_n 3, 1) := by decide +kernel
theorem dL_law_371 : decode cL_law 371 = .ok (.iconst 3, 1) := by decide +kernel
theorem dL_law_372 : decode cL_law 372 = .ok (.iadd, 1) := by decide +kernel
theorem dL_law_373 : decode cL_law 373 = .ok (.iaload, 1) := by decide +kernel
theorem dL_law_374 : decode cL_law 374 = .ok (.invokevirtual 43, 3) := by decide +kernel
theorem dL_law_377 : decode cL_law 377 = .ok (.aload_n 2, 1) := by decide +kernel
theorem dL_law_378 : decode cL_law 378 = .ok (.aload_n 0, 1) := by decide +kernel
theorem dL_law_379 : decode cL_law 379 = .ok (.iload_n 3, 1) := by decide +kernel
theorem dL_law_380 : decode cL_law 380 = .ok (.iconst 1, 1) := by decide +kernel
theorem dL_law_381 : decode cL_law 381 = .ok (.iadd, 1) := by decide +kernel
theorem dL_law_382 : decode cL_law 382 = .ok (.iaload, 1) := by decide +kernel
theorem dL_law_383 : decode cL_law 383 = .ok (.aload_n 0, 1) := by decide +kernel
theorem dL_law_384 : decode cL_law 384 = .ok (.iload_n 3, 1) := by decide +kernel
theorem dL_law_385 : decode cL_law 385 = .ok (.iconst 2, 1) := by decide +kernel
theorem dL_law_386 : decode cL_law 386 = .ok (.iadd, 1) := by decide +kernel
theorem dL_law_387 : decode cL_law 387 = .ok (.iaload, 1) := by decide +kernel
theorem dL_law_388 : decode cL_law 388 = .ok (.aload_n 0, 1) := by decide +kernel
theorem dL_law_389 : decode cL_law 389 = .ok (.iload_n 3, 1) := by decide +kernel
theorem dL_law_390 : decode cL_law 390 = .ok (.iconst 3, 1) := by decide +kernel
theorem dL_law_391 : decode cL_law 391 = .ok (.iadd, 1) := by decide +kernel
theorem dL_law_392 : decode cL_law 392 = .ok (.iaload, 1) := by decide +kernel
theorem dL_law_393 : decode cL_law 393 = .ok (.invokevirtual 47, 3) := by decide +kernel
theorem dL_law_396 : decode cL_law 396 = .ok (.if_icmp .eq 344, 3) := by decide +kernel
theorem dL_law_399 : decode cL_law 399 = .ok (.iconst 0, 1) := by decide +kernel
theorem dL_law_400 : decode cL_law 400 = .ok (.ireturn, 1) := by decide +kernel
theorem dL_law_401 : decode cL_law 401 = .ok (.aload_n 1, 1) := by decide +kernel
theorem dL_law_402 : decode cL_law 402 = .ok (.aload_n 0, 1) := by decide +kernel
theorem dL_law_403 : decode cL_law 403 = .ok (.iload_n 3, 1) := by decide +kernel
theorem dL_law_404 : decode cL_law 404 = .ok (.iconst 1, 1) := by decide +kernel
theorem dL_law_405 : decode cL_law 405 = .ok (.iadd, 1) := by decide +kernel
theorem dL_law_406 : decode cL_law 406 = .ok (.iaload, 1) := by decide +kernel
theorem dL_law_407 : decode cL_law 407 = .ok (.aload_n 0, 1) := by decide +kernel
theorem dL_law_408 : decode cL_law 408 = .ok (.iload_n 3, 1) := by decide +kernel
theorem dL_law_409 : decode cL_law 409 = .ok (.iconst 2, 1) := by decide +kernel
theorem dL_law_410 : decode cL_law 410 = .ok (.iadd, 1) := by decide +kernel
theorem dL_law_411 : decode cL_law 411 = .ok (.iaload, 1) := by decide +kernel
theorem dL_law_412 : decode cL_law 412 = .ok (.aload_n 0, 1) := by decide +kernel
theorem dL_law_413 : decode cL_law 413 = .ok (.iload_n 3, 1) := by decide +kernel
theorem dL_law_414 : decode cL_law 414 = .ok (.iconst 3, 1) := by decide +kernel
theorem dL_law_415 : decode cL_law 415 = .ok (.iadd, 1) := by decide +kernel
theorem dL_law_416 : decode cL_law 416 = .ok (.iaload, 1) := by decide +kernel
theorem dL_law_417 : decode cL_law 417 = .ok (.invokevirtual 48, 3) := by decide +kernel
theorem dL_law_420 : decode cL_law 420 = .ok (.aload_n 2, 1) := by decide +kernel
theorem dL_law_421 : decode cL_law 421 = .ok (.aload_n 0, 1) := by decide +kernel
theorem dL_law_422 : decode cL_law 422 = .ok (.iload_n 3, 1) := by decide +kernel
theorem dL_law_423 : decode cL_law 423 = .ok (.iconst 1, 1) := by decide +kernel
theorem dL_law_424 : decode cL_law 424 = .ok (.iadd, 1) := by decide +kernel
theorem dL_law_425 : decode cL_law 425 = .ok (.iaload, 1) := by decide +kernel
theorem dL_law_426 : decode cL_law 426 = .ok (.aload_n 0, 1) := by decide +kernel
theorem dL_law_427 : decode cL_law 427 = .ok (.iload_n 3, 1) := by decide +kernel
theorem dL_law_428 : decode cL_law 428 = .ok (.iconst 2, 1) := by decide +kernel
theorem dL_law_429 : decode cL_law 429 = .ok (.iadd, 1) := by decide +kernel
theorem dL_law_430 : decode cL_law 430 = .ok (.iaload, 1) := by decide +kernel
theorem dL_law_431 : decode cL_law 431 = .ok (.aload_n 0, 1) := by decide +kernel
theorem dL_law_432 : decode cL_law 432 = .ok (.iload_n 3, 1) := by decide +kernel
theorem dL_law_433 : decode cL_law 433 = .ok (.iconst 3, 1) := by decide +kernel
theorem dL_law_434 : decode cL_law 434 = .ok (.iadd, 1) := by decide +kernel
theorem dL_law_435 : decode cL_law 435 = .ok (.iaload, 1) := by decide +kernel
theorem dL_law_436 : decode cL_law 436 = .ok (.invokevirtual 51, 3) := by decide +kernel
theorem dL_law_439 : decode cL_law 439 = .ok (.if_icmp .eq 301, 3) := by decide +kernel
theorem dL_law_442 : decode cL_law 442 = .ok (.iconst 0, 1) := by decide +kernel
theorem dL_law_443 : decode cL_law 443 = .ok (.ireturn, 1) := by decide +kernel
theorem dL_law_444 : decode cL_law 444 = .ok (.aload_n 1, 1) := by decide +kernel
theorem dL_law_445 : decode cL_law 445 = .ok (.aload_n 0, 1) := by decide +kernel
theorem dL_law_446 : decode cL_law 446 = .ok (.iload_n 3, 1) := by decide +kernel
theorem dL_law_447 : decode cL_law 447 = .ok (.iconst 1, 1) := by decide +kernel
theorem dL_law_448 : decode cL_law 448 = .ok (.iadd, 1) := by decide +kernel
theorem dL_law_449 : decode cL_law 449 = .ok (.iaload, 1) := by decide +kernel
theorem dL_law_450 : decode cL_law 450 = .ok (.aload_n 0, 1) := by decide +kernel
theorem dL_law_451 : decode cL_law 451 = .ok (.iload_n 3, 1) := by decide +kernel
theorem dL_law_452 : decode cL_law 452 = .ok (.iconst 2, 1) := by decide +kernel
theorem dL_law_453 : decode cL_law 453 = .ok (.iadd, 1) := by decide +kernel
theorem dL_law_454 : decode cL_law 454 = .ok (.iaload, 1) := by decide +kernel
theorem dL_law_455 : decode cL_law 455 = .ok (.aload_n 0, 1) := by decide +kernel
theorem dL_law_456 : decode cL_law 456 = .ok (.iload_n 3, 1) := by decide +kernel
theorem dL_law_457 : decode cL_law 457 = .ok (.iconst 3, 1) := by decide +kernel
theorem dL_law_458 : decode cL_law 458 = .ok (.iadd, 1) := by decide +kernel
theorem dL_law_459 : decode cL_law 459 = .ok (.iaload, 1) := by decide +kernel
theorem dL_law_460 : decode cL_law 460 = .ok (.ifCond .eq 7, 3) := by decide +kernel
theorem dL_law_463 : decode cL_law 463 = .ok (.iconst 1, 1) := by decide +kernel
theorem dL_law_464 : decode cL_law 464 = .ok (.goto 4, 3) := by decide +kernel
theorem dL_law_467 : decode cL_law 467 = .ok (.iconst 0, 1) := by decide +kernel
theorem dL_law_468 : decode cL_law 468 = .ok (.invokevirtual 52, 3) := by decide +kernel
theorem dL_law_471 : decode cL_law 471 = .ok (.aload_n 2, 1) := by decide +kernel
theorem dL_law_472 : decode cL_law 472 = .ok (.aload_n 0, 1) := by decide +kernel
theorem dL_law_473 : decode cL_law 473 = .ok (.iload_n 3, 1) := by decide +kernel
theorem dL_law_474 : decode cL_law 474 = .ok (.iconst 1, 1) := by decide +kernel
theorem dL_law_475 : decode cL_law 475 = .ok (.iadd, 1) := by decide +kernel
theorem dL_law_476 : decode cL_law 476 = .ok (.iaload, 1) := by decide +kernel
theorem dL_law_477 : decode cL_law 477 = .ok (.aload_n 0, 1) := by decide +kernel
theorem dL_law_478 : decode cL_law 478 = .ok (.iload_n 3, 1) := by decide +kernel
theorem dL_law_479 : decode cL_law 479 = .ok (.iconst 2, 1) := by decide +kernel
theorem dL_law_480 : decode cL_law 480 = .ok (.iadd, 1) := by decide +kernel
theorem dL_law_481 : decode cL_law 481 = .ok (.iaload, 1) := by decide +kernel
theorem dL_law_482 : decode cL_law 482 = .ok (.aload_n 0, 1) := by decide +kernel
theorem dL_law_483 : decode cL_law 483 = .ok (.iload_n 3, 1) := by decide +kernel
theorem dL_law_484 : decode cL_law 484 = .ok (.iconst 3, 1) := by decide +kernel
theorem dL_law_485 : decode cL_law 485 = .ok (.iadd, 1) := by decide +kernel
theorem dL_law_486 : decode cL_law 486 = .ok (.iaload, 1) := by decide +kernel
theorem dL_law_487 : decode cL_law 487 = .ok (.ifCond .eq 7, 3) := by decide +kernel
theorem dL_law_490 : decode cL_law 490 = .ok (.iconst 1, 1) := by decide +kernel
theorem dL_law_491 : decode cL_law 491 = .ok (.goto 4, 3) := by decide +kernel
theorem dL_law_494 : decode cL_law 494 = .ok (.iconst 0, 1) := by decide +kernel
theorem dL_law_495 : decode cL_law 495 = .ok (.invokevirtual 56, 3) := by decide +kernel
theorem dL_law_498 : decode cL_law 498 = .ok (.if_icmp .eq 242, 3) := by decide +kernel
theorem dL_law_501 : decode cL_law 501 = .ok (.iconst 0, 1) := by decide +kernel
theorem dL_law_502 : decode cL_law 502 = .ok (.ireturn, 1) := by decide +kernel
theorem dL_law_503 : decode cL_law 503 = .ok (.aload_n 1, 1) := by decide +kernel
theorem dL_law_504 : decode cL_law 504 = .ok (.aload_n 0, 1) := by decide +kernel
theorem dL_law_505 : decode cL_law 505 = .ok (.iload_n 3, 1) := by decide +kernel
theorem dL_law_506 : decode cL_law 506 = .ok (.iconst 1, 1) := by decide +kernel
theorem dL_law_507 : decode cL_law 507 = .ok (.iadd, 1) := by decide +kernel
theorem dL_law_508 : decode cL_law 508 = .ok (.iaload, 1) := by decide +kernel
theorem dL_law_509 : decode cL_law 509 = .ok (.aload_n 0, 1) := by decide +kernel
theorem dL_law_510 : decode cL_law 510 = .ok (.iload_n 3, 1) := by decide +kernel
theorem dL_law_511 : decode cL_law 511 = .ok (.iconst 2, 1) := by decide +kernel
theorem dL_law_512 : decode cL_law 512 = .ok (.iadd, 1) := by decide +kernel
theorem dL_law_513 : decode cL_law 513 = .ok (.iaload, 1) := by decide +kernel
theorem dL_law_514 : decode cL_law 514 = .ok (.aload_n 0, 1) := by decide +kernel
theorem dL_law_515 : decode cL_law 515 = .ok (.iload_n 3, 1) := by decide +kernel
theorem dL_law_516 : decode cL_law 516 = .ok (.iconst 3, 1) := by decide +kernel
theorem dL_law_517 : decode cL_law 517 = .ok (.iadd, 1) := by decide +kernel
theorem dL_law_518 : decode cL_law 518 = .ok (.iaload, 1) := by decide +kernel
theorem dL_law_519 : decode cL_law 519 = .ok (.invokevirtual 57, 3) := by decide +kernel
theorem dL_law_522 : decode cL_law 522 = .ok (.aload_n 2, 1) := by decide +kernel
theorem dL_law_523 : decode cL_law 523 = .ok (.aload_n 0, 1) := by decide +kernel
theorem dL_law_524 : decode cL_law 524 = .ok (.iload_n 3, 1) := by decide +kernel
theorem dL_law_525 : decode cL_law 525 = .ok (.iconst 1, 1) := by decide +kernel
theorem dL_law_526 : decode cL_law 526 = .ok (.iadd, 1) := by decide +kernel
theorem dL_law_527 : decode cL_law 527 = .ok (.iaload, 1) := by decide +kernel
theorem dL_law_528 : decode cL_law 528 = .ok (.aload_n 0, 1) := by decide +kernel
theorem dL_law_529 : decode cL_law 529 = .ok (.iload_n 3, 1) := by decide +kernel
theorem dL_law_530 : decode cL_law 530 = .ok (.iconst 2, 1) := by decide +kernel
theorem dL_law_531 : decode cL_law 531 = .ok (.iadd, 1) := by decide +kernel
theorem dL_law_532 : decode cL_law 532 = .ok (.iaload, 1) := by decide +kernel
theorem dL_law_533 : decode cL_law 533 = .ok (.aload_n 0, 1) := by decide +kernel
theorem dL_law_534 : decode cL_law 534 = .ok (.iload_n 3, 1) := by decide +kernel
theorem dL_law_535 : decode cL_law 535 = .ok (.iconst 3, 1) := by decide +kernel
theorem dL_law_536 : decode cL_law 536 = .ok (.iadd, 1) := by decide +kernel
theorem dL_law_537 : decode cL_law 537 = .ok (.iaload, 1) := by decide +kernel
theorem dL_law_538 : decode cL_law 538 = .ok (.invokevirtual 60, 3) := by decide +kernel
theorem dL_law_541 : decode cL_law 541 = .ok (.if_icmp .eq 199, 3) := by decide +kernel
theorem dL_law_544 : decode cL_law 544 = .ok (.iconst 0, 1) := by decide +kernel
theorem dL_law_545 : decode cL_law 545 = .ok (.ireturn, 1) := by decide +kernel
theorem dL_law_546 : decode cL_law 546 = .ok (.aload_n 1, 1) := by decide +kernel
theorem dL_law_547 : decode cL_law 547 = .ok (.aload_n 0, 1) := by decide +kernel
theorem dL_law_548 : decode cL_law 548 = .ok (.iload_n 3, 1) := by decide +kernel
theorem dL_law_549 : decode cL_law 549 = .ok (.iconst 1, 1) := by decide +kernel
theorem dL_law_550 : decode cL_law 550 = .ok (.iadd, 1) := by decide +kernel
theorem dL_law_551 : decode cL_law 551 = .ok (.iaload, 1) := by decide +kernel
theorem dL_law_552 : decode cL_law 552 = .ok (.invokevirtual 61, 3) := by decide +kernel
theorem dL_law_555 : decode cL_law 555 = .ok (.aload_n 2, 1) := by decide +kernel
theorem dL_law_556 : decode cL_law 556 = .ok (.aload_n 0, 1) := by decide +kernel
theorem dL_law_557 : decode cL_law 557 = .ok (.iload_n 3, 1) := by decide +kernel
theorem dL_law_558 : decode cL_law 558 = .ok (.iconst 1, 1) := by decide +kernel
theorem dL_law_559 : decode cL_law 559 = .ok (.iadd, 1) := by decide +kernel
theorem dL_law_560 : decode cL_law 560 = .ok (.iaload, 1) := by decide +kernel
theorem dL_law_561 : decode cL_law 561 = .ok (.invokevirtual 65, 3) := by decide +kernel
theorem dL_law_564 : decode cL_law 564 = .ok (.if_icmp .eq 176, 3) := by decide +kernel
theorem dL_law_567 : decode cL_law 567 = .ok (.iconst 0, 1) := by decide +kernel
theorem dL_law_568 : decode cL_law 568 = .ok (.ireturn, 1) := by decide +kernel
theorem dL_law_569 : decode cL_law 569 = .ok (.aload_n 1, 1) := by decide +kernel
theorem dL_law_570 : decode cL_law 570 = .ok (.aload_n 0, 1) := by decide +kernel
theorem dL_law_571 : decode cL_law 571 = .ok (.iload_n 3, 1) := by decide +kernel
theorem dL_law_572 : decode cL_law 572 = .ok (.iconst 1, 1) := by decide +kernel
theorem dL_law_573 : decode cL_law 573 = .ok (.iadd, 1) := by decide +kernel
theorem dL_law_574 : decode cL_law 574 = .ok (.iaload, 1) := by decide +kernel
theorem dL_law_575 : decode cL_law 575 = .ok (.invokevirtual 66, 3) := by decide +kernel
theorem dL_law_578 : decode cL_law 578 = .ok (.aload_n 2, 1) := by decide +kernel
theorem dL_law_579 : decode cL_law 579 = .ok (.aload_n 0, 1) := by decide +kernel
theorem dL_law_580 : decode cL_law 580 = .ok (.iload_n 3, 1) := by decide +kernel
theorem dL_law_581 : decode cL_law 581 = .ok (.iconst 1, 1) := by decide +kernel
theorem dL_law_582 : decode cL_law 582 = .ok (.iadd, 1) := by decide +kernel
theorem dL_law_583 : decode cL_law 583 = .ok (.iaload, 1) := by decide +kernel
theorem dL_law_584 : decode cL_law 584 = .ok (.invokevirtual 69, 3) := by decide +kernel
theorem dL_law_587 : decode cL_law 587 = .ok (.if_icmp .eq 153, 3) := by decide +kernel
theorem dL_law_590 : decode cL_law 590 = .ok (.iconst 0, 1) := by decide +kernel
theorem dL_law_591 : decode cL_law 591 = .ok (.ireturn, 1) := by decide +kernel
theorem dL_law_592 : decode cL_law 592 = .ok (.aload_n 1, 1) := by decide +kernel
theorem dL_law_593 : decode cL_law 593 = .ok (.invokevirtual 70, 3) := by decide +kernel
theorem dL_law_596 : decode cL_law 596 = .ok (.aload_n 2, 1) := by decide +kernel
theorem dL_law_597 : decode cL_law 597 = .ok (.invokevirtual 73, 3) := by decide +kernel
theorem dL_law_600 : decode cL_law 600 = .ok (.if_icmp .eq 140, 3) := by decide +kernel
theorem dL_law_603 : decode cL_law 603 = .ok (.iconst 0, 1) := by decide +kernel
theorem dL_law_604 : decode cL_law 604 = .ok (.ireturn, 1) := by decide +kernel
theorem dL_law_605 : decode cL_law 605 = .ok (.aload_n 1, 1) := by decide +kernel
theorem dL_law_606 : decode cL_law 606 = .ok (.invokevirtual 74, 3) := by decide +kernel
theorem dL_law_609 : decode cL_law 609 = .ok (.aload_n 2, 1) := by decide +kernel
theorem dL_law_610 : decode cL_law 610 = .ok (.invokevirtual 77, 3) := by decide +kernel
theorem dL_law_613 : decode cL_law 613 = .ok (.if_icmp .eq 127, 3) := by decide +kernel
theorem dL_law_616 : decode cL_law 616 = .ok (.iconst 0, 1) := by decide +kernel
theorem dL_law_617 : decode cL_law 617 = .ok (.ireturn, 1) := by decide +kernel
theorem dL_law_618 : decode cL_law 618 = .ok (.aload_n 1, 1) := by decide +kernel
theorem dL_law_619 : decode cL_law 619 = .ok (.aload_n 0, 1) := by decide +kernel
theorem dL_law_620 : decode cL_law 620 = .ok (.iload_n 3, 1) := by decide +kernel
theorem dL_law_621 : decode cL_law 621 = .ok (.iconst 1, 1) := by decide +kernel
theorem dL_law_622 : decode cL_law 622 = .ok (.iadd, 1) := by decide +kernel
theorem dL_law_623 : decode cL_law 623 = .ok (.iaload, 1) := by decide +kernel
theorem dL_law_624 : decode cL_law 624 = .ok (.invokevirtual 78, 3) := by decide +kernel
theorem dL_law_627 : decode cL_law 627 = .ok (.aload_n 2, 1) := by decide +kernel
theorem dL_law_628 : decode cL_law 628 = .ok (.aload_n 0, 1) := by decide +kernel
theorem dL_law_629 : decode cL_law 629 = .ok (.iload_n 3, 1) := by decide +kernel
theorem dL_law_630 : decode cL_law 630 = .ok (.iconst 1, 1) := by decide +kernel
theorem dL_law_631 : decode cL_law 631 = .ok (.iadd, 1) := by decide +kernel
theorem dL_law_632 : decode cL_law 632 = .ok (.iaload, 1) := by decide +kernel
theorem dL_law_633 : decode cL_law 633 = .ok (.invokevirtual 81, 3) := by decide +kernel
theorem dL_law_636 : decode cL_law 636 = .ok (.if_icmp .eq 104, 3) := by decide +kernel
theorem dL_law_639 : decode cL_law 639 = .ok (.iconst 0, 1) := by decide +kernel
theorem dL_law_640 : decode cL_law 640 = .ok (.ireturn, 1) := by decide +kernel
theorem dL_law_641 : decode cL_law 641 = .ok (.aload_n 1, 1) := by decide +kernel
theorem dL_law_642 : decode cL_law 642 = .ok (.aload_n 0, 1) := by decide +kernel
theorem dL_law_643 : decode cL_law 643 = .ok (.iload_n 3, 1) := by decide +kernel
theorem dL_law_644 : decode cL_law 644 = .ok (.iconst 1, 1) := by decide +kernel
theorem dL_law_645 : decode cL_law 645 = .ok (.iadd, 1) := by decide +kernel
theorem dL_law_646 : decode cL_law 646 = .ok (.iaload, 1) := by decide +kernel
theorem dL_law_647 : decode cL_law 647 = .ok (.aload_n 0, 1) := by decide +kernel
theorem dL_law_648 : decode cL_law 648 = .ok (.iload_n 3, 1) := by decide +kernel
theorem dL_law_649 : decode cL_law 649 = .ok (.iconst 2, 1) := by decide +kernel
theorem dL_law_650 : decode cL_law 650 = .ok (.iadd, 1) := by decide +kernel
theorem dL_law_651 : decode cL_law 651 = .ok (.iaload, 1) := by decide +kernel
theorem dL_law_652 : decode cL_law 652 = .ok (.aload_n 0, 1) := by decide +kernel
theorem dL_law_653 : decode cL_law 653 = .ok (.iload_n 3, 1) := by decide +kernel
theorem dL_law_654 : decode cL_law 654 = .ok (.iconst 3, 1) := by decide +kernel
theorem dL_law_655 : decode cL_law 655 = .ok (.iadd, 1) := by decide +kernel
theorem dL_law_656 : decode cL_law 656 = .ok (.iaload, 1) := by decide +kernel
theorem dL_law_657 : decode cL_law 657 = .ok (.invokevirtual 82, 3) := by decide +kernel
theorem dL_law_660 : decode cL_law 660 = .ok (.aload_n 2, 1) := by decide +kernel
theorem dL_law_661 : decode cL_law 661 = .ok (.aload_n 0, 1) := by decide +kernel
theorem dL_law_662 : decode cL_law 662 = .ok (.iload_n 3, 1) := by decide +kernel
theorem dL_law_663 : decode cL_law 663 = .ok (.iconst 1, 1) := by decide +kernel
theorem dL_law_664 : decode cL_law 664 = .ok (.iadd, 1) := by decide +kernel
theorem dL_law_665 : decode cL_law 665 = .ok (.iaload, 1) := by decide +kernel
theorem dL_law_666 : decode cL_law 666 = .ok (.aload_n 0, 1) := by decide +kernel
theorem dL_law_667 : decode cL_law 667 = .ok (.iload_n 3, 1) := by decide +kernel
theorem dL_law_668 : decode cL_law 668 = .ok (.iconst 2, 1) := by decide +kernel
theorem dL_law_669 : decode cL_law 669 = .ok (.iadd, 1) := by decide +kernel
theorem dL_law_670 : decode cL_law 670 = .ok (.iaload, 1) := by decide +kernel
theorem dL_law_671 : decode cL_law 671 = .ok (.aload_n 0, 1) := by decide +kernel
theorem dL_law_672 : decode cL_law 672 = .ok (.iload_n 3, 1) := by decide +kernel
theorem dL_law_673 : decode cL_law 673 = .ok (.iconst 3, 1) := by decide +kernel
theorem dL_law_674 : decode cL_law 674 = .ok (.iadd, 1) := by decide +kernel
theorem dL_law_675 : decode cL_law 675 = .ok (.iaload, 1) := by decide +kernel
theorem dL_law_676 : decode cL_law 676 = .ok (.invokevirtual 85, 3) := by decide +kernel
theorem dL_law_679 : decode cL_law 679 = .ok (.if_icmp .eq 61, 3) := by decide +kernel
theorem dL_law_682 : decode cL_law 682 = .ok (.iconst 0, 1) := by decide +kernel
theorem dL_law_683 : decode cL_law 683 = .ok (.ireturn, 1) := by decide +kernel
theorem dL_law_684 : decode cL_law 684 = .ok (.aload_n 1, 1) := by decide +kernel
theorem dL_law_685 : decode cL_law 685 = .ok (.aload_n 0, 1) := by decide +kernel
theorem dL_law_686 : decode cL_law 686 = .ok (.iload_n 3, 1) := by decide +kernel
theorem dL_law_687 : decode cL_law 687 = .ok (.iconst 1, 1) := by decide +kernel
theorem dL_law_688 : decode cL_law 688 = .ok (.iadd, 1) := by decide +kernel
theorem dL_law_689 : decode cL_law 689 = .ok (.iaload, 1) := by decide +kernel
theorem dL_law_690 : decode cL_law 690 = .ok (.aload_n 0, 1) := by decide +kernel
theorem dL_law_691 : decode cL_law 691 = .ok (.iload_n 3, 1) := by decide +kernel
theorem dL_law_692 : decode cL_law 692 = .ok (.iconst 2, 1) := by decide +kernel
theorem dL_law_693 : decode cL_law 693 = .ok (.iadd, 1) := by decide +kernel
theorem dL_law_694 : decode cL_law 694 = .ok (.iaload, 1) := by decide +kernel
theorem dL_law_695 : decode cL_law 695 = .ok (.invokevirtual 86, 3) := by decide +kernel
theorem dL_law_698 : decode cL_law 698 = .ok (.aload_n 2, 1) := by decide +kernel
theorem dL_law_699 : decode cL_law 699 = .ok (.aload_n 0, 1) := by decide +kernel
theorem dL_law_700 : decode cL_law 700 = .ok (.iload_n 3, 1) := by decide +kernel
theorem dL_law_701 : decode cL_law 701 = .ok (.iconst 1, 1) := by decide +kernel
theorem dL_law_702 : decode cL_law 702 = .ok (.iadd, 1) := by decide +kernel
theorem dL_law_703 : decode cL_law 703 = .ok (.iaload, 1) := by decide +kernel
theorem dL_law_704 : decode cL_law 704 = .ok (.aload_n 0, 1) := by decide +kernel
theorem dL_law_705 : decode cL_law 705 = .ok (.iload_n 3, 1) := by decide +kernel
theorem dL_law_706 : decode cL_law 706 = .ok (.iconst 2, 1) := by decide +kernel
theorem dL_law_707 : decode cL_law 707 = .ok (.iadd, 1) := by decide +kernel
theorem dL_law_708 : decode cL_law 708 = .ok (.iaload, 1) := by decide +kernel
theorem dL_law_709 : decode cL_law 709 = .ok (.invokevirtual 89, 3) := by decide +kernel
theorem dL_law_712 : decode cL_law 712 = .ok (.if_icmp .eq 28, 3) := by decide +kernel
theorem dL_law_715 : decode cL_law 715 = .ok (.iconst 0, 1) := by decide +kernel
theorem dL_law_716 : decode cL_law 716 = .ok (.ireturn, 1) := by decide +kernel
theorem dL_law_717 : decode cL_law 717 = .ok (.aload_n 1, 1) := by decide +kernel
theorem dL_law_718 : decode cL_law 718 = .ok (.aload_n 0, 1) := by decide +kernel
theorem dL_law_719 : decode cL_law 719 = .ok (.iload_n 3, 1) := by decide +kernel
theorem dL_law_720 : decode cL_law 720 = .ok (.iconst 1, 1) := by decide +kernel
theorem dL_law_721 : decode cL_law 721 = .ok (.iadd, 1) := by decide +kernel
theorem dL_law_722 : decode cL_law 722 = .ok (.iaload, 1) := by decide +kernel
theorem dL_law_723 : decode cL_law 723 = .ok (.invokevirtual 90, 3) := by decide +kernel
theorem dL_law_726 : decode cL_law 726 = .ok (.aload_n 2, 1) := by decide +kernel
theorem dL_law_727 : decode cL_law 727 = .ok (.aload_n 0, 1) := by decide +kernel
theorem dL_law_728 : decode cL_law 728 = .ok (.iload_n 3, 1) := by decide +kernel
theorem dL_law_729 : decode cL_law 729 = .ok (.iconst 1, 1) := by decide +kernel
theorem dL_law_730 : decode cL_law 730 = .ok (.iadd, 1) := by decide +kernel
theorem dL_law_731 : decode cL_law 731 = .ok (.iaload, 1) := by decide +kernel
theorem dL_law_732 : decode cL_law 732 = .ok (.invokevirtual 93, 3) := by decide +kernel
theorem dL_law_735 : decode cL_law 735 = .ok (.if_icmp .eq 5, 3) := by decide +kernel
theorem dL_law_738 : decode cL_law 738 = .ok (.iconst 0, 1) := by decide +kernel
theorem dL_law_739 : decode cL_law 739 = .ok (.ireturn, 1) := by decide +kernel
theorem dL_law_740 : decode cL_law 740 = .ok (.iinc 3 6, 3) := by decide +kernel
theorem dL_law_743 : decode cL_law 743 = .ok (.goto (-725), 3) := by decide +kernel
theorem dL_law_746 : decode cL_law 746 = .ok (.iconst 1, 1) := by decide +kernel
theorem dL_law_747 : decode cL_law 747 = .ok (.ireturn, 1) := by decide +kernel
end
section
theorem dX6_in_0 : decode cX6_in 0 = .ok (.iload_n 0, 1) := by decide +kernel
theorem dX6_in_1 : decode cX6_in 1 = .ok (.iload_n 1, 1) := by decide +kernel
theorem dX6_in_2 : decode cX6_in 2 = .ok (.if_icmp .lt 12, 3) := by decide +kernel
theorem dX6_in_5 : decode cX6_in 5 = .ok (.iload_n 0, 1) := by decide +kernel
theorem dX6_in_6 : decode cX6_in 6 = .ok (.iload_n 2, 1) := by decide +kernel
theorem dX6_in_7 : decode cX6_in 7 = .ok (.if_icmp .gt 7, 3) := by decide +kernel
theorem dX6_in_10 : decode cX6_in 10 = .ok (.iconst 1, 1) := by decide +kernel
theorem dX6_in_11 : decode cX6_in 11 = .ok (.goto 4, 3) := by decide +kernel
theorem dX6_in_14 : decode cX6_in 14 = .ok (.iconst 0, 1) := by decide +kernel
theorem dX6_in_15 : decode cX6_in 15 = .ok (.ireturn, 1) := by decide +kernel
theorem dX6_isPage_0 : decode cX6_isPage 0 = .ok (.iload_n 1, 1) := by decide +kernel
theorem dX6_isPage_1 : decode cX6_isPage 1 = .ok (.iconst 0, 1) := by decide +kernel
theorem dX6_isPage_2 : decode cX6_isPage 2 = .ok (.aload_n 0, 1) := by decide +kernel
theorem dX6_isPage_3 : decode cX6_isPage 3 = .ok (.getfield 99, 3) := by decide +kernel
theorem dX6_isPage_6 : decode cX6_isPage 6 = .ok (.iconst 1, 1) := by decide +kernel
theorem dX6_isPage_7 : decode cX6_isPage 7 = .ok (.isub, 1) := by decide +kernel
theorem dX6_isPage_8 : decode cX6_isPage 8 = .ok (.invokestatic 102, 3) := by decide +kernel
theorem dX6_isPage_11 : decode cX6_isPage 11 = .ok (.ireturn, 1) := by decide +kernel
theorem dX6_changes_0 : decode cX6_changes 0 = .ok (.aload_n 0, 1) := by decide +kernel
theorem dX6_changes_1 : decode cX6_changes 1 = .ok (.iconst 0, 1) := by decide +kernel
theorem dX6_changes_2 : decode cX6_changes 2 = .ok (.putfield 106, 3) := by decide +kernel
theorem dX6_changes_5 : decode cX6_changes 5 = .ok (.return_, 1) := by decide +kernel
theorem dX6_page_0 : decode cX6_page 0 = .ok (.aload_n 0, 1) := by decide +kernel
theorem dX6_page_1 : decode cX6_page 1 = .ok (.getfield 99, 3) := by decide +kernel
theorem dX6_page_4 : decode cX6_page 4 = .ok (.bipush 16, 2) := by decide +kernel
theorem dX6_page_6 : decode cX6_page 6 = .ok (.if_icmp .ne 5, 3) := by decide +kernel
theorem dX6_page_9 : decode cX6_page 9 = .ok (.iconst (-1), 1) := by decide +kernel
theorem dX6_page_10 : decode cX6_page 10 = .ok (.ireturn, 1) := by decide +kernel
theorem dX6_page_11 : decode cX6_page 11 = .ok (.aload_n 0, 1) := by decide +kernel
theorem dX6_page_12 : decode cX6_page 12 = .ok (.getfield 7, 3) := by decide +kernel
theorem dX6_page_15 : decode cX6_page 15 = .ok (.aload_n 0, 1) := by decide +kernel
theorem dX6_page_16 : decode cX6_page 16 = .ok (.getfield 99, 3) := by decide +kernel
theorem dX6_page_19 : decode cX6_page 19 = .ok (.iconst 0, 1) := by decide +kernel
theorem dX6_page_20 : decode cX6_page 20 = .ok (.iastore, 1) := by decide +kernel
theorem dX6_page_21 : decode cX6_page 21 = .ok (.aload_n 0, 1) := by decide +kernel
theorem dX6_page_22 : decode cX6_page 22 = .ok (.getfield 22, 3) := by decide +kernel
theorem dX6_page_25 : decode cX6_page 25 = .ok (.aload_n 0, 1) := by decide +kernel
theorem dX6_page_26 : decode cX6_page 26 = .ok (.getfield 99, 3) := by decide +kernel
theorem dX6_page_29 : decode cX6_page 29 = .ok (.iconst (-1), 1) := by decide +kernel
theorem dX6_page_30 : decode cX6_page 30 = .ok (.iastore, 1) := by decide +kernel
theorem dX6_page_31 : decode cX6_page 31 = .ok (.aload_n 0, 1) := by decide +kernel
theorem dX6_page_32 : decode cX6_page 32 = .ok (.dup, 1) := by decide +kernel
theorem dX6_page_33 : decode cX6_page 33 = .ok (.getfield 99, 3) := by decide +kernel
theorem dX6_page_36 : decode cX6_page 36 = .ok (.iconst 1, 1) := by decide +kernel
theorem dX6_page_37 : decode cX6_page 37 = .ok (.iadd, 1) := by decide +kernel
theorem dX6_page_38 : decode cX6_page 38 = .ok (.putfield 99, 3) := by decide +kernel
theorem dX6_page_41 : decode cX6_page 41 = .ok (.aload_n 0, 1) := by decide +kernel
theorem dX6_page_42 : decode cX6_page 42 = .ok (.invokevirtual 110, 3) := by decide +kernel
theorem dX6_page_45 : decode cX6_page 45 = .ok (.aload_n 0, 1) := by decide +kernel
theorem dX6_page_46 : decode cX6_page 46 = .ok (.getfield 99, 3) := by decide +kernel
theorem dX6_page_49 : decode cX6_page 49 = .ok (.iconst 1, 1) := by decide +kernel
theorem dX6_page_50 : decode cX6_page 50 = .ok (.isub, 1) := by decide +kernel
theorem dX6_page_51 : decode cX6_page 51 = .ok (.ireturn, 1) := by decide +kernel
theorem dX6_tell_0 : decode cX6_tell 0 = .ok (.aload_n 0, 1) := by decide +kernel
theorem dX6_tell_1 : decode cX6_tell 1 = .ok (.iload_n 1, 1) := by decide +kernel
theorem dX6_tell_2 : decode cX6_tell 2 = .ok (.invokevirtual 113, 3) := by decide +kernel
theorem dX6_tell_5 : decode cX6_tell 5 = .ok (.ifCond .eq 21, 3) := by decide +kernel
theorem dX6_tell_8 : decode cX6_tell 8 = .ok (.iload_n 2, 1) := by decide +kernel
theorem dX6_tell_9 : decode cX6_tell 9 = .ok (.iconst (-1), 1) := by decide +kernel
theorem dX6_tell_10 : decode cX6_tell 10 = .ok (.iconst 4, 1) := by decide +kernel
theorem dX6_tell_11 : decode cX6_tell 11 = .ok (.invokestatic 102, 3) := by decide +kernel
theorem dX6_tell_14 : decode cX6_tell 14 = .ok (.ifCond .eq 12, 3) := by decide +kernel
theorem dX6_tell_17 : decode cX6_tell 17 = .ok (.aload_n 0, 1) := by decide +kernel
theorem dX6_tell_18 : decode cX6_tell 18 = .ok (.getfield 7, 3) := by decide +kernel
theorem dX6_tell_21 : decode cX6_tell 21 = .ok (.iload_n 1, 1) := by decide +kernel
theorem dX6_tell_22 : decode cX6_tell 22 = .ok (.iaload, 1) := by decide +kernel
theorem dX6_tell_23 : decode cX6_tell 23 = .ok (.ifCond .ne 5, 3) := by decide +kernel
theorem dX6_tell_26 : decode cX6_tell 26 = .ok (.iconst 0, 1) := by decide +kernel
theorem dX6_tell_27 : decode cX6_tell 27 = .ok (.ireturn, 1) := by decide +kernel
theorem dX6_tell_28 : decode cX6_tell 28 = .ok (.aload_n 0, 1) := by decide +kernel
theorem dX6_tell_29 : decode cX6_tell 29 = .ok (.getfield 22, 3) := by decide +kernel
theorem dX6_tell_32 : decode cX6_tell 32 = .ok (.iload_n 1, 1) := by decide +kernel
theorem dX6_tell_33 : decode cX6_tell 33 = .ok (.iload_n 2, 1) := by decide +kernel
theorem dX6_tell_34 : decode cX6_tell 34 = .ok (.iastore, 1) := by decide +kernel
theorem dX6_tell_35 : decode cX6_tell 35 = .ok (.aload_n 0, 1) := by decide +kernel
theorem dX6_tell_36 : decode cX6_tell 36 = .ok (.invokevirtual 110, 3) := by decide +kernel
theorem dX6_tell_39 : decode cX6_tell 39 = .ok (.iconst 1, 1) := by decide +kernel
theorem dX6_tell_40 : decode cX6_tell 40 = .ok (.ireturn, 1) := by decide +kernel
theorem dX6_bounds_0 : decode cX6_bounds 0 = .ok (.iload_n 1, 1) := by decide +kernel
theorem dX6_bounds_1 : decode cX6_bounds 1 = .ok (.iconst 0, 1) := by decide +kernel
theorem dX6_bounds_2 : decode cX6_bounds 2 = .ok (.sipush 1000, 3) := by decide +kernel
theorem dX6_bounds_5 : decode cX6_bounds 5 = .ok (.invokestatic 102, 3) := by decide +kernel
theorem dX6_bounds_8 : decode cX6_bounds 8 = .ok (.ifCond .eq 25, 3) := by decide +kernel
theorem dX6_bounds_11 : decode cX6_bounds 11 = .ok (.iload_n 2, 1) := by decide +kernel
theorem dX6_bounds_12 : decode cX6_bounds 12 = .ok (.iconst 0, 1) := by decide +kernel
theorem dX6_bounds_13 : decode cX6_bounds 13 = .ok (.sipush 1000, 3) := by decide +kernel
theorem dX6_bounds_16 : decode cX6_bounds 16 = .ok (.invokestatic 102, 3) := by decide +kernel
theorem dX6_bounds_19 : decode cX6_bounds 19 = .ok (.ifCond .eq 14, 3) := by decide +kernel
theorem dX6_bounds_22 : decode cX6_bounds 22 = .ok (.iload_n 3, 1) := by decide +kernel
theorem dX6_bounds_23 : decode cX6_bounds 23 = .ok (.iconst 0, 1) := by decide +kernel
theorem dX6_bounds_24 : decode cX6_bounds 24 = .ok (.sipush 1000, 3) := by decide +kernel
theorem dX6_bounds_27 : decode cX6_bounds 27 = .ok (.invokestatic 102, 3) := by decide +kernel
theorem dX6_bounds_30 : decode cX6_bounds 30 = .ok (.ifCond .ne 5, 3) := by decide +kernel
theorem dX6_bounds_33 : decode cX6_bounds 33 = .ok (.iconst 0, 1) := by decide +kernel
theorem dX6_bounds_34 : decode cX6_bounds 34 = .ok (.ireturn, 1) := by decide +kernel
theorem dX6_bounds_35 : decode cX6_bounds 35 = .ok (.aload_n 0, 1) := by decide +kernel
theorem dX6_bounds_36 : decode cX6_bounds 36 = .ok (.iload_n 1, 1) := by decide +kernel
theorem dX6_bounds_37 : decode cX6_bounds 37 = .ok (.putfield 28, 3) := by decide +kernel
theorem dX6_bounds_40 : decode cX6_bounds 40 = .ok (.aload_n 0, 1) := by decide +kernel
theorem dX6_bounds_41 : decode cX6_bounds 41 = .ok (.iload_n 2, 1) := by decide +kernel
theorem dX6_bounds_42 : decode cX6_bounds 42 = .ok (.putfield 32, 3) := by decide +kernel
theorem dX6_bounds_45 : decode cX6_bounds 45 = .ok (.aload_n 0, 1) := by decide +kernel
theorem dX6_bounds_46 : decode cX6_bounds 46 = .ok (.iload_n 3, 1) := by decide +kernel
theorem dX6_bounds_47 : decode cX6_bounds 47 = .ok (.putfield 35, 3) := by decide +kernel
theorem dX6_bounds_50 : decode cX6_bounds 50 = .ok (.iconst 1, 1) := by decide +kernel
theorem dX6_bounds_51 : decode cX6_bounds 51 = .ok (.ireturn, 1) := by decide +kernel
theorem dX6_boxWith_0 : decode cX6_boxWith 0 = .ok (.iconst (-1), 1) := by decide +kernel
theorem dX6_boxWith_1 : decode cX6_boxWith 1 = .ok (.istore_n 3, 1) := by decide +kernel
theorem dX6_boxWith_2 : decode cX6_boxWith 2 = .ok (.bipush 8, 2) := by decide +kernel
theorem dX6_boxWith_4 : decode cX6_boxWith 4 = .ok (.iload_n 1, 1) := by decide +kernel
theorem dX6_boxWith_5 : decode cX6_boxWith 5 = .ok (.imul, 1) := by decide +kernel
theorem dX6_boxWith_6 : decode cX6_boxWith 6 = .ok (.istore 4, 2) := by decide +kernel
theorem dX6_boxWith_8 : decode cX6_boxWith 8 = .ok (.iload 4, 2) := by decide +kernel
theorem dX6_boxWith_10 : decode cX6_boxWith 10 = .ok (.bipush 8, 2) := by decide +kernel
theorem dX6_boxWith_12 : decode cX6_boxWith 12 = .ok (.iload_n 1, 1) := by decide +kernel
theorem dX6_boxWith_13 : decode cX6_boxWith 13 = .ok (.imul, 1) := by decide +kernel
theorem dX6_boxWith_14 : decode cX6_boxWith 14 = .ok (.aload_n 0, 1) := by decide +kernel
theorem dX6_boxWith_15 : decode cX6_boxWith 15 = .ok (.getfield 7, 3) := by decide +kernel
theorem dX6_boxWith_18 : decode cX6_boxWith 18 = .ok (.iload_n 1, 1) := by decide +kernel
theorem dX6_boxWith_19 : decode cX6_boxWith 19 = .ok (.iaload, 1) := by decide +kernel
theorem dX6_boxWith_20 : decode cX6_boxWith 20 = .ok (.iadd, 1) := by decide +kernel
theorem dX6_boxWith_21 : decode cX6_boxWith 21 = .ok (.if_icmp .ge 27, 3) := by decide +kernel
theorem dX6_boxWith_24 : decode cX6_boxWith 24 = .ok (.aload_n 0, 1) := by decide +kernel
theorem dX6_boxWith_25 : decode cX6_boxWith 25 = .ok (.getfield 19, 3) := by decide +kernel
theorem dX6_boxWith_28 : decode cX6_boxWith 28 = .ok (.iload 4, 2) := by decide +kernel
theorem dX6_boxWith_30 : decode cX6_boxWith 30 = .ok (.iaload, 1) := by decide +kernel
theorem dX6_boxWith_31 : decode cX6_boxWith 31 = .ok (.iload_n 2, 1) := by decide +kernel
theorem dX6_boxWith_32 : decode cX6_boxWith 32 = .ok (.if_icmp .ne 8, 3) := by decide +kernel
theorem dX6_boxWith_35 : decode cX6_boxWith 35 = .ok (.iload 4, 2) := by decide +kernel
theorem dX6_boxWith_37 : decode cX6_boxWith 37 = .ok (.goto 4, 3) := by decide +kernel
theorem dX6_boxWith_40 : decode cX6_boxWith 40 = .ok (.iload_n 3, 1) := by decide +kernel
theorem dX6_boxWith_41 : decode cX6_boxWith 41 = .ok (.istore_n 3, 1) := by decide +kernel
theorem dX6_boxWith_42 : decode cX6_boxWith 42 = .ok (.iinc 4 1, 3) := by decide +kernel
theorem dX6_boxWith_45 : decode cX6_boxWith 45 = .ok (.goto (-37), 3) := by decide +kernel
theorem dX6_boxWith_48 : decode cX6_boxWith 48 = .ok (.iload_n 3, 1) := by decide +kernel
theorem dX6_boxWith_49 : decode cX6_boxWith 49 = .ok (.ireturn, 1) := by decide +kernel
theorem dX6_middle_0 : decode cX6_middle 0 = .ok (.iconst 1, 1) := by decide +kernel
theorem dX6_middle_1 : decode cX6_middle 1 = .ok (.istore_n 2, 1) := by decide +kernel
theorem dX6_middle_2 : decode cX6_middle 2 = .ok (.iload_n 2, 1) := by decide +kernel
theorem dX6_middle_3 : decode cX6_middle 3 = .ok (.iload_n 1, 1) := by decide +kernel
theorem dX6_middle_4 : decode cX6_middle 4 = .ok (.if_icmp .ge 70, 3) := by decide +kernel
theorem dX6_middle_7 : decode cX6_middle 7 = .ok (.iload_n 2, 1) := by decide +kernel
theorem dX6_middle_8 : decode cX6_middle 8 = .ok (.istore_n 3, 1) := by decide +kernel
theorem dX6_middle_9 : decode cX6_middle 9 = .ok (.iload_n 3, 1) := by decide +kernel
theorem dX6_middle_10 : decode cX6_middle 10 = .ok (.ifCond .le 58, 3) := by decide +kernel
theorem dX6_middle_13 : decode cX6_middle 13 = .ok (.aload_n 0, 1) := by decide +kernel
theorem dX6_middle_14 : decode cX6_middle 14 = .ok (.getfield 90, 3) := by decide +kernel
theorem dX6_middle_17 : decode cX6_middle 17 = .ok (.iload_n 3, 1) := by decide +kernel
theorem dX6_middle_18 : decode cX6_middle 18 = .ok (.iconst 1, 1) := by decide +kernel
theorem dX6_middle_19 : decode cX6_middle 19 = .ok (.isub, 1) := by decide +kernel
theorem dX6_middle_20 : decode cX6_middle 20 = .ok (.iaload, 1) := by decide +kernel
theorem dX6_middle_21 : decode cX6_middle 21 = .ok (.aload_n 0, 1) := by decide +kernel
theorem dX6_middle_22 : decode cX6_middle 22 = .ok (.getfield 90, 3) := by decide +kernel
theorem dX6_middle_25 : decode cX6_middle 25 = .ok (.iload_n 3, 1) := by decide +kernel
theorem dX6_middle_26 : decode cX6_middle 26 = .ok (.iaload, 1) := by decide +kernel
theorem dX6_middle_27 : decode cX6_middle 27 = .ok (.if_icmp .le 41, 3) := by decide +kernel
theorem dX6_middle_30 : decode cX6_middle 30 = .ok (.aload_n 0, 1) := by decide +kernel
theorem dX6_middle_31 : decode cX6_middle 31 = .ok (.getfield 90, 3) := by decide +kernel
theorem dX6_middle_34 : decode cX6_middle 34 = .ok (.iload_n 3, 1) := by decide +kernel
theorem dX6_middle_35 : decode cX6_middle 35 = .ok (.iaload, 1) := by decide +kernel
theorem dX6_middle_36 : decode cX6_middle 36 = .ok (.istore 4, 2) := by decide +kernel
theorem dX6_middle_38 : decode cX6_middle 38 = .ok (.aload_n 0, 1) := by decide +kernel
theorem dX6_middle_39 : decode cX6_middle 39 = .ok (.getfield 90, 3) := by decide +kernel
theorem dX6_middle_42 : decode cX6_middle 42 = .ok (.iload_n 3, 1) := by decide +kernel
theorem dX6_middle_43 : decode cX6_middle 43 = .ok (.aload_n 0, 1) := by decide +kernel
theorem dX6_middle_44 : decode cX6_middle 44 = .ok (.getfield 90, 3) := by decide +kernel
theorem dX6_middle_47 : decode cX6_middle 47 = .ok (.iload_n 3, 1) := by decide +kernel
theorem dX6_middle_48 : decode cX6_middle 48 = .ok (.iconst 1, 1) := by decide +kernel
theorem dX6_middle_49 : decode cX6_middle 49 = .ok (.isub, 1) := by decide +kernel
theorem dX6_middle_50 : decode cX6_middle 50 = .ok (.iaload, 1) := by decide +kernel
theorem dX6_middle_51 : decode cX6_middle 51 = .ok (.iastore, 1) := by decide +kernel
theorem dX6_middle_52 : decode cX6_middle 52 = .ok (.aload_n 0, 1) := by decide +kernel
theorem dX6_middle_53 : decode cX6_middle 53 = .ok (.getfield 90, 3) := by decide +kernel
theorem dX6_middle_56 : decode cX6_middle 56 = .ok (.iload_n 3, 1) := by decide +kernel
theorem dX6_middle_57 : decode cX6_middle 57 = .ok (.iconst 1, 1) := by decide +kernel
theorem dX6_middle_58 : decode cX6_middle 58 = .ok (.isub, 1) := by decide +kernel
theorem dX6_middle_59 : decode cX6_middle 59 = .ok (.iload 4, 2) := by decide +kernel
theorem dX6_middle_61 : decode cX6_middle 61 = .ok (.iastore, 1) := by decide +kernel
theorem dX6_middle_62 : decode cX6_middle 62 = .ok (.iinc 3 (-1), 3) := by decide +kernel
theorem dX6_middle_65 : decode cX6_middle 65 = .ok (.goto (-56), 3) := by decide +kernel
theorem dX6_middle_68 : decode cX6_middle 68 = .ok (.iinc 2 1, 3) := by decide +kernel
theorem dX6_middle_71 : decode cX6_middle 71 = .ok (.goto (-69), 3) := by decide +kernel
theorem dX6_middle_74 : decode cX6_middle 74 = .ok (.aload_n 0, 1) := by decide +kernel
theorem dX6_middle_75 : decode cX6_middle 75 = .ok (.getfield 90, 3) := by decide +kernel
theorem dX6_middle_78 : decode cX6_middle 78 = .ok (.iload_n 1, 1) := by decide +kernel
theorem dX6_middle_79 : decode cX6_middle 79 = .ok (.iconst 1, 1) := by decide +kernel
theorem dX6_middle_80 : decode cX6_middle 80 = .ok (.isub, 1) := by decide +kernel
theorem dX6_middle_81 : decode cX6_middle 81 = .ok (.iconst 2, 1) := by decide +kernel
theorem dX6_middle_82 : decode cX6_middle 82 = .ok (.idiv, 1) := by decide +kernel
theorem dX6_middle_83 : decode cX6_middle 83 = .ok (.iaload, 1) := by decide +kernel
theorem dX6_middle_84 : decode cX6_middle 84 = .ok (.ireturn, 1) := by decide +kernel
theorem dX6_makes_0 : decode cX6_makes 0 = .ok (.aload_n 0, 1) := by decide +kernel
theorem dX6_makes_1 : decode cX6_makes 1 = .ok (.getfield 106, 3) := by decide +kernel
theorem dX6_makes_4 : decode cX6_makes 4 = .ok (.ifCond .eq 4, 3) := by decide +kernel
theorem dX6_makes_7 : decode cX6_makes 7 = .ok (.return_, 1) := by decide +kernel
theorem dX6_makes_8 : decode cX6_makes 8 = .ok (.aload_n 0, 1) := by decide +kernel
theorem dX6_makes_9 : decode cX6_makes 9 = .ok (.iconst 1, 1) := by decide +kernel
theorem dX6_makes_10 : decode cX6_makes 10 = .ok (.putfield 106, 3) := by decide +kernel
theorem dX6_makes_13 : decode cX6_makes 13 = .ok (.iconst 0, 1) := by decide +kernel
theorem dX6_makes_14 : decode cX6_makes 14 = .ok (.istore_n 1, 1) := by decide +kernel
theorem dX6_makes_15 : decode cX6_makes 15 = .ok (.iload_n 1, 1) := by decide +kernel
theorem dX6_makes_16 : decode cX6_makes 16 = .ok (.bipush 80, 2) := by decide +kernel
theorem dX6_makes_18 : decode cX6_makes 18 = .ok (.if_icmp .ge 16, 3) := by decide +kernel
theorem dX6_makes_21 : decode cX6_makes 21 = .ok (.aload_n 0, 1) := by decide +kernel
theorem dX6_makes_22 : decode cX6_makes 22 = .ok (.getfield 87, 3) := by decide +kernel
theorem dX6_makes_25 : decode cX6_makes 25 = .ok (.iload_n 1, 1) := by decide +kernel
theorem dX6_makes_26 : decode cX6_makes 26 = .ok (.iconst (-1), 1) := by decide +kernel
theorem dX6_makes_27 : decode cX6_makes 27 = .ok (.iastore, 1) := by decide +kernel
theorem dX6_makes_28 : decode cX6_makes 28 = .ok (.iinc 1 1, 3) := by decide +kernel
theorem dX6_makes_31 : decode cX6_makes 31 = .ok (.goto (-16), 3) := by decide +kernel
theorem dX6_makes_34 : decode cX6_makes 34 = .ok (.iconst 0, 1) := by decide +kernel
theorem dX6_makes_35 : decode cX6_makes 35 = .ok (.istore_n 1, 1) := by decide +kernel
theorem dX6_makes_36 : decode cX6_makes 36 = .ok (.iload_n 1, 1) := by decide +kernel
theorem dX6_makes_37 : decode cX6_makes 37 = .ok (.iconst 5, 1) := by decide +kernel
theorem dX6_makes_38 : decode cX6_makes 38 = .ok (.if_icmp .ge 92, 3) := by decide +kernel
theorem dX6_makes_41 : decode cX6_makes 41 = .ok (.aload_n 0, 1) := by decide +kernel
theorem dX6_makes_42 : decode cX6_makes 42 = .ok (.getfield 38, 3) := by decide +kernel
theorem dX6_makes_45 : decode cX6_makes 45 = .ok (.iload_n 1, 1) := by decide +kernel
theorem dX6_makes_46 : decode cX6_makes 46 = .ok (.iconst 0, 1) := by decide +kernel
theorem dX6_makes_47 : decode cX6_makes 47 = .ok (.iastore, 1) := by decide +kernel
theorem dX6_makes_48 : decode cX6_makes 48 = .ok (.aload_n 0, 1) := by decide +kernel
theorem dX6_makes_49 : decode cX6_makes 49 = .ok (.getfield 41, 3) := by decide +kernel
theorem dX6_makes_52 : decode cX6_makes 52 = .ok (.iload_n 1, 1) := by decide +kernel
theorem dX6_makes_53 : decode cX6_makes 53 = .ok (.iconst 0, 1) := by decide +kernel
theorem dX6_makes_54 : decode cX6_makes 54 = .ok (.iastore, 1) := by decide +kernel
theorem dX6_makes_55 : decode cX6_makes 55 = .ok (.iconst 0, 1) := by decide +kernel
theorem dX6_makes_56 : decode cX6_makes 56 = .ok (.istore_n 2, 1) := by decide +kernel
theorem dX6_makes_57 : decode cX6_makes 57 = .ok (.iload_n 2, 1) := by decide +kernel
theorem dX6_makes_58 : decode cX6_makes 58 = .ok (.aload_n 0, 1) := by decide +kernel
theorem dX6_makes_59 : decode cX6_makes 59 = .ok (.getfield 99, 3) := by decide +kernel
theorem dX6_makes_62 : decode cX6_makes 62 = .ok (.if_icmp .ge 33, 3) := by decide +kernel
theorem dX6_makes_65 : decode cX6_makes 65 = .ok (.aload_n 0, 1) := by decide +kernel
theorem dX6_makes_66 : decode cX6_makes 66 = .ok (.getfield 38, 3) := by decide +kernel
theorem dX6_makes_69 : decode cX6_makes 69 = .ok (.iload_n 1, 1) := by decide +kernel
theorem dX6_makes_70 : decode cX6_makes 70 = .ok (.dup2, 1) := by decide +kernel
theorem dX6_makes_71 : decode cX6_makes 71 = .ok (.iaload, 1) := by decide +kernel
theorem dX6_makes_72 : decode cX6_makes 72 = .ok (.aload_n 0, 1) := by decide +kernel
theorem dX6_makes_73 : decode cX6_makes 73 = .ok (.getfield 22, 3) := by decide +kernel
theorem dX6_makes_76 : decode cX6_makes 76 = .ok (.iload_n 2, 1) := by decide +kernel
theorem dX6_makes_77 : decode cX6_makes 77 = .ok (.iaload, 1) := by decide +kernel
theorem dX6_makes_78 : decode cX6_makes 78 = .ok (.iload_n 1, 1) := by decide +kernel
theorem dX6_makes_79 : decode cX6_makes 79 = .ok (.if_icmp .ne 7, 3) := by decide +kernel
theorem dX6_makes_82 : decode cX6_makes 82 = .ok (.iconst 1, 1) := by decide +kernel
theorem dX6_makes_83 : decode cX6_makes 83 = .ok (.goto 4, 3) := by decide +kernel
theorem dX6_makes_86 : decode cX6_makes 86 = .ok (.iconst 0, 1) := by decide +kernel
theorem dX6_makes_87 : decode cX6_makes 87 = .ok (.iadd, 1) := by decide +kernel
theorem dX6_makes_88 : decode cX6_makes 88 = .ok (.iastore, 1) := by decide +kernel
theorem dX6_makes_89 : decode cX6_makes 89 = .ok (.iinc 2 1, 3) := by decide +kernel
theorem dX6_makes_92 : decode cX6_makes 92 = .ok (.goto (-35), 3) := by decide +kernel
theorem dX6_makes_95 : decode cX6_makes 95 = .ok (.iconst 1, 1) := by decide +kernel
theorem dX6_makes_96 : decode cX6_makes 96 = .ok (.istore_n 2, 1) := by decide +kernel
theorem dX6_makes_97 : decode cX6_makes 97 = .ok (.iload_n 2, 1) := by decide +kernel
theorem dX6_makes_98 : decode cX6_makes 98 = .ok (.bipush 100, 2) := by decide +kernel
theorem dX6_makes_100 : decode cX6_makes 100 = .ok (.if_icmp .ge 24, 3) := by decide +kernel
theorem dX6_makes_103 : decode cX6_makes 103 = .ok (.aload_n 0, 1) := by decide +kernel
theorem dX6_makes_104 : decode cX6_makes 104 = .ok (.getfield 38, 3) := by decide +kernel
theorem dX6_makes_107 : decode cX6_makes 107 = .ok (.iload_n 1, 1) := by decide +kernel
theorem dX6_makes_108 : decode cX6_makes 108 = .ok (.iaload, 1) := by decide +kernel
theorem dX6_makes_109 : decode cX6_makes 109 = .ok (.ifCond .le 15, 3) := by decide +kernel
theorem dX6_makes_112 : decode cX6_makes 112 = .ok (.aload_n 0, 1) := by decide +kernel
theorem dX6_makes_113 : decode cX6_makes 113 = .ok (.iload_n 1, 1) := by decide +kernel
theorem dX6_makes_114 : decode cX6_makes 114 = .ok (.iload_n 2, 1) := by decide +kernel
theorem dX6_makes_115 : decode cX6_makes 115 = .ok (.invokevirtual 117, 3) := by decide +kernel
theorem dX6_makes_118 : decode cX6_makes 118 = .ok (.iinc 2 1, 3) := by decide +kernel
theorem dX6_makes_121 : decode cX6_makes 121 = .ok (.goto (-24), 3) := by decide +kernel
theorem dX6_makes_124 : decode cX6_makes 124 = .ok (.iinc 1 1, 3) := by decide +kernel
theorem dX6_makes_127 : decode cX6_makes 127 = .ok (.goto (-91), 3) := by decide +kernel
theorem dX6_makes_130 : decode cX6_makes 130 = .ok (.return_, 1) := by decide +kernel
theorem dX6_isKind_0 : decode cX6_isKind 0 = .ok (.aload_n 0, 1) := by decide +kernel
theorem dX6_isKind_1 : decode cX6_isKind 1 = .ok (.invokevirtual 129, 3) := by decide +kernel
theorem dX6_isKind_4 : decode cX6_isKind 4 = .ok (.iload_n 1, 1) := by decide +kernel
theorem dX6_isKind_5 : decode cX6_isKind 5 = .ok (.iconst 0, 1) := by decide +kernel
theorem dX6_isKind_6 : decode cX6_isKind 6 = .ok (.iconst 4, 1) := by decide +kernel
theorem dX6_isKind_7 : decode cX6_isKind 7 = .ok (.invokestatic 102, 3) := by decide +kernel
theorem dX6_isKind_10 : decode cX6_isKind 10 = .ok (.ifCond .eq 16, 3) := by decide +kernel
theorem dX6_isKind_13 : decode cX6_isKind 13 = .ok (.aload_n 0, 1) := by decide +kernel
theorem dX6_isKind_14 : decode cX6_isKind 14 = .ok (.getfield 38, 3) := by decide +kernel
theorem dX6_isKind_17 : decode cX6_isKind 17 = .ok (.iload_n 1, 1) := by decide +kernel
theorem dX6_isKind_18 : decode cX6_isKind 18 = .ok (.iaload, 1) := by decide +kernel
theorem dX6_isKind_19 : decode cX6_isKind 19 = .ok (.ifCond .le 7, 3) := by decide +kernel
theorem dX6_isKind_22 : decode cX6_isKind 22 = .ok (.iconst 1, 1) := by decide +kernel
theorem dX6_isKind_23 : decode cX6_isKind 23 = .ok (.goto 4, 3) := by decide +kernel
theorem dX6_isKind_26 : decode cX6_isKind 26 = .ok (.iconst 0, 1) := by decide +kernel
theorem dX6_isKind_27 : decode cX6_isKind 27 = .ok (.ireturn, 1) := by decide +kernel
theorem dX6_kind_0 : decode cX6_kind 0 = .ok (.aload_n 0, 1) := by decide +kernel
theorem dX6_kind_1 : decode cX6_kind 1 = .ok (.invokevirtual 129, 3) := by decide +kernel
theorem dX6_kind_4 : decode cX6_kind 4 = .ok (.iload_n 1, 1) := by decide +kernel
theorem dX6_kind_5 : decode cX6_kind 5 = .ok (.iconst 0, 1) := by decide +kernel
theorem dX6_kind_6 : decode cX6_kind 6 = .ok (.iconst 4, 1) := by decide +kernel
theorem dX6_kind_7 : decode cX6_kind 7 = .ok (.invokestatic 102, 3) := by decide +kernel
theorem dX6_kind_10 : decode cX6_kind 10 = .ok (.ifCond .ne 7, 3) := by decide +kernel
theorem dX6_kind_13 : decode cX6_kind 13 = .ok (.iconst (-1), 1) := by decide +kernel
theorem dX6_kind_14 : decode cX6_kind 14 = .ok (.goto 31, 3) := by decide +kernel
theorem dX6_kind_17 : decode cX6_kind 17 = .ok (.iload_n 2, 1) := by decide +kernel
theorem dX6_kind_18 : decode cX6_kind 18 = .ok (.ifCond .ne 12, 3) := by decide +kernel
theorem dX6_kind_21 : decode cX6_kind 21 = .ok (.aload_n 0, 1) := by decide +kernel
theorem dX6_kind_22 : decode cX6_kind 22 = .ok (.getfield 38, 3) := by decide +kernel
theorem dX6_kind_25 : decode cX6_kind 25 = .ok (.iload_n 1, 1) := by decide +kernel
theorem dX6_kind_26 : decode cX6_kind 26 = .ok (.iaload, 1) := by decide +kernel
theorem dX6_kind_27 : decode cX6_kind 27 = .ok (.goto 18, 3) := by decide +kernel
theorem dX6_kind_30 : decode cX6_kind 30 = .ok (.iload_n 2, 1) := by decide +kernel
theorem dX6_kind_31 : decode cX6_kind 31 = .ok (.iconst 1, 1) := by decide +kernel
theorem dX6_kind_32 : decode cX6_kind 32 = .ok (.if_icmp .ne 12, 3) := by decide +kernel
theorem dX6_kind_35 : decode cX6_kind 35 = .ok (.aload_n 0, 1) := by decide +kernel
theorem dX6_kind_36 : decode cX6_kind 36 = .ok (.getfield 41, 3) := by decide +kernel
theorem dX6_kind_39 : decode cX6_kind 39 = .ok (.iload_n 1, 1) := by decide +kernel
theorem dX6_kind_40 : decode cX6_kind 40 = .ok (.iaload, 1) := by decide +kernel
theorem dX6_kind_41 : decode cX6_kind 41 = .ok (.goto 4, 3) := by decide +kernel
theorem dX6_kind_44 : decode cX6_kind 44 = .ok (.iconst (-1), 1) := by decide +kernel
theorem dX6_kind_45 : decode cX6_kind 45 = .ok (.ireturn, 1) := by decide +kernel
theorem dX6_apart_0 : decode cX6_apart 0 = .ok (.iload_n 0, 1) := by decide +kernel
theorem dX6_apart_1 : decode cX6_apart 1 = .ok (.iload_n 1, 1) := by decide +kernel
theorem dX6_apart_2 : decode cX6_apart 2 = .ok (.if_icmp .le 9, 3) := by decide +kernel
theorem dX6_apart_5 : decode cX6_apart 5 = .ok (.iload_n 0, 1) := by decide +kernel
theorem dX6_apart_6 : decode cX6_apart 6 = .ok (.iload_n 1, 1) := by decide +kernel
theorem dX6_apart_7 : decode cX6_apart 7 = .ok (.isub, 1) := by decide +kernel
theorem dX6_apart_8 : decode cX6_apart 8 = .ok (.goto 6, 3) := by decide +kernel
theorem dX6_apart_11 : decode cX6_apart 11 = .ok (.iload_n 1, 1) := by decide +kernel
theorem dX6_apart_12 : decode cX6_apart 12 = .ok (.iload_n 0, 1) := by decide +kernel
theorem dX6_apart_13 : decode cX6_apart 13 = .ok (.isub, 1) := by decide +kernel
theorem dX6_apart_14 : decode cX6_apart 14 = .ok (.ireturn, 1) := by decide +kernel
theorem dX6_lays_0 : decode cX6_lays 0 = .ok (.aload_n 0, 1) := by decide +kernel
theorem dX6_lays_1 : decode cX6_lays 1 = .ok (.getfield 25, 3) := by decide +kernel
theorem dX6_lays_4 : decode cX6_lays 4 = .ok (.iconst 1, 1) := by decide +kernel
theorem dX6_lays_5 : decode cX6_lays 5 = .ok (.iaload, 1) := by decide +kernel
theorem dX6_lays_6 : decode cX6_lays 6 = .ok (.aload_n 0, 1) := by decide +kernel
theorem dX6_lays_7 : decode cX6_lays 7 = .ok (.getfield 57, 3) := by decide +kernel
theorem dX6_lays_10 : decode cX6_lays 10 = .ok (.iload_n 1, 1) := by decide +kernel
theorem dX6_lays_11 : decode cX6_lays 11 = .ok (.iaload, 1) := by decide +kernel
theorem dX6_lays_12 : decode cX6_lays 12 = .ok (.iload_n 3, 1) := by decide +kernel
theorem dX6_lays_13 : decode cX6_lays 13 = .ok (.iadd, 1) := by decide +kernel
theorem dX6_lays_14 : decode cX6_lays 14 = .ok (.aload_n 0, 1) := by decide +kernel
theorem dX6_lays_15 : decode cX6_lays 15 = .ok (.getfield 66, 3) := by decide +kernel
theorem dX6_lays_18 : decode cX6_lays 18 = .ok (.iload_n 2, 1) := by decide +kernel
theorem dX6_lays_19 : decode cX6_lays 19 = .ok (.iaload, 1) := by decide +kernel
theorem dX6_lays_20 : decode cX6_lays 20 = .ok (.invokestatic 132, 3) := by decide +kernel
theorem dX6_lays_23 : decode cX6_lays 23 = .ok (.aload_n 0, 1) := by decide +kernel
theorem dX6_lays_24 : decode cX6_lays 24 = .ok (.getfield 60, 3) := by decide +kernel
theorem dX6_lays_27 : decode cX6_lays 27 = .ok (.iload_n 1, 1) := by decide +kernel
theorem dX6_lays_28 : decode cX6_lays 28 = .ok (.iaload, 1) := by decide +kernel
theorem dX6_lays_29 : decode cX6_lays 29 = .ok (.iload 4, 2) := by decide +kernel
theorem dX6_lays_31 : decode cX6_lays 31 = .ok (.iadd, 1) := by decide +kernel
theorem dX6_lays_32 : decode cX6_lays 32 = .ok (.aload_n 0, 1) := by decide +kernel
theorem dX6_lays_33 : decode cX6_lays 33 = .ok (.getfield 69, 3) := by decide +kernel
theorem dX6_lays_36 : decode cX6_lays 36 = .ok (.iload_n 2, 1) := by decide +kernel
theorem dX6_lays_37 : decode cX6_lays 37 = .ok (.iaload, 1) := by decide +kernel
theorem dX6_lays_38 : decode cX6_lays 38 = .ok (.invokestatic 132, 3) := by decide +kernel
theorem dX6_lays_41 : decode cX6_lays 41 = .ok (.iadd, 1) := by decide +kernel
theorem dX6_lays_42 : decode cX6_lays 42 = .ok (.imul, 1) := by decide +kernel
theorem dX6_lays_43 : decode cX6_lays 43 = .ok (.aload_n 0, 1) := by decide +kernel
theorem dX6_lays_44 : decode cX6_lays 44 = .ok (.getfield 63, 3) := by decide +kernel
theorem dX6_lays_47 : decode cX6_lays 47 = .ok (.iload_n 1, 1) := by decide +kernel
theorem dX6_lays_48 : decode cX6_lays 48 = .ok (.iaload, 1) := by decide +kernel
theorem dX6_lays_49 : decode cX6_lays 49 = .ok (.aload_n 0, 1) := by decide +kernel
theorem dX6_lays_50 : decode cX6_lays 50 = .ok (.getfield 72, 3) := by decide +kernel
theorem dX6_lays_53 : decode cX6_lays 53 = .ok (.iload_n 2, 1) := by decide +kernel
theorem dX6_lays_54 : decode cX6_lays 54 = .ok (.iaload, 1) := by decide +kernel
theorem dX6_lays_55 : decode cX6_lays 55 = .ok (.if_icmp .ne 7, 3) := by decide +kernel
theorem dX6_lays_58 : decode cX6_lays 58 = .ok (.iconst 0, 1) := by decide +kernel
theorem dX6_lays_59 : decode cX6_lays 59 = .ok (.goto 9, 3) := by decide +kernel
theorem dX6_lays_62 : decode cX6_lays 62 = .ok (.aload_n 0, 1) := by decide +kernel
theorem dX6_lays_63 : decode cX6_lays 63 = .ok (.getfield 25, 3) := by decide +kernel
theorem dX6_lays_66 : decode cX6_lays 66 = .ok (.iconst 2, 1) := by decide +kernel
theorem dX6_lays_67 : decode cX6_lays 67 = .ok (.iaload, 1) := by decide +kernel
theorem dX6_lays_68 : decode cX6_lays 68 = .ok (.iadd, 1) := by decide +kernel
theorem dX6_lays_69 : decode cX6_lays 69 = .ok (.ireturn, 1) := by decide +kernel
theorem dX6_seeks_0 : decode cX6_seeks 0 = .ok (.iconst 0, 1) := by decide +kernel
theorem dX6_seeks_1 : decode cX6_seeks 1 = .ok (.istore_n 1, 1) := by decide +kernel
theorem dX6_seeks_2 : decode cX6_seeks 2 = .ok (.iload_n 1, 1) := by decide +kernel
theorem dX6_seeks_3 : decode cX6_seeks 3 = .ok (.bipush 8, 2) := by decide +kernel
theorem dX6_seeks_5 : decode cX6_seeks 5 = .ok (.if_icmp .ge 17, 3) := by decide +kernel
theorem dX6_seeks_8 : decode cX6_seeks 8 = .ok (.aload_n 0, 1) := by decide +kernel
theorem dX6_seeks_9 : decode cX6_seeks 9 = .ok (.getfield 81, 3) := by decide +kernel
theorem dX6_seeks_12 : decode cX6_seeks 12 = .ok (.iload_n 1, 1) := by decide +kernel
theorem dX6_seeks_13 : decode cX6_seeks 13 = .ok (.bipush (-2), 2) := by decide +kernel
theorem dX6_seeks_15 : decode cX6_seeks 15 = .ok (.iastore, 1) := by decide +kernel
theorem dX6_seeks_16 : decode cX6_seeks 16 = .ok (.iinc 1 1, 3) := by decide +kernel
theorem dX6_seeks_19 : decode cX6_seeks 19 = .ok (.goto (-17), 3) := by decide +kernel
theorem dX6_seeks_22 : decode cX6_seeks 22 = .ok (.aload_n 0, 1) := by decide +kernel
theorem dX6_seeks_23 : decode cX6_seeks 23 = .ok (.ldc 138, 2) := by decide +kernel
theorem dX6_seeks_25 : decode cX6_seeks 25 = .ok (.putfield 146, 3) := by decide +kernel
theorem dX6_seeks_28 : decode cX6_seeks 28 = .ok (.bipush (-3), 2) := by decide +kernel
theorem dX6_seeks_30 : decode cX6_seeks 30 = .ok (.istore_n 1, 1) := by decide +kernel
theorem dX6_seeks_31 : decode cX6_seeks 31 = .ok (.iload_n 1, 1) := by decide +kernel
theorem dX6_seeks_32 : decode cX6_seeks 32 = .ok (.iconst 3, 1) := by decide +kernel
theorem dX6_seeks_33 : decode cX6_seeks 33 = .ok (.if_icmp .gt 53, 3) := by decide +kernel
theorem dX6_seeks_36 : decode cX6_seeks 36 = .ok (.bipush (-3), 2) := by decide +kernel
theorem dX6_seeks_38 : decode cX6_seeks 38 = .ok (.istore_n 2, 1) := by decide +kernel
theorem dX6_seeks_39 : decode cX6_seeks 39 = .ok (.iload_n 2, 1) := by decide +kernel
theorem dX6_seeks_40 : decode cX6_seeks 40 = .ok (.iconst 3, 1) := by decide +kernel
theorem dX6_seeks_41 : decode cX6_seeks 41 = .ok (.if_icmp .gt 39, 3) := by decide +kernel
theorem dX6_seeks_44 : decode cX6_seeks 44 = .ok (.aload_n 0, 1) := by decide +kernel
theorem dX6_seeks_45 : decode cX6_seeks 45 = .ok (.iload_n 1, 1) := by decide +kernel
theorem dX6_seeks_46 : decode cX6_seeks 46 = .ok (.iload_n 2, 1) := by decide +kernel
theorem dX6_seeks_47 : decode cX6_seeks 47 = .ok (.invokevirtual 149, 3) := by decide +kernel
theorem dX6_seeks_50 : decode cX6_seeks 50 = .ok (.istore_n 3, 1) := by decide +kernel
theorem dX6_seeks_51 : decode cX6_seeks 51 = .ok (.iload_n 3, 1) := by decide +kernel
theorem dX6_seeks_52 : decode cX6_seeks 52 = .ok (.aload_n 0, 1) := by decide +kernel
theorem dX6_seeks_53 : decode cX6_seeks 53 = .ok (.getfield 146, 3) := by decide +kernel
theorem dX6_seeks_56 : decode cX6_seeks 56 = .ok (.if_icmp .ge 18, 3) := by decide +kernel
theorem dX6_seeks_59 : decode cX6_seeks 59 = .ok (.aload_n 0, 1) := by decide +kernel
theorem dX6_seeks_60 : decode cX6_seeks 60 = .ok (.iload_n 3, 1) := by decide +kernel
theorem dX6_seeks_61 : decode cX6_seeks 61 = .ok (.putfield 146, 3) := by decide +kernel
theorem dX6_seeks_64 : decode cX6_seeks 64 = .ok (.aload_n 0, 1) := by decide +kernel
theorem dX6_seeks_65 : decode cX6_seeks 65 = .ok (.iload_n 1, 1) := by decide +kernel
theorem dX6_seeks_66 : decode cX6_seeks 66 = .ok (.putfield 152, 3) := by decide +kernel
theorem dX6_seeks_69 : decode cX6_seeks 69 = .ok (.aload_n 0, 1) := by decide +kernel
theorem dX6_seeks_70 : decode cX6_seeks 70 = .ok (.iload_n 2, 1) := by decide +kernel
theorem dX6_seeks_71 : decode cX6_seeks 71 = .ok (.putfield 155, 3) := by decide +kernel
theorem dX6_seeks_74 : decode cX6_seeks 74 = .ok (.iinc 2 1, 3) := by decide +kernel
theorem dX6_seeks_77 : decode cX6_seeks 77 = .ok (.goto (-38), 3) := by decide +kernel
theorem dX6_seeks_80 : decode cX6_seeks 80 = .ok (.iinc 1 1, 3) := by decide +kernel
theorem dX6_seeks_83 : decode cX6_seeks 83 = .ok (.goto (-52), 3) := by decide +kernel
theorem dX6_seeks_86 : decode cX6_seeks 86 = .ok (.return_, 1) := by decide +kernel
theorem dX6_places_0 : decode cX6_places 0 = .ok (.iconst 0, 1) := by decide +kernel
theorem dX6_places_1 : decode cX6_places 1 = .ok (.istore_n 1, 1) := by decide +kernel
theorem dX6_places_2 : decode cX6_places 2 = .ok (.iload_n 1, 1) := by decide +kernel
theorem dX6_places_3 : decode cX6_places 3 = .ok (.aload_n 0, 1) := by decide +kernel
theorem dX6_places_4 : decode cX6_places 4 = .ok (.getfield 135, 3) := by decide +kernel
theorem dX6_places_7 : decode cX6_places 7 = .ok (.if_icmp .ge 132, 3) := by decide +kernel
theorem dX6_places_10 : decode cX6_places 10 = .ok (.aload_n 0, 1) := by decide +kernel
theorem dX6_places_11 : decode cX6_places 11 = .ok (.getfield 84, 3) := by decide +kernel
theorem dX6_places_14 : decode cX6_places 14 = .ok (.iload_n 1, 1) := by decide +kernel
theorem dX6_places_15 : decode cX6_places 15 = .ok (.iconst (-1), 1) := by decide +kernel
theorem dX6_places_16 : decode cX6_places 16 = .ok (.iastore, 1) := by decide +kernel
theorem dX6_places_17 : decode cX6_places 17 = .ok (.iconst 0, 1) := by decide +kernel
theorem dX6_places_18 : decode cX6_places 18 = .ok (.istore_n 2, 1) := by decide +kernel
theorem dX6_places_19 : decode cX6_places 19 = .ok (.iload_n 2, 1) := by decide +kernel
theorem dX6_places_20 : decode cX6_places 20 = .ok (.aload_n 0, 1) := by decide +kernel
theorem dX6_places_21 : decode cX6_places 21 = .ok (.getfield 139, 3) := by decide +kernel
theorem dX6_places_24 : decode cX6_places 24 = .ok (.if_icmp .ge 97, 3) := by decide +kernel
theorem dX6_places_27 : decode cX6_places 27 = .ok (.aload_n 0, 1) := by decide +kernel
theorem dX6_places_28 : decode cX6_places 28 = .ok (.getfield 84, 3) := by decide +kernel
theorem dX6_places_31 : decode cX6_places 31 = .ok (.iload_n 1, 1) := by decide +kernel
theorem dX6_places_32 : decode cX6_places 32 = .ok (.iaload, 1) := by decide +kernel
theorem dX6_places_33 : decode cX6_places 33 = .ok (.ifCond .ge 88, 3) := by decide +kernel
theorem dX6_places_36 : decode cX6_places 36 = .ok (.iconst 1, 1) := by decide +kernel
theorem dX6_places_37 : decode cX6_places 37 = .ok (.istore_n 3, 1) := by decide +kernel
theorem dX6_places_38 : decode cX6_places 38 = .ok (.iconst 0, 1) := by decide +kernel
theorem dX6_places_39 : decode cX6_places 39 = .ok (.istore 4, 2) := by decide +kernel
theorem dX6_places_41 : decode cX6_places 41 = .ok (.iload 4, 2) := by decide +kernel
theorem dX6_places_43 : decode cX6_places 43 = .ok (.iload_n 1, 1) := by decide +kernel
theorem dX6_places_44 : decode cX6_places 44 = .ok (.if_icmp .ge 30, 3) := by decide +kernel
theorem dX6_places_47 : decode cX6_places 47 = .ok (.iload_n 3, 1) := by decide +kernel
theorem dX6_places_48 : decode cX6_places 48 = .ok (.ifCond .eq 18, 3) := by decide +kernel
theorem dX6_places_51 : decode cX6_places 51 = .ok (.aload_n 0, 1) := by decide +kernel
theorem dX6_places_52 : decode cX6_places 52 = .ok (.getfield 84, 3) := by decide +kernel
theorem dX6_places_55 : decode cX6_places 55 = .ok (.iload 4, 2) := by decide +kernel
theorem dX6_places_57 : decode cX6_places 57 = .ok (.iaload, 1) := by decide +kernel
theorem dX6_places_58 : decode cX6_places 58 = .ok (.iload_n 2, 1) := by decide +kernel
theorem dX6_places_59 : decode cX6_places 59 = .ok (.if_icmp .eq 7, 3) := by decide +kernel
theorem dX6_places_62 : decode cX6_places 62 = .ok (.iconst 1, 1) := by decide +kernel
theorem dX6_places_63 : decode cX6_places 63 = .ok (.goto 4, 3) := by decide +kernel
theorem dX6_places_66 : decode cX6_places 66 = .ok (.iconst 0, 1) := by decide +kernel
theorem dX6_places_67 : decode cX6_places 67 = .ok (.istore_n 3, 1) := by decide +kernel
theorem dX6_places_68 : decode cX6_places 68 = .ok (.iinc 4 1, 3) := by decide +kernel
theorem dX6_places_71 : decode cX6_places 71 = .ok (.goto (-30), 3) := by decide +kernel
theorem dX6_places_74 : decode cX6_places 74 = .ok (.aload_n 0, 1) := by decide +kernel
theorem dX6_places_75 : decode cX6_places 75 = .ok (.getfield 81, 3) := by decide +kernel
theorem dX6_places_78 : decode cX6_places 78 = .ok (.iload_n 1, 1) := by decide +kernel
theorem dX6_places_79 : decode cX6_places 79 = .ok (.iload_n 2, 1) := by decide +kernel
theorem dX6_places_80 : decode cX6_places 80 = .ok (.iastore, 1) := by decide +kernel
theorem dX6_places_81 : decode cX6_places 81 = .ok (.aload_n 0, 1) := by decide +kernel
theorem dX6_places_82 : decode cX6_places 82 = .ok (.getfield 84, 3) := by decide +kernel
theorem dX6_places_85 : decode cX6_places 85 = .ok (.iload_n 1, 1) := by decide +kernel
theorem dX6_places_86 : decode cX6_places 86 = .ok (.iload_n 3, 1) := by decide +kernel
theorem dX6_places_87 : decode cX6_places 87 = .ok (.ifCond .eq 26, 3) := by decide +kernel
theorem dX6_places_90 : decode cX6_places 90 = .ok (.aload_n 0, 1) := by decide +kernel
theorem dX6_places_91 : decode cX6_places 91 = .ok (.aload_n 0, 1) := by decide +kernel
theorem dX6_places_92 : decode cX6_places 92 = .ok (.getfield 152, 3) := by decide +kernel
theorem dX6_places_95 : decode cX6_places 95 = .ok (.aload_n 0, 1) := by decide +kernel
theorem dX6_places_96 : decode cX6_places 96 = .ok (.getfield 155, 3) := by decide +kernel
theorem dX6_places_99 : decode cX6_places 99 = .ok (.invokevirtual 149, 3) := by decide +kernel
theorem dX6_places_102 : decode cX6_places 102 = .ok (.aload_n 0, 1) := by decide +kernel
theorem dX6_places_103 : decode cX6_places 103 = .ok (.getfield 146, 3) := by decide +kernel
theorem dX6_places_106 : decode cX6_places 106 = .ok (.if_icmp .ne 7, 3) := by decide +kernel
theorem dX6_places_109 : decode cX6_places 109 = .ok (.iload_n 2, 1) := by decide +kernel
theorem dX6_places_110 : decode cX6_places 110 = .ok (.goto 4, 3) := by decide +kernel
theorem dX6_places_113 : decode cX6_places 113 = .ok (.iconst (-1), 1) := by decide +kernel
theorem dX6_places_114 : decode cX6_places 114 = .ok (.iastore, 1) := by decide +kernel
theorem dX6_places_115 : decode cX6_places 115 = .ok (.iinc 2 1, 3) := by decide +kernel
theorem dX6_places_118 : decode cX6_places 118 = .ok (.goto (-99), 3) := by decide +kernel
theorem dX6_places_121 : decode cX6_places 121 = .ok (.aload_n 0, 1) := by decide +kernel
theorem dX6_places_122 : decode cX6_places 122 = .ok (.getfield 81, 3) := by decide +kernel
theorem dX6_places_125 : decode cX6_places 125 = .ok (.iload_n 1, 1) := by decide +kernel
theorem dX6_places_126 : decode cX6_places 126 = .ok (.aload_n 0, 1) := by decide +kernel
theorem dX6_places_127 : decode cX6_places 127 = .ok (.getfield 84, 3) := by decide +kernel
theorem dX6_places_130 : decode cX6_places 130 = .ok (.iload_n 1, 1) := by decide +kernel
theorem dX6_places_131 : decode cX6_places 131 = .ok (.iaload, 1) := by decide +kernel
theorem dX6_places_132 : decode cX6_places 132 = .ok (.iastore, 1) := by decide +kernel
theorem dX6_places_133 : decode cX6_places 133 = .ok (.iinc 1 1, 3) := by decide +kernel
theorem dX6_places_136 : decode cX6_places 136 = .ok (.goto (-134), 3) := by decide +kernel
theorem dX6_places_139 : decode cX6_places 139 = .ok (.return_, 1) := by decide +kernel
theorem dX6_takesPage_0 : decode cX6_takesPage 0 = .ok (.aload_n 0, 1) := by decide +kernel
theorem dX6_takesPage_1 : decode cX6_takesPage 1 = .ok (.aload_n 0, 1) := by decide +kernel
theorem dX6_takesPage_2 : decode cX6_takesPage 2 = .ok (.getfield 7, 3) := by decide +kernel
theorem dX6_takesPage_5 : decode cX6_takesPage 5 = .ok (.iload_n 1, 1) := by decide +kernel
theorem dX6_takesPage_6 : decode cX6_takesPage 6 = .ok (.iaload, 1) := by decide +kernel
theorem dX6_takesPage_7 : decode cX6_takesPage 7 = .ok (.putfield 135, 3) := by decide +kernel
theorem dX6_takesPage_10 : decode cX6_takesPage 10 = .ok (.iconst 0, 1) := by decide +kernel
theorem dX6_takesPage_11 : decode cX6_takesPage 11 = .ok (.istore_n 2, 1) := by decide +kernel
theorem dX6_takesPage_12 : decode cX6_takesPage 12 = .ok (.iload_n 2, 1) := by decide +kernel
theorem dX6_takesPage_13 : decode cX6_takesPage 13 = .ok (.aload_n 0, 1) := by decide +kernel
theorem dX6_takesPage_14 : decode cX6_takesPage 14 = .ok (.getfield 135, 3) := by decide +kernel
theorem dX6_takesPage_17 : decode cX6_takesPage 17 = .ok (.if_icmp .ge 60, 3) := by decide +kernel
theorem dX6_takesPage_20 : decode cX6_takesPage 20 = .ok (.aload_n 0, 1) := by decide +kernel
theorem dX6_takesPage_21 : decode cX6_takesPage 21 = .ok (.getfield 57, 3) := by decide +kernel
theorem dX6_takesPage_24 : decode cX6_takesPage 24 = .ok (.iload_n 2, 1) := by decide +kernel
theorem dX6_takesPage_25 : decode cX6_takesPage 25 = .ok (.aload_n 0, 1) := by decide +kernel
theorem dX6_takesPage_26 : decode cX6_takesPage 26 = .ok (.getfield 13, 3) := by decide +kernel
theorem dX6_takesPage_29 : decode cX6_takesPage 29 = .ok (.bipush 8, 2) := by decide +kernel
theorem dX6_takesPage_31 : decode cX6_takesPage 31 = .ok (.iload_n 1, 1) := by decide +kernel
theorem dX6_takesPage_32 : decode cX6_takesPage 32 = .ok (.imul, 1) := by decide +kernel
theorem dX6_takesPage_33 : decode cX6_takesPage 33 = .ok (.iload_n 2, 1) := by decide +kernel
theorem dX6_takesPage_34 : decode cX6_takesPage 34 = .ok (.iadd, 1) := by decide +kernel
theorem dX6_takesPage_35 : decode cX6_takesPage 35 = .ok (.iaload, 1) := by decide +kernel
theorem dX6_takesPage_36 : decode cX6_takesPage 36 = .ok (.iastore, 1) := by decide +kernel
theorem dX6_takesPage_37 : decode cX6_takesPage 37 = .ok (.aload_n 0, 1) := by decide +kernel
theorem dX6_takesPage_38 : decode cX6_takesPage 38 = .ok (.getfield 60, 3) := by decide +kernel
theorem dX6_takesPage_41 : decode cX6_takesPage 41 = .ok (.iload_n 2, 1) := by decide +kernel
theorem dX6_takesPage_42 : decode cX6_takesPage 42 = .ok (.aload_n 0, 1) := by decide +kernel
theorem dX6_takesPage_43 : decode cX6_takesPage 43 = .ok (.getfield 16, 3) := by decide +kernel
theorem dX6_takesPage_46 : decode cX6_takesPage 46 = .ok (.bipush 8, 2) := by decide +kernel
theorem dX6_takesPage_48 : decode cX6_takesPage 48 = .ok (.iload_n 1, 1) := by decide +kernel
theorem dX6_takesPage_49 : decode cX6_takesPage 49 = .ok (.imul, 1) := by decide +kernel
theorem dX6_takesPage_50 : decode cX6_takesPage 50 = .ok (.iload_n 2, 1) := by decide +kernel
theorem dX6_takesPage_51 : decode cX6_takesPage 51 = .ok (.iadd, 1) := by decide +kernel
theorem dX6_takesPage_52 : decode cX6_takesPage 52 = .ok (.iaload, 1) := by decide +kernel
theorem dX6_takesPage_53 : decode cX6_takesPage 53 = .ok (.iastore, 1) := by decide +kernel
theorem dX6_takesPage_54 : decode cX6_takesPage 54 = .ok (.aload_n 0, 1) := by decide +kernel
theorem dX6_takesPage_55 : decode cX6_takesPage 55 = .ok (.getfield 63, 3) := by decide +kernel
theorem dX6_takesPage_58 : decode cX6_takesPage 58 = .ok (.iload_n 2, 1) := by decide +kernel
theorem dX6_takesPage_59 : decode cX6_takesPage 59 = .ok (.aload_n 0, 1) := by decide +kernel
theorem dX6_takesPage_60 : decode cX6_takesPage 60 = .ok (.getfield 19, 3) := by decide +kernel
theorem dX6_takesPage_63 : decode cX6_takesPage 63 = .ok (.bipush 8, 2) := by decide +kernel
theorem dX6_takesPage_65 : decode cX6_takesPage 65 = .ok (.iload_n 1, 1) := by decide +kernel
theorem dX6_takesPage_66 : decode cX6_takesPage 66 = .ok (.imul, 1) := by decide +kernel
theorem dX6_takesPage_67 : decode cX6_takesPage 67 = .ok (.iload_n 2, 1) := by decide +kernel
theorem dX6_takesPage_68 : decode cX6_takesPage 68 = .ok (.iadd, 1) := by decide +kernel
theorem dX6_takesPage_69 : decode cX6_takesPage 69 = .ok (.iaload, 1) := by decide +kernel
theorem dX6_takesPage_70 : decode cX6_takesPage 70 = .ok (.iastore, 1) := by decide +kernel
theorem dX6_takesPage_71 : decode cX6_takesPage 71 = .ok (.iinc 2 1, 3) := by decide +kernel
theorem dX6_takesPage_74 : decode cX6_takesPage 74 = .ok (.goto (-62), 3) := by decide +kernel
theorem dX6_takesPage_77 : decode cX6_takesPage 77 = .ok (.return_, 1) := by decide +kernel
theorem dX6_costOf_0 : decode cX6_costOf 0 = .ok (.iconst 5, 1) := by decide +kernel
theorem dX6_costOf_1 : decode cX6_costOf 1 = .ok (.iload_n 1, 1) := by decide +kernel
theorem dX6_costOf_2 : decode cX6_costOf 2 = .ok (.imul, 1) := by decide +kernel
theorem dX6_costOf_3 : decode cX6_costOf 3 = .ok (.iload_n 2, 1) := by decide +kernel
theorem dX6_costOf_4 : decode cX6_costOf 4 = .ok (.iadd, 1) := by decide +kernel
theorem dX6_costOf_5 : decode cX6_costOf 5 = .ok (.istore_n 3, 1) := by decide +kernel
theorem dX6_costOf_6 : decode cX6_costOf 6 = .ok (.aload_n 0, 1) := by decide +kernel
theorem dX6_costOf_7 : decode cX6_costOf 7 = .ok (.getfield 87, 3) := by decide +kernel
theorem dX6_costOf_10 : decode cX6_costOf 10 = .ok (.iload_n 3, 1) := by decide +kernel
theorem dX6_costOf_11 : decode cX6_costOf 11 = .ok (.iaload, 1) := by decide +kernel
theorem dX6_costOf_12 : decode cX6_costOf 12 = .ok (.ifCond .ge 27, 3) := by decide +kernel
theorem dX6_costOf_15 : decode cX6_costOf 15 = .ok (.aload_n 0, 1) := by decide +kernel
theorem dX6_costOf_16 : decode cX6_costOf 16 = .ok (.iload_n 1, 1) := by decide +kernel
theorem dX6_costOf_17 : decode cX6_costOf 17 = .ok (.invokevirtual 158, 3) := by decide +kernel
theorem dX6_costOf_20 : decode cX6_costOf 20 = .ok (.aload_n 0, 1) := by decide +kernel
theorem dX6_costOf_21 : decode cX6_costOf 21 = .ok (.iload_n 2, 1) := by decide +kernel
theorem dX6_costOf_22 : decode cX6_costOf 22 = .ok (.invokevirtual 162, 3) := by decide +kernel
theorem dX6_costOf_25 : decode cX6_costOf 25 = .ok (.aload_n 0, 1) := by decide +kernel
theorem dX6_costOf_26 : decode cX6_costOf 26 = .ok (.invokevirtual 165, 3) := by decide +kernel
theorem dX6_costOf_29 : decode cX6_costOf 29 = .ok (.aload_n 0, 1) := by decide +kernel
theorem dX6_costOf_30 : decode cX6_costOf 30 = .ok (.getfield 87, 3) := by decide +kernel
theorem dX6_costOf_33 : decode cX6_costOf 33 = .ok (.iload_n 3, 1) := by decide +kernel
theorem dX6_costOf_34 : decode cX6_costOf 34 = .ok (.aload_n 0, 1) := by decide +kernel
theorem dX6_costOf_35 : decode cX6_costOf 35 = .ok (.getfield 146, 3) := by decide +kernel
theorem dX6_costOf_38 : decode cX6_costOf 38 = .ok (.iastore, 1) := by decide +kernel
theorem dX6_costOf_39 : decode cX6_costOf 39 = .ok (.aload_n 0, 1) := by decide +kernel
theorem dX6_costOf_40 : decode cX6_costOf 40 = .ok (.getfield 87, 3) := by decide +kernel
theorem dX6_costOf_43 : decode cX6_costOf 43 = .ok (.iload_n 3, 1) := by decide +kernel
theorem dX6_costOf_44 : decode cX6_costOf 44 = .ok (.iaload, 1) := by decide +kernel
theorem dX6_costOf_45 : decode cX6_costOf 45 = .ok (.ireturn, 1) := by decide +kernel
theorem dX6_isLaid_0 : decode cX6_isLaid 0 = .ok (.aload_n 0, 1) := by decide +kernel
theorem dX6_isLaid_1 : decode cX6_isLaid 1 = .ok (.iload_n 1, 1) := by decide +kernel
theorem dX6_isLaid_2 : decode cX6_isLaid 2 = .ok (.invokevirtual 113, 3) := by decide +kernel
theorem dX6_isLaid_5 : decode cX6_isLaid 5 = .ok (.ifCond .eq 11, 3) := by decide +kernel
theorem dX6_isLaid_8 : decode cX6_isLaid 8 = .ok (.aload_n 0, 1) := by decide +kernel
theorem dX6_isLaid_9 : decode cX6_isLaid 9 = .ok (.iload_n 2, 1) := by decide +kernel
theorem dX6_isLaid_10 : decode cX6_isLaid 10 = .ok (.invokevirtual 168, 3) := by decide +kernel
theorem dX6_isLaid_13 : decode cX6_isLaid 13 = .ok (.ifCond .ne 5, 3) := by decide +kernel
theorem dX6_isLaid_16 : decode cX6_isLaid 16 = .ok (.iconst 0, 1) := by decide +kernel
theorem dX6_isLaid_17 : decode cX6_isLaid 17 = .ok (.ireturn, 1) := by decide +kernel
theorem dX6_isLaid_18 : decode cX6_isLaid 18 = .ok (.aload_n 0, 1) := by decide +kernel
theorem dX6_isLaid_19 : decode cX6_isLaid 19 = .ok (.iload_n 1, 1) := by decide +kernel
theorem dX6_isLaid_20 : decode cX6_isLaid 20 = .ok (.invokevirtual 158, 3) := by decide +kernel
theorem dX6_isLaid_23 : decode cX6_isLaid 23 = .ok (.aload_n 0, 1) := by decide +kernel
theorem dX6_isLaid_24 : decode cX6_isLaid 24 = .ok (.iload_n 2, 1) := by decide +kernel
theorem dX6_isLaid_25 : decode cX6_isLaid 25 = .ok (.invokevirtual 162, 3) := by decide +kernel
theorem dX6_isLaid_28 : decode cX6_isLaid 28 = .ok (.aload_n 0, 1) := by decide +kernel
theorem dX6_isLaid_29 : decode cX6_isLaid 29 = .ok (.invokevirtual 165, 3) := by decide +kernel
theorem dX6_isLaid_32 : decode cX6_isLaid 32 = .ok (.aload_n 0, 1) := by decide +kernel
theorem dX6_isLaid_33 : decode cX6_isLaid 33 = .ok (.invokevirtual 171, 3) := by decide +kernel
theorem dX6_isLaid_36 : decode cX6_isLaid 36 = .ok (.iconst 1, 1) := by decide +kernel
theorem dX6_isLaid_37 : decode cX6_isLaid 37 = .ok (.ireturn, 1) := by decide +kernel
theorem dX6_lay_0 : decode cX6_lay 0 = .ok (.aload_n 0, 1) := by decide +kernel
theorem dX6_lay_1 : decode cX6_lay 1 = .ok (.iload_n 1, 1) := by decide +kernel
theorem dX6_lay_2 : decode cX6_lay 2 = .ok (.invokevirtual 113, 3) := by decide +kernel
theorem dX6_lay_5 : decode cX6_lay 5 = .ok (.ifCond .eq 34, 3) := by decide +kernel
theorem dX6_lay_8 : decode cX6_lay 8 = .ok (.iload_n 3, 1) := by decide +kernel
theorem dX6_lay_9 : decode cX6_lay 9 = .ok (.ifCond .eq 21, 3) := by decide +kernel
theorem dX6_lay_12 : decode cX6_lay 12 = .ok (.iload_n 3, 1) := by decide +kernel
theorem dX6_lay_13 : decode cX6_lay 13 = .ok (.bipush 10, 2) := by decide +kernel
theorem dX6_lay_15 : decode cX6_lay 15 = .ok (.bipush 9, 2) := by decide +kernel
theorem dX6_lay_17 : decode cX6_lay 17 = .ok (.aload_n 0, 1) := by decide +kernel
theorem dX6_lay_18 : decode cX6_lay 18 = .ok (.getfield 7, 3) := by decide +kernel
theorem dX6_lay_21 : decode cX6_lay 21 = .ok (.iload_n 1, 1) := by decide +kernel
theorem dX6_lay_22 : decode cX6_lay 22 = .ok (.iaload, 1) := by decide +kernel
theorem dX6_lay_23 : decode cX6_lay 23 = .ok (.iadd, 1) := by decide +kernel
theorem dX6_lay_24 : decode cX6_lay 24 = .ok (.invokestatic 102, 3) := by decide +kernel
theorem dX6_lay_27 : decode cX6_lay 27 = .ok (.ifCond .eq 12, 3) := by decide +kernel
theorem dX6_lay_30 : decode cX6_lay 30 = .ok (.aload_n 0, 1) := by decide +kernel
theorem dX6_lay_31 : decode cX6_lay 31 = .ok (.iload_n 1, 1) := by decide +kernel
theorem dX6_lay_32 : decode cX6_lay 32 = .ok (.iload_n 2, 1) := by decide +kernel
theorem dX6_lay_33 : decode cX6_lay 33 = .ok (.invokevirtual 173, 3) := by decide +kernel
theorem dX6_lay_36 : decode cX6_lay 36 = .ok (.ifCond .ne 5, 3) := by decide +kernel
theorem dX6_lay_39 : decode cX6_lay 39 = .ok (.iconst (-1), 1) := by decide +kernel
theorem dX6_lay_40 : decode cX6_lay 40 = .ok (.ireturn, 1) := by decide +kernel
theorem dX6_lay_41 : decode cX6_lay 41 = .ok (.iload_n 3, 1) := by decide +kernel
theorem dX6_lay_42 : decode cX6_lay 42 = .ok (.ifCond .ne 10, 3) := by decide +kernel
theorem dX6_lay_45 : decode cX6_lay 45 = .ok (.aload_n 0, 1) := by decide +kernel
theorem dX6_lay_46 : decode cX6_lay 46 = .ok (.getfield 146, 3) := by decide +kernel
theorem dX6_lay_49 : decode cX6_lay 49 = .ok (.goto 12, 3) := by decide +kernel
theorem dX6_lay_52 : decode cX6_lay 52 = .ok (.aload_n 0, 1) := by decide +kernel
theorem dX6_lay_53 : decode cX6_lay 53 = .ok (.getfield 84, 3) := by decide +kernel
theorem dX6_lay_56 : decode cX6_lay 56 = .ok (.iload_n 3, 1) := by decide +kernel
theorem dX6_lay_57 : decode cX6_lay 57 = .ok (.bipush 10, 2) := by decide +kernel
theorem dX6_lay_59 : decode cX6_lay 59 = .ok (.isub, 1) := by decide +kernel
theorem dX6_lay_60 : decode cX6_lay 60 = .ok (.iaload, 1) := by decide +kernel
theorem dX6_lay_61 : decode cX6_lay 61 = .ok (.ireturn, 1) := by decide +kernel
theorem dX6_moved_0 : decode cX6_moved 0 = .ok (.aload_n 0, 1) := by decide +kernel
theorem dX6_moved_1 : decode cX6_moved 1 = .ok (.iload_n 1, 1) := by decide +kernel
theorem dX6_moved_2 : decode cX6_moved 2 = .ok (.iload_n 2, 1) := by decide +kernel
theorem dX6_moved_3 : decode cX6_moved 3 = .ok (.invokevirtual 173, 3) := by decide +kernel
theorem dX6_moved_6 : decode cX6_moved 6 = .ok (.ifCond .ne 6, 3) := by decide +kernel
theorem dX6_moved_9 : decode cX6_moved 9 = .ok (.bipush (-10), 2) := by decide +kernel
theorem dX6_moved_11 : decode cX6_moved 11 = .ok (.ireturn, 1) := by decide +kernel
theorem dX6_moved_12 : decode cX6_moved 12 = .ok (.iload_n 3, 1) := by decide +kernel
theorem dX6_moved_13 : decode cX6_moved 13 = .ok (.ifCond .eq 10, 3) := by decide +kernel
theorem dX6_moved_16 : decode cX6_moved 16 = .ok (.aload_n 0, 1) := by decide +kernel
theorem dX6_moved_17 : decode cX6_moved 17 = .ok (.getfield 155, 3) := by decide +kernel
theorem dX6_moved_20 : decode cX6_moved 20 = .ok (.goto 7, 3) := by decide +kernel
theorem dX6_moved_23 : decode cX6_moved 23 = .ok (.aload_n 0, 1) := by decide +kernel
theorem dX6_moved_24 : decode cX6_moved 24 = .ok (.getfield 152, 3) := by decide +kernel
theorem dX6_moved_27 : decode cX6_moved 27 = .ok (.ireturn, 1) := by decide +kernel
theorem dX6_read_0 : decode cX6_read 0 = .ok (.aload_n 0, 1) := by decide +kernel
theorem dX6_read_1 : decode cX6_read 1 = .ok (.iload_n 1, 1) := by decide +kernel
theorem dX6_read_2 : decode cX6_read 2 = .ok (.iload_n 2, 1) := by decide +kernel
theorem dX6_read_3 : decode cX6_read 3 = .ok (.invokevirtual 173, 3) := by decide +kernel
theorem dX6_read_6 : decode cX6_read 6 = .ok (.ifCond .eq 17, 3) := by decide +kernel
theorem dX6_read_9 : decode cX6_read 9 = .ok (.iload_n 3, 1) := by decide +kernel
theorem dX6_read_10 : decode cX6_read 10 = .ok (.iconst 0, 1) := by decide +kernel
theorem dX6_read_11 : decode cX6_read 11 = .ok (.aload_n 0, 1) := by decide +kernel
theorem dX6_read_12 : decode cX6_read 12 = .ok (.getfield 139, 3) := by decide +kernel
theorem dX6_read_15 : decode cX6_read 15 = .ok (.iconst 1, 1) := by decide +kernel
theorem dX6_read_16 : decode cX6_read 16 = .ok (.isub, 1) := by decide +kernel
theorem dX6_read_17 : decode cX6_read 17 = .ok (.invokestatic 102, 3) := by decide +kernel
theorem dX6_read_20 : decode cX6_read 20 = .ok (.ifCond .ne 5, 3) := by decide +kernel
theorem dX6_read_23 : decode cX6_read 23 = .ok (.iconst (-1), 1) := by decide +kernel
theorem dX6_read_24 : decode cX6_read 24 = .ok (.ireturn, 1) := by decide +kernel
theorem dX6_read_25 : decode cX6_read 25 = .ok (.iconst (-1), 1) := by decide +kernel
theorem dX6_read_26 : decode cX6_read 26 = .ok (.istore 4, 2) := by decide +kernel
theorem dX6_read_28 : decode cX6_read 28 = .ok (.iconst 0, 1) := by decide +kernel
theorem dX6_read_29 : decode cX6_read 29 = .ok (.istore 5, 2) := by decide +kernel
theorem dX6_read_31 : decode cX6_read 31 = .ok (.iload 5, 2) := by decide +kernel
theorem dX6_read_33 : decode cX6_read 33 = .ok (.aload_n 0, 1) := by decide +kernel
theorem dX6_read_34 : decode cX6_read 34 = .ok (.getfield 135, 3) := by decide +kernel
theorem dX6_read_37 : decode cX6_read 37 = .ok (.if_icmp .ge 34, 3) := by decide +kernel
theorem dX6_read_40 : decode cX6_read 40 = .ok (.aload_n 0, 1) := by decide +kernel
theorem dX6_read_41 : decode cX6_read 41 = .ok (.getfield 84, 3) := by decide +kernel
theorem dX6_read_44 : decode cX6_read 44 = .ok (.iload 5, 2) := by decide +kernel
theorem dX6_read_46 : decode cX6_read 46 = .ok (.iaload, 1) := by decide +kernel
theorem dX6_read_47 : decode cX6_read 47 = .ok (.iload_n 3, 1) := by decide +kernel
theorem dX6_read_48 : decode cX6_read 48 = .ok (.if_icmp .ne 13, 3) := by decide +kernel
theorem dX6_read_51 : decode cX6_read 51 = .ok (.aload_n 0, 1) := by decide +kernel
theorem dX6_read_52 : decode cX6_read 52 = .ok (.getfield 63, 3) := by decide +kernel
theorem dX6_read_55 : decode cX6_read 55 = .ok (.iload 5, 2) := by decide +kernel
theorem dX6_read_57 : decode cX6_read 57 = .ok (.iaload, 1) := by decide +kernel
theorem dX6_read_58 : decode cX6_read 58 = .ok (.goto 5, 3) := by decide +kernel
theorem dX6_read_61 : decode cX6_read 61 = .ok (.iload 4, 2) := by decide +kernel
theorem dX6_read_63 : decode cX6_read 63 = .ok (.istore 4, 2) := by decide +kernel
theorem dX6_read_65 : decode cX6_read 65 = .ok (.iinc 5 1, 3) := by decide +kernel
theorem dX6_read_68 : decode cX6_read 68 = .ok (.goto (-37), 3) := by decide +kernel
theorem dX6_read_71 : decode cX6_read 71 = .ok (.iload 4, 2) := by decide +kernel
theorem dX6_read_73 : decode cX6_read 73 = .ok (.ireturn, 1) := by decide +kernel
theorem dX6_looks_0 : decode cX6_looks 0 = .ok (.aload_n 0, 1) := by decide +kernel
theorem dX6_looks_1 : decode cX6_looks 1 = .ok (.iconst (-1), 1) := by decide +kernel
theorem dX6_looks_2 : decode cX6_looks 2 = .ok (.putfield 177, 3) := by decide +kernel
theorem dX6_looks_5 : decode cX6_looks 5 = .ok (.aload_n 0, 1) := by decide +kernel
theorem dX6_looks_6 : decode cX6_looks 6 = .ok (.ldc 138, 2) := by decide +kernel
theorem dX6_looks_8 : decode cX6_looks 8 = .ok (.putfield 180, 3) := by decide +kernel
theorem dX6_looks_11 : decode cX6_looks 11 = .ok (.aload_n 0, 1) := by decide +kernel
theorem dX6_looks_12 : decode cX6_looks 12 = .ok (.ldc 138, 2) := by decide +kernel
theorem dX6_looks_14 : decode cX6_looks 14 = .ok (.putfield 183, 3) := by decide +kernel
theorem dX6_looks_17 : decode cX6_looks 17 = .ok (.iconst 0, 1) := by decide +kernel
theorem dX6_looks_18 : decode cX6_looks 18 = .ok (.istore_n 2, 1) := by decide +kernel
theorem dX6_looks_19 : decode cX6_looks 19 = .ok (.iload_n 2, 1) := by decide +kernel
theorem dX6_looks_20 : decode cX6_looks 20 = .ok (.iconst 5, 1) := by decide +kernel
theorem dX6_looks_21 : decode cX6_looks 21 = .ok (.if_icmp .ge 69, 3) := by decide +kernel
theorem dX6_looks_24 : decode cX6_looks 24 = .ok (.aload_n 0, 1) := by decide +kernel
theorem dX6_looks_25 : decode cX6_looks 25 = .ok (.iload_n 2, 1) := by decide +kernel
theorem dX6_looks_26 : decode cX6_looks 26 = .ok (.invokevirtual 168, 3) := by decide +kernel
theorem dX6_looks_29 : decode cX6_looks 29 = .ok (.ifCond .ne 6, 3) := by decide +kernel
theorem dX6_looks_32 : decode cX6_looks 32 = .ok (.goto 52, 3) := by decide +kernel
theorem dX6_looks_35 : decode cX6_looks 35 = .ok (.aload_n 0, 1) := by decide +kernel
theorem dX6_looks_36 : decode cX6_looks 36 = .ok (.iload_n 1, 1) := by decide +kernel
theorem dX6_looks_37 : decode cX6_looks 37 = .ok (.iload_n 2, 1) := by decide +kernel
theorem dX6_looks_38 : decode cX6_looks 38 = .ok (.invokevirtual 186, 3) := by decide +kernel
theorem dX6_looks_41 : decode cX6_looks 41 = .ok (.istore_n 3, 1) := by decide +kernel
theorem dX6_looks_42 : decode cX6_looks 42 = .ok (.iload_n 3, 1) := by decide +kernel
theorem dX6_looks_43 : decode cX6_looks 43 = .ok (.aload_n 0, 1) := by decide +kernel
theorem dX6_looks_44 : decode cX6_looks 44 = .ok (.getfield 180, 3) := by decide +kernel
theorem dX6_looks_47 : decode cX6_looks 47 = .ok (.if_icmp .ge 24, 3) := by decide +kernel
theorem dX6_looks_50 : decode cX6_looks 50 = .ok (.aload_n 0, 1) := by decide +kernel
theorem dX6_looks_51 : decode cX6_looks 51 = .ok (.aload_n 0, 1) := by decide +kernel
theorem dX6_looks_52 : decode cX6_looks 52 = .ok (.getfield 180, 3) := by decide +kernel
theorem dX6_looks_55 : decode cX6_looks 55 = .ok (.putfield 183, 3) := by decide +kernel
theorem dX6_looks_58 : decode cX6_looks 58 = .ok (.aload_n 0, 1) := by decide +kernel
theorem dX6_looks_59 : decode cX6_looks 59 = .ok (.iload_n 3, 1) := by decide +kernel
theorem dX6_looks_60 : decode cX6_looks 60 = .ok (.putfield 180, 3) := by decide +kernel
theorem dX6_looks_63 : decode cX6_looks 63 = .ok (.aload_n 0, 1) := by decide +kernel
theorem dX6_looks_64 : decode cX6_looks 64 = .ok (.iload_n 2, 1) := by decide +kernel
theorem dX6_looks_65 : decode cX6_looks 65 = .ok (.putfield 177, 3) := by decide +kernel
theorem dX6_looks_68 : decode cX6_looks 68 = .ok (.goto 16, 3) := by decide +kernel
theorem dX6_looks_71 : decode cX6_looks 71 = .ok (.iload_n 3, 1) := by decide +kernel
theorem dX6_looks_72 : decode cX6_looks 72 = .ok (.aload_n 0, 1) := by decide +kernel
theorem dX6_looks_73 : decode cX6_looks 73 = .ok (.getfield 183, 3) := by decide +kernel
theorem dX6_looks_76 : decode cX6_looks 76 = .ok (.if_icmp .ge 8, 3) := by decide +kernel
theorem dX6_looks_79 : decode cX6_looks 79 = .ok (.aload_n 0, 1) := by decide +kernel
theorem dX6_looks_80 : decode cX6_looks 80 = .ok (.iload_n 3, 1) := by decide +kernel
theorem dX6_looks_81 : decode cX6_looks 81 = .ok (.putfield 183, 3) := by decide +kernel
theorem dX6_looks_84 : decode cX6_looks 84 = .ok (.iinc 2 1, 3) := by decide +kernel
theorem dX6_looks_87 : decode cX6_looks 87 = .ok (.goto (-68), 3) := by decide +kernel
theorem dX6_looks_90 : decode cX6_looks 90 = .ok (.return_, 1) := by decide +kernel
theorem dX6_sortOf_0 : decode cX6_sortOf 0 = .ok (.aload_n 0, 1) := by decide +kernel
theorem dX6_sortOf_1 : decode cX6_sortOf 1 = .ok (.iload_n 1, 1) := by decide +kernel
theorem dX6_sortOf_2 : decode cX6_sortOf 2 = .ok (.invokevirtual 189, 3) := by decide +kernel
theorem dX6_sortOf_5 : decode cX6_sortOf 5 = .ok (.aload_n 0, 1) := by decide +kernel
theorem dX6_sortOf_6 : decode cX6_sortOf 6 = .ok (.getfield 177, 3) := by decide +kernel
theorem dX6_sortOf_9 : decode cX6_sortOf 9 = .ok (.ifCond .lt 14, 3) := by decide +kernel
theorem dX6_sortOf_12 : decode cX6_sortOf 12 = .ok (.aload_n 0, 1) := by decide +kernel
theorem dX6_sortOf_13 : decode cX6_sortOf 13 = .ok (.getfield 180, 3) := by decide +kernel
theorem dX6_sortOf_16 : decode cX6_sortOf 16 = .ok (.aload_n 0, 1) := by decide +kernel
theorem dX6_sortOf_17 : decode cX6_sortOf 17 = .ok (.getfield 28, 3) := by decide +kernel
theorem dX6_sortOf_20 : decode cX6_sortOf 20 = .ok (.if_icmp .le 6, 3) := by decide +kernel
theorem dX6_sortOf_23 : decode cX6_sortOf 23 = .ok (.bipush 10, 2) := by decide +kernel
theorem dX6_sortOf_25 : decode cX6_sortOf 25 = .ok (.ireturn, 1) := by decide +kernel
theorem dX6_sortOf_26 : decode cX6_sortOf 26 = .ok (.aload_n 0, 1) := by decide +kernel
theorem dX6_sortOf_27 : decode cX6_sortOf 27 = .ok (.getfield 183, 3) := by decide +kernel
theorem dX6_sortOf_30 : decode cX6_sortOf 30 = .ok (.aload_n 0, 1) := by decide +kernel
theorem dX6_sortOf_31 : decode cX6_sortOf 31 = .ok (.getfield 180, 3) := by decide +kernel
theorem dX6_sortOf_34 : decode cX6_sortOf 34 = .ok (.aload_n 0, 1) := by decide +kernel
theorem dX6_sortOf_35 : decode cX6_sortOf 35 = .ok (.getfield 32, 3) := by decide +kernel
theorem dX6_sortOf_38 : decode cX6_sortOf 38 = .ok (.iadd, 1) := by decide +kernel
theorem dX6_sortOf_39 : decode cX6_sortOf 39 = .ok (.if_icmp .ge 8, 3) := by decide +kernel
theorem dX6_sortOf_42 : decode cX6_sortOf 42 = .ok (.bipush 11, 2) := by decide +kernel
theorem dX6_sortOf_44 : decode cX6_sortOf 44 = .ok (.goto 7, 3) := by decide +kernel
theorem dX6_sortOf_47 : decode cX6_sortOf 47 = .ok (.aload_n 0, 1) := by decide +kernel
theorem dX6_sortOf_48 : decode cX6_sortOf 48 = .ok (.getfield 177, 3) := by decide +kernel
theorem dX6_sortOf_51 : decode cX6_sortOf 51 = .ok (.ireturn, 1) := by decide +kernel
theorem dX6_sorted_0 : decode cX6_sorted 0 = .ok (.aload_n 0, 1) := by decide +kernel
theorem dX6_sorted_1 : decode cX6_sorted 1 = .ok (.iload_n 1, 1) := by decide +kernel
theorem dX6_sorted_2 : decode cX6_sorted 2 = .ok (.invokevirtual 113, 3) := by decide +kernel
theorem dX6_sorted_5 : decode cX6_sorted 5 = .ok (.ifCond .eq 11, 3) := by decide +kernel
theorem dX6_sorted_8 : decode cX6_sorted 8 = .ok (.aload_n 0, 1) := by decide +kernel
theorem dX6_sorted_9 : decode cX6_sorted 9 = .ok (.iload_n 1, 1) := by decide +kernel
theorem dX6_sorted_10 : decode cX6_sorted 10 = .ok (.invokevirtual 192, 3) := by decide +kernel
theorem dX6_sorted_13 : decode cX6_sorted 13 = .ok (.goto 4, 3) := by decide +kernel
theorem dX6_sorted_16 : decode cX6_sorted 16 = .ok (.iconst (-1), 1) := by decide +kernel
theorem dX6_sorted_17 : decode cX6_sorted 17 = .ok (.ireturn, 1) := by decide +kernel
theorem dX6_told_0 : decode cX6_told 0 = .ok (.aload_n 0, 1) := by decide +kernel
theorem dX6_told_1 : decode cX6_told 1 = .ok (.iload_n 1, 1) := by decide +kernel
theorem dX6_told_2 : decode cX6_told 2 = .ok (.invokevirtual 113, 3) := by decide +kernel
theorem dX6_told_5 : decode cX6_told 5 = .ok (.ifCond .eq 12, 3) := by decide +kernel
theorem dX6_told_8 : decode cX6_told 8 = .ok (.aload_n 0, 1) := by decide +kernel
theorem dX6_told_9 : decode cX6_told 9 = .ok (.getfield 22, 3) := by decide +kernel
theorem dX6_told_12 : decode cX6_told 12 = .ok (.iload_n 1, 1) := by decide +kernel
theorem dX6_told_13 : decode cX6_told 13 = .ok (.iaload, 1) := by decide +kernel
theorem dX6_told_14 : decode cX6_told 14 = .ok (.goto 4, 3) := by decide +kernel
theorem dX6_told_17 : decode cX6_told 17 = .ok (.iconst (-1), 1) := by decide +kernel
theorem dX6_told_18 : decode cX6_told 18 = .ok (.ireturn, 1) := by decide +kernel
theorem dX6_look_0 : decode cX6_look 0 = .ok (.iconst (-1), 1) := by decide +kernel
theorem dX6_look_1 : decode cX6_look 1 = .ok (.istore_n 1, 1) := by decide +kernel
theorem dX6_look_2 : decode cX6_look 2 = .ok (.ldc 138, 2) := by decide +kernel
theorem dX6_look_4 : decode cX6_look 4 = .ok (.istore_n 2, 1) := by decide +kernel
theorem dX6_look_5 : decode cX6_look 5 = .ok (.iconst 0, 1) := by decide +kernel
theorem dX6_look_6 : decode cX6_look 6 = .ok (.istore_n 3, 1) := by decide +kernel
theorem dX6_look_7 : decode cX6_look 7 = .ok (.iload_n 3, 1) := by decide +kernel
theorem dX6_look_8 : decode cX6_look 8 = .ok (.aload_n 0, 1) := by decide +kernel
theorem dX6_look_9 : decode cX6_look 9 = .ok (.getfield 99, 3) := by decide +kernel
theorem dX6_look_12 : decode cX6_look 12 = .ok (.if_icmp .ge 54, 3) := by decide +kernel
theorem dX6_look_15 : decode cX6_look 15 = .ok (.aload_n 0, 1) := by decide +kernel
theorem dX6_look_16 : decode cX6_look 16 = .ok (.getfield 22, 3) := by decide +kernel
theorem dX6_look_19 : decode cX6_look 19 = .ok (.iload_n 3, 1) := by decide +kernel
theorem dX6_look_20 : decode cX6_look 20 = .ok (.iaload, 1) := by decide +kernel
theorem dX6_look_21 : decode cX6_look 21 = .ok (.iconst (-1), 1) := by decide +kernel
theorem dX6_look_22 : decode cX6_look 22 = .ok (.if_icmp .ne 38, 3) := by decide +kernel
theorem dX6_look_25 : decode cX6_look 25 = .ok (.aload_n 0, 1) := by decide +kernel
theorem dX6_look_26 : decode cX6_look 26 = .ok (.iload_n 3, 1) := by decide +kernel
theorem dX6_look_27 : decode cX6_look 27 = .ok (.invokevirtual 192, 3) := by decide +kernel
theorem dX6_look_30 : decode cX6_look 30 = .ok (.bipush 11, 2) := by decide +kernel
theorem dX6_look_32 : decode cX6_look 32 = .ok (.if_icmp .ne 28, 3) := by decide +kernel
theorem dX6_look_35 : decode cX6_look 35 = .ok (.aload_n 0, 1) := by decide +kernel
theorem dX6_look_36 : decode cX6_look 36 = .ok (.getfield 183, 3) := by decide +kernel
theorem dX6_look_39 : decode cX6_look 39 = .ok (.aload_n 0, 1) := by decide +kernel
theorem dX6_look_40 : decode cX6_look 40 = .ok (.getfield 180, 3) := by decide +kernel
theorem dX6_look_43 : decode cX6_look 43 = .ok (.isub, 1) := by decide +kernel
theorem dX6_look_44 : decode cX6_look 44 = .ok (.iload_n 2, 1) := by decide +kernel
theorem dX6_look_45 : decode cX6_look 45 = .ok (.if_icmp .ge 15, 3) := by decide +kernel
theorem dX6_look_48 : decode cX6_look 48 = .ok (.aload_n 0, 1) := by decide +kernel
theorem dX6_look_49 : decode cX6_look 49 = .ok (.getfield 183, 3) := by decide +kernel
theorem dX6_look_52 : decode cX6_look 52 = .ok (.aload_n 0, 1) := by decide +kernel
theorem dX6_look_53 : decode cX6_look 53 = .ok (.getfield 180, 3) := by decide +kernel
theorem dX6_look_56 : decode cX6_look 56 = .ok (.isub, 1) := by decide +kernel
theorem dX6_look_57 : decode cX6_look 57 = .ok (.istore_n 2, 1) := by decide +kernel
theorem dX6_look_58 : decode cX6_look 58 = .ok (.iload_n 3, 1) := by decide +kernel
theorem dX6_look_59 : decode cX6_look 59 = .ok (.istore_n 1, 1) := by decide +kernel
theorem dX6_look_60 : decode cX6_look 60 = .ok (.iinc 3 1, 3) := by decide +kernel
theorem dX6_look_63 : decode cX6_look 63 = .ok (.goto (-56), 3) := by decide +kernel
theorem dX6_look_66 : decode cX6_look 66 = .ok (.iload_n 1, 1) := by decide +kernel
theorem dX6_look_67 : decode cX6_look 67 = .ok (.ireturn, 1) := by decide +kernel
theorem dX6_isUnknown_0 : decode cX6_isUnknown 0 = .ok (.aload_n 0, 1) := by decide +kernel
theorem dX6_isUnknown_1 : decode cX6_isUnknown 1 = .ok (.getfield 22, 3) := by decide +kernel
theorem dX6_isUnknown_4 : decode cX6_isUnknown 4 = .ok (.iload_n 1, 1) := by decide +kernel
theorem dX6_isUnknown_5 : decode cX6_isUnknown 5 = .ok (.iaload, 1) := by decide +kernel
theorem dX6_isUnknown_6 : decode cX6_isUnknown 6 = .ok (.iconst (-1), 1) := by decide +kernel
theorem dX6_isUnknown_7 : decode cX6_isUnknown 7 = .ok (.if_icmp .ne 17, 3) := by decide +kernel
theorem dX6_isUnknown_10 : decode cX6_isUnknown 10 = .ok (.aload_n 0, 1) := by decide +kernel
theorem dX6_isUnknown_11 : decode cX6_isUnknown 11 = .ok (.iload_n 1, 1) := by decide +kernel
theorem dX6_isUnknown_12 : decode cX6_isUnknown 12 = .ok (.invokevirtual 192, 3) := by decide +kernel
theorem dX6_isUnknown_15 : decode cX6_isUnknown 15 = .ok (.bipush 10, 2) := by decide +kernel
theorem dX6_isUnknown_17 : decode cX6_isUnknown 17 = .ok (.if_icmp .ne 7, 3) := by decide +kernel
theorem dX6_isUnknown_20 : decode cX6_isUnknown 20 = .ok (.iconst 1, 1) := by decide +kernel
theorem dX6_isUnknown_21 : decode cX6_isUnknown 21 = .ok (.goto 4, 3) := by decide +kernel
theorem dX6_isUnknown_24 : decode cX6_isUnknown 24 = .ok (.iconst 0, 1) := by decide +kernel
theorem dX6_isUnknown_25 : decode cX6_isUnknown 25 = .ok (.ireturn, 1) := by decide +kernel
theorem dX6_isNear_0 : decode cX6_isNear 0 = .ok (.aload_n 0, 1) := by decide +kernel
theorem dX6_isNear_1 : decode cX6_isNear 1 = .ok (.iload_n 1, 1) := by decide +kernel
theorem dX6_isNear_2 : decode cX6_isNear 2 = .ok (.invokevirtual 158, 3) := by decide +kernel
theorem dX6_isNear_5 : decode cX6_isNear 5 = .ok (.aload_n 0, 1) := by decide +kernel
theorem dX6_isNear_6 : decode cX6_isNear 6 = .ok (.iconst 0, 1) := by decide +kernel
theorem dX6_isNear_7 : decode cX6_isNear 7 = .ok (.putfield 139, 3) := by decide +kernel
theorem dX6_isNear_10 : decode cX6_isNear 10 = .ok (.iconst 1, 1) := by decide +kernel
theorem dX6_isNear_11 : decode cX6_isNear 11 = .ok (.istore_n 3, 1) := by decide +kernel
theorem dX6_isNear_12 : decode cX6_isNear 12 = .ok (.iload_n 3, 1) := by decide +kernel
theorem dX6_isNear_13 : decode cX6_isNear 13 = .ok (.bipush 100, 2) := by decide +kernel
theorem dX6_isNear_15 : decode cX6_isNear 15 = .ok (.if_icmp .ge 84, 3) := by decide +kernel
theorem dX6_isNear_18 : decode cX6_isNear 18 = .ok (.aload_n 0, 1) := by decide +kernel
theorem dX6_isNear_19 : decode cX6_isNear 19 = .ok (.iload_n 2, 1) := by decide +kernel
theorem dX6_isNear_20 : decode cX6_isNear 20 = .ok (.iload_n 3, 1) := by decide +kernel
theorem dX6_isNear_21 : decode cX6_isNear 21 = .ok (.invokevirtual 121, 3) := by decide +kernel
theorem dX6_isNear_24 : decode cX6_isNear 24 = .ok (.istore 4, 2) := by decide +kernel
theorem dX6_isNear_26 : decode cX6_isNear 26 = .ok (.iload 4, 2) := by decide +kernel
theorem dX6_isNear_28 : decode cX6_isNear 28 = .ok (.ifCond .lt 65, 3) := by decide +kernel
theorem dX6_isNear_31 : decode cX6_isNear 31 = .ok (.aload_n 0, 1) := by decide +kernel
theorem dX6_isNear_32 : decode cX6_isNear 32 = .ok (.getfield 66, 3) := by decide +kernel
theorem dX6_isNear_35 : decode cX6_isNear 35 = .ok (.aload_n 0, 1) := by decide +kernel
theorem dX6_isNear_36 : decode cX6_isNear 36 = .ok (.getfield 139, 3) := by decide +kernel
theorem dX6_isNear_39 : decode cX6_isNear 39 = .ok (.aload_n 0, 1) := by decide +kernel
theorem dX6_isNear_40 : decode cX6_isNear 40 = .ok (.getfield 13, 3) := by decide +kernel
theorem dX6_isNear_43 : decode cX6_isNear 43 = .ok (.iload 4, 2) := by decide +kernel
theorem dX6_isNear_45 : decode cX6_isNear 45 = .ok (.iaload, 1) := by decide +kernel
theorem dX6_isNear_46 : decode cX6_isNear 46 = .ok (.iastore, 1) := by decide +kernel
theorem dX6_isNear_47 : decode cX6_isNear 47 = .ok (.aload_n 0, 1) := by decide +kernel
theorem dX6_isNear_48 : decode cX6_isNear 48 = .ok (.getfield 69, 3) := by decide +kernel
theorem dX6_isNear_51 : decode cX6_isNear 51 = .ok (.aload_n 0, 1) := by decide +kernel
theorem dX6_isNear_52 : decode cX6_isNear 52 = .ok (.getfield 139, 3) := by decide +kernel
theorem dX6_isNear_55 : decode cX6_isNear 55 = .ok (.aload_n 0, 1) := by decide +kernel
theorem dX6_isNear_56 : decode cX6_isNear 56 = .ok (.getfield 16, 3) := by decide +kernel
theorem dX6_isNear_59 : decode cX6_isNear 59 = .ok (.iload 4, 2) := by decide +kernel
theorem dX6_isNear_61 : decode cX6_isNear 61 = .ok (.iaload, 1) := by decide +kernel
theorem dX6_isNear_62 : decode cX6_isNear 62 = .ok (.iastore, 1) := by decide +kernel
theorem dX6_isNear_63 : decode cX6_isNear 63 = .ok (.aload_n 0, 1) := by decide +kernel
theorem dX6_isNear_64 : decode cX6_isNear 64 = .ok (.getfield 72, 3) := by decide +kernel
theorem dX6_isNear_67 : decode cX6_isNear 67 = .ok (.aload_n 0, 1) := by decide +kernel
theorem dX6_isNear_68 : decode cX6_isNear 68 = .ok (.getfield 139, 3) := by decide +kernel
theorem dX6_isNear_71 : decode cX6_isNear 71 = .ok (.iload_n 3, 1) := by decide +kernel
theorem dX6_isNear_72 : decode cX6_isNear 72 = .ok (.iastore, 1) := by decide +kernel
theorem dX6_isNear_73 : decode cX6_isNear 73 = .ok (.aload_n 0, 1) := by decide +kernel
theorem dX6_isNear_74 : decode cX6_isNear 74 = .ok (.getfield 75, 3) := by decide +kernel
theorem dX6_isNear_77 : decode cX6_isNear 77 = .ok (.aload_n 0, 1) := by decide +kernel
theorem dX6_isNear_78 : decode cX6_isNear 78 = .ok (.getfield 139, 3) := by decide +kernel
theorem dX6_isNear_81 : decode cX6_isNear 81 = .ok (.iconst 1, 1) := by decide +kernel
theorem dX6_isNear_82 : decode cX6_isNear 82 = .ok (.bastore, 1) := by decide +kernel
theorem dX6_isNear_83 : decode cX6_isNear 83 = .ok (.aload_n 0, 1) := by decide +kernel
theorem dX6_isNear_84 : decode cX6_isNear 84 = .ok (.dup, 1) := by decide +kernel
theorem dX6_isNear_85 : decode cX6_isNear 85 = .ok (.getfield 139, 3) := by decide +kernel
theorem dX6_isNear_88 : decode cX6_isNear 88 = .ok (.iconst 1, 1) := by decide +kernel
theorem dX6_isNear_89 : decode cX6_isNear 89 = .ok (.iadd, 1) := by decide +kernel
theorem dX6_isNear_90 : decode cX6_isNear 90 = .ok (.putfield 139, 3) := by decide +kernel
theorem dX6_isNear_93 : decode cX6_isNear 93 = .ok (.iinc 3 1, 3) := by decide +kernel
theorem dX6_isNear_96 : decode cX6_isNear 96 = .ok (.goto (-84), 3) := by decide +kernel
theorem dX6_isNear_99 : decode cX6_isNear 99 = .ok (.aload_n 0, 1) := by decide +kernel
theorem dX6_isNear_100 : decode cX6_isNear 100 = .ok (.invokevirtual 165, 3) := by decide +kernel
theorem dX6_isNear_103 : decode cX6_isNear 103 = .ok (.aload_n 0, 1) := by decide +kernel
theorem dX6_isNear_104 : decode cX6_isNear 104 = .ok (.getfield 146, 3) := by decide +kernel
theorem dX6_isNear_107 : decode cX6_isNear 107 = .ok (.aload_n 0, 1) := by decide +kernel
theorem dX6_isNear_108 : decode cX6_isNear 108 = .ok (.getfield 35, 3) := by decide +kernel
theorem dX6_isNear_111 : decode cX6_isNear 111 = .ok (.if_icmp .gt 7, 3) := by decide +kernel
theorem dX6_isNear_114 : decode cX6_isNear 114 = .ok (.iconst 1, 1) := by decide +kernel
theorem dX6_isNear_115 : decode cX6_isNear 115 = .ok (.goto 4, 3) := by decide +kernel
theorem dX6_isNear_118 : decode cX6_isNear 118 = .ok (.iconst 0, 1) := by decide +kernel
theorem dX6_isNear_119 : decode cX6_isNear 119 = .ok (.ireturn, 1) := by decide +kernel
theorem dX6_gathers_0 : decode cX6_gathers 0 = .ok (.iconst 0, 1) := by decide +kernel
theorem dX6_gathers_1 : decode cX6_gathers 1 = .ok (.istore_n 1, 1) := by decide +kernel
theorem dX6_gathers_2 : decode cX6_gathers 2 = .ok (.iload_n 1, 1) := by decide +kernel
theorem dX6_gathers_3 : decode cX6_gathers 3 = .ok (.aload_n 0, 1) := by decide +kernel
theorem dX6_gathers_4 : decode cX6_gathers 4 = .ok (.getfield 99, 3) := by decide +kernel
theorem dX6_gathers_7 : decode cX6_gathers 7 = .ok (.if_icmp .ge 28, 3) := by decide +kernel
theorem dX6_gathers_10 : decode cX6_gathers 10 = .ok (.aload_n 0, 1) := by decide +kernel
theorem dX6_gathers_11 : decode cX6_gathers 11 = .ok (.getfield 93, 3) := by decide +kernel
theorem dX6_gathers_14 : decode cX6_gathers 14 = .ok (.iload_n 1, 1) := by decide +kernel
theorem dX6_gathers_15 : decode cX6_gathers 15 = .ok (.aload_n 0, 1) := by decide +kernel
theorem dX6_gathers_16 : decode cX6_gathers 16 = .ok (.iload_n 1, 1) := by decide +kernel
theorem dX6_gathers_17 : decode cX6_gathers 17 = .ok (.invokevirtual 195, 3) := by decide +kernel
theorem dX6_gathers_20 : decode cX6_gathers 20 = .ok (.ifCond .eq 7, 3) := by decide +kernel
theorem dX6_gathers_23 : decode cX6_gathers 23 = .ok (.iload_n 1, 1) := by decide +kernel
theorem dX6_gathers_24 : decode cX6_gathers 24 = .ok (.goto 4, 3) := by decide +kernel
theorem dX6_gathers_27 : decode cX6_gathers 27 = .ok (.iconst (-1), 1) := by decide +kernel
theorem dX6_gathers_28 : decode cX6_gathers 28 = .ok (.iastore, 1) := by decide +kernel
theorem dX6_gathers_29 : decode cX6_gathers 29 = .ok (.iinc 1 1, 3) := by decide +kernel
theorem dX6_gathers_32 : decode cX6_gathers 32 = .ok (.goto (-30), 3) := by decide +kernel
theorem dX6_gathers_35 : decode cX6_gathers 35 = .ok (.iconst 0, 1) := by decide +kernel
theorem dX6_gathers_36 : decode cX6_gathers 36 = .ok (.istore_n 1, 1) := by decide +kernel
theorem dX6_gathers_37 : decode cX6_gathers 37 = .ok (.iload_n 1, 1) := by decide +kernel
theorem dX6_gathers_38 : decode cX6_gathers 38 = .ok (.aload_n 0, 1) := by decide +kernel
theorem dX6_gathers_39 : decode cX6_gathers 39 = .ok (.getfield 99, 3) := by decide +kernel
theorem dX6_gathers_42 : decode cX6_gathers 42 = .ok (.if_icmp .ge 80, 3) := by decide +kernel
theorem dX6_gathers_45 : decode cX6_gathers 45 = .ok (.iconst 0, 1) := by decide +kernel
theorem dX6_gathers_46 : decode cX6_gathers 46 = .ok (.istore_n 2, 1) := by decide +kernel
theorem dX6_gathers_47 : decode cX6_gathers 47 = .ok (.iload_n 2, 1) := by decide +kernel
theorem dX6_gathers_48 : decode cX6_gathers 48 = .ok (.iload_n 1, 1) := by decide +kernel
theorem dX6_gathers_49 : decode cX6_gathers 49 = .ok (.if_icmp .ge 67, 3) := by decide +kernel
theorem dX6_gathers_52 : decode cX6_gathers 52 = .ok (.aload_n 0, 1) := by decide +kernel
theorem dX6_gathers_53 : decode cX6_gathers 53 = .ok (.getfield 93, 3) := by decide +kernel
theorem dX6_gathers_56 : decode cX6_gathers 56 = .ok (.iload_n 2, 1) := by decide +kernel
theorem dX6_gathers_57 : decode cX6_gathers 57 = .ok (.iaload, 1) := by decide +kernel
theorem dX6_gathers_58 : decode cX6_gathers 58 = .ok (.ifCond .lt 52, 3) := by decide +kernel
theorem dX6_gathers_61 : decode cX6_gathers 61 = .ok (.aload_n 0, 1) := by decide +kernel
theorem dX6_gathers_62 : decode cX6_gathers 62 = .ok (.getfield 93, 3) := by decide +kernel
theorem dX6_gathers_65 : decode cX6_gathers 65 = .ok (.iload_n 1, 1) := by decide +kernel
theorem dX6_gathers_66 : decode cX6_gathers 66 = .ok (.iaload, 1) := by decide +kernel
theorem dX6_gathers_67 : decode cX6_gathers 67 = .ok (.ifCond .lt 43, 3) := by decide +kernel
theorem dX6_gathers_70 : decode cX6_gathers 70 = .ok (.aload_n 0, 1) := by decide +kernel
theorem dX6_gathers_71 : decode cX6_gathers 71 = .ok (.getfield 93, 3) := by decide +kernel
theorem dX6_gathers_74 : decode cX6_gathers 74 = .ok (.iload_n 2, 1) := by decide +kernel
theorem dX6_gathers_75 : decode cX6_gathers 75 = .ok (.iaload, 1) := by decide +kernel
theorem dX6_gathers_76 : decode cX6_gathers 76 = .ok (.aload_n 0, 1) := by decide +kernel
theorem dX6_gathers_77 : decode cX6_gathers 77 = .ok (.getfield 93, 3) := by decide +kernel
theorem dX6_gathers_80 : decode cX6_gathers 80 = .ok (.iload_n 1, 1) := by decide +kernel
theorem dX6_gathers_81 : decode cX6_gathers 81 = .ok (.iaload, 1) := by decide +kernel
theorem dX6_gathers_82 : decode cX6_gathers 82 = .ok (.if_icmp .eq 28, 3) := by decide +kernel
theorem dX6_gathers_85 : decode cX6_gathers 85 = .ok (.aload_n 0, 1) := by decide +kernel
theorem dX6_gathers_86 : decode cX6_gathers 86 = .ok (.iload_n 2, 1) := by decide +kernel
theorem dX6_gathers_87 : decode cX6_gathers 87 = .ok (.iload_n 1, 1) := by decide +kernel
theorem dX6_gathers_88 : decode cX6_gathers 88 = .ok (.invokevirtual 198, 3) := by decide +kernel
theorem dX6_gathers_91 : decode cX6_gathers 91 = .ok (.ifCond .eq 19, 3) := by decide +kernel
theorem dX6_gathers_94 : decode cX6_gathers 94 = .ok (.aload_n 0, 1) := by decide +kernel
theorem dX6_gathers_95 : decode cX6_gathers 95 = .ok (.aload_n 0, 1) := by decide +kernel
theorem dX6_gathers_96 : decode cX6_gathers 96 = .ok (.getfield 93, 3) := by decide +kernel
theorem dX6_gathers_99 : decode cX6_gathers 99 = .ok (.iload_n 2, 1) := by decide +kernel
theorem dX6_gathers_100 : decode cX6_gathers 100 = .ok (.iaload, 1) := by decide +kernel
theorem dX6_gathers_101 : decode cX6_gathers 101 = .ok (.aload_n 0, 1) := by decide +kernel
theorem dX6_gathers_102 : decode cX6_gathers 102 = .ok (.getfield 93, 3) := by decide +kernel
theorem dX6_gathers_105 : decode cX6_gathers 105 = .ok (.iload_n 1, 1) := by decide +kernel
theorem dX6_gathers_106 : decode cX6_gathers 106 = .ok (.iaload, 1) := by decide +kernel
theorem dX6_gathers_107 : decode cX6_gathers 107 = .ok (.invokevirtual 201, 3) := by decide +kernel
theorem dX6_gathers_110 : decode cX6_gathers 110 = .ok (.iinc 2 1, 3) := by decide +kernel
theorem dX6_gathers_113 : decode cX6_gathers 113 = .ok (.goto (-66), 3) := by decide +kernel
theorem dX6_gathers_116 : decode cX6_gathers 116 = .ok (.iinc 1 1, 3) := by decide +kernel
theorem dX6_gathers_119 : decode cX6_gathers 119 = .ok (.goto (-82), 3) := by decide +kernel
theorem dX6_gathers_122 : decode cX6_gathers 122 = .ok (.return_, 1) := by decide +kernel
theorem dX6_joins_0 : decode cX6_joins 0 = .ok (.iload_n 1, 1) := by decide +kernel
theorem dX6_joins_1 : decode cX6_joins 1 = .ok (.iload_n 2, 1) := by decide +kernel
theorem dX6_joins_2 : decode cX6_joins 2 = .ok (.if_icmp .ge 7, 3) := by decide +kernel
theorem dX6_joins_5 : decode cX6_joins 5 = .ok (.iload_n 1, 1) := by decide +kernel
theorem dX6_joins_6 : decode cX6_joins 6 = .ok (.goto 4, 3) := by decide +kernel
theorem dX6_joins_9 : decode cX6_joins 9 = .ok (.iload_n 2, 1) := by decide +kernel
theorem dX6_joins_10 : decode cX6_joins 10 = .ok (.istore_n 3, 1) := by decide +kernel
theorem dX6_joins_11 : decode cX6_joins 11 = .ok (.iconst 0, 1) := by decide +kernel
theorem dX6_joins_12 : decode cX6_joins 12 = .ok (.istore 4, 2) := by decide +kernel
theorem dX6_joins_14 : decode cX6_joins 14 = .ok (.iload 4, 2) := by decide +kernel
theorem dX6_joins_16 : decode cX6_joins 16 = .ok (.aload_n 0, 1) := by decide +kernel
theorem dX6_joins_17 : decode cX6_joins 17 = .ok (.getfield 99, 3) := by decide +kernel
theorem dX6_joins_20 : decode cX6_joins 20 = .ok (.if_icmp .ge 49, 3) := by decide +kernel
theorem dX6_joins_23 : decode cX6_joins 23 = .ok (.aload_n 0, 1) := by decide +kernel
theorem dX6_joins_24 : decode cX6_joins 24 = .ok (.getfield 93, 3) := by decide +kernel
theorem dX6_joins_27 : decode cX6_joins 27 = .ok (.iload 4, 2) := by decide +kernel
theorem dX6_joins_29 : decode cX6_joins 29 = .ok (.aload_n 0, 1) := by decide +kernel
theorem dX6_joins_30 : decode cX6_joins 30 = .ok (.getfield 93, 3) := by decide +kernel
theorem dX6_joins_33 : decode cX6_joins 33 = .ok (.iload 4, 2) := by decide +kernel
theorem dX6_joins_35 : decode cX6_joins 35 = .ok (.iaload, 1) := by decide +kernel
theorem dX6_joins_36 : decode cX6_joins 36 = .ok (.iload_n 1, 1) := by decide +kernel
theorem dX6_joins_37 : decode cX6_joins 37 = .ok (.if_icmp .eq 14, 3) := by decide +kernel
theorem dX6_joins_40 : decode cX6_joins 40 = .ok (.aload_n 0, 1) := by decide +kernel
theorem dX6_joins_41 : decode cX6_joins 41 = .ok (.getfield 93, 3) := by decide +kernel
theorem dX6_joins_44 : decode cX6_joins 44 = .ok (.iload 4, 2) := by decide +kernel
theorem dX6_joins_46 : decode cX6_joins 46 = .ok (.iaload, 1) := by decide +kernel
theorem dX6_joins_47 : decode cX6_joins 47 = .ok (.iload_n 2, 1) := by decide +kernel
theorem dX6_joins_48 : decode cX6_joins 48 = .ok (.if_icmp .ne 7, 3) := by decide +kernel
theorem dX6_joins_51 : decode cX6_joins 51 = .ok (.iload_n 3, 1) := by decide +kernel
theorem dX6_joins_52 : decode cX6_joins 52 = .ok (.goto 10, 3) := by decide +kernel
theorem dX6_joins_55 : decode cX6_joins 55 = .ok (.aload_n 0, 1) := by decide +kernel
theorem dX6_joins_56 : decode cX6_joins 56 = .ok (.getfield 93, 3) := by decide +kernel
theorem dX6_joins_59 : decode cX6_joins 59 = .ok (.iload 4, 2) := by decide +kernel
theorem dX6_joins_61 : decode cX6_joins 61 = .ok (.iaload, 1) := by decide +kernel
theorem dX6_joins_62 : decode cX6_joins 62 = .ok (.iastore, 1) := by decide +kernel
theorem dX6_joins_63 : decode cX6_joins 63 = .ok (.iinc 4 1, 3) := by decide +kernel
theorem dX6_joins_66 : decode cX6_joins 66 = .ok (.goto (-52), 3) := by decide +kernel
theorem dX6_joins_69 : decode cX6_joins 69 = .ok (.return_, 1) := by decide +kernel
theorem dX6_heaps_0 : decode cX6_heaps 0 = .ok (.aload_n 0, 1) := by decide +kernel
theorem dX6_heaps_1 : decode cX6_heaps 1 = .ok (.invokevirtual 204, 3) := by decide +kernel
theorem dX6_heaps_4 : decode cX6_heaps 4 = .ok (.iconst 0, 1) := by decide +kernel
theorem dX6_heaps_5 : decode cX6_heaps 5 = .ok (.istore_n 1, 1) := by decide +kernel
theorem dX6_heaps_6 : decode cX6_heaps 6 = .ok (.iconst 0, 1) := by decide +kernel
theorem dX6_heaps_7 : decode cX6_heaps 7 = .ok (.istore_n 2, 1) := by decide +kernel
theorem dX6_heaps_8 : decode cX6_heaps 8 = .ok (.iload_n 2, 1) := by decide +kernel
theorem dX6_heaps_9 : decode cX6_heaps 9 = .ok (.aload_n 0, 1) := by decide +kernel
theorem dX6_heaps_10 : decode cX6_heaps 10 = .ok (.getfield 99, 3) := by decide +kernel
theorem dX6_heaps_13 : decode cX6_heaps 13 = .ok (.if_icmp .ge 27, 3) := by decide +kernel
theorem dX6_heaps_16 : decode cX6_heaps 16 = .ok (.iload_n 1, 1) := by decide +kernel
theorem dX6_heaps_17 : decode cX6_heaps 17 = .ok (.aload_n 0, 1) := by decide +kernel
theorem dX6_heaps_18 : decode cX6_heaps 18 = .ok (.getfield 93, 3) := by decide +kernel
theorem dX6_heaps_21 : decode cX6_heaps 21 = .ok (.iload_n 2, 1) := by decide +kernel
theorem dX6_heaps_22 : decode cX6_heaps 22 = .ok (.iaload, 1) := by decide +kernel
theorem dX6_heaps_23 : decode cX6_heaps 23 = .ok (.iload_n 2, 1) := by decide +kernel
theorem dX6_heaps_24 : decode cX6_heaps 24 = .ok (.if_icmp .ne 7, 3) := by decide +kernel
theorem dX6_heaps_27 : decode cX6_heaps 27 = .ok (.iconst 1, 1) := by decide +kernel
theorem dX6_heaps_28 : decode cX6_heaps 28 = .ok (.goto 4, 3) := by decide +kernel
theorem dX6_heaps_31 : decode cX6_heaps 31 = .ok (.iconst 0, 1) := by decide +kernel
theorem dX6_heaps_32 : decode cX6_heaps 32 = .ok (.iadd, 1) := by decide +kernel
theorem dX6_heaps_33 : decode cX6_heaps 33 = .ok (.istore_n 1, 1) := by decide +kernel
theorem dX6_heaps_34 : decode cX6_heaps 34 = .ok (.iinc 2 1, 3) := by decide +kernel
theorem dX6_heaps_37 : decode cX6_heaps 37 = .ok (.goto (-29), 3) := by decide +kernel
theorem dX6_heaps_40 : decode cX6_heaps 40 = .ok (.iload_n 1, 1) := by decide +kernel
theorem dX6_heaps_41 : decode cX6_heaps 41 = .ok (.ireturn, 1) := by decide +kernel
theorem dX6_heap_0 : decode cX6_heap 0 = .ok (.aload_n 0, 1) := by decide +kernel
theorem dX6_heap_1 : decode cX6_heap 1 = .ok (.iload_n 1, 1) := by decide +kernel
theorem dX6_heap_2 : decode cX6_heap 2 = .ok (.invokevirtual 113, 3) := by decide +kernel
theorem dX6_heap_5 : decode cX6_heap 5 = .ok (.ifCond .ne 5, 3) := by decide +kernel
theorem dX6_heap_8 : decode cX6_heap 8 = .ok (.iconst (-1), 1) := by decide +kernel
theorem dX6_heap_9 : decode cX6_heap 9 = .ok (.ireturn, 1) := by decide +kernel
theorem dX6_heap_10 : decode cX6_heap 10 = .ok (.aload_n 0, 1) := by decide +kernel
theorem dX6_heap_11 : decode cX6_heap 11 = .ok (.invokevirtual 204, 3) := by decide +kernel
theorem dX6_heap_14 : decode cX6_heap 14 = .ok (.aload_n 0, 1) := by decide +kernel
theorem dX6_heap_15 : decode cX6_heap 15 = .ok (.getfield 93, 3) := by decide +kernel
theorem dX6_heap_18 : decode cX6_heap 18 = .ok (.iload_n 1, 1) := by decide +kernel
theorem dX6_heap_19 : decode cX6_heap 19 = .ok (.iaload, 1) := by decide +kernel
theorem dX6_heap_20 : decode cX6_heap 20 = .ok (.ireturn, 1) := by decide +kernel
theorem dX6_spotWith_0 : decode cX6_spotWith 0 = .ok (.iconst (-1), 1) := by decide +kernel
theorem dX6_spotWith_1 : decode cX6_spotWith 1 = .ok (.istore_n 3, 1) := by decide +kernel
theorem dX6_spotWith_2 : decode cX6_spotWith 2 = .ok (.bipush 16, 2) := by decide +kernel
theorem dX6_spotWith_4 : decode cX6_spotWith 4 = .ok (.iload_n 1, 1) := by decide +kernel
theorem dX6_spotWith_5 : decode cX6_spotWith 5 = .ok (.imul, 1) := by decide +kernel
theorem dX6_spotWith_6 : decode cX6_spotWith 6 = .ok (.istore 4, 2) := by decide +kernel
theorem dX6_spotWith_8 : decode cX6_spotWith 8 = .ok (.iload 4, 2) := by decide +kernel
theorem dX6_spotWith_10 : decode cX6_spotWith 10 = .ok (.bipush 16, 2) := by decide +kernel
theorem dX6_spotWith_12 : decode cX6_spotWith 12 = .ok (.iload_n 1, 1) := by decide +kernel
theorem dX6_spotWith_13 : decode cX6_spotWith 13 = .ok (.imul, 1) := by decide +kernel
theorem dX6_spotWith_14 : decode cX6_spotWith 14 = .ok (.aload_n 0, 1) := by decide +kernel
theorem dX6_spotWith_15 : decode cX6_spotWith 15 = .ok (.getfield 41, 3) := by decide +kernel
theorem dX6_spotWith_18 : decode cX6_spotWith 18 = .ok (.iload_n 1, 1) := by decide +kernel
theorem dX6_spotWith_19 : decode cX6_spotWith 19 = .ok (.iaload, 1) := by decide +kernel
theorem dX6_spotWith_20 : decode cX6_spotWith 20 = .ok (.iadd, 1) := by decide +kernel
theorem dX6_spotWith_21 : decode cX6_spotWith 21 = .ok (.if_icmp .ge 27, 3) := by decide +kernel
theorem dX6_spotWith_24 : decode cX6_spotWith 24 = .ok (.aload_n 0, 1) := by decide +kernel
theorem dX6_spotWith_25 : decode cX6_spotWith 25 = .ok (.getfield 44, 3) := by decide +kernel
theorem dX6_spotWith_28 : decode cX6_spotWith 28 = .ok (.iload 4, 2) := by decide +kernel
theorem dX6_spotWith_30 : decode cX6_spotWith 30 = .ok (.iaload, 1) := by decide +kernel
theorem dX6_spotWith_31 : decode cX6_spotWith 31 = .ok (.iload_n 2, 1) := by decide +kernel
theorem dX6_spotWith_32 : decode cX6_spotWith 32 = .ok (.if_icmp .ne 8, 3) := by decide +kernel
theorem dX6_spotWith_35 : decode cX6_spotWith 35 = .ok (.iload 4, 2) := by decide +kernel
theorem dX6_spotWith_37 : decode cX6_spotWith 37 = .ok (.goto 4, 3) := by decide +kernel
theorem dX6_spotWith_40 : decode cX6_spotWith 40 = .ok (.iload_n 3, 1) := by decide +kernel
theorem dX6_spotWith_41 : decode cX6_spotWith 41 = .ok (.istore_n 3, 1) := by decide +kernel
theorem dX6_spotWith_42 : decode cX6_spotWith 42 = .ok (.iinc 4 1, 3) := by decide +kernel
theorem dX6_spotWith_45 : decode cX6_spotWith 45 = .ok (.goto (-37), 3) := by decide +kernel
theorem dX6_spotWith_48 : decode cX6_spotWith 48 = .ok (.iload_n 3, 1) := by decide +kernel
theorem dX6_spotWith_49 : decode cX6_spotWith 49 = .ok (.ireturn, 1) := by decide +kernel
theorem dX6_toldBy_0 : decode cX6_toldBy 0 = .ok (.iconst (-1), 1) := by decide +kernel
theorem dX6_toldBy_1 : decode cX6_toldBy 1 = .ok (.istore_n 3, 1) := by decide +kernel
theorem dX6_toldBy_2 : decode cX6_toldBy 2 = .ok (.iconst 1, 1) := by decide +kernel
theorem dX6_toldBy_3 : decode cX6_toldBy 3 = .ok (.istore 4, 2) := by decide +kernel
theorem dX6_toldBy_5 : decode cX6_toldBy 5 = .ok (.iload 4, 2) := by decide +kernel
theorem dX6_toldBy_7 : decode cX6_toldBy 7 = .ok (.bipush 100, 2) := by decide +kernel
theorem dX6_toldBy_9 : decode cX6_toldBy 9 = .ok (.if_icmp .ge 99, 3) := by decide +kernel
theorem dX6_toldBy_12 : decode cX6_toldBy 12 = .ok (.aload_n 0, 1) := by decide +kernel
theorem dX6_toldBy_13 : decode cX6_toldBy 13 = .ok (.iload_n 1, 1) := by decide +kernel
theorem dX6_toldBy_14 : decode cX6_toldBy 14 = .ok (.iload 4, 2) := by decide +kernel
theorem dX6_toldBy_16 : decode cX6_toldBy 16 = .ok (.invokevirtual 207, 3) := by decide +kernel
theorem dX6_toldBy_19 : decode cX6_toldBy 19 = .ok (.istore 5, 2) := by decide +kernel
theorem dX6_toldBy_21 : decode cX6_toldBy 21 = .ok (.aload_n 0, 1) := by decide +kernel
theorem dX6_toldBy_22 : decode cX6_toldBy 22 = .ok (.iload_n 2, 1) := by decide +kernel
theorem dX6_toldBy_23 : decode cX6_toldBy 23 = .ok (.iload 4, 2) := by decide +kernel
theorem dX6_toldBy_25 : decode cX6_toldBy 25 = .ok (.invokevirtual 207, 3) := by decide +kernel
theorem dX6_toldBy_28 : decode cX6_toldBy 28 = .ok (.istore 6, 2) := by decide +kernel
theorem dX6_toldBy_30 : decode cX6_toldBy 30 = .ok (.iload 5, 2) := by decide +kernel
theorem dX6_toldBy_32 : decode cX6_toldBy 32 = .ok (.ifCond .lt 7, 3) := by decide +kernel
theorem dX6_toldBy_35 : decode cX6_toldBy 35 = .ok (.iconst 1, 1) := by decide +kernel
theorem dX6_toldBy_36 : decode cX6_toldBy 36 = .ok (.goto 4, 3) := by decide +kernel
theorem dX6_toldBy_39 : decode cX6_toldBy 39 = .ok (.iconst 0, 1) := by decide +kernel
theorem dX6_toldBy_40 : decode cX6_toldBy 40 = .ok (.iload 6, 2) := by decide +kernel
theorem dX6_toldBy_42 : decode cX6_toldBy 42 = .ok (.ifCond .lt 7, 3) := by decide +kernel
theorem dX6_toldBy_45 : decode cX6_toldBy 45 = .ok (.iconst 1, 1) := by decide +kernel
theorem dX6_toldBy_46 : decode cX6_toldBy 46 = .ok (.goto 4, 3) := by decide +kernel
theorem dX6_toldBy_49 : decode cX6_toldBy 49 = .ok (.iconst 0, 1) := by decide +kernel
theorem dX6_toldBy_50 : decode cX6_toldBy 50 = .ok (.if_icmp .eq 6, 3) := by decide +kernel
theorem dX6_toldBy_53 : decode cX6_toldBy 53 = .ok (.iload 4, 2) := by decide +kernel
theorem dX6_toldBy_55 : decode cX6_toldBy 55 = .ok (.ireturn, 1) := by decide +kernel
theorem dX6_toldBy_56 : decode cX6_toldBy 56 = .ok (.iload_n 3, 1) := by decide +kernel
theorem dX6_toldBy_57 : decode cX6_toldBy 57 = .ok (.ifCond .ge 45, 3) := by decide +kernel
theorem dX6_toldBy_60 : decode cX6_toldBy 60 = .ok (.iload 5, 2) := by decide +kernel
theorem dX6_toldBy_62 : decode cX6_toldBy 62 = .ok (.ifCond .lt 40, 3) := by decide +kernel
theorem dX6_toldBy_65 : decode cX6_toldBy 65 = .ok (.aload_n 0, 1) := by decide +kernel
theorem dX6_toldBy_66 : decode cX6_toldBy 66 = .ok (.getfield 47, 3) := by decide +kernel
theorem dX6_toldBy_69 : decode cX6_toldBy 69 = .ok (.iload 5, 2) := by decide +kernel
theorem dX6_toldBy_71 : decode cX6_toldBy 71 = .ok (.iaload, 1) := by decide +kernel
theorem dX6_toldBy_72 : decode cX6_toldBy 72 = .ok (.aload_n 0, 1) := by decide +kernel
theorem dX6_toldBy_73 : decode cX6_toldBy 73 = .ok (.getfield 47, 3) := by decide +kernel
theorem dX6_toldBy_76 : decode cX6_toldBy 76 = .ok (.iload 6, 2) := by decide +kernel
theorem dX6_toldBy_78 : decode cX6_toldBy 78 = .ok (.iaload, 1) := by decide +kernel
theorem dX6_toldBy_79 : decode cX6_toldBy 79 = .ok (.if_icmp .ne 20, 3) := by decide +kernel
theorem dX6_toldBy_82 : decode cX6_toldBy 82 = .ok (.aload_n 0, 1) := by decide +kernel
theorem dX6_toldBy_83 : decode cX6_toldBy 83 = .ok (.getfield 50, 3) := by decide +kernel
theorem dX6_toldBy_86 : decode cX6_toldBy 86 = .ok (.iload 5, 2) := by decide +kernel
theorem dX6_toldBy_88 : decode cX6_toldBy 88 = .ok (.iaload, 1) := by decide +kernel
theorem dX6_toldBy_89 : decode cX6_toldBy 89 = .ok (.aload_n 0, 1) := by decide +kernel
theorem dX6_toldBy_90 : decode cX6_toldBy 90 = .ok (.getfield 50, 3) := by decide +kernel
theorem dX6_toldBy_93 : decode cX6_toldBy 93 = .ok (.iload 6, 2) := by decide +kernel
theorem dX6_toldBy_95 : decode cX6_toldBy 95 = .ok (.iaload, 1) := by decide +kernel
theorem dX6_toldBy_96 : decode cX6_toldBy 96 = .ok (.if_icmp .eq 6, 3) := by decide +kernel
theorem dX6_toldBy_99 : decode cX6_toldBy 99 = .ok (.iload 4, 2) := by decide +kernel
theorem dX6_toldBy_101 : decode cX6_toldBy 101 = .ok (.istore_n 3, 1) := by decide +kernel
theorem dX6_toldBy_102 : decode cX6_toldBy 102 = .ok (.iinc 4 1, 3) := by decide +kernel
theorem dX6_toldBy_105 : decode cX6_toldBy 105 = .ok (.goto (-100), 3) := by decide +kernel
theorem dX6_toldBy_108 : decode cX6_toldBy 108 = .ok (.iload_n 3, 1) := by decide +kernel
theorem dX6_toldBy_109 : decode cX6_toldBy 109 = .ok (.ireturn, 1) := by decide +kernel
theorem dX6_about_0 : decode cX6_about 0 = .ok (.iload_n 1, 1) := by decide +kernel
theorem dX6_about_1 : decode cX6_about 1 = .ok (.bipush 20, 2) := by decide +kernel
theorem dX6_about_3 : decode cX6_about 3 = .ok (.bipush 19, 2) := by decide +kernel
theorem dX6_about_5 : decode cX6_about 5 = .ok (.aload_n 0, 1) := by decide +kernel
theorem dX6_about_6 : decode cX6_about 6 = .ok (.getfield 99, 3) := by decide +kernel
theorem dX6_about_9 : decode cX6_about 9 = .ok (.iadd, 1) := by decide +kernel
theorem dX6_about_10 : decode cX6_about 10 = .ok (.invokestatic 102, 3) := by decide +kernel
theorem dX6_about_13 : decode cX6_about 13 = .ok (.ifCond .eq 13, 3) := by decide +kernel
theorem dX6_about_16 : decode cX6_about 16 = .ok (.aload_n 0, 1) := by decide +kernel
theorem dX6_about_17 : decode cX6_about 17 = .ok (.getfield 7, 3) := by decide +kernel
theorem dX6_about_20 : decode cX6_about 20 = .ok (.iload_n 1, 1) := by decide +kernel
theorem dX6_about_21 : decode cX6_about 21 = .ok (.bipush 20, 2) := by decide +kernel
theorem dX6_about_23 : decode cX6_about 23 = .ok (.isub, 1) := by decide +kernel
theorem dX6_about_24 : decode cX6_about 24 = .ok (.iaload, 1) := by decide +kernel
theorem dX6_about_25 : decode cX6_about 25 = .ok (.ireturn, 1) := by decide +kernel
theorem dX6_about_26 : decode cX6_about 26 = .ok (.iload_n 1, 1) := by decide +kernel
theorem dX6_about_27 : decode cX6_about 27 = .ok (.tableswitch 69 0 8 #[49, 69, 69, 69, 69, 69, 54, 59, 64], 49) := by decide +kernel
theorem dX6_about_76 : decode cX6_about 76 = .ok (.aload_n 0, 1) := by decide +kernel
theorem dX6_about_77 : decode cX6_about 77 = .ok (.getfield 99, 3) := by decide +kernel
theorem dX6_about_80 : decode cX6_about 80 = .ok (.ireturn, 1) := by decide +kernel
theorem dX6_about_81 : decode cX6_about 81 = .ok (.aload_n 0, 1) := by decide +kernel
theorem dX6_about_82 : decode cX6_about 82 = .ok (.getfield 28, 3) := by decide +kernel
theorem dX6_about_85 : decode cX6_about 85 = .ok (.ireturn, 1) := by decide +kernel
theorem dX6_about_86 : decode cX6_about 86 = .ok (.aload_n 0, 1) := by decide +kernel
theorem dX6_about_87 : decode cX6_about 87 = .ok (.getfield 32, 3) := by decide +kernel
theorem dX6_about_90 : decode cX6_about 90 = .ok (.ireturn, 1) := by decide +kernel
theorem dX6_about_91 : decode cX6_about 91 = .ok (.aload_n 0, 1) := by decide +kernel
theorem dX6_about_92 : decode cX6_about 92 = .ok (.getfield 35, 3) := by decide +kernel
theorem dX6_about_95 : decode cX6_about 95 = .ok (.ireturn, 1) := by decide +kernel
theorem dX6_about_96 : decode cX6_about 96 = .ok (.iload_n 1, 1) := by decide +kernel
theorem dX6_about_97 : decode cX6_about 97 = .ok (.iconst 1, 1) := by decide +kernel
theorem dX6_about_98 : decode cX6_about 98 = .ok (.iconst 5, 1) := by decide +kernel
theorem dX6_about_99 : decode cX6_about 99 = .ok (.invokestatic 102, 3) := by decide +kernel
theorem dX6_about_102 : decode cX6_about 102 = .ok (.ifCond .eq 14, 3) := by decide +kernel
theorem dX6_about_105 : decode cX6_about 105 = .ok (.aload_n 0, 1) := by decide +kernel
theorem dX6_about_106 : decode cX6_about 106 = .ok (.getfield 25, 3) := by decide +kernel
theorem dX6_about_109 : decode cX6_about 109 = .ok (.iload_n 1, 1) := by decide +kernel
theorem dX6_about_110 : decode cX6_about 110 = .ok (.iconst 1, 1) := by decide +kernel
theorem dX6_about_111 : decode cX6_about 111 = .ok (.isub, 1) := by decide +kernel
theorem dX6_about_112 : decode cX6_about 112 = .ok (.iaload, 1) := by decide +kernel
theorem dX6_about_113 : decode cX6_about 113 = .ok (.goto 4, 3) := by decide +kernel
theorem dX6_about_116 : decode cX6_about 116 = .ok (.iconst (-1), 1) := by decide +kernel
theorem dX6_about_117 : decode cX6_about 117 = .ok (.ireturn, 1) := by decide +kernel
end
section
/-! ===== the memory of the two objects, in whole numbers, at places counted from the law's start ===== -/
abbrev pV : Type := Int ⊕ Int ⊕ Nat
abbrev pMem : Type := (Nat → Nat → Int) × (Nat → Nat → Int) × (Nat → Nat → Option Nat)
abbrev pShp : Type := Nat ⊕ (Nat × Nat)
/-- class numbers, their slots, array classes, the first place, the script's cell, the static row's cell -/
abbrev pG : Type := (Nat → ClassId) × (Nat → Nat → Nat) × (Nat → ClassId) × Nat × Nat × Nat
def pad (g : pG) (k : Nat) : Nat := if k = 1000000 then g.2.2.2.2.1 else if k = 1000001 then g.2.2.2.2.2 else g.2.2.2.1 + k
def prv (g : pG) : pV → Value
  | .inl z => .int (Int32.ofInt z)
  | .inr (.inl z) => .long (Int64.ofInt z)
  | .inr (.inr k) => .ref (pad g k)
def mI (M : pMem) (a i : Nat) : Int := M.1 a i
def mL (M : pMem) (a i : Nat) : Int := M.2.1 a i
def mR (M : pMem) (a i : Nat) : Option Nat := M.2.2 a i
def stI (M : pMem) (a i : Nat) (v : Int) : pMem := (fun b j => if b = a ∧ j = i then v else M.1 b j, M.2.1, M.2.2)
def stL (M : pMem) (a i : Nat) (v : Int) : pMem := (M.1, fun b j => if b = a ∧ j = i then v else M.2.1 b j, M.2.2)
def stR (M : pMem) (a i : Nat) (v : Nat) : pMem := (M.1, M.2.1, fun b j => if b = a ∧ j = i then some v else M.2.2 b j)
def zero (M : pMem) (a : Nat) : pMem := (fun b j => if b = a then 0 else M.1 b j, fun b j => if b = a then 0 else M.2.1 b j, fun b j => if b = a then none else M.2.2 b j)
/-- the kind of field k of class ci: 0 int, 1 long, 2 boolean, 3 a reference -/
def pfk (ci k : Nat) : Nat := match ci with
  | 0 => if k = 2 then 0 else 3
  | 1 => if k < 7 then 0 else if k = 7 then 1 else if k = 8 then 2 else 3
  | 2 => 3
  | 3 => 0
  | 4 => if k = 4 then 0 else 3
  | 5 => if k < 12 then 3 else 0
  | _ => if k = 10 then 2 else if k = 0 ∨ k = 7 ∨ k = 8 ∨ k = 9 ∨ k = 17 ∨ k = 21 ∨ k = 28 ∨ k = 29 ∨ k = 30 ∨ k = 34 ∨ k = 35 ∨ k = 36 then 0 else 3
def pnF (ci : Nat) : Nat := match ci with
  | 0 => 3
  | 1 => 19
  | 2 => 3
  | 3 => 3
  | 4 => 5
  | 5 => 16
  | _ => 39
abbrev classes : List vw_C := [(RX0, TX0, 3), (RX1, TX1, 19), (RX2, TX2, 3), (RX3, TX3, 3), (RX4, TX4, 5), (RX5, TX5, 16), (RX6, TX6, 39)]
def pty (ci : Nat) : Nat → FieldType := match ci with
  | 0 => tyX0
  | 1 => tyX1
  | 2 => tyX2
  | 3 => tyX3
  | 4 => tyX4
  | 5 => tyX5
  | _ => tyX6
def pfv (g : pG) (ci : Nat) (M : pMem) (a k : Nat) : Value := match pfk ci k with
  | 1 => .long (Int64.ofInt (mL M a k))
  | 3 => va_rf ((mR M a k).map (pad g))
  | _ => .int (Int32.ofInt (mI M a k))
def parr (g : pG) (t : Nat) (M : pMem) (a : Nat) : (Nat → Int32) ⊕ (Nat → Int64) ⊕ (Nat → UInt32) ⊕ (Nat → UInt64) ⊕ (Nat → Option Nat) := match t with
  | 0 => .inl (fun j => Int32.ofInt (mI M a j))
  | 1 => .inr (.inl (fun j => Int64.ofInt (mL M a j)))
  | 2 => .inl (fun j => Int32.ofInt (mI M a j))
  | _ => .inr (.inr (.inr (.inr (fun j => (mR M a j).map (pad g)))))
def pent (g : pG) (M : pMem) (sh : pShp) (a : Nat) : va_E := match sh with
  | .inl ci => .inr (ci, (List.range (pnF ci)).map (pfv g ci M a))
  | .inr tn => .inl (g.2.2.1 tn.1, tn.2, parr g tn.1 M a)
def pwd (g : pG) (S : List pShp) (M : pMem) : va_W := S.mapIdx (fun a sh => (pad g a, pent g M sh a))
def pA (g : pG) : Nat → Prop := fun q => g.2.2.2.1 ≤ q
def pRel (g : pG) (S : List pShp) (M : pMem) (H : Heap) : Prop := va_P (g.1, g.2.1) classes (pwd g S M) H ∧ H.size = g.2.2.2.1 + S.length ∧ S.length ≤ 1000
def ptys (g : pG) : List (ClassId × FieldType) := [(g.2.2.1 0, .int), (g.2.2.1 1, .long), (g.2.2.1 2, .boolean), (g.2.2.1 3, .object "PaperKinds$Sheet"), (g.2.2.1 4, .object "PaperKinds$Kind")]
def pK (g : pG) (U : State) : Prop := va_K (g.1, g.2.1) classes (ptys g) U
def pSt (g : pG) (U : State) (H : Heap) : Prop := va_Z "PaperKinds" "BOX_UNITS" "[J" (.ref g.2.2.2.2.2) (pA g) U H ∧ va_T .long g.2.2.2.2.2 8 (fun j => .long (Int64.ofInt (17 ^ (7 - j)))) (pA g) U H
def pNM : List (String × Nat × MethodName × String) := [("PaperKinds", 27, yX1_init, "PaperKinds"), ("PaperKinds", 34, yX2_init, "PaperKinds"), ("PaperKinds", 41, yX3_init, "PaperKinds"), ("PaperKinds", 52, yX0_init, "PaperKinds"), ("PaperKinds$Layer", 114, yX5_acrossOf, "PaperKinds"), ("PaperKinds$Layer", 118, yX5_downOf, "PaperKinds")]
def pNw (U : State) : Prop := (∀ q ∈ pNM, va_Nw (.methodLinkNest q.1 q.2.1 q.2.2.1 q.2.2.2) U) ∧ va_Nw (.fieldLinkNest "PaperKinds$Layer" 109 "PaperKinds" "BOX_UNITS" "[J" "PaperKinds") U ∧ va_AO "PaperKinds$Sheet" U ∧ va_AO "PaperKinds$Kind" U
def pgood : List Cond := lw_tbl.filter goodWord
def pPc (g : pG) (S : List pShp) (M : pMem) (av : List pV) : Array Value → State → Prop := fun v U => v = (av.map (prv g)).toArray ∧ pRel g S M U.heap ∧ pK g U ∧ pSt g U U.heap ∧ pNw U
def pQc (g : pG) (S' : List pShp) (Q : Option pV → pMem → Prop) : Array Value → State → Outcome → State → Prop := fun _ st o t => ∃ (r : Option pV) (M' : pMem), o = .returned (r.map (prv g)) ∧ Q r M' ∧ pRel g S' M' t.heap ∧ va_F (pA g) st t
/-- a method's contract -/
def pCn (g : pG) (d k n : Nat) (y : MethodName) (cc : ByteArray) (nL : Nat) (ret : Option FieldType) (S S' : List pShp) (M : pMem) (av : List pV) (Q : Option pV → pMem → Prop) : Prop :=
  ∀ l : Launch, Met l y (.code y cc nL ret :: pgood) { frames := d, cells := k, slots := n, locals := 40 * d } (pPc g S M av) (pQc g S' Q) k n (pA g)
abbrev pX : Type := Program × Launch × Env × Room × State × MethodId × Array Value × List Frame × Method × Code
def pCx (g : pG) (y : MethodName) (cc : ByteArray) (nL : Nat) (ret : Option FieldType) (d k n : Nat) : pX → Prop := fun (p, l, e, R, s, m, args, below, meth, c) =>
  p.tables.exec = Jvm.exec ∧ c.code = cc ∧ c.maxLocals = nL ∧ s.vm.findClass y.cls = some m.cls ∧ (∀ w ∈ pgood, w.before args s = true) ∧ pK g s ∧ pSt g s s.heap ∧ pNw s ∧ g.2.2.2.1 ≤ s.heap.size ∧ meth.locks = false ∧ meth.sig.returnType = ret ∧ meth.name = y.name ∧ d ≤ R.frames ∧ 40 * d ≤ R.locals ∧ k ≤ R.cells ∧ n ≤ R.slots
def pLk (g : pG) (nL : Nat) (ls : Array Slot) (L : List (Option pV)) : Prop := ls.size = nL ∧ lv_wf ls ∧ ∀ (i : Nat) (v : pV), L[i]? = some (some v) → ls[i]? = some (.val (prv g v))
def pE (g : pG) (nL : Nat) (X : pX) (Qf : State → Prop) (S : List pShp) (M : pMem) (cs sl pc : Nat) (L : List (Option pV)) (st : List pV) : Prop :=
  match X with
  | (p, l, e, R, s, m, args, below, meth, c) => ∀ (H : Heap) (locs : List Loc) (ls : Array Slot), pRel g S M H → va_S (pA g) s.heap H locs → pLk g nL ls L → W p l e R s m args below meth c H locs cs sl Qf (F0 m pc ls (st.map (prv g)))
def pMQ (g : pG) (S' : List pShp) (Q : Option pV → pMem → Prop) (X : pX) (k n : Nat) : State → Prop := MQ X.2.2.2.2.2.2.2.1 (pQc g S' Q) X.2.2.2.2.2.2.1 X.2.2.2.2.1 k n (pA g)
/-! storing into locals -/
def pst (L : List (Option pV)) (i : Nat) (v : pV) : List (Option pV) := match i with
  | 0 => L.set 0 (some v)
  | j + 1 => match L[j]? with
    | some (some (.inr (.inl _))) => (L.set j none).set (j + 1) (some v)
    | _ => L.set (j + 1) (some v)
def pst2 (L : List (Option pV)) (i : Nat) (v : pV) : List (Option pV) := (pst L i v).set (i + 1) none
/-! the whole numbers that a machine's number holds -/
def i32 (z : Int) : Prop := -2147483648 ≤ z ∧ z < 2147483648
def i64 (z : Int) : Prop := -9223372036854775808 ≤ z ∧ z < 9223372036854775808
theorem i32_to {z : Int} (h : i32 z) : (Int32.ofInt z).toInt = z := by
  rw [Int32.toInt_ofInt]; unfold i32 at h; have e : (Int32.size : Int) = 4294967296 := rfl; exact Int.bmod_eq_of_le_mul_two (by omega) (by omega)
theorem i64_to {z : Int} (h : i64 z) : (Int64.ofInt z).toInt = z := by
  rw [Int64.toInt_ofInt]; unfold i64 at h; have e : (Int64.size : Int) = 18446744073709551616 := rfl; exact Int.bmod_eq_of_le_mul_two (by omega) (by omega)
theorem i32_lt {x y : Int} (hx : i32 x) (hy : i32 y) : Int32.ofInt x < Int32.ofInt y ↔ x < y := by
  rw [Int32.lt_iff_toInt_lt, i32_to hx, i32_to hy]
theorem i32_le {x y : Int} (hx : i32 x) (hy : i32 y) : Int32.ofInt x ≤ Int32.ofInt y ↔ x ≤ y := by
  rw [Int32.le_iff_toInt_le, i32_to hx, i32_to hy]
theorem i32_eq {x y : Int} (hx : i32 x) (hy : i32 y) : Int32.ofInt x = Int32.ofInt y ↔ x = y := by
  rw [← Int32.toInt_inj, i32_to hx, i32_to hy]
theorem i64_lt {x y : Int} (hx : i64 x) (hy : i64 y) : Int64.ofInt x < Int64.ofInt y ↔ x < y := by
  rw [Int64.lt_iff_toInt_lt, i64_to hx, i64_to hy]
theorem i64_eq {x y : Int} (hx : i64 x) (hy : i64 y) : Int64.ofInt x = Int64.ofInt y ↔ x = y := by
  rw [← Int64.toInt_inj, i64_to hx, i64_to hy]
theorem i32_0 : Int32.ofInt 0 = 0 := by decide +kernel
theorem i32_nI (n : Nat) : Int32.ofInt (n : Int) = nI n := Int32.ofInt_eq_ofNat
end
section
section PR
variable {g : pG} {y : MethodName} {cc : ByteArray} {nL : Nat} {ret : Option FieldType} {d k n : Nat} {X : pX} {Qf : State → Prop} {S : List pShp} {M : pMem} {cs sl pc : Nat} {L : List (Option pV)} {st : List pV}
theorem pst_get {L : List (Option pV)} {i : Nat} {v : pV} {j : Nat} {w : pV} (h : (pst L i v)[j]? = some (some w)) : (j = i ∧ w = v) ∨ (j ≠ i ∧ L[j]? = some (some w) ∧ ¬ (j + 1 = i ∧ (prv g w).category = 2)) := by
  unfold pst at h
  cases i with
  | zero =>
    simp only [List.getElem?_set] at h
    split at h
    · next q => subst q; split at h <;> simp_all
    · next q => right; exact ⟨fun e => q e.symm, h, by omega⟩
  | succ i =>
    dsimp only at h
    split at h
    · next z hz =>
      simp only [List.getElem?_set] at h
      split at h
      · next q => subst q; split at h <;> simp_all
      · next q =>
        split at h
        · next q2 => split at h <;> simp at h
        · next q2 => right; exact ⟨fun e => q e.symm, h, by omega⟩
    · next hz =>
      simp only [List.getElem?_set] at h
      split at h
      · next q => subst q; split at h <;> simp_all
      · next q =>
        right; refine ⟨fun e => q e.symm, h, fun e => ?_⟩
        have e1 : j = i := by omega
        subst e1
        rcases w with z | z | z
        · simp [prv, Value.category] at e
        · exact hz z h
        · simp [prv, Value.category] at e
def pLs (g : pG) (L : List (Option pV)) : List (Nat × Value) := (List.range L.length).filterMap (fun i => match L[i]? with
  | some (some v) => some (i, prv g v)
  | _ => none)
theorem pLs_mem {i : Nat} {w : Value} : (i, w) ∈ pLs g L ↔ ∃ v, L[i]? = some (some v) ∧ w = prv g v := by
  unfold pLs
  rw [List.mem_filterMap]
  constructor
  · rintro ⟨a, ha, h⟩
    split at h
    · next v hv => cases h; exact ⟨v, hv, rfl⟩
    · cases h
  · rintro ⟨v, hv, rfl⟩
    refine ⟨i, List.mem_range.mpr (List.getElem?_eq_some_iff.mp hv).1, ?_⟩
    rw [hv]
theorem pLk_has {ls : Array Slot} (h : pLk g nL ls L) : lv_has ls nL (pLs g L) := by
  refine ⟨h.1, h.2.1, fun q hq => ?_⟩
  obtain ⟨i, w⟩ := q
  obtain ⟨v, hv, rfl⟩ := pLs_mem.mp hq
  exact h.2.2 i v hv
theorem pLk_st1 {ls : Array Slot} {i : Nat} {v : pV} (h : pLk g nL ls L) (hi : i < nL) (hc : (prv g v).category = 1) : ∃ ls', storeLocals ls i (prv g v) = some ls' ∧ pLk g nL ls' (pst L i v) := by
  obtain ⟨ls', e1, h1, h2, h3⟩ := lv_store1 (pLk_has h) hi hc
  refine ⟨ls', e1, h1, h2, fun j w hw => ?_⟩
  rcases pst_get (g := g) hw with ⟨rfl, rfl⟩ | ⟨q1, q2, q3⟩
  · exact h3 (j, prv g w) List.mem_cons_self
  · refine h3 (j, prv g w) (List.mem_cons_of_mem _ (List.mem_filter.mpr ⟨pLs_mem.mpr ⟨w, q2, rfl⟩, ?_⟩))
    simp only [Bool.and_eq_true, Bool.not_eq_true', beq_eq_false_iff_ne, ne_eq]
    refine ⟨q1, ?_⟩
    cases hh : (j + 1 == i && (prv g w).category == 2) with
    | false => rfl
    | true => exact absurd (by simpa using hh) q3
theorem pLk_st2 {ls : Array Slot} {i : Nat} {v : pV} (h : pLk g nL ls L) (hi : i + 1 < nL) (hc : (prv g v).category = 2) : ∃ ls', storeLocals ls i (prv g v) = some ls' ∧ pLk g nL ls' (pst2 L i v) := by
  obtain ⟨ls', e1, h1, h2, h3⟩ := lv_store2 (pLk_has h) hi hc
  refine ⟨ls', e1, h1, h2, fun j w hw => ?_⟩
  unfold pst2 at hw
  rw [List.getElem?_set] at hw
  split at hw
  · split at hw <;> simp at hw
  · next hne =>
    rcases pst_get (g := g) hw with ⟨rfl, rfl⟩ | ⟨q1, q2, q3⟩
    · exact h3 (j, prv g w) List.mem_cons_self
    · refine h3 (j, prv g w) (List.mem_cons_of_mem _ (List.mem_filter.mpr ⟨pLs_mem.mpr ⟨w, q2, rfl⟩, ?_⟩))
      simp only [Bool.and_eq_true, Bool.not_eq_true', beq_eq_false_iff_ne, ne_eq]
      refine ⟨q1, fun e => hne e.symm, ?_⟩
      cases hh : (j + 1 == i && (prv g w).category == 2) with
      | false => rfl
      | true => exact absurd (by simpa using hh) q3
theorem e_iconst (C : pCx g y cc nL ret d k n X) {z : Int} (hd : decode cc pc = .ok (.iconst z, 1)) (kk : pE g nL X Qf S M cs sl (pc + 1) L (.inl z :: st))  : pE g nL X Qf S M cs sl pc L st := by
  obtain ⟨p, l, e, R, s, m, args, below, meth, c⟩ := X
  intro H locs ls hR hS hl
  exact lv_iconst C.1 C.2.1 hd rfl (kk H locs ls hR hS hl)
theorem e_bipush (C : pCx g y cc nL ret d k n X) {z : Int} (hd : decode cc pc = .ok (.bipush z, 2)) (kk : pE g nL X Qf S M cs sl (pc + 2) L (.inl z :: st)) (hv : (Int8.ofInt z).toInt32 = Int32.ofInt z := by decide +kernel) : pE g nL X Qf S M cs sl pc L st := by
  obtain ⟨p, l, e, R, s, m, args, below, meth, c⟩ := X
  intro H locs ls hR hS hl
  exact lv_bipush C.1 C.2.1 hd hv (kk H locs ls hR hS hl)
theorem e_sipush (C : pCx g y cc nL ret d k n X) {z : Int} (hd : decode cc pc = .ok (.sipush z, 3)) (kk : pE g nL X Qf S M cs sl (pc + 3) L (.inl z :: st)) (hv : (Int16.ofInt z).toInt32 = Int32.ofInt z := by decide +kernel) : pE g nL X Qf S M cs sl pc L st := by
  obtain ⟨p, l, e, R, s, m, args, below, meth, c⟩ := X
  intro H locs ls hR hS hl
  exact lv_sipush C.1 C.2.1 hd hv (kk H locs ls hR hS hl)
theorem e_lconst (C : pCx g y cc nL ret d k n X) {z : Fin 2} (v : Int) (hd : decode cc pc = .ok (.lconst z, 1)) (kk : pE g nL X Qf S M cs sl (pc + 1) L (.inr (.inl v) :: st)) (hv : Int64.ofNat (z : Nat) = Int64.ofInt v := by decide +kernel) : pE g nL X Qf S M cs sl pc L st := by
  obtain ⟨p, l, e, R, s, m, args, below, meth, c⟩ := X
  intro H locs ls hR hS hl
  exact lv_lconst C.1 C.2.1 hd hv (kk H locs ls hR hS hl)
theorem e_ldc (C : pCx g y cc nL ret d k n X) {i : Nat} (v : Int) {w : Int32} (hw : Cond.constant y.cls i w ∈ pgood) (hd : decode cc pc = .ok (.ldc i, 2)) (kk : pE g nL X Qf S M cs sl (pc + 2) L (.inl v :: st)) (hv : w = Int32.ofInt v := by decide +kernel) : pE g nL X Qf S M cs sl pc L st := by
  obtain ⟨p, l, e, R, s, m, args, below, meth, c⟩ := X
  intro H locs ls hR hS hl
  exact lv_ldc C.1 C.2.1 C.2.2.2.1 (C.2.2.2.2.1 _ hw) hd (by rw [hv]; exact kk H locs ls hR hS hl)
theorem e_ldc2 (C : pCx g y cc nL ret d k n X) {i : Nat} (v : Int) {w : Int64} (hw : Cond.constantLong y.cls i w ∈ pgood) (hd : decode cc pc = .ok (.ldc2_w i, 3)) (kk : pE g nL X Qf S M cs sl (pc + 3) L (.inr (.inl v) :: st)) (hv : w = Int64.ofInt v := by decide +kernel) : pE g nL X Qf S M cs sl pc L st := by
  obtain ⟨p, l, e, R, s, m, args, below, meth, c⟩ := X
  intro H locs ls hR hS hl
  exact lv_ldc2 C.1 C.2.1 C.2.2.2.1 (C.2.2.2.2.1 _ hw) hd (by rw [hv]; exact kk H locs ls hR hS hl)
theorem e_iload_n (C : pCx g y cc nL ret d k n X) {j : Fin 4} {z : Int} (hd : decode cc pc = .ok (.iload_n j, 1)) (h : L[(j : Nat)]? = some (some (.inl z))) (kk : pE g nL X Qf S M cs sl (pc + 1) L (.inl z :: st))  : pE g nL X Qf S M cs sl pc L st := by
  obtain ⟨p, l, e, R, s, m, args, below, meth, c⟩ := X
  intro H locs ls hR hS hl
  exact lv_iload_n C.1 C.2.1 hd rfl (hl.2.2 _ _ h) (kk H locs ls hR hS hl)
theorem e_iload (C : pCx g y cc nL ret d k n X) {j : Nat} {z : Int} (hd : decode cc pc = .ok (.iload j, 2)) (h : L[j]? = some (some (.inl z))) (kk : pE g nL X Qf S M cs sl (pc + 2) L (.inl z :: st))  : pE g nL X Qf S M cs sl pc L st := by
  obtain ⟨p, l, e, R, s, m, args, below, meth, c⟩ := X
  intro H locs ls hR hS hl
  exact lv_iload C.1 C.2.1 hd (hl.2.2 _ _ h) (kk H locs ls hR hS hl)
theorem e_lload_n (C : pCx g y cc nL ret d k n X) {j : Fin 4} {z : Int} (hd : decode cc pc = .ok (.lload_n j, 1)) (h : L[(j : Nat)]? = some (some (.inr (.inl z)))) (kk : pE g nL X Qf S M cs sl (pc + 1) L (.inr (.inl z) :: st))  : pE g nL X Qf S M cs sl pc L st := by
  obtain ⟨p, l, e, R, s, m, args, below, meth, c⟩ := X
  intro H locs ls hR hS hl
  exact lv_lload_n C.1 C.2.1 hd rfl (hl.2.2 _ _ h) (kk H locs ls hR hS hl)
theorem e_lload (C : pCx g y cc nL ret d k n X) {j : Nat} {z : Int} (hd : decode cc pc = .ok (.lload j, 2)) (h : L[j]? = some (some (.inr (.inl z)))) (kk : pE g nL X Qf S M cs sl (pc + 2) L (.inr (.inl z) :: st))  : pE g nL X Qf S M cs sl pc L st := by
  obtain ⟨p, l, e, R, s, m, args, below, meth, c⟩ := X
  intro H locs ls hR hS hl
  exact lv_lload C.1 C.2.1 hd (hl.2.2 _ _ h) (kk H locs ls hR hS hl)
theorem e_aload_n (C : pCx g y cc nL ret d k n X) {j : Fin 4} {z : Nat} (hd : decode cc pc = .ok (.aload_n j, 1)) (h : L[(j : Nat)]? = some (some (.inr (.inr z)))) (kk : pE g nL X Qf S M cs sl (pc + 1) L (.inr (.inr z) :: st))  : pE g nL X Qf S M cs sl pc L st := by
  obtain ⟨p, l, e, R, s, m, args, below, meth, c⟩ := X
  intro H locs ls hR hS hl
  exact lv_aload_n C.1 C.2.1 hd rfl (hl.2.2 _ _ h) (kk H locs ls hR hS hl)
theorem e_aload (C : pCx g y cc nL ret d k n X) {j : Nat} {z : Nat} (hd : decode cc pc = .ok (.aload j, 2)) (h : L[j]? = some (some (.inr (.inr z)))) (kk : pE g nL X Qf S M cs sl (pc + 2) L (.inr (.inr z) :: st))  : pE g nL X Qf S M cs sl pc L st := by
  obtain ⟨p, l, e, R, s, m, args, below, meth, c⟩ := X
  intro H locs ls hR hS hl
  exact lv_aload C.1 C.2.1 hd (hl.2.2 _ _ h) (kk H locs ls hR hS hl)
theorem pLk_of1 {ls : Array Slot} {i : Nat} {v : pV} (hs : lv_has ls nL ((i, prv g v) :: (pLs g L).filter (fun q => !(q.1 == i) && !(q.1 + 1 == i && q.2.category == 2)))) : pLk g nL ls (pst L i v) := by
  obtain ⟨h1, h2, h3⟩ := hs
  refine ⟨h1, h2, fun j w hw => ?_⟩
  rcases pst_get (g := g) hw with ⟨rfl, rfl⟩ | ⟨q1, q2, q3⟩
  · exact h3 (j, prv g w) List.mem_cons_self
  · refine h3 (j, prv g w) (List.mem_cons_of_mem _ (List.mem_filter.mpr ⟨pLs_mem.mpr ⟨w, q2, rfl⟩, ?_⟩))
    simp only [Bool.and_eq_true, Bool.not_eq_true', beq_eq_false_iff_ne, ne_eq]
    refine ⟨q1, ?_⟩
    cases hh : (j + 1 == i && (prv g w).category == 2) with
    | false => rfl
    | true => exact absurd (by simpa using hh) q3
theorem pLk_of2 {ls : Array Slot} {i : Nat} {v : pV} (hs : lv_has ls nL ((i, prv g v) :: (pLs g L).filter (fun q => !(q.1 == i) && (!(q.1 == i + 1) && !(q.1 + 1 == i && q.2.category == 2))))) : pLk g nL ls (pst2 L i v) := by
  obtain ⟨h1, h2, h3⟩ := hs
  refine ⟨h1, h2, fun j w hw => ?_⟩
  unfold pst2 at hw
  rw [List.getElem?_set] at hw
  split at hw
  · split at hw <;> simp at hw
  · next hne =>
    rcases pst_get (g := g) hw with ⟨rfl, rfl⟩ | ⟨q1, q2, q3⟩
    · exact h3 (j, prv g w) List.mem_cons_self
    · refine h3 (j, prv g w) (List.mem_cons_of_mem _ (List.mem_filter.mpr ⟨pLs_mem.mpr ⟨w, q2, rfl⟩, ?_⟩))
      simp only [Bool.and_eq_true, Bool.not_eq_true', beq_eq_false_iff_ne, ne_eq]
      refine ⟨q1, fun e => hne e.symm, ?_⟩
      cases hh : (j + 1 == i && (prv g w).category == 2) with
      | false => rfl
      | true => exact absurd (by simpa using hh) q3
theorem e_istore_n (C : pCx g y cc nL ret d k n X) {j : Fin 4} {z : Int} (hd : decode cc pc = .ok (.istore_n j, 1)) (kk : pE g nL X Qf S M cs sl (pc + 1) (pst L j (.inl z)) st) (h : (j : Nat) < nL := by decide) : pE g nL X Qf S M cs sl pc L (.inl z :: st) := by
  obtain ⟨p, l, e, R, s, m, args, below, meth, c⟩ := X
  intro H locs ls hR hS hl
  exact lv_istore_n C.1 C.2.1 hd rfl (pLk_has hl) h rfl (fun ls1 h1 => kk H locs ls1 hR hS (pLk_of1 (v := .inl z) h1))
theorem e_istore (C : pCx g y cc nL ret d k n X) {j : Nat} {z : Int} (hd : decode cc pc = .ok (.istore j, 2)) (kk : pE g nL X Qf S M cs sl (pc + 2) (pst L j (.inl z)) st) (h : j < nL := by decide) : pE g nL X Qf S M cs sl pc L (.inl z :: st) := by
  obtain ⟨p, l, e, R, s, m, args, below, meth, c⟩ := X
  intro H locs ls hR hS hl
  exact lv_istore C.1 C.2.1 hd (pLk_has hl) h rfl (fun ls1 h1 => kk H locs ls1 hR hS (pLk_of1 (v := .inl z) h1))
theorem e_lstore_n (C : pCx g y cc nL ret d k n X) {j : Fin 4} {z : Int} (hd : decode cc pc = .ok (.lstore_n j, 1)) (kk : pE g nL X Qf S M cs sl (pc + 1) (pst2 L j (.inr (.inl z))) st) (h : (j : Nat) + 1 < nL := by decide) : pE g nL X Qf S M cs sl pc L (.inr (.inl z) :: st) := by
  obtain ⟨p, l, e, R, s, m, args, below, meth, c⟩ := X
  intro H locs ls hR hS hl
  exact lv_lstore_n C.1 C.2.1 hd rfl (pLk_has hl) h rfl (fun ls1 h1 => kk H locs ls1 hR hS (pLk_of2 (v := .inr (.inl z)) h1))
theorem e_lstore (C : pCx g y cc nL ret d k n X) {j : Nat} {z : Int} (hd : decode cc pc = .ok (.lstore j, 2)) (kk : pE g nL X Qf S M cs sl (pc + 2) (pst2 L j (.inr (.inl z))) st) (h : j + 1 < nL := by decide) : pE g nL X Qf S M cs sl pc L (.inr (.inl z) :: st) := by
  obtain ⟨p, l, e, R, s, m, args, below, meth, c⟩ := X
  intro H locs ls hR hS hl
  exact lv_lstore C.1 C.2.1 hd (pLk_has hl) h rfl (fun ls1 h1 => kk H locs ls1 hR hS (pLk_of2 (v := .inr (.inl z)) h1))
theorem e_astore_n (C : pCx g y cc nL ret d k n X) {j : Fin 4} {z : Nat} (hd : decode cc pc = .ok (.astore_n j, 1)) (kk : pE g nL X Qf S M cs sl (pc + 1) (pst L j (.inr (.inr z))) st) (h : (j : Nat) < nL := by decide) : pE g nL X Qf S M cs sl pc L (.inr (.inr z) :: st) := by
  obtain ⟨p, l, e, R, s, m, args, below, meth, c⟩ := X
  intro H locs ls hR hS hl
  exact lv_astore_n C.1 C.2.1 hd rfl (pLk_has hl) h rfl (fun ls1 h1 => kk H locs ls1 hR hS (pLk_of1 (v := .inr (.inr z)) h1))
theorem e_astore (C : pCx g y cc nL ret d k n X) {j : Nat} {z : Nat} (hd : decode cc pc = .ok (.astore j, 2)) (kk : pE g nL X Qf S M cs sl (pc + 2) (pst L j (.inr (.inr z))) st) (h : j < nL := by decide) : pE g nL X Qf S M cs sl pc L (.inr (.inr z) :: st) := by
  obtain ⟨p, l, e, R, s, m, args, below, meth, c⟩ := X
  intro H locs ls hR hS hl
  exact lv_astore C.1 C.2.1 hd (pLk_has hl) h rfl (fun ls1 h1 => kk H locs ls1 hR hS (pLk_of1 (v := .inr (.inr z)) h1))
theorem e_iinc (C : pCx g y cc nL ret d k n X) {j : Nat} {z v : Int} (hd : decode cc pc = .ok (.iinc j v, 3)) (hj : L[j]? = some (some (.inl z))) (kk : pE g nL X Qf S M cs sl (pc + 3) (pst L j (.inl (z + v))) st) (h : j < nL := by decide) : pE g nL X Qf S M cs sl pc L st := by
  obtain ⟨p, l, e, R, s, m, args, below, meth, c⟩ := X
  intro H locs ls hR hS hl
  obtain ⟨q, hq⟩ := List.getElem?_of_mem (pLs_mem (g := g) (w := prv g (.inl z)) |>.mpr ⟨_, hj, rfl⟩)
  exact lv_iinc C.1 C.2.1 hd (pLk_has hl) hq (by rw [← Int32.ofInt_add]) h rfl (fun ls1 h1 => kk H locs ls1 hR hS (pLk_of1 (v := .inl (z + v)) h1))
theorem e_iadd (C : pCx g y cc nL ret d k n X) {x z : Int} (hd : decode cc pc = .ok (.iadd, 1)) (kk : pE g nL X Qf S M cs sl (pc + 1) L (.inl (x + z) :: st))  : pE g nL X Qf S M cs sl pc L (.inl z :: .inl x :: st) := by
  obtain ⟨p, l, e, R, s, m, args, below, meth, c⟩ := X
  intro H locs ls hR hS hl
  exact lv_iadd C.1 C.2.1 hd (by rw [← Int32.ofInt_add]; exact kk H locs ls hR hS hl)
theorem e_isub (C : pCx g y cc nL ret d k n X) {x z : Int} (hd : decode cc pc = .ok (.isub, 1)) (kk : pE g nL X Qf S M cs sl (pc + 1) L (.inl (x - z) :: st))  : pE g nL X Qf S M cs sl pc L (.inl z :: .inl x :: st) := by
  obtain ⟨p, l, e, R, s, m, args, below, meth, c⟩ := X
  intro H locs ls hR hS hl
  exact lv_isub C.1 C.2.1 hd (by rw [← Int32.ofInt_sub]; exact kk H locs ls hR hS hl)
theorem e_imul (C : pCx g y cc nL ret d k n X) {x z : Int} (hd : decode cc pc = .ok (.imul, 1)) (kk : pE g nL X Qf S M cs sl (pc + 1) L (.inl (x * z) :: st))  : pE g nL X Qf S M cs sl pc L (.inl z :: .inl x :: st) := by
  obtain ⟨p, l, e, R, s, m, args, below, meth, c⟩ := X
  intro H locs ls hR hS hl
  exact lv_imul C.1 C.2.1 hd (by rw [← Int32.ofInt_mul]; exact kk H locs ls hR hS hl)
theorem e_ladd (C : pCx g y cc nL ret d k n X) {x z : Int} (hd : decode cc pc = .ok (.ladd, 1)) (kk : pE g nL X Qf S M cs sl (pc + 1) L (.inr (.inl (x + z)) :: st))  : pE g nL X Qf S M cs sl pc L (.inr (.inl z) :: .inr (.inl x) :: st) := by
  obtain ⟨p, l, e, R, s, m, args, below, meth, c⟩ := X
  intro H locs ls hR hS hl
  exact lv_ladd C.1 C.2.1 hd (by rw [← Int64.ofInt_add]; exact kk H locs ls hR hS hl)
theorem e_lsub (C : pCx g y cc nL ret d k n X) {x z : Int} (hd : decode cc pc = .ok (.lsub, 1)) (kk : pE g nL X Qf S M cs sl (pc + 1) L (.inr (.inl (x - z)) :: st))  : pE g nL X Qf S M cs sl pc L (.inr (.inl z) :: .inr (.inl x) :: st) := by
  obtain ⟨p, l, e, R, s, m, args, below, meth, c⟩ := X
  intro H locs ls hR hS hl
  exact lv_lsub C.1 C.2.1 hd (by rw [← Int64.ofInt_sub]; exact kk H locs ls hR hS hl)
theorem e_lmul (C : pCx g y cc nL ret d k n X) {x z : Int} (hd : decode cc pc = .ok (.lmul, 1)) (kk : pE g nL X Qf S M cs sl (pc + 1) L (.inr (.inl (x * z)) :: st))  : pE g nL X Qf S M cs sl pc L (.inr (.inl z) :: .inr (.inl x) :: st) := by
  obtain ⟨p, l, e, R, s, m, args, below, meth, c⟩ := X
  intro H locs ls hR hS hl
  exact lv_lmul C.1 C.2.1 hd (by rw [← Int64.ofInt_mul]; exact kk H locs ls hR hS hl)
theorem i32_div {x z : Int} (hx : -2147483648 ≤ x ∧ x < 2147483648) (hz : -2147483648 ≤ z ∧ z < 2147483648) (h0 : 0 ≤ x) (h1 : 0 < z) : Int32.ofInt x / Int32.ofInt z = Int32.ofInt (x / z) := by
  obtain ⟨a, rfl⟩ := Int.eq_ofNat_of_zero_le h0
  obtain ⟨b, rfl⟩ := Int.eq_ofNat_of_zero_le (Int.le_of_lt h1)
  skip
  rw [show ((a : Int) / (b : Int)) = ((a / b : Nat) : Int) from rfl, i32_nI, i32_nI, i32_nI]
  exact pk_div (by omega) (by omega) (by omega)
theorem i32_rem {x z : Int} (hx : -2147483648 ≤ x ∧ x < 2147483648) (hz : -2147483648 ≤ z ∧ z < 2147483648) (h0 : 0 ≤ x) (h1 : 0 < z) : Int32.ofInt x - Int32.ofInt x / Int32.ofInt z * Int32.ofInt z = Int32.ofInt (x % z) := by
  obtain ⟨a, rfl⟩ := Int.eq_ofNat_of_zero_le h0
  obtain ⟨b, rfl⟩ := Int.eq_ofNat_of_zero_le (Int.le_of_lt h1)
  skip
  rw [show ((a : Int) % (b : Int)) = ((a % b : Nat) : Int) from rfl, i32_nI, i32_nI, i32_nI]
  exact pk_rem (by omega) (by omega) (by omega)
theorem i64_nat (n : Nat) : Int64.ofInt (n : Int) = lN n := Int64.ofInt_eq_ofNat
theorem i64_div {x z : Int} (hx : -9223372036854775808 ≤ x ∧ x < 9223372036854775808) (hz : -9223372036854775808 ≤ z ∧ z < 9223372036854775808) (h0 : 0 ≤ x) (h1 : 0 < z) : Int64.ofInt x / Int64.ofInt z = Int64.ofInt (x / z) := by
  obtain ⟨a, rfl⟩ := Int.eq_ofNat_of_zero_le h0
  obtain ⟨b, rfl⟩ := Int.eq_ofNat_of_zero_le (Int.le_of_lt h1)
  skip
  rw [show ((a : Int) / (b : Int)) = ((a / b : Nat) : Int) from rfl, i64_nat, i64_nat, i64_nat]
  exact pk_lDiv (by omega) (by omega) (by omega)
theorem i64_rem {x z : Int} (hx : -9223372036854775808 ≤ x ∧ x < 9223372036854775808) (hz : -9223372036854775808 ≤ z ∧ z < 9223372036854775808) (h0 : 0 ≤ x) (h1 : 0 < z) : Int64.ofInt x - Int64.ofInt x / Int64.ofInt z * Int64.ofInt z = Int64.ofInt (x % z) := by
  obtain ⟨a, rfl⟩ := Int.eq_ofNat_of_zero_le h0
  obtain ⟨b, rfl⟩ := Int.eq_ofNat_of_zero_le (Int.le_of_lt h1)
  skip
  rw [show ((a : Int) % (b : Int)) = ((a % b : Nat) : Int) from rfl, i64_nat, i64_nat, i64_nat]
  exact pk_lRem (by omega) (by omega) (by omega)
theorem e_idiv (C : pCx g y cc nL ret d k n X) {x z : Int} (hd : decode cc pc = .ok (.idiv, 1)) (hx : -2147483648 ≤ x ∧ x < 2147483648) (hz : -2147483648 ≤ z ∧ z < 2147483648) (h0 : 0 ≤ x) (h1 : 0 < z) (kk : pE g nL X Qf S M cs sl (pc + 1) L (.inl (x / z) :: st))  : pE g nL X Qf S M cs sl pc L (.inl z :: .inl x :: st) := by
  obtain ⟨p, l, e, R, s, m, args, below, meth, c⟩ := X
  intro H locs ls hR hS hl
  exact lv_idiv C.1 C.2.1 hd (fun q => by rw [← i32_0, i32_eq hz (by unfold i32; omega)] at q; omega) (by rw [i32_div hx hz h0 h1]; exact kk H locs ls hR hS hl)
theorem e_irem (C : pCx g y cc nL ret d k n X) {x z : Int} (hd : decode cc pc = .ok (.irem, 1)) (hx : -2147483648 ≤ x ∧ x < 2147483648) (hz : -2147483648 ≤ z ∧ z < 2147483648) (h0 : 0 ≤ x) (h1 : 0 < z) (kk : pE g nL X Qf S M cs sl (pc + 1) L (.inl (x % z) :: st))  : pE g nL X Qf S M cs sl pc L (.inl z :: .inl x :: st) := by
  obtain ⟨p, l, e, R, s, m, args, below, meth, c⟩ := X
  intro H locs ls hR hS hl
  exact lv_irem C.1 C.2.1 hd (fun q => by rw [← i32_0, i32_eq hz (by unfold i32; omega)] at q; omega) (by rw [i32_rem hx hz h0 h1]; exact kk H locs ls hR hS hl)
theorem e_ldiv (C : pCx g y cc nL ret d k n X) {x z : Int} (hd : decode cc pc = .ok (.ldiv, 1)) (hx : -9223372036854775808 ≤ x ∧ x < 9223372036854775808) (hz : -9223372036854775808 ≤ z ∧ z < 9223372036854775808) (h0 : 0 ≤ x) (h1 : 0 < z) (kk : pE g nL X Qf S M cs sl (pc + 1) L (.inr (.inl (x / z)) :: st))  : pE g nL X Qf S M cs sl pc L (.inr (.inl z) :: .inr (.inl x) :: st) := by
  obtain ⟨p, l, e, R, s, m, args, below, meth, c⟩ := X
  intro H locs ls hR hS hl
  exact lv_ldiv C.1 C.2.1 hd (fun q => by rw [show (0 : Int64) = Int64.ofInt 0 from by decide +kernel, i64_eq hz (by unfold i64; omega)] at q; omega) (by rw [i64_div hx hz h0 h1]; exact kk H locs ls hR hS hl)
theorem e_lrem (C : pCx g y cc nL ret d k n X) {x z : Int} (hd : decode cc pc = .ok (.lrem, 1)) (hx : -9223372036854775808 ≤ x ∧ x < 9223372036854775808) (hz : -9223372036854775808 ≤ z ∧ z < 9223372036854775808) (h0 : 0 ≤ x) (h1 : 0 < z) (kk : pE g nL X Qf S M cs sl (pc + 1) L (.inr (.inl (x % z)) :: st))  : pE g nL X Qf S M cs sl pc L (.inr (.inl z) :: .inr (.inl x) :: st) := by
  obtain ⟨p, l, e, R, s, m, args, below, meth, c⟩ := X
  intro H locs ls hR hS hl
  exact lv_lrem C.1 C.2.1 hd (fun q => by rw [show (0 : Int64) = Int64.ofInt 0 from by decide +kernel, i64_eq hz (by unfold i64; omega)] at q; omega) (by rw [i64_rem hx hz h0 h1]; exact kk H locs ls hR hS hl)
theorem e_i2l (C : pCx g y cc nL ret d k n X) {x : Int} (hd : decode cc pc = .ok (.i2l, 1)) (hx : -2147483648 ≤ x ∧ x < 2147483648) (kk : pE g nL X Qf S M cs sl (pc + 1) L (.inr (.inl x) :: st))  : pE g nL X Qf S M cs sl pc L (.inl x :: st) := by
  obtain ⟨p, l, e, R, s, m, args, below, meth, c⟩ := X
  intro H locs ls hR hS hl
  refine lv_i2l C.1 C.2.1 hd ?_ (kk H locs ls hR hS hl)
  rw [← Int64.toInt_inj, Int32.toInt_toInt64, i32_to hx, i64_to]
  unfold i64; omega
theorem e_l2i (C : pCx g y cc nL ret d k n X) {x : Int} (hd : decode cc pc = .ok (.l2i, 1)) (hx : -2147483648 ≤ x ∧ x < 2147483648) (kk : pE g nL X Qf S M cs sl (pc + 1) L (.inl x :: st))  : pE g nL X Qf S M cs sl pc L (.inr (.inl x) :: st) := by
  obtain ⟨p, l, e, R, s, m, args, below, meth, c⟩ := X
  intro H locs ls hR hS hl
  refine lv_l2i C.1 C.2.1 hd ?_ (kk H locs ls hR hS hl)
  rw [← Int32.toInt_inj, Int64.toInt_toInt32, i32_to hx, i64_to (by unfold i64; omega)]
  exact Int.bmod_eq_of_le_mul_two (by omega) (by omega)
theorem i32_and (a b : Nat) : Int32.ofInt (a : Int) &&& Int32.ofInt (b : Int) = Int32.ofInt ((a &&& b : Nat) : Int) := by
  rw [i32_nI, i32_nI, i32_nI]; unfold nI
  rw [← Int32.toBitVec_inj]; simp [Int32.toBitVec_and, Int32.toBitVec_ofNat']
theorem i32_or (a b : Nat) : Int32.ofInt (a : Int) ||| Int32.ofInt (b : Int) = Int32.ofInt ((a ||| b : Nat) : Int) := by
  rw [i32_nI, i32_nI, i32_nI]; unfold nI
  rw [← Int32.toBitVec_inj]; simp [Int32.toBitVec_or, Int32.toBitVec_ofNat']
theorem i32_sm : ∀ j, j < 32 → ((nI j &&& 31).toBitVec.smod 32).toNat = j := by decide +kernel
theorem e_iand (C : pCx g y cc nL ret d k n X) {a b : Nat} (hd : decode cc pc = .ok (.iand, 1)) (kk : pE g nL X Qf S M cs sl (pc + 1) L (.inl ((a &&& b : Nat) : Int) :: st))  : pE g nL X Qf S M cs sl pc L (.inl (b : Int) :: .inl (a : Int) :: st) := by
  obtain ⟨p, l, e, R, s, m, args, below, meth, c⟩ := X
  intro H locs ls hR hS hl
  exact lv_iand C.1 C.2.1 hd (by rw [i32_and]; exact kk H locs ls hR hS hl)
theorem e_ior (C : pCx g y cc nL ret d k n X) {a b : Nat} (hd : decode cc pc = .ok (.ior, 1)) (kk : pE g nL X Qf S M cs sl (pc + 1) L (.inl ((a ||| b : Nat) : Int) :: st))  : pE g nL X Qf S M cs sl pc L (.inl (b : Int) :: .inl (a : Int) :: st) := by
  obtain ⟨p, l, e, R, s, m, args, below, meth, c⟩ := X
  intro H locs ls hR hS hl
  exact lv_ior C.1 C.2.1 hd (by rw [i32_or]; exact kk H locs ls hR hS hl)
theorem e_ishl (C : pCx g y cc nL ret d k n X) {a b : Nat} (hd : decode cc pc = .ok (.ishl, 1)) (hb : b < 32) (h : a * 2 ^ b < 2 ^ 32) (kk : pE g nL X Qf S M cs sl (pc + 1) L (.inl ((a * 2 ^ b : Nat) : Int) :: st))  : pE g nL X Qf S M cs sl pc L (.inl (b : Int) :: .inl (a : Int) :: st) := by
  obtain ⟨p, l, e, R, s, m, args, below, meth, c⟩ := X
  intro H locs ls hR hS hl
  exact lv_ishl C.1 C.2.1 hd (by rw [i32_nI, i32_nI, pk_shlN _ b (i32_sm b hb) h, ← i32_nI]; exact kk H locs ls hR hS hl)
theorem e_ishr (C : pCx g y cc nL ret d k n X) {a b : Nat} (hd : decode cc pc = .ok (.ishr, 1)) (hb : b < 32) (h : a < 2 ^ 31) (kk : pE g nL X Qf S M cs sl (pc + 1) L (.inl ((a / 2 ^ b : Nat) : Int) :: st))  : pE g nL X Qf S M cs sl pc L (.inl (b : Int) :: .inl (a : Int) :: st) := by
  obtain ⟨p, l, e, R, s, m, args, below, meth, c⟩ := X
  intro H locs ls hR hS hl
  exact lv_ishr C.1 C.2.1 hd (by rw [i32_nI, i32_nI, pk_shrN h _ b (i32_sm b hb), ← i32_nI]; exact kk H locs ls hR hS hl)
theorem e_lcmp (C : pCx g y cc nL ret d k n X) {x z : Int} (hd : decode cc pc = .ok (.lcmp, 1)) (hx : -9223372036854775808 ≤ x ∧ x < 9223372036854775808) (hz : -9223372036854775808 ≤ z ∧ z < 9223372036854775808) (kk : pE g nL X Qf S M cs sl (pc + 1) L (.inl (if z < x then 1 else if x = z then 0 else -1) :: st))  : pE g nL X Qf S M cs sl pc L (.inr (.inl z) :: .inr (.inl x) :: st) := by
  obtain ⟨p, l, e, R, s, m, args, below, meth, c⟩ := X
  intro H locs ls hR hS hl
  refine W.lcmp C.1 C.2.1 hd ?_
  have h := kk H locs ls hR hS hl
  have e1 : lg_cmp (Int64.ofInt x) (Int64.ofInt z) = Int32.ofInt (if z < x then 1 else if x = z then 0 else -1) := by
    unfold lg_cmp
    simp only [gt_iff_lt, i64_lt hz hx, i64_eq hx hz]
    split
    · rfl
    · split <;> rfl
  rw [e1]; exact h
theorem e_dup (C : pCx g y cc nL ret d k n X) {v : pV} (hd : decode cc pc = .ok (.dup, 1)) (kk : pE g nL X Qf S M cs sl (pc + 1) L (v :: v :: st)) (hv : (prv g v).category = 1 := by rfl) : pE g nL X Qf S M cs sl pc L (v :: st) := by
  obtain ⟨p, l, e, R, s, m, args, below, meth, c⟩ := X
  intro H locs ls hR hS hl
  exact lv_dup C.1 C.2.1 hd hv (kk H locs ls hR hS hl)
theorem e_dup2 (C : pCx g y cc nL ret d k n X) {v w : pV} (hd : decode cc pc = .ok (.dup2, 1)) (kk : pE g nL X Qf S M cs sl (pc + 1) L (v :: w :: v :: w :: st)) (hv : (prv g v).category = 1 := by rfl) (hw : (prv g w).category = 1 := by rfl) : pE g nL X Qf S M cs sl pc L (v :: w :: st) := by
  obtain ⟨p, l, e, R, s, m, args, below, meth, c⟩ := X
  intro H locs ls hR hS hl
  exact lv_dup2_11 C.1 C.2.1 hd hv hw (kk H locs ls hR hS hl)
theorem e_pop (C : pCx g y cc nL ret d k n X) {v : pV} (hd : decode cc pc = .ok (.pop, 1)) (kk : pE g nL X Qf S M cs sl (pc + 1) L st) (hv : (prv g v).category = 1 := by rfl) : pE g nL X Qf S M cs sl pc L (v :: st) := by
  obtain ⟨p, l, e, R, s, m, args, below, meth, c⟩ := X
  intro H locs ls hR hS hl
  exact lv_pop C.1 C.2.1 hd hv (kk H locs ls hR hS hl)
theorem e_goto (C : pCx g y cc nL ret d k n X) {off : Int} {tgt : Nat} (hd : decode cc pc = .ok (.goto off, 3)) (ht : (pc : Int) + off = (tgt : Int)) (kk : pE g nL X Qf S M cs sl tgt L st)  : pE g nL X Qf S M cs sl pc L st := by
  obtain ⟨p, l, e, R, s, m, args, below, meth, c⟩ := X
  intro H locs ls hR hS hl
  exact lv_goto C.1 C.2.1 hd ht (kk H locs ls hR hS hl)
theorem e_icmp_eq (C : pCx g y cc nL ret d k n X) {x z : Int} {off : Int} {tgt : Nat} (hd : decode cc pc = .ok (.if_icmp .eq off, 3)) (ht : (pc : Int) + off = (tgt : Int)) (hx : -2147483648 ≤ x ∧ x < 2147483648) (hz : -2147483648 ≤ z ∧ z < 2147483648) (kt : x = z → pE g nL X Qf S M cs sl tgt L st) (kf : ¬ (x = z) → pE g nL X Qf S M cs sl (pc + 3) L st) : pE g nL X Qf S M cs sl pc L (.inl z :: .inl x :: st) := by
  obtain ⟨p, l, e, R, s, m, args, below, meth, c⟩ := X
  intro H locs ls hR hS hl
  refine lv_icmp_eq C.1 C.2.1 hd ht (fun q => kt ?_ H locs ls hR hS hl) (fun q => kf ?_ H locs ls hR hS hl)
  · simp only [gt_iff_lt, ge_iff_le, ne_eq, i32_eq hx hz, i32_lt hx hz, i32_lt hz hx, i32_le hx hz, i32_le hz hx] at q ⊢; first | exact q | omega
  · simp only [gt_iff_lt, ge_iff_le, ne_eq, i32_eq hx hz, i32_lt hx hz, i32_lt hz hx, i32_le hx hz, i32_le hz hx] at q ⊢; first | exact q | omega
theorem e_icmp_ne (C : pCx g y cc nL ret d k n X) {x z : Int} {off : Int} {tgt : Nat} (hd : decode cc pc = .ok (.if_icmp .ne off, 3)) (ht : (pc : Int) + off = (tgt : Int)) (hx : -2147483648 ≤ x ∧ x < 2147483648) (hz : -2147483648 ≤ z ∧ z < 2147483648) (kt : x ≠ z → pE g nL X Qf S M cs sl tgt L st) (kf : ¬ (x ≠ z) → pE g nL X Qf S M cs sl (pc + 3) L st) : pE g nL X Qf S M cs sl pc L (.inl z :: .inl x :: st) := by
  obtain ⟨p, l, e, R, s, m, args, below, meth, c⟩ := X
  intro H locs ls hR hS hl
  refine lv_icmp_ne C.1 C.2.1 hd ht (fun q => kt ?_ H locs ls hR hS hl) (fun q => kf ?_ H locs ls hR hS hl)
  · simp only [gt_iff_lt, ge_iff_le, ne_eq, i32_eq hx hz, i32_lt hx hz, i32_lt hz hx, i32_le hx hz, i32_le hz hx] at q ⊢; first | exact q | omega
  · simp only [gt_iff_lt, ge_iff_le, ne_eq, i32_eq hx hz, i32_lt hx hz, i32_lt hz hx, i32_le hx hz, i32_le hz hx] at q ⊢; first | exact q | omega
theorem e_icmp_lt (C : pCx g y cc nL ret d k n X) {x z : Int} {off : Int} {tgt : Nat} (hd : decode cc pc = .ok (.if_icmp .lt off, 3)) (ht : (pc : Int) + off = (tgt : Int)) (hx : -2147483648 ≤ x ∧ x < 2147483648) (hz : -2147483648 ≤ z ∧ z < 2147483648) (kt : x < z → pE g nL X Qf S M cs sl tgt L st) (kf : ¬ (x < z) → pE g nL X Qf S M cs sl (pc + 3) L st) : pE g nL X Qf S M cs sl pc L (.inl z :: .inl x :: st) := by
  obtain ⟨p, l, e, R, s, m, args, below, meth, c⟩ := X
  intro H locs ls hR hS hl
  refine lv_icmp_lt C.1 C.2.1 hd ht (fun q => kt ?_ H locs ls hR hS hl) (fun q => kf ?_ H locs ls hR hS hl)
  · simp only [gt_iff_lt, ge_iff_le, ne_eq, i32_eq hx hz, i32_lt hx hz, i32_lt hz hx, i32_le hx hz, i32_le hz hx] at q ⊢; first | exact q | omega
  · simp only [gt_iff_lt, ge_iff_le, ne_eq, i32_eq hx hz, i32_lt hx hz, i32_lt hz hx, i32_le hx hz, i32_le hz hx] at q ⊢; first | exact q | omega
theorem e_icmp_ge (C : pCx g y cc nL ret d k n X) {x z : Int} {off : Int} {tgt : Nat} (hd : decode cc pc = .ok (.if_icmp .ge off, 3)) (ht : (pc : Int) + off = (tgt : Int)) (hx : -2147483648 ≤ x ∧ x < 2147483648) (hz : -2147483648 ≤ z ∧ z < 2147483648) (kt : z ≤ x → pE g nL X Qf S M cs sl tgt L st) (kf : ¬ (z ≤ x) → pE g nL X Qf S M cs sl (pc + 3) L st) : pE g nL X Qf S M cs sl pc L (.inl z :: .inl x :: st) := by
  obtain ⟨p, l, e, R, s, m, args, below, meth, c⟩ := X
  intro H locs ls hR hS hl
  refine lv_icmp_ge C.1 C.2.1 hd ht (fun q => kt ?_ H locs ls hR hS hl) (fun q => kf ?_ H locs ls hR hS hl)
  · simp only [gt_iff_lt, ge_iff_le, ne_eq, i32_eq hx hz, i32_lt hx hz, i32_lt hz hx, i32_le hx hz, i32_le hz hx] at q ⊢; first | exact q | omega
  · simp only [gt_iff_lt, ge_iff_le, ne_eq, i32_eq hx hz, i32_lt hx hz, i32_lt hz hx, i32_le hx hz, i32_le hz hx] at q ⊢; first | exact q | omega
theorem e_icmp_gt (C : pCx g y cc nL ret d k n X) {x z : Int} {off : Int} {tgt : Nat} (hd : decode cc pc = .ok (.if_icmp .gt off, 3)) (ht : (pc : Int) + off = (tgt : Int)) (hx : -2147483648 ≤ x ∧ x < 2147483648) (hz : -2147483648 ≤ z ∧ z < 2147483648) (kt : z < x → pE g nL X Qf S M cs sl tgt L st) (kf : ¬ (z < x) → pE g nL X Qf S M cs sl (pc + 3) L st) : pE g nL X Qf S M cs sl pc L (.inl z :: .inl x :: st) := by
  obtain ⟨p, l, e, R, s, m, args, below, meth, c⟩ := X
  intro H locs ls hR hS hl
  refine lv_icmp_gt C.1 C.2.1 hd ht (fun q => kt ?_ H locs ls hR hS hl) (fun q => kf ?_ H locs ls hR hS hl)
  · simp only [gt_iff_lt, ge_iff_le, ne_eq, i32_eq hx hz, i32_lt hx hz, i32_lt hz hx, i32_le hx hz, i32_le hz hx] at q ⊢; first | exact q | omega
  · simp only [gt_iff_lt, ge_iff_le, ne_eq, i32_eq hx hz, i32_lt hx hz, i32_lt hz hx, i32_le hx hz, i32_le hz hx] at q ⊢; first | exact q | omega
theorem e_icmp_le (C : pCx g y cc nL ret d k n X) {x z : Int} {off : Int} {tgt : Nat} (hd : decode cc pc = .ok (.if_icmp .le off, 3)) (ht : (pc : Int) + off = (tgt : Int)) (hx : -2147483648 ≤ x ∧ x < 2147483648) (hz : -2147483648 ≤ z ∧ z < 2147483648) (kt : x ≤ z → pE g nL X Qf S M cs sl tgt L st) (kf : ¬ (x ≤ z) → pE g nL X Qf S M cs sl (pc + 3) L st) : pE g nL X Qf S M cs sl pc L (.inl z :: .inl x :: st) := by
  obtain ⟨p, l, e, R, s, m, args, below, meth, c⟩ := X
  intro H locs ls hR hS hl
  refine lv_icmp_le C.1 C.2.1 hd ht (fun q => kt ?_ H locs ls hR hS hl) (fun q => kf ?_ H locs ls hR hS hl)
  · simp only [gt_iff_lt, ge_iff_le, ne_eq, i32_eq hx hz, i32_lt hx hz, i32_lt hz hx, i32_le hx hz, i32_le hz hx] at q ⊢; first | exact q | omega
  · simp only [gt_iff_lt, ge_iff_le, ne_eq, i32_eq hx hz, i32_lt hx hz, i32_lt hz hx, i32_le hx hz, i32_le hz hx] at q ⊢; first | exact q | omega
theorem e_if_eq (C : pCx g y cc nL ret d k n X) {x : Int} {off : Int} {tgt : Nat} (hd : decode cc pc = .ok (.ifCond .eq off, 3)) (ht : (pc : Int) + off = (tgt : Int)) (hx : -2147483648 ≤ x ∧ x < 2147483648) (kt : x = 0 → pE g nL X Qf S M cs sl tgt L st) (kf : ¬ (x = 0) → pE g nL X Qf S M cs sl (pc + 3) L st) : pE g nL X Qf S M cs sl pc L (.inl x :: st) := by
  obtain ⟨p, l, e, R, s, m, args, below, meth, c⟩ := X
  intro H locs ls hR hS hl
  have hz : i32 0 := by unfold i32; omega
  refine lv_if_eq C.1 C.2.1 hd ht (fun q => kt ?_ H locs ls hR hS hl) (fun q => kf ?_ H locs ls hR hS hl)
  · simp only [← i32_0, gt_iff_lt, ge_iff_le, ne_eq, i32_eq hx hz, i32_lt hx hz, i32_lt hz hx, i32_le hx hz, i32_le hz hx] at q ⊢; first | exact q | omega
  · simp only [← i32_0, gt_iff_lt, ge_iff_le, ne_eq, i32_eq hx hz, i32_lt hx hz, i32_lt hz hx, i32_le hx hz, i32_le hz hx] at q ⊢; first | exact q | omega
theorem e_if_ne (C : pCx g y cc nL ret d k n X) {x : Int} {off : Int} {tgt : Nat} (hd : decode cc pc = .ok (.ifCond .ne off, 3)) (ht : (pc : Int) + off = (tgt : Int)) (hx : -2147483648 ≤ x ∧ x < 2147483648) (kt : x ≠ 0 → pE g nL X Qf S M cs sl tgt L st) (kf : ¬ (x ≠ 0) → pE g nL X Qf S M cs sl (pc + 3) L st) : pE g nL X Qf S M cs sl pc L (.inl x :: st) := by
  obtain ⟨p, l, e, R, s, m, args, below, meth, c⟩ := X
  intro H locs ls hR hS hl
  have hz : i32 0 := by unfold i32; omega
  refine lv_if_ne C.1 C.2.1 hd ht (fun q => kt ?_ H locs ls hR hS hl) (fun q => kf ?_ H locs ls hR hS hl)
  · simp only [← i32_0, gt_iff_lt, ge_iff_le, ne_eq, i32_eq hx hz, i32_lt hx hz, i32_lt hz hx, i32_le hx hz, i32_le hz hx] at q ⊢; first | exact q | omega
  · simp only [← i32_0, gt_iff_lt, ge_iff_le, ne_eq, i32_eq hx hz, i32_lt hx hz, i32_lt hz hx, i32_le hx hz, i32_le hz hx] at q ⊢; first | exact q | omega
theorem e_if_lt (C : pCx g y cc nL ret d k n X) {x : Int} {off : Int} {tgt : Nat} (hd : decode cc pc = .ok (.ifCond .lt off, 3)) (ht : (pc : Int) + off = (tgt : Int)) (hx : -2147483648 ≤ x ∧ x < 2147483648) (kt : x < 0 → pE g nL X Qf S M cs sl tgt L st) (kf : ¬ (x < 0) → pE g nL X Qf S M cs sl (pc + 3) L st) : pE g nL X Qf S M cs sl pc L (.inl x :: st) := by
  obtain ⟨p, l, e, R, s, m, args, below, meth, c⟩ := X
  intro H locs ls hR hS hl
  have hz : i32 0 := by unfold i32; omega
  refine lv_if_lt C.1 C.2.1 hd ht (fun q => kt ?_ H locs ls hR hS hl) (fun q => kf ?_ H locs ls hR hS hl)
  · simp only [← i32_0, gt_iff_lt, ge_iff_le, ne_eq, i32_eq hx hz, i32_lt hx hz, i32_lt hz hx, i32_le hx hz, i32_le hz hx] at q ⊢; first | exact q | omega
  · simp only [← i32_0, gt_iff_lt, ge_iff_le, ne_eq, i32_eq hx hz, i32_lt hx hz, i32_lt hz hx, i32_le hx hz, i32_le hz hx] at q ⊢; first | exact q | omega
theorem e_if_ge (C : pCx g y cc nL ret d k n X) {x : Int} {off : Int} {tgt : Nat} (hd : decode cc pc = .ok (.ifCond .ge off, 3)) (ht : (pc : Int) + off = (tgt : Int)) (hx : -2147483648 ≤ x ∧ x < 2147483648) (kt : 0 ≤ x → pE g nL X Qf S M cs sl tgt L st) (kf : ¬ (0 ≤ x) → pE g nL X Qf S M cs sl (pc + 3) L st) : pE g nL X Qf S M cs sl pc L (.inl x :: st) := by
  obtain ⟨p, l, e, R, s, m, args, below, meth, c⟩ := X
  intro H locs ls hR hS hl
  have hz : i32 0 := by unfold i32; omega
  refine lv_if_ge C.1 C.2.1 hd ht (fun q => kt ?_ H locs ls hR hS hl) (fun q => kf ?_ H locs ls hR hS hl)
  · simp only [← i32_0, gt_iff_lt, ge_iff_le, ne_eq, i32_eq hx hz, i32_lt hx hz, i32_lt hz hx, i32_le hx hz, i32_le hz hx] at q ⊢; first | exact q | omega
  · simp only [← i32_0, gt_iff_lt, ge_iff_le, ne_eq, i32_eq hx hz, i32_lt hx hz, i32_lt hz hx, i32_le hx hz, i32_le hz hx] at q ⊢; first | exact q | omega
theorem e_if_gt (C : pCx g y cc nL ret d k n X) {x : Int} {off : Int} {tgt : Nat} (hd : decode cc pc = .ok (.ifCond .gt off, 3)) (ht : (pc : Int) + off = (tgt : Int)) (hx : -2147483648 ≤ x ∧ x < 2147483648) (kt : 0 < x → pE g nL X Qf S M cs sl tgt L st) (kf : ¬ (0 < x) → pE g nL X Qf S M cs sl (pc + 3) L st) : pE g nL X Qf S M cs sl pc L (.inl x :: st) := by
  obtain ⟨p, l, e, R, s, m, args, below, meth, c⟩ := X
  intro H locs ls hR hS hl
  have hz : i32 0 := by unfold i32; omega
  refine lv_if_gt C.1 C.2.1 hd ht (fun q => kt ?_ H locs ls hR hS hl) (fun q => kf ?_ H locs ls hR hS hl)
  · simp only [← i32_0, gt_iff_lt, ge_iff_le, ne_eq, i32_eq hx hz, i32_lt hx hz, i32_lt hz hx, i32_le hx hz, i32_le hz hx] at q ⊢; first | exact q | omega
  · simp only [← i32_0, gt_iff_lt, ge_iff_le, ne_eq, i32_eq hx hz, i32_lt hx hz, i32_lt hz hx, i32_le hx hz, i32_le hz hx] at q ⊢; first | exact q | omega
theorem e_if_le (C : pCx g y cc nL ret d k n X) {x : Int} {off : Int} {tgt : Nat} (hd : decode cc pc = .ok (.ifCond .le off, 3)) (ht : (pc : Int) + off = (tgt : Int)) (hx : -2147483648 ≤ x ∧ x < 2147483648) (kt : x ≤ 0 → pE g nL X Qf S M cs sl tgt L st) (kf : ¬ (x ≤ 0) → pE g nL X Qf S M cs sl (pc + 3) L st) : pE g nL X Qf S M cs sl pc L (.inl x :: st) := by
  obtain ⟨p, l, e, R, s, m, args, below, meth, c⟩ := X
  intro H locs ls hR hS hl
  have hz : i32 0 := by unfold i32; omega
  refine lv_if_le C.1 C.2.1 hd ht (fun q => kt ?_ H locs ls hR hS hl) (fun q => kf ?_ H locs ls hR hS hl)
  · simp only [← i32_0, gt_iff_lt, ge_iff_le, ne_eq, i32_eq hx hz, i32_lt hx hz, i32_lt hz hx, i32_le hx hz, i32_le hz hx] at q ⊢; first | exact q | omega
  · simp only [← i32_0, gt_iff_lt, ge_iff_le, ne_eq, i32_eq hx hz, i32_lt hx hz, i32_lt hz hx, i32_le hx hz, i32_le hz hx] at q ⊢; first | exact q | omega
theorem e_tabIn (C : pCx g y cc nL ret d k n X) {dflt lo hi off x : Int} {offs : Array Int} {len tgt : Nat} (hd : decode cc pc = .ok (.tableswitch dflt lo hi offs, len)) (hx : -2147483648 ≤ x ∧ x < 2147483648) (h1 : ¬ x < lo) (h2 : ¬ hi < x) (ho : offs[(x - lo).toNat]? = some off) (ht : (pc : Int) + off = (tgt : Int)) (kk : pE g nL X Qf S M cs sl tgt L st)  : pE g nL X Qf S M cs sl pc L (.inl x :: st) := by
  obtain ⟨p, l, e, R, s, m, args, below, meth, c⟩ := X
  intro H locs ls hR hS hl
  exact lv_tableIn C.1 C.2.1 hd (by rw [i32_to hx]; exact h1) (by rw [i32_to hx]; exact h2) (by rw [i32_to hx]; exact ho) ht (kk H locs ls hR hS hl)
theorem e_tabOut (C : pCx g y cc nL ret d k n X) {dflt lo hi x : Int} {offs : Array Int} {len tgt : Nat} (hd : decode cc pc = .ok (.tableswitch dflt lo hi offs, len)) (hx : -2147483648 ≤ x ∧ x < 2147483648) (h1 : x < lo ∨ hi < x) (ht : (pc : Int) + dflt = (tgt : Int)) (kk : pE g nL X Qf S M cs sl tgt L st)  : pE g nL X Qf S M cs sl pc L (.inl x :: st) := by
  obtain ⟨p, l, e, R, s, m, args, below, meth, c⟩ := X
  intro H locs ls hR hS hl
  exact lv_tableOut C.1 C.2.1 hd (by rw [i32_to hx]; exact h1) ht (kk H locs ls hR hS hl)
theorem e_lookup (C : pCx g y cc nL ret d k n X) {dflt off x : Int} {ps : Array (Int × Int)} {len tgt : Nat} (hd : decode cc pc = .ok (.lookupswitch dflt ps, len)) (hx : -2147483648 ≤ x ∧ x < 2147483648) (hp : (ps.toList.zip (ps.toList.drop 1)).all (fun (a, next) => a.1 < next.1) = true) (ho : Op.lookupswitch.offset ps.toList dflt x = off) (ht : (pc : Int) + off = (tgt : Int)) (kk : pE g nL X Qf S M cs sl tgt L st)  : pE g nL X Qf S M cs sl pc L (.inl x :: st) := by
  obtain ⟨p, l, e, R, s, m, args, below, meth, c⟩ := X
  intro H locs ls hR hS hl
  exact lv_lookup C.1 C.2.1 hd hp (by rw [i32_to hx]; exact ho) ht (kk H locs ls hR hS hl)
theorem e_ireturn {Q : Option pV → pMem → Prop} {z : Int} (C : pCx g y cc nL (some .int) d k n X) (hd : decode cc pc = .ok (.ireturn, 1)) (hq : Q (some (.inl z)) M) : pE g nL X (pMQ g S Q X cs sl) S M cs sl pc L [.inl z] := by
  obtain ⟨p, l, e, R, s, m, args, below, meth, c⟩ := X
  intro H locs ls hR hS hl
  refine W.iret C.1 C.2.1 C.2.2.2.2.2.2.2.2.2.2.1 (fun t ht hW => ⟨some (.inl z), M, rfl, hq, by rw [ht]; exact hR, hS.F ht⟩) hS.2.2 hd C.2.2.2.2.2.2.2.2.2.1
theorem e_zreturn {Q : Option pV → pMem → Prop} {z : Int} (C : pCx g y cc nL (some .boolean) d k n X) (hd : decode cc pc = .ok (.ireturn, 1)) (hz : z = 0 ∨ z = 1) (hq : Q (some (.inl z)) M) : pE g nL X (pMQ g S Q X cs sl) S M cs sl pc L [.inl z] := by
  obtain ⟨p, l, e, R, s, m, args, below, meth, c⟩ := X
  intro H locs ls hR hS hl
  refine W.zret C.1 C.2.1 C.2.2.2.2.2.2.2.2.2.2.1 (by rcases hz with rfl | rfl <;> decide +kernel) (fun t ht hW => ⟨some (.inl z), M, rfl, hq, by rw [ht]; exact hR, hS.F ht⟩) hS.2.2 hd C.2.2.2.2.2.2.2.2.2.1
theorem e_lreturn {Q : Option pV → pMem → Prop} {z : Int} (C : pCx g y cc nL (some .long) d k n X) (hd : decode cc pc = .ok (.lreturn, 1)) (hq : Q (some (.inr (.inl z))) M) : pE g nL X (pMQ g S Q X cs sl) S M cs sl pc L [.inr (.inl z)] := by
  obtain ⟨p, l, e, R, s, m, args, below, meth, c⟩ := X
  intro H locs ls hR hS hl
  refine W.lret C.1 C.2.1 C.2.2.2.2.2.2.2.2.2.2.1 (fun t ht hW => ⟨some (.inr (.inl z)), M, rfl, hq, by rw [ht]; exact hR, hS.F ht⟩) hS.2.2 hd C.2.2.2.2.2.2.2.2.2.1
theorem e_return {Q : Option pV → pMem → Prop} (C : pCx g y cc nL none d k n X) (hd : decode cc pc = .ok (.return_, 1)) (hq : Q none M) : pE g nL X (pMQ g S Q X cs sl) S M cs sl pc L [] := by
  obtain ⟨p, l, e, R, s, m, args, below, meth, c⟩ := X
  intro H locs ls hR hS hl
  refine W.vret C.1 C.2.1 C.2.2.2.2.2.2.2.2.2.2.1 (fun t ht hW => ⟨none, M, rfl, hq, by rw [ht]; exact hR, hS.F ht⟩) hS.2.2 hd C.2.2.2.2.2.2.2.2.2.1
end PR
end
section
section PM
variable {g : pG} {y : MethodName} {cc : ByteArray} {nL : Nat} {ret : Option FieldType} {d k n : Nat} {X : pX} {Qf : State → Prop} {S : List pShp} {M : pMem} {cs sl pc : Nat} {L : List (Option pV)} {st : List pV}
theorem pwd_get (a : Nat) : (pwd g S M)[a]? = (S[a]?).map (fun sh => (pad g a, pent g M sh a)) := by
  unfold pwd; rw [List.getElem?_mapIdx]
theorem pwd_at {a : Nat} {sh : pShp} (h : S[a]? = some sh) : (pwd g S M)[a]? = some (pad g a, pent g M sh a) := by rw [pwd_get, h]; rfl
theorem pad_lt {a : Nat} (h : a < 1000000) : pad g a = g.2.2.2.1 + a := by unfold pad; rw [if_neg (by omega), if_neg (by omega)]
theorem pwd_D (h : S.length ≤ 1000) : va_D (pA g) (pwd g S M) := by
  refine ⟨fun i j p q hi hj e => ?_, fun i q hi => ?_⟩
  · rw [pwd_get] at hi hj
    obtain ⟨x, hx, rfl⟩ := Option.map_eq_some_iff.mp hi
    obtain ⟨z, hz, rfl⟩ := Option.map_eq_some_iff.mp hj
    have h1 := (List.getElem?_eq_some_iff.mp hx).1
    have h2 := (List.getElem?_eq_some_iff.mp hz).1
    dsimp only at e
    rw [pad_lt (by omega), pad_lt (by omega)] at e
    omega
  · rw [pwd_get] at hi
    obtain ⟨x, hx, rfl⟩ := Option.map_eq_some_iff.mp hi
    have h1 := (List.getElem?_eq_some_iff.mp hx).1
    show g.2.2.2.1 ≤ pad g i
    rw [pad_lt (by omega)]
    omega
theorem pwd_set {M' : pMem} {a : Nat} {sh : pShp} (h : S[a]? = some sh) (ho : ∀ b sh', b ≠ a → pent g M' sh' b = pent g M sh' b) : (pwd g S M).set a (pad g a, pent g M' sh a) = pwd g S M' := by
  apply List.ext_getElem?
  intro b
  rw [List.getElem?_set]
  split
  · next q =>
    subst q
    rw [pwd_at h]
    have h1 := (List.getElem?_eq_some_iff.mp h).1
    rw [if_pos (by unfold pwd; rw [List.length_mapIdx]; exact h1)]
  · next q =>
    rw [pwd_get, pwd_get]
    cases S[b]? with
    | none => rfl
    | some sh' => simp only [Option.map_some, Option.some.injEq, Prod.mk.injEq, true_and]; exact (ho b sh' (fun e => q e.symm)).symm
theorem pent_o {M M' : pMem} {b : Nat} (h1 : ∀ j, mI M' b j = mI M b j) (h2 : ∀ j, mL M' b j = mL M b j) (h3 : ∀ j, mR M' b j = mR M b j) (sh : pShp) : pent g M' sh b = pent g M sh b := by
  unfold pent
  cases sh with
  | inl ci =>
    have e1 : pfv g ci M' b = pfv g ci M b := by funext j; unfold pfv; rw [h1, h2, h3]
    simp only [e1]
  | inr tn =>
    have e1 : parr g tn.1 M' b = parr g tn.1 M b := by
      unfold parr
      have f1 : mI M' b = mI M b := funext h1
      have f2 : mL M' b = mL M b := funext h2
      have f3 : mR M' b = mR M b := funext h3
      simp only [f1, f2, f3]
    simp only [e1]
theorem stI_o {a i : Nat} {v : Int} (b : Nat) (sh : pShp) (h : b ≠ a) : pent g (stI M a i v) sh b = pent g M sh b := pent_o (M := M) (M' := stI M a i v) (fun j => by simp [mI, stI, h]) (fun j => rfl) (fun j => rfl) sh
theorem stL_o {a i : Nat} {v : Int} (b : Nat) (sh : pShp) (h : b ≠ a) : pent g (stL M a i v) sh b = pent g M sh b := pent_o (M := M) (M' := stL M a i v) (fun j => rfl) (fun j => by simp [mL, stL, h]) (fun j => rfl) sh
theorem stR_o {a i v : Nat} (b : Nat) (sh : pShp) (h : b ≠ a) : pent g (stR M a i v) sh b = pent g M sh b := pent_o (M := M) (M' := stR M a i v) (fun j => rfl) (fun j => rfl) (fun j => by simp [mR, stR, h]) sh
theorem pfs_set {ci a j : Nat} {M' : pMem} {v : Value} (hj : j < pnF ci) (h1 : pfv g ci M' a j = v) (h2 : ∀ i, i ≠ j → pfv g ci M' a i = pfv g ci M a i) : ((List.range (pnF ci)).map (pfv g ci M a)).set j v = (List.range (pnF ci)).map (pfv g ci M' a) := by
  apply List.ext_getElem?
  intro b
  rw [List.getElem?_set]
  split
  · next q => subst q; simp [hj, h1]
  · next q =>
    simp only [List.getElem?_map]
    cases hb : (List.range (pnF ci))[b]? with
    | none => rfl
    | some x =>
      have e1 : x = b := by
        have := List.getElem?_eq_some_iff.mp hb
        obtain ⟨w, hw⟩ := this
        simpa using hw.symm
      subst e1
      simp only [Option.map_some, h2 x (fun e => q e.symm)]
/-- a class as the tables have it -/
def pCl (ci : Nat) (C : String) (T : u_T) : Prop := classes[ci]? = some (C, T, pnF ci) ∧ (∀ w ∈ u_ws C T (pnF ci), w ∈ pgood) ∧ (∀ j, j < pnF ci → parseFieldDescriptor (T j).2.2.1 = some (pty ci j)) ∧ (∀ a, a < pnF ci → ∀ b, b < pnF ci → a ≠ b → (T a).2.1 ≠ (T b).2.1) ∧ (∀ j, j < pnF ci → (T j).1 = C)
/-- a field as a method's class links it -/
def pFl (own : String) (i ci j : Nat) : Prop := ∃ (C : String) (T : u_T), pCl ci C T ∧ j < pnF ci ∧ Cond.fieldLink own i (T j).1 (T j).2.1 (T j).2.2.1 ∈ pgood
theorem pfv_I {ci j a : Nat} (hk : pfk ci j ≠ 1 ∧ pfk ci j ≠ 3) : pfv g ci M a j = .int (Int32.ofInt (mI M a j)) := by
  unfold pfv
  split
  · next h => exact absurd h hk.1
  · next h => exact absurd h hk.2
  · rfl
theorem pfv_L {ci j a : Nat} (hk : pfk ci j = 1) : pfv g ci M a j = .long (Int64.ofInt (mL M a j)) := by unfold pfv; simp only [hk]
theorem pfv_R {ci j a : Nat} (hk : pfk ci j = 3) : pfv g ci M a j = va_rf ((mR M a j).map (pad g)) := by unfold pfv; simp only [hk]
theorem pRel_len {H : Heap} (h : pRel g S M H) : S.length ≤ 1000 := h.2.2
theorem pRel_H {H H1 : Heap} {ws : va_W} {locs : List Loc} {s : State} {M' : pMem} (h : pRel g S M H) (hw : ws = pwd g S M') (hP : va_P (g.1, g.2.1) classes ws H1) (hz : H1.size = H.size) : pRel g S M' H1 := ⟨hw ▸ hP, by rw [hz]; exact h.2.1, h.2.2⟩
theorem e_getI (C : pCx g y cc nL ret d k n X) {i ci j a : Nat} (hf : pFl y.cls i ci j) (hs : S[a]? = some (.inl ci)) (hd : decode cc pc = .ok (.getfield i, 3)) (kk : pE g nL X Qf S M cs sl (pc + 3) L (.inl (mI M a j) :: st)) (hk : pfk ci j ≠ 1 ∧ pfk ci j ≠ 3 := by decide) : pE g nL X Qf S M cs sl pc L (.inr (.inr a) :: st) := by
  obtain ⟨p, l, e, R, s, m, args, below, meth, c⟩ := X
  intro H locs ls hR hS hl
  obtain ⟨CC, T, ⟨c1, c2, c3, c4, c5⟩, h1, h2⟩ := hf
  have hv : pfv g ci M a j = prv g (.inl (mI M a j)) := (fun hk => pfv_I hk : pfk ci j ≠ 1 ∧ pfk ci j ≠ 3 → pfv g ci M a j = prv g (.inl (mI M a j))) hk
  refine va_get C.1 C.2.1 C.2.2.2.2.1 c2 C.2.2.2.1 C.2.2.2.2.2.1 hR.1 a (pwd_at hs) c1 j h1 (C.2.2.2.2.1 _ h2) (fun _ h => h) (v := prv g (.inl (mI M a j))) ?_ hd (kk H locs ls hR hS hl)
  rw [← hv]; simp [h1]
theorem e_getL (C : pCx g y cc nL ret d k n X) {i ci j a : Nat} (hf : pFl y.cls i ci j) (hs : S[a]? = some (.inl ci)) (hd : decode cc pc = .ok (.getfield i, 3)) (kk : pE g nL X Qf S M cs sl (pc + 3) L (.inr (.inl (mL M a j)) :: st)) (hk : pfk ci j = 1 := by decide) : pE g nL X Qf S M cs sl pc L (.inr (.inr a) :: st) := by
  obtain ⟨p, l, e, R, s, m, args, below, meth, c⟩ := X
  intro H locs ls hR hS hl
  obtain ⟨CC, T, ⟨c1, c2, c3, c4, c5⟩, h1, h2⟩ := hf
  have hv : pfv g ci M a j = prv g (.inr (.inl (mL M a j))) := (fun hk => pfv_L hk : pfk ci j = 1 → pfv g ci M a j = prv g (.inr (.inl (mL M a j)))) hk
  refine va_get C.1 C.2.1 C.2.2.2.2.1 c2 C.2.2.2.1 C.2.2.2.2.2.1 hR.1 a (pwd_at hs) c1 j h1 (C.2.2.2.2.1 _ h2) (fun _ h => h) (v := prv g (.inr (.inl (mL M a j)))) ?_ hd (kk H locs ls hR hS hl)
  rw [← hv]; simp [h1]
theorem e_getR (C : pCx g y cc nL ret d k n X) {i ci j a b : Nat} (hf : pFl y.cls i ci j) (hs : S[a]? = some (.inl ci)) (hb : mR M a j = some b) (hd : decode cc pc = .ok (.getfield i, 3)) (kk : pE g nL X Qf S M cs sl (pc + 3) L (.inr (.inr b) :: st)) (hk : pfk ci j = 3 := by decide) : pE g nL X Qf S M cs sl pc L (.inr (.inr a) :: st) := by
  obtain ⟨p, l, e, R, s, m, args, below, meth, c⟩ := X
  intro H locs ls hR hS hl
  obtain ⟨CC, T, ⟨c1, c2, c3, c4, c5⟩, h1, h2⟩ := hf
  have hv : pfv g ci M a j = prv g (.inr (.inr b)) := by rw [pfv_R hk, hb]; rfl
  refine va_get C.1 C.2.1 C.2.2.2.2.1 c2 C.2.2.2.1 C.2.2.2.2.2.1 hR.1 a (pwd_at hs) c1 j h1 (C.2.2.2.2.1 _ h2) (fun _ h => h) (v := prv g (.inr (.inr b))) ?_ hd (kk H locs ls hR hS hl)
  rw [← hv]; simp [h1]
theorem pRel_set {a : Nat} {sh : pShp} {M' : pMem} {H H1 : Heap} (hR : pRel g S M H) (hs : S[a]? = some sh) (ho : ∀ b sh', b ≠ a → pent g M' sh' b = pent g M sh' b) (he : va_at (g.1, g.2.1) classes (pad g a, pent g M' sh a) H1) (z : H1.size = H.size) (oq : ∀ q : Nat, q ≠ pad g a → H1[q]? = H[q]?) : pRel g S M' H1 := by
  refine ⟨?_, by rw [z]; exact hR.2.1, hR.2.2⟩
  rw [← pwd_set hs ho]
  exact hR.1.set (pwd_D hR.2.2) (pwd_at hs) he oq
theorem pA_at {a : Nat} {sh : pShp} {H : Heap} (hR : pRel g S M H) (hs : S[a]? = some sh) : pA g (pad g a) := (pwd_D (M := M) hR.2.2).2 a _ (pwd_at hs)
theorem pfs_V {ci a j : Nat} {M' : pMem} {v : Value} (hj : j < pnF ci) (h1 : pfv g ci M' a j = v) (h2 : ∀ i, i ≠ j → pfv g ci M' a i = pfv g ci M a i) (q : Nat) : updV (vp_V ((List.range (pnF ci)).map (pfv g ci M a))) j v q = vp_V ((List.range (pnF ci)).map (pfv g ci M' a)) q := by
  rw [vp_updV_set (by simp [hj]), pfs_set hj h1 h2]
theorem e_putI (C : pCx g y cc nL ret d k n X) {i ci j a : Nat} {v : Int} (hf : pFl y.cls i ci j) (hs : S[a]? = some (.inl ci))  (hd : decode cc pc = .ok (.putfield i, 3)) (hfin : ∀ (CC : String) (T : u_T), pCl ci CC T → (T j).2.2.2 = false) (kk : pE g nL X Qf S (stI M a j v) cs sl (pc + 3) L st) (hty : pty ci j = .int := by rfl) (hk : pfk ci j = 0 := by decide) : pE g nL X Qf S M cs sl pc L (.inl v :: .inr (.inr a) :: st) := by
  obtain ⟨p, l, e, R, s, m, args, below, meth, c⟩ := X
  intro H locs ls hR hS hl
  obtain ⟨CC, T, hcl, h1, h2⟩ := hf
  have hfin := hfin CC T hcl
  obtain ⟨c1, c2, c3, c4, c5⟩ := hcl
  have hK := C.2.2.2.2.2.1
  have hts := C.2.2.2.2.1
  have hap := va_apart (own := y.cls) hts c2 (pty ci) c3 c4 hK c1
  obtain ⟨r, h3, cell, q1, q2, q3, q4⟩ := hR.1 a _ (pwd_at hs)
  have hr : r = (CC, T, pnF ci) := Option.some.inj (h3.symm.trans c1)
  subst hr
  obtain ⟨hSl, hfc, kC, hkC, hkind⟩ := hK.1 ci _ c1
  obtain ⟨cf, kf, fi, f, hi, hsl⟩ := hSl j h1
  have hlay := hts _ (c2 _ (u_in_lay h1))
  unfold u_lay at hlay
  have hst := (u_facts hfc hkC (u_lays hts c2 h1) hi).1
  have hv : pfv g ci (stI M a j v) a j = prv g (.inl v) := by rw [pfv_I (by omega)]; simp [mI, stI, prv]
  have ho : ∀ i, i ≠ j → pfv g ci (stI M a j v) a i = pfv g ci M a i := fun i hi => by unfold pfv; simp only [mI, mL, mR, stI, hi, and_false, if_false]
  rw [if_neg (by rw [hfin]; decide)] at hlay
  have h6 := u_store hfc hkC hkind hlay hi (c3 j h1) (v := prv g (.inl v)) (by rw [hty]; rfl) (by rw [hty]; rfl)
  refine W.putK C.1 C.2.1 (f := f) ⟨C.2.2.2.1, C.2.2.2.2.1 _ h2, ⟨_, _, _, hi⟩, hst⟩ (by rw [q2]; exact h6) q1 q3 (by rw [hsl]; exact k2_hasslot (q4 j h1)) rfl rfl hd fun H' e1 e2 e3 => ?_
  rw [hsl] at e1 ⊢
  exact kk H' _ ls (pRel_set hR hs (fun b sh hb => stI_o b sh hb) ⟨_, c1, t_OB.to (V := updV (vp_V ((List.range (pnF ci)).map (pfv g ci M a))) j (prv g (.inl v))) ⟨_, e1, q2, q3, t_set q4 hap h1 _⟩ (fun q _ => pfs_V h1 hv ho q)⟩ e2 e3) (hS.put e2 e3 (pA_at hR hs)) hl
theorem e_putZ (C : pCx g y cc nL ret d k n X) {i ci j a : Nat} {v : Int} (hf : pFl y.cls i ci j) (hs : S[a]? = some (.inl ci)) (hz : v = 0 ∨ v = 1) (hd : decode cc pc = .ok (.putfield i, 3)) (hfin : ∀ (CC : String) (T : u_T), pCl ci CC T → (T j).2.2.2 = false) (kk : pE g nL X Qf S (stI M a j v) cs sl (pc + 3) L st) (hty : pty ci j = .boolean := by rfl) (hk : pfk ci j = 2 := by decide) : pE g nL X Qf S M cs sl pc L (.inl v :: .inr (.inr a) :: st) := by
  obtain ⟨p, l, e, R, s, m, args, below, meth, c⟩ := X
  intro H locs ls hR hS hl
  obtain ⟨CC, T, hcl, h1, h2⟩ := hf
  have hfin := hfin CC T hcl
  obtain ⟨c1, c2, c3, c4, c5⟩ := hcl
  have hK := C.2.2.2.2.2.1
  have hts := C.2.2.2.2.1
  have hap := va_apart (own := y.cls) hts c2 (pty ci) c3 c4 hK c1
  obtain ⟨r, h3, cell, q1, q2, q3, q4⟩ := hR.1 a _ (pwd_at hs)
  have hr : r = (CC, T, pnF ci) := Option.some.inj (h3.symm.trans c1)
  subst hr
  obtain ⟨hSl, hfc, kC, hkC, hkind⟩ := hK.1 ci _ c1
  obtain ⟨cf, kf, fi, f, hi, hsl⟩ := hSl j h1
  have hlay := hts _ (c2 _ (u_in_lay h1))
  unfold u_lay at hlay
  have hst := (u_facts hfc hkC (u_lays hts c2 h1) hi).1
  have hv : pfv g ci (stI M a j v) a j = prv g (.inl v) := by rw [pfv_I (by omega)]; simp [mI, stI, prv]
  have ho : ∀ i, i ≠ j → pfv g ci (stI M a j v) a i = pfv g ci M a i := fun i hi => by unfold pfv; simp only [mI, mL, mR, stI, hi, and_false, if_false]
  rw [if_neg (by rw [hfin]; decide)] at hlay
  have h6 := u_store hfc hkC hkind hlay hi (c3 j h1) (v := prv g (.inl v)) (by rw [hty]; rcases hz with rfl | rfl <;> (simp only [prv]; decide +kernel)) (by rw [hty]; rcases hz with rfl | rfl <;> (simp only [prv]; decide +kernel))
  refine W.putK C.1 C.2.1 (f := f) ⟨C.2.2.2.1, C.2.2.2.2.1 _ h2, ⟨_, _, _, hi⟩, hst⟩ (by rw [q2]; exact h6) q1 q3 (by rw [hsl]; exact k2_hasslot (q4 j h1)) rfl rfl hd fun H' e1 e2 e3 => ?_
  rw [hsl] at e1 ⊢
  exact kk H' _ ls (pRel_set hR hs (fun b sh hb => stI_o b sh hb) ⟨_, c1, t_OB.to (V := updV (vp_V ((List.range (pnF ci)).map (pfv g ci M a))) j (prv g (.inl v))) ⟨_, e1, q2, q3, t_set q4 hap h1 _⟩ (fun q _ => pfs_V h1 hv ho q)⟩ e2 e3) (hS.put e2 e3 (pA_at hR hs)) hl
theorem e_putL (C : pCx g y cc nL ret d k n X) {i ci j a : Nat} {v : Int} (hf : pFl y.cls i ci j) (hs : S[a]? = some (.inl ci))  (hd : decode cc pc = .ok (.putfield i, 3)) (hfin : ∀ (CC : String) (T : u_T), pCl ci CC T → (T j).2.2.2 = false) (kk : pE g nL X Qf S (stL M a j v) cs sl (pc + 3) L st) (hty : pty ci j = .long := by rfl) (hk : pfk ci j = 1 := by decide) : pE g nL X Qf S M cs sl pc L (.inr (.inl v) :: .inr (.inr a) :: st) := by
  obtain ⟨p, l, e, R, s, m, args, below, meth, c⟩ := X
  intro H locs ls hR hS hl
  obtain ⟨CC, T, hcl, h1, h2⟩ := hf
  have hfin := hfin CC T hcl
  obtain ⟨c1, c2, c3, c4, c5⟩ := hcl
  have hK := C.2.2.2.2.2.1
  have hts := C.2.2.2.2.1
  have hap := va_apart (own := y.cls) hts c2 (pty ci) c3 c4 hK c1
  obtain ⟨r, h3, cell, q1, q2, q3, q4⟩ := hR.1 a _ (pwd_at hs)
  have hr : r = (CC, T, pnF ci) := Option.some.inj (h3.symm.trans c1)
  subst hr
  obtain ⟨hSl, hfc, kC, hkC, hkind⟩ := hK.1 ci _ c1
  obtain ⟨cf, kf, fi, f, hi, hsl⟩ := hSl j h1
  have hlay := hts _ (c2 _ (u_in_lay h1))
  unfold u_lay at hlay
  have hst := (u_facts hfc hkC (u_lays hts c2 h1) hi).1
  have hv : pfv g ci (stL M a j v) a j = prv g (.inr (.inl v)) := by rw [pfv_L hk]; simp [mL, stL, prv]
  have ho : ∀ i, i ≠ j → pfv g ci (stL M a j v) a i = pfv g ci M a i := fun i hi => by unfold pfv; simp only [mI, mL, mR, stL, hi, and_false, if_false]
  rw [if_neg (by rw [hfin]; decide)] at hlay
  have h6 := u_store hfc hkC hkind hlay hi (c3 j h1) (v := prv g (.inr (.inl v))) (by rw [hty]; rfl) (by rw [hty]; rfl)
  refine W.putK C.1 C.2.1 (f := f) ⟨C.2.2.2.1, C.2.2.2.2.1 _ h2, ⟨_, _, _, hi⟩, hst⟩ (by rw [q2]; exact h6) q1 q3 (by rw [hsl]; exact k2_hasslot (q4 j h1)) rfl rfl hd fun H' e1 e2 e3 => ?_
  rw [hsl] at e1 ⊢
  exact kk H' _ ls (pRel_set hR hs (fun b sh hb => stL_o b sh hb) ⟨_, c1, t_OB.to (V := updV (vp_V ((List.range (pnF ci)).map (pfv g ci M a))) j (prv g (.inr (.inl v)))) ⟨_, e1, q2, q3, t_set q4 hap h1 _⟩ (fun q _ => pfs_V h1 hv ho q)⟩ e2 e3) (hS.put e2 e3 (pA_at hR hs)) hl
theorem e_putR (C : pCx g y cc nL ret d k n X) {i ci j a : Nat} {v : Nat} (hf : pFl y.cls i ci j) (hs : S[a]? = some (.inl ci)) (hty : ∀ b : Nat, narrow (pty ci j) (.ref b) = .ref b ∧ fits (pty ci j) (.ref b) = true) (hd : decode cc pc = .ok (.putfield i, 3)) (hfin : ∀ (CC : String) (T : u_T), pCl ci CC T → (T j).2.2.2 = true) (hin : y.name = "<init>") (hown : ∀ (CC : String) (T : u_T), pCl ci CC T → CC = y.cls) (kk : pE g nL X Qf S (stR M a j v) cs sl (pc + 3) L st)  (hk : pfk ci j = 3 := by decide) : pE g nL X Qf S M cs sl pc L (.inr (.inr v) :: .inr (.inr a) :: st) := by
  obtain ⟨p, l, e, R, s, m, args, below, meth, c⟩ := X
  intro H locs ls hR hS hl
  obtain ⟨CC, T, hcl, h1, h2⟩ := hf
  have hfin := hfin CC T hcl
  have hown := hown CC T hcl
  obtain ⟨c1, c2, c3, c4, c5⟩ := hcl
  have hK := C.2.2.2.2.2.1
  have hts := C.2.2.2.2.1
  have hap := va_apart (own := y.cls) hts c2 (pty ci) c3 c4 hK c1
  obtain ⟨r, h3, cell, q1, q2, q3, q4⟩ := hR.1 a _ (pwd_at hs)
  have hr : r = (CC, T, pnF ci) := Option.some.inj (h3.symm.trans c1)
  subst hr
  obtain ⟨hSl, hfc, kC, hkC, hkind⟩ := hK.1 ci _ c1
  obtain ⟨cf, kf, fi, f, hi, hsl⟩ := hSl j h1
  have hlay := hts _ (c2 _ (u_in_lay h1))
  unfold u_lay at hlay
  have hst := (u_facts hfc hkC (u_lays hts c2 h1) hi).1
  have hv : pfv g ci (stR M a j v) a j = prv g (.inr (.inr v)) := by rw [pfv_R hk]; simp [mR, stR, prv, va_rf]
  have ho : ∀ i, i ≠ j → pfv g ci (stR M a j v) a i = pfv g ci M a i := fun i hi => by unfold pfv; simp only [mI, mL, mR, stR, hi, and_false, if_false]
  rw [if_pos hfin] at hlay
  have hcf : m.cls = cf := by
    obtain ⟨_, _, c', _, _, _, -, -, hf', -, -, -, hown2, -⟩ := Cond.laysFinal_spec hlay
    have e1 : c' = cf := by have := hi.symm.trans hf'; simp at this; exact this.1.symm
    rw [c5 j h1, hown] at hown2
    rw [← e1]; exact Option.some.inj (C.2.2.2.1.symm.trans hown2)
  have h6 := u_fits hfc hkC hkind (Or.inr hlay) hi (c3 j h1) (v := prv g (.inr (.inr v))) (hty _).1 (hty _).2
  refine W.putFinK C.1 C.2.1 C.2.2.2.1 (C.2.2.2.2.1 _ h2) hi hst hcf (C.2.2.2.2.2.2.2.2.2.2.2.1.trans hin) (by rw [q2]; exact h6) q1 q3 (by rw [hsl]; exact k2_hasslot (q4 j h1)) rfl rfl hd fun H' e1 e2 e3 => ?_
  rw [hsl] at e1 ⊢
  exact kk H' _ ls (pRel_set hR hs (fun b sh hb => stR_o b sh hb) ⟨_, c1, t_OB.to (V := updV (vp_V ((List.range (pnF ci)).map (pfv g ci M a))) j (prv g (.inr (.inr v)))) ⟨_, e1, q2, q3, t_set q4 hap h1 _⟩ (fun q _ => pfs_V h1 hv ho q)⟩ e2 e3) (hS.put e2 e3 (pA_at hR hs)) hl
theorem p_vin {j n : Nat} (hj : j < n) (hn : n < 2147483648) : vp_in (Int32.ofInt (j : Int)) n := by rw [i32_nI]; exact vp_in_nI hj (by omega)
theorem p_cl {j : Nat} (hj : j < 2147483648) : (Int32.ofInt (j : Int)).toNatClampNeg = j := by rw [i32_nI]; exact nI_clamp (by omega)
theorem e_iaload (C : pCx g y cc nL ret d k n X) {a N : Nat} {z : Int} (hd : decode cc pc = .ok (.iaload, 1)) (hs : S[a]? = some (.inr (0, N))) (j : Nat) (hz : z = (j : Int)) (hj : j < N) (kk : pE g nL X Qf S M cs sl (pc + 1) L (.inl (mI M a j) :: st)) (hN : N < 2147483648 := by first | decide | omega) : pE g nL X Qf S M cs sl pc L (.inl z :: .inr (.inr a) :: st) := by
  obtain ⟨p, l, e, R, s, m, args, below, meth, c⟩ := X
  intro H locs ls hR hS hl
  subst hz
  refine va_iald C.1 C.2.1 C.2.2.2.2.2.1 hR.1 a 0 (pwd_at hs) rfl (p_vin hj hN) hd ?_
  rw [p_cl (Nat.lt_trans hj hN)]
  exact kk H locs ls hR hS hl
theorem e_baload (C : pCx g y cc nL ret d k n X) {a N : Nat} {z : Int} (hd : decode cc pc = .ok (.baload, 1)) (hs : S[a]? = some (.inr (2, N))) (j : Nat) (hz : z = (j : Int)) (hj : j < N) (kk : pE g nL X Qf S M cs sl (pc + 1) L (.inl (mI M a j) :: st)) (hN : N < 2147483648 := by first | decide | omega) : pE g nL X Qf S M cs sl pc L (.inl z :: .inr (.inr a) :: st) := by
  obtain ⟨p, l, e, R, s, m, args, below, meth, c⟩ := X
  intro H locs ls hR hS hl
  subst hz
  refine va_zald C.1 C.2.1 C.2.2.2.2.2.1 hR.1 a 2 (pwd_at hs) rfl (p_vin hj hN) hd ?_
  rw [p_cl (Nat.lt_trans hj hN)]
  exact kk H locs ls hR hS hl
theorem e_laload (C : pCx g y cc nL ret d k n X) {a N : Nat} {z : Int} (hd : decode cc pc = .ok (.laload, 1)) (hs : S[a]? = some (.inr (1, N))) (j : Nat) (hz : z = (j : Int)) (hj : j < N) (kk : pE g nL X Qf S M cs sl (pc + 1) L (.inr (.inl (mL M a j)) :: st)) (hN : N < 2147483648 := by first | decide | omega) : pE g nL X Qf S M cs sl pc L (.inl z :: .inr (.inr a) :: st) := by
  obtain ⟨p, l, e, R, s, m, args, below, meth, c⟩ := X
  intro H locs ls hR hS hl
  subst hz
  refine va_lald C.1 C.2.1 C.2.2.2.2.2.1 hR.1 a 1 (pwd_at hs) rfl (p_vin hj hN) hd ?_
  rw [p_cl (Nat.lt_trans hj hN)]
  exact kk H locs ls hR hS hl
theorem e_aaload3 (C : pCx g y cc nL ret d k n X) {a N b : Nat} {z : Int} (hd : decode cc pc = .ok (.aaload, 1)) (hs : S[a]? = some (.inr (3, N))) (j : Nat) (hz : z = (j : Int)) (hj : j < N) (hb : mR M a j = some b) (kk : pE g nL X Qf S M cs sl (pc + 1) L (.inr (.inr b) :: st)) (hN : N < 2147483648 := by first | decide | omega) : pE g nL X Qf S M cs sl pc L (.inl z :: .inr (.inr a) :: st) := by
  obtain ⟨p, l, e, R, s, m, args, below, meth, c⟩ := X
  intro H locs ls hR hS hl
  subst hz
  refine va_aldq C.1 C.2.1 C.2.2.2.2.2.1 hR.1 a 3 (pwd_at hs) rfl (p_vin hj hN) hd ?_
  rw [p_cl (Nat.lt_trans hj hN), hb]
  exact kk H locs ls hR hS hl
theorem e_aastore3 (C : pCx g y cc nL ret d k n X) {a N b : Nat} {z : Int} (hd : decode cc pc = .ok (.aastore, 1)) (hs : S[a]? = some (.inr (3, N))) (hb : S[b]? = some (.inl 4)) (j : Nat) (hz : z = (j : Int)) (hj : j < N) (kk : pE g nL X Qf S (stR M a j b) cs sl (pc + 1) L st) (hN : N < 2147483648 := by first | decide | omega) : pE g nL X Qf S M cs sl pc L (.inr (.inr b) :: .inl z :: .inr (.inr a) :: st) := by
  obtain ⟨p, l, e, R, s, m, args, below, meth, c⟩ := X
  intro H locs ls hR hS hl
  subst hz
  have hK := C.2.2.2.2.2.1
  obtain ⟨r', hr', cellV, g1, g2, g3, -⟩ := hR.1 b _ (pwd_at hb)
  have hcls := (hK.1 4 (RX4, TX4, pnF 4) rfl).2
  obtain ⟨kA, comp, k1, k2, k3, -⟩ := (hK.2 3 (g.2.2.1 3, .object "PaperKinds$Sheet") rfl).2
  have hcomp : comp = g.1 4 := Option.some.inj (k3.symm.trans hcls.1)
  subst hcomp
  obtain ⟨kC, hkC, -⟩ := hcls.2
  have hi := p_cl (Nat.lt_trans hj hN)
  have h0 : ¬ Int32.ofInt (j : Int) < 0 := fun q => p_vin hj hN (Or.inl q)
  have hA : H[pad g a]? = some (arrV (g.2.2.1 3) N (fun q => va_rf ((mR M a q).map (pad g)))) := hR.1 a _ (pwd_at hs)
  refine W.aast C.1 C.2.1 hA (fun q h => by cases h) (fun h => by cases h) k1 k2 rfl hkC ⟨h0, by show _ < (arrV _ _ _).slots.size; rw [arrV_size, hi]; exact hj⟩ g1 (fun q h => by rw [g3] at h; cases h) (by rw [g2]; exact hkC) (by rw [g2]; exact va_assign hcls) rfl rfl hd fun H1 e z oq => ?_
  refine kk H1 _ ls (pRel_set hR hs (fun b sh hb => stR_o b sh hb) ?_ z oq) (hS.put z oq (pA_at hR hs)) hl
  show H1[pad g a]? = some (arrV (g.2.2.1 3) N (fun q => va_rf ((mR (stR M a j b) a q).map (pad g))))
  rw [e, arrV_store, hi]
  congr 2
  funext q
  by_cases hq : q = j
  · subst hq; simp [updV, mR, stR, va_rf]
  · simp [updV, mR, stR, hq]
theorem e_aaload4 (C : pCx g y cc nL ret d k n X) {a N b : Nat} {z : Int} (hd : decode cc pc = .ok (.aaload, 1)) (hs : S[a]? = some (.inr (4, N))) (j : Nat) (hz : z = (j : Int)) (hj : j < N) (hb : mR M a j = some b) (kk : pE g nL X Qf S M cs sl (pc + 1) L (.inr (.inr b) :: st)) (hN : N < 2147483648 := by first | decide | omega) : pE g nL X Qf S M cs sl pc L (.inl z :: .inr (.inr a) :: st) := by
  obtain ⟨p, l, e, R, s, m, args, below, meth, c⟩ := X
  intro H locs ls hR hS hl
  subst hz
  refine va_aldq C.1 C.2.1 C.2.2.2.2.2.1 hR.1 a 4 (pwd_at hs) rfl (p_vin hj hN) hd ?_
  rw [p_cl (Nat.lt_trans hj hN), hb]
  exact kk H locs ls hR hS hl
theorem e_aastore4 (C : pCx g y cc nL ret d k n X) {a N b : Nat} {z : Int} (hd : decode cc pc = .ok (.aastore, 1)) (hs : S[a]? = some (.inr (4, N))) (hb : S[b]? = some (.inl 0)) (j : Nat) (hz : z = (j : Int)) (hj : j < N) (kk : pE g nL X Qf S (stR M a j b) cs sl (pc + 1) L st) (hN : N < 2147483648 := by first | decide | omega) : pE g nL X Qf S M cs sl pc L (.inr (.inr b) :: .inl z :: .inr (.inr a) :: st) := by
  obtain ⟨p, l, e, R, s, m, args, below, meth, c⟩ := X
  intro H locs ls hR hS hl
  subst hz
  have hK := C.2.2.2.2.2.1
  obtain ⟨r', hr', cellV, g1, g2, g3, -⟩ := hR.1 b _ (pwd_at hb)
  have hcls := (hK.1 0 (RX0, TX0, pnF 0) rfl).2
  obtain ⟨kA, comp, k1, k2, k3, -⟩ := (hK.2 4 (g.2.2.1 4, .object "PaperKinds$Kind") rfl).2
  have hcomp : comp = g.1 0 := Option.some.inj (k3.symm.trans hcls.1)
  subst hcomp
  obtain ⟨kC, hkC, -⟩ := hcls.2
  have hi := p_cl (Nat.lt_trans hj hN)
  have h0 : ¬ Int32.ofInt (j : Int) < 0 := fun q => p_vin hj hN (Or.inl q)
  have hA : H[pad g a]? = some (arrV (g.2.2.1 4) N (fun q => va_rf ((mR M a q).map (pad g)))) := hR.1 a _ (pwd_at hs)
  refine W.aast C.1 C.2.1 hA (fun q h => by cases h) (fun h => by cases h) k1 k2 rfl hkC ⟨h0, by show _ < (arrV _ _ _).slots.size; rw [arrV_size, hi]; exact hj⟩ g1 (fun q h => by rw [g3] at h; cases h) (by rw [g2]; exact hkC) (by rw [g2]; exact va_assign hcls) rfl rfl hd fun H1 e z oq => ?_
  refine kk H1 _ ls (pRel_set hR hs (fun b sh hb => stR_o b sh hb) ?_ z oq) (hS.put z oq (pA_at hR hs)) hl
  show H1[pad g a]? = some (arrV (g.2.2.1 4) N (fun q => va_rf ((mR (stR M a j b) a q).map (pad g))))
  rw [e, arrV_store, hi]
  congr 2
  funext q
  by_cases hq : q = j
  · subst hq; simp [updV, mR, stR, va_rf]
  · simp [updV, mR, stR, hq]
theorem e_iastore (C : pCx g y cc nL ret d k n X) {a N : Nat} {z v : Int} (hd : decode cc pc = .ok (.iastore, 1)) (hs : S[a]? = some (.inr (0, N))) (j : Nat) (hz : z = (j : Int)) (hj : j < N) (kk : pE g nL X Qf S (stI M a j v) cs sl (pc + 1) L st) (hN : N < 2147483648 := by first | decide | omega) : pE g nL X Qf S M cs sl pc L (.inl v :: .inl z :: .inr (.inr a) :: st) := by
  obtain ⟨p, l, e, R, s, m, args, below, meth, c⟩ := X
  intro H locs ls hR hS hl
  subst hz
  have hK := C.2.2.2.2.2.1
  have hi := p_cl (Nat.lt_trans hj hN)
  have hA : H[pad g a]? = some (arrV (g.2.2.1 0) N (fun q => .int (Int32.ofInt (mI M a q)))) := hR.1 a _ (pwd_at hs)
  refine W.iast C.1 C.2.1 hA ((hK.2 0 _ rfl).1 N (fun q => .int (Int32.ofInt (mI M a q)))) (fun q => by cases q) (by show ¬ (_ ∨ (arrV _ _ _).slots.size ≤ _); rw [arrV_size]; exact p_vin hj hN) rfl rfl hd fun H1 e z oq => ?_
  refine kk H1 _ ls (pRel_set hR hs (fun b sh hb => stI_o b sh hb) ?_ z oq) (hS.put z oq (pA_at hR hs)) hl
  show H1[pad g a]? = some (arrV (g.2.2.1 0) N (fun q => .int (Int32.ofInt (mI (stI M a j v) a q))))
  rw [e, arrV_store, hi]
  congr 2
  funext q
  by_cases hq : q = j
  · subst hq; simp [updV, mI, mL, stI, stL]
  · simp [updV, mI, mL, stI, stL, hq]
theorem e_bastore (C : pCx g y cc nL ret d k n X) {a N : Nat} {z v : Int} (hd : decode cc pc = .ok (.bastore, 1)) (hs : S[a]? = some (.inr (2, N))) (j : Nat) (hz : z = (j : Int)) (hj : j < N) (hv : v = 0 ∨ v = 1) (kk : pE g nL X Qf S (stI M a j v) cs sl (pc + 1) L st) (hN : N < 2147483648 := by first | decide | omega) : pE g nL X Qf S M cs sl pc L (.inl v :: .inl z :: .inr (.inr a) :: st) := by
  obtain ⟨p, l, e, R, s, m, args, below, meth, c⟩ := X
  intro H locs ls hR hS hl
  subst hz
  have hK := C.2.2.2.2.2.1
  have hi := p_cl (Nat.lt_trans hj hN)
  have hA : H[pad g a]? = some (arrV (g.2.2.1 2) N (fun q => .int (Int32.ofInt (mI M a q)))) := hR.1 a _ (pwd_at hs)
  refine W.zast C.1 C.2.1 hA ((hK.2 2 _ rfl).1 N (fun q => .int (Int32.ofInt (mI M a q)))) (fun q => by cases q) (by show ¬ (_ ∨ (arrV _ _ _).slots.size ≤ _); rw [arrV_size]; exact p_vin hj hN) rfl rfl hd fun H1 e z oq => ?_
  refine kk H1 _ ls (pRel_set hR hs (fun b sh hb => stI_o b sh hb) ?_ z oq) (hS.put z oq (pA_at hR hs)) hl
  show H1[pad g a]? = some (arrV (g.2.2.1 2) N (fun q => .int (Int32.ofInt (mI (stI M a j v) a q))))
  rw [e, arrV_store, hi]
  congr 2
  funext q
  by_cases hq : q = j
  · subst hq; rcases hv with rfl | rfl <;> simp [updV, mI, stI, narrow] <;> decide +kernel
  · simp [updV, mI, mL, stI, stL, hq]
theorem e_lastore (C : pCx g y cc nL ret d k n X) {a N : Nat} {z v : Int} (hd : decode cc pc = .ok (.lastore, 1)) (hs : S[a]? = some (.inr (1, N))) (j : Nat) (hz : z = (j : Int)) (hj : j < N) (kk : pE g nL X Qf S (stL M a j v) cs sl (pc + 1) L st) (hN : N < 2147483648 := by first | decide | omega) : pE g nL X Qf S M cs sl pc L (.inr (.inl v) :: .inl z :: .inr (.inr a) :: st) := by
  obtain ⟨p, l, e, R, s, m, args, below, meth, c⟩ := X
  intro H locs ls hR hS hl
  subst hz
  have hK := C.2.2.2.2.2.1
  have hi := p_cl (Nat.lt_trans hj hN)
  have hA : H[pad g a]? = some (arrV (g.2.2.1 1) N (fun q => .long (Int64.ofInt (mL M a q)))) := hR.1 a _ (pwd_at hs)
  refine W.last C.1 C.2.1 hA ((hK.2 1 _ rfl).1 N (fun q => .long (Int64.ofInt (mL M a q)))) (fun q => by cases q) (by show ¬ (_ ∨ (arrV _ _ _).slots.size ≤ _); rw [arrV_size]; exact p_vin hj hN) rfl rfl hd fun H1 e z oq => ?_
  refine kk H1 _ ls (pRel_set hR hs (fun b sh hb => stL_o b sh hb) ?_ z oq) (hS.put z oq (pA_at hR hs)) hl
  show H1[pad g a]? = some (arrV (g.2.2.1 1) N (fun q => .long (Int64.ofInt (mL (stL M a j v) a q))))
  rw [e, arrV_store, hi]
  congr 2
  funext q
  by_cases hq : q = j
  · subst hq; simp [updV, mI, mL, stI, stL]
  · simp [updV, mI, mL, stI, stL, hq]
theorem e_alen (C : pCx g y cc nL ret d k n X) {a t N : Nat} (hd : decode cc pc = .ok (.arraylength, 1)) (hs : S[a]? = some (.inr (t, N))) (ht : t < 5) (kk : pE g nL X Qf S M cs sl (pc + 1) L (.inl (N : Int) :: st)) : pE g nL X Qf S M cs sl pc L (.inr (.inr a) :: st) := by
  obtain ⟨p, l, e, R, s, m, args, below, meth, c⟩ := X
  intro H locs ls hR hS hl
  obtain ⟨ty, hty⟩ : ∃ ty, (ptys g)[t]? = some (g.2.2.1 t, ty) := by
    match t, ht with
    | 0, _ => exact ⟨_, rfl⟩
    | 1, _ => exact ⟨_, rfl⟩
    | 2, _ => exact ⟨_, rfl⟩
    | 3, _ => exact ⟨_, rfl⟩
    | 4, _ => exact ⟨_, rfl⟩
  exact va_alen C.1 C.2.1 C.2.2.2.2.2.1 hR.1 a t (pwd_at hs) hty (i32_nI N).symm hd (kk H locs ls hR hS hl)
theorem e_units (C : pCx g y cc nL ret d k n X) {z : Int} (hd : decode cc pc = .ok (.laload, 1)) (j : Nat) (hz : z = (j : Int)) (hj : j < 8) (kk : pE g nL X Qf S M cs sl (pc + 1) L (.inr (.inl (17 ^ (7 - j))) :: st)) : pE g nL X Qf S M cs sl pc L (.inl z :: .inr (.inr 1000001) :: st) := by
  obtain ⟨p, l, e, R, s, m, args, below, meth, c⟩ := X
  intro H locs ls hR hS hl
  subst hz
  exact va_tl C.1 C.2.1 C.2.2.2.2.2.2.1.2 hS (p_vin hj (by decide)) (v := .long (Int64.ofInt (17 ^ (7 - j)))) (by rw [p_cl (by omega)]) hd (kk H locs ls hR hS hl)
theorem e_getsO (C : pCx g y cc nL ret d k n X) {i : Nat} (hd : decode cc pc = .ok (.getstatic i, 3)) (hf : Cond.fieldLink y.cls i "PaperKinds" "BOX_UNITS" "[J" ∈ pgood) (kk : pE g nL X Qf S M cs sl (pc + 3) L (.inr (.inr 1000001) :: st)) : pE g nL X Qf S M cs sl pc L st := by
  obtain ⟨p, l, e, R, s, m, args, below, meth, c⟩ := X
  intro H locs ls hR hS hl
  exact va_gets C.1 C.2.1 C.2.2.2.2.2.2.1.1 hS C.2.2.2.1 (C.2.2.2.2.1 _ hf) (fun _ h => h) hd (kk H locs ls hR hS hl)
theorem e_getsN (C : pCx g y cc nL ret d k n X) (hy : y.cls = "PaperKinds$Layer") (hd : decode cc pc = .ok (.getstatic 109, 3)) (kk : pE g nL X Qf S M cs sl (pc + 3) L (.inr (.inr 1000001) :: st)) : pE g nL X Qf S M cs sl pc L st := by
  obtain ⟨p, l, e, R, s, m, args, below, meth, c⟩ := X
  intro H locs ls hR hS hl
  exact va_getsN C.1 C.2.1 C.2.2.2.2.2.2.1.1 hS (hy ▸ C.2.2.2.1) (va_Nw.use rfl C.2.2.2.2.2.2.2.1.2.1) (fun _ h => h) hd (kk H locs ls hR hS hl)
end PM
end
section
section PC
variable {g : pG} {y : MethodName} {cc : ByteArray} {nL : Nat} {ret : Option FieldType} {d k n : Nat} {X : pX} {Qf : State → Prop} {S S' : List pShp} {M : pMem} {cs sl pc : Nat} {L : List (Option pV)} {st : List pV}
theorem pSt_to {s U : State} {H : Heap} {locs : List Loc} (h : pSt g s s.heap) (hS : va_S (pA g) s.heap H locs) (hU : U.heap = H) (hv : s.vm.Alike U.vm) : pSt g U U.heap := by
  rw [hU]
  exact ⟨(h.1.kept (fun a h1 h2 => hS.2.1 a h1 h2)).moved hv, (h.2.kept (fun a h1 h2 => hS.2.1 a h1 h2)).moved hv⟩
theorem pNw_warm {s U : State} (hW : s.WarmedH U.vm) (h : pNw s) : pNw U := ⟨fun q hq => va_Nw.warmM hW (h.1 q hq), va_Nw.warmF hW h.2.1, h.2.2.1.moved hW.alike, h.2.2.2.moved hW.alike⟩
theorem pPc_blind {av : List pV} : FrameBlind (pPc g S M av) := by
  intro a U gg mk h
  obtain ⟨h1, h2, h3, h4, h5, h6, h7, h8⟩ := h
  exact ⟨h1, h2, va_K.moved (u := U) (U := U.calling gg mk a) (Vm.Alike.refl U.vm) h3, ⟨h4.1.moved (U := U.calling gg mk a) (Vm.Alike.refl U.vm), h4.2.moved (U := U.calling gg mk a) (Vm.Alike.refl U.vm)⟩, fun q hq => va_Nw.same rfl rfl (h5 q hq), va_Nw.same rfl rfl h6, va_AO.moved (U := U.calling gg mk a) (Vm.Alike.refl U.vm) h7, va_AO.moved (U := U.calling gg mk a) (Vm.Alike.refl U.vm) h8⟩
theorem pPc_of {p : Program} {l : Launch} {e : Env} {R : Room} {s : State} {m : MethodId} {args : Array Value} {below : List Frame} {meth : Method} {c : Code} (C : pCx g y cc nL ret d k n (p, l, e, R, s, m, args, below, meth, c)) {H : Heap} {locs : List Loc} (hR : pRel g S M H) (hS : va_S (pA g) s.heap H locs) (av : List pV) (U : State) (hU : U.heap = H) (hW : s.WarmedH U.vm) : pPc g S M av (av.map (prv g)).toArray U :=
  ⟨rfl, by rw [hU]; exact hR, va_K.moved hW.alike C.2.2.2.2.2.1, pSt_to C.2.2.2.2.2.2.1 hS hU hW.alike, pNw_warm hW C.2.2.2.2.2.2.2.1⟩
theorem p_call {p : Program} {l : Launch} {e : Env} {R : Room} {s : State} {m : MethodId} {args : Array Value} {below : List Frame} {meth : Method} {c : Code} {H : Heap} {locs : List Loc} {ls : Array Slot} {k' n' : Nat} {st0 : List Value} {Q : Option pV → pMem → Prop} {a : Array Value}
    (hr : va_Run p l e R s m args below meth c H locs cs sl k' n' (F0 m pc ls st0) (st.map (prv g)) (pQc g S' Q a) (pA g)) (hS : va_S (pA g) s.heap H locs)
    (kk : ∀ (r : Option pV) (M' : pMem) (H1 : Heap) (locs1 : List Loc), Q r M' → pRel g S' M' H1 → va_S (pA g) s.heap H1 locs1 → W p l e R s m args below meth c H1 locs1 (cs + k') (sl + n') Qf (F0 m (pc + 3) ls ((r.toList ++ st).map (prv g)))) : W p l e R s m args below meth c H locs cs sl Qf (F0 m pc ls st0) := by
  intro T hT Y
  obtain ⟨v, st₀, t, T', L, h0, Y', hL, e1, e2, ⟨r, M', hv, hp, hb, hz, hk⟩, stp⟩ := hr T hT Y
  rw [h0] at hz hk
  have ev : v = r.map (prv g) := by cases hv; rfl
  subst ev
  obtain ⟨t2, a1, b1⟩ := kk r M' T'.heap (locs ++ L) hp (by rw [e1]; exact hb)
    ⟨Nat.le_trans hS.1 (by rw [e1]; exact hz), fun q h1 h2 => by rw [e1, hk q (Nat.lt_of_lt_of_le h1 hS.1) h2]; exact hS.2.1 q h1 h2, fun q hq => by
      rcases List.mem_append.mp hq with h | h
      · exact hS.2.2 q h
      · exact hL q h⟩ T' rfl Y'
  refine ⟨t2, stp t2 ?_, b1⟩
  have e3 : (r.toList ++ st).map (prv g) = (r.map (prv g)).toList ++ st.map (prv g) := by cases r <;> rfl
  rw [e3] at a1
  exact a1
def pcat : pV → Nat
  | .inr (.inl _) => 2
  | _ => 1
def pcs (st : List pV) : Nat := (st.map pcat).sum
theorem pcat_eq (v : pV) : (prv g v).category = pcat v := by rcases v with z | z | z <;> rfl
theorem pcs_eq : ((st.map (prv g)).map fun v => v.category).sum = pcs st := by
  unfold pcs
  rw [List.map_map]
  congr 1
  apply List.map_congr_left
  intro v _
  exact pcat_eq v
/-- what a call's method is: its code stands in the tables, and it isn't too large -/
def pMt (y : MethodName) (cc : ByteArray) (nL : Nat) (ret : Option FieldType) (np : Nat) : Prop := Cond.code y cc nL ret ∈ pgood ∧ Cond.initialized y.cls ∈ pgood ∧ (y.cls ≠ "java/lang/invoke/MethodHandle" ∧ y.cls ≠ "java/lang/invoke/VarHandle" ∧ (parseMethodDescriptor y.desc).map (fun d => d.parameters.length) = some np) ∧ nL ≤ 21 ∧ plainName y.cls = true
theorem pgood_w {w : Cond} (h : w ∈ pgood) : goodWord w = true := (List.mem_filter.mp h).2
theorem pgood_in (w : Cond) (h : w ∈ pgood) : GoodIn pgood (w :: pgood) := by
  intro v hv
  rcases List.mem_cons.mp hv with rfl | hv
  · exact ⟨h, good_of_word (pgood_w h)⟩
  · exact ⟨hv, good_of_word (pgood_w hv)⟩
theorem pMt_B {p : Program} {l : Launch} {e : Env} {R : Room} {s : State} {m : MethodId} {args : Array Value} {below : List Frame} {meth : Method} {c : Code} (C : pCx g y cc nL ret d k n (p, l, e, R, s, m, args, below, meth, c)) {y' : MethodName} {cc' : ByteArray} {nL' np d' k' n' i : Nat} {ret' : Option FieldType} (hm : pMt y' cc' nL' ret' np) (hd : d' < d) (hl : Cond.methodLink y.cls i y' ∈ pgood) :
    CallB R s args y.cls i y' cc' nL' ret' (.code y' cc' nL' ret' :: pgood) { frames := d', cells := k', slots := n', locals := 40 * d' } k' n' np := by
  obtain ⟨m1, m2, m3, m4, m5⟩ := hm
  have h1 := C.2.2.2.2.2.2.2.2.2.2.2.2.1
  have h2 := C.2.2.2.2.2.2.2.2.2.2.2.2.2.1
  exact callB_of np C.2.2.2.2.1 (pgood_in _ m1) rfl rfl rfl (C.2.2.2.2.1 _ m2) (C.2.2.2.2.1 _ hl) m3 ⟨by show d' + 1 ≤ R.frames; omega, by show 8 + (nL' + 11) + 40 * d' ≤ R.locals; omega⟩
theorem pMt_N {p : Program} {l : Launch} {e : Env} {R : Room} {s : State} {m : MethodId} {args : Array Value} {below : List Frame} {meth : Method} {c : Code} (C : pCx g y cc nL ret d k n (p, l, e, R, s, m, args, below, meth, c)) {y' : MethodName} {cc' : ByteArray} {nL' np d' k' n' i : Nat} {ret' : Option FieldType} {host : String} (hm : pMt y' cc' nL' ret' np) (hd : d' < d) (hl : (y.cls, i, y', host) ∈ pNM) :
    va_CN R s args y.cls i y' host cc' nL' ret' (.code y' cc' nL' ret' :: pgood) { frames := d', cells := k', slots := n', locals := 40 * d' } k' n' np := by
  obtain ⟨m1, m2, m3, m4, m5⟩ := hm
  have h1 := C.2.2.2.2.2.2.2.2.2.2.2.2.1
  have h2 := C.2.2.2.2.2.2.2.2.2.2.2.2.2.1
  exact va_cnB np C.2.2.2.2.1 (pgood_in _ m1) rfl rfl rfl (C.2.2.2.2.2.2.2.1.1 _ hl) (C.2.2.2.2.1 _ m2) m3 ⟨by show d' + 1 ≤ R.frames; omega, by show 8 + (nL' + 11) + 40 * d' ≤ R.locals; omega⟩
theorem e_callS (C : pCx g y cc nL ret d k n X) {y' : MethodName} {cc' : ByteArray} {nL' d' k' n' i : Nat} {ret' : Option FieldType} {av : List pV} {Q : Option pV → pMem → Prop} (hc : pCn g d' k' n' y' cc' nL' ret' S S' M av Q) (hm : pMt y' cc' nL' ret' av.length) (hs : Cond.methodLink y.cls i y' ∈ pgood ∧ Cond.static y' ∈ pgood) (hd : decode cc pc = .ok (.invokestatic i, 3)) (kk : ∀ (r : Option pV) (M' : pMem), Q r M' → pE g nL X Qf S' M' (cs + k') (sl + n') (pc + 3) L (r.toList ++ st)) (hdd : d' < d := by decide) (hk : cs + k' ≤ k ∧ sl + n' ≤ n := by decide) (hw : Nat.ble (pcs st) 8 = true := by rfl) : pE g nL X Qf S M cs sl pc L (av.reverse ++ st) := by
  obtain ⟨p, l, e, R, s, m, args, below, meth, c⟩ := X
  intro H locs ls hR hS hl
  have h1 := C.2.2.2.2.2.2.2.2.2.2.2.2.2.2.1
  have h2 := C.2.2.2.2.2.2.2.2.2.2.2.2.2.2.2
  refine p_call (st := st) (va_runS (As := av.map (prv g)) (rest := st.map (prv g)) ⟨C.1, C.2.1, C.2.2.1, C.2.2.2.1, C.2.2.2.2.1⟩ (hc l) ⟨pMt_B C hm hdd hs.1, C.2.2.2.2.1 _ hs.2⟩ ⟨pPc_blind, pPc_of C hR hS av⟩ rfl (by rw [List.length_map]) hl.1 (by show List.map (prv g) (av.reverse ++ st) = _; simp [prv]) (lv_room (by rw [pcs_eq]; exact Nat.le_of_ble_eq_true hw)) hd ⟨by omega, by omega⟩) hS (fun r M' H1 locs1 q1 q2 q3 => kk r M' q1 H1 locs1 ls q2 q3 hl)
theorem e_callSN (C : pCx g y cc nL ret d k n X) {y' : MethodName} {cc' : ByteArray} {nL' d' k' n' i : Nat} {ret' : Option FieldType} {av : List pV} {Q : Option pV → pMem → Prop} (hc : pCn g d' k' n' y' cc' nL' ret' S S' M av Q) (hm : pMt y' cc' nL' ret' av.length) (hs : (y.cls, i, y', "PaperKinds") ∈ pNM ∧ Cond.static y' ∈ pgood) (hd : decode cc pc = .ok (.invokestatic i, 3)) (kk : ∀ (r : Option pV) (M' : pMem), Q r M' → pE g nL X Qf S' M' (cs + k') (sl + n') (pc + 3) L (r.toList ++ st)) (hdd : d' < d := by decide) (hk : cs + k' ≤ k ∧ sl + n' ≤ n := by decide) (hw : Nat.ble (pcs st) 8 = true := by rfl) : pE g nL X Qf S M cs sl pc L (av.reverse ++ st) := by
  obtain ⟨p, l, e, R, s, m, args, below, meth, c⟩ := X
  intro H locs ls hR hS hl
  have h1 := C.2.2.2.2.2.2.2.2.2.2.2.2.2.2.1
  have h2 := C.2.2.2.2.2.2.2.2.2.2.2.2.2.2.2
  refine p_call (st := st) (va_runSN (As := av.map (prv g)) (rest := st.map (prv g)) ⟨C.1, C.2.1, C.2.2.1, C.2.2.2.1, C.2.2.2.2.1⟩ (hc l) ⟨pMt_N C hm hdd hs.1, C.2.2.2.2.1 _ hs.2, trivial⟩ ⟨pPc_blind, pPc_of C hR hS av⟩ rfl (by rw [List.length_map]) hl.1 (by show List.map (prv g) (av.reverse ++ st) = _; simp [prv]) (lv_room (by rw [pcs_eq]; exact Nat.le_of_ble_eq_true hw)) hd ⟨by omega, by omega⟩) hS (fun r M' H1 locs1 q1 q2 q3 => kk r M' q1 H1 locs1 ls q2 q3 hl)
theorem e_callV (C : pCx g y cc nL ret d k n X) {y' : MethodName} {cc' : ByteArray} {nL' d' k' n' i : Nat} {ret' : Option FieldType} {av : List pV} {Q : Option pV → pMem → Prop} {b : Nat} (hc : pCn g d' k' n' y' cc' nL' ret' S S' M (.inr (.inr b) :: av) Q) (hm : pMt y' cc' nL' ret' av.length) (hs : Cond.methodLink y.cls i y' ∈ pgood ∧ Cond.instanceMethod y' ∈ pgood ∧ Cond.selects y'.cls y' y' ∈ pgood) (hd : decode cc pc = .ok (.invokevirtual i, 3)) (ci : Nat) (hb : S[b]? = some (.inl ci)) (hcl : (classes[ci]?).map (fun q => q.1) = some y'.cls) (kk : ∀ (r : Option pV) (M' : pMem), Q r M' → pE g nL X Qf S' M' (cs + k') (sl + n') (pc + 3) L (r.toList ++ st)) (hdd : d' < d := by decide) (hk : cs + k' ≤ k ∧ sl + n' ≤ n := by decide) (hw : Nat.ble (pcs st) 8 = true := by rfl) : pE g nL X Qf S M cs sl pc L (av.reverse ++ .inr (.inr b) :: st) := by
  obtain ⟨p, l, e, R, s, m, args, below, meth, c⟩ := X
  intro H locs ls hR hS hl
  have h1 := C.2.2.2.2.2.2.2.2.2.2.2.2.2.2.1
  have h2 := C.2.2.2.2.2.2.2.2.2.2.2.2.2.2.2
  refine p_call (st := st) (va_runV (C := y'.cls) (As := av.map (prv g)) (rest := st.map (prv g)) (b := pad g b) ⟨C.1, C.2.1, C.2.2.1, C.2.2.2.1, C.2.2.2.2.1⟩ (hc l) ⟨pMt_B C hm hdd hs.1, C.2.2.2.2.1 _ hs.2.1, C.2.2.2.2.1 _ hs.2.2⟩ ⟨pPc_blind, (by obtain ⟨q, q1, q2⟩ := Option.map_eq_some_iff.mp hcl; obtain ⟨cell, z1, z2, z3⟩ := va_recv C.2.2.2.2.2.1 hR.1 q1 (pwd_at hb); exact ⟨cell, z1, z2, by rw [← q2]; exact z3⟩), pPc_of C hR hS (.inr (.inr b) :: av)⟩ rfl (by rw [List.length_map]) hl.1 (by show List.map (prv g) (av.reverse ++ .inr (.inr b) :: st) = _; simp [prv]) (lv_room (by rw [pcs_eq]; exact Nat.le_of_ble_eq_true hw)) hd ⟨by omega, by omega⟩) hS (fun r M' H1 locs1 q1 q2 q3 => kk r M' q1 H1 locs1 ls q2 q3 hl)
theorem e_callI (C : pCx g y cc nL ret d k n X) {y' : MethodName} {cc' : ByteArray} {nL' d' k' n' i : Nat} {av : List pV} {Q : Option pV → pMem → Prop} {b : Nat} (hc : pCn g d' k' n' y' cc' nL' none S S' M (.inr (.inr b) :: av) Q) (hm : pMt y' cc' nL' none av.length) (hs : Cond.methodLink y.cls i y' ∈ pgood ∧ Cond.instanceMethod y' ∈ pgood ∧ y'.name = "<init>") (hd : decode cc pc = .ok (.invokespecial i, 3)) (kk : ∀ (r : Option pV) (M' : pMem), Q r M' → pE g nL X Qf S' M' (cs + k') (sl + n') (pc + 3) L (r.toList ++ st)) (hdd : d' < d := by decide) (hk : cs + k' ≤ k ∧ sl + n' ≤ n := by decide) (hw : Nat.ble (pcs st) 8 = true := by rfl) : pE g nL X Qf S M cs sl pc L (av.reverse ++ .inr (.inr b) :: st) := by
  obtain ⟨p, l, e, R, s, m, args, below, meth, c⟩ := X
  intro H locs ls hR hS hl
  have h1 := C.2.2.2.2.2.2.2.2.2.2.2.2.2.2.1
  have h2 := C.2.2.2.2.2.2.2.2.2.2.2.2.2.2.2
  refine p_call (st := st) (va_runI (As := av.map (prv g)) (rest := st.map (prv g)) (b := pad g b) ⟨C.1, C.2.1, C.2.2.1, C.2.2.2.1, C.2.2.2.2.1⟩ (hc l) ⟨pMt_B C hm hdd hs.1, hs.2.2, C.2.2.2.2.1 _ hs.2.1⟩ ⟨pPc_blind, pPc_of C hR hS (.inr (.inr b) :: av)⟩ rfl (by rw [List.length_map]) hl.1 (by show List.map (prv g) (av.reverse ++ .inr (.inr b) :: st) = _; simp [prv]) (lv_room (by rw [pcs_eq]; exact Nat.le_of_ble_eq_true hw)) hd ⟨by omega, by omega⟩) hS (fun r M' H1 locs1 q1 q2 q3 => kk r M' q1 H1 locs1 ls q2 q3 hl)
theorem e_callIN (C : pCx g y cc nL ret d k n X) {y' : MethodName} {cc' : ByteArray} {nL' d' k' n' i : Nat} {av : List pV} {Q : Option pV → pMem → Prop} {b : Nat} (hc : pCn g d' k' n' y' cc' nL' none S S' M (.inr (.inr b) :: av) Q) (hm : pMt y' cc' nL' none av.length) (hs : (y.cls, i, y', "PaperKinds") ∈ pNM ∧ Cond.instanceMethod y' ∈ pgood ∧ y'.name = "<init>") (hd : decode cc pc = .ok (.invokespecial i, 3)) (kk : ∀ (r : Option pV) (M' : pMem), Q r M' → pE g nL X Qf S' M' (cs + k') (sl + n') (pc + 3) L (r.toList ++ st)) (hdd : d' < d := by decide) (hk : cs + k' ≤ k ∧ sl + n' ≤ n := by decide) (hw : Nat.ble (pcs st) 8 = true := by rfl) : pE g nL X Qf S M cs sl pc L (av.reverse ++ .inr (.inr b) :: st) := by
  obtain ⟨p, l, e, R, s, m, args, below, meth, c⟩ := X
  intro H locs ls hR hS hl
  have h1 := C.2.2.2.2.2.2.2.2.2.2.2.2.2.2.1
  have h2 := C.2.2.2.2.2.2.2.2.2.2.2.2.2.2.2
  refine p_call (st := st) (va_runIN (As := av.map (prv g)) (rest := st.map (prv g)) (b := pad g b) ⟨C.1, C.2.1, C.2.2.1, C.2.2.2.1, C.2.2.2.2.1⟩ (hc l) ⟨pMt_N C hm hdd hs.1, hs.2.2, C.2.2.2.2.1 _ hs.2.1⟩ ⟨pPc_blind, pPc_of C hR hS (.inr (.inr b) :: av)⟩ rfl (by rw [List.length_map]) hl.1 (by show List.map (prv g) (av.reverse ++ .inr (.inr b) :: st) = _; simp [prv]) (lv_room (by rw [pcs_eq]; exact Nat.le_of_ble_eq_true hw)) hd ⟨by omega, by omega⟩) hS (fun r M' H1 locs1 q1 q2 q3 => kk r M' q1 H1 locs1 ls q2 q3 hl)
theorem e_objInit (C : pCx g y cc nL ret d k n X) {i a : Nat} (hs : Cond.methodLink y.cls i objectInit ∈ pgood ∧ Cond.instanceMethod objectInit ∈ pgood ∧ Cond.code objectInit ⟨#[0xb1]⟩ 1 none ∈ pgood) (hd : decode cc pc = .ok (.invokespecial i, 3)) (kk : pE g nL X Qf S M cs sl (pc + 3) L st) (h0 : 0 < d := by decide) (hw : Nat.ble (pcs st) 8 = true := by rfl) : pE g nL X Qf S M cs sl pc L (.inr (.inr a) :: st) := by
  obtain ⟨p, l, e, R, s, m, args, below, meth, c⟩ := X
  intro H locs ls hR hS hl
  have h1 := C.2.2.2.2.2.2.2.2.2.2.2.2.1
  have h2 := C.2.2.2.2.2.2.2.2.2.2.2.2.2.1
  have h3 := Nat.le_of_ble_eq_true hw
  refine W.objInit C.1 C.2.1 C.2.2.2.1 (C.2.2.2.2.1 _ hs.1) (C.2.2.2.2.1 _ hs.2.1) (C.2.2.2.2.1 _ hs.2.2) rfl (hl.1.trans C.2.2.1.symm) rfl hd (by omega) ?_ (kk H locs ls hR hS hl)
  have h4 := lv_room (m := m) (pc := pc) (ls := ls) (rest := List.map (prv g) (Sum.inr (Sum.inr a) :: st)) (st := st.map (prv g)) (by rw [pcs_eq]; exact h3)
  omega
/-! the locals at a method's start -/
def pin : List pV → List (Option pV)
  | [] => []
  | .inr (.inl z) :: r => some (.inr (.inl z)) :: none :: pin r
  | .inl z :: r => some (.inl z) :: pin r
  | .inr (.inr z) :: r => some (.inr (.inr z)) :: pin r
def pinit (nL : Nat) (av : List pV) : List (Option pV) := pin av ++ List.replicate (nL - (pin av).length) none
theorem pin_mem : ∀ (av : List pV) (j i : Nat) (v : pV), (pin av)[i]? = some (some v) → (j + i, prv g v) ∈ lv_args j (av.map (prv g))
  | [], _, _, _, h => by simp [pin] at h
  | .inl z :: r, j, i, v, h => by
    cases i with
    | zero => simp [pin] at h; subst h; exact List.mem_cons_self
    | succ i => 
      have := pin_mem r (j + 1) i v (by simpa [pin] using h)
      rw [show j + (i + 1) = j + 1 + i by omega]
      exact List.mem_cons_of_mem _ this
  | .inr (.inr z) :: r, j, i, v, h => by
    cases i with
    | zero => simp [pin] at h; subst h; exact List.mem_cons_self
    | succ i => 
      have := pin_mem r (j + 1) i v (by simpa [pin] using h)
      rw [show j + (i + 1) = j + 1 + i by omega]
      exact List.mem_cons_of_mem _ this
  | .inr (.inl z) :: r, j, i, v, h => by
    match i, h with
    | 0, h => simp [pin] at h; subst h; exact List.mem_cons_self
    | 1, h => simp [pin] at h
    | i + 2, h =>
      have := pin_mem r (j + 2) i v (by simpa [pin] using h)
      rw [show j + (i + 2) = j + 2 + i by omega]
      exact List.mem_cons_of_mem _ this
theorem pin_len : ∀ (av : List pV), (lg_sl (av.map (prv g))).length = (pin av).length
  | [] => rfl
  | .inl z :: r => by have := pin_len r; simp [lg_sl, pin, prv, Value.category] at this ⊢; omega
  | .inr (.inr z) :: r => by have := pin_len r; simp [lg_sl, pin, prv, Value.category] at this ⊢; omega
  | .inr (.inl z) :: r => by have := pin_len r; simp [lg_sl, pin, prv, Value.category] at this ⊢; omega
theorem pCn_intro {av : List pV} {Q : Option pV → pMem → Prop} {np : Nat} (hm : pMt y cc nL ret np)
    (body : ∀ X : pX, pCx g y cc nL ret d k n X → pE g nL X (pMQ g S' Q X k n) S M 0 0 0 (pinit nL av) []) (hn : Nat.ble (pin av).length nL = true := by rfl) : pCn g d k n y cc nL ret S S' M av Q := by
  intro l
  refine Met.ofW (cc := cc) (maxL := nL) (ret := ret) hm.2.2.2.2 rfl ?_
  intro p e s m args below meth c s₁ B hml hv
  obtain ⟨hargs, hR, hK, hSt, hNw⟩ := hv
  have hts := atoms_spec (ws := .code y cc nL ret :: pgood) B.pre
  have hown : s.vm.findClass y.cls = some m.cls := findClass_of_methodNamed B.named
  subst hargs
  have Cx : pCx g y cc nL ret d k n (p, l, e, (headSpec (.code y cc nL ret :: pgood) { frames := d, cells := k, slots := n, locals := 40 * d }).room, s, m, (av.map (prv g)).toArray, below, meth, c) :=
    ⟨B.exec, B.bytes, hml, hown, fun w hw => hts w (List.mem_cons_of_mem _ hw), hK, hSt, hNw, by rw [hR.2.1]; omega, B.notSynchronized, B.returns, (name_of_methodNamed B.named B.method).1, Nat.le_refl _, Nat.le_refl _, Nat.le_refl _, Nat.le_refl _⟩
  have hE := body _ Cx s.heap [] ((lg_sl (av.map (prv g)) ++ List.replicate (nL - (lg_sl (av.map (prv g))).length) Slot.unset).toArray) hR va_S.rf ?_
  · rw [lg_entry_eq]
    exact hE
  · obtain ⟨h1, h2, h3⟩ := lv_entry (av.map (prv g)) (n := nL) (by rw [pin_len]; exact Nat.le_of_ble_eq_true hn)
    refine ⟨h1, h2, fun i v hi => ?_⟩
    unfold pinit at hi
    rw [List.getElem?_append] at hi
    split at hi
    · have := pin_mem (g := g) av 0 i v hi
      rw [Nat.zero_add] at this
      exact h3 _ this
    · rw [List.getElem?_replicate] at hi
      split at hi <;> simp at hi
theorem pCn_weak {av : List pV} {Q Q' : Option pV → pMem → Prop} (h : pCn g d k n y cc nL ret S S' M av Q) (hq : ∀ r M', Q r M' → Q' r M') : pCn g d k n y cc nL ret S S' M av Q' := by
  intro l p e ha hc hk s m args below hf happ hP hK
  obtain ⟨kk, o, h1, h2, h3, ⟨⟨r, M', e1, e2, e3⟩, h5⟩⟩ := h l p e ha hc hk s m args below hf happ hP hK
  exact ⟨kk, o, h1, h2, h3, ⟨⟨r, M', e1, hq _ _ e2, e3⟩, h5⟩⟩
theorem zero_o {a : Nat} (b : Nat) (sh : pShp) (h : b ≠ a) : pent g (zero M a) sh b = pent g M sh b := pent_o (M := M) (M' := zero M a) (fun j => by simp [mI, zero, h]) (fun j => by simp [mL, zero, h]) (fun j => by simp [mR, zero, h]) sh
theorem pRel_new {H H1 : Heap} {sh : pShp} (hR : pRel g S M H) (hl : S.length + 1 ≤ 1000) (z1 : H1.size = H.size + 1) (o1 : ∀ q : Nat, q < H.size → H1[q]? = H[q]?) (he : va_at (g.1, g.2.1) classes (pad g S.length, pent g (zero M S.length) sh S.length) H1) : pRel g (S ++ [sh]) (zero M S.length) H1 := by
  refine ⟨fun i q hq => ?_, by rw [z1, hR.2.1, List.length_append]; rfl, by rw [List.length_append]; exact hl⟩
  rw [pwd_get] at hq
  obtain ⟨sh', h1, rfl⟩ := Option.map_eq_some_iff.mp hq
  rw [List.getElem?_append] at h1
  split at h1
  · next hlt =>
    have h2 := hR.1 i _ (pwd_at h1)
    rw [zero_o i sh' (by omega)]
    refine h2.kept (o1 _ ?_)
    show pad g i < H.size
    rw [pad_lt (by omega), hR.2.1]; omega
  · next hge =>
    have h3 : i - S.length < 1 := (List.getElem?_eq_some_iff.mp h1).1
    have h4 : i = S.length := by omega
    subst h4
    simp at h1
    subst h1
    exact he
def pdv (ci j : Nat) : Value := match pfk ci j with
  | 1 => .long 0
  | 3 => .null
  | _ => .int 0
theorem pfv_zero {ci a j : Nat} : pfv g ci (zero M a) a j = pdv ci j := by
  unfold pfv pdv
  simp only [mI, mL, mR, zero, if_true]
  generalize pfk ci j = t
  match t with
  | 0 => rfl
  | 1 => rfl
  | 2 => rfl
  | 3 => rfl
  | t + 4 => rfl
theorem pS_new {s : State} {H H1 : Heap} {locs : List Loc} (hS : va_S (pA g) s.heap H locs) (z1 : H1.size = H.size + 1) (o1 : ∀ q : Nat, q < H.size → H1[q]? = H[q]?) : va_S (pA g) s.heap H1 locs := ⟨Nat.le_trans hS.1 (by omega), fun x h1 h2 => (o1 x (Nat.lt_of_lt_of_le h1 hS.1)).trans (hS.2.1 x h1 h2), hS.2.2⟩
theorem e_new (C : pCx g y cc nL ret d k n X) {i ci : Nat} {CC : String} {T : u_T} (hcl : pCl ci CC T) (hdef : ∀ j, j < pnF ci → defaultValue (pty ci j) = pdv ci j) (hs : Cond.classLink y.cls i CC ∈ pgood ∧ Cond.instantiable CC (pnF ci) ∈ pgood ∧ Cond.initialized CC ∈ pgood) (hd : decode cc pc = .ok (.new i, 3)) (hlen : S.length + 1 ≤ 1000) (hk : cs + 1 ≤ k ∧ sl + pnF ci ≤ n) (kk : pE g nL X Qf (S ++ [.inl ci]) (zero M S.length) (cs + 1) (sl + pnF ci) (pc + 3) L (.inr (.inr S.length) :: st)) : pE g nL X Qf S M cs sl pc L st := by
  obtain ⟨p, l, e, R, s, m, args, below, meth, c⟩ := X
  intro H locs ls hR hS hl
  have h1 := C.2.2.2.2.2.2.2.2.2.2.2.2.2.2.1
  have h2 := C.2.2.2.2.2.2.2.2.2.2.2.2.2.2.2
  obtain ⟨c1, c2, c3, c4, c5⟩ := hcl
  have hKn := C.2.2.2.2.2.1.1 ci _ c1
  have hp : pad g S.length = H.size := by rw [pad_lt (by omega), hR.2.1]
  refine W.newcK C.1 C.2.1 C.2.2.2.1 (C.2.2.2.2.1 _ hs.1) (C.2.2.2.2.1 _ hs.2.1) (C.2.2.2.2.1 _ hs.2.2) rfl hd (by omega) (by omega) hKn.2.1 rfl fun H1 kC hkC e1 z1 o1 => ?_
  have hE := kk H1 locs ls (pRel_new hR hlen z1 o1 ?_) (pS_new hS z1 o1) hl
  · rw [← hp]; exact hE
  · refine ⟨_, c1, ?_⟩
    show t_OB (pad g S.length) _ _ _ _ _
    rw [hp]
    refine (u_born (pty ci) C.2.2.2.2.1 c2 hKn hkC e1 c3).to (fun j hj => ?_)
    have hj' : j < pnF ci := hj
    rw [hdef j hj']
    simp [vp_V, hj', pfv_zero]
theorem e_newarrI (C : pCx g y cc nL ret d k n X) {N : Nat} {z : Int} (hs : Cond.arrayClass .int ∈ pgood) (hd : decode cc pc = .ok (.newarray .int, 2)) (hz : z = (N : Int)) (hN : N ≤ 100000) (hlen : S.length + 1 ≤ 1000) (hk : cs + 1 ≤ k ∧ sl + N ≤ n) (kk : pE g nL X Qf (S ++ [.inr (0, N)]) (zero M S.length) (cs + 1) (sl + N) (pc + 2) L (.inr (.inr S.length) :: st)) : pE g nL X Qf S M cs sl pc L (.inl z :: st) := by
  obtain ⟨p, l, e, R, s, m, args, below, meth, c⟩ := X
  intro H locs ls hR hS hl
  subst hz
  have h1 := C.2.2.2.2.2.2.2.2.2.2.2.2.2.2.1
  have h2 := C.2.2.2.2.2.2.2.2.2.2.2.2.2.2.2
  have hp : pad g S.length = H.size := by rw [pad_lt (by omega), hR.2.1]
  refine va_newaK C.1 C.2.1 (atype := .int) (C.2.2.2.2.1 _ hs) rfl hd rfl (by rw [i32_nI]; exact nI_pos (by omega)) (p_cl (by omega)) (by show N * componentBytes .int ≤ _; simp [componentBytes]; omega) (by omega) (by omega) rfl fun H1 cA e1 z1 o1 hA hf => ?_
  have hcA : cA = g.2.2.1 0 := Option.some.inj (hf.symm.trans (C.2.2.2.2.2.1.2 0 (g.2.2.1 0, .int) rfl).2)
  subst hcA
  have hE := kk H1 locs ls (pRel_new hR hlen z1 o1 ?_) (pS_new hS z1 o1) hl
  · rw [← hp]; exact hE
  · show H1[pad g S.length]? = some (vp_cell (g.2.2.1 0) (N, parr g 0 (zero M S.length) S.length))
    have e2 : (fun _ : Nat => defaultValue (newarray.typeOf .int)) = (fun j => .int (Int32.ofInt (mI (zero M S.length) S.length j))) := by funext q; simp [mI, mL, zero]; rfl
    rw [hp, e1, e2]
    rfl
theorem e_newarrL (C : pCx g y cc nL ret d k n X) {N : Nat} {z : Int} (hs : Cond.arrayClass .long ∈ pgood) (hd : decode cc pc = .ok (.newarray .long, 2)) (hz : z = (N : Int)) (hN : N ≤ 100000) (hlen : S.length + 1 ≤ 1000) (hk : cs + 1 ≤ k ∧ sl + N ≤ n) (kk : pE g nL X Qf (S ++ [.inr (1, N)]) (zero M S.length) (cs + 1) (sl + N) (pc + 2) L (.inr (.inr S.length) :: st)) : pE g nL X Qf S M cs sl pc L (.inl z :: st) := by
  obtain ⟨p, l, e, R, s, m, args, below, meth, c⟩ := X
  intro H locs ls hR hS hl
  subst hz
  have h1 := C.2.2.2.2.2.2.2.2.2.2.2.2.2.2.1
  have h2 := C.2.2.2.2.2.2.2.2.2.2.2.2.2.2.2
  have hp : pad g S.length = H.size := by rw [pad_lt (by omega), hR.2.1]
  refine va_newaK C.1 C.2.1 (atype := .long) (C.2.2.2.2.1 _ hs) rfl hd rfl (by rw [i32_nI]; exact nI_pos (by omega)) (p_cl (by omega)) (by show N * componentBytes .long ≤ _; simp [componentBytes]; omega) (by omega) (by omega) rfl fun H1 cA e1 z1 o1 hA hf => ?_
  have hcA : cA = g.2.2.1 1 := Option.some.inj (hf.symm.trans (C.2.2.2.2.2.1.2 1 (g.2.2.1 1, .long) rfl).2)
  subst hcA
  have hE := kk H1 locs ls (pRel_new hR hlen z1 o1 ?_) (pS_new hS z1 o1) hl
  · rw [← hp]; exact hE
  · show H1[pad g S.length]? = some (vp_cell (g.2.2.1 1) (N, parr g 1 (zero M S.length) S.length))
    have e2 : (fun _ : Nat => defaultValue (newarray.typeOf .long)) = (fun j => .long (Int64.ofInt (mL (zero M S.length) S.length j))) := by funext q; simp [mI, mL, zero]; rfl
    rw [hp, e1, e2]
    rfl
theorem e_newarrZ (C : pCx g y cc nL ret d k n X) {N : Nat} {z : Int} (hs : Cond.arrayClass .boolean ∈ pgood) (hd : decode cc pc = .ok (.newarray .boolean, 2)) (hz : z = (N : Int)) (hN : N ≤ 100000) (hlen : S.length + 1 ≤ 1000) (hk : cs + 1 ≤ k ∧ sl + N ≤ n) (kk : pE g nL X Qf (S ++ [.inr (2, N)]) (zero M S.length) (cs + 1) (sl + N) (pc + 2) L (.inr (.inr S.length) :: st)) : pE g nL X Qf S M cs sl pc L (.inl z :: st) := by
  obtain ⟨p, l, e, R, s, m, args, below, meth, c⟩ := X
  intro H locs ls hR hS hl
  subst hz
  have h1 := C.2.2.2.2.2.2.2.2.2.2.2.2.2.2.1
  have h2 := C.2.2.2.2.2.2.2.2.2.2.2.2.2.2.2
  have hp : pad g S.length = H.size := by rw [pad_lt (by omega), hR.2.1]
  refine va_newaK C.1 C.2.1 (atype := .boolean) (C.2.2.2.2.1 _ hs) rfl hd rfl (by rw [i32_nI]; exact nI_pos (by omega)) (p_cl (by omega)) (by show N * componentBytes .boolean ≤ _; simp [componentBytes]; omega) (by omega) (by omega) rfl fun H1 cA e1 z1 o1 hA hf => ?_
  have hcA : cA = g.2.2.1 2 := Option.some.inj (hf.symm.trans (C.2.2.2.2.2.1.2 2 (g.2.2.1 2, .boolean) rfl).2)
  subst hcA
  have hE := kk H1 locs ls (pRel_new hR hlen z1 o1 ?_) (pS_new hS z1 o1) hl
  · rw [← hp]; exact hE
  · show H1[pad g S.length]? = some (vp_cell (g.2.2.1 2) (N, parr g 2 (zero M S.length) S.length))
    have e2 : (fun _ : Nat => defaultValue (newarray.typeOf .boolean)) = (fun j => .int (Int32.ofInt (mI (zero M S.length) S.length j))) := by funext q; simp [mI, mL, zero]; rfl
    rw [hp, e1, e2]
    rfl
theorem e_anewS (C : pCx g y cc nL ret d k n X) {N i : Nat} {z : Int} (hs : Cond.classLink y.cls i "PaperKinds$Sheet" ∈ pgood) (hd : decode cc pc = .ok (.anewarray i, 3)) (hz : z = (N : Int)) (hN : N ≤ 100000) (hlen : S.length + 1 ≤ 1000) (hk : cs + 1 ≤ k ∧ sl + N ≤ n) (kk : pE g nL X Qf (S ++ [.inr (3, N)]) (zero M S.length) (cs + 1) (sl + N) (pc + 3) L (.inr (.inr S.length) :: st)) : pE g nL X Qf S M cs sl pc L (.inl z :: st) := by
  obtain ⟨p, l, e, R, s, m, args, below, meth, c⟩ := X
  intro H locs ls hR hS hl
  subst hz
  have h1 := C.2.2.2.2.2.2.2.2.2.2.2.2.2.2.1
  have h2 := C.2.2.2.2.2.2.2.2.2.2.2.2.2.2.2
  have hp : pad g S.length = H.size := by rw [pad_lt (by omega), hR.2.1]
  have hq := p_cl (j := N) (by omega)
  refine W.anew C.1 C.2.1 C.2.2.2.1 (C.2.2.2.2.1 _ hs) (va_AO.use C.2.2.2.2.2.2.2.1.2.2.1) rfl hd rfl (by rw [i32_nI]; exact nI_pos (by omega)) (by rw [hq]; omega) (by omega) (by rw [hq]; omega) fun cA kA comp f1 f2 f3 f4 => ?_
  rw [hq]
  have hcA : cA = g.2.2.1 3 := by
    obtain ⟨kA', comp', k1, k2, k3, k4⟩ := (C.2.2.2.2.2.1.2 3 (g.2.2.1 3, .object "PaperKinds$Sheet") rfl).2
    exact Option.some.inj (f1.symm.trans k4)
  subst hcA
  generalize hH1 : H.push ({ cls := g.2.2.1 3, slots := Array.replicate N .null, vm := .none } : Cell) = H1
  have z1 : H1.size = H.size + 1 := by rw [← hH1, Array.size_push]
  have e1 : H1[H.size]? = some (arrV (g.2.2.1 3) N (fun _ => .null)) := by rw [← hH1, Array.getElem?_push_size, ← arrV_new]
  have o1 : ∀ q : Nat, q < H.size → H1[q]? = H[q]? := fun q hq => by rw [← hH1, Array.getElem?_push, if_neg (Nat.ne_of_lt hq)]
  have hE := kk H1 locs ls (pRel_new hR hlen z1 o1 ?_) (pS_new hS z1 o1) hl
  · rw [← hp]; exact hE
  · show H1[pad g S.length]? = some (vp_cell (g.2.2.1 3) (N, parr g 3 (zero M S.length) S.length))
    have e2 : (fun _ : Nat => Value.null) = (fun j => va_rf ((mR (zero M S.length) S.length j).map (pad g))) := by funext q; simp [mR, zero]; rfl
    rw [hp, e1, e2]
    rfl
theorem e_anewK (C : pCx g y cc nL ret d k n X) {N i : Nat} {z : Int} (hs : Cond.classLink y.cls i "PaperKinds$Kind" ∈ pgood) (hd : decode cc pc = .ok (.anewarray i, 3)) (hz : z = (N : Int)) (hN : N ≤ 100000) (hlen : S.length + 1 ≤ 1000) (hk : cs + 1 ≤ k ∧ sl + N ≤ n) (kk : pE g nL X Qf (S ++ [.inr (4, N)]) (zero M S.length) (cs + 1) (sl + N) (pc + 3) L (.inr (.inr S.length) :: st)) : pE g nL X Qf S M cs sl pc L (.inl z :: st) := by
  obtain ⟨p, l, e, R, s, m, args, below, meth, c⟩ := X
  intro H locs ls hR hS hl
  subst hz
  have h1 := C.2.2.2.2.2.2.2.2.2.2.2.2.2.2.1
  have h2 := C.2.2.2.2.2.2.2.2.2.2.2.2.2.2.2
  have hp : pad g S.length = H.size := by rw [pad_lt (by omega), hR.2.1]
  have hq := p_cl (j := N) (by omega)
  refine W.anew C.1 C.2.1 C.2.2.2.1 (C.2.2.2.2.1 _ hs) (va_AO.use C.2.2.2.2.2.2.2.1.2.2.2) rfl hd rfl (by rw [i32_nI]; exact nI_pos (by omega)) (by rw [hq]; omega) (by omega) (by rw [hq]; omega) fun cA kA comp f1 f2 f3 f4 => ?_
  rw [hq]
  have hcA : cA = g.2.2.1 4 := by
    obtain ⟨kA', comp', k1, k2, k3, k4⟩ := (C.2.2.2.2.2.1.2 4 (g.2.2.1 4, .object "PaperKinds$Kind") rfl).2
    exact Option.some.inj (f1.symm.trans k4)
  subst hcA
  generalize hH1 : H.push ({ cls := g.2.2.1 4, slots := Array.replicate N .null, vm := .none } : Cell) = H1
  have z1 : H1.size = H.size + 1 := by rw [← hH1, Array.size_push]
  have e1 : H1[H.size]? = some (arrV (g.2.2.1 4) N (fun _ => .null)) := by rw [← hH1, Array.getElem?_push_size, ← arrV_new]
  have o1 : ∀ q : Nat, q < H.size → H1[q]? = H[q]? := fun q hq => by rw [← hH1, Array.getElem?_push, if_neg (Nat.ne_of_lt hq)]
  have hE := kk H1 locs ls (pRel_new hR hlen z1 o1 ?_) (pS_new hS z1 o1) hl
  · rw [← hp]; exact hE
  · show H1[pad g S.length]? = some (vp_cell (g.2.2.1 4) (N, parr g 4 (zero M S.length) S.length))
    have e2 : (fun _ : Nat => Value.null) = (fun j => va_rf ((mR (zero M S.length) S.length j).map (pad g))) := by funext q; simp [mR, zero]; rfl
    rw [hp, e1, e2]
    rfl
theorem e_mmin (C : pCx g y cc nL ret d k n X) {i : Nat} {x z : Int} (hs : Cond.methodLink y.cls i Lib.Math.min.name ∈ pgood ∧ Cond.static Lib.Math.min.name ∈ pgood ∧ Cond.initialized "java/lang/Math" ∈ pgood ∧ Cond.code Lib.Math.min.name Lib.Math.min.code 2 (some .int) ∈ pgood) (hd : decode cc pc = .ok (.invokestatic i, 3)) (hx : -2147483648 ≤ x ∧ x < 2147483648) (hz : -2147483648 ≤ z ∧ z < 2147483648) (kk : pE g nL X Qf S M cs sl (pc + 3) L (.inl (if z < x then z else x) :: st)) (h0 : 0 < d := by decide) (hk : cs ≤ k ∧ sl ≤ n := by decide) (hw : Nat.ble (pcs st) 8 = true := by rfl) : pE g nL X Qf S M cs sl pc L (.inl z :: .inl x :: st) := by
  obtain ⟨p, l, e, R, s, m, args, below, meth, c⟩ := X
  intro H locs ls hR hS hl
  have h1 := C.2.2.2.2.2.2.2.2.2.2.2.2.1
  have h2 := C.2.2.2.2.2.2.2.2.2.2.2.2.2.1
  have h3 := Nat.le_of_ble_eq_true hw
  have h4 := C.2.2.2.2.2.2.2.2.2.2.2.2.2.2.1
  have h5 := C.2.2.2.2.2.2.2.2.2.2.2.2.2.2.2
  refine va_mmin C.1 C.2.1 (C.2.2.1.trans hl.1.symm) C.2.2.2.1 (C.2.2.2.2.1 _ hs.1) (C.2.2.2.2.1 _ hs.2.1) (C.2.2.2.2.1 _ hs.2.2.1) (C.2.2.2.2.1 _ hs.2.2.2) (by omega) (by show ((st.map (prv g)).map fun v => v.category).sum + _ ≤ _; rw [pcs_eq]; omega) (by omega) (by omega) hd ?_
  have hE := kk H locs ls hR hS hl
  by_cases hc : z < x
  · rw [if_pos hc] at hE; rw [if_pos ((i32_lt hz hx).mpr hc)]; exact hE
  · rw [if_neg hc] at hE; rw [if_neg (fun q => hc ((i32_lt hz hx).mp q))]; exact hE
theorem e_mmax (C : pCx g y cc nL ret d k n X) {i : Nat} {x z : Int} (hs : Cond.methodLink y.cls i Lib.Math.max.name ∈ pgood ∧ Cond.static Lib.Math.max.name ∈ pgood ∧ Cond.initialized "java/lang/Math" ∈ pgood ∧ Cond.code Lib.Math.max.name Lib.Math.max.code 2 (some .int) ∈ pgood) (hd : decode cc pc = .ok (.invokestatic i, 3)) (hx : -2147483648 ≤ x ∧ x < 2147483648) (hz : -2147483648 ≤ z ∧ z < 2147483648) (kk : pE g nL X Qf S M cs sl (pc + 3) L (.inl (if x < z then z else x) :: st)) (h0 : 0 < d := by decide) (hk : cs ≤ k ∧ sl ≤ n := by decide) (hw : Nat.ble (pcs st) 8 = true := by rfl) : pE g nL X Qf S M cs sl pc L (.inl z :: .inl x :: st) := by
  obtain ⟨p, l, e, R, s, m, args, below, meth, c⟩ := X
  intro H locs ls hR hS hl
  have h1 := C.2.2.2.2.2.2.2.2.2.2.2.2.1
  have h2 := C.2.2.2.2.2.2.2.2.2.2.2.2.2.1
  have h3 := Nat.le_of_ble_eq_true hw
  have h4 := C.2.2.2.2.2.2.2.2.2.2.2.2.2.2.1
  have h5 := C.2.2.2.2.2.2.2.2.2.2.2.2.2.2.2
  refine va_mmax C.1 C.2.1 (C.2.2.1.trans hl.1.symm) C.2.2.2.1 (C.2.2.2.2.1 _ hs.1) (C.2.2.2.2.1 _ hs.2.1) (C.2.2.2.2.1 _ hs.2.2.1) (C.2.2.2.2.1 _ hs.2.2.2) (by omega) (by show ((st.map (prv g)).map fun v => v.category).sum + _ ≤ _; rw [pcs_eq]; omega) (by omega) (by omega) hd ?_
  have hE := kk H locs ls hR hS hl
  by_cases hc : x < z
  · rw [if_pos hc] at hE; rw [if_pos ((i32_lt hx hz).mpr hc)]; exact hE
  · rw [if_neg hc] at hE; rw [if_neg (fun q => hc ((i32_lt hx hz).mp q))]; exact hE
theorem e_mminL (C : pCx g y cc nL ret d k n X) {i : Nat} {x z : Int} (hs : Cond.methodLink y.cls i Lib.MathLoose.min_long.x ∈ pgood ∧ Cond.static Lib.MathLoose.min_long.x ∈ pgood ∧ Cond.initialized "java/lang/Math" ∈ pgood ∧ Cond.code Lib.MathLoose.min_long.x Lib.MathLoose.min_long.code 4 (some .long) ∈ pgood) (hd : decode cc pc = .ok (.invokestatic i, 3)) (hx : -9223372036854775808 ≤ x ∧ x < 9223372036854775808) (hz : -9223372036854775808 ≤ z ∧ z < 9223372036854775808) (kk : pE g nL X Qf S M cs sl (pc + 3) L (.inr (.inl (if z < x then z else x)) :: st)) (h0 : 0 < d := by decide) (hk : cs ≤ k ∧ sl ≤ n := by decide) (hw : Nat.ble (pcs st) 8 = true := by rfl) : pE g nL X Qf S M cs sl pc L (.inr (.inl z) :: .inr (.inl x) :: st) := by
  obtain ⟨p, l, e, R, s, m, args, below, meth, c⟩ := X
  intro H locs ls hR hS hl
  have h1 := C.2.2.2.2.2.2.2.2.2.2.2.2.1
  have h2 := C.2.2.2.2.2.2.2.2.2.2.2.2.2.1
  have h3 := Nat.le_of_ble_eq_true hw
  have h4 := C.2.2.2.2.2.2.2.2.2.2.2.2.2.2.1
  have h5 := C.2.2.2.2.2.2.2.2.2.2.2.2.2.2.2
  refine va_mmin_long C.1 C.2.1 (C.2.2.1.trans hl.1.symm) C.2.2.2.1 (C.2.2.2.2.1 _ hs.1) (C.2.2.2.2.1 _ hs.2.1) (C.2.2.2.2.1 _ hs.2.2.1) (C.2.2.2.2.1 _ hs.2.2.2) (by omega) (by show ((st.map (prv g)).map fun v => v.category).sum + _ ≤ _; rw [pcs_eq]; omega) (by omega) (by omega) hd ?_
  have hE := kk H locs ls hR hS hl
  by_cases hc : z < x
  · rw [if_pos hc] at hE; rw [if_pos ((i64_lt hz hx).mpr hc)]; exact hE
  · rw [if_neg hc] at hE; rw [if_neg (fun q => hc ((i64_lt hz hx).mp q))]; exact hE
theorem e_mabs (C : pCx g y cc nL ret d k n X) {i : Nat} {x : Int} (hs : Cond.methodLink y.cls i Lib.Math.abs.name ∈ pgood ∧ Cond.static Lib.Math.abs.name ∈ pgood ∧ Cond.initialized "java/lang/Math" ∈ pgood ∧ Cond.code Lib.Math.abs.name Lib.Math.abs.code 1 (some .int) ∈ pgood) (hd : decode cc pc = .ok (.invokestatic i, 3)) (hx : -2147483648 ≤ x ∧ x < 2147483648) (kk : pE g nL X Qf S M cs sl (pc + 3) L (.inl (x.natAbs : Int) :: st)) (h0 : 0 < d := by decide) (hk : cs ≤ k ∧ sl ≤ n := by decide) (hw : Nat.ble (pcs st) 8 = true := by rfl) : pE g nL X Qf S M cs sl pc L (.inl x :: st) := by
  obtain ⟨p, l, e, R, s, m, args, below, meth, c⟩ := X
  intro H locs ls hR hS hl
  have h1 := C.2.2.2.2.2.2.2.2.2.2.2.2.1
  have h2 := C.2.2.2.2.2.2.2.2.2.2.2.2.2.1
  have h3 := Nat.le_of_ble_eq_true hw
  have h4 := C.2.2.2.2.2.2.2.2.2.2.2.2.2.2.1
  have h5 := C.2.2.2.2.2.2.2.2.2.2.2.2.2.2.2
  refine va_mabs C.1 C.2.1 (C.2.2.1.trans hl.1.symm) C.2.2.2.1 (C.2.2.2.2.1 _ hs.1) (C.2.2.2.2.1 _ hs.2.1) (C.2.2.2.2.1 _ hs.2.2.1) (C.2.2.2.2.1 _ hs.2.2.2) (by omega) (by show ((st.map (prv g)).map fun v => v.category).sum + _ ≤ _; rw [pcs_eq]; omega) (by omega) (by omega) hd ?_
  have hE := kk H locs ls hR hS hl
  have hz : i32 0 := by unfold i32; omega
  by_cases hc : 0 ≤ x
  · rw [if_pos (by rw [← i32_0]; exact (i32_le hz hx).mpr hc)]
    rw [show (x.natAbs : Int) = x by omega] at hE; exact hE
  · rw [if_neg (by rw [← i32_0]; exact fun q => hc ((i32_le hz hx).mp q))]
    rw [show (x.natAbs : Int) = 0 - x by omega] at hE
    rw [← i32_0, ← Int32.ofInt_sub]; exact hE
end PC
end
section
theorem pg_t {w : Cond} (h : w ∈ tables_1) (hg : goodWord w = true) : w ∈ pgood := List.mem_filter.mpr ⟨List.mem_append_right _ h, hg⟩
theorem pg_t1 (i : Nat) {w : Cond} (h : tables_1_1[i]? = some w) (hg : goodWord w = true) : w ∈ pgood := pg_t (List.mem_append_left _ (List.mem_of_getElem? h)) hg
theorem pg_t2 (i : Nat) {w : Cond} (h : tables_1_2[i]? = some w) (hg : goodWord w = true) : w ∈ pgood := pg_t (List.mem_append_right _ (List.mem_append_left _ (List.mem_of_getElem? h))) hg
theorem pg_t3 (i : Nat) {w : Cond} (h : tables_1_3[i]? = some w) (hg : goodWord w = true) : w ∈ pgood := pg_t (List.mem_append_right _ (List.mem_append_right _ (List.mem_append_left _ (List.mem_of_getElem? h)))) hg
theorem pg_t4 (i : Nat) {w : Cond} (h : tables_1_4[i]? = some w) (hg : goodWord w = true) : w ∈ pgood := pg_t (List.mem_append_right _ (List.mem_append_right _ (List.mem_append_right _ (List.mem_of_getElem? h)))) hg
theorem pg_s {w : Cond} (i : Nat) (h : (k2_sels lw_privs)[i]? = some w) (hg : goodWord w = true) : w ∈ pgood := List.mem_filter.mpr ⟨List.mem_append_left _ (List.mem_of_getElem? h), hg⟩
theorem pcw0 : ∀ w ∈ u_ws RX0 TX0 3, w ∈ pgood := by
  intro w hw
  obtain ⟨j, hj, rfl⟩ := List.mem_map.mp hw
  have hj := List.mem_range.mp hj
  match j, hj with
  | 0, _ => exact (pg_t1 176 rfl rfl)
  | 1, _ => exact (pg_t1 178 rfl rfl)
  | 2, _ => exact (pg_t1 180 rfl rfl)
  | q + 3, h => exact absurd h (by omega)
theorem pcl0 : pCl 0 RX0 TX0 := ⟨rfl, pcw0, tyX0_ok, nmX0, fun j hj => by
  have hj : j < 3 := hj
  match j, hj with
  | 0, _ => rfl
  | 1, _ => rfl
  | 2, _ => rfl
  | q + 3, h => exact absurd h (by omega)
  ⟩
theorem pcw1 : ∀ w ∈ u_ws RX1 TX1 19, w ∈ pgood := by
  intro w hw
  obtain ⟨j, hj, rfl⟩ := List.mem_map.mp hw
  have hj := List.mem_range.mp hj
  match j, hj with
  | 0, _ => exact (pg_t1 51 rfl rfl)
  | 1, _ => exact (pg_t1 53 rfl rfl)
  | 2, _ => exact (pg_t1 55 rfl rfl)
  | 3, _ => exact (pg_t1 57 rfl rfl)
  | 4, _ => exact (pg_t1 59 rfl rfl)
  | 5, _ => exact (pg_t1 61 rfl rfl)
  | 6, _ => exact (pg_t1 63 rfl rfl)
  | 7, _ => exact (pg_t1 65 rfl rfl)
  | 8, _ => exact (pg_t1 67 rfl rfl)
  | 9, _ => exact (pg_t1 69 rfl rfl)
  | 10, _ => exact (pg_t1 71 rfl rfl)
  | 11, _ => exact (pg_t1 73 rfl rfl)
  | 12, _ => exact (pg_t1 75 rfl rfl)
  | 13, _ => exact (pg_t1 77 rfl rfl)
  | 14, _ => exact (pg_t1 79 rfl rfl)
  | 15, _ => exact (pg_t1 81 rfl rfl)
  | 16, _ => exact (pg_t1 83 rfl rfl)
  | 17, _ => exact (pg_t1 85 rfl rfl)
  | 18, _ => exact (pg_t1 87 rfl rfl)
  | q + 19, h => exact absurd h (by omega)
theorem pcl1 : pCl 1 RX1 TX1 := ⟨rfl, pcw1, tyX1_ok, nmX1, fun j hj => by
  have hj : j < 19 := hj
  match j, hj with
  | 0, _ => rfl
  | 1, _ => rfl
  | 2, _ => rfl
  | 3, _ => rfl
  | 4, _ => rfl
  | 5, _ => rfl
  | 6, _ => rfl
  | 7, _ => rfl
  | 8, _ => rfl
  | 9, _ => rfl
  | 10, _ => rfl
  | 11, _ => rfl
  | 12, _ => rfl
  | 13, _ => rfl
  | 14, _ => rfl
  | 15, _ => rfl
  | 16, _ => rfl
  | 17, _ => rfl
  | 18, _ => rfl
  | q + 19, h => exact absurd h (by omega)
  ⟩
theorem pcw2 : ∀ w ∈ u_ws RX2 TX2 3, w ∈ pgood := by
  intro w hw
  obtain ⟨j, hj, rfl⟩ := List.mem_map.mp hw
  have hj := List.mem_range.mp hj
  match j, hj with
  | 0, _ => exact (pg_t1 102 rfl rfl)
  | 1, _ => exact (pg_t1 104 rfl rfl)
  | 2, _ => exact (pg_t1 106 rfl rfl)
  | q + 3, h => exact absurd h (by omega)
theorem pcl2 : pCl 2 RX2 TX2 := ⟨rfl, pcw2, tyX2_ok, nmX2, fun j hj => by
  have hj : j < 3 := hj
  match j, hj with
  | 0, _ => rfl
  | 1, _ => rfl
  | 2, _ => rfl
  | q + 3, h => exact absurd h (by omega)
  ⟩
theorem pcw3 : ∀ w ∈ u_ws RX3 TX3 3, w ∈ pgood := by
  intro w hw
  obtain ⟨j, hj, rfl⟩ := List.mem_map.mp hw
  have hj := List.mem_range.mp hj
  match j, hj with
  | 0, _ => exact (pg_t1 119 rfl rfl)
  | 1, _ => exact (pg_t1 121 rfl rfl)
  | 2, _ => exact (pg_t1 123 rfl rfl)
  | q + 3, h => exact absurd h (by omega)
theorem pcl3 : pCl 3 RX3 TX3 := ⟨rfl, pcw3, tyX3_ok, nmX3, fun j hj => by
  have hj : j < 3 := hj
  match j, hj with
  | 0, _ => rfl
  | 1, _ => rfl
  | 2, _ => rfl
  | q + 3, h => exact absurd h (by omega)
  ⟩
theorem pcw4 : ∀ w ∈ u_ws RX4 TX4 5, w ∈ pgood := by
  intro w hw
  obtain ⟨j, hj, rfl⟩ := List.mem_map.mp hw
  have hj := List.mem_range.mp hj
  match j, hj with
  | 0, _ => exact (pg_t1 157 rfl rfl)
  | 1, _ => exact (pg_t1 159 rfl rfl)
  | 2, _ => exact (pg_t1 161 rfl rfl)
  | 3, _ => exact (pg_t1 163 rfl rfl)
  | 4, _ => exact (pg_t1 165 rfl rfl)
  | q + 5, h => exact absurd h (by omega)
theorem pcl4 : pCl 4 RX4 TX4 := ⟨rfl, pcw4, tyX4_ok, nmX4, fun j hj => by
  have hj : j < 5 := hj
  match j, hj with
  | 0, _ => rfl
  | 1, _ => rfl
  | 2, _ => rfl
  | 3, _ => rfl
  | 4, _ => rfl
  | q + 5, h => exact absurd h (by omega)
  ⟩
theorem pcw5 : ∀ w ∈ u_ws RX5 TX5 16, w ∈ pgood := by
  intro w hw
  obtain ⟨j, hj, rfl⟩ := List.mem_map.mp hw
  have hj := List.mem_range.mp hj
  match j, hj with
  | 0, _ => exact (pg_t1 209 rfl rfl)
  | 1, _ => exact (pg_t1 211 rfl rfl)
  | 2, _ => exact (pg_t1 213 rfl rfl)
  | 3, _ => exact (pg_t1 215 rfl rfl)
  | 4, _ => exact (pg_t1 217 rfl rfl)
  | 5, _ => exact (pg_t1 219 rfl rfl)
  | 6, _ => exact (pg_t1 221 rfl rfl)
  | 7, _ => exact (pg_t1 223 rfl rfl)
  | 8, _ => exact (pg_t1 225 rfl rfl)
  | 9, _ => exact (pg_t1 227 rfl rfl)
  | 10, _ => exact (pg_t1 229 rfl rfl)
  | 11, _ => exact (pg_t1 231 rfl rfl)
  | 12, _ => exact (pg_t1 233 rfl rfl)
  | 13, _ => exact (pg_t1 235 rfl rfl)
  | 14, _ => exact (pg_t1 237 rfl rfl)
  | 15, _ => exact (pg_t1 239 rfl rfl)
  | q + 16, h => exact absurd h (by omega)
theorem pcl5 : pCl 5 RX5 TX5 := ⟨rfl, pcw5, tyX5_ok, nmX5, fun j hj => by
  have hj : j < 16 := hj
  match j, hj with
  | 0, _ => rfl
  | 1, _ => rfl
  | 2, _ => rfl
  | 3, _ => rfl
  | 4, _ => rfl
  | 5, _ => rfl
  | 6, _ => rfl
  | 7, _ => rfl
  | 8, _ => rfl
  | 9, _ => rfl
  | 10, _ => rfl
  | 11, _ => rfl
  | 12, _ => rfl
  | 13, _ => rfl
  | 14, _ => rfl
  | 15, _ => rfl
  | q + 16, h => exact absurd h (by omega)
  ⟩
theorem pcw6 : ∀ w ∈ u_ws RX6 TX6 39, w ∈ pgood := by
  intro w hw
  obtain ⟨j, hj, rfl⟩ := List.mem_map.mp hw
  have hj := List.mem_range.mp hj
  match j, hj with
  | 0, _ => exact (pg_t3 68 rfl rfl)
  | 1, _ => exact (pg_t3 70 rfl rfl)
  | 2, _ => exact (pg_t3 72 rfl rfl)
  | 3, _ => exact (pg_t3 74 rfl rfl)
  | 4, _ => exact (pg_t3 76 rfl rfl)
  | 5, _ => exact (pg_t3 78 rfl rfl)
  | 6, _ => exact (pg_t3 80 rfl rfl)
  | 7, _ => exact (pg_t3 82 rfl rfl)
  | 8, _ => exact (pg_t3 84 rfl rfl)
  | 9, _ => exact (pg_t3 86 rfl rfl)
  | 10, _ => exact (pg_t3 88 rfl rfl)
  | 11, _ => exact (pg_t3 90 rfl rfl)
  | 12, _ => exact (pg_t3 92 rfl rfl)
  | 13, _ => exact (pg_t3 94 rfl rfl)
  | 14, _ => exact (pg_t3 96 rfl rfl)
  | 15, _ => exact (pg_t3 98 rfl rfl)
  | 16, _ => exact (pg_t3 100 rfl rfl)
  | 17, _ => exact (pg_t3 102 rfl rfl)
  | 18, _ => exact (pg_t3 104 rfl rfl)
  | 19, _ => exact (pg_t3 106 rfl rfl)
  | 20, _ => exact (pg_t3 108 rfl rfl)
  | 21, _ => exact (pg_t3 110 rfl rfl)
  | 22, _ => exact (pg_t3 112 rfl rfl)
  | 23, _ => exact (pg_t3 114 rfl rfl)
  | 24, _ => exact (pg_t3 116 rfl rfl)
  | 25, _ => exact (pg_t3 118 rfl rfl)
  | 26, _ => exact (pg_t3 120 rfl rfl)
  | 27, _ => exact (pg_t3 122 rfl rfl)
  | 28, _ => exact (pg_t3 124 rfl rfl)
  | 29, _ => exact (pg_t3 126 rfl rfl)
  | 30, _ => exact (pg_t3 128 rfl rfl)
  | 31, _ => exact (pg_t3 130 rfl rfl)
  | 32, _ => exact (pg_t3 132 rfl rfl)
  | 33, _ => exact (pg_t3 134 rfl rfl)
  | 34, _ => exact (pg_t3 136 rfl rfl)
  | 35, _ => exact (pg_t3 138 rfl rfl)
  | 36, _ => exact (pg_t3 140 rfl rfl)
  | 37, _ => exact (pg_t3 142 rfl rfl)
  | 38, _ => exact (pg_t3 144 rfl rfl)
  | q + 39, h => exact absurd h (by omega)
theorem pcl6 : pCl 6 RX6 TX6 := ⟨rfl, pcw6, tyX6_ok, nmX6, fun j hj => by
  have hj : j < 39 := hj
  match j, hj with
  | 0, _ => rfl
  | 1, _ => rfl
  | 2, _ => rfl
  | 3, _ => rfl
  | 4, _ => rfl
  | 5, _ => rfl
  | 6, _ => rfl
  | 7, _ => rfl
  | 8, _ => rfl
  | 9, _ => rfl
  | 10, _ => rfl
  | 11, _ => rfl
  | 12, _ => rfl
  | 13, _ => rfl
  | 14, _ => rfl
  | 15, _ => rfl
  | 16, _ => rfl
  | 17, _ => rfl
  | 18, _ => rfl
  | 19, _ => rfl
  | 20, _ => rfl
  | 21, _ => rfl
  | 22, _ => rfl
  | 23, _ => rfl
  | 24, _ => rfl
  | 25, _ => rfl
  | 26, _ => rfl
  | 27, _ => rfl
  | 28, _ => rfl
  | 29, _ => rfl
  | 30, _ => rfl
  | 31, _ => rfl
  | 32, _ => rfl
  | 33, _ => rfl
  | 34, _ => rfl
  | 35, _ => rfl
  | 36, _ => rfl
  | 37, _ => rfl
  | 38, _ => rfl
  | q + 39, h => exact absurd h (by omega)
  ⟩
theorem f_X1_9 : pFl "PaperKinds$Layer" 9 1 0 := ⟨RX1, TX1, pcl1, by decide, (pg_t1 27 rfl rfl)⟩
theorem f_X5_114 : pFl "PaperKinds" 114 1 0 := ⟨RX1, TX1, pcl1, by decide, (pg_t1 28 rfl rfl)⟩
theorem f_X1_15 : pFl "PaperKinds$Layer" 15 1 1 := ⟨RX1, TX1, pcl1, by decide, (pg_t1 29 rfl rfl)⟩
theorem f_X5_117 : pFl "PaperKinds" 117 1 1 := ⟨RX1, TX1, pcl1, by decide, (pg_t1 30 rfl rfl)⟩
theorem f_X1_18 : pFl "PaperKinds$Layer" 18 1 2 := ⟨RX1, TX1, pcl1, by decide, (pg_t1 31 rfl rfl)⟩
theorem f_X5_120 : pFl "PaperKinds" 120 1 2 := ⟨RX1, TX1, pcl1, by decide, (pg_t1 32 rfl rfl)⟩
theorem f_X1_21 : pFl "PaperKinds$Layer" 21 1 3 := ⟨RX1, TX1, pcl1, by decide, (pg_t1 33 rfl rfl)⟩
theorem f_X5_123 : pFl "PaperKinds" 123 1 3 := ⟨RX1, TX1, pcl1, by decide, (pg_t1 34 rfl rfl)⟩
theorem f_X1_24 : pFl "PaperKinds$Layer" 24 1 4 := ⟨RX1, TX1, pcl1, by decide, (pg_t1 35 rfl rfl)⟩
theorem f_X5_126 : pFl "PaperKinds" 126 1 4 := ⟨RX1, TX1, pcl1, by decide, (pg_t1 36 rfl rfl)⟩
theorem f_X1_27 : pFl "PaperKinds$Layer" 27 1 5 := ⟨RX1, TX1, pcl1, by decide, (pg_t1 37 rfl rfl)⟩
theorem f_X1_30 : pFl "PaperKinds$Layer" 30 1 6 := ⟨RX1, TX1, pcl1, by decide, (pg_t1 38 rfl rfl)⟩
theorem f_X1_33 : pFl "PaperKinds$Layer" 33 1 7 := ⟨RX1, TX1, pcl1, by decide, (pg_t1 39 rfl rfl)⟩
theorem f_X1_37 : pFl "PaperKinds$Layer" 37 1 8 := ⟨RX1, TX1, pcl1, by decide, (pg_t1 40 rfl rfl)⟩
theorem f_X1_41 : pFl "PaperKinds$Layer" 41 1 9 := ⟨RX1, TX1, pcl1, by decide, (pg_t1 41 rfl rfl)⟩
theorem f_X1_45 : pFl "PaperKinds$Layer" 45 1 10 := ⟨RX1, TX1, pcl1, by decide, (pg_t1 42 rfl rfl)⟩
theorem f_X1_48 : pFl "PaperKinds$Layer" 48 1 11 := ⟨RX1, TX1, pcl1, by decide, (pg_t1 43 rfl rfl)⟩
theorem f_X1_52 : pFl "PaperKinds$Layer" 52 1 12 := ⟨RX1, TX1, pcl1, by decide, (pg_t1 44 rfl rfl)⟩
theorem f_X1_55 : pFl "PaperKinds$Layer" 55 1 13 := ⟨RX1, TX1, pcl1, by decide, (pg_t1 45 rfl rfl)⟩
theorem f_X1_58 : pFl "PaperKinds$Layer" 58 1 14 := ⟨RX1, TX1, pcl1, by decide, (pg_t1 46 rfl rfl)⟩
theorem f_X1_61 : pFl "PaperKinds$Layer" 61 1 15 := ⟨RX1, TX1, pcl1, by decide, (pg_t1 47 rfl rfl)⟩
theorem f_X1_64 : pFl "PaperKinds$Layer" 64 1 16 := ⟨RX1, TX1, pcl1, by decide, (pg_t1 48 rfl rfl)⟩
theorem f_X1_67 : pFl "PaperKinds$Layer" 67 1 17 := ⟨RX1, TX1, pcl1, by decide, (pg_t1 49 rfl rfl)⟩
theorem f_X1_70 : pFl "PaperKinds$Layer" 70 1 18 := ⟨RX1, TX1, pcl1, by decide, (pg_t1 50 rfl rfl)⟩
theorem f_X2_9 : pFl "PaperKinds$Maker" 9 2 0 := ⟨RX2, TX2, pcl2, by decide, (pg_t1 99 rfl rfl)⟩
theorem f_X2_15 : pFl "PaperKinds$Maker" 15 2 1 := ⟨RX2, TX2, pcl2, by decide, (pg_t1 100 rfl rfl)⟩
theorem f_X2_18 : pFl "PaperKinds$Maker" 18 2 2 := ⟨RX2, TX2, pcl2, by decide, (pg_t1 101 rfl rfl)⟩
theorem f_X3_9 : pFl "PaperKinds$Ranking" 9 3 0 := ⟨RX3, TX3, pcl3, by decide, (pg_t1 116 rfl rfl)⟩
theorem f_X3_16 : pFl "PaperKinds$Ranking" 16 3 1 := ⟨RX3, TX3, pcl3, by decide, (pg_t1 117 rfl rfl)⟩
theorem f_X3_19 : pFl "PaperKinds$Ranking" 19 3 2 := ⟨RX3, TX3, pcl3, by decide, (pg_t1 118 rfl rfl)⟩
theorem f_X4_15 : pFl "PaperKinds$Sheet" 15 4 0 := ⟨RX4, TX4, pcl4, by decide, (pg_t1 137 rfl rfl)⟩
theorem f_X1_98 : pFl "PaperKinds$Layer" 98 4 0 := ⟨RX4, TX4, pcl4, by decide, (pg_t1 138 rfl rfl)⟩
theorem f_X2_55 : pFl "PaperKinds$Maker" 55 4 0 := ⟨RX4, TX4, pcl4, by decide, (pg_t1 139 rfl rfl)⟩
theorem f_X5_137 : pFl "PaperKinds" 137 4 0 := ⟨RX4, TX4, pcl4, by decide, (pg_t1 140 rfl rfl)⟩
theorem f_X4_19 : pFl "PaperKinds$Sheet" 19 4 1 := ⟨RX4, TX4, pcl4, by decide, (pg_t1 141 rfl rfl)⟩
theorem f_X1_101 : pFl "PaperKinds$Layer" 101 4 1 := ⟨RX4, TX4, pcl4, by decide, (pg_t1 142 rfl rfl)⟩
theorem f_X2_62 : pFl "PaperKinds$Maker" 62 4 1 := ⟨RX4, TX4, pcl4, by decide, (pg_t1 143 rfl rfl)⟩
theorem f_X5_140 : pFl "PaperKinds" 140 4 1 := ⟨RX4, TX4, pcl4, by decide, (pg_t1 144 rfl rfl)⟩
theorem f_X4_22 : pFl "PaperKinds$Sheet" 22 4 2 := ⟨RX4, TX4, pcl4, by decide, (pg_t1 145 rfl rfl)⟩
theorem f_X1_104 : pFl "PaperKinds$Layer" 104 4 2 := ⟨RX4, TX4, pcl4, by decide, (pg_t1 146 rfl rfl)⟩
theorem f_X2_67 : pFl "PaperKinds$Maker" 67 4 2 := ⟨RX4, TX4, pcl4, by decide, (pg_t1 147 rfl rfl)⟩
theorem f_X5_143 : pFl "PaperKinds" 143 4 2 := ⟨RX4, TX4, pcl4, by decide, (pg_t1 148 rfl rfl)⟩
theorem f_X4_25 : pFl "PaperKinds$Sheet" 25 4 3 := ⟨RX4, TX4, pcl4, by decide, (pg_t1 149 rfl rfl)⟩
theorem f_X1_95 : pFl "PaperKinds$Layer" 95 4 3 := ⟨RX4, TX4, pcl4, by decide, (pg_t1 150 rfl rfl)⟩
theorem f_X5_146 : pFl "PaperKinds" 146 4 3 := ⟨RX4, TX4, pcl4, by decide, (pg_t1 151 rfl rfl)⟩
theorem f_X4_9 : pFl "PaperKinds$Sheet" 9 4 4 := ⟨RX4, TX4, pcl4, by decide, (pg_t1 152 rfl rfl)⟩
theorem f_X1_74 : pFl "PaperKinds$Layer" 74 4 4 := ⟨RX4, TX4, pcl4, by decide, (pg_t1 153 rfl rfl)⟩
theorem f_X0_28 : pFl "PaperKinds$Kind" 28 4 4 := ⟨RX4, TX4, pcl4, by decide, (pg_t1 154 rfl rfl)⟩
theorem f_X5_93 : pFl "PaperKinds" 93 4 4 := ⟨RX4, TX4, pcl4, by decide, (pg_t1 155 rfl rfl)⟩
theorem f_X2_52 : pFl "PaperKinds$Maker" 52 4 4 := ⟨RX4, TX4, pcl4, by decide, (pg_t1 156 rfl rfl)⟩
theorem f_X0_14 : pFl "PaperKinds$Kind" 14 0 0 := ⟨RX0, TX0, pcl0, by decide, (pg_t1 168 rfl rfl)⟩
theorem f_X2_38 : pFl "PaperKinds$Maker" 38 0 0 := ⟨RX0, TX0, pcl0, by decide, (pg_t1 169 rfl rfl)⟩
theorem f_X5_133 : pFl "PaperKinds" 133 0 0 := ⟨RX0, TX0, pcl0, by decide, (pg_t1 170 rfl rfl)⟩
theorem f_X0_20 : pFl "PaperKinds$Kind" 20 0 1 := ⟨RX0, TX0, pcl0, by decide, (pg_t1 171 rfl rfl)⟩
theorem f_X5_214 : pFl "PaperKinds" 214 0 1 := ⟨RX0, TX0, pcl0, by decide, (pg_t1 172 rfl rfl)⟩
theorem f_X0_24 : pFl "PaperKinds$Kind" 24 0 2 := ⟨RX0, TX0, pcl0, by decide, (pg_t1 173 rfl rfl)⟩
theorem f_X2_30 : pFl "PaperKinds$Maker" 30 0 2 := ⟨RX0, TX0, pcl0, by decide, (pg_t1 174 rfl rfl)⟩
theorem f_X5_132 : pFl "PaperKinds" 132 0 2 := ⟨RX0, TX0, pcl0, by decide, (pg_t1 175 rfl rfl)⟩
theorem f_X5_11 : pFl "PaperKinds" 11 5 0 := ⟨RX5, TX5, pcl5, by decide, (pg_t1 193 rfl rfl)⟩
theorem f_X5_15 : pFl "PaperKinds" 15 5 1 := ⟨RX5, TX5, pcl5, by decide, (pg_t1 194 rfl rfl)⟩
theorem f_X5_21 : pFl "PaperKinds" 21 5 2 := ⟨RX5, TX5, pcl5, by decide, (pg_t1 195 rfl rfl)⟩
theorem f_X5_28 : pFl "PaperKinds" 28 5 3 := ⟨RX5, TX5, pcl5, by decide, (pg_t1 196 rfl rfl)⟩
theorem f_X5_35 : pFl "PaperKinds" 35 5 4 := ⟨RX5, TX5, pcl5, by decide, (pg_t1 197 rfl rfl)⟩
theorem f_X5_42 : pFl "PaperKinds" 42 5 5 := ⟨RX5, TX5, pcl5, by decide, (pg_t1 198 rfl rfl)⟩
theorem f_X5_46 : pFl "PaperKinds" 46 5 6 := ⟨RX5, TX5, pcl5, by decide, (pg_t1 199 rfl rfl)⟩
theorem f_X5_49 : pFl "PaperKinds" 49 5 7 := ⟨RX5, TX5, pcl5, by decide, (pg_t1 200 rfl rfl)⟩
theorem f_X5_53 : pFl "PaperKinds" 53 5 8 := ⟨RX5, TX5, pcl5, by decide, (pg_t1 201 rfl rfl)⟩
theorem f_X5_57 : pFl "PaperKinds" 57 5 9 := ⟨RX5, TX5, pcl5, by decide, (pg_t1 202 rfl rfl)⟩
theorem f_X5_60 : pFl "PaperKinds" 60 5 10 := ⟨RX5, TX5, pcl5, by decide, (pg_t1 203 rfl rfl)⟩
theorem f_X5_63 : pFl "PaperKinds" 63 5 11 := ⟨RX5, TX5, pcl5, by decide, (pg_t1 204 rfl rfl)⟩
theorem f_X5_66 : pFl "PaperKinds" 66 5 12 := ⟨RX5, TX5, pcl5, by decide, (pg_t1 205 rfl rfl)⟩
theorem f_X5_70 : pFl "PaperKinds" 70 5 13 := ⟨RX5, TX5, pcl5, by decide, (pg_t1 206 rfl rfl)⟩
theorem f_X5_73 : pFl "PaperKinds" 73 5 14 := ⟨RX5, TX5, pcl5, by decide, (pg_t1 207 rfl rfl)⟩
theorem f_X5_76 : pFl "PaperKinds" 76 5 15 := ⟨RX5, TX5, pcl5, by decide, (pg_t1 208 rfl rfl)⟩
theorem fs_X5_226 : Cond.fieldLink "PaperKinds" 226 "PaperKinds" "BOX_UNITS" "[J" ∈ pgood := (pg_t2 161 rfl rfl)
theorem f_X6_99 : pFl "PaperKindsModel" 99 6 0 := ⟨RX6, TX6, pcl6, by decide, (pg_t3 29 rfl rfl)⟩
theorem f_X6_7 : pFl "PaperKindsModel" 7 6 1 := ⟨RX6, TX6, pcl6, by decide, (pg_t3 30 rfl rfl)⟩
theorem f_X6_13 : pFl "PaperKindsModel" 13 6 2 := ⟨RX6, TX6, pcl6, by decide, (pg_t3 31 rfl rfl)⟩
theorem f_X6_16 : pFl "PaperKindsModel" 16 6 3 := ⟨RX6, TX6, pcl6, by decide, (pg_t3 32 rfl rfl)⟩
theorem f_X6_19 : pFl "PaperKindsModel" 19 6 4 := ⟨RX6, TX6, pcl6, by decide, (pg_t3 33 rfl rfl)⟩
theorem f_X6_22 : pFl "PaperKindsModel" 22 6 5 := ⟨RX6, TX6, pcl6, by decide, (pg_t3 34 rfl rfl)⟩
theorem f_X6_25 : pFl "PaperKindsModel" 25 6 6 := ⟨RX6, TX6, pcl6, by decide, (pg_t3 35 rfl rfl)⟩
theorem f_X6_28 : pFl "PaperKindsModel" 28 6 7 := ⟨RX6, TX6, pcl6, by decide, (pg_t3 36 rfl rfl)⟩
theorem f_X6_32 : pFl "PaperKindsModel" 32 6 8 := ⟨RX6, TX6, pcl6, by decide, (pg_t3 37 rfl rfl)⟩
theorem f_X6_35 : pFl "PaperKindsModel" 35 6 9 := ⟨RX6, TX6, pcl6, by decide, (pg_t3 38 rfl rfl)⟩
theorem f_X6_106 : pFl "PaperKindsModel" 106 6 10 := ⟨RX6, TX6, pcl6, by decide, (pg_t3 39 rfl rfl)⟩
theorem f_X6_38 : pFl "PaperKindsModel" 38 6 11 := ⟨RX6, TX6, pcl6, by decide, (pg_t3 40 rfl rfl)⟩
theorem f_X6_41 : pFl "PaperKindsModel" 41 6 12 := ⟨RX6, TX6, pcl6, by decide, (pg_t3 41 rfl rfl)⟩
theorem f_X6_44 : pFl "PaperKindsModel" 44 6 13 := ⟨RX6, TX6, pcl6, by decide, (pg_t3 42 rfl rfl)⟩
theorem f_X6_47 : pFl "PaperKindsModel" 47 6 14 := ⟨RX6, TX6, pcl6, by decide, (pg_t3 43 rfl rfl)⟩
theorem f_X6_50 : pFl "PaperKindsModel" 50 6 15 := ⟨RX6, TX6, pcl6, by decide, (pg_t3 44 rfl rfl)⟩
theorem f_X6_53 : pFl "PaperKindsModel" 53 6 16 := ⟨RX6, TX6, pcl6, by decide, (pg_t3 45 rfl rfl)⟩
theorem f_X6_135 : pFl "PaperKindsModel" 135 6 17 := ⟨RX6, TX6, pcl6, by decide, (pg_t3 46 rfl rfl)⟩
theorem f_X6_57 : pFl "PaperKindsModel" 57 6 18 := ⟨RX6, TX6, pcl6, by decide, (pg_t3 47 rfl rfl)⟩
theorem f_X6_60 : pFl "PaperKindsModel" 60 6 19 := ⟨RX6, TX6, pcl6, by decide, (pg_t3 48 rfl rfl)⟩
theorem f_X6_63 : pFl "PaperKindsModel" 63 6 20 := ⟨RX6, TX6, pcl6, by decide, (pg_t3 49 rfl rfl)⟩
theorem f_X6_139 : pFl "PaperKindsModel" 139 6 21 := ⟨RX6, TX6, pcl6, by decide, (pg_t3 50 rfl rfl)⟩
theorem f_X6_66 : pFl "PaperKindsModel" 66 6 22 := ⟨RX6, TX6, pcl6, by decide, (pg_t3 51 rfl rfl)⟩
theorem f_X6_69 : pFl "PaperKindsModel" 69 6 23 := ⟨RX6, TX6, pcl6, by decide, (pg_t3 52 rfl rfl)⟩
theorem f_X6_72 : pFl "PaperKindsModel" 72 6 24 := ⟨RX6, TX6, pcl6, by decide, (pg_t3 53 rfl rfl)⟩
theorem f_X6_75 : pFl "PaperKindsModel" 75 6 25 := ⟨RX6, TX6, pcl6, by decide, (pg_t3 54 rfl rfl)⟩
theorem f_X6_78 : pFl "PaperKindsModel" 78 6 26 := ⟨RX6, TX6, pcl6, by decide, (pg_t3 55 rfl rfl)⟩
theorem f_X6_81 : pFl "PaperKindsModel" 81 6 27 := ⟨RX6, TX6, pcl6, by decide, (pg_t3 56 rfl rfl)⟩
theorem f_X6_146 : pFl "PaperKindsModel" 146 6 28 := ⟨RX6, TX6, pcl6, by decide, (pg_t3 57 rfl rfl)⟩
theorem f_X6_152 : pFl "PaperKindsModel" 152 6 29 := ⟨RX6, TX6, pcl6, by decide, (pg_t3 58 rfl rfl)⟩
theorem f_X6_155 : pFl "PaperKindsModel" 155 6 30 := ⟨RX6, TX6, pcl6, by decide, (pg_t3 59 rfl rfl)⟩
theorem f_X6_84 : pFl "PaperKindsModel" 84 6 31 := ⟨RX6, TX6, pcl6, by decide, (pg_t3 60 rfl rfl)⟩
theorem f_X6_87 : pFl "PaperKindsModel" 87 6 32 := ⟨RX6, TX6, pcl6, by decide, (pg_t3 61 rfl rfl)⟩
theorem f_X6_90 : pFl "PaperKindsModel" 90 6 33 := ⟨RX6, TX6, pcl6, by decide, (pg_t3 62 rfl rfl)⟩
theorem f_X6_177 : pFl "PaperKindsModel" 177 6 34 := ⟨RX6, TX6, pcl6, by decide, (pg_t3 63 rfl rfl)⟩
theorem f_X6_180 : pFl "PaperKindsModel" 180 6 35 := ⟨RX6, TX6, pcl6, by decide, (pg_t3 64 rfl rfl)⟩
theorem f_X6_183 : pFl "PaperKindsModel" 183 6 36 := ⟨RX6, TX6, pcl6, by decide, (pg_t3 65 rfl rfl)⟩
theorem f_X6_93 : pFl "PaperKindsModel" 93 6 37 := ⟨RX6, TX6, pcl6, by decide, (pg_t3 66 rfl rfl)⟩
theorem f_X6_96 : pFl "PaperKindsModel" 96 6 38 := ⟨RX6, TX6, pcl6, by decide, (pg_t3 67 rfl rfl)⟩
theorem mt_X5_init : pMt yX5_init cX5_init 2 none 0 := ⟨(pg_t1 13 rfl rfl), (pg_t1 1 rfl rfl), ⟨by decide, by decide, by decide +kernel⟩, by decide, by decide +kernel⟩
theorem mt_X1_init : pMt yX1_init cX1_init 1 none 0 := ⟨(pg_t1 25 rfl rfl), (pg_t1 2 rfl rfl), ⟨by decide, by decide, by decide +kernel⟩, by decide, by decide +kernel⟩
theorem mt_X2_init : pMt yX2_init cX2_init 1 none 0 := ⟨(pg_t1 97 rfl rfl), (pg_t1 3 rfl rfl), ⟨by decide, by decide, by decide +kernel⟩, by decide, by decide +kernel⟩
theorem mt_X3_init : pMt yX3_init cX3_init 1 none 0 := ⟨(pg_t1 113 rfl rfl), (pg_t1 4 rfl rfl), ⟨by decide, by decide, by decide +kernel⟩, by decide, by decide +kernel⟩
theorem mt_X0_init : pMt yX0_init cX0_init 1 none 0 := ⟨(pg_t1 129 rfl rfl), (pg_t1 5 rfl rfl), ⟨by decide, by decide, by decide +kernel⟩, by decide, by decide +kernel⟩
theorem mt_X4_init : pMt yX4_init cX4_init 2 none 1 := ⟨(pg_t1 135 rfl rfl), (pg_t1 6 rfl rfl), ⟨by decide, by decide, by decide +kernel⟩, by decide, by decide +kernel⟩
theorem mt_X5_forgetLayings : pMt yX5_forgetLayings cX5_forgetLayings 2 none 0 := ⟨(pg_t1 187 rfl rfl), (pg_t1 1 rfl rfl), ⟨by decide, by decide, by decide +kernel⟩, by decide, by decide +kernel⟩
theorem mt_X5_forgetPage : pMt yX5_forgetPage cX5_forgetPage 3 none 1 := ⟨(pg_t1 191 rfl rfl), (pg_t1 1 rfl rfl), ⟨by decide, by decide, by decide +kernel⟩, by decide, by decide +kernel⟩
theorem mt_X5_page : pMt yX5_page cX5_page 1 (some .int) 0 := ⟨(pg_t2 5 rfl rfl), (pg_t1 1 rfl rfl), ⟨by decide, by decide, by decide +kernel⟩, by decide, by decide +kernel⟩
theorem mt_X5_box : pMt yX5_box cX5_box 6 (some .int) 4 := ⟨(pg_t2 9 rfl rfl), (pg_t1 1 rfl rfl), ⟨by decide, by decide, by decide +kernel⟩, by decide, by decide +kernel⟩
theorem mt_X5_isPage : pMt yX5_isPage cX5_isPage 2 (some .boolean) 1 := ⟨(pg_t2 13 rfl rfl), (pg_t1 1 rfl rfl), ⟨by decide, by decide, by decide +kernel⟩, by decide, by decide +kernel⟩
theorem mt_X5_isIn : pMt yX5_isIn cX5_isIn 3 (some .boolean) 3 := ⟨(pg_t2 16 rfl rfl), (pg_t1 1 rfl rfl), ⟨by decide, by decide, by decide +kernel⟩, by decide, by decide +kernel⟩
theorem mt_X4_find : pMt yX4_find cX4_find 3 (some .int) 1 := ⟨(pg_t2 20 rfl rfl), (pg_t1 6 rfl rfl), ⟨by decide, by decide, by decide +kernel⟩, by decide, by decide +kernel⟩
theorem mt_X4_add : pMt yX4_add cX4_add 5 none 4 := ⟨(pg_t2 24 rfl rfl), (pg_t1 6 rfl rfl), ⟨by decide, by decide, by decide +kernel⟩, by decide, by decide +kernel⟩
theorem mt_X5_remake : pMt yX5_remake cX5_remake 2 none 1 := ⟨(pg_t2 28 rfl rfl), (pg_t1 1 rfl rfl), ⟨by decide, by decide, by decide +kernel⟩, by decide, by decide +kernel⟩
theorem mt_X5_isKind : pMt yX5_isKind cX5_isKind 1 (some .boolean) 1 := ⟨(pg_t2 31 rfl rfl), (pg_t1 1 rfl rfl), ⟨by decide, by decide, by decide +kernel⟩, by decide, by decide +kernel⟩
theorem mt_X2_make : pMt yX2_make cX2_make 7 none 4 := ⟨(pg_t2 35 rfl rfl), (pg_t1 3 rfl rfl), ⟨by decide, by decide, by decide +kernel⟩, by decide, by decide +kernel⟩
theorem mt_X0_clear : pMt yX0_clear cX0_clear 2 none 0 := ⟨(pg_t2 39 rfl rfl), (pg_t1 5 rfl rfl), ⟨by decide, by decide, by decide +kernel⟩, by decide, by decide +kernel⟩
theorem mt_X2_countCarriers : pMt yX2_countCarriers cX2_countCarriers 7 none 4 := ⟨(pg_t2 44 rfl rfl), (pg_t1 3 rfl rfl), ⟨by decide, by decide, by decide +kernel⟩, by decide, by decide +kernel⟩
theorem mt_X2_gather : pMt yX2_gather cX2_gather 8 (some .int) 4 := ⟨(pg_t2 48 rfl rfl), (pg_t1 3 rfl rfl), ⟨by decide, by decide, by decide +kernel⟩, by decide, by decide +kernel⟩
theorem mt_X2_putByRising : pMt yX2_putByRising cX2_putByRising 4 none 3 := ⟨(pg_t2 52 rfl rfl), (pg_t1 3 rfl rfl), ⟨by decide, by decide, by decide +kernel⟩, by decide, by decide +kernel⟩
theorem mt_X2_middle : pMt yX2_middle cX2_middle 2 (some .int) 2 := ⟨(pg_t2 55 rfl rfl), (pg_t1 3 rfl rfl), ⟨by decide, by decide, by decide +kernel⟩, by decide, by decide +kernel⟩
theorem mt_X5_tell : pMt yX5_tell cX5_tell 4 (some .boolean) 2 := ⟨(pg_t2 60 rfl rfl), (pg_t1 1 rfl rfl), ⟨by decide, by decide, by decide +kernel⟩, by decide, by decide +kernel⟩
theorem mt_X5_isTellable : pMt yX5_isTellable cX5_isTellable 3 (some .boolean) 2 := ⟨(pg_t2 64 rfl rfl), (pg_t1 1 rfl rfl), ⟨by decide, by decide, by decide +kernel⟩, by decide, by decide +kernel⟩
theorem mt_X5_weights : pMt yX5_weights cX5_weights 6 (some .boolean) 5 := ⟨(pg_t2 68 rfl rfl), (pg_t1 1 rfl rfl), ⟨by decide, by decide, by decide +kernel⟩, by decide, by decide +kernel⟩
theorem mt_X5_bounds : pMt yX5_bounds cX5_bounds 4 (some .boolean) 3 := ⟨(pg_t2 72 rfl rfl), (pg_t1 1 rfl rfl), ⟨by decide, by decide, by decide +kernel⟩, by decide, by decide +kernel⟩
theorem mt_X5_kind : pMt yX5_kind cX5_kind 3 (some .int) 2 := ⟨(pg_t2 76 rfl rfl), (pg_t1 1 rfl rfl), ⟨by decide, by decide, by decide +kernel⟩, by decide, by decide +kernel⟩
theorem mt_X5_spot : pMt yX5_spot cX5_spot 5 (some .int) 3 := ⟨(pg_t2 80 rfl rfl), (pg_t1 1 rfl rfl), ⟨by decide, by decide, by decide +kernel⟩, by decide, by decide +kernel⟩
theorem mt_X5_lay : pMt yX5_lay cX5_lay 4 (some .int) 3 := ⟨(pg_t2 84 rfl rfl), (pg_t1 1 rfl rfl), ⟨by decide, by decide, by decide +kernel⟩, by decide, by decide +kernel⟩
theorem mt_X5_hasPages : pMt yX5_hasPages cX5_hasPages 2 (some .boolean) 1 := ⟨(pg_t2 88 rfl rfl), (pg_t1 1 rfl rfl), ⟨by decide, by decide, by decide +kernel⟩, by decide, by decide +kernel⟩
theorem mt_X5_laying : pMt yX5_laying cX5_laying 3 (some .long) 2 := ⟨(pg_t2 92 rfl rfl), (pg_t1 1 rfl rfl), ⟨by decide, by decide, by decide +kernel⟩, by decide, by decide +kernel⟩
theorem mt_X1_cheapest : pMt yX1_cheapest cX1_cheapest 6 (some .long) 2 := ⟨(pg_t2 96 rfl rfl), (pg_t1 2 rfl rfl), ⟨by decide, by decide, by decide +kernel⟩, by decide, by decide +kernel⟩
theorem mt_X1_setUp : pMt yX1_setUp cX1_setUp 8 none 2 := ⟨(pg_t2 103 rfl rfl), (pg_t1 2 rfl rfl), ⟨by decide, by decide, by decide +kernel⟩, by decide, by decide +kernel⟩
theorem mt_X1_cheapestAt : pMt yX1_cheapestAt cX1_cheapestAt 13 (some .long) 2 := ⟨(pg_t2 112 rfl rfl), (pg_t1 2 rfl rfl), ⟨by decide, by decide, by decide +kernel⟩, by decide, by decide +kernel⟩
theorem mt_X5_acrossOf : pMt yX5_acrossOf cX5_acrossOf 1 (some .int) 1 := ⟨(pg_t2 115 rfl rfl), (pg_t1 1 rfl rfl), ⟨by decide, by decide, by decide +kernel⟩, by decide, by decide +kernel⟩
theorem mt_X5_downOf : pMt yX5_downOf cX5_downOf 1 (some .int) 1 := ⟨(pg_t2 118 rfl rfl), (pg_t1 1 rfl rfl), ⟨by decide, by decide, by decide +kernel⟩, by decide, by decide +kernel⟩
theorem mt_X1_fillCells : pMt yX1_fillCells cX1_fillCells 8 none 2 := ⟨(pg_t2 126 rfl rfl), (pg_t1 2 rfl rfl), ⟨by decide, by decide, by decide +kernel⟩, by decide, by decide +kernel⟩
theorem mt_X1_leastWithoutRivals : pMt yX1_leastWithoutRivals cX1_leastWithoutRivals 8 (some .long) 0 := ⟨(pg_t2 130 rfl rfl), (pg_t1 2 rfl rfl), ⟨by decide, by decide, by decide +kernel⟩, by decide, by decide +kernel⟩
theorem mt_X1_clearPrices : pMt yX1_clearPrices cX1_clearPrices 2 none 0 := ⟨(pg_t2 137 rfl rfl), (pg_t1 2 rfl rfl), ⟨by decide, by decide, by decide +kernel⟩, by decide, by decide +kernel⟩
theorem mt_X1_insert : pMt yX1_insert cX1_insert 8 (some .long) 1 := ⟨(pg_t2 141 rfl rfl), (pg_t1 2 rfl rfl), ⟨by decide, by decide, by decide +kernel⟩, by decide, by decide +kernel⟩
theorem mt_X1_reach : pMt yX1_reach cX1_reach 7 (some .int) 2 := ⟨(pg_t2 145 rfl rfl), (pg_t1 2 rfl rfl), ⟨by decide, by decide, by decide +kernel⟩, by decide, by decide +kernel⟩
theorem mt_X1_raisePrices : pMt yX1_raisePrices cX1_raisePrices 5 none 2 := ⟨(pg_t2 149 rfl rfl), (pg_t1 2 rfl rfl), ⟨by decide, by decide, by decide +kernel⟩, by decide, by decide +kernel⟩
theorem mt_X1_handOn : pMt yX1_handOn cX1_handOn 6 none 2 := ⟨(pg_t2 153 rfl rfl), (pg_t1 2 rfl rfl), ⟨by decide, by decide, by decide +kernel⟩, by decide, by decide +kernel⟩
theorem mt_X5_costIn : pMt yX5_costIn cX5_costIn 2 (some .int) 1 := ⟨(pg_t2 156 rfl rfl), (pg_t1 1 rfl rfl), ⟨by decide, by decide, by decide +kernel⟩, by decide, by decide +kernel⟩
theorem mt_X5_spotIn : pMt yX5_spotIn cX5_spotIn 4 (some .int) 2 := ⟨(pg_t2 160 rfl rfl), (pg_t1 1 rfl rfl), ⟨by decide, by decide, by decide +kernel⟩, by decide, by decide +kernel⟩
theorem mt_X5_moved : pMt yX5_moved cX5_moved 5 (some .int) 3 := ⟨(pg_t2 166 rfl rfl), (pg_t1 1 rfl rfl), ⟨by decide, by decide, by decide +kernel⟩, by decide, by decide +kernel⟩
theorem mt_X5_moveIn : pMt yX5_moveIn cX5_moveIn 2 (some .int) 1 := ⟨(pg_t2 169 rfl rfl), (pg_t1 1 rfl rfl), ⟨by decide, by decide, by decide +kernel⟩, by decide, by decide +kernel⟩
theorem mt_X5_read : pMt yX5_read cX5_read 8 (some .int) 3 := ⟨(pg_t2 177 rfl rfl), (pg_t1 1 rfl rfl), ⟨by decide, by decide, by decide +kernel⟩, by decide, by decide +kernel⟩
theorem mt_X5_sorted : pMt yX5_sorted cX5_sorted 2 (some .int) 1 := ⟨(pg_t2 181 rfl rfl), (pg_t1 1 rfl rfl), ⟨by decide, by decide, by decide +kernel⟩, by decide, by decide +kernel⟩
theorem mt_X5_rank : pMt yX5_rank cX5_rank 4 (some .int) 2 := ⟨(pg_t2 185 rfl rfl), (pg_t1 1 rfl rfl), ⟨by decide, by decide, by decide +kernel⟩, by decide, by decide +kernel⟩
theorem mt_X3_clear : pMt yX3_clear cX3_clear 1 none 0 := ⟨(pg_t2 189 rfl rfl), (pg_t1 4 rfl rfl), ⟨by decide, by decide, by decide +kernel⟩, by decide, by decide +kernel⟩
theorem mt_X3_take : pMt yX3_take cX3_take 3 none 2 := ⟨(pg_t2 193 rfl rfl), (pg_t1 4 rfl rfl), ⟨by decide, by decide, by decide +kernel⟩, by decide, by decide +kernel⟩
theorem mt_X3_answer : pMt yX3_answer cX3_answer 3 (some .int) 2 := ⟨(pg_t2 197 rfl rfl), (pg_t1 4 rfl rfl), ⟨by decide, by decide, by decide +kernel⟩, by decide, by decide +kernel⟩
theorem mt_X3_spread : pMt yX3_spread cX3_spread 1 (some .int) 0 := ⟨(pg_t2 201 rfl rfl), (pg_t1 4 rfl rfl), ⟨by decide, by decide, by decide +kernel⟩, by decide, by decide +kernel⟩
theorem mt_X5_told : pMt yX5_told cX5_told 2 (some .int) 1 := ⟨(pg_t2 205 rfl rfl), (pg_t1 1 rfl rfl), ⟨by decide, by decide, by decide +kernel⟩, by decide, by decide +kernel⟩
theorem mt_X5_look : pMt yX5_look cX5_look 4 (some .int) 0 := ⟨(pg_t2 209 rfl rfl), (pg_t1 1 rfl rfl), ⟨by decide, by decide, by decide +kernel⟩, by decide, by decide +kernel⟩
theorem mt_X5_heaps : pMt yX5_heaps cX5_heaps 3 (some .int) 0 := ⟨(pg_t2 215 rfl rfl), (pg_t1 1 rfl rfl), ⟨by decide, by decide, by decide +kernel⟩, by decide, by decide +kernel⟩
theorem mt_X5_findHeaps : pMt yX5_findHeaps cX5_findHeaps 3 none 0 := ⟨(pg_t2 219 rfl rfl), (pg_t1 1 rfl rfl), ⟨by decide, by decide, by decide +kernel⟩, by decide, by decide +kernel⟩
theorem mt_X5_nearCost : pMt yX5_nearCost cX5_nearCost 4 (some .int) 2 := ⟨(pg_t2 223 rfl rfl), (pg_t1 1 rfl rfl), ⟨by decide, by decide, by decide +kernel⟩, by decide, by decide +kernel⟩
theorem mt_X5_joinHeaps : pMt yX5_joinHeaps cX5_joinHeaps 6 none 2 := ⟨(pg_t2 227 rfl rfl), (pg_t1 1 rfl rfl), ⟨by decide, by decide, by decide +kernel⟩, by decide, by decide +kernel⟩
theorem mt_X5_heap : pMt yX5_heap cX5_heap 2 (some .int) 1 := ⟨(pg_t2 235 rfl rfl), (pg_t1 1 rfl rfl), ⟨by decide, by decide, by decide +kernel⟩, by decide, by decide +kernel⟩
theorem mt_X5_versions : pMt yX5_versions cX5_versions 6 (some .int) 3 := ⟨(pg_t2 239 rfl rfl), (pg_t1 1 rfl rfl), ⟨by decide, by decide, by decide +kernel⟩, by decide, by decide +kernel⟩
theorem mt_X5_codeApart : pMt yX5_codeApart cX5_codeApart 6 (some .int) 2 := ⟨(pg_t3 2 rfl rfl), (pg_t1 1 rfl rfl), ⟨by decide, by decide, by decide +kernel⟩, by decide, by decide +kernel⟩
theorem mt_X5_touch : pMt yX5_touch cX5_touch 5 (some .int) 2 := ⟨(pg_t3 6 rfl rfl), (pg_t1 1 rfl rfl), ⟨by decide, by decide, by decide +kernel⟩, by decide, by decide +kernel⟩
theorem mt_X5_tryTelling : pMt yX5_tryTelling cX5_tryTelling 4 none 2 := ⟨(pg_t3 10 rfl rfl), (pg_t1 1 rfl rfl), ⟨by decide, by decide, by decide +kernel⟩, by decide, by decide +kernel⟩
theorem mt_X5_tryMaking : pMt yX5_tryMaking cX5_tryMaking 3 none 2 := ⟨(pg_t3 14 rfl rfl), (pg_t1 1 rfl rfl), ⟨by decide, by decide, by decide +kernel⟩, by decide, by decide +kernel⟩
theorem mt_X5_about : pMt yX5_about cX5_about 2 (some .int) 1 := ⟨(pg_t3 18 rfl rfl), (pg_t1 1 rfl rfl), ⟨by decide, by decide, by decide +kernel⟩, by decide, by decide +kernel⟩
theorem mt_X5_boxesAskedFor : pMt yX5_boxesAskedFor cX5_boxesAskedFor 2 (some .int) 1 := ⟨(pg_t3 22 rfl rfl), (pg_t1 1 rfl rfl), ⟨by decide, by decide, by decide +kernel⟩, by decide, by decide +kernel⟩
theorem mt_X6_init : pMt yX6_init cX6_init 1 none 0 := ⟨(pg_t3 27 rfl rfl), (pg_t1 7 rfl rfl), ⟨by decide, by decide, by decide +kernel⟩, by decide, by decide +kernel⟩
theorem mt_X6_page : pMt yX6_page cX6_page 1 (some .int) 0 := ⟨(pg_t3 150 rfl rfl), (pg_t1 7 rfl rfl), ⟨by decide, by decide, by decide +kernel⟩, by decide, by decide +kernel⟩
theorem mt_X6_changes : pMt yX6_changes cX6_changes 1 none 0 := ⟨(pg_t3 154 rfl rfl), (pg_t1 7 rfl rfl), ⟨by decide, by decide, by decide +kernel⟩, by decide, by decide +kernel⟩
theorem mt_X6_box : pMt yX6_box cX6_box 6 (some .int) 4 := ⟨(pg_t3 158 rfl rfl), (pg_t1 7 rfl rfl), ⟨by decide, by decide, by decide +kernel⟩, by decide, by decide +kernel⟩
theorem mt_X6_isPage : pMt yX6_isPage cX6_isPage 2 (some .boolean) 1 := ⟨(pg_t3 162 rfl rfl), (pg_t1 7 rfl rfl), ⟨by decide, by decide, by decide +kernel⟩, by decide, by decide +kernel⟩
theorem mt_X6_in : pMt yX6_in cX6_in 3 (some .boolean) 3 := ⟨(pg_t3 165 rfl rfl), (pg_t1 7 rfl rfl), ⟨by decide, by decide, by decide +kernel⟩, by decide, by decide +kernel⟩
theorem mt_X6_tell : pMt yX6_tell cX6_tell 3 (some .boolean) 2 := ⟨(pg_t3 169 rfl rfl), (pg_t1 7 rfl rfl), ⟨by decide, by decide, by decide +kernel⟩, by decide, by decide +kernel⟩
theorem mt_X6_weights : pMt yX6_weights cX6_weights 6 (some .boolean) 5 := ⟨(pg_t3 173 rfl rfl), (pg_t1 7 rfl rfl), ⟨by decide, by decide, by decide +kernel⟩, by decide, by decide +kernel⟩
theorem mt_X6_bounds : pMt yX6_bounds cX6_bounds 4 (some .boolean) 3 := ⟨(pg_t3 177 rfl rfl), (pg_t1 7 rfl rfl), ⟨by decide, by decide, by decide +kernel⟩, by decide, by decide +kernel⟩
theorem mt_X6_kind : pMt yX6_kind cX6_kind 3 (some .int) 2 := ⟨(pg_t3 181 rfl rfl), (pg_t1 7 rfl rfl), ⟨by decide, by decide, by decide +kernel⟩, by decide, by decide +kernel⟩
theorem mt_X6_makes : pMt yX6_makes cX6_makes 3 none 0 := ⟨(pg_t3 185 rfl rfl), (pg_t1 7 rfl rfl), ⟨by decide, by decide, by decide +kernel⟩, by decide, by decide +kernel⟩
theorem mt_X6_makesSpot : pMt yX6_makesSpot cX6_makesSpot 9 none 2 := ⟨(pg_t3 189 rfl rfl), (pg_t1 7 rfl rfl), ⟨by decide, by decide, by decide +kernel⟩, by decide, by decide +kernel⟩
theorem mt_X6_boxWith : pMt yX6_boxWith cX6_boxWith 5 (some .int) 2 := ⟨(pg_t3 193 rfl rfl), (pg_t1 7 rfl rfl), ⟨by decide, by decide, by decide +kernel⟩, by decide, by decide +kernel⟩
theorem mt_X6_middle : pMt yX6_middle cX6_middle 5 (some .int) 1 := ⟨(pg_t3 197 rfl rfl), (pg_t1 7 rfl rfl), ⟨by decide, by decide, by decide +kernel⟩, by decide, by decide +kernel⟩
theorem mt_X6_spot : pMt yX6_spot cX6_spot 5 (some .int) 3 := ⟨(pg_t3 201 rfl rfl), (pg_t1 7 rfl rfl), ⟨by decide, by decide, by decide +kernel⟩, by decide, by decide +kernel⟩
theorem mt_X6_lay : pMt yX6_lay cX6_lay 4 (some .int) 3 := ⟨(pg_t3 205 rfl rfl), (pg_t1 7 rfl rfl), ⟨by decide, by decide, by decide +kernel⟩, by decide, by decide +kernel⟩
theorem mt_X6_isLaid : pMt yX6_isLaid cX6_isLaid 3 (some .boolean) 2 := ⟨(pg_t3 209 rfl rfl), (pg_t1 7 rfl rfl), ⟨by decide, by decide, by decide +kernel⟩, by decide, by decide +kernel⟩
theorem mt_X6_isKind : pMt yX6_isKind cX6_isKind 2 (some .boolean) 1 := ⟨(pg_t3 213 rfl rfl), (pg_t1 7 rfl rfl), ⟨by decide, by decide, by decide +kernel⟩, by decide, by decide +kernel⟩
theorem mt_X6_takesPage : pMt yX6_takesPage cX6_takesPage 3 none 1 := ⟨(pg_t3 217 rfl rfl), (pg_t1 7 rfl rfl), ⟨by decide, by decide, by decide +kernel⟩, by decide, by decide +kernel⟩
theorem mt_X6_takesSpots : pMt yX6_takesSpots cX6_takesSpots 3 none 1 := ⟨(pg_t3 221 rfl rfl), (pg_t1 7 rfl rfl), ⟨by decide, by decide, by decide +kernel⟩, by decide, by decide +kernel⟩
theorem mt_X6_seeks : pMt yX6_seeks cX6_seeks 4 none 0 := ⟨(pg_t3 225 rfl rfl), (pg_t1 7 rfl rfl), ⟨by decide, by decide, by decide +kernel⟩, by decide, by decide +kernel⟩
theorem mt_X6_byMove : pMt yX6_byMove cX6_byMove 11 (some .int) 2 := ⟨(pg_t3 230 rfl rfl), (pg_t1 7 rfl rfl), ⟨by decide, by decide, by decide +kernel⟩, by decide, by decide +kernel⟩
theorem mt_X6_lays : pMt yX6_lays cX6_lays 5 (some .int) 4 := ⟨(pg_t3 234 rfl rfl), (pg_t1 7 rfl rfl), ⟨by decide, by decide, by decide +kernel⟩, by decide, by decide +kernel⟩
theorem mt_X6_apart : pMt yX6_apart cX6_apart 2 (some .int) 2 := ⟨(pg_t3 237 rfl rfl), (pg_t1 7 rfl rfl), ⟨by decide, by decide, by decide +kernel⟩, by decide, by decide +kernel⟩
theorem mt_X6_places : pMt yX6_places cX6_places 5 none 0 := ⟨(pg_t4 1 rfl rfl), (pg_t1 7 rfl rfl), ⟨by decide, by decide, by decide +kernel⟩, by decide, by decide +kernel⟩
theorem mt_X6_moved : pMt yX6_moved cX6_moved 4 (some .int) 3 := ⟨(pg_t4 5 rfl rfl), (pg_t1 7 rfl rfl), ⟨by decide, by decide, by decide +kernel⟩, by decide, by decide +kernel⟩
theorem mt_X6_read : pMt yX6_read cX6_read 6 (some .int) 3 := ⟨(pg_t4 9 rfl rfl), (pg_t1 7 rfl rfl), ⟨by decide, by decide, by decide +kernel⟩, by decide, by decide +kernel⟩
theorem mt_X6_sorted : pMt yX6_sorted cX6_sorted 2 (some .int) 1 := ⟨(pg_t4 13 rfl rfl), (pg_t1 7 rfl rfl), ⟨by decide, by decide, by decide +kernel⟩, by decide, by decide +kernel⟩
theorem mt_X6_sortOf : pMt yX6_sortOf cX6_sortOf 2 (some .int) 1 := ⟨(pg_t4 17 rfl rfl), (pg_t1 7 rfl rfl), ⟨by decide, by decide, by decide +kernel⟩, by decide, by decide +kernel⟩
theorem mt_X6_looks : pMt yX6_looks cX6_looks 4 none 1 := ⟨(pg_t4 21 rfl rfl), (pg_t1 7 rfl rfl), ⟨by decide, by decide, by decide +kernel⟩, by decide, by decide +kernel⟩
theorem mt_X6_costOf : pMt yX6_costOf cX6_costOf 4 (some .int) 2 := ⟨(pg_t4 25 rfl rfl), (pg_t1 7 rfl rfl), ⟨by decide, by decide, by decide +kernel⟩, by decide, by decide +kernel⟩
theorem mt_X6_told : pMt yX6_told cX6_told 2 (some .int) 1 := ⟨(pg_t4 29 rfl rfl), (pg_t1 7 rfl rfl), ⟨by decide, by decide, by decide +kernel⟩, by decide, by decide +kernel⟩
theorem mt_X6_look : pMt yX6_look cX6_look 4 (some .int) 0 := ⟨(pg_t4 33 rfl rfl), (pg_t1 7 rfl rfl), ⟨by decide, by decide, by decide +kernel⟩, by decide, by decide +kernel⟩
theorem mt_X6_heaps : pMt yX6_heaps cX6_heaps 3 (some .int) 0 := ⟨(pg_t4 37 rfl rfl), (pg_t1 7 rfl rfl), ⟨by decide, by decide, by decide +kernel⟩, by decide, by decide +kernel⟩
theorem mt_X6_gathers : pMt yX6_gathers cX6_gathers 3 none 0 := ⟨(pg_t4 41 rfl rfl), (pg_t1 7 rfl rfl), ⟨by decide, by decide, by decide +kernel⟩, by decide, by decide +kernel⟩
theorem mt_X6_isUnknown : pMt yX6_isUnknown cX6_isUnknown 2 (some .boolean) 1 := ⟨(pg_t4 45 rfl rfl), (pg_t1 7 rfl rfl), ⟨by decide, by decide, by decide +kernel⟩, by decide, by decide +kernel⟩
theorem mt_X6_isNear : pMt yX6_isNear cX6_isNear 5 (some .boolean) 2 := ⟨(pg_t4 49 rfl rfl), (pg_t1 7 rfl rfl), ⟨by decide, by decide, by decide +kernel⟩, by decide, by decide +kernel⟩
theorem mt_X6_joins : pMt yX6_joins cX6_joins 5 none 2 := ⟨(pg_t4 53 rfl rfl), (pg_t1 7 rfl rfl), ⟨by decide, by decide, by decide +kernel⟩, by decide, by decide +kernel⟩
theorem mt_X6_heap : pMt yX6_heap cX6_heap 2 (some .int) 1 := ⟨(pg_t4 57 rfl rfl), (pg_t1 7 rfl rfl), ⟨by decide, by decide, by decide +kernel⟩, by decide, by decide +kernel⟩
theorem mt_X6_versions : pMt yX6_versions cX6_versions 6 (some .int) 3 := ⟨(pg_t4 61 rfl rfl), (pg_t1 7 rfl rfl), ⟨by decide, by decide, by decide +kernel⟩, by decide, by decide +kernel⟩
theorem mt_X6_toldBy : pMt yX6_toldBy cX6_toldBy 7 (some .int) 2 := ⟨(pg_t4 65 rfl rfl), (pg_t1 7 rfl rfl), ⟨by decide, by decide, by decide +kernel⟩, by decide, by decide +kernel⟩
theorem mt_X6_spotWith : pMt yX6_spotWith cX6_spotWith 5 (some .int) 2 := ⟨(pg_t4 69 rfl rfl), (pg_t1 7 rfl rfl), ⟨by decide, by decide, by decide +kernel⟩, by decide, by decide +kernel⟩
theorem mt_X6_areVersions : pMt yX6_areVersions cX6_areVersions 4 (some .boolean) 2 := ⟨(pg_t4 73 rfl rfl), (pg_t1 7 rfl rfl), ⟨by decide, by decide, by decide +kernel⟩, by decide, by decide +kernel⟩
theorem mt_X6_touch : pMt yX6_touch cX6_touch 6 (some .int) 2 := ⟨(pg_t4 77 rfl rfl), (pg_t1 7 rfl rfl), ⟨by decide, by decide, by decide +kernel⟩, by decide, by decide +kernel⟩
theorem mt_X6_about : pMt yX6_about cX6_about 2 (some .int) 1 := ⟨(pg_t4 81 rfl rfl), (pg_t1 7 rfl rfl), ⟨by decide, by decide, by decide +kernel⟩, by decide, by decide +kernel⟩
theorem cl_L_7 : Cond.classLink "PaperKindsLaw" 7 "PaperKinds" ∈ pgood ∧ Cond.instantiable "PaperKinds" 16 ∈ pgood ∧ Cond.initialized "PaperKinds" ∈ pgood := ⟨(pg_t1 9 rfl rfl), (pg_t1 10 rfl rfl), (pg_t1 1 rfl rfl)⟩
theorem s_L_9 : Cond.methodLink "PaperKindsLaw" 9 yX5_init ∈ pgood ∧ Cond.instanceMethod yX5_init ∈ pgood ∧ yX5_init.name = "<init>" := ⟨(pg_t1 11 rfl rfl), (pg_t1 12 rfl rfl), rfl⟩
theorem s_X5_3 : Cond.methodLink "PaperKinds" 3 objectInit ∈ pgood ∧ Cond.instanceMethod objectInit ∈ pgood ∧ Cond.code objectInit ⟨#[0xb1]⟩ 1 none ∈ pgood := ⟨(pg_t1 14 rfl rfl), (pg_t1 15 rfl rfl), (pg_t1 16 rfl rfl)⟩
theorem cl_X5_9 : Cond.classLink "PaperKinds" 9 "PaperKinds$Sheet" ∈ pgood ∧ Cond.instantiable "PaperKinds$Sheet" 5 ∈ pgood ∧ Cond.initialized "PaperKinds$Sheet" ∈ pgood := ⟨(pg_t1 17 rfl rfl), (pg_t1 132 rfl rfl), (pg_t1 6 rfl rfl)⟩
theorem cl_X5_19 : Cond.classLink "PaperKinds" 19 "PaperKinds$Kind" ∈ pgood ∧ Cond.instantiable "PaperKinds$Kind" 3 ∈ pgood ∧ Cond.initialized "PaperKinds$Kind" ∈ pgood := ⟨(pg_t1 19 rfl rfl), (pg_t1 126 rfl rfl), (pg_t1 5 rfl rfl)⟩
theorem cl_X5_25 : Cond.classLink "PaperKinds" 25 "PaperKinds$Layer" ∈ pgood ∧ Cond.instantiable "PaperKinds$Layer" 19 ∈ pgood ∧ Cond.initialized "PaperKinds$Layer" ∈ pgood := ⟨(pg_t1 21 rfl rfl), (pg_t1 22 rfl rfl), (pg_t1 2 rfl rfl)⟩
theorem s_X5_27 : ("PaperKinds", 27, yX1_init, "PaperKinds") ∈ pNM ∧ Cond.instanceMethod yX1_init ∈ pgood ∧ yX1_init.name = "<init>" := ⟨(by decide +kernel), (pg_t1 24 rfl rfl), rfl⟩
theorem s_X1_3 : Cond.methodLink "PaperKinds$Layer" 3 objectInit ∈ pgood ∧ Cond.instanceMethod objectInit ∈ pgood ∧ Cond.code objectInit ⟨#[0xb1]⟩ 1 none ∈ pgood := ⟨(pg_t1 26 rfl rfl), (pg_t1 15 rfl rfl), (pg_t1 16 rfl rfl)⟩
theorem ac_int : Cond.arrayClass .int ∈ pgood := (pg_t1 90 rfl rfl)
theorem ac_long : Cond.arrayClass .long ∈ pgood := (pg_t1 91 rfl rfl)
theorem ac_boolean : Cond.arrayClass .boolean ∈ pgood := (pg_t1 92 rfl rfl)
theorem cl_X5_32 : Cond.classLink "PaperKinds" 32 "PaperKinds$Maker" ∈ pgood ∧ Cond.instantiable "PaperKinds$Maker" 3 ∈ pgood ∧ Cond.initialized "PaperKinds$Maker" ∈ pgood := ⟨(pg_t1 93 rfl rfl), (pg_t1 94 rfl rfl), (pg_t1 3 rfl rfl)⟩
theorem s_X5_34 : ("PaperKinds", 34, yX2_init, "PaperKinds") ∈ pNM ∧ Cond.instanceMethod yX2_init ∈ pgood ∧ yX2_init.name = "<init>" := ⟨(by decide +kernel), (pg_t1 96 rfl rfl), rfl⟩
theorem s_X2_3 : Cond.methodLink "PaperKinds$Maker" 3 objectInit ∈ pgood ∧ Cond.instanceMethod objectInit ∈ pgood ∧ Cond.code objectInit ⟨#[0xb1]⟩ 1 none ∈ pgood := ⟨(pg_t1 98 rfl rfl), (pg_t1 15 rfl rfl), (pg_t1 16 rfl rfl)⟩
theorem cl_X5_39 : Cond.classLink "PaperKinds" 39 "PaperKinds$Ranking" ∈ pgood ∧ Cond.instantiable "PaperKinds$Ranking" 3 ∈ pgood ∧ Cond.initialized "PaperKinds$Ranking" ∈ pgood := ⟨(pg_t1 109 rfl rfl), (pg_t1 110 rfl rfl), (pg_t1 4 rfl rfl)⟩
theorem s_X5_41 : ("PaperKinds", 41, yX3_init, "PaperKinds") ∈ pNM ∧ Cond.instanceMethod yX3_init ∈ pgood ∧ yX3_init.name = "<init>" := ⟨(by decide +kernel), (pg_t1 112 rfl rfl), rfl⟩
theorem s_X3_3 : Cond.methodLink "PaperKinds$Ranking" 3 objectInit ∈ pgood ∧ Cond.instanceMethod objectInit ∈ pgood ∧ Cond.code objectInit ⟨#[0xb1]⟩ 1 none ∈ pgood := ⟨(pg_t1 114 rfl rfl), (pg_t1 15 rfl rfl), (pg_t1 16 rfl rfl)⟩
theorem k_X3_15 : Cond.constant "PaperKinds$Ranking" 15 (1000000 : Int32) ∈ pgood := (pg_t1 115 rfl rfl)
theorem s_X5_52 : ("PaperKinds", 52, yX0_init, "PaperKinds") ∈ pNM ∧ Cond.instanceMethod yX0_init ∈ pgood ∧ yX0_init.name = "<init>" := ⟨(by decide +kernel), (pg_t1 128 rfl rfl), rfl⟩
theorem s_X0_3 : Cond.methodLink "PaperKinds$Kind" 3 objectInit ∈ pgood ∧ Cond.instanceMethod objectInit ∈ pgood ∧ Cond.code objectInit ⟨#[0xb1]⟩ 1 none ∈ pgood := ⟨(pg_t1 130 rfl rfl), (pg_t1 15 rfl rfl), (pg_t1 16 rfl rfl)⟩
theorem cl_X0_9 : Cond.classLink "PaperKinds$Kind" 9 "PaperKinds$Sheet" ∈ pgood ∧ Cond.instantiable "PaperKinds$Sheet" 5 ∈ pgood ∧ Cond.initialized "PaperKinds$Sheet" ∈ pgood := ⟨(pg_t1 131 rfl rfl), (pg_t1 132 rfl rfl), (pg_t1 6 rfl rfl)⟩
theorem s_X0_11 : Cond.methodLink "PaperKinds$Kind" 11 yX4_init ∈ pgood ∧ Cond.instanceMethod yX4_init ∈ pgood ∧ yX4_init.name = "<init>" := ⟨(pg_t1 133 rfl rfl), (pg_t1 134 rfl rfl), rfl⟩
theorem s_X4_3 : Cond.methodLink "PaperKinds$Sheet" 3 objectInit ∈ pgood ∧ Cond.instanceMethod objectInit ∈ pgood ∧ Cond.code objectInit ⟨#[0xb1]⟩ 1 none ∈ pgood := ⟨(pg_t1 136 rfl rfl), (pg_t1 15 rfl rfl), (pg_t1 16 rfl rfl)⟩
theorem s_X5_79 : Cond.methodLink "PaperKinds" 79 yX4_init ∈ pgood ∧ Cond.instanceMethod yX4_init ∈ pgood ∧ yX4_init.name = "<init>" := ⟨(pg_t1 183 rfl rfl), (pg_t1 134 rfl rfl), rfl⟩
theorem s_X5_82 : Cond.methodLink "PaperKinds" 82 yX5_forgetLayings ∈ pgood ∧ Cond.instanceMethod yX5_forgetLayings ∈ pgood ∧ Cond.selects yX5_forgetLayings.cls yX5_forgetLayings yX5_forgetLayings ∈ pgood := ⟨(pg_t1 184 rfl rfl), (pg_t1 186 rfl rfl), (pg_s 0 rfl rfl)⟩
theorem s_X5_104 : Cond.methodLink "PaperKinds" 104 yX5_forgetPage ∈ pgood ∧ Cond.instanceMethod yX5_forgetPage ∈ pgood ∧ Cond.selects yX5_forgetPage.cls yX5_forgetPage yX5_forgetPage ∈ pgood := ⟨(pg_t1 188 rfl rfl), (pg_t1 190 rfl rfl), (pg_s 1 rfl rfl)⟩
theorem k_X5_218 : Cond.constantLong "PaperKinds" 218 (-1 : Int64) ∈ pgood := (pg_t1 192 rfl rfl)
theorem s_L_13 : Cond.methodLink "PaperKindsLaw" 13 yX5_page ∈ pgood ∧ Cond.instanceMethod yX5_page ∈ pgood ∧ Cond.selects yX5_page.cls yX5_page yX5_page ∈ pgood := ⟨(pg_t2 2 rfl rfl), (pg_t2 3 rfl rfl), (pg_t2 4 rfl rfl)⟩
theorem s_L_18 : Cond.methodLink "PaperKindsLaw" 18 yX5_box ∈ pgood ∧ Cond.instanceMethod yX5_box ∈ pgood ∧ Cond.selects yX5_box.cls yX5_box yX5_box ∈ pgood := ⟨(pg_t2 6 rfl rfl), (pg_t2 7 rfl rfl), (pg_t2 8 rfl rfl)⟩
theorem s_X5_85 : Cond.methodLink "PaperKinds" 85 yX5_isPage ∈ pgood ∧ Cond.instanceMethod yX5_isPage ∈ pgood ∧ Cond.selects yX5_isPage.cls yX5_isPage yX5_isPage ∈ pgood := ⟨(pg_t2 10 rfl rfl), (pg_t2 12 rfl rfl), (pg_s 2 rfl rfl)⟩
theorem s_X5_89 : Cond.methodLink "PaperKinds" 89 yX5_isIn ∈ pgood ∧ Cond.static yX5_isIn ∈ pgood := ⟨(pg_t2 14 rfl rfl), (pg_t2 15 rfl rfl)⟩
theorem s_X5_96 : Cond.methodLink "PaperKinds" 96 yX4_find ∈ pgood ∧ Cond.instanceMethod yX4_find ∈ pgood ∧ Cond.selects yX4_find.cls yX4_find yX4_find ∈ pgood := ⟨(pg_t2 17 rfl rfl), (pg_t2 18 rfl rfl), (pg_t2 19 rfl rfl)⟩
theorem s_X5_100 : Cond.methodLink "PaperKinds" 100 yX4_add ∈ pgood ∧ Cond.instanceMethod yX4_add ∈ pgood ∧ Cond.selects yX4_add.cls yX4_add yX4_add ∈ pgood := ⟨(pg_t2 21 rfl rfl), (pg_t2 22 rfl rfl), (pg_t2 23 rfl rfl)⟩
theorem s_X5_107 : Cond.methodLink "PaperKinds" 107 yX5_remake ∈ pgood ∧ Cond.instanceMethod yX5_remake ∈ pgood ∧ Cond.selects yX5_remake.cls yX5_remake yX5_remake ∈ pgood := ⟨(pg_t2 25 rfl rfl), (pg_t2 27 rfl rfl), (pg_s 3 rfl rfl)⟩
theorem s_X5_129 : Cond.methodLink "PaperKinds" 129 yX5_isKind ∈ pgood ∧ Cond.static yX5_isKind ∈ pgood := ⟨(pg_t2 29 rfl rfl), (pg_t2 30 rfl rfl)⟩
theorem s_X5_210 : Cond.methodLink "PaperKinds" 210 yX2_make ∈ pgood ∧ Cond.instanceMethod yX2_make ∈ pgood ∧ Cond.selects yX2_make.cls yX2_make yX2_make ∈ pgood := ⟨(pg_t2 32 rfl rfl), (pg_t2 33 rfl rfl), (pg_t2 34 rfl rfl)⟩
theorem s_X2_21 : Cond.methodLink "PaperKinds$Maker" 21 yX0_clear ∈ pgood ∧ Cond.instanceMethod yX0_clear ∈ pgood ∧ Cond.selects yX0_clear.cls yX0_clear yX0_clear ∈ pgood := ⟨(pg_t2 36 rfl rfl), (pg_t2 37 rfl rfl), (pg_t2 38 rfl rfl)⟩
theorem k_X0_31 : Cond.constantLong "PaperKinds$Kind" 31 (-1 : Int64) ∈ pgood := (pg_t2 40 rfl rfl)
theorem s_X2_26 : Cond.methodLink "PaperKinds$Maker" 26 yX2_countCarriers ∈ pgood ∧ Cond.instanceMethod yX2_countCarriers ∈ pgood ∧ Cond.selects yX2_countCarriers.cls yX2_countCarriers yX2_countCarriers ∈ pgood := ⟨(pg_t2 41 rfl rfl), (pg_t2 43 rfl rfl), (pg_s 4 rfl rfl)⟩
theorem s_X2_34 : Cond.methodLink "PaperKinds$Maker" 34 yX2_gather ∈ pgood ∧ Cond.instanceMethod yX2_gather ∈ pgood ∧ Cond.selects yX2_gather.cls yX2_gather yX2_gather ∈ pgood := ⟨(pg_t2 45 rfl rfl), (pg_t2 47 rfl rfl), (pg_s 5 rfl rfl)⟩
theorem s_X2_58 : Cond.methodLink "PaperKinds$Maker" 58 yX4_find ∈ pgood ∧ Cond.instanceMethod yX4_find ∈ pgood ∧ Cond.selects yX4_find.cls yX4_find yX4_find ∈ pgood := ⟨(pg_t2 49 rfl rfl), (pg_t2 18 rfl rfl), (pg_t2 19 rfl rfl)⟩
theorem s_X2_63 : Cond.methodLink "PaperKinds$Maker" 63 yX2_putByRising ∈ pgood ∧ Cond.static yX2_putByRising ∈ pgood := ⟨(pg_t2 50 rfl rfl), (pg_t2 51 rfl rfl)⟩
theorem s_X2_42 : Cond.methodLink "PaperKinds$Maker" 42 yX2_middle ∈ pgood ∧ Cond.static yX2_middle ∈ pgood := ⟨(pg_t2 53 rfl rfl), (pg_t2 54 rfl rfl)⟩
theorem s_X2_46 : Cond.methodLink "PaperKinds$Maker" 46 yX4_add ∈ pgood ∧ Cond.instanceMethod yX4_add ∈ pgood ∧ Cond.selects yX4_add.cls yX4_add yX4_add ∈ pgood := ⟨(pg_t2 56 rfl rfl), (pg_t2 22 rfl rfl), (pg_t2 23 rfl rfl)⟩
theorem s_L_23 : Cond.methodLink "PaperKindsLaw" 23 yX5_tell ∈ pgood ∧ Cond.instanceMethod yX5_tell ∈ pgood ∧ Cond.selects yX5_tell.cls yX5_tell yX5_tell ∈ pgood := ⟨(pg_t2 57 rfl rfl), (pg_t2 58 rfl rfl), (pg_t2 59 rfl rfl)⟩
theorem s_X5_110 : Cond.methodLink "PaperKinds" 110 yX5_isTellable ∈ pgood ∧ Cond.instanceMethod yX5_isTellable ∈ pgood ∧ Cond.selects yX5_isTellable.cls yX5_isTellable yX5_isTellable ∈ pgood := ⟨(pg_t2 61 rfl rfl), (pg_t2 63 rfl rfl), (pg_s 6 rfl rfl)⟩
theorem s_L_28 : Cond.methodLink "PaperKindsLaw" 28 yX5_weights ∈ pgood ∧ Cond.instanceMethod yX5_weights ∈ pgood ∧ Cond.selects yX5_weights.cls yX5_weights yX5_weights ∈ pgood := ⟨(pg_t2 65 rfl rfl), (pg_t2 66 rfl rfl), (pg_t2 67 rfl rfl)⟩
theorem s_L_33 : Cond.methodLink "PaperKindsLaw" 33 yX5_bounds ∈ pgood ∧ Cond.instanceMethod yX5_bounds ∈ pgood ∧ Cond.selects yX5_bounds.cls yX5_bounds yX5_bounds ∈ pgood := ⟨(pg_t2 69 rfl rfl), (pg_t2 70 rfl rfl), (pg_t2 71 rfl rfl)⟩
theorem s_L_38 : Cond.methodLink "PaperKindsLaw" 38 yX5_kind ∈ pgood ∧ Cond.instanceMethod yX5_kind ∈ pgood ∧ Cond.selects yX5_kind.cls yX5_kind yX5_kind ∈ pgood := ⟨(pg_t2 73 rfl rfl), (pg_t2 74 rfl rfl), (pg_t2 75 rfl rfl)⟩
theorem s_L_43 : Cond.methodLink "PaperKindsLaw" 43 yX5_spot ∈ pgood ∧ Cond.instanceMethod yX5_spot ∈ pgood ∧ Cond.selects yX5_spot.cls yX5_spot yX5_spot ∈ pgood := ⟨(pg_t2 77 rfl rfl), (pg_t2 78 rfl rfl), (pg_t2 79 rfl rfl)⟩
theorem s_L_48 : Cond.methodLink "PaperKindsLaw" 48 yX5_lay ∈ pgood ∧ Cond.instanceMethod yX5_lay ∈ pgood ∧ Cond.selects yX5_lay.cls yX5_lay yX5_lay ∈ pgood := ⟨(pg_t2 81 rfl rfl), (pg_t2 82 rfl rfl), (pg_t2 83 rfl rfl)⟩
theorem s_X5_150 : Cond.methodLink "PaperKinds" 150 yX5_hasPages ∈ pgood ∧ Cond.instanceMethod yX5_hasPages ∈ pgood ∧ Cond.selects yX5_hasPages.cls yX5_hasPages yX5_hasPages ∈ pgood := ⟨(pg_t2 85 rfl rfl), (pg_t2 87 rfl rfl), (pg_s 7 rfl rfl)⟩
theorem s_X5_153 : Cond.methodLink "PaperKinds" 153 yX5_laying ∈ pgood ∧ Cond.instanceMethod yX5_laying ∈ pgood ∧ Cond.selects yX5_laying.cls yX5_laying yX5_laying ∈ pgood := ⟨(pg_t2 89 rfl rfl), (pg_t2 91 rfl rfl), (pg_s 8 rfl rfl)⟩
theorem s_X5_195 : Cond.methodLink "PaperKinds" 195 yX1_cheapest ∈ pgood ∧ Cond.instanceMethod yX1_cheapest ∈ pgood ∧ Cond.selects yX1_cheapest.cls yX1_cheapest yX1_cheapest ∈ pgood := ⟨(pg_t2 93 rfl rfl), (pg_t2 94 rfl rfl), (pg_t2 95 rfl rfl)⟩
theorem s_X1_79 : Cond.methodLink "PaperKinds$Layer" 79 Lib.Math.min.name ∈ pgood ∧ Cond.static Lib.Math.min.name ∈ pgood ∧ Cond.initialized "java/lang/Math" ∈ pgood ∧ Cond.code Lib.Math.min.name Lib.Math.min.code 2 (some .int) ∈ pgood := ⟨(pg_t2 97 rfl rfl), (pg_t2 98 rfl rfl), (pg_t1 8 rfl rfl), (pg_t2 99 rfl rfl)⟩
theorem s_X1_85 : Cond.methodLink "PaperKinds$Layer" 85 yX1_setUp ∈ pgood ∧ Cond.instanceMethod yX1_setUp ∈ pgood ∧ Cond.selects yX1_setUp.cls yX1_setUp yX1_setUp ∈ pgood := ⟨(pg_t2 100 rfl rfl), (pg_t2 102 rfl rfl), (pg_s 9 rfl rfl)⟩
theorem k_X1_107 : Cond.constantLong "PaperKinds$Layer" 107 (341812114609 : Int64) ∈ pgood := (pg_t2 104 rfl rfl)
theorem k_X1_112 : Cond.constantLong "PaperKinds$Layer" 112 (16 : Int64) ∈ pgood := (pg_t2 107 rfl rfl)
theorem k_X1_89 : Cond.constantLong "PaperKinds$Layer" 89 (1152921504606846976 : Int64) ∈ pgood := (pg_t2 108 rfl rfl)
theorem s_X1_91 : Cond.methodLink "PaperKinds$Layer" 91 yX1_cheapestAt ∈ pgood ∧ Cond.instanceMethod yX1_cheapestAt ∈ pgood ∧ Cond.selects yX1_cheapestAt.cls yX1_cheapestAt yX1_cheapestAt ∈ pgood := ⟨(pg_t2 109 rfl rfl), (pg_t2 111 rfl rfl), (pg_s 10 rfl rfl)⟩
theorem s_X1_114 : ("PaperKinds$Layer", 114, yX5_acrossOf, "PaperKinds") ∈ pNM ∧ Cond.static yX5_acrossOf ∈ pgood := ⟨(by decide +kernel), (pg_t2 114 rfl rfl)⟩
theorem s_X1_118 : ("PaperKinds$Layer", 118, yX5_downOf, "PaperKinds") ∈ pNM ∧ Cond.static yX5_downOf ∈ pgood := ⟨(by decide +kernel), (pg_t2 117 rfl rfl)⟩
theorem s_X1_121 : Cond.methodLink "PaperKinds$Layer" 121 Lib.Math.abs.name ∈ pgood ∧ Cond.static Lib.Math.abs.name ∈ pgood ∧ Cond.initialized "java/lang/Math" ∈ pgood ∧ Cond.code Lib.Math.abs.name Lib.Math.abs.code 1 (some .int) ∈ pgood := ⟨(pg_t2 119 rfl rfl), (pg_t2 120 rfl rfl), (pg_t1 8 rfl rfl), (pg_t2 121 rfl rfl)⟩
theorem k_X1_124 : Cond.constantLong "PaperKinds$Layer" 124 (6975757441 : Int64) ∈ pgood := (pg_t2 122 rfl rfl)
theorem s_X1_126 : Cond.methodLink "PaperKinds$Layer" 126 yX1_fillCells ∈ pgood ∧ Cond.instanceMethod yX1_fillCells ∈ pgood ∧ Cond.selects yX1_fillCells.cls yX1_fillCells yX1_fillCells ∈ pgood := ⟨(pg_t2 123 rfl rfl), (pg_t2 125 rfl rfl), (pg_s 11 rfl rfl)⟩
theorem s_X1_130 : Cond.methodLink "PaperKinds$Layer" 130 yX1_leastWithoutRivals ∈ pgood ∧ Cond.instanceMethod yX1_leastWithoutRivals ∈ pgood ∧ Cond.selects yX1_leastWithoutRivals.cls yX1_leastWithoutRivals yX1_leastWithoutRivals ∈ pgood := ⟨(pg_t2 127 rfl rfl), (pg_t2 129 rfl rfl), (pg_s 12 rfl rfl)⟩
theorem s_X1_134 : Cond.methodLink "PaperKinds$Layer" 134 Lib.MathLoose.min_long.x ∈ pgood ∧ Cond.static Lib.MathLoose.min_long.x ∈ pgood ∧ Cond.initialized "java/lang/Math" ∈ pgood ∧ Cond.code Lib.MathLoose.min_long.x Lib.MathLoose.min_long.code 4 (some .long) ∈ pgood := ⟨(pg_t2 131 rfl rfl), (pg_t2 132 rfl rfl), (pg_t1 8 rfl rfl), (pg_t2 133 rfl rfl)⟩
theorem s_X1_137 : Cond.methodLink "PaperKinds$Layer" 137 yX1_clearPrices ∈ pgood ∧ Cond.instanceMethod yX1_clearPrices ∈ pgood ∧ Cond.selects yX1_clearPrices.cls yX1_clearPrices yX1_clearPrices ∈ pgood := ⟨(pg_t2 134 rfl rfl), (pg_t2 136 rfl rfl), (pg_s 13 rfl rfl)⟩
theorem s_X1_140 : Cond.methodLink "PaperKinds$Layer" 140 yX1_insert ∈ pgood ∧ Cond.instanceMethod yX1_insert ∈ pgood ∧ Cond.selects yX1_insert.cls yX1_insert yX1_insert ∈ pgood := ⟨(pg_t2 138 rfl rfl), (pg_t2 140 rfl rfl), (pg_s 14 rfl rfl)⟩
theorem s_X1_144 : Cond.methodLink "PaperKinds$Layer" 144 yX1_reach ∈ pgood ∧ Cond.instanceMethod yX1_reach ∈ pgood ∧ Cond.selects yX1_reach.cls yX1_reach yX1_reach ∈ pgood := ⟨(pg_t2 142 rfl rfl), (pg_t2 144 rfl rfl), (pg_s 15 rfl rfl)⟩
theorem s_X1_147 : Cond.methodLink "PaperKinds$Layer" 147 yX1_raisePrices ∈ pgood ∧ Cond.instanceMethod yX1_raisePrices ∈ pgood ∧ Cond.selects yX1_raisePrices.cls yX1_raisePrices yX1_raisePrices ∈ pgood := ⟨(pg_t2 146 rfl rfl), (pg_t2 148 rfl rfl), (pg_s 16 rfl rfl)⟩
theorem s_X1_151 : Cond.methodLink "PaperKinds$Layer" 151 yX1_handOn ∈ pgood ∧ Cond.instanceMethod yX1_handOn ∈ pgood ∧ Cond.selects yX1_handOn.cls yX1_handOn yX1_handOn ∈ pgood := ⟨(pg_t2 150 rfl rfl), (pg_t2 152 rfl rfl), (pg_s 17 rfl rfl)⟩
theorem s_X5_157 : Cond.methodLink "PaperKinds" 157 yX5_costIn ∈ pgood ∧ Cond.static yX5_costIn ∈ pgood := ⟨(pg_t2 154 rfl rfl), (pg_t2 155 rfl rfl)⟩
theorem k_X5_220 : Cond.constantLong "PaperKinds" 220 (341812114609 : Int64) ∈ pgood := (pg_t2 157 rfl rfl)
theorem s_X5_161 : Cond.methodLink "PaperKinds" 161 yX5_spotIn ∈ pgood ∧ Cond.static yX5_spotIn ∈ pgood := ⟨(pg_t2 158 rfl rfl), (pg_t2 159 rfl rfl)⟩
theorem k_X5_229 : Cond.constantLong "PaperKinds" 229 (17 : Int64) ∈ pgood := (pg_t2 162 rfl rfl)
theorem s_L_52 : Cond.methodLink "PaperKindsLaw" 52 yX5_moved ∈ pgood ∧ Cond.instanceMethod yX5_moved ∈ pgood ∧ Cond.selects yX5_moved.cls yX5_moved yX5_moved ∈ pgood := ⟨(pg_t2 163 rfl rfl), (pg_t2 164 rfl rfl), (pg_t2 165 rfl rfl)⟩
theorem s_X5_165 : Cond.methodLink "PaperKinds" 165 yX5_moveIn ∈ pgood ∧ Cond.static yX5_moveIn ∈ pgood := ⟨(pg_t2 167 rfl rfl), (pg_t2 168 rfl rfl)⟩
theorem k_X5_222 : Cond.constantLong "PaperKinds" 222 (6975757441 : Int64) ∈ pgood := (pg_t2 170 rfl rfl)
theorem k_X5_224 : Cond.constantLong "PaperKinds" 224 (49 : Int64) ∈ pgood := (pg_t2 171 rfl rfl)
theorem s_X5_168 : Cond.methodLink "PaperKinds" 168 yX5_downOf ∈ pgood ∧ Cond.static yX5_downOf ∈ pgood := ⟨(pg_t2 172 rfl rfl), (pg_t2 117 rfl rfl)⟩
theorem s_X5_171 : Cond.methodLink "PaperKinds" 171 yX5_acrossOf ∈ pgood ∧ Cond.static yX5_acrossOf ∈ pgood := ⟨(pg_t2 173 rfl rfl), (pg_t2 114 rfl rfl)⟩
theorem s_L_57 : Cond.methodLink "PaperKindsLaw" 57 yX5_read ∈ pgood ∧ Cond.instanceMethod yX5_read ∈ pgood ∧ Cond.selects yX5_read.cls yX5_read yX5_read ∈ pgood := ⟨(pg_t2 174 rfl rfl), (pg_t2 175 rfl rfl), (pg_t2 176 rfl rfl)⟩
theorem s_L_61 : Cond.methodLink "PaperKindsLaw" 61 yX5_sorted ∈ pgood ∧ Cond.instanceMethod yX5_sorted ∈ pgood ∧ Cond.selects yX5_sorted.cls yX5_sorted yX5_sorted ∈ pgood := ⟨(pg_t2 178 rfl rfl), (pg_t2 179 rfl rfl), (pg_t2 180 rfl rfl)⟩
theorem s_X5_174 : Cond.methodLink "PaperKinds" 174 yX5_rank ∈ pgood ∧ Cond.instanceMethod yX5_rank ∈ pgood ∧ Cond.selects yX5_rank.cls yX5_rank yX5_rank ∈ pgood := ⟨(pg_t2 182 rfl rfl), (pg_t2 184 rfl rfl), (pg_s 18 rfl rfl)⟩
theorem s_X5_231 : Cond.methodLink "PaperKinds" 231 yX3_clear ∈ pgood ∧ Cond.instanceMethod yX3_clear ∈ pgood ∧ Cond.selects yX3_clear.cls yX3_clear yX3_clear ∈ pgood := ⟨(pg_t2 186 rfl rfl), (pg_t2 187 rfl rfl), (pg_t2 188 rfl rfl)⟩
theorem s_X5_234 : Cond.methodLink "PaperKinds" 234 yX3_take ∈ pgood ∧ Cond.instanceMethod yX3_take ∈ pgood ∧ Cond.selects yX3_take.cls yX3_take yX3_take ∈ pgood := ⟨(pg_t2 190 rfl rfl), (pg_t2 191 rfl rfl), (pg_t2 192 rfl rfl)⟩
theorem s_X5_237 : Cond.methodLink "PaperKinds" 237 yX3_answer ∈ pgood ∧ Cond.instanceMethod yX3_answer ∈ pgood ∧ Cond.selects yX3_answer.cls yX3_answer yX3_answer ∈ pgood := ⟨(pg_t2 194 rfl rfl), (pg_t2 195 rfl rfl), (pg_t2 196 rfl rfl)⟩
theorem s_X3_22 : Cond.methodLink "PaperKinds$Ranking" 22 yX3_spread ∈ pgood ∧ Cond.instanceMethod yX3_spread ∈ pgood ∧ Cond.selects yX3_spread.cls yX3_spread yX3_spread ∈ pgood := ⟨(pg_t2 198 rfl rfl), (pg_t2 199 rfl rfl), (pg_t2 200 rfl rfl)⟩
theorem s_L_66 : Cond.methodLink "PaperKindsLaw" 66 yX5_told ∈ pgood ∧ Cond.instanceMethod yX5_told ∈ pgood ∧ Cond.selects yX5_told.cls yX5_told yX5_told ∈ pgood := ⟨(pg_t2 202 rfl rfl), (pg_t2 203 rfl rfl), (pg_t2 204 rfl rfl)⟩
theorem s_L_70 : Cond.methodLink "PaperKindsLaw" 70 yX5_look ∈ pgood ∧ Cond.instanceMethod yX5_look ∈ pgood ∧ Cond.selects yX5_look.cls yX5_look yX5_look ∈ pgood := ⟨(pg_t2 206 rfl rfl), (pg_t2 207 rfl rfl), (pg_t2 208 rfl rfl)⟩
theorem k_X5_178 : Cond.constant "PaperKinds" 178 (1000000 : Int32) ∈ pgood := (pg_t2 210 rfl rfl)
theorem s_X5_179 : Cond.methodLink "PaperKinds" 179 yX3_spread ∈ pgood ∧ Cond.instanceMethod yX3_spread ∈ pgood ∧ Cond.selects yX3_spread.cls yX3_spread yX3_spread ∈ pgood := ⟨(pg_t2 211 rfl rfl), (pg_t2 199 rfl rfl), (pg_t2 200 rfl rfl)⟩
theorem s_L_74 : Cond.methodLink "PaperKindsLaw" 74 yX5_heaps ∈ pgood ∧ Cond.instanceMethod yX5_heaps ∈ pgood ∧ Cond.selects yX5_heaps.cls yX5_heaps yX5_heaps ∈ pgood := ⟨(pg_t2 212 rfl rfl), (pg_t2 213 rfl rfl), (pg_t2 214 rfl rfl)⟩
theorem s_X5_183 : Cond.methodLink "PaperKinds" 183 yX5_findHeaps ∈ pgood ∧ Cond.instanceMethod yX5_findHeaps ∈ pgood ∧ Cond.selects yX5_findHeaps.cls yX5_findHeaps yX5_findHeaps ∈ pgood := ⟨(pg_t2 216 rfl rfl), (pg_t2 218 rfl rfl), (pg_s 19 rfl rfl)⟩
theorem s_X5_240 : Cond.methodLink "PaperKinds" 240 yX5_nearCost ∈ pgood ∧ Cond.instanceMethod yX5_nearCost ∈ pgood ∧ Cond.selects yX5_nearCost.cls yX5_nearCost yX5_nearCost ∈ pgood := ⟨(pg_t2 220 rfl rfl), (pg_t2 222 rfl rfl), (pg_s 20 rfl rfl)⟩
theorem s_X5_243 : Cond.methodLink "PaperKinds" 243 yX5_joinHeaps ∈ pgood ∧ Cond.instanceMethod yX5_joinHeaps ∈ pgood ∧ Cond.selects yX5_joinHeaps.cls yX5_joinHeaps yX5_joinHeaps ∈ pgood := ⟨(pg_t2 224 rfl rfl), (pg_t2 226 rfl rfl), (pg_s 21 rfl rfl)⟩
theorem s_X5_186 : Cond.methodLink "PaperKinds" 186 Lib.Math.min.name ∈ pgood ∧ Cond.static Lib.Math.min.name ∈ pgood ∧ Cond.initialized "java/lang/Math" ∈ pgood ∧ Cond.code Lib.Math.min.name Lib.Math.min.code 2 (some .int) ∈ pgood := ⟨(pg_t2 228 rfl rfl), (pg_t2 98 rfl rfl), (pg_t1 8 rfl rfl), (pg_t2 99 rfl rfl)⟩
theorem s_X5_192 : Cond.methodLink "PaperKinds" 192 Lib.Math.max.name ∈ pgood ∧ Cond.static Lib.Math.max.name ∈ pgood ∧ Cond.initialized "java/lang/Math" ∈ pgood ∧ Cond.code Lib.Math.max.name Lib.Math.max.code 2 (some .int) ∈ pgood := ⟨(pg_t2 229 rfl rfl), (pg_t2 230 rfl rfl), (pg_t1 8 rfl rfl), (pg_t2 231 rfl rfl)⟩
theorem s_L_78 : Cond.methodLink "PaperKindsLaw" 78 yX5_heap ∈ pgood ∧ Cond.instanceMethod yX5_heap ∈ pgood ∧ Cond.selects yX5_heap.cls yX5_heap yX5_heap ∈ pgood := ⟨(pg_t2 232 rfl rfl), (pg_t2 233 rfl rfl), (pg_t2 234 rfl rfl)⟩
theorem s_L_82 : Cond.methodLink "PaperKindsLaw" 82 yX5_versions ∈ pgood ∧ Cond.instanceMethod yX5_versions ∈ pgood ∧ Cond.selects yX5_versions.cls yX5_versions yX5_versions ∈ pgood := ⟨(pg_t2 236 rfl rfl), (pg_t2 237 rfl rfl), (pg_t2 238 rfl rfl)⟩
theorem s_X5_199 : Cond.methodLink "PaperKinds" 199 yX5_codeApart ∈ pgood ∧ Cond.static yX5_codeApart ∈ pgood := ⟨(pg_t3 0 rfl rfl), (pg_t3 1 rfl rfl)⟩
theorem s_L_86 : Cond.methodLink "PaperKindsLaw" 86 yX5_touch ∈ pgood ∧ Cond.instanceMethod yX5_touch ∈ pgood ∧ Cond.selects yX5_touch.cls yX5_touch yX5_touch ∈ pgood := ⟨(pg_t3 3 rfl rfl), (pg_t3 4 rfl rfl), (pg_t3 5 rfl rfl)⟩
theorem s_X5_203 : Cond.methodLink "PaperKinds" 203 yX5_tryTelling ∈ pgood ∧ Cond.instanceMethod yX5_tryTelling ∈ pgood ∧ Cond.selects yX5_tryTelling.cls yX5_tryTelling yX5_tryTelling ∈ pgood := ⟨(pg_t3 7 rfl rfl), (pg_t3 9 rfl rfl), (pg_s 22 rfl rfl)⟩
theorem s_X5_246 : Cond.methodLink "PaperKinds" 246 yX5_tryMaking ∈ pgood ∧ Cond.instanceMethod yX5_tryMaking ∈ pgood ∧ Cond.selects yX5_tryMaking.cls yX5_tryMaking yX5_tryMaking ∈ pgood := ⟨(pg_t3 11 rfl rfl), (pg_t3 13 rfl rfl), (pg_s 23 rfl rfl)⟩
theorem s_L_90 : Cond.methodLink "PaperKindsLaw" 90 yX5_about ∈ pgood ∧ Cond.instanceMethod yX5_about ∈ pgood ∧ Cond.selects yX5_about.cls yX5_about yX5_about ∈ pgood := ⟨(pg_t3 15 rfl rfl), (pg_t3 16 rfl rfl), (pg_t3 17 rfl rfl)⟩
theorem s_X5_207 : Cond.methodLink "PaperKinds" 207 yX5_boxesAskedFor ∈ pgood ∧ Cond.instanceMethod yX5_boxesAskedFor ∈ pgood ∧ Cond.selects yX5_boxesAskedFor.cls yX5_boxesAskedFor yX5_boxesAskedFor ∈ pgood := ⟨(pg_t3 19 rfl rfl), (pg_t3 21 rfl rfl), (pg_s 24 rfl rfl)⟩
theorem cl_L_10 : Cond.classLink "PaperKindsLaw" 10 "PaperKindsModel" ∈ pgood ∧ Cond.instantiable "PaperKindsModel" 39 ∈ pgood ∧ Cond.initialized "PaperKindsModel" ∈ pgood := ⟨(pg_t3 23 rfl rfl), (pg_t3 24 rfl rfl), (pg_t1 7 rfl rfl)⟩
theorem s_L_12 : Cond.methodLink "PaperKindsLaw" 12 yX6_init ∈ pgood ∧ Cond.instanceMethod yX6_init ∈ pgood ∧ yX6_init.name = "<init>" := ⟨(pg_t3 25 rfl rfl), (pg_t3 26 rfl rfl), rfl⟩
theorem s_X6_1 : Cond.methodLink "PaperKindsModel" 1 objectInit ∈ pgood ∧ Cond.instanceMethod objectInit ∈ pgood ∧ Cond.code objectInit ⟨#[0xb1]⟩ 1 none ∈ pgood := ⟨(pg_t3 28 rfl rfl), (pg_t1 15 rfl rfl), (pg_t1 16 rfl rfl)⟩
theorem s_L_17 : Cond.methodLink "PaperKindsLaw" 17 yX6_page ∈ pgood ∧ Cond.instanceMethod yX6_page ∈ pgood ∧ Cond.selects yX6_page.cls yX6_page yX6_page ∈ pgood := ⟨(pg_t3 147 rfl rfl), (pg_t3 148 rfl rfl), (pg_t3 149 rfl rfl)⟩
theorem s_X6_110 : Cond.methodLink "PaperKindsModel" 110 yX6_changes ∈ pgood ∧ Cond.instanceMethod yX6_changes ∈ pgood ∧ Cond.selects yX6_changes.cls yX6_changes yX6_changes ∈ pgood := ⟨(pg_t3 151 rfl rfl), (pg_t3 153 rfl rfl), (pg_s 25 rfl rfl)⟩
theorem s_L_22 : Cond.methodLink "PaperKindsLaw" 22 yX6_box ∈ pgood ∧ Cond.instanceMethod yX6_box ∈ pgood ∧ Cond.selects yX6_box.cls yX6_box yX6_box ∈ pgood := ⟨(pg_t3 155 rfl rfl), (pg_t3 156 rfl rfl), (pg_t3 157 rfl rfl)⟩
theorem s_X6_113 : Cond.methodLink "PaperKindsModel" 113 yX6_isPage ∈ pgood ∧ Cond.instanceMethod yX6_isPage ∈ pgood ∧ Cond.selects yX6_isPage.cls yX6_isPage yX6_isPage ∈ pgood := ⟨(pg_t3 159 rfl rfl), (pg_t3 161 rfl rfl), (pg_s 26 rfl rfl)⟩
theorem s_X6_102 : Cond.methodLink "PaperKindsModel" 102 yX6_in ∈ pgood ∧ Cond.static yX6_in ∈ pgood := ⟨(pg_t3 163 rfl rfl), (pg_t3 164 rfl rfl)⟩
theorem s_L_27 : Cond.methodLink "PaperKindsLaw" 27 yX6_tell ∈ pgood ∧ Cond.instanceMethod yX6_tell ∈ pgood ∧ Cond.selects yX6_tell.cls yX6_tell yX6_tell ∈ pgood := ⟨(pg_t3 166 rfl rfl), (pg_t3 167 rfl rfl), (pg_t3 168 rfl rfl)⟩
theorem s_L_32 : Cond.methodLink "PaperKindsLaw" 32 yX6_weights ∈ pgood ∧ Cond.instanceMethod yX6_weights ∈ pgood ∧ Cond.selects yX6_weights.cls yX6_weights yX6_weights ∈ pgood := ⟨(pg_t3 170 rfl rfl), (pg_t3 171 rfl rfl), (pg_t3 172 rfl rfl)⟩
theorem s_L_37 : Cond.methodLink "PaperKindsLaw" 37 yX6_bounds ∈ pgood ∧ Cond.instanceMethod yX6_bounds ∈ pgood ∧ Cond.selects yX6_bounds.cls yX6_bounds yX6_bounds ∈ pgood := ⟨(pg_t3 174 rfl rfl), (pg_t3 175 rfl rfl), (pg_t3 176 rfl rfl)⟩
theorem s_L_42 : Cond.methodLink "PaperKindsLaw" 42 yX6_kind ∈ pgood ∧ Cond.instanceMethod yX6_kind ∈ pgood ∧ Cond.selects yX6_kind.cls yX6_kind yX6_kind ∈ pgood := ⟨(pg_t3 178 rfl rfl), (pg_t3 179 rfl rfl), (pg_t3 180 rfl rfl)⟩
theorem s_X6_129 : Cond.methodLink "PaperKindsModel" 129 yX6_makes ∈ pgood ∧ Cond.instanceMethod yX6_makes ∈ pgood ∧ Cond.selects yX6_makes.cls yX6_makes yX6_makes ∈ pgood := ⟨(pg_t3 182 rfl rfl), (pg_t3 184 rfl rfl), (pg_s 27 rfl rfl)⟩
theorem s_X6_117 : Cond.methodLink "PaperKindsModel" 117 yX6_makesSpot ∈ pgood ∧ Cond.instanceMethod yX6_makesSpot ∈ pgood ∧ Cond.selects yX6_makesSpot.cls yX6_makesSpot yX6_makesSpot ∈ pgood := ⟨(pg_t3 186 rfl rfl), (pg_t3 188 rfl rfl), (pg_s 28 rfl rfl)⟩
theorem s_X6_121 : Cond.methodLink "PaperKindsModel" 121 yX6_boxWith ∈ pgood ∧ Cond.instanceMethod yX6_boxWith ∈ pgood ∧ Cond.selects yX6_boxWith.cls yX6_boxWith yX6_boxWith ∈ pgood := ⟨(pg_t3 190 rfl rfl), (pg_t3 192 rfl rfl), (pg_s 29 rfl rfl)⟩
theorem s_X6_125 : Cond.methodLink "PaperKindsModel" 125 yX6_middle ∈ pgood ∧ Cond.instanceMethod yX6_middle ∈ pgood ∧ Cond.selects yX6_middle.cls yX6_middle yX6_middle ∈ pgood := ⟨(pg_t3 194 rfl rfl), (pg_t3 196 rfl rfl), (pg_s 30 rfl rfl)⟩
theorem s_L_47 : Cond.methodLink "PaperKindsLaw" 47 yX6_spot ∈ pgood ∧ Cond.instanceMethod yX6_spot ∈ pgood ∧ Cond.selects yX6_spot.cls yX6_spot yX6_spot ∈ pgood := ⟨(pg_t3 198 rfl rfl), (pg_t3 199 rfl rfl), (pg_t3 200 rfl rfl)⟩
theorem s_L_51 : Cond.methodLink "PaperKindsLaw" 51 yX6_lay ∈ pgood ∧ Cond.instanceMethod yX6_lay ∈ pgood ∧ Cond.selects yX6_lay.cls yX6_lay yX6_lay ∈ pgood := ⟨(pg_t3 202 rfl rfl), (pg_t3 203 rfl rfl), (pg_t3 204 rfl rfl)⟩
theorem s_X6_173 : Cond.methodLink "PaperKindsModel" 173 yX6_isLaid ∈ pgood ∧ Cond.instanceMethod yX6_isLaid ∈ pgood ∧ Cond.selects yX6_isLaid.cls yX6_isLaid yX6_isLaid ∈ pgood := ⟨(pg_t3 206 rfl rfl), (pg_t3 208 rfl rfl), (pg_s 31 rfl rfl)⟩
theorem s_X6_168 : Cond.methodLink "PaperKindsModel" 168 yX6_isKind ∈ pgood ∧ Cond.instanceMethod yX6_isKind ∈ pgood ∧ Cond.selects yX6_isKind.cls yX6_isKind yX6_isKind ∈ pgood := ⟨(pg_t3 210 rfl rfl), (pg_t3 212 rfl rfl), (pg_s 32 rfl rfl)⟩
theorem s_X6_158 : Cond.methodLink "PaperKindsModel" 158 yX6_takesPage ∈ pgood ∧ Cond.instanceMethod yX6_takesPage ∈ pgood ∧ Cond.selects yX6_takesPage.cls yX6_takesPage yX6_takesPage ∈ pgood := ⟨(pg_t3 214 rfl rfl), (pg_t3 216 rfl rfl), (pg_s 33 rfl rfl)⟩
theorem s_X6_162 : Cond.methodLink "PaperKindsModel" 162 yX6_takesSpots ∈ pgood ∧ Cond.instanceMethod yX6_takesSpots ∈ pgood ∧ Cond.selects yX6_takesSpots.cls yX6_takesSpots yX6_takesSpots ∈ pgood := ⟨(pg_t3 218 rfl rfl), (pg_t3 220 rfl rfl), (pg_s 34 rfl rfl)⟩
theorem s_X6_165 : Cond.methodLink "PaperKindsModel" 165 yX6_seeks ∈ pgood ∧ Cond.instanceMethod yX6_seeks ∈ pgood ∧ Cond.selects yX6_seeks.cls yX6_seeks yX6_seeks ∈ pgood := ⟨(pg_t3 222 rfl rfl), (pg_t3 224 rfl rfl), (pg_s 35 rfl rfl)⟩
theorem k_X6_138 : Cond.constant "PaperKindsModel" 138 (1000000 : Int32) ∈ pgood := (pg_t3 226 rfl rfl)
theorem s_X6_149 : Cond.methodLink "PaperKindsModel" 149 yX6_byMove ∈ pgood ∧ Cond.instanceMethod yX6_byMove ∈ pgood ∧ Cond.selects yX6_byMove.cls yX6_byMove yX6_byMove ∈ pgood := ⟨(pg_t3 227 rfl rfl), (pg_t3 229 rfl rfl), (pg_s 36 rfl rfl)⟩
theorem s_X6_142 : Cond.methodLink "PaperKindsModel" 142 yX6_lays ∈ pgood ∧ Cond.instanceMethod yX6_lays ∈ pgood ∧ Cond.selects yX6_lays.cls yX6_lays yX6_lays ∈ pgood := ⟨(pg_t3 231 rfl rfl), (pg_t3 233 rfl rfl), (pg_s 37 rfl rfl)⟩
theorem s_X6_132 : Cond.methodLink "PaperKindsModel" 132 yX6_apart ∈ pgood ∧ Cond.static yX6_apart ∈ pgood := ⟨(pg_t3 235 rfl rfl), (pg_t3 236 rfl rfl)⟩
theorem s_X6_171 : Cond.methodLink "PaperKindsModel" 171 yX6_places ∈ pgood ∧ Cond.instanceMethod yX6_places ∈ pgood ∧ Cond.selects yX6_places.cls yX6_places yX6_places ∈ pgood := ⟨(pg_t3 238 rfl rfl), (pg_t4 0 rfl rfl), (pg_s 38 rfl rfl)⟩
theorem s_L_56 : Cond.methodLink "PaperKindsLaw" 56 yX6_moved ∈ pgood ∧ Cond.instanceMethod yX6_moved ∈ pgood ∧ Cond.selects yX6_moved.cls yX6_moved yX6_moved ∈ pgood := ⟨(pg_t4 2 rfl rfl), (pg_t4 3 rfl rfl), (pg_t4 4 rfl rfl)⟩
theorem s_L_60 : Cond.methodLink "PaperKindsLaw" 60 yX6_read ∈ pgood ∧ Cond.instanceMethod yX6_read ∈ pgood ∧ Cond.selects yX6_read.cls yX6_read yX6_read ∈ pgood := ⟨(pg_t4 6 rfl rfl), (pg_t4 7 rfl rfl), (pg_t4 8 rfl rfl)⟩
theorem s_L_65 : Cond.methodLink "PaperKindsLaw" 65 yX6_sorted ∈ pgood ∧ Cond.instanceMethod yX6_sorted ∈ pgood ∧ Cond.selects yX6_sorted.cls yX6_sorted yX6_sorted ∈ pgood := ⟨(pg_t4 10 rfl rfl), (pg_t4 11 rfl rfl), (pg_t4 12 rfl rfl)⟩
theorem s_X6_192 : Cond.methodLink "PaperKindsModel" 192 yX6_sortOf ∈ pgood ∧ Cond.instanceMethod yX6_sortOf ∈ pgood ∧ Cond.selects yX6_sortOf.cls yX6_sortOf yX6_sortOf ∈ pgood := ⟨(pg_t4 14 rfl rfl), (pg_t4 16 rfl rfl), (pg_s 39 rfl rfl)⟩
theorem s_X6_189 : Cond.methodLink "PaperKindsModel" 189 yX6_looks ∈ pgood ∧ Cond.instanceMethod yX6_looks ∈ pgood ∧ Cond.selects yX6_looks.cls yX6_looks yX6_looks ∈ pgood := ⟨(pg_t4 18 rfl rfl), (pg_t4 20 rfl rfl), (pg_s 40 rfl rfl)⟩
theorem s_X6_186 : Cond.methodLink "PaperKindsModel" 186 yX6_costOf ∈ pgood ∧ Cond.instanceMethod yX6_costOf ∈ pgood ∧ Cond.selects yX6_costOf.cls yX6_costOf yX6_costOf ∈ pgood := ⟨(pg_t4 22 rfl rfl), (pg_t4 24 rfl rfl), (pg_s 41 rfl rfl)⟩
theorem s_L_69 : Cond.methodLink "PaperKindsLaw" 69 yX6_told ∈ pgood ∧ Cond.instanceMethod yX6_told ∈ pgood ∧ Cond.selects yX6_told.cls yX6_told yX6_told ∈ pgood := ⟨(pg_t4 26 rfl rfl), (pg_t4 27 rfl rfl), (pg_t4 28 rfl rfl)⟩
theorem s_L_73 : Cond.methodLink "PaperKindsLaw" 73 yX6_look ∈ pgood ∧ Cond.instanceMethod yX6_look ∈ pgood ∧ Cond.selects yX6_look.cls yX6_look yX6_look ∈ pgood := ⟨(pg_t4 30 rfl rfl), (pg_t4 31 rfl rfl), (pg_t4 32 rfl rfl)⟩
theorem s_L_77 : Cond.methodLink "PaperKindsLaw" 77 yX6_heaps ∈ pgood ∧ Cond.instanceMethod yX6_heaps ∈ pgood ∧ Cond.selects yX6_heaps.cls yX6_heaps yX6_heaps ∈ pgood := ⟨(pg_t4 34 rfl rfl), (pg_t4 35 rfl rfl), (pg_t4 36 rfl rfl)⟩
theorem s_X6_204 : Cond.methodLink "PaperKindsModel" 204 yX6_gathers ∈ pgood ∧ Cond.instanceMethod yX6_gathers ∈ pgood ∧ Cond.selects yX6_gathers.cls yX6_gathers yX6_gathers ∈ pgood := ⟨(pg_t4 38 rfl rfl), (pg_t4 40 rfl rfl), (pg_s 42 rfl rfl)⟩
theorem s_X6_195 : Cond.methodLink "PaperKindsModel" 195 yX6_isUnknown ∈ pgood ∧ Cond.instanceMethod yX6_isUnknown ∈ pgood ∧ Cond.selects yX6_isUnknown.cls yX6_isUnknown yX6_isUnknown ∈ pgood := ⟨(pg_t4 42 rfl rfl), (pg_t4 44 rfl rfl), (pg_s 43 rfl rfl)⟩
theorem s_X6_198 : Cond.methodLink "PaperKindsModel" 198 yX6_isNear ∈ pgood ∧ Cond.instanceMethod yX6_isNear ∈ pgood ∧ Cond.selects yX6_isNear.cls yX6_isNear yX6_isNear ∈ pgood := ⟨(pg_t4 46 rfl rfl), (pg_t4 48 rfl rfl), (pg_s 44 rfl rfl)⟩
theorem s_X6_201 : Cond.methodLink "PaperKindsModel" 201 yX6_joins ∈ pgood ∧ Cond.instanceMethod yX6_joins ∈ pgood ∧ Cond.selects yX6_joins.cls yX6_joins yX6_joins ∈ pgood := ⟨(pg_t4 50 rfl rfl), (pg_t4 52 rfl rfl), (pg_s 45 rfl rfl)⟩
theorem s_L_81 : Cond.methodLink "PaperKindsLaw" 81 yX6_heap ∈ pgood ∧ Cond.instanceMethod yX6_heap ∈ pgood ∧ Cond.selects yX6_heap.cls yX6_heap yX6_heap ∈ pgood := ⟨(pg_t4 54 rfl rfl), (pg_t4 55 rfl rfl), (pg_t4 56 rfl rfl)⟩
theorem s_L_85 : Cond.methodLink "PaperKindsLaw" 85 yX6_versions ∈ pgood ∧ Cond.instanceMethod yX6_versions ∈ pgood ∧ Cond.selects yX6_versions.cls yX6_versions yX6_versions ∈ pgood := ⟨(pg_t4 58 rfl rfl), (pg_t4 59 rfl rfl), (pg_t4 60 rfl rfl)⟩
theorem s_X6_210 : Cond.methodLink "PaperKindsModel" 210 yX6_toldBy ∈ pgood ∧ Cond.instanceMethod yX6_toldBy ∈ pgood ∧ Cond.selects yX6_toldBy.cls yX6_toldBy yX6_toldBy ∈ pgood := ⟨(pg_t4 62 rfl rfl), (pg_t4 64 rfl rfl), (pg_s 46 rfl rfl)⟩
theorem s_X6_207 : Cond.methodLink "PaperKindsModel" 207 yX6_spotWith ∈ pgood ∧ Cond.instanceMethod yX6_spotWith ∈ pgood ∧ Cond.selects yX6_spotWith.cls yX6_spotWith yX6_spotWith ∈ pgood := ⟨(pg_t4 66 rfl rfl), (pg_t4 68 rfl rfl), (pg_s 47 rfl rfl)⟩
theorem s_X6_213 : Cond.methodLink "PaperKindsModel" 213 yX6_areVersions ∈ pgood ∧ Cond.instanceMethod yX6_areVersions ∈ pgood ∧ Cond.selects yX6_areVersions.cls yX6_areVersions yX6_areVersions ∈ pgood := ⟨(pg_t4 70 rfl rfl), (pg_t4 72 rfl rfl), (pg_s 48 rfl rfl)⟩
theorem s_L_89 : Cond.methodLink "PaperKindsLaw" 89 yX6_touch ∈ pgood ∧ Cond.instanceMethod yX6_touch ∈ pgood ∧ Cond.selects yX6_touch.cls yX6_touch yX6_touch ∈ pgood := ⟨(pg_t4 74 rfl rfl), (pg_t4 75 rfl rfl), (pg_t4 76 rfl rfl)⟩
theorem s_L_93 : Cond.methodLink "PaperKindsLaw" 93 yX6_about ∈ pgood ∧ Cond.instanceMethod yX6_about ∈ pgood ∧ Cond.selects yX6_about.cls yX6_about yX6_about ∈ pgood := ⟨(pg_t4 78 rfl rfl), (pg_t4 79 rfl rfl), (pg_t4 80 rfl rfl)⟩
theorem pdf0 : ∀ j, j < pnF 0 → defaultValue (pty 0 j) = pdv 0 j := fun j hj => by
  have hj : j < 3 := hj
  match j, hj with
  | 0, _ => rfl
  | 1, _ => rfl
  | 2, _ => rfl
  | q + 3, h => exact absurd h (by omega)
theorem pdf1 : ∀ j, j < pnF 1 → defaultValue (pty 1 j) = pdv 1 j := fun j hj => by
  have hj : j < 19 := hj
  match j, hj with
  | 0, _ => rfl
  | 1, _ => rfl
  | 2, _ => rfl
  | 3, _ => rfl
  | 4, _ => rfl
  | 5, _ => rfl
  | 6, _ => rfl
  | 7, _ => rfl
  | 8, _ => rfl
  | 9, _ => rfl
  | 10, _ => rfl
  | 11, _ => rfl
  | 12, _ => rfl
  | 13, _ => rfl
  | 14, _ => rfl
  | 15, _ => rfl
  | 16, _ => rfl
  | 17, _ => rfl
  | 18, _ => rfl
  | q + 19, h => exact absurd h (by omega)
theorem pdf2 : ∀ j, j < pnF 2 → defaultValue (pty 2 j) = pdv 2 j := fun j hj => by
  have hj : j < 3 := hj
  match j, hj with
  | 0, _ => rfl
  | 1, _ => rfl
  | 2, _ => rfl
  | q + 3, h => exact absurd h (by omega)
theorem pdf3 : ∀ j, j < pnF 3 → defaultValue (pty 3 j) = pdv 3 j := fun j hj => by
  have hj : j < 3 := hj
  match j, hj with
  | 0, _ => rfl
  | 1, _ => rfl
  | 2, _ => rfl
  | q + 3, h => exact absurd h (by omega)
theorem pdf4 : ∀ j, j < pnF 4 → defaultValue (pty 4 j) = pdv 4 j := fun j hj => by
  have hj : j < 5 := hj
  match j, hj with
  | 0, _ => rfl
  | 1, _ => rfl
  | 2, _ => rfl
  | 3, _ => rfl
  | 4, _ => rfl
  | q + 5, h => exact absurd h (by omega)
theorem pdf5 : ∀ j, j < pnF 5 → defaultValue (pty 5 j) = pdv 5 j := fun j hj => by
  have hj : j < 16 := hj
  match j, hj with
  | 0, _ => rfl
  | 1, _ => rfl
  | 2, _ => rfl
  | 3, _ => rfl
  | 4, _ => rfl
  | 5, _ => rfl
  | 6, _ => rfl
  | 7, _ => rfl
  | 8, _ => rfl
  | 9, _ => rfl
  | 10, _ => rfl
  | 11, _ => rfl
  | 12, _ => rfl
  | 13, _ => rfl
  | 14, _ => rfl
  | 15, _ => rfl
  | q + 16, h => exact absurd h (by omega)
theorem pdf6 : ∀ j, j < pnF 6 → defaultValue (pty 6 j) = pdv 6 j := fun j hj => by
  have hj : j < 39 := hj
  match j, hj with
  | 0, _ => rfl
  | 1, _ => rfl
  | 2, _ => rfl
  | 3, _ => rfl
  | 4, _ => rfl
  | 5, _ => rfl
  | 6, _ => rfl
  | 7, _ => rfl
  | 8, _ => rfl
  | 9, _ => rfl
  | 10, _ => rfl
  | 11, _ => rfl
  | 12, _ => rfl
  | 13, _ => rfl
  | 14, _ => rfl
  | 15, _ => rfl
  | 16, _ => rfl
  | 17, _ => rfl
  | 18, _ => rfl
  | 19, _ => rfl
  | 20, _ => rfl
  | 21, _ => rfl
  | 22, _ => rfl
  | 23, _ => rfl
  | 24, _ => rfl
  | 25, _ => rfl
  | 26, _ => rfl
  | 27, _ => rfl
  | 28, _ => rfl
  | 29, _ => rfl
  | 30, _ => rfl
  | 31, _ => rfl
  | 32, _ => rfl
  | 33, _ => rfl
  | 34, _ => rfl
  | 35, _ => rfl
  | 36, _ => rfl
  | 37, _ => rfl
  | 38, _ => rfl
  | q + 39, h => exact absurd h (by omega)
end
section
/-! ===== where everything lies once both objects are made ===== -/
def SH : List pShp := [.inl 5, .inr (3, 16), .inr (0, 16), .inr (4, 5), .inl 1, .inr (0, 136), .inr (0, 136), .inr (1, 136), .inr (1, 136), .inr (1, 8), .inr (1, 17), .inr (0, 17), .inr (1, 17), .inr (0, 17), .inr (2, 17), .inl 2, .inr (0, 100), .inr (0, 16), .inr (0, 16), .inl 3, .inr (0, 16), .inr (4, 5), .inl 0, .inl 4, .inr (0, 16), .inr (0, 16), .inr (0, 16), .inr (2, 16), .inr (1, 16), .inl 0, .inl 4, .inr (0, 16), .inr (0, 16), .inr (0, 16), .inr (2, 16), .inr (1, 16), .inr (0, 256), .inr (0, 16), .inl 4, .inr (0, 8), .inr (0, 8), .inr (0, 8), .inr (2, 8), .inl 4, .inr (0, 8), .inr (0, 8), .inr (0, 8), .inr (2, 8), .inl 4, .inr (0, 8), .inr (0, 8), .inr (0, 8), .inr (2, 8), .inl 4, .inr (0, 8), .inr (0, 8), .inr (0, 8), .inr (2, 8), .inl 4, .inr (0, 8), .inr (0, 8), .inr (0, 8), .inr (2, 8), .inl 4, .inr (0, 8), .inr (0, 8), .inr (0, 8), .inr (2, 8), .inl 4, .inr (0, 8), .inr (0, 8), .inr (0, 8), .inr (2, 8), .inl 4, .inr (0, 8), .inr (0, 8), .inr (0, 8), .inr (2, 8), .inl 4, .inr (0, 8), .inr (0, 8), .inr (0, 8), .inr (2, 8), .inl 4, .inr (0, 8), .inr (0, 8), .inr (0, 8), .inr (2, 8), .inl 4, .inr (0, 8), .inr (0, 8), .inr (0, 8), .inr (2, 8), .inl 4, .inr (0, 8), .inr (0, 8), .inr (0, 8), .inr (2, 8), .inl 4, .inr (0, 8), .inr (0, 8), .inr (0, 8), .inr (2, 8), .inl 4, .inr (0, 8), .inr (0, 8), .inr (0, 8), .inr (2, 8), .inl 4, .inr (0, 8), .inr (0, 8), .inr (0, 8), .inr (2, 8), .inl 4, .inr (0, 8), .inr (0, 8), .inr (0, 8), .inr (2, 8), .inl 0, .inl 4, .inr (0, 16), .inr (0, 16), .inr (0, 16), .inr (2, 16), .inr (1, 16), .inl 0, .inl 4, .inr (0, 16), .inr (0, 16), .inr (0, 16), .inr (2, 16), .inr (1, 16), .inl 0, .inl 4, .inr (0, 16), .inr (0, 16), .inr (0, 16), .inr (2, 16), .inr (1, 16), .inl 0, .inl 4, .inr (0, 16), .inr (0, 16), .inr (0, 16), .inr (2, 16), .inr (1, 16), .inl 0, .inl 4, .inr (0, 16), .inr (0, 16), .inr (0, 16), .inr (2, 16), .inr (1, 16), .inl 6, .inr (0, 16), .inr (0, 128), .inr (0, 128), .inr (0, 128), .inr (0, 16), .inr (0, 5), .inr (0, 5), .inr (0, 5), .inr (0, 80), .inr (0, 80), .inr (0, 80), .inr (2, 80), .inr (0, 8), .inr (0, 8), .inr (0, 8), .inr (0, 16), .inr (0, 16), .inr (0, 16), .inr (2, 16), .inr (0, 4352), .inr (0, 8), .inr (0, 8), .inr (0, 80), .inr (0, 16), .inr (0, 16), .inr (0, 16)]
def RTl : List (List (Option Nat)) := [[some 1, some 2, some 3, some 4, some 15, some 19, some 20, some 21, some 22, some 29, some 36, some 37], [some 38, some 43, some 48, some 53, some 58, some 63, some 68, some 73, some 78, some 83, some 88, some 93, some 98, some 103, some 108, some 113], [], [some 118, some 125, some 132, some 139, some 146], [none, none, none, none, none, none, none, none, none, some 5, some 6, some 7, some 8, some 9, some 10, some 11, some 12, some 13, some 14], [], [], [], [], [], [], [], [], [], [], [some 16, some 17, some 18], [], [], [], [], [], [], [some 23, some 28], [some 24, some 25, some 26, some 27], [], [], [], [], [], [some 30, some 35], [some 31, some 32, some 33, some 34], [], [], [], [], [], [], [], [some 39, some 40, some 41, some 42], [], [], [], [], [some 44, some 45, some 46, some 47], [], [], [], [], [some 49, some 50, some 51, some 52], [], [], [], [], [some 54, some 55, some 56, some 57], [], [], [], [], [some 59, some 60, some 61, some 62], [], [], [], [], [some 64, some 65, some 66, some 67], [], [], [], [], [some 69, some 70, some 71, some 72], [], [], [], [], [some 74, some 75, some 76, some 77], [], [], [], [], [some 79, some 80, some 81, some 82], [], [], [], [], [some 84, some 85, some 86, some 87], [], [], [], [], [some 89, some 90, some 91, some 92], [], [], [], [], [some 94, some 95, some 96, some 97], [], [], [], [], [some 99, some 100, some 101, some 102], [], [], [], [], [some 104, some 105, some 106, some 107], [], [], [], [], [some 109, some 110, some 111, some 112], [], [], [], [], [some 114, some 115, some 116, some 117], [], [], [], [], [some 119, some 124], [some 120, some 121, some 122, some 123], [], [], [], [], [], [some 126, some 131], [some 127, some 128, some 129, some 130], [], [], [], [], [], [some 133, some 138], [some 134, some 135, some 136, some 137], [], [], [], [], [], [some 140, some 145], [some 141, some 142, some 143, some 144], [], [], [], [], [], [some 147, some 152], [some 148, some 149, some 150, some 151], [], [], [], [], [], [none, some 154, some 155, some 156, some 157, some 158, some 159, none, none, none, none, some 160, some 161, some 162, some 163, some 164, some 165, none, some 166, some 167, some 168, none, some 169, some 170, some 171, some 172, some 173, some 174, none, none, none, some 175, some 176, some 177, none, none, none, some 178, some 179], [], [], [], [], [], [], [], [], [], [], [], [], [], [], [], [], [], [], [], [], [], [], [], [], [], []]
def RT (a i : Nat) : Option Nat := (RTl.getD a []).getD i none
theorem sh_0 : SH[0]? = some (.inl 5) := rfl
theorem sh_1 : SH[1]? = some (.inr (3, 16)) := rfl
theorem sh_2 : SH[2]? = some (.inr (0, 16)) := rfl
theorem sh_3 : SH[3]? = some (.inr (4, 5)) := rfl
theorem sh_4 : SH[4]? = some (.inl 1) := rfl
theorem sh_5 : SH[5]? = some (.inr (0, 136)) := rfl
theorem sh_6 : SH[6]? = some (.inr (0, 136)) := rfl
theorem sh_7 : SH[7]? = some (.inr (1, 136)) := rfl
theorem sh_8 : SH[8]? = some (.inr (1, 136)) := rfl
theorem sh_9 : SH[9]? = some (.inr (1, 8)) := rfl
theorem sh_10 : SH[10]? = some (.inr (1, 17)) := rfl
theorem sh_11 : SH[11]? = some (.inr (0, 17)) := rfl
theorem sh_12 : SH[12]? = some (.inr (1, 17)) := rfl
theorem sh_13 : SH[13]? = some (.inr (0, 17)) := rfl
theorem sh_14 : SH[14]? = some (.inr (2, 17)) := rfl
theorem sh_15 : SH[15]? = some (.inl 2) := rfl
theorem sh_16 : SH[16]? = some (.inr (0, 100)) := rfl
theorem sh_17 : SH[17]? = some (.inr (0, 16)) := rfl
theorem sh_18 : SH[18]? = some (.inr (0, 16)) := rfl
theorem sh_19 : SH[19]? = some (.inl 3) := rfl
theorem sh_20 : SH[20]? = some (.inr (0, 16)) := rfl
theorem sh_21 : SH[21]? = some (.inr (4, 5)) := rfl
theorem sh_22 : SH[22]? = some (.inl 0) := rfl
theorem sh_23 : SH[23]? = some (.inl 4) := rfl
theorem sh_24 : SH[24]? = some (.inr (0, 16)) := rfl
theorem sh_25 : SH[25]? = some (.inr (0, 16)) := rfl
theorem sh_26 : SH[26]? = some (.inr (0, 16)) := rfl
theorem sh_27 : SH[27]? = some (.inr (2, 16)) := rfl
theorem sh_28 : SH[28]? = some (.inr (1, 16)) := rfl
theorem sh_29 : SH[29]? = some (.inl 0) := rfl
theorem sh_30 : SH[30]? = some (.inl 4) := rfl
theorem sh_31 : SH[31]? = some (.inr (0, 16)) := rfl
theorem sh_32 : SH[32]? = some (.inr (0, 16)) := rfl
theorem sh_33 : SH[33]? = some (.inr (0, 16)) := rfl
theorem sh_34 : SH[34]? = some (.inr (2, 16)) := rfl
theorem sh_35 : SH[35]? = some (.inr (1, 16)) := rfl
theorem sh_36 : SH[36]? = some (.inr (0, 256)) := rfl
theorem sh_37 : SH[37]? = some (.inr (0, 16)) := rfl
theorem sh_38 : SH[38]? = some (.inl 4) := rfl
theorem sh_39 : SH[39]? = some (.inr (0, 8)) := rfl
theorem sh_40 : SH[40]? = some (.inr (0, 8)) := rfl
theorem sh_41 : SH[41]? = some (.inr (0, 8)) := rfl
theorem sh_42 : SH[42]? = some (.inr (2, 8)) := rfl
theorem sh_43 : SH[43]? = some (.inl 4) := rfl
theorem sh_44 : SH[44]? = some (.inr (0, 8)) := rfl
theorem sh_45 : SH[45]? = some (.inr (0, 8)) := rfl
theorem sh_46 : SH[46]? = some (.inr (0, 8)) := rfl
theorem sh_47 : SH[47]? = some (.inr (2, 8)) := rfl
theorem sh_48 : SH[48]? = some (.inl 4) := rfl
theorem sh_49 : SH[49]? = some (.inr (0, 8)) := rfl
theorem sh_50 : SH[50]? = some (.inr (0, 8)) := rfl
theorem sh_51 : SH[51]? = some (.inr (0, 8)) := rfl
theorem sh_52 : SH[52]? = some (.inr (2, 8)) := rfl
theorem sh_53 : SH[53]? = some (.inl 4) := rfl
theorem sh_54 : SH[54]? = some (.inr (0, 8)) := rfl
theorem sh_55 : SH[55]? = some (.inr (0, 8)) := rfl
theorem sh_56 : SH[56]? = some (.inr (0, 8)) := rfl
theorem sh_57 : SH[57]? = some (.inr (2, 8)) := rfl
theorem sh_58 : SH[58]? = some (.inl 4) := rfl
theorem sh_59 : SH[59]? = some (.inr (0, 8)) := rfl
theorem sh_60 : SH[60]? = some (.inr (0, 8)) := rfl
theorem sh_61 : SH[61]? = some (.inr (0, 8)) := rfl
theorem sh_62 : SH[62]? = some (.inr (2, 8)) := rfl
theorem sh_63 : SH[63]? = some (.inl 4) := rfl
theorem sh_64 : SH[64]? = some (.inr (0, 8)) := rfl
theorem sh_65 : SH[65]? = some (.inr (0, 8)) := rfl
theorem sh_66 : SH[66]? = some (.inr (0, 8)) := rfl
theorem sh_67 : SH[67]? = some (.inr (2, 8)) := rfl
theorem sh_68 : SH[68]? = some (.inl 4) := rfl
theorem sh_69 : SH[69]? = some (.inr (0, 8)) := rfl
theorem sh_70 : SH[70]? = some (.inr (0, 8)) := rfl
theorem sh_71 : SH[71]? = some (.inr (0, 8)) := rfl
theorem sh_72 : SH[72]? = some (.inr (2, 8)) := rfl
theorem sh_73 : SH[73]? = some (.inl 4) := rfl
theorem sh_74 : SH[74]? = some (.inr (0, 8)) := rfl
theorem sh_75 : SH[75]? = some (.inr (0, 8)) := rfl
theorem sh_76 : SH[76]? = some (.inr (0, 8)) := rfl
theorem sh_77 : SH[77]? = some (.inr (2, 8)) := rfl
theorem sh_78 : SH[78]? = some (.inl 4) := rfl
theorem sh_79 : SH[79]? = some (.inr (0, 8)) := rfl
theorem sh_80 : SH[80]? = some (.inr (0, 8)) := rfl
theorem sh_81 : SH[81]? = some (.inr (0, 8)) := rfl
theorem sh_82 : SH[82]? = some (.inr (2, 8)) := rfl
theorem sh_83 : SH[83]? = some (.inl 4) := rfl
theorem sh_84 : SH[84]? = some (.inr (0, 8)) := rfl
theorem sh_85 : SH[85]? = some (.inr (0, 8)) := rfl
theorem sh_86 : SH[86]? = some (.inr (0, 8)) := rfl
theorem sh_87 : SH[87]? = some (.inr (2, 8)) := rfl
theorem sh_88 : SH[88]? = some (.inl 4) := rfl
theorem sh_89 : SH[89]? = some (.inr (0, 8)) := rfl
theorem sh_90 : SH[90]? = some (.inr (0, 8)) := rfl
theorem sh_91 : SH[91]? = some (.inr (0, 8)) := rfl
theorem sh_92 : SH[92]? = some (.inr (2, 8)) := rfl
theorem sh_93 : SH[93]? = some (.inl 4) := rfl
theorem sh_94 : SH[94]? = some (.inr (0, 8)) := rfl
theorem sh_95 : SH[95]? = some (.inr (0, 8)) := rfl
theorem sh_96 : SH[96]? = some (.inr (0, 8)) := rfl
theorem sh_97 : SH[97]? = some (.inr (2, 8)) := rfl
theorem sh_98 : SH[98]? = some (.inl 4) := rfl
theorem sh_99 : SH[99]? = some (.inr (0, 8)) := rfl
theorem sh_100 : SH[100]? = some (.inr (0, 8)) := rfl
theorem sh_101 : SH[101]? = some (.inr (0, 8)) := rfl
theorem sh_102 : SH[102]? = some (.inr (2, 8)) := rfl
theorem sh_103 : SH[103]? = some (.inl 4) := rfl
theorem sh_104 : SH[104]? = some (.inr (0, 8)) := rfl
theorem sh_105 : SH[105]? = some (.inr (0, 8)) := rfl
theorem sh_106 : SH[106]? = some (.inr (0, 8)) := rfl
theorem sh_107 : SH[107]? = some (.inr (2, 8)) := rfl
theorem sh_108 : SH[108]? = some (.inl 4) := rfl
theorem sh_109 : SH[109]? = some (.inr (0, 8)) := rfl
theorem sh_110 : SH[110]? = some (.inr (0, 8)) := rfl
theorem sh_111 : SH[111]? = some (.inr (0, 8)) := rfl
theorem sh_112 : SH[112]? = some (.inr (2, 8)) := rfl
theorem sh_113 : SH[113]? = some (.inl 4) := rfl
theorem sh_114 : SH[114]? = some (.inr (0, 8)) := rfl
theorem sh_115 : SH[115]? = some (.inr (0, 8)) := rfl
theorem sh_116 : SH[116]? = some (.inr (0, 8)) := rfl
theorem sh_117 : SH[117]? = some (.inr (2, 8)) := rfl
theorem sh_118 : SH[118]? = some (.inl 0) := rfl
theorem sh_119 : SH[119]? = some (.inl 4) := rfl
theorem sh_120 : SH[120]? = some (.inr (0, 16)) := rfl
theorem sh_121 : SH[121]? = some (.inr (0, 16)) := rfl
theorem sh_122 : SH[122]? = some (.inr (0, 16)) := rfl
theorem sh_123 : SH[123]? = some (.inr (2, 16)) := rfl
theorem sh_124 : SH[124]? = some (.inr (1, 16)) := rfl
theorem sh_125 : SH[125]? = some (.inl 0) := rfl
theorem sh_126 : SH[126]? = some (.inl 4) := rfl
theorem sh_127 : SH[127]? = some (.inr (0, 16)) := rfl
theorem sh_128 : SH[128]? = some (.inr (0, 16)) := rfl
theorem sh_129 : SH[129]? = some (.inr (0, 16)) := rfl
theorem sh_130 : SH[130]? = some (.inr (2, 16)) := rfl
theorem sh_131 : SH[131]? = some (.inr (1, 16)) := rfl
theorem sh_132 : SH[132]? = some (.inl 0) := rfl
theorem sh_133 : SH[133]? = some (.inl 4) := rfl
theorem sh_134 : SH[134]? = some (.inr (0, 16)) := rfl
theorem sh_135 : SH[135]? = some (.inr (0, 16)) := rfl
theorem sh_136 : SH[136]? = some (.inr (0, 16)) := rfl
theorem sh_137 : SH[137]? = some (.inr (2, 16)) := rfl
theorem sh_138 : SH[138]? = some (.inr (1, 16)) := rfl
theorem sh_139 : SH[139]? = some (.inl 0) := rfl
theorem sh_140 : SH[140]? = some (.inl 4) := rfl
theorem sh_141 : SH[141]? = some (.inr (0, 16)) := rfl
theorem sh_142 : SH[142]? = some (.inr (0, 16)) := rfl
theorem sh_143 : SH[143]? = some (.inr (0, 16)) := rfl
theorem sh_144 : SH[144]? = some (.inr (2, 16)) := rfl
theorem sh_145 : SH[145]? = some (.inr (1, 16)) := rfl
theorem sh_146 : SH[146]? = some (.inl 0) := rfl
theorem sh_147 : SH[147]? = some (.inl 4) := rfl
theorem sh_148 : SH[148]? = some (.inr (0, 16)) := rfl
theorem sh_149 : SH[149]? = some (.inr (0, 16)) := rfl
theorem sh_150 : SH[150]? = some (.inr (0, 16)) := rfl
theorem sh_151 : SH[151]? = some (.inr (2, 16)) := rfl
theorem sh_152 : SH[152]? = some (.inr (1, 16)) := rfl
theorem sh_153 : SH[153]? = some (.inl 6) := rfl
theorem sh_154 : SH[154]? = some (.inr (0, 16)) := rfl
theorem sh_155 : SH[155]? = some (.inr (0, 128)) := rfl
theorem sh_156 : SH[156]? = some (.inr (0, 128)) := rfl
theorem sh_157 : SH[157]? = some (.inr (0, 128)) := rfl
theorem sh_158 : SH[158]? = some (.inr (0, 16)) := rfl
theorem sh_159 : SH[159]? = some (.inr (0, 5)) := rfl
theorem sh_160 : SH[160]? = some (.inr (0, 5)) := rfl
theorem sh_161 : SH[161]? = some (.inr (0, 5)) := rfl
theorem sh_162 : SH[162]? = some (.inr (0, 80)) := rfl
theorem sh_163 : SH[163]? = some (.inr (0, 80)) := rfl
theorem sh_164 : SH[164]? = some (.inr (0, 80)) := rfl
theorem sh_165 : SH[165]? = some (.inr (2, 80)) := rfl
theorem sh_166 : SH[166]? = some (.inr (0, 8)) := rfl
theorem sh_167 : SH[167]? = some (.inr (0, 8)) := rfl
theorem sh_168 : SH[168]? = some (.inr (0, 8)) := rfl
theorem sh_169 : SH[169]? = some (.inr (0, 16)) := rfl
theorem sh_170 : SH[170]? = some (.inr (0, 16)) := rfl
theorem sh_171 : SH[171]? = some (.inr (0, 16)) := rfl
theorem sh_172 : SH[172]? = some (.inr (2, 16)) := rfl
theorem sh_173 : SH[173]? = some (.inr (0, 4352)) := rfl
theorem sh_174 : SH[174]? = some (.inr (0, 8)) := rfl
theorem sh_175 : SH[175]? = some (.inr (0, 8)) := rfl
theorem sh_176 : SH[176]? = some (.inr (0, 80)) := rfl
theorem sh_177 : SH[177]? = some (.inr (0, 16)) := rfl
theorem sh_178 : SH[178]? = some (.inr (0, 16)) := rfl
theorem sh_179 : SH[179]? = some (.inr (0, 16)) := rfl
/-- the references stand as the constructors left them (those of triedKinds apart) -/
def pW (M : pMem) : Prop := ∀ a i b, RT a i = some b → mR M a i = some b
theorem sh_page : ∀ p, p < 16 → SH[38 + 5 * p]? = some (.inl 4) ∧ SH[38 + 5 * p + 1]? = some (.inr (0, 8)) ∧ SH[38 + 5 * p + 2]? = some (.inr (0, 8)) ∧ SH[38 + 5 * p + 3]? = some (.inr (0, 8)) ∧ SH[38 + 5 * p + 4]? = some (.inr (2, 8)) := by decide +kernel
theorem sh_kind : ∀ p, p < 5 → SH[118 + 7 * p]? = some (.inl 0) ∧ SH[118 + 7 * p + 1]? = some (.inl 4) ∧ SH[118 + 7 * p + 2]? = some (.inr (0, 16)) ∧ SH[118 + 7 * p + 3]? = some (.inr (0, 16)) ∧ SH[118 + 7 * p + 4]? = some (.inr (0, 16)) ∧ SH[118 + 7 * p + 5]? = some (.inr (2, 16)) ∧ SH[118 + 7 * p + 6]? = some (.inr (1, 16)) := by
  intro p hp
  rcases (show p = 0 ∨ p = 1 ∨ p = 2 ∨ p = 3 ∨ p = 4 by omega) with rfl | rfl | rfl | rfl | rfl <;> exact ⟨rfl, rfl, rfl, rfl, rfl, rfl, rfl⟩
theorem rt_page : ∀ p, p < 16 → RT 1 p = some (38 + 5 * p) ∧ RT (38 + 5 * p) 0 = some (38 + 5 * p + 1) ∧ RT (38 + 5 * p) 1 = some (38 + 5 * p + 2) ∧ RT (38 + 5 * p) 2 = some (38 + 5 * p + 3) ∧ RT (38 + 5 * p) 3 = some (38 + 5 * p + 4) := by decide +kernel
theorem rt_kind : ∀ p, p < 5 → RT 3 p = some (118 + 7 * p) ∧ RT (118 + 7 * p) 0 = some (118 + 7 * p + 1) ∧ RT (118 + 7 * p) 1 = some (118 + 7 * p + 6) ∧ RT (118 + 7 * p + 1) 0 = some (118 + 7 * p + 2) ∧ RT (118 + 7 * p + 1) 1 = some (118 + 7 * p + 3) ∧ RT (118 + 7 * p + 1) 2 = some (118 + 7 * p + 4) ∧ RT (118 + 7 * p + 1) 3 = some (118 + 7 * p + 5) := by decide +kernel
/-- a sheet of n places at a -/
def pSh (M : pMem) (a N : Nat) : Prop := SH[a]? = some (.inl 4) ∧ SH[a + 1]? = some (.inr (0, N)) ∧ SH[a + 2]? = some (.inr (0, N)) ∧ SH[a + 3]? = some (.inr (0, N)) ∧ SH[a + 4]? = some (.inr (2, N)) ∧ mR M a 0 = some (a + 1) ∧ mR M a 1 = some (a + 2) ∧ mR M a 2 = some (a + 3) ∧ mR M a 3 = some (a + 4)
/-- a kind at a -/
def pKd (M : pMem) (a : Nat) : Prop := SH[a]? = some (.inl 0) ∧ mR M a 0 = some (a + 1) ∧ pSh M (a + 1) 16 ∧ SH[a + 6]? = some (.inr (1, 16)) ∧ mR M a 1 = some (a + 6)
theorem pSh_page {M : pMem} (h : pW M) {p : Nat} (hp : p < 16) : pSh M (38 + 5 * p) 8 := by
  obtain ⟨a1, a2, a3, a4, a5⟩ := sh_page p hp
  obtain ⟨b1, b2, b3, b4, b5⟩ := rt_page p hp
  exact ⟨a1, a2, a3, a4, a5, h _ _ _ b2, h _ _ _ b3, h _ _ _ b4, h _ _ _ b5⟩
theorem pKd_kind {M : pMem} (h : pW M) {p : Nat} (hp : p < 5) : pKd M (118 + 7 * p) := by
  obtain ⟨a1, a2, a3, a4, a5, a6, a7⟩ := sh_kind p hp
  obtain ⟨b1, b2, b3, b4, b5, b6, b7⟩ := rt_kind p hp
  exact ⟨a1, h _ _ _ b2, ⟨a2, a3, a4, a5, a6, h _ _ _ b4, h _ _ _ b5, h _ _ _ b6, h _ _ _ b7⟩, a7, h _ _ _ b3⟩
theorem pKd_left {M : pMem} (h : pW M) : pKd M 22 := ⟨rfl, h 22 0 23 rfl, ⟨rfl, rfl, rfl, rfl, rfl, h 23 0 24 rfl, h 23 1 25 rfl, h 23 2 26 rfl, h 23 3 27 rfl⟩, rfl, h 22 1 28 rfl⟩
theorem pKd_join {M : pMem} (h : pW M) : pKd M 29 := ⟨rfl, h 29 0 30 rfl, ⟨rfl, rfl, rfl, rfl, rfl, h 30 0 31 rfl, h 30 1 32 rfl, h 30 2 33 rfl, h 30 3 34 rfl⟩, rfl, h 29 1 35 rfl⟩
/-! ===== rows of the memory as functions ===== -/
def wrI (M : pMem) (a : Nat) (f : Nat → Int) : pMem := (fun b j => if b = a then f j else M.1 b j, M.2.1, M.2.2)
def wrL (M : pMem) (a : Nat) (f : Nat → Int) : pMem := (M.1, fun b j => if b = a then f j else M.2.1 b j, M.2.2)
def up (f : Nat → Int) (i : Nat) (v : Int) : Nat → Int := fun j => if j = i then v else f j
theorem up_s {f : Nat → Int} {i : Nat} {v : Int} : up f i v i = v := by simp [up]
theorem up_n {f : Nat → Int} {i j : Nat} {v : Int} (h : j ≠ i) : up f i v j = f j := by simp [up, h]
theorem wrI_e (M : pMem) (a : Nat) : wrI M a (mI M a) = M := by
  unfold wrI mI
  have : (fun b j => if b = a then M.1 a j else M.1 b j) = M.1 := by funext b j; split <;> simp_all
  rw [this]
theorem wrL_e (M : pMem) (a : Nat) : wrL M a (mL M a) = M := by
  unfold wrL mL
  have : (fun b j => if b = a then M.2.1 a j else M.2.1 b j) = M.2.1 := by funext b j; split <;> simp_all
  rw [this]
theorem stI_w (M : pMem) (a i : Nat) (v : Int) : stI M a i v = wrI M a (up (mI M a) i v) := by
  unfold stI wrI up mI
  have : (fun b j => if b = a ∧ j = i then v else M.1 b j) = (fun b j => if b = a then (if j = i then v else M.1 a j) else M.1 b j) := by
    funext b j
    by_cases h : b = a
    · subst h; simp
    · simp [h]
  rw [this]
theorem stL_w (M : pMem) (a i : Nat) (v : Int) : stL M a i v = wrL M a (up (mL M a) i v) := by
  unfold stL wrL up mL
  have : (fun b j => if b = a ∧ j = i then v else M.2.1 b j) = (fun b j => if b = a then (if j = i then v else M.2.1 a j) else M.2.1 b j) := by
    funext b j
    by_cases h : b = a
    · subst h; simp
    · simp [h]
  rw [this]
theorem wrI_w (M : pMem) (a : Nat) (f h : Nat → Int) : wrI (wrI M a f) a h = wrI M a h := by
  unfold wrI
  have : (fun b j => if b = a then h j else (if b = a then f j else M.1 b j)) = (fun b j => if b = a then h j else M.1 b j) := by funext b j; split <;> simp_all
  simp only [this]
theorem wrL_w (M : pMem) (a : Nat) (f h : Nat → Int) : wrL (wrL M a f) a h = wrL M a h := by
  unfold wrL
  have : (fun b j => if b = a then h j else (if b = a then f j else M.2.1 b j)) = (fun b j => if b = a then h j else M.2.1 b j) := by funext b j; split <;> simp_all
  simp only [this]
theorem wrI_s (M : pMem) (a : Nat) (f : Nat → Int) (j : Nat) : mI (wrI M a f) a j = f j := by simp [wrI, mI]
theorem wrI_n (M : pMem) {a b : Nat} (f : Nat → Int) (j : Nat) (h : b ≠ a) : mI (wrI M a f) b j = mI M b j := by simp [wrI, mI, h]
theorem wrL_s (M : pMem) (a : Nat) (f : Nat → Int) (j : Nat) : mL (wrL M a f) a j = f j := by simp [wrL, mL]
theorem wrL_n (M : pMem) {a b : Nat} (f : Nat → Int) (j : Nat) (h : b ≠ a) : mL (wrL M a f) b j = mL M b j := by simp [wrL, mL, h]
theorem stI_wr (M : pMem) (a i : Nat) (v : Int) (f : Nat → Int) : stI (wrI M a f) a i v = wrI M a (up f i v) := by
  rw [stI_w, wrI_w]; congr 1; funext j; simp only [up]; split
  · rfl
  · exact wrI_s M a f j
theorem stL_wr (M : pMem) (a i : Nat) (v : Int) (f : Nat → Int) : stL (wrL M a f) a i v = wrL M a (up f i v) := by
  rw [stL_w, wrL_w]; congr 1; funext j; simp only [up]; split
  · rfl
  · exact wrL_s M a f j
theorem stI_s (M : pMem) (a i : Nat) (v : Int) : mI (stI M a i v) a i = v := by simp [stI, mI]
theorem stI_n (M : pMem) {a i b j : Nat} (v : Int) (h : b ≠ a ∨ j ≠ i) : mI (stI M a i v) b j = mI M b j := by
  unfold stI mI; dsimp only; rw [if_neg]; omega
theorem stL_s (M : pMem) (a i : Nat) (v : Int) : mL (stL M a i v) a i = v := by simp [stL, mL]
theorem stL_n (M : pMem) {a i b j : Nat} (v : Int) (h : b ≠ a ∨ j ≠ i) : mL (stL M a i v) b j = mL M b j := by
  unfold stL mL; dsimp only; rw [if_neg]; omega
/-! ===== loops ===== -/
theorem p_loop {σ : Type} (E I : σ → Prop) (μ : σ → Nat) (hs : ∀ s, I s → (∀ s', I s' → μ s' < μ s → E s') → E s) : ∀ s, I s → E s := by
  have h : ∀ n s, μ s < n → I s → E s := by
    intro n
    induction n with
    | zero => intro s h; omega
    | succ n ih => intro s h hI; exact hs s hI (fun s' h1 h2 => ih s' (by omega) h1)
  intro s hI
  exact h (μ s + 1) s (by omega) hI
theorem p_for {σ : Type} (e : Nat) (E I : Nat → σ → Prop) (hx : ∀ s, I e s → E e s) (hs : ∀ i s, i < e → I i s → (∀ s', I (i + 1) s' → E (i + 1) s') → E i s) : ∀ i s, i ≤ e → I i s → E i s := by
  have h : ∀ n i s, e - i ≤ n → i ≤ e → I i s → E i s := by
    intro n
    induction n with
    | zero => intro i s h1 h2 hI; have : i = e := by omega
              subst this; exact hx s hI
    | succ n ih =>
      intro i s h1 h2 hI
      rcases Nat.lt_or_ge i e with q | q
      · exact hs i s q hI (fun s' hI' => ih (i + 1) s' (by omega) (by omega) hI')
      · have : i = e := by omega
        subst this; exact hx s hI
  intro i s h1 hI
  exact h (e - i) i s (Nat.le_refl _) h1 hI
theorem pE_M {g : pG} {nL : Nat} {X : pX} {Qf : State → Prop} {S : List pShp} {M M' : pMem} {cs sl pc : Nat} {L : List (Option pV)} {st : List pV} (h : M = M') (k : pE g nL X Qf S M' cs sl pc L st) : pE g nL X Qf S M cs sl pc L st := h ▸ k
theorem pE_to {g : pG} {nL : Nat} {X : pX} {Qf : State → Prop} {S : List pShp} {M M' : pMem} {cs sl pc : Nat} {L L' : List (Option pV)} {st st' : List pV} (k : pE g nL X Qf S M' cs sl pc L' st') (h : M = M') (h1 : L = L') (h2 : st = st') : pE g nL X Qf S M cs sl pc L st := by subst h; subst h1; subst h2; exact k
end
section
/-! ===== Sheet.find ===== -/
def fndI (f : Nat → Int) (c : Int) : Nat → Nat → Int
  | _, 0 => -1
  | i, n + 1 => if f i = c then (i : Int) else fndI f c (i + 1) n
theorem c_find {g : pG} {M : pMem} {a N n : Nat} {c : Int} (hA : pSh M a N) (hn : mI M a 4 = (n : Int)) (hnN : n ≤ N) (hN : N ≤ 16) (hc : -2147483648 ≤ c ∧ c < 2147483648) (hf : ∀ i, i < n → -2147483648 ≤ mI M (a + 1) i ∧ mI M (a + 1) i < 2147483648) :
    pCn g 1 0 0 yX4_find cX4_find 3 (some .int) SH SH M [.inr (.inr a), .inl c] (fun r M' => r = some (.inl (fndI (mI M (a + 1)) c 0 n)) ∧ M' = M) := by
  refine pCn_intro mt_X4_find (fun X C => ?_)
  have loop : ∀ (i : Nat) (s : Unit), i ≤ n → fndI (mI M (a + 1)) c i (n - i) = fndI (mI M (a + 1)) c 0 n → pE g 3 X (pMQ g SH (fun r M' => r = some (.inl (fndI (mI M (a + 1)) c 0 n)) ∧ M' = M) X 0 0) SH M 0 0 2 [some (.inr (.inr a)), some (.inl c), some (.inl (i : Int))] [] := by
    refine p_for n _ _ ?_ ?_
    · intro s hs
      refine e_iload_n C dX4_find_2 rfl ?_
      refine e_aload_n C dX4_find_3 rfl ?_
      refine e_getI C f_X4_9 hA.1 dX4_find_4 ?_
      refine e_icmp_ge C (tgt := 28) dX4_find_7 (by decide) (by omega) (by omega) (fun h_7 => ?_) (fun h_7 => by exfalso; omega)
      refine e_iconst C dX4_find_28 ?_
      exact e_ireturn C dX4_find_29 ⟨by rw [← hs]; simp [fndI], rfl⟩
    · intro i s hi hs ih
      have hfi := hf i hi
      refine e_iload_n C dX4_find_2 rfl ?_
      refine e_aload_n C dX4_find_3 rfl ?_
      refine e_getI C f_X4_9 hA.1 dX4_find_4 ?_
      refine e_icmp_ge C (tgt := 28) dX4_find_7 (by decide) (by omega) (by omega) (fun h_7 => by exfalso; omega) (fun h_7 => ?_)
      refine e_aload_n C dX4_find_10 rfl ?_
      refine e_getR C f_X4_15 hA.1 hA.2.2.2.2.2.1 dX4_find_11 ?_
      refine e_iload_n C dX4_find_14 rfl ?_
      refine e_iaload C dX4_find_15 hA.2.1 _ rfl (by omega) ?_
      refine e_iload_n C dX4_find_16 rfl ?_
      refine e_icmp_ne C (tgt := 22) dX4_find_17 (by decide) (by omega) (by omega) (fun h_17 => ?_) (fun h_17 => ?_)
      · refine e_iinc C dX4_find_22 rfl ?_
        refine e_goto C (tgt := 2) dX4_find_25 (by decide) ?_
        exact ih () (by rw [← hs, show n - i = (n - (i + 1)) + 1 by omega]; simp only [fndI]; rw [if_neg h_17])
      · have h_17 := Classical.not_not.mp h_17
        refine e_iload_n C dX4_find_20 rfl ?_
        exact e_ireturn C dX4_find_21 ⟨by rw [← hs, show n - i = (n - (i + 1)) + 1 by omega]; simp only [fndI]; rw [if_pos h_17], rfl⟩
  show pE g 3 X _ SH M 0 0 0 [some (.inr (.inr a)), some (.inl c), none] []
  refine e_iconst C dX4_find_0 ?_
  refine e_istore_n C dX4_find_1 ?_
  exact loop 0 () (by omega) rfl
theorem c_isIn {g : pG} {M : pMem} {v a b : Int} (hi_v : -2147483648 ≤ v ∧ v < 2147483648) (hi_a : -2147483648 ≤ a ∧ a < 2147483648) (hi_b : -2147483648 ≤ b ∧ b < 2147483648) : pCn g 1 0 0 yX5_isIn cX5_isIn 3 (some .boolean) SH SH M [.inl v, .inl a, .inl b] (fun r M' => r = some (.inl (if a ≤ v ∧ v ≤ b then 1 else 0)) ∧ M' = M) := by
  refine pCn_intro mt_X5_isIn (fun X C => ?_)
  show pE g 3 X _ SH M 0 0 0 [some (.inl v), some (.inl a), some (.inl b)] []
  refine e_iload_n C dX5_isIn_0 rfl ?_
  refine e_iload_n C dX5_isIn_1 rfl ?_
  refine e_icmp_lt C (tgt := 14) dX5_isIn_2 (by decide) (by omega) (by omega) (fun h_2 => ?_) (fun h_2 => ?_)
  · refine e_iconst C dX5_isIn_14 ?_
    first | exact e_zreturn C dX5_isIn_15 (Or.inl rfl) ⟨by rw [if_neg (by omega)], rfl⟩ | exact e_zreturn C dX5_isIn_15 (Or.inr rfl) ⟨by rw [if_pos (by omega)], rfl⟩
  · refine e_iload_n C dX5_isIn_5 rfl ?_
    refine e_iload_n C dX5_isIn_6 rfl ?_
    refine e_icmp_gt C (tgt := 14) dX5_isIn_7 (by decide) (by omega) (by omega) (fun h_7 => ?_) (fun h_7 => ?_)
    · refine e_iconst C dX5_isIn_14 ?_
      first | exact e_zreturn C dX5_isIn_15 (Or.inl rfl) ⟨by rw [if_neg (by omega)], rfl⟩ | exact e_zreturn C dX5_isIn_15 (Or.inr rfl) ⟨by rw [if_pos (by omega)], rfl⟩
    · refine e_iconst C dX5_isIn_10 ?_
      refine e_goto C (tgt := 15) dX5_isIn_11 (by decide) ?_
      first | exact e_zreturn C dX5_isIn_15 (Or.inl rfl) ⟨by rw [if_neg (by omega)], rfl⟩ | exact e_zreturn C dX5_isIn_15 (Or.inr rfl) ⟨by rw [if_pos (by omega)], rfl⟩
theorem c_isPage {g : pG} {M : pMem} {p : Int} (hi_p : -2147483648 ≤ p ∧ p < 2147483648) (hn : 0 ≤ mI M 0 12 ∧ mI M 0 12 ≤ 16) : pCn g 1 0 0 yX5_isPage cX5_isPage 2 (some .boolean) SH SH M [.inr (.inr 0), .inl p] (fun r M' => r = some (.inl (if 0 ≤ p ∧ p < mI M 0 12 then 1 else 0)) ∧ M' = M) := by
  refine pCn_intro mt_X5_isPage (fun X C => ?_)
  show pE g 2 X _ SH M 0 0 0 [some (.inr (.inr 0)), some (.inl p)] []
  refine e_iload_n C dX5_isPage_0 rfl ?_
  refine e_if_lt C (tgt := 16) dX5_isPage_1 (by decide) (by omega) (fun h_1 => ?_) (fun h_1 => ?_)
  · refine e_iconst C dX5_isPage_16 ?_
    first | exact e_zreturn C dX5_isPage_17 (Or.inl rfl) ⟨by rw [if_neg (by omega)], rfl⟩ | exact e_zreturn C dX5_isPage_17 (Or.inr rfl) ⟨by rw [if_pos (by omega)], rfl⟩
  · refine e_iload_n C dX5_isPage_4 rfl ?_
    refine e_aload_n C dX5_isPage_5 rfl ?_
    refine e_getI C f_X5_66 sh_0 dX5_isPage_6 ?_
    refine e_icmp_ge C (tgt := 16) dX5_isPage_9 (by decide) (by omega) (by omega) (fun h_9 => ?_) (fun h_9 => ?_)
    · refine e_iconst C dX5_isPage_16 ?_
      first | exact e_zreturn C dX5_isPage_17 (Or.inl rfl) ⟨by rw [if_neg (by omega)], rfl⟩ | exact e_zreturn C dX5_isPage_17 (Or.inr rfl) ⟨by rw [if_pos (by omega)], rfl⟩
    · refine e_iconst C dX5_isPage_12 ?_
      refine e_goto C (tgt := 17) dX5_isPage_13 (by decide) ?_
      first | exact e_zreturn C dX5_isPage_17 (Or.inl rfl) ⟨by rw [if_neg (by omega)], rfl⟩ | exact e_zreturn C dX5_isPage_17 (Or.inr rfl) ⟨by rw [if_pos (by omega)], rfl⟩
theorem c_isKind {g : pG} {M : pMem} {k : Int} (hi_k : -2147483648 ≤ k ∧ k < 2147483648) : pCn g 1 0 0 yX5_isKind cX5_isKind 1 (some .boolean) SH SH M [.inl k] (fun r M' => r = some (.inl (if 0 ≤ k ∧ k < 5 then 1 else 0)) ∧ M' = M) := by
  refine pCn_intro mt_X5_isKind (fun X C => ?_)
  show pE g 1 X _ SH M 0 0 0 [some (.inl k)] []
  refine e_iload_n C dX5_isKind_0 rfl ?_
  refine e_if_lt C (tgt := 13) dX5_isKind_1 (by decide) (by omega) (fun h_1 => ?_) (fun h_1 => ?_)
  · refine e_iconst C dX5_isKind_13 ?_
    first | exact e_zreturn C dX5_isKind_14 (Or.inl rfl) ⟨by rw [if_neg (by omega)], rfl⟩ | exact e_zreturn C dX5_isKind_14 (Or.inr rfl) ⟨by rw [if_pos (by omega)], rfl⟩
  · refine e_iload_n C dX5_isKind_4 rfl ?_
    refine e_iconst C dX5_isKind_5 ?_
    refine e_icmp_ge C (tgt := 13) dX5_isKind_6 (by decide) (by omega) (by omega) (fun h_6 => ?_) (fun h_6 => ?_)
    · refine e_iconst C dX5_isKind_13 ?_
      first | exact e_zreturn C dX5_isKind_14 (Or.inl rfl) ⟨by rw [if_neg (by omega)], rfl⟩ | exact e_zreturn C dX5_isKind_14 (Or.inr rfl) ⟨by rw [if_pos (by omega)], rfl⟩
    · refine e_iconst C dX5_isKind_9 ?_
      refine e_goto C (tgt := 14) dX5_isKind_10 (by decide) ?_
      first | exact e_zreturn C dX5_isKind_14 (Or.inl rfl) ⟨by rw [if_neg (by omega)], rfl⟩ | exact e_zreturn C dX5_isKind_14 (Or.inr rfl) ⟨by rw [if_pos (by omega)], rfl⟩
def fil (f : Nat → Int) (v : Int) (n : Nat) : Nat → Int := fun j => if j < n then v else f j
theorem fil_0 (f : Nat → Int) (v : Int) : fil f v 0 = f := by funext j; simp [fil]
theorem fil_s (f : Nat → Int) (v : Int) (n : Nat) : up (fil f v n) n v = fil f v (n + 1) := by
  funext j; simp only [fil, up]
  by_cases h : j = n
  · subst h; simp
  · by_cases h2 : j < n
    · simp [h, h2, Nat.lt_succ_of_lt h2]
    · simp [h, h2, show ¬ j < n + 1 by omega]
theorem fil_i {f : Nat → Int} {v : Int} {n j : Nat} (h : j < n) : fil f v n j = v := by simp [fil, h]
theorem fil_o {f : Nat → Int} {v : Int} {n j : Nat} (h : n ≤ j) : fil f v n j = f j := by simp [fil, Nat.not_lt.mpr h]
theorem c_hasPages {g : pG} {M : pMem} {k : Int} (hi_k : -2147483648 ≤ k ∧ k < 2147483648) (hW : pW M) (hk : ∀ j, j < 5 → 0 ≤ mI M (118 + 7 * j) 2 ∧ mI M (118 + 7 * j) 2 ≤ 16) : pCn g 2 0 0 yX5_hasPages cX5_hasPages 2 (some .boolean) SH SH M [.inr (.inr 0), .inl k] (fun r M' => r = some (.inl (if 0 ≤ k ∧ k < 5 ∧ 0 < mI M (118 + 7 * k.toNat) 2 then 1 else 0)) ∧ M' = M) := by
  refine pCn_intro mt_X5_hasPages (fun X C => ?_)
  show pE g 2 X _ SH M 0 0 0 [some (.inr (.inr 0)), some (.inl k)] []
  refine e_iload_n C dX5_hasPages_0 rfl ?_
  refine e_callS C (c_isKind hi_k) mt_X5_isKind s_X5_129 dX5_hasPages_1 (fun r M1 hq => ?_)
  obtain ⟨rfl, hM⟩ := hq
  subst M1
  by_cases hk5 : 0 ≤ k ∧ k < 5
  rotate_left
  · rw [if_neg hk5]
    refine e_if_eq C (tgt := 23) dX5_hasPages_4 (by decide) (by omega) (fun _ => ?_) (fun h => absurd rfl h)
    refine e_iconst C dX5_hasPages_23 ?_
    exact e_zreturn C dX5_hasPages_24 (Or.inl rfl) ⟨by rw [if_neg (by omega)], rfl⟩
  rw [if_pos hk5]
  obtain ⟨j, rfl⟩ := Int.eq_ofNat_of_zero_le hk5.1
  have hj : j < 5 := by omega
  have hkj := hk j hj
  rw [Int.toNat_natCast]
  refine e_if_eq C (tgt := 23) dX5_hasPages_4 (by decide) (by omega) (fun h_4 => by exact absurd h_4 (by decide)) (fun h_4 => ?_)
  refine e_aload_n C dX5_hasPages_7 rfl ?_
  refine e_getR C f_X5_21 sh_0 (hW 0 2 3 rfl) dX5_hasPages_8 ?_
  refine e_iload_n C dX5_hasPages_11 rfl ?_
  refine e_aaload4 C dX5_hasPages_12 sh_3 _ rfl (by omega) (hW 3 j _ (rt_kind j hj).1) ?_
  refine e_getI C f_X5_132 (pKd_kind hW hj).1 dX5_hasPages_13 ?_
  refine e_if_le C (tgt := 23) dX5_hasPages_16 (by decide) (by omega) (fun h_16 => ?_) (fun h_16 => ?_)
  · refine e_iconst C dX5_hasPages_23 ?_
    first | exact e_zreturn C dX5_hasPages_24 (Or.inl rfl) ⟨by rw [if_neg (by omega)], rfl⟩ | exact e_zreturn C dX5_hasPages_24 (Or.inr rfl) ⟨by rw [if_pos (by omega)], rfl⟩
  · refine e_iconst C dX5_hasPages_19 ?_
    refine e_goto C (tgt := 24) dX5_hasPages_20 (by decide) ?_
    first | exact e_zreturn C dX5_hasPages_24 (Or.inl rfl) ⟨by rw [if_neg (by omega)], rfl⟩ | exact e_zreturn C dX5_hasPages_24 (Or.inr rfl) ⟨by rw [if_pos (by omega)], rfl⟩
theorem c_isTellable {g : pG} {M : pMem} {p k : Int} (hi_p : -2147483648 ≤ p ∧ p < 2147483648) (hi_k : -2147483648 ≤ k ∧ k < 2147483648) (hW : pW M) (hn : 0 ≤ mI M 0 12 ∧ mI M 0 12 ≤ 16) (hb : ∀ j, j < 16 → 0 ≤ mI M (38 + 5 * j) 4 ∧ mI M (38 + 5 * j) 4 ≤ 8) : pCn g 2 0 0 yX5_isTellable cX5_isTellable 3 (some .boolean) SH SH M [.inr (.inr 0), .inl p, .inl k] (fun r M' => r = some (.inl (if (0 ≤ p ∧ p < mI M 0 12) ∧ 0 < mI M (38 + 5 * p.toNat) 4 ∧ -1 ≤ k ∧ k < 5 then 1 else 0)) ∧ M' = M) := by
  refine pCn_intro mt_X5_isTellable (fun X C => ?_)
  show pE g 3 X _ SH M 0 0 0 [some (.inr (.inr 0)), some (.inl p), some (.inl k)] []
  refine e_aload_n C dX5_isTellable_0 rfl ?_
  refine e_iload_n C dX5_isTellable_1 rfl ?_
  refine e_callV C (c_isPage hi_p hn) mt_X5_isPage s_X5_85 dX5_isTellable_2 5 sh_0 rfl (fun r M1 hq => ?_)
  obtain ⟨rfl, hM⟩ := hq
  subst M1
  by_cases hp : 0 ≤ p ∧ p < mI M 0 12
  rotate_left
  · rw [if_neg hp]
    refine e_if_eq C (tgt := 36) dX5_isTellable_5 (by decide) (by omega) (fun _ => ?_) (fun h => absurd rfl h)
    refine e_iconst C dX5_isTellable_36 ?_
    exact e_zreturn C dX5_isTellable_37 (Or.inl rfl) ⟨by rw [if_neg (by omega)], rfl⟩
  rw [if_pos hp]
  obtain ⟨j, rfl⟩ := Int.eq_ofNat_of_zero_le hp.1
  have hj : j < 16 := by omega
  have hbj := hb j hj
  rw [Int.toNat_natCast]
  refine e_if_eq C (tgt := 36) dX5_isTellable_5 (by decide) (by omega) (fun h_5 => by exact absurd h_5 (by decide)) (fun h_5 => ?_)
  refine e_aload_n C dX5_isTellable_8 rfl ?_
  refine e_getR C f_X5_11 sh_0 (hW 0 0 1 rfl) dX5_isTellable_9 ?_
  refine e_iload_n C dX5_isTellable_12 rfl ?_
  refine e_aaload3 C dX5_isTellable_13 sh_1 _ rfl (by omega) (hW 1 j _ (rt_page j hj).1) ?_
  refine e_getI C f_X5_93 (pSh_page hW hj).1 dX5_isTellable_14 ?_
  refine e_if_le C (tgt := 36) dX5_isTellable_17 (by decide) (by omega) (fun h_17 => ?_) (fun h_17 => ?_)
  · refine e_iconst C dX5_isTellable_36 ?_
    first | exact e_zreturn C dX5_isTellable_37 (Or.inl rfl) ⟨by rw [if_neg (by omega)], rfl⟩ | exact e_zreturn C dX5_isTellable_37 (Or.inr rfl) ⟨by rw [if_pos (by omega)], rfl⟩
  · refine e_iload_n C dX5_isTellable_20 rfl ?_
    refine e_iconst C dX5_isTellable_21 ?_
    refine e_icmp_eq C (tgt := 32) dX5_isTellable_22 (by decide) (by omega) (by omega) (fun h_22 => ?_) (fun h_22 => ?_)
    · refine e_iconst C dX5_isTellable_32 ?_
      refine e_goto C (tgt := 37) dX5_isTellable_33 (by decide) ?_
      first | exact e_zreturn C dX5_isTellable_37 (Or.inl rfl) ⟨by rw [if_neg (by omega)], rfl⟩ | exact e_zreturn C dX5_isTellable_37 (Or.inr rfl) ⟨by rw [if_pos (by omega)], rfl⟩
    · refine e_iload_n C dX5_isTellable_25 rfl ?_
      refine e_callS C (c_isKind hi_k) mt_X5_isKind s_X5_129 dX5_isTellable_26 (fun r M1 hq => ?_)
      obtain ⟨rfl, hM⟩ := hq
      subst M1
      have hr : (if 0 ≤ k ∧ k < 5 then (1 : Int) else 0) = 0 ∧ ¬ (0 ≤ k ∧ k < 5) ∨ (if 0 ≤ k ∧ k < 5 then (1 : Int) else 0) = 1 ∧ (0 ≤ k ∧ k < 5) := by
        by_cases h : 0 ≤ k ∧ k < 5
        · right; exact ⟨if_pos h, h⟩
        · left; exact ⟨if_neg h, h⟩
      generalize (if 0 ≤ k ∧ k < 5 then (1 : Int) else 0) = q at hr
      refine e_if_eq C (tgt := 36) dX5_isTellable_29 (by decide) (by omega) (fun h_29 => ?_) (fun h_29 => ?_)
      · refine e_iconst C dX5_isTellable_36 ?_
        first | exact e_zreturn C dX5_isTellable_37 (Or.inl rfl) ⟨by rw [if_neg (by omega)], rfl⟩ | exact e_zreturn C dX5_isTellable_37 (Or.inr rfl) ⟨by rw [if_pos (by omega)], rfl⟩
      · refine e_iconst C dX5_isTellable_32 ?_
        refine e_goto C (tgt := 37) dX5_isTellable_33 (by decide) ?_
        first | exact e_zreturn C dX5_isTellable_37 (Or.inl rfl) ⟨by rw [if_neg (by omega)], rfl⟩ | exact e_zreturn C dX5_isTellable_37 (Or.inr rfl) ⟨by rw [if_pos (by omega)], rfl⟩
theorem c_costIn {g : pG} {M : pMem} {K : Int} (hK : 0 ≤ K ∧ K < 9000000000000000000) : pCn g 1 0 0 yX5_costIn cX5_costIn 2 (some .int) SH SH M [.inr (.inl K)] (fun r M' => r = some (.inl (K / 341812114609)) ∧ M' = M) := by
  refine pCn_intro mt_X5_costIn (fun X C => ?_)
  show pE g 2 X _ SH M 0 0 0 [some (.inr (.inl K)), none] []
  refine e_lload_n C dX5_costIn_0 rfl ?_
  refine e_ldc2 C (341812114609) k_X5_220 dX5_costIn_1 ?_
  refine e_ldiv C dX5_costIn_4 (by omega) (by omega) (by omega) (by omega) ?_
  refine e_l2i C dX5_costIn_5 (by omega) ?_
  exact e_ireturn C dX5_costIn_6 ⟨rfl, rfl⟩
theorem c_moveIn {g : pG} {M : pMem} {K : Int} (hK : 0 ≤ K ∧ K < 9000000000000000000) : pCn g 1 0 0 yX5_moveIn cX5_moveIn 2 (some .int) SH SH M [.inr (.inl K)] (fun r M' => r = some (.inl (K / 6975757441 % 49)) ∧ M' = M) := by
  refine pCn_intro mt_X5_moveIn (fun X C => ?_)
  show pE g 2 X _ SH M 0 0 0 [some (.inr (.inl K)), none] []
  refine e_lload_n C dX5_moveIn_0 rfl ?_
  refine e_ldc2 C (6975757441) k_X5_222 dX5_moveIn_1 ?_
  refine e_ldiv C dX5_moveIn_4 (by omega) (by omega) (by omega) (by omega) ?_
  refine e_ldc2 C (49) k_X5_224 dX5_moveIn_5 ?_
  refine e_lrem C dX5_moveIn_8 (by omega) (by omega) (by omega) (by omega) ?_
  refine e_l2i C dX5_moveIn_9 (by omega) ?_
  exact e_ireturn C dX5_moveIn_10 ⟨rfl, rfl⟩
theorem c_spotIn {g : pG} {M : pMem} {K : Int} {b : Nat} (hK : 0 ≤ K ∧ K < 9000000000000000000) (hb : b < 8) : pCn g 1 0 0 yX5_spotIn cX5_spotIn 4 (some .int) SH SH M [.inr (.inl K), .inl (b : Int)] (fun r M' => r = some (.inl (if K / 17 ^ (7 - b) % 17 = 16 then -1 else K / 17 ^ (7 - b) % 17)) ∧ M' = M) := by
  refine pCn_intro mt_X5_spotIn (fun X C => ?_)
  show pE g 4 X _ SH M 0 0 0 [some (.inr (.inl K)), none, some (.inl (b : Int)), none] []
  have hu : (0 : Int) < 17 ^ (7 - b) ∧ (17 : Int) ^ (7 - b) < 9000000000000000000 := by
    rcases (show b = 0 ∨ b = 1 ∨ b = 2 ∨ b = 3 ∨ b = 4 ∨ b = 5 ∨ b = 6 ∨ b = 7 by omega) with rfl | rfl | rfl | rfl | rfl | rfl | rfl | rfl <;> decide
  have hq : 0 ≤ K / 17 ^ (7 - b) ∧ K / 17 ^ (7 - b) < 9000000000000000000 := ⟨Int.ediv_nonneg hK.1 (by omega), Int.lt_of_le_of_lt (Int.ediv_le_self _ hK.1) hK.2⟩
  refine e_lload_n C dX5_spotIn_0 rfl ?_
  refine e_getsO C dX5_spotIn_1 fs_X5_226 ?_
  refine e_iload_n C dX5_spotIn_4 rfl ?_
  refine e_units C dX5_spotIn_5 b rfl hb ?_
  refine e_ldiv C dX5_spotIn_6 (by omega) (by omega) (by omega) (by omega) ?_
  refine e_ldc2 C (17) k_X5_229 dX5_spotIn_7 ?_
  refine e_lrem C dX5_spotIn_10 (by omega) (by omega) (by omega) (by omega) ?_
  refine e_l2i C dX5_spotIn_11 (by omega) ?_
  refine e_istore_n C dX5_spotIn_12 ?_
  refine e_iload_n C dX5_spotIn_13 rfl ?_
  refine e_bipush C dX5_spotIn_14 ?_
  refine e_icmp_ne C (tgt := 23) dX5_spotIn_16 (by decide) (by omega) (by omega) (fun h_16 => ?_) (fun h_16 => ?_)
  · have h16 := h_16
    refine e_iload_n C dX5_spotIn_23 rfl ?_
    exact e_ireturn C dX5_spotIn_24 ⟨by first | rw [if_neg h_16] | rw [if_pos (Classical.not_not.mp h_16)], rfl⟩
  · refine e_iconst C dX5_spotIn_19 ?_
    refine e_goto C (tgt := 24) dX5_spotIn_20 (by decide) ?_
    exact e_ireturn C dX5_spotIn_24 ⟨by first | rw [if_neg h_16] | rw [if_pos (Classical.not_not.mp h_16)], rfl⟩
theorem c_acrossOf {g : pG} {M : pMem} {z : Int} (hz : 0 ≤ z ∧ z < 49) : pCn g 1 0 0 yX5_acrossOf cX5_acrossOf 1 (some .int) SH SH M [.inl z] (fun r M' => r = some (.inl (z / 7 - 3)) ∧ M' = M) := by
  refine pCn_intro mt_X5_acrossOf (fun X C => ?_)
  show pE g 1 X _ SH M 0 0 0 [some (.inl z)] []
  refine e_iload_n C dX5_acrossOf_0 rfl ?_
  refine e_bipush C dX5_acrossOf_1 ?_
  refine e_idiv C dX5_acrossOf_3 (by omega) (by omega) (by omega) (by omega) ?_
  refine e_iconst C dX5_acrossOf_4 ?_
  refine e_isub C dX5_acrossOf_5 ?_
  exact e_ireturn C dX5_acrossOf_6 ⟨rfl, rfl⟩
theorem c_downOf {g : pG} {M : pMem} {z : Int} (hz : 0 ≤ z ∧ z < 49) : pCn g 1 0 0 yX5_downOf cX5_downOf 1 (some .int) SH SH M [.inl z] (fun r M' => r = some (.inl (z % 7 - 3)) ∧ M' = M) := by
  refine pCn_intro mt_X5_downOf (fun X C => ?_)
  show pE g 1 X _ SH M 0 0 0 [some (.inl z)] []
  refine e_iload_n C dX5_downOf_0 rfl ?_
  refine e_bipush C dX5_downOf_1 ?_
  refine e_irem C dX5_downOf_3 (by omega) (by omega) (by omega) (by omega) ?_
  refine e_iconst C dX5_downOf_4 ?_
  refine e_isub C dX5_downOf_5 ?_
  exact e_ireturn C dX5_downOf_6 ⟨rfl, rfl⟩
def rkOk (M : pMem) : Prop := (-1 ≤ mI M 19 0 ∧ mI M 19 0 < 5) ∧ (0 ≤ mI M 19 1 ∧ mI M 19 1 ≤ 1000000) ∧ (0 ≤ mI M 19 2 ∧ mI M 19 2 ≤ 1000000)
theorem c_rclear {g : pG} {M : pMem}  : pCn g 1 0 0 yX3_clear cX3_clear 1 none SH SH M [.inr (.inr 19)] (fun r M' => r = none ∧ M' = stI (stI (stI M 19 0 (-1)) 19 1 1000000) 19 2 1000000) := by
  refine pCn_intro mt_X3_clear (fun X C => ?_)
  show pE g 1 X _ SH M 0 0 0 [some (.inr (.inr 19))] []
  refine e_aload_n C dX3_clear_0 rfl ?_
  refine e_iconst C dX3_clear_1 ?_
  refine e_putI C f_X3_9 sh_19 (hd := dX3_clear_2) (hfin := (fun CC T h => by obtain ⟨h1, -⟩ := h; cases h1; rfl)) ?_
  refine e_aload_n C dX3_clear_5 rfl ?_
  refine e_ldc C (1000000) k_X3_15 dX3_clear_6 ?_
  refine e_putI C f_X3_16 sh_19 (hd := dX3_clear_8) (hfin := (fun CC T h => by obtain ⟨h1, -⟩ := h; cases h1; rfl)) ?_
  refine e_aload_n C dX3_clear_11 rfl ?_
  refine e_ldc C (1000000) k_X3_15 dX3_clear_12 ?_
  refine e_putI C f_X3_19 sh_19 (hd := dX3_clear_14) (hfin := (fun CC T h => by obtain ⟨h1, -⟩ := h; cases h1; rfl)) ?_
  exact e_return C dX3_clear_17 ⟨rfl, rfl⟩
def takeM (M : pMem) (k c : Int) : pMem := if c < mI M 19 1 then stI (stI (stI M 19 2 (mI M 19 1)) 19 1 c) 19 0 k else if c < mI M 19 2 then stI M 19 2 c else M
theorem c_take {g : pG} {M : pMem} {k c : Int} (hi_c : -2147483648 ≤ c ∧ c < 2147483648) (hr : rkOk M) : pCn g 1 0 0 yX3_take cX3_take 3 none SH SH M [.inr (.inr 19), .inl k, .inl c] (fun r M' => r = none ∧ M' = takeM M k c) := by
  refine pCn_intro mt_X3_take (fun X C => ?_)
  show pE g 3 X _ SH M 0 0 0 [some (.inr (.inr 19)), some (.inl k), some (.inl c)] []
  have hr1 := hr.2.1
  have hr2 := hr.2.2
  refine e_iload_n C dX3_take_0 rfl ?_
  refine e_aload_n C dX3_take_1 rfl ?_
  refine e_getI C f_X3_16 sh_19 dX3_take_2 ?_
  refine e_icmp_ge C (tgt := 29) dX3_take_5 (by decide) (by omega) (by omega) (fun h_5 => ?_) (fun h_5 => ?_)
  · refine e_iload_n C dX3_take_29 rfl ?_
    refine e_aload_n C dX3_take_30 rfl ?_
    refine e_getI C f_X3_19 sh_19 dX3_take_31 ?_
    refine e_icmp_ge C (tgt := 42) dX3_take_34 (by decide) (by omega) (by omega) (fun h_34 => ?_) (fun h_34 => ?_)
    · exact e_return C dX3_take_42 ⟨rfl, by unfold takeM; first | (rw [if_pos (by omega)]) | (rw [if_neg (by omega), if_pos (by omega)]) | (rw [if_neg (by omega), if_neg (by omega)])⟩
    · refine e_aload_n C dX3_take_37 rfl ?_
      refine e_iload_n C dX3_take_38 rfl ?_
      refine e_putI C f_X3_19 sh_19 (hd := dX3_take_39) (hfin := (fun CC T h => by obtain ⟨h1, -⟩ := h; cases h1; rfl)) ?_
      exact e_return C dX3_take_42 ⟨rfl, by unfold takeM; first | (rw [if_pos (by omega)]) | (rw [if_neg (by omega), if_pos (by omega)]) | (rw [if_neg (by omega), if_neg (by omega)])⟩
  · refine e_aload_n C dX3_take_8 rfl ?_
    refine e_aload_n C dX3_take_9 rfl ?_
    refine e_getI C f_X3_16 sh_19 dX3_take_10 ?_
    refine e_putI C f_X3_19 sh_19 (hd := dX3_take_13) (hfin := (fun CC T h => by obtain ⟨h1, -⟩ := h; cases h1; rfl)) ?_
    refine e_aload_n C dX3_take_16 rfl ?_
    refine e_iload_n C dX3_take_17 rfl ?_
    refine e_putI C f_X3_16 sh_19 (hd := dX3_take_18) (hfin := (fun CC T h => by obtain ⟨h1, -⟩ := h; cases h1; rfl)) ?_
    refine e_aload_n C dX3_take_21 rfl ?_
    refine e_iload_n C dX3_take_22 rfl ?_
    refine e_putI C f_X3_9 sh_19 (hd := dX3_take_23) (hfin := (fun CC T h => by obtain ⟨h1, -⟩ := h; cases h1; rfl)) ?_
    refine e_goto C (tgt := 42) dX3_take_26 (by decide) ?_
    exact e_return C dX3_take_42 ⟨rfl, by unfold takeM; first | (rw [if_pos (by omega)]) | (rw [if_neg (by omega), if_pos (by omega)]) | (rw [if_neg (by omega), if_neg (by omega)])⟩
theorem c_spread {g : pG} {M : pMem}  : pCn g 1 0 0 yX3_spread cX3_spread 1 (some .int) SH SH M [.inr (.inr 19)] (fun r M' => r = some (.inl (mI M 19 2 - mI M 19 1)) ∧ M' = M) := by
  refine pCn_intro mt_X3_spread (fun X C => ?_)
  show pE g 1 X _ SH M 0 0 0 [some (.inr (.inr 19))] []
  refine e_aload_n C dX3_spread_0 rfl ?_
  refine e_getI C f_X3_19 sh_19 dX3_spread_1 ?_
  refine e_aload_n C dX3_spread_4 rfl ?_
  refine e_getI C f_X3_16 sh_19 dX3_spread_5 ?_
  refine e_isub C dX3_spread_8 ?_
  exact e_ireturn C dX3_spread_9 ⟨rfl, rfl⟩
def ansI (b l n lim gap : Int) : Int := if b = -1 ∨ lim < l then 10 else if n - l < gap then 11 else b
theorem c_answer {g : pG} {M : pMem} {lim gap : Int} (hi_lim : -2147483648 ≤ lim ∧ lim < 2147483648) (hi_gap : -2147483648 ≤ gap ∧ gap < 2147483648) (hr : rkOk M) : pCn g 2 0 0 yX3_answer cX3_answer 3 (some .int) SH SH M [.inr (.inr 19), .inl lim, .inl gap] (fun r M' => r = some (.inl (ansI (mI M 19 0) (mI M 19 1) (mI M 19 2) lim gap)) ∧ M' = M) := by
  refine pCn_intro mt_X3_answer (fun X C => ?_)
  show pE g 3 X _ SH M 0 0 0 [some (.inr (.inr 19)), some (.inl lim), some (.inl gap)] []
  have hr0 := hr.1
  have hr1 := hr.2.1
  have hr2 := hr.2.2
  refine e_aload_n C dX3_answer_0 rfl ?_
  refine e_getI C f_X3_9 sh_19 dX3_answer_1 ?_
  refine e_iconst C dX3_answer_4 ?_
  refine e_icmp_eq C (tgt := 16) dX3_answer_5 (by decide) (by omega) (by omega) (fun h_5 => ?_) (fun h_5 => ?_)
  · refine e_bipush C dX3_answer_16 ?_
    exact e_ireturn C dX3_answer_18 ⟨by unfold ansI; rw [if_pos (by omega)], rfl⟩
  · refine e_aload_n C dX3_answer_8 rfl ?_
    refine e_getI C f_X3_16 sh_19 dX3_answer_9 ?_
    refine e_iload_n C dX3_answer_12 rfl ?_
    refine e_icmp_le C (tgt := 19) dX3_answer_13 (by decide) (by omega) (by omega) (fun h_13 => ?_) (fun h_13 => ?_)
    · refine e_aload_n C dX3_answer_19 rfl ?_
      refine e_callV C (c_spread) mt_X3_spread s_X3_22 dX3_answer_20 3 sh_19 rfl (fun r M1 hq => ?_)
      obtain ⟨rfl, hM⟩ := hq
      subst M1
      refine e_iload_n C dX3_answer_23 rfl ?_
      refine e_icmp_ge C (tgt := 32) dX3_answer_24 (by decide) (by omega) (by omega) (fun h_24 => ?_) (fun h_24 => ?_)
      · refine e_aload_n C dX3_answer_32 rfl ?_
        refine e_getI C f_X3_9 sh_19 dX3_answer_33 ?_
        exact e_ireturn C dX3_answer_36 ⟨by unfold ansI; rw [if_neg (by omega)]; first | rw [if_pos (by omega)] | rw [if_neg (by omega)], rfl⟩
      · refine e_bipush C dX3_answer_27 ?_
        refine e_goto C (tgt := 36) dX3_answer_29 (by decide) ?_
        exact e_ireturn C dX3_answer_36 ⟨by unfold ansI; rw [if_neg (by omega)]; first | rw [if_pos (by omega)] | rw [if_neg (by omega)], rfl⟩
    · refine e_bipush C dX3_answer_16 ?_
      exact e_ireturn C dX3_answer_18 ⟨by unfold ansI; rw [if_pos (by omega)], rfl⟩
def shAdd (M : pMem) (a n : Nat) (c x y w : Int) : pMem := stI (stI (stI (stI (stI M (a + 1) n c) (a + 2) n x) (a + 3) n y) (a + 4) n w) a 4 ((n : Int) + 1)
theorem c_add {g : pG} {M : pMem} {a N n : Nat} {c x y w : Int} (hA : pSh M a N) (hN : N ≤ 16) (hn : mI M a 4 = (n : Int)) (hnN : n < N) (hw : w = 0 ∨ w = 1) : pCn g 1 0 0 yX4_add cX4_add 5 none SH SH M [.inr (.inr a), .inl c, .inl x, .inl y, .inl w] (fun r M' => r = none ∧ M' = shAdd M a n c x y w) := by
  refine pCn_intro mt_X4_add (fun X C => ?_)
  show pE g 5 X _ SH M 0 0 0 [some (.inr (.inr a)), some (.inl c), some (.inl x), some (.inl y), some (.inl w)] []
  refine e_aload_n C dX4_add_0 rfl ?_
  refine e_getI C f_X4_9 hA.1 dX4_add_1 ?_
  refine e_aload_n C dX4_add_4 rfl ?_
  refine e_getR C f_X4_15 hA.1 hA.2.2.2.2.2.1 dX4_add_5 ?_
  refine e_alen C dX4_add_8 hA.2.1 (by decide) ?_
  refine e_icmp_ge C (tgt := 63) dX4_add_9 (by decide) (by omega) (by omega) (fun h_9 => by exfalso; omega) (fun h_9 => ?_)
  refine e_aload_n C dX4_add_12 rfl ?_
  refine e_getR C f_X4_15 hA.1 hA.2.2.2.2.2.1 dX4_add_13 ?_
  refine e_aload_n C dX4_add_16 rfl ?_
  refine e_getI C f_X4_9 hA.1 dX4_add_17 ?_
  refine e_iload_n C dX4_add_20 rfl ?_
  refine e_iastore C dX4_add_21 hA.2.1 n hn (by omega) ?_
  refine e_aload_n C dX4_add_22 rfl ?_
  refine e_getR C f_X4_19 hA.1 hA.2.2.2.2.2.2.1 dX4_add_23 ?_
  refine e_aload_n C dX4_add_26 rfl ?_
  refine e_getI C f_X4_9 hA.1 dX4_add_27 ?_
  refine e_iload_n C dX4_add_30 rfl ?_
  refine e_iastore C dX4_add_31 hA.2.2.1 n (by rw [stI_n _ _ (by omega)]; exact hn) (by omega) ?_
  refine e_aload_n C dX4_add_32 rfl ?_
  refine e_getR C f_X4_22 hA.1 hA.2.2.2.2.2.2.2.1 dX4_add_33 ?_
  refine e_aload_n C dX4_add_36 rfl ?_
  refine e_getI C f_X4_9 hA.1 dX4_add_37 ?_
  refine e_iload_n C dX4_add_40 rfl ?_
  refine e_iastore C dX4_add_41 hA.2.2.2.1 n (by rw [stI_n _ _ (by omega), stI_n _ _ (by omega)]; exact hn) (by omega) ?_
  refine e_aload_n C dX4_add_42 rfl ?_
  refine e_getR C f_X4_25 hA.1 hA.2.2.2.2.2.2.2.2 dX4_add_43 ?_
  refine e_aload_n C dX4_add_46 rfl ?_
  refine e_getI C f_X4_9 hA.1 dX4_add_47 ?_
  refine e_iload C dX4_add_50 rfl ?_
  refine e_bastore C dX4_add_52 hA.2.2.2.2.1 n (by rw [stI_n _ _ (by omega), stI_n _ _ (by omega), stI_n _ _ (by omega)]; exact hn) hnN hw ?_
  refine e_aload_n C dX4_add_53 rfl ?_
  refine e_dup C dX4_add_54 ?_
  refine e_getI C f_X4_9 hA.1 dX4_add_55 ?_
  refine e_iconst C dX4_add_58 ?_
  refine e_iadd C dX4_add_59 ?_
  refine e_putI C f_X4_9 hA.1 (hd := dX4_add_60) (hfin := (fun CC T h => by obtain ⟨h1, -⟩ := h; cases h1; rfl)) ?_
  exact e_return C dX4_add_63 ⟨rfl, by unfold shAdd; congr 1; rw [stI_n _ _ (by omega), stI_n _ _ (by omega), stI_n _ _ (by omega), stI_n _ _ (by omega), hn]⟩
def kdClear (M : pMem) (a : Nat) : pMem := wrL (stI (stI M (a + 1) 4 0) a 2 0) (a + 6) (fil (mL M (a + 6)) (-1) 16)
theorem c_kclear {g : pG} {M : pMem} {a : Nat} (hA : pKd M a) : pCn g 1 0 0 yX0_clear cX0_clear 2 none SH SH M [.inr (.inr a)] (fun r M' => r = none ∧ M' = kdClear M a) := by
  refine pCn_intro mt_X0_clear (fun X C => ?_)
  have loop : ∀ (i : Nat) (s : Unit), i ≤ 16 → True → pE g 2 X (pMQ g SH (fun r M' => r = none ∧ M' = kdClear M a) X 0 0) SH (wrL (stI (stI M (a + 1) 4 0) a 2 0) (a + 6) (fil (mL M (a + 6)) (-1) i)) 0 0 15 [some (.inr (.inr a)), some (.inl (i : Int))] [] := by
    refine p_for 16 _ _ ?_ ?_
    · intro s _
      refine e_iload_n C dX0_clear_15 rfl ?_
      refine e_bipush C dX0_clear_16 ?_
      refine e_icmp_ge C (tgt := 36) dX0_clear_18 (by decide) (by omega) (by omega) (fun h_18 => ?_) (fun h_18 => by exfalso; omega)
      exact e_return C dX0_clear_36 ⟨rfl, rfl⟩
    · intro i s hi _ ih
      refine e_iload_n C dX0_clear_15 rfl ?_
      refine e_bipush C dX0_clear_16 ?_
      refine e_icmp_ge C (tgt := 36) dX0_clear_18 (by decide) (by omega) (by omega) (fun h_18 => by exfalso; omega) (fun h_18 => ?_)
      refine e_aload_n C dX0_clear_21 rfl ?_
      refine e_getR C f_X0_20 hA.1 hA.2.2.2.2 dX0_clear_22 ?_
      refine e_iload_n C dX0_clear_25 rfl ?_
      refine e_ldc2 C (-1) k_X0_31 dX0_clear_26 ?_
      refine e_lastore C dX0_clear_29 hA.2.2.2.1 _ rfl (by omega) ?_
      refine e_iinc C dX0_clear_30 rfl ?_
      refine e_goto C (tgt := 15) dX0_clear_33 (by decide) ?_
      exact pE_M (by rw [stL_wr, fil_s]) (ih () trivial)
  show pE g 2 X _ SH M 0 0 0 [some (.inr (.inr a)), none] []
  refine e_aload_n C dX0_clear_0 rfl ?_
  refine e_getR C f_X0_14 hA.1 hA.2.1 dX0_clear_1 ?_
  refine e_iconst C dX0_clear_4 ?_
  refine e_putI C f_X0_28 hA.2.2.1.1 (hd := dX0_clear_5) (hfin := (fun CC T h => by obtain ⟨h1, -⟩ := h; cases h1; rfl)) ?_
  refine e_aload_n C dX0_clear_8 rfl ?_
  refine e_iconst C dX0_clear_9 ?_
  refine e_putI C f_X0_24 hA.1 (hd := dX0_clear_10) (hfin := (fun CC T h => by obtain ⟨h1, -⟩ := h; cases h1; rfl)) ?_
  refine e_iconst C dX0_clear_13 ?_
  refine e_istore_n C dX0_clear_14 ?_
  exact pE_M (by rw [fil_0]; exact (wrL_e _ _).symm) (loop 0 () (by omega) trivial)
end
section
/-! ===== sums of whole numbers ===== -/
def sg (f : Nat → Int) : Nat → Int
  | 0 => 0
  | n + 1 => sg f n + f n
theorem sg_congr {f h : Nat → Int} : ∀ {n : Nat}, (∀ i, i < n → f i = h i) → sg f n = sg h n
  | 0, _ => rfl
  | n + 1, hh => by simp only [sg]; rw [sg_congr (fun i hi => hh i (by omega)), hh n (by omega)]
theorem sg_le {f h : Nat → Int} : ∀ {n : Nat}, (∀ i, i < n → f i ≤ h i) → sg f n ≤ sg h n
  | 0, _ => Int.le_refl _
  | n + 1, hh => by
    have h1 := sg_le (n := n) (fun i hi => hh i (by omega))
    have h2 := hh n (by omega)
    simp only [sg]; omega
theorem sg_add (f h : Nat → Int) : ∀ n, sg (fun i => f i + h i) n = sg f n + sg h n
  | 0 => rfl
  | n + 1 => by simp only [sg]; rw [sg_add f h n]; omega
theorem sg_mul (k : Int) (f : Nat → Int) : ∀ n, sg (fun i => k * f i) n = k * sg f n
  | 0 => by simp [sg]
  | n + 1 => by simp only [sg]; rw [sg_mul k f n, Int.mul_add]
theorem sg_up {f : Nat → Int} {i : Nat} {v : Int} : ∀ {n : Nat}, i < n → sg (up f i v) n = sg f n - f i + v
  | 0, h => absurd h (Nat.not_lt_zero i)
  | n + 1, h => by
    simp only [sg]
    rcases Nat.lt_or_ge i n with q | q
    · rw [sg_up q, up_n (by omega)]; omega
    · have e : i = n := by omega
      subst e
      rw [up_s, sg_congr (f := up f i v) (h := f) (fun j hj => up_n (by omega))]; omega
theorem sg_o {f : Nat → Int} {i n : Nat} {v : Int} (h : n ≤ i) : sg (up f i v) n = sg f n := sg_congr (fun j hj => up_n (by omega))
theorem sg_nonneg {f : Nat → Int} {n : Nat} (h : ∀ i, i < n → 0 ≤ f i) : 0 ≤ sg f n := by
  have : ∀ m, sg (fun _ => 0) m = 0 := fun m => by induction m with
    | zero => rfl
    | succ m ih => simp only [sg]; omega
  rw [← this n]; exact sg_le h
theorem sg_ub {f : Nat → Int} {b : Int} : ∀ {n : Nat}, (∀ i, i < n → f i ≤ b) → sg f n ≤ (n : Int) * b
  | 0, _ => by simp [sg]
  | n + 1, hh => by
    have h1 := sg_ub (n := n) (fun i hi => hh i (by omega))
    have h2 := hh n (by omega)
    simp only [sg]; rw [show ((n + 1 : Nat) : Int) * b = (n : Int) * b + b by rw [Int.natCast_add, Int.add_mul]; simp]; omega
theorem sg_lb {f : Nat → Int} {b : Int} : ∀ {n : Nat}, (∀ i, i < n → b ≤ f i) → (n : Int) * b ≤ sg f n
  | 0, _ => by simp [sg]
  | n + 1, hh => by
    have h1 := sg_lb (n := n) (fun i hi => hh i (by omega))
    have h2 := hh n (by omega)
    simp only [sg]; rw [show ((n + 1 : Nat) : Int) * b = (n : Int) * b + b by rw [Int.natCast_add, Int.add_mul]; simp]; omega
/-! ===== boxes on columns: column ns takes what isn't laid ===== -/
def vA (nb ns : Nat) (φ : Nat → Nat) : Prop := (∀ b, b < nb → φ b ≤ ns) ∧ ∀ a b, a < nb → b < nb → a ≠ b → φ a = φ b → φ a = ns
def isMn (nb ns : Nat) (w : Nat → Nat → Int) (d : Int) : Prop := (∃ φ, vA nb ns φ ∧ sg (fun b => w b (φ b)) nb = d) ∧ ∀ φ, vA nb ns φ → d ≤ sg (fun b => w b (φ b)) nb
theorem isMn_one {nb ns : Nat} {w : Nat → Nat → Int} {d e : Int} (h1 : isMn nb ns w d) (h2 : isMn nb ns w e) : d = e := by
  obtain ⟨⟨f1, a1, b1⟩, c1⟩ := h1
  obtain ⟨⟨f2, a2, b2⟩, c2⟩ := h2
  have q1 := c1 f2 a2
  have q2 := c2 f1 a1
  omega
theorem vA_less {nb ns : Nat} {φ : Nat → Nat} (h : vA (nb + 1) ns φ) : vA nb ns φ := ⟨fun b hb => h.1 b (by omega), fun a b ha hb => h.2 a b (by omega) (by omega)⟩
/-- columns' prices, none above 0: those of the boxes' columns sum up to no less than all -/
theorem hu_ge (ns : Nat) (φ : Nat → Nat) : ∀ (k : Nat) (v : Nat → Int), vA k ns φ → v ns = 0 → (∀ c, c < ns → v c ≤ 0) → sg v ns ≤ sg (fun b => v (φ b)) k
  | 0, v, _, _, h => by
    have := sg_ub (f := v) (b := 0) (n := ns) (fun i hi => h i hi)
    simp only [sg]; omega
  | k + 1, v, hA, h0, h => by
    simp only [sg]
    have h1 := hA.1 k (by omega)
    rcases Nat.lt_or_ge (φ k) ns with q | q
    · have ih := hu_ge ns φ k (up v (φ k) 0) (vA_less hA) (by rw [up_n (by omega)]; exact h0) (fun c hc => by
        by_cases e : c = φ k
        · subst e; rw [up_s]; omega
        · rw [up_n e]; exact h c hc)
      rw [sg_up q] at ih
      rw [sg_congr (f := fun b => up v (φ k) 0 (φ b)) (h := fun b => v (φ b)) (fun b hb => by
        refine up_n (fun e => ?_)
        have := hA.2 b k (by omega) (by omega) (by omega) e
        omega)] at ih
      omega
    · have e : φ k = ns := by omega
      rw [e, h0]
      have ih := hu_ge ns φ k v (vA_less hA) h0 h
      omega
/-- and if every column whose price isn't 0 has a box: just to all -/
theorem hu_eq (ns : Nat) (φ : Nat → Nat) : ∀ (k : Nat) (v : Nat → Int), vA k ns φ → v ns = 0 → (∀ c, c < ns → v c ≠ 0 → ∃ b, b < k ∧ φ b = c) → sg (fun b => v (φ b)) k = sg v ns
  | 0, v, _, _, h => by
    have : ∀ i, i < ns → v i = 0 := fun i hi => Classical.byContradiction (fun q => by obtain ⟨b, hb, _⟩ := h i hi q; omega)
    rw [sg_congr (f := v) (h := fun _ => 0) this]
    simp only [sg]
    have h2 := sg_ub (f := fun _ => (0 : Int)) (b := 0) (n := ns) (fun _ _ => Int.le_refl _)
    have h3 := sg_lb (f := fun _ => (0 : Int)) (b := 0) (n := ns) (fun _ _ => Int.le_refl _)
    omega
  | k + 1, v, hA, h0, h => by
    simp only [sg]
    have h1 := hA.1 k (by omega)
    rcases Nat.lt_or_ge (φ k) ns with q | q
    · have ih := hu_eq ns φ k (up v (φ k) 0) (vA_less hA) (by rw [up_n (by omega)]; exact h0) (fun c hc hne => by
        by_cases e : c = φ k
        · subst e; rw [up_s] at hne; exact absurd rfl hne
        · rw [up_n e] at hne
          obtain ⟨b, hb, e2⟩ := h c hc hne
          refine ⟨b, ?_, e2⟩
          rcases Nat.lt_or_ge b k with z | z
          · exact z
          · have : b = k := by omega
            subst this; exact absurd e2.symm e)
      rw [sg_up q] at ih
      rw [sg_congr (f := fun b => up v (φ k) 0 (φ b)) (h := fun b => v (φ b)) (fun b hb => by
        refine up_n (fun e => ?_)
        have := hA.2 b k (by omega) (by omega) (by omega) e
        omega)] at ih
      omega
    · have e : φ k = ns := by omega
      rw [e, h0]
      have ih := hu_eq ns φ k v (vA_less hA) h0 (fun c hc hne => by
        obtain ⟨b, hb, e2⟩ := h c hc hne
        refine ⟨b, ?_, e2⟩
        rcases Nat.lt_or_ge b k with z | z
        · exact z
        · have : b = k := by omega
          subst this; omega)
      omega
/-- what holds when k boxes are laid: u, v the prices, o the box on a column (-1: none) -/
def huI (k ns : Nat) (w : Nat → Nat → Int) (u v o : Nat → Int) : Prop :=
  (∀ b c, b < k → c ≤ ns → u b + v c ≤ w b c) ∧ (∀ c, c < ns → v c ≤ 0) ∧ v ns = 0 ∧ o ns = -1 ∧ (∀ c, c < ns → o c = -1 → v c = 0) ∧
  (∀ c, c < ns → o c ≠ -1 → ∃ b : Nat, b < k ∧ o c = (b : Int) ∧ w b c = u b + v c) ∧ (∀ c e, c < ns → e < ns → o c ≠ -1 → o c = o e → c = e) ∧
  ∀ b : Nat, b < k → (∃ c, c < ns ∧ o c = (b : Int)) ∨ w b ns = u b
theorem huI_min {k ns : Nat} {w : Nat → Nat → Int} {u v o : Nat → Int} (h : huI k ns w u v o) : isMn k ns w (sg u k + sg v ns) := by
  obtain ⟨h1, h2, h3, h4, h5, h6, h7, h8⟩ := h
  constructor
  · have hex : ∀ b : Nat, ∃ c : Nat, b < k → (c < ns ∧ o c = (b : Int)) ∨ (c = ns ∧ w b ns = u b ∧ ∀ e, e < ns → o e ≠ (b : Int)) := by
      intro b
      by_cases hb : b < k
      · by_cases hc : ∃ c, c < ns ∧ o c = (b : Int)
        · obtain ⟨c, hc1, hc2⟩ := hc
          exact ⟨c, fun _ => Or.inl ⟨hc1, hc2⟩⟩
        · rcases h8 b hb with q | q
          · exact absurd q hc
          · exact ⟨ns, fun _ => Or.inr ⟨rfl, q, fun e he e2 => hc ⟨e, he, e2⟩⟩⟩
      · exact ⟨0, fun q => absurd q hb⟩
    obtain ⟨φ, hφ⟩ := Classical.axiomOfChoice hex
    have hA : vA k ns φ := by
      refine ⟨fun b hb => ?_, fun a b ha hb hne he => ?_⟩
      · rcases hφ b hb with q | q <;> omega
      · rcases hφ a ha with q | q
        · rcases hφ b hb with z | z
          · have e1 := q.2
            have e2 := z.2
            rw [he] at e1
            omega
          · omega
        · exact q.1
    refine ⟨φ, hA, ?_⟩
    have ht : ∀ b, b < k → w b (φ b) = u b + v (φ b) := by
      intro b hb
      rcases hφ b hb with q | q
      · obtain ⟨b2, hb2, e1, e2⟩ := h6 (φ b) q.1 (by rw [q.2]; omega)
        have : b2 = b := by have := q.2; omega
        subst this; exact e2
      · rw [q.1, h3, q.2.1]; omega
    rw [sg_congr ht, sg_add]
    rw [hu_eq ns φ k v hA h3 (fun c hc hne => by
      have hoc : o c ≠ -1 := fun q => hne (h5 c hc q)
      obtain ⟨b, hb, e1, -⟩ := h6 c hc hoc
      refine ⟨b, hb, ?_⟩
      rcases hφ b hb with q | q
      · exact (h7 c (φ b) hc q.1 hoc (by rw [q.2, e1])).symm
      · exact absurd e1 (q.2.2 c hc))]
  · intro φ hA
    have q1 := hu_ge ns φ k v hA h3 h2
    have q2 := sg_le (f := fun b => u b + v (φ b)) (h := fun b => w b (φ b)) (n := k) (fun b hb => h1 b (φ b) hb (hA.1 b hb))
    rw [sg_add] at q2
    omega
end
section
/-! ===== laying one more box by the cheapest chain ===== -/
/-- the box that stands behind a column of the chain: f = -1 is the new box k itself -/
def mvr (k : Nat) (o : Nat → Int) (f : Int) : Nat := if f = -1 then k else (o f.toNat).toNat
/-- what holds all along: prices and the boxes that are laid -/
def huB (k ns : Nat) (w : Nat → Nat → Int) (u v o : Nat → Int) : Prop := huI k ns w u v o
/-- the columns reached, in the order rk; t of them -/
def huR (k ns t : Nat) (w : Nat → Nat → Int) (u v o cf rc : Nat → Int) (rk : Nat → Nat) : Prop :=
  (∀ c, c ≤ ns → rc c = 0 ∨ rc c = 1) ∧ rc ns = 0 ∧ (∀ c, c < ns → rc c = 1 → o c ≠ -1) ∧ sg rc ns = (t : Int) ∧
  (∀ c, c < ns → rc c = 1 → rk c < t) ∧
  (∀ c, c < ns → rc c = 1 → (cf c = -1 ∨ ∃ f : Nat, cf c = (f : Int) ∧ f < ns ∧ rc f = 1 ∧ rk f < rk c) ∧ w (mvr k o (cf c)) c = u (mvr k o (cf c)) + v c) ∧
  (∀ c, c < ns → rc c = 1 → u k + v c ≤ w k c)
/-- at the loop's head -/
def huS (k ns t : Nat) (w : Nat → Nat → Int) (u v o sl cf rc : Nat → Int) (frm : Int) (rk : Nat → Nat) (D B : Int) : Prop :=
  huI k ns w u v o ∧ huR k ns t w u v o cf rc rk ∧
  ((t = 0 ∧ frm = -1 ∧ u k = 0 ∧ ∀ c, c ≤ ns → sl c = 1152921504606846976) ∨
   (0 < t ∧ (∃ f : Nat, frm = (f : Int) ∧ f < ns ∧ rc f = 1) ∧ -B ≤ u k ∧ (∀ c, c ≤ ns → rc c = 0 → 0 ≤ sl c ∧ sl c ≤ w k c - u k - v c ∧ (∀ f : Nat, f < ns → rc f = 1 → (f : Int) ≠ frm → sl c ≤ w (o f).toNat c - u (o f).toNat - v c) ∧
     (cf c = -1 ∨ ∃ f : Nat, cf c = (f : Int) ∧ f < ns ∧ rc f = 1) ∧ sl c = w (mvr k o (cf c)) c - u (mvr k o (cf c)) - v c))) ∧
  sg u (k + 1) + sg v ns = D
/-- behind the raise of prices: q is the nearest column -/
def huT (k ns t : Nat) (w : Nat → Nat → Int) (u v o sl cf rc : Nat → Int) (rk : Nat → Nat) (q : Nat) (D B : Int) : Prop :=
  huI k ns w u v o ∧ huR k ns t w u v o cf rc rk ∧ -B ≤ u k ∧
  (∀ c, c ≤ ns → rc c = 0 → 0 ≤ sl c ∧ sl c ≤ w k c - u k - v c ∧ (∀ f : Nat, f < ns → rc f = 1 → sl c ≤ w (o f).toNat c - u (o f).toNat - v c) ∧
     (cf c = -1 ∨ ∃ f : Nat, cf c = (f : Int) ∧ f < ns ∧ rc f = 1) ∧ sl c = w (mvr k o (cf c)) c - u (mvr k o (cf c)) - v c) ∧
  q ≤ ns ∧ rc q = 0 ∧ sl q = 0 ∧ sg u (k + 1) + sg v ns = D
theorem huI_o {k ns : Nat} {w : Nat → Nat → Int} {u v o : Nat → Int} (h : huI k ns w u v o) {c : Nat} (hc : c < ns) (ho : o c ≠ -1) : ∃ b : Nat, b < k ∧ o c = (b : Int) ∧ (o c).toNat = b ∧ w b c = u b + v c := by
  obtain ⟨b, h1, h2, h3⟩ := h.2.2.2.2.2.1 c hc ho
  exact ⟨b, h1, h2, by rw [h2]; rfl, h3⟩
/-- how reach looks from a box -/
def rchd (ns : Nat) (w : Nat → Nat → Int) (u v sl cf rc sl' cf' : Nat → Int) (m : Nat) (frm : Int) (q : Nat) : Prop :=
  (∀ c, c ≤ ns → rc c = 1 → sl' c = sl c ∧ cf' c = cf c) ∧
  (∀ c, c ≤ ns → rc c = 0 → (w m c - u m - v c < sl c ∧ sl' c = w m c - u m - v c ∧ cf' c = frm) ∨ (sl c ≤ w m c - u m - v c ∧ sl' c = sl c ∧ cf' c = cf c)) ∧
  q ≤ ns ∧ rc q = 0 ∧ ∀ c, c ≤ ns → rc c = 0 → sl' q ≤ sl' c
/-- how prices are raised -/
def rsd (k ns : Nat) (u v o sl rc u' v' sl' : Nat → Int) (x : Int) : Prop :=
  u' k = u k + x ∧ (∀ c, c < ns → rc c = 1 → u' (o c).toNat = u (o c).toNat + x) ∧ (∀ b, b < k → (∀ c, c < ns → rc c = 1 → (o c).toNat ≠ b) → u' b = u b) ∧
  (∀ c, c ≤ ns → rc c = 1 → v' c = v c - x ∧ sl' c = sl c) ∧ (∀ c, c ≤ ns → rc c = 0 → v' c = v c ∧ sl' c = sl c - x)
theorem sg_two {ns : Nat} {rc v v' : Nat → Int} {x : Int} (h1 : ∀ c, c < ns → rc c = 1 → v' c = v c - x) (h2 : ∀ c, c < ns → rc c = 0 → v' c = v c) (h0 : ∀ c, c < ns → rc c = 0 ∨ rc c = 1) : sg v' ns = sg v ns - x * sg rc ns := by
  induction ns with
  | zero => simp [sg]
  | succ n ih =>
    simp only [sg]
    rw [ih (fun c hc => h1 c (by omega)) (fun c hc => h2 c (by omega)) (fun c hc => h0 c (by omega))]
    rcases h0 n (by omega) with q | q
    · rw [h2 n (by omega) q, q, Int.mul_add]; omega
    · rw [h1 n (by omega) q, q, Int.mul_add]; omega
/-- the boxes on reached columns, raised by x each: the sum grows by x for each such column -/
theorem sg_boxes {k : Nat} {x : Int} : ∀ (ns : Nat) (o rc u u' : Nat → Int), (∀ c, c < ns → rc c = 0 ∨ rc c = 1) → (∀ c, c < ns → rc c = 1 → 0 ≤ o c ∧ o c < k) → (∀ c e, c < ns → e < ns → rc c = 1 → rc e = 1 → o c = o e → c = e) →
    (∀ c, c < ns → rc c = 1 → u' (o c).toNat = u (o c).toNat + x) → (∀ b, b < k → (∀ c, c < ns → rc c = 1 → (o c).toNat ≠ b) → u' b = u b) → sg u' k = sg u k + x * sg rc ns
  | 0, o, rc, u, u', h0, ho, hi, h1, h2 => by
    rw [sg_congr (f := u') (h := u) (fun b hb => h2 b hb (fun c hc => absurd hc (Nat.not_lt_zero c)))]; simp [sg]
  | n + 1, o, rc, u, u', h0, ho, hi, h1, h2 => by
    simp only [sg]
    rcases h0 n (by omega) with q | q
    · rw [sg_boxes n o rc u u' (fun c hc => h0 c (by omega)) (fun c hc => ho c (by omega)) (fun c e hc he => hi c e (by omega) (by omega)) (fun c hc => h1 c (by omega)) (fun b hb hh => h2 b hb (fun c hc hr => by
        rcases Nat.lt_or_ge c n with z | z
        · exact hh c z hr
        · have : c = n := by omega
          subst this; omega)), q, Int.add_zero]
    · have hon := ho n (by omega) q
      have hu := h1 n (by omega) q
      have ih := sg_boxes n o rc (up u (o n).toNat (u (o n).toNat + x)) u' (fun c hc => h0 c (by omega)) (fun c hc => ho c (by omega)) (fun c e hc he => hi c e (by omega) (by omega)) (fun c hc hr => by
          have hne : (o c).toNat ≠ (o n).toNat := fun e => by
            have := ho c (by omega) hr
            have := hi c n (by omega) (by omega) hr q (by omega)
            omega
          rw [up_n hne]; exact h1 c (by omega) hr) (fun b hb hh => by
          by_cases e : b = (o n).toNat
          · subst e; rw [up_s]; exact hu
          · rw [up_n e]; exact h2 b hb (fun c hc hr => by
              rcases Nat.lt_or_ge c n with z | z
              · exact hh c z hr
              · have : c = n := by omega
                subst this; exact fun e2 => e e2.symm))
      rw [ih, sg_up (by omega), q]
      rw [Int.mul_add]; omega
theorem hu_step {k ns t : Nat} {w : Nat → Nat → Int} {u v o sl cf rc u' v' sl1 cf1 sl2 : Nat → Int} {frm : Int} {rk : Nat → Nat} {D B : Int} {q : Nat}
    (hB : ∀ b c, b ≤ k → c ≤ ns → -B ≤ w b c) (hBB : ∀ b c, b ≤ k → c ≤ ns → w b c ≤ B) (hB0 : 0 ≤ B ∧ 4 * B < 1152921504606846976)
    (h : huS k ns t w u v o sl cf rc frm rk D B) (hr : rchd ns w u v sl cf rc sl1 cf1 (mvr k o frm) frm q) (hs : rsd k ns u v o sl1 rc u' v' sl2 (sl1 q)) :
    huT k ns t w u' v' o sl2 cf1 rc rk q (D + sl1 q) B ∧ (0 < t → 0 ≤ sl1 q) := by
  obtain ⟨hI, hR, hL, hD⟩ := h
  obtain ⟨r1, r2, r3, r4, r5, r6, r7⟩ := id hR
  obtain ⟨i1, i2, i3, i4, i5, i6, i7, i8⟩ := id hI
  obtain ⟨q1, q2, q3, q4, q5⟩ := hr
  obtain ⟨s1, s2, s3, s4, s5⟩ := hs
  -- the mover looked from
  have hmk : mvr k o frm ≤ k := by
    unfold mvr
    split
    · exact Nat.le_refl _
    · next hne =>
      rcases hL with ⟨_, e1, _⟩ | ⟨_, ⟨f, e1, e2, e3⟩, _⟩
      · exact absurd e1 hne
      · rw [e1]
        obtain ⟨b, b1, b2, b3, b4⟩ := huI_o hI e2 (r3 f e2 e3)
        show (o ((f : Int).toNat)).toNat ≤ k
        rw [Int.toNat_natCast, b3]; omega
  -- what the slack says now, of all movers, before the raise
  have A : ∀ c, c ≤ ns → rc c = 0 → (0 < t → 0 ≤ sl1 c) ∧ sl1 c ≤ w k c - u k - v c ∧ (∀ f : Nat, f < ns → rc f = 1 → sl1 c ≤ w (o f).toNat c - u (o f).toNat - v c) ∧ (cf1 c = -1 ∨ ∃ f : Nat, cf1 c = (f : Int) ∧ f < ns ∧ rc f = 1) ∧ sl1 c = w (mvr k o (cf1 c)) c - u (mvr k o (cf1 c)) - v c := by
    intro c hc h0
    have hq := q2 c hc h0
    rcases hL with ⟨e0, e1, e2, e3⟩ | ⟨e0, ⟨f0, e1, e2, e3⟩, e4, e5⟩
    · -- the first look
      subst e1
      have hm : mvr k o (-1) = k := rfl
      rw [hm] at hq
      have hvc : v c ≤ 0 := by
        rcases Nat.lt_or_ge c ns with z | z
        · exact i2 c z
        · have : c = ns := by omega
          rw [this, i3]; omega
      have hvb : -(2 * B) ≤ v c := by
        rcases Nat.lt_or_ge c ns with z | z
        · by_cases ho : o c = -1
          · rw [i5 c z ho]; omega
          · obtain ⟨b, b1, b2, b3, b4⟩ := huI_o hI z ho
            have w1 := hB b c (by omega) hc
            have w2 := i1 b ns b1 (Nat.le_refl _)
            have w3 := hBB b ns (by omega) (Nat.le_refl _)
            omega
        · have : c = ns := by omega
          rw [this, i3]; omega
      have w1 := hB k c (Nat.le_refl _) hc
      have w2 := hBB k c (Nat.le_refl _) hc
      have e3c := e3 c hc
      refine ⟨fun z => absurd e0 (by omega), ?_, fun f hf hrf => ?_, ?_, ?_⟩
      · rcases hq with ⟨z1, z2, z3⟩ | ⟨z1, z2, z3⟩ <;> omega
      · exact absurd (r5 f hf hrf) (by omega)
      · rcases hq with ⟨z1, z2, z3⟩ | ⟨z1, z2, z3⟩
        · exact Or.inl z3
        · omega
      · rcases hq with ⟨z1, z2, z3⟩ | ⟨z1, z2, z3⟩
        · rw [z3, hm]; exact z2
        · omega
    · obtain ⟨g1, g2, g3, g4, g5⟩ := e5 c hc h0
      have hm : mvr k o frm = (o f0).toNat := by
        unfold mvr
        rw [if_neg (by omega), e1, Int.toNat_natCast]
      obtain ⟨b, b1, b2, b3, b4⟩ := huI_o hI e2 (r3 f0 e2 e3)
      have hfe := i1 b c b1 hc
      rw [hm] at hq
      refine ⟨fun _ => ?_, ?_, fun f hf hrf => ?_, ?_, ?_⟩
      · rcases hq with ⟨z1, z2, z3⟩ | ⟨z1, z2, z3⟩
        · rw [z2, b3]; omega
        · omega
      · rcases hq with ⟨z1, z2, z3⟩ | ⟨z1, z2, z3⟩ <;> omega
      · by_cases hff : f = f0
        · subst hff
          rcases hq with ⟨z1, z2, z3⟩ | ⟨z1, z2, z3⟩ <;> omega
        · have := g3 f hf hrf (by omega)
          rcases hq with ⟨z1, z2, z3⟩ | ⟨z1, z2, z3⟩ <;> omega
      · rcases hq with ⟨z1, z2, z3⟩ | ⟨z1, z2, z3⟩
        · exact Or.inr ⟨f0, by rw [z3, e1], e2, e3⟩
        · rw [z3]; exact g4
      · rcases hq with ⟨z1, z2, z3⟩ | ⟨z1, z2, z3⟩
        · rw [z3, hm]; exact z2
        · rw [z3, z2]; exact g5
  have hx := A q q3 q4
  have hpos : 0 < t → 0 ≤ sl1 q := hx.1
  -- movers' prices
  have um : ∀ f : Nat, f < ns → rc f = 1 → u' (o f).toNat = u (o f).toNat + sl1 q := s2
  have ub : ∀ b, b < k → u b ≤ u' b ∨ u' b = u b + sl1 q := by
    intro b hb
    by_cases hex : ∃ c, c < ns ∧ rc c = 1 ∧ (o c).toNat = b
    · obtain ⟨c, c1, c2, c3⟩ := hex
      right; rw [← c3]; exact s2 c c1 c2
    · left
      rw [s3 b hb (fun c c1 c2 c3 => hex ⟨c, c1, c2, c3⟩)]; omega
  have t0 : t = 0 → ∀ c, c < ns → rc c = 0 := by
    intro e c hc
    rcases r1 c (by omega) with z | z
    · exact z
    · exact absurd (r5 c hc z) (by omega)
  have mvk : ∀ c, c < ns → rc c = 1 → u' (mvr k o (cf c)) = u (mvr k o (cf c)) + sl1 q := by
    intro c hc hrc
    rcases (r6 c hc hrc).1 with z | ⟨f, z1, z2, z3, z4⟩
    · rw [z]; exact s1
    · have : mvr k o (cf c) = (o f).toNat := by unfold mvr; rw [if_neg (by omega), z1, Int.toNat_natCast]
      rw [this]; exact um f z2 z3
  have rcl : ∀ c, c ≤ ns → rc c = 1 → c < ns := by
    intro c hc h1
    rcases Nat.lt_or_ge c ns with z | z
    · exact z
    · have : c = ns := by omega
      rw [this, r2] at h1; omega
  -- the prices go on being fit
  have F : ∀ b c, b < k → c ≤ ns → u' b + v' c ≤ w b c := by
    intro b c hb hc
    have h1 := i1 b c hb hc
    rcases r1 c hc with z | z
    · rw [(s5 c hc z).1]
      by_cases hex : ∃ f, f < ns ∧ rc f = 1 ∧ (o f).toNat = b
      · obtain ⟨f, c1, c2, c3⟩ := hex
        have := (A c hc z).2.2.1 f c1 c2
        have h5 := q5 c hc z
        have := um f c1 c2
        rw [c3] at *
        omega
      · rw [s3 b hb (fun c c1 c2 c3 => hex ⟨c, c1, c2, c3⟩)]; exact h1
    · rw [(s4 c hc z).1]
      have ht : 0 < t := Nat.lt_of_le_of_lt (Nat.zero_le _) (r5 c (rcl c hc z) z)
      have := hpos ht
      rcases ub b hb with y | y
      · by_cases hex : ∃ f, f < ns ∧ rc f = 1 ∧ (o f).toNat = b
        · obtain ⟨f, c1, c2, c3⟩ := hex
          have := um f c1 c2
          rw [c3] at this
          omega
        · rw [s3 b hb (fun c c1 c2 c3 => hex ⟨c, c1, c2, c3⟩)]; omega
      · omega
  have hI' : huI k ns w u' v' o := by
    refine ⟨F, fun c hc => ?_, ?_, i4, fun c hc ho => ?_, fun c hc ho => ?_, i7, fun b hb => ?_⟩
    · have h2 := i2 c hc
      rcases r1 c (by omega) with z | z
      · rw [(s5 c (by omega) z).1]; exact h2
      · rw [(s4 c (by omega) z).1]
        have := hpos (Nat.lt_of_le_of_lt (Nat.zero_le _) (r5 c hc z))
        omega
    · rw [(s5 ns (Nat.le_refl _) r2).1]; exact i3
    · rcases r1 c (by omega) with z | z
      · rw [(s5 c (by omega) z).1]; exact i5 c hc ho
      · exact absurd ho (r3 c hc z)
    · obtain ⟨b, b1, b2, b3, b4⟩ := huI_o hI hc ho
      refine ⟨b, b1, b2, ?_⟩
      rcases r1 c (by omega) with z | z
      · rw [(s5 c (by omega) z).1, s3 b b1 (fun e e1 e2 e3 => ?_)]
        · exact b4
        · have e4 := huI_o hI e1 (r3 e e1 e2)
          obtain ⟨b', _, f2, f3, _⟩ := e4
          have : c = e := i7 c e hc e1 ho (by omega)
          subst this; omega
      · have := um c hc z
        rw [b3] at this
        rw [(s4 c (by omega) z).1, this]; omega
    · rcases i8 b hb with z | z
      · exact Or.inl z
      · by_cases hex : ∃ f, f < ns ∧ rc f = 1 ∧ (o f).toNat = b
        · obtain ⟨f, c1, c2, c3⟩ := hex
          obtain ⟨b', g1, g2, g3, g4⟩ := huI_o hI c1 (r3 f c1 c2)
          exact Or.inl ⟨f, c1, by omega⟩
        · right
          rw [s3 b hb (fun c c1 c2 c3 => hex ⟨c, c1, c2, c3⟩)]; exact z
  refine ⟨⟨hI', ⟨r1, r2, r3, r4, r5, fun c hc hrc => ?_, fun c hc hrc => ?_⟩, ?_, fun c hc h0 => ?_, q3, q4, ?_, ?_⟩, hpos⟩
  · have hcf := (q1 c (by omega) hrc).2
    rw [hcf]
    refine ⟨(r6 c hc hrc).1, ?_⟩
    have := (r6 c hc hrc).2
    rw [mvk c hc hrc, (s4 c (by omega) hrc).1]; omega
  · have := r7 c hc hrc
    rw [s1, (s4 c (by omega) hrc).1]; omega
  · rw [s1]
    rcases hL with ⟨e0, e1, e2, e3⟩ | ⟨e0, _, e4, _⟩
    · have w1 := hx.2.2.2.2
      have hcf : mvr k o (cf1 q) = k := by
        rcases hx.2.2.2.1 with z | ⟨f, z1, z2, z3⟩
        · rw [z]; rfl
        · exact absurd (t0 e0 f z2) (by omega)
      rw [hcf] at w1
      have w2 := hB k q (Nat.le_refl _) q3
      have hvc : v q ≤ 0 := by
        rcases Nat.lt_or_ge q ns with z | z
        · exact i2 q z
        · have : q = ns := by omega
          rw [this, i3]; omega
      omega
    · have := hpos e0
      omega
  · obtain ⟨g1, g2, g3, g4, g5⟩ := A c hc h0
    have h5 := q5 c hc h0
    obtain ⟨z1, z2⟩ := s5 c hc h0
    have hmu : u' (mvr k o (cf1 c)) = u (mvr k o (cf1 c)) + sl1 q := by
      rcases g4 with y | ⟨f, y1, y2, y3⟩
      · rw [y]; exact s1
      · have : mvr k o (cf1 c) = (o f).toNat := by unfold mvr; rw [if_neg (by omega), y1, Int.toNat_natCast]
        rw [this]; exact um f y2 y3
    refine ⟨by omega, by omega, fun f hf hrf => ?_, g4, by omega⟩
    have := g3 f hf hrf
    have := um f hf hrf
    omega
  · rw [(s5 q q3 q4).2]; omega
  · have e1 : sg u' k = sg u k + sl1 q * sg rc ns := sg_boxes ns o rc u u' (fun c hc => r1 c (by omega)) (fun c hc hrc => by
      obtain ⟨b, b1, b2, -, -⟩ := huI_o hI hc (r3 c hc hrc)
      omega) (fun c e hc he hrc _ heq => i7 c e hc he (r3 c hc hrc) heq) s2 s3
    have e2 : sg v' ns = sg v ns - sl1 q * sg rc ns := sg_two (fun c hc hrc => (s4 c (by omega) hrc).1) (fun c hc hrc => (s5 c (by omega) hrc).1) (fun c hc => r1 c (by omega))
    have hD' : sg u k + u k + sg v ns = D := hD
    show sg u' k + u' k + sg v' ns = D + sl1 q
    rw [e1, e2, s1]; omega
theorem hu_next {k ns t : Nat} {w : Nat → Nat → Int} {u v o sl cf rc : Nat → Int} {rk : Nat → Nat} {D B : Int} {q : Nat} (h : huT k ns t w u v o sl cf rc rk q D B) (ho : o q ≠ -1) :
    huS k ns (t + 1) w u v o sl cf (up rc q 1) (q : Int) (fun c => if c = q then t else rk c) D B := by
  obtain ⟨hI, ⟨r1, r2, r3, r4, r5, r6, r7⟩, hk, hS, q1, q2, q3, hD⟩ := h
  have hq : q < ns := by
    rcases Nat.lt_or_ge q ns with z | z
    · exact z
    · have : q = ns := by omega
      rw [this] at ho; exact absurd hI.2.2.2.1 ho
  obtain ⟨g1, g2, g3, g4, g5⟩ := hS q q1 q2
  have hup : ∀ c, c ≠ q → up rc q 1 c = rc c := fun c hc => up_n hc
  refine ⟨hI, ⟨fun c hc => ?_, ?_, fun c hc hrc => ?_, ?_, fun c hc hrc => ?_, fun c hc hrc => ?_, fun c hc hrc => ?_⟩, Or.inr ⟨by omega, ⟨q, rfl, hq, up_s⟩, hk, fun c hc h0 => ?_⟩, hD⟩
  · by_cases e : c = q
    · subst e; rw [up_s]; exact Or.inr rfl
    · rw [hup c e]; exact r1 c hc
  · rw [hup ns (by omega)]; exact r2
  · by_cases e : c = q
    · subst e; exact ho
    · rw [hup c e] at hrc; exact r3 c hc hrc
  · rw [sg_up hq, r4, q2]; omega
  · dsimp only
    by_cases e : c = q
    · rw [if_pos e]; omega
    · rw [if_neg e]; rw [hup c e] at hrc; have := r5 c hc hrc; omega
  · by_cases e : c = q
    · subst e
      refine ⟨?_, by omega⟩
      rcases g4 with z | ⟨f, z1, z2, z3⟩
      · exact Or.inl z
      · have hfc : f ≠ c := fun e => by rw [e] at z3; omega
        refine Or.inr ⟨f, z1, z2, by rw [hup f hfc]; exact z3, ?_⟩
        dsimp only
        rw [if_neg hfc, if_pos rfl]; exact r5 f z2 z3
    · rw [hup c e] at hrc
      obtain ⟨y1, y2⟩ := r6 c hc hrc
      refine ⟨?_, y2⟩
      rcases y1 with z | ⟨f, z1, z2, z3, z4⟩
      · exact Or.inl z
      · have hfc : f ≠ q := fun e => by rw [e] at z3; omega
        refine Or.inr ⟨f, z1, z2, by rw [hup f hfc]; exact z3, ?_⟩
        dsimp only
        rw [if_neg hfc, if_neg e]; exact z4
  · by_cases e : c = q
    · subst e; omega
    · rw [hup c e] at hrc; exact r7 c hc hrc
  · have e : c ≠ q := fun e => by subst e; rw [up_s] at h0; omega
    rw [hup c e] at h0
    obtain ⟨y1, y2, y3, y4, y5⟩ := hS c hc h0
    refine ⟨y1, y2, fun f hf hrf hne => ?_, ?_, y5⟩
    · have hfq : f ≠ q := fun e => hne (by rw [e])
      rw [hup f hfq] at hrf; exact y3 f hf hrf
    · rcases y4 with z | ⟨f, z1, z2, z3⟩
      · exact Or.inl z
      · have hfc : f ≠ q := fun e => by rw [e] at z3; omega
        exact Or.inr ⟨f, z1, z2, by rw [hup f hfc]; exact z3⟩
/-! ===== handing columns on ===== -/
def huP (k ns : Nat) (w : Nat → Nat → Int) (u v o cf rc : Nat → Int) (rk : Nat → Nat) (r col : Nat) (o' : Nat → Int) : Prop :=
  (∀ b c, b < k + 1 → c ≤ ns → u b + v c ≤ w b c) ∧ (∀ c, c < ns → v c ≤ 0) ∧ v ns = 0 ∧ o' ns = -1 ∧ (∀ c, c < ns → c ≠ col → o' c = -1 → v c = 0) ∧
  (∀ c, c < ns → c ≠ col → o' c ≠ -1 → ∃ b : Nat, b < k ∧ o' c = (b : Int) ∧ w b c = u b + v c) ∧ (∀ c e, c < ns → e < ns → c ≠ col → e ≠ col → o' c ≠ -1 → o' c = o' e → c = e) ∧
  (∀ b : Nat, b < k → (∃ c, c < ns ∧ c ≠ col ∧ o' c = (b : Int)) ∨ w b ns = u b) ∧
  col ≤ ns ∧ (rc col = 1 → r ≤ rk col) ∧
  ((cf col = -1 ∧ w k col = u k + v col) ∨ ∃ f : Nat, cf col = (f : Int) ∧ f < ns ∧ rc f = 1 ∧ rk f < r ∧ f ≠ col ∧ w (o' f).toNat col = u (o' f).toNat + v col) ∧
  (∀ c, c < ns → rc c = 1 → rk c < r → o' c = o c ∧ o c ≠ -1 ∧ ((cf c = -1 ∧ w k c = u k + v c) ∨ ∃ f : Nat, cf c = (f : Int) ∧ f < ns ∧ rc f = 1 ∧ rk f < rk c ∧ w (o f).toNat c = u (o f).toNat + v c))
theorem huP_start {k ns t : Nat} {w : Nat → Nat → Int} {u v o sl cf rc : Nat → Int} {rk : Nat → Nat} {D B : Int} {q : Nat} (h : huT k ns t w u v o sl cf rc rk q D B) (ho : o q = -1) :
    huP k ns w u v o cf rc rk t q o ∧ t ≤ ns := by
  obtain ⟨hI, ⟨r1, r2, r3, r4, r5, r6, r7⟩, hk, hS, q1, q2, q3, hD⟩ := h
  obtain ⟨i1, i2, i3, i4, i5, i6, i7, i8⟩ := id hI
  obtain ⟨g1, g2, g3, g4, g5⟩ := hS q q1 q2
  refine ⟨⟨fun b c hb hc => ?_, i2, i3, i4, fun c hc _ => i5 c hc, fun c hc _ => i6 c hc, fun c e hc he _ _ => i7 c e hc he, fun b hb => ?_, q1, fun z => by omega, ?_, fun c hc hrc hlt => ?_⟩, ?_⟩
  · rcases Nat.lt_or_ge b k with z | z
    · exact i1 b c z hc
    · have e : b = k := by omega
      subst e
      rcases r1 c hc with y | y
      · have := (hS c hc y).2.1
        have := (hS c hc y).1
        omega
      · have hcn : c < ns := by
          rcases Nat.lt_or_ge c ns with x | x
          · exact x
          · have : c = ns := by omega
            rw [this, r2] at y; omega
        exact r7 c hcn y
  · rcases i8 b hb with ⟨c, c1, c2⟩ | z
    · refine Or.inl ⟨c, c1, fun e => ?_, c2⟩
      rw [e, ho] at c2; omega
    · exact Or.inr z
  · rcases g4 with z | ⟨f, z1, z2, z3⟩
    · have e : mvr k o (cf q) = k := by rw [z]; rfl
      rw [e] at g5
      exact Or.inl ⟨z, by omega⟩
    · have e : mvr k o (cf q) = (o f).toNat := by unfold mvr; rw [if_neg (by omega), z1, Int.toNat_natCast]
      rw [e] at g5
      exact Or.inr ⟨f, z1, z2, z3, r5 f z2 z3, fun e => by rw [e] at z3; omega, by omega⟩
  · refine ⟨rfl, r3 c hc hrc, ?_⟩
    obtain ⟨y1, y2⟩ := r6 c hc hrc
    rcases y1 with z | ⟨f, z1, z2, z3, z4⟩
    · have e : mvr k o (cf c) = k := by rw [z]; rfl
      rw [e] at y2
      exact Or.inl ⟨z, y2⟩
    · have e : mvr k o (cf c) = (o f).toNat := by unfold mvr; rw [if_neg (by omega), z1, Int.toNat_natCast]
      rw [e] at y2
      exact Or.inr ⟨f, z1, z2, z3, z4, y2⟩
  · have h1 := sg_ub (f := rc) (b := 1) (n := ns) (fun i hi => by rcases r1 i (by omega) with z | z <;> omega)
    omega
/-- what the column gets: the box k, or that of the column before -/
def hnd (k ns col : Nat) (o' : Nat → Int) (f : Int) : Nat → Int := if col < ns then up o' col (if f = -1 then (k : Int) else o' f.toNat) else o'
theorem huP_step {k ns : Nat} {w : Nat → Nat → Int} {u v o cf rc : Nat → Int} {rk : Nat → Nat} {r col : Nat} {o' : Nat → Int} (h : huP k ns w u v o cf rc rk r col o') :
    (cf col = -1 ∧ huI (k + 1) ns w u v (hnd k ns col o' (-1))) ∨ ∃ f : Nat, cf col = (f : Int) ∧ f < ns ∧ rk f < r ∧ (0 ≤ o' f ∧ o' f < k) ∧ huP k ns w u v o cf rc rk (rk f) f (hnd k ns col o' (f : Int)) := by
  obtain ⟨h1, h2, h3, h4, h5, h6, h7, h8, h9, h10, h11, h12⟩ := h
  rcases h11 with ⟨e1, e2⟩ | ⟨f, e1, e2, e3, e4, e5, e6⟩
  · refine Or.inl ⟨e1, ?_⟩
    unfold hnd
    rw [if_pos rfl]
    by_cases hc : col < ns
    · rw [if_pos hc]
      refine ⟨h1, h2, h3, by rw [up_n (by omega)]; exact h4, fun c hc2 hm => ?_, fun c hc2 hm => ?_, fun c e hc2 he2 hm heq => ?_, fun b hb => ?_⟩
      · by_cases e : c = col
        · subst e; rw [up_s] at hm; omega
        · rw [up_n e] at hm; exact h5 c hc2 e hm
      · by_cases e : c = col
        · subst e; exact ⟨k, by omega, up_s, e2⟩
        · rw [up_n e] at hm ⊢
          obtain ⟨b, b1, b2, b3⟩ := h6 c hc2 e hm
          exact ⟨b, by omega, b2, b3⟩
      · by_cases ec : c = col
        · by_cases ee : e = col
          · omega
          · rw [ec, up_s, up_n ee] at heq
            obtain ⟨b, b1, b2, b3⟩ := h6 e he2 ee (by omega)
            omega
        · by_cases ee : e = col
          · rw [ee, up_s, up_n ec] at heq
            obtain ⟨b, b1, b2, b3⟩ := h6 c hc2 ec (by omega)
            omega
          · rw [up_n ec] at hm heq
            rw [up_n ee] at heq
            exact h7 c e hc2 he2 ec ee hm heq
      · rcases Nat.lt_or_ge b k with z | z
        · rcases h8 b z with ⟨c, c1, c2, c3⟩ | y
          · exact Or.inl ⟨c, c1, by rw [up_n c2]; exact c3⟩
          · exact Or.inr y
        · have : b = k := by omega
          subst this
          exact Or.inl ⟨col, hc, up_s⟩
    · rw [if_neg hc]
      have e : col = ns := by omega
      refine ⟨h1, h2, h3, h4, fun c hc2 hm => h5 c hc2 (by omega) hm, fun c hc2 hm => ?_, fun c e hc2 he2 hm heq => h7 c e hc2 he2 (by omega) (by omega) hm heq, fun b hb => ?_⟩
      · obtain ⟨b, b1, b2, b3⟩ := h6 c hc2 (by omega) hm
        exact ⟨b, by omega, b2, b3⟩
      · rcases Nat.lt_or_ge b k with z | z
        · rcases h8 b z with ⟨c, c1, c2, c3⟩ | y
          · exact Or.inl ⟨c, c1, c3⟩
          · exact Or.inr y
        · have : b = k := by omega
          subst this
          right
          rw [e, h3] at e2; omega
  · obtain ⟨y1, y2, y3⟩ := h12 f e2 e3 e4
    obtain ⟨bf, f1, f2, f3⟩ := h6 f e2 e5 (by rw [y1]; exact y2)
    have f4 : (o' f).toNat = bf := by rw [f2]; rfl
    rw [f4] at e6
    refine Or.inr ⟨f, e1, e2, e4, by omega, ?_⟩
    have hu : ∀ c, c ≠ col → hnd k ns col o' (f : Int) c = o' c := by
      intro c hc
      unfold hnd
      split
      · exact up_n hc
      · rfl
    have hcu : col < ns → hnd k ns col o' (f : Int) col = (bf : Int) := by
      intro hc
      unfold hnd
      rw [if_pos hc, up_s, if_neg (by omega), Int.toNat_natCast]; exact f2
    refine ⟨h1, h2, h3, ?_, fun c hc hne hm => ?_, fun c hc hne hm => ?_, fun c e hc he hnc hne hm heq => ?_, fun b hb => ?_, by omega, fun _ => Nat.le_refl _, ?_, fun c hc hrc hlt => ?_⟩
    · by_cases e : ns = col
      · unfold hnd; rw [if_neg (by omega)]; exact h4
      · rw [hu ns e]; exact h4
    · by_cases e : c = col
      · rw [e, hcu (by omega)] at hm; omega
      · rw [hu c e] at hm; exact h5 c hc e hm
    · by_cases e : c = col
      · subst e; exact ⟨bf, f1, hcu hc, e6⟩
      · rw [hu c e] at hm ⊢; exact h6 c hc e hm
    · by_cases ec : c = col
      · by_cases ee : e = col
        · omega
        · rw [ec, hcu (by omega), hu e ee] at heq
          have := h7 f e e2 he e5 ee (by omega) (by omega)
          exact absurd this.symm hne
      · by_cases ee : e = col
        · rw [ee, hcu (by omega), hu c ec] at heq
          have := h7 c f hc e2 ec e5 (by omega) (by omega)
          exact absurd this hnc
        · rw [hu c ec] at hm heq
          rw [hu e ee] at heq
          exact h7 c e hc he ec ee hm heq
    · rcases h8 b hb with ⟨c, c1, c2, c3⟩ | y
      · by_cases e : c = f
        · subst e
          have hbb : b = bf := by omega
          subst hbb
          by_cases hcol : col < ns
          · exact Or.inl ⟨col, hcol, fun e => e5 e.symm, hcu hcol⟩
          · have : col = ns := by omega
            right; rw [this, h3] at e6; omega
        · exact Or.inl ⟨c, c1, e, by rw [hu c c2]; exact c3⟩
      · exact Or.inr y
    · rcases y3 with ⟨z1, z2⟩ | ⟨f', z1, z2, z3, z4, z5⟩
      · exact Or.inl ⟨z1, z2⟩
      · have hf'c : f' ≠ col := fun e => by
          subst e
          have := h10 z3
          omega
        obtain ⟨x1, x2, x3⟩ := h12 f' z2 z3 (by omega)
        refine Or.inr ⟨f', z1, z2, z3, z4, fun e => by subst e; omega, ?_⟩
        rw [hu f' hf'c, x1]; exact z5
    · have hcc : c ≠ col := fun e => by
        subst e
        have := h10 hrc
        omega
      obtain ⟨x1, x2, x3⟩ := h12 c hc hrc (by omega)
      exact ⟨by rw [hu c hcc]; exact x1, x2, x3⟩
end
section
/-! ===== the layer's rows ===== -/
def LM (M : pMem) (u v o sl cf rc : Nat → Int) : pMem := wrL (wrL (wrL (wrI (wrI (wrI M 11 o) 13 cf) 14 rc) 9 u) 10 v) 12 sl
section PLM
variable {M : pMem} {u v o sl cf rc : Nat → Int}
theorem LM_u (j : Nat) : mL (LM M u v o sl cf rc) 9 j = u j := rfl
theorem LM_stu (j : Nat) (x : Int) : stL (LM M u v o sl cf rc) 9 j x = LM M (up u j x) v o sl cf rc := by
  rw [stL_w]
  have e1 : up (mL (LM M u v o sl cf rc) 9) j x = up u j x := by funext i; simp only [up]; split <;> first | rfl | simp_all
  rw [e1]
  unfold LM wrL wrI
  simp only [Prod.mk.injEq, and_true, true_and]
  first | (funext b i; (repeat' split) <;> simp_all) | (refine ⟨?_, ?_⟩ <;> (funext b i; (repeat' split) <;> simp_all))
theorem LM_v (j : Nat) : mL (LM M u v o sl cf rc) 10 j = v j := rfl
theorem LM_stv (j : Nat) (x : Int) : stL (LM M u v o sl cf rc) 10 j x = LM M u (up v j x) o sl cf rc := by
  rw [stL_w]
  have e1 : up (mL (LM M u v o sl cf rc) 10) j x = up v j x := by funext i; simp only [up]; split <;> first | rfl | simp_all
  rw [e1]
  unfold LM wrL wrI
  simp only [Prod.mk.injEq, and_true, true_and]
  first | (funext b i; (repeat' split) <;> simp_all) | (refine ⟨?_, ?_⟩ <;> (funext b i; (repeat' split) <;> simp_all))
theorem LM_o (j : Nat) : mI (LM M u v o sl cf rc) 11 j = o j := rfl
theorem LM_sto (j : Nat) (x : Int) : stI (LM M u v o sl cf rc) 11 j x = LM M u v (up o j x) sl cf rc := by
  rw [stI_w]
  have e1 : up (mI (LM M u v o sl cf rc) 11) j x = up o j x := by funext i; simp only [up]; split <;> first | rfl | simp_all
  rw [e1]
  unfold LM wrL wrI
  simp only [Prod.mk.injEq, and_true, true_and]
  first | (funext b i; (repeat' split) <;> simp_all) | (refine ⟨?_, ?_⟩ <;> (funext b i; (repeat' split) <;> simp_all))
theorem LM_sl (j : Nat) : mL (LM M u v o sl cf rc) 12 j = sl j := rfl
theorem LM_stsl (j : Nat) (x : Int) : stL (LM M u v o sl cf rc) 12 j x = LM M u v o (up sl j x) cf rc := by
  rw [stL_w]
  have e1 : up (mL (LM M u v o sl cf rc) 12) j x = up sl j x := by funext i; simp only [up]; split <;> first | rfl | simp_all
  rw [e1]
  unfold LM wrL wrI
  simp only [Prod.mk.injEq, and_true, true_and]
  first | (funext b i; (repeat' split) <;> simp_all) | (refine ⟨?_, ?_⟩ <;> (funext b i; (repeat' split) <;> simp_all))
theorem LM_cf (j : Nat) : mI (LM M u v o sl cf rc) 13 j = cf j := rfl
theorem LM_stcf (j : Nat) (x : Int) : stI (LM M u v o sl cf rc) 13 j x = LM M u v o sl (up cf j x) rc := by
  rw [stI_w]
  have e1 : up (mI (LM M u v o sl cf rc) 13) j x = up cf j x := by funext i; simp only [up]; split <;> first | rfl | simp_all
  rw [e1]
  unfold LM wrL wrI
  simp only [Prod.mk.injEq, and_true, true_and]
  first | (funext b i; (repeat' split) <;> simp_all) | (refine ⟨?_, ?_⟩ <;> (funext b i; (repeat' split) <;> simp_all))
theorem LM_rc (j : Nat) : mI (LM M u v o sl cf rc) 14 j = rc j := rfl
theorem LM_strc (j : Nat) (x : Int) : stI (LM M u v o sl cf rc) 14 j x = LM M u v o sl cf (up rc j x) := by
  rw [stI_w]
  have e1 : up (mI (LM M u v o sl cf rc) 14) j x = up rc j x := by funext i; simp only [up]; split <;> first | rfl | simp_all
  rw [e1]
  unfold LM wrL wrI
  simp only [Prod.mk.injEq, and_true, true_and]
  first | (funext b i; (repeat' split) <;> simp_all) | (refine ⟨?_, ?_⟩ <;> (funext b i; (repeat' split) <;> simp_all))
theorem LM_I {a : Nat} (j : Nat) (h : a ≠ 11 ∧ a ≠ 13 ∧ a ≠ 14) : mI (LM M u v o sl cf rc) a j = mI M a j := by
  show (if a = 14 then rc j else if a = 13 then cf j else if a = 11 then o j else M.1 a j) = M.1 a j
  rw [if_neg h.2.2, if_neg h.2.1, if_neg h.1]
theorem LM_L {a : Nat} (j : Nat) (h : a ≠ 9 ∧ a ≠ 10 ∧ a ≠ 12) : mL (LM M u v o sl cf rc) a j = mL M a j := by
  show (if a = 12 then sl j else if a = 10 then v j else if a = 9 then u j else M.2.1 a j) = M.2.1 a j
  rw [if_neg h.2.2, if_neg h.2.1, if_neg h.1]
theorem LM_e : M = LM M (mL M 9) (mL M 10) (mI M 11) (mL M 12) (mI M 13) (mI M 14) := by
  unfold LM
  have h1 : ∀ (N : pMem) (a : Nat) (f : Nat → Int), f = mI N a → wrI N a f = N := fun N a f h => by rw [h]; exact wrI_e N a
  have h2 : ∀ (N : pMem) (a : Nat) (f : Nat → Int), f = mL N a → wrL N a f = N := fun N a f h => by rw [h]; exact wrL_e N a
  rw [h1 M 11 _ rfl, h1 M 13 _ rfl, h1 M 14 _ rfl, h2 M 9 _ rfl, h2 M 10 _ rfl, h2 M 12 _ rfl]
end PLM
theorem hu_rng {k ns : Nat} {w : Nat → Nat → Int} {u v o : Nat → Int} {B : Int} (h : huI k ns w u v o) (hB : ∀ b c, b ≤ k → c ≤ ns → -B ≤ w b c) (hBB : ∀ b c, b ≤ k → c ≤ ns → w b c ≤ B) :
    (∀ b, b < k → -B ≤ u b ∧ u b ≤ B) ∧ ∀ c, c ≤ ns → v c ≤ 0 ∧ (0 ≤ B → -(2 * B) ≤ v c) := by
  obtain ⟨i1, i2, i3, i4, i5, i6, i7, i8⟩ := id h
  have hv : ∀ c, c ≤ ns → v c ≤ 0 := fun c hc => by
    rcases Nat.lt_or_ge c ns with z | z
    · exact i2 c z
    · have : c = ns := by omega
      rw [this, i3]; omega
  have hu : ∀ b, b < k → -B ≤ u b ∧ u b ≤ B := by
    intro b hb
    have h1 := i1 b ns hb (Nat.le_refl _)
    have h2 := hBB b ns (by omega) (Nat.le_refl _)
    refine ⟨?_, by omega⟩
    rcases i8 b hb with ⟨c, c1, c2⟩ | z
    · obtain ⟨b', b1, b2, b3, b4⟩ := huI_o h c1 (by omega)
      have : b' = b := by omega
      subst this
      have := hB b' c (by omega) (by omega)
      have := hv c (by omega)
      omega
    · have := hB b ns (by omega) (Nat.le_refl _)
      omega
  refine ⟨hu, fun c hc => ⟨hv c hc, fun h0 => ?_⟩⟩
  rcases Nat.lt_or_ge c ns with z | z
  · by_cases ho : o c = -1
    · rw [i5 c z ho]; omega
    · obtain ⟨b, b1, b2, b3, b4⟩ := huI_o h z ho
      have := hB b c (by omega) hc
      have := (hu b b1).2
      omega
  · have : c = ns := by omega
    rw [this, i3]; omega
theorem c_reach {g : pG} {M : pMem} {u v o sl cf rc : Nat → Int} {w : Nat → Nat → Int} {frm : Int} {k : Nat} (hW : pW M) {ns : Nat} (hns : mI M 4 6 = (ns : Int)) (hn16 : ns ≤ 16) (hk : k < 8) (hw : ∀ c, c ≤ ns → mL M 8 (k * 17 + c) = w k c) (hrc : ∀ c, c ≤ ns → rc c = 0 ∨ rc c = 1) (hrn : rc ns = 0)
    (hr1 : ∀ c, c ≤ ns → -4000000000000000000 ≤ w k c - u k - v c ∧ w k c - u k - v c ≤ 4000000000000000000) (hr2 : ∀ c, c ≤ ns → rc c = 0 → -4000000000000000000 ≤ sl c ∧ sl c ≤ 4000000000000000000) :
    pCn g 1 0 0 yX1_reach cX1_reach 7 (some .int) SH SH (LM M u v o sl cf rc) [.inr (.inr 4), .inl (k : Int), .inl frm] (fun r M' => ∃ (q : Nat) (sl' cf' : Nat → Int), r = some (.inl (q : Int)) ∧ M' = LM M u v o sl' cf' rc ∧ rchd ns w u v sl cf rc sl' cf' k frm q) := by
  refine pCn_intro mt_X1_reach (fun X C => ?_)
  have loop : ∀ s : Nat × Int × (Nat → Int) × (Nat → Int) × Nat × Option pV × Option pV, (s.1 ≤ ns + 1 ∧ s.2.1 = (s.1 : Int) - 1 ∧ (∀ c, c ≤ ns → c < s.1 → s.2.2.1 c = sl c ∧ s.2.2.2.1 c = cf c) ∧ (∀ c, c ≤ ns → s.1 ≤ c → (rc c = 1 → s.2.2.1 c = sl c ∧ s.2.2.2.1 c = cf c) ∧ (rc c = 0 → (w k c - u k - v c < sl c ∧ s.2.2.1 c = w k c - u k - v c ∧ s.2.2.2.1 c = frm) ∨ (sl c ≤ w k c - u k - v c ∧ s.2.2.1 c = sl c ∧ s.2.2.2.1 c = cf c))) ∧
      s.2.2.2.2.1 ≤ ns ∧ rc s.2.2.2.2.1 = 0 ∧ (s.2.2.2.2.1 = ns ∨ s.1 ≤ s.2.2.2.2.1) ∧ (∀ c, c ≤ ns → s.1 ≤ c → rc c = 0 → s.2.2.1 s.2.2.2.2.1 ≤ s.2.2.1 c)) →
      pE g 7 X (pMQ g SH (fun r M' => ∃ (q : Nat) (sl' cf' : Nat → Int), r = some (.inl (q : Int)) ∧ M' = LM M u v o sl' cf' rc ∧ rchd ns w u v sl cf rc sl' cf' k frm q) X 0 0) SH (LM M u v o s.2.2.1 s.2.2.2.1 rc) 0 0 11 [some (.inr (.inr 4)), some (.inl (k : Int)), some (.inl frm), some (.inl (s.2.2.2.2.1 : Int)), some (.inl s.2.1), s.2.2.2.2.2.1, s.2.2.2.2.2.2] [] := by
    refine p_loop _ _ (fun s => s.1) ?_
    rintro ⟨n1, z1, s1, f1, q1, x1, x2⟩ ⟨a1, a2, a3, a4, a5, a6, a7, a8⟩ ih
    dsimp only at a1 a2 a3 a4 a5 a6 a7 a8 ih ⊢
    rcases Nat.eq_zero_or_pos n1 with e0 | e0
    · subst e0
      refine e_iload C dX1_reach_11 rfl ?_
      refine e_if_lt C (tgt := 111) dX1_reach_13 (by decide) (by omega) (fun h_13 => ?_) (fun h_13 => by exfalso; omega)
      refine e_iload_n C dX1_reach_111 rfl ?_
      exact e_ireturn C dX1_reach_112 ⟨q1, s1, f1, rfl, rfl, fun c hc h => (a4 c hc (Nat.zero_le _)).1 h, fun c hc h => (a4 c hc (Nat.zero_le _)).2 h, a5, a6, fun c hc h => a8 c hc (Nat.zero_le _) h⟩
    · obtain ⟨n2, rfl⟩ : ∃ n2, n1 = n2 + 1 := ⟨n1 - 1, by omega⟩
      have ez : z1 = (n2 : Int) := by omega
      subst ez
      have hr1n := hr1 n2 (by omega)
      obtain ⟨a31, a32⟩ := a3 n2 (by omega) (by omega)
      have hsq : -4000000000000000000 ≤ s1 q1 ∧ s1 q1 ≤ 4000000000000000000 := by
        rcases Nat.lt_or_ge q1 (n2 + 1) with z | z
        · rw [(a3 q1 a5 z).1]; exact hr2 q1 a5 a6
        · rcases (a4 q1 a5 z).2 a6 with y | y
          · rw [y.2.1]; exact hr1 q1 a5
          · rw [y.2.1]; exact hr2 q1 a5 a6
      rcases hrc n2 (by omega) with hc0 | hc1
      rotate_left
      · refine e_iload C dX1_reach_11 rfl ?_
        refine e_if_lt C (tgt := 111) dX1_reach_13 (by decide) (by omega) (fun h_13 => by exfalso; omega) (fun h_13 => ?_)
        refine e_aload_n C dX1_reach_16 rfl ?_
        refine e_getR C f_X1_70 sh_4 (hW 4 18 14 rfl) dX1_reach_17 ?_
        refine e_iload C dX1_reach_20 rfl ?_
        refine e_baload C dX1_reach_22 sh_14 _ rfl (by omega) ?_
        rw [LM_rc, hc1]
        refine e_if_ne C (tgt := 105) dX1_reach_23 (by decide) (by omega) (fun h_23 => ?_) (fun h_23 => by exact absurd (by decide) h_23)
        refine e_iinc C dX1_reach_105 rfl ?_
        refine e_goto C (tgt := 11) dX1_reach_108 (by decide) ?_
        exact ih (n2, (n2 : Int) + -1, s1, f1, q1, x1, x2) ⟨by omega, by dsimp only; omega, fun c hc h => a3 c hc (by omega), fun c hc h => by
          rcases Nat.lt_or_ge n2 c with z | z
          · exact a4 c hc z
          · have e : c = n2 := by dsimp only at h; omega
            subst e
            exact ⟨fun _ => ⟨a31, a32⟩, fun z => absurd hc1 (by omega)⟩, a5, a6, by
          rcases a7 with z | z
          · exact Or.inl z
          · exact Or.inr (by dsimp only; omega), fun c hc h h0 => by
          rcases Nat.lt_or_ge n2 c with z | z
          · exact a8 c hc z h0
          · have e : c = n2 := by dsimp only at h; omega
            subst e; omega⟩ (by dsimp only; omega)
      · refine e_iload C dX1_reach_11 rfl ?_
        refine e_if_lt C (tgt := 111) dX1_reach_13 (by decide) (by omega) (fun h_13 => by exfalso; omega) (fun h_13 => ?_)
        refine e_aload_n C dX1_reach_16 rfl ?_
        refine e_getR C f_X1_70 sh_4 (hW 4 18 14 rfl) dX1_reach_17 ?_
        refine e_iload C dX1_reach_20 rfl ?_
        refine e_baload C dX1_reach_22 sh_14 _ rfl (by omega) ?_
        rw [LM_rc, hc0]
        have hr2n := hr2 n2 (by omega) hc0
        refine e_if_ne C (tgt := 105) dX1_reach_23 (by decide) (by omega) (fun h_23 => by exact absurd rfl h_23) (fun h_23 => ?_)
        refine e_aload_n C dX1_reach_26 rfl ?_
        refine e_getR C f_X1_52 sh_4 (hW 4 12 8 rfl) dX1_reach_27 ?_
        refine e_iload_n C dX1_reach_30 rfl ?_
        refine e_bipush C dX1_reach_31 ?_
        refine e_imul C dX1_reach_33 ?_
        refine e_iload C dX1_reach_34 rfl ?_
        refine e_iadd C dX1_reach_36 ?_
        refine e_laload C dX1_reach_37 sh_8 (k * 17 + n2) (by omega) (by omega) ?_
        rw [LM_L _ (by decide), hw n2 (by omega)]
        refine e_aload_n C dX1_reach_38 rfl ?_
        refine e_getR C f_X1_55 sh_4 (hW 4 13 9 rfl) dX1_reach_39 ?_
        refine e_iload_n C dX1_reach_42 rfl ?_
        refine e_laload C dX1_reach_43 sh_9 _ rfl (by omega) ?_
        rw [LM_u]
        refine e_lsub C dX1_reach_44 ?_
        refine e_aload_n C dX1_reach_45 rfl ?_
        refine e_getR C f_X1_58 sh_4 (hW 4 14 10 rfl) dX1_reach_46 ?_
        refine e_iload C dX1_reach_49 rfl ?_
        refine e_laload C dX1_reach_51 sh_10 _ rfl (by omega) ?_
        rw [LM_v]
        refine e_lsub C dX1_reach_52 ?_
        refine e_lstore C dX1_reach_53 ?_
        refine e_lload C dX1_reach_55 rfl ?_
        refine e_aload_n C dX1_reach_57 rfl ?_
        refine e_getR C f_X1_64 sh_4 (hW 4 16 12 rfl) dX1_reach_58 ?_
        refine e_iload C dX1_reach_61 rfl ?_
        refine e_laload C dX1_reach_63 sh_12 _ rfl (by omega) ?_
        rw [LM_sl, a31]
        refine e_lcmp C dX1_reach_64 (by omega) (by omega) ?_
        by_cases hlt : w k n2 - u k - v n2 < sl n2
        · rw [if_neg (by omega), if_neg (by omega)]
          refine e_if_ge C (tgt := 85) dX1_reach_65 (by decide) (by omega) (fun h => absurd h (by decide)) (fun _ => ?_)
          refine e_aload_n C dX1_reach_68 rfl ?_
          refine e_getR C f_X1_64 sh_4 (hW 4 16 12 rfl) dX1_reach_69 ?_
          refine e_iload C dX1_reach_72 rfl ?_
          refine e_lload C dX1_reach_74 rfl ?_
          refine e_lastore C dX1_reach_76 sh_12 _ rfl (by omega) ?_
          rw [LM_stsl]
          refine e_aload_n C dX1_reach_77 rfl ?_
          refine e_getR C f_X1_67 sh_4 (hW 4 17 13 rfl) dX1_reach_78 ?_
          refine e_iload C dX1_reach_81 rfl ?_
          refine e_iload_n C dX1_reach_83 rfl ?_
          refine e_iastore C dX1_reach_84 sh_13 _ rfl (by omega) ?_
          rw [LM_stcf]
          refine e_aload_n C dX1_reach_85 rfl ?_
          refine e_getR C f_X1_64 sh_4 (hW 4 16 12 rfl) dX1_reach_86 ?_
          refine e_iload C dX1_reach_89 rfl ?_
          refine e_laload C dX1_reach_91 sh_12 _ rfl (by omega) ?_
          rw [LM_sl, up_s]
          refine e_aload_n C dX1_reach_92 rfl ?_
          refine e_getR C f_X1_64 sh_4 (hW 4 16 12 rfl) dX1_reach_93 ?_
          refine e_iload_n C dX1_reach_96 rfl ?_
          refine e_laload C dX1_reach_97 sh_12 q1 rfl (by omega) ?_
          rw [LM_sl]
          have hq2 : -4000000000000000000 ≤ up s1 n2 (w k n2 - u k - v n2) q1 ∧ up s1 n2 (w k n2 - u k - v n2) q1 ≤ 4000000000000000000 := by
            by_cases e : q1 = n2
            · rw [e, up_s]; exact hr1n
            · rw [up_n e]; exact hsq
          refine e_lcmp C dX1_reach_98 (by omega) (by omega) ?_
          by_cases hlt2 : w k n2 - u k - v n2 < up s1 n2 (w k n2 - u k - v n2) q1
          · rw [if_neg (by omega), if_neg (by omega)]
            have hq1 : q1 ≠ n2 := fun e => by rw [e, up_s] at hlt2; omega
            rw [up_n hq1] at hlt2
            refine e_if_ge C (tgt := 105) dX1_reach_99 (by decide) (by omega) (fun h => absurd h (by decide)) (fun _ => ?_)
            refine e_iload C dX1_reach_102 rfl ?_
            refine e_istore_n C dX1_reach_104 ?_
            refine e_iinc C dX1_reach_105 rfl ?_
            refine e_goto C (tgt := 11) dX1_reach_108 (by decide) ?_
            exact ih (n2, (n2 : Int) + -1, (up s1 n2 (w k n2 - u k - v n2)), (up f1 n2 frm), n2, _, _) ⟨by omega, by dsimp only; omega, fun c hc h => by
              have hne : c ≠ n2 := by dsimp only at h; omega
              dsimp only
              rw [up_n hne, up_n hne]; exact a3 c hc (by omega), fun c hc h => by
              dsimp only
              rcases Nat.lt_or_ge n2 c with z | z
              · rw [up_n (by omega), up_n (by omega)]; exact a4 c hc z
              · have e : c = n2 := by dsimp only at h; omega
                subst e
                exact ⟨fun z => absurd hc0 (by omega), fun _ => Or.inl ⟨hlt, up_s, up_s⟩⟩, by dsimp only; omega, hc0, Or.inr (Nat.le_refl _), fun c hc h h0 => by
              dsimp only at h ⊢
              rcases Nat.lt_or_ge n2 c with z | z
              · have := a8 c hc z h0
                rw [up_s, up_n (by omega)]; omega
              · have e : c = n2 := by omega
                subst e; omega⟩ (by dsimp only; omega)
          · have hle : up s1 n2 (w k n2 - u k - v n2) q1 ≤ up s1 n2 (w k n2 - u k - v n2) n2 := by rw [up_s]; omega
            refine e_if_ge C (tgt := 105) dX1_reach_99 (by decide) (by (repeat' split) <;> omega) (fun _ => ?_) (fun h => by (repeat' split at h) <;> omega)
            refine e_iinc C dX1_reach_105 rfl ?_
            refine e_goto C (tgt := 11) dX1_reach_108 (by decide) ?_
            exact ih (n2, (n2 : Int) + -1, (up s1 n2 (w k n2 - u k - v n2)), (up f1 n2 frm), q1, _, _) ⟨by omega, by dsimp only; omega, fun c hc h => by
              have hne : c ≠ n2 := by dsimp only at h; omega
              dsimp only
              rw [up_n hne, up_n hne]; exact a3 c hc (by omega), fun c hc h => by
              dsimp only
              rcases Nat.lt_or_ge n2 c with z | z
              · rw [up_n (by omega), up_n (by omega)]; exact a4 c hc z
              · have e : c = n2 := by dsimp only at h; omega
                subst e
                exact ⟨fun z => absurd hc0 (by omega), fun _ => Or.inl ⟨hlt, up_s, up_s⟩⟩, a5, a6, by
              rcases a7 with z | z
              · exact Or.inl z
              · exact Or.inr (by dsimp only; omega), fun c hc h h0 => by
              dsimp only at h ⊢
              rcases Nat.lt_or_ge n2 c with z | z
              · have hq1 : q1 ≠ n2 := by rcases a7 with y | y <;> omega
                have := a8 c hc z h0
                rw [up_n hq1, up_n (by omega)]; omega
              · have e : c = n2 := by omega
                subst e; exact hle⟩ (by dsimp only; omega)
        · have hge : sl n2 ≤ w k n2 - u k - v n2 := by omega
          refine e_if_ge C (tgt := 85) dX1_reach_65 (by decide) (by (repeat' split) <;> omega) (fun _ => ?_) (fun h => by (repeat' split at h) <;> omega)
          refine e_aload_n C dX1_reach_85 rfl ?_
          refine e_getR C f_X1_64 sh_4 (hW 4 16 12 rfl) dX1_reach_86 ?_
          refine e_iload C dX1_reach_89 rfl ?_
          refine e_laload C dX1_reach_91 sh_12 _ rfl (by omega) ?_
          rw [LM_sl, a31]
          refine e_aload_n C dX1_reach_92 rfl ?_
          refine e_getR C f_X1_64 sh_4 (hW 4 16 12 rfl) dX1_reach_93 ?_
          refine e_iload_n C dX1_reach_96 rfl ?_
          refine e_laload C dX1_reach_97 sh_12 q1 rfl (by omega) ?_
          rw [LM_sl]
          refine e_lcmp C dX1_reach_98 (by omega) (by omega) ?_
          by_cases hlt2 : sl n2 < s1 q1
          · rw [if_neg (by omega), if_neg (by omega)]
            refine e_if_ge C (tgt := 105) dX1_reach_99 (by decide) (by omega) (fun h => absurd h (by decide)) (fun _ => ?_)
            refine e_iload C dX1_reach_102 rfl ?_
            refine e_istore_n C dX1_reach_104 ?_
            refine e_iinc C dX1_reach_105 rfl ?_
            refine e_goto C (tgt := 11) dX1_reach_108 (by decide) ?_
            exact ih (n2, (n2 : Int) + -1, s1, f1, n2, _, _) ⟨by omega, by dsimp only; omega, fun c hc h => by
              have hne : c ≠ n2 := by dsimp only at h; omega
              dsimp only
              exact a3 c hc (by omega), fun c hc h => by
              dsimp only
              rcases Nat.lt_or_ge n2 c with z | z
              · exact a4 c hc z
              · have e : c = n2 := by dsimp only at h; omega
                subst e
                exact ⟨fun z => absurd hc0 (by omega), fun _ => Or.inr ⟨hge, a31, a32⟩⟩, by dsimp only; omega, hc0, Or.inr (Nat.le_refl _), fun c hc h h0 => by
              dsimp only at h ⊢
              rcases Nat.lt_or_ge n2 c with z | z
              · have := a8 c hc z h0
                omega
              · have e : c = n2 := by omega
                subst e; omega⟩ (by dsimp only; omega)
          · have hle : s1 q1 ≤ s1 n2 := by rw [a31]; omega
            refine e_if_ge C (tgt := 105) dX1_reach_99 (by decide) (by (repeat' split) <;> omega) (fun _ => ?_) (fun h => by (repeat' split at h) <;> omega)
            refine e_iinc C dX1_reach_105 rfl ?_
            refine e_goto C (tgt := 11) dX1_reach_108 (by decide) ?_
            exact ih (n2, (n2 : Int) + -1, s1, f1, q1, _, _) ⟨by omega, by dsimp only; omega, fun c hc h => by
              have hne : c ≠ n2 := by dsimp only at h; omega
              dsimp only
              exact a3 c hc (by omega), fun c hc h => by
              dsimp only
              rcases Nat.lt_or_ge n2 c with z | z
              · exact a4 c hc z
              · have e : c = n2 := by dsimp only at h; omega
                subst e
                exact ⟨fun z => absurd hc0 (by omega), fun _ => Or.inr ⟨hge, a31, a32⟩⟩, a5, a6, by
              rcases a7 with z | z
              · exact Or.inl z
              · exact Or.inr (by dsimp only; omega), fun c hc h h0 => by
              dsimp only at h ⊢
              rcases Nat.lt_or_ge n2 c with z | z
              · have hq1 : q1 ≠ n2 := by rcases a7 with y | y <;> omega
                have := a8 c hc z h0
                omega
              · have e : c = n2 := by omega
                subst e; exact hle⟩ (by dsimp only; omega)
  show pE g 7 X _ SH (LM M u v o sl cf rc) 0 0 0 [some (.inr (.inr 4)), some (.inl (k : Int)), some (.inl frm), none, none, none, none] []
  refine e_aload_n C dX1_reach_0 rfl ?_
  refine e_getI C f_X1_30 sh_4 dX1_reach_1 ?_
  rw [LM_I _ (by decide), hns]
  refine e_istore_n C dX1_reach_4 ?_
  refine e_aload_n C dX1_reach_5 rfl ?_
  refine e_getI C f_X1_30 sh_4 dX1_reach_6 ?_
  rw [LM_I _ (by decide), hns]
  refine e_istore C dX1_reach_9 ?_
  exact loop (ns + 1, (ns : Int), sl, cf, ns, none, none) ⟨Nat.le_refl _, by dsimp only; omega, fun c hc h => ⟨rfl, rfl⟩, fun c hc h => by dsimp only at h; omega, Nat.le_refl _, hrn, Or.inl rfl, fun c hc h => by dsimp only at h; omega⟩
end
section
def rsI (k ns : Nat) (u v o sl rc : Nat → Int) (x : Int) (n : Nat) (u1 v1 s1 : Nat → Int) : Prop :=
  u1 k = u k + x ∧ (∀ c, c < ns → c < n → rc c = 1 → u1 (o c).toNat = u (o c).toNat + x) ∧ (∀ b, b ≠ k → (∀ c, c < ns → c < n → rc c = 1 → (o c).toNat ≠ b) → u1 b = u b) ∧
  (∀ c, c ≤ ns → c < n → (rc c = 1 → v1 c = v c - x ∧ s1 c = sl c) ∧ (rc c = 0 → v1 c = v c ∧ s1 c = sl c - x)) ∧ (∀ c, c ≤ ns → n ≤ c → v1 c = v c ∧ s1 c = sl c)
theorem rsI_0 {k ns n : Nat} {u v o sl rc u1 v1 s1 : Nat → Int} {x : Int} (h : rsI k ns u v o sl rc x n u1 v1 s1) (hn : n ≤ ns) (h0 : rc n = 0) : rsI k ns u v o sl rc x (n + 1) u1 v1 (up s1 n (s1 n - x)) := by
  obtain ⟨h1, h2, h3, h4, h5⟩ := h
  have ne : ∀ c, rc c = 1 → c ≠ n := fun c hc e => by rw [e] at hc; omega
  refine ⟨h1, fun c hc hl hr => h2 c hc (by have := ne c hr; omega) hr, fun b hb hh => h3 b hb (fun c hc hl hr => hh c hc (by omega) hr), fun c hc hl => ?_, fun c hc hl => ?_⟩
  · by_cases e : c = n
    · subst e
      obtain ⟨e1, e2⟩ := h5 c hc (Nat.le_refl _)
      exact ⟨fun z => by omega, fun _ => ⟨e1, by rw [up_s, e2]⟩⟩
    · rw [up_n e]; exact h4 c hc (by omega)
  · rw [up_n (by omega)]; exact h5 c hc (by omega)
theorem rsI_1 {k ns n : Nat} {u v o sl rc u1 v1 s1 : Nat → Int} {x : Int} (h : rsI k ns u v o sl rc x n u1 v1 s1) (hn : n < ns) (h0 : rc n = 1) (ho : ∀ c, c < ns → rc c = 1 → ∃ b : Nat, b < k ∧ o c = (b : Int)) (hi : ∀ c e, c < ns → e < ns → rc c = 1 → rc e = 1 → o c = o e → c = e) :
    rsI k ns u v o sl rc x (n + 1) (up u1 (o n).toNat (u1 (o n).toNat + x)) (up v1 n (v1 n - x)) s1 := by
  obtain ⟨h1, h2, h3, h4, h5⟩ := h
  obtain ⟨b, b1, b2⟩ := ho n hn h0
  have eb : (o n).toNat = b := by rw [b2]; rfl
  have hub : u1 b = u b := h3 b (by omega) (fun c hc hl hr e => by
    obtain ⟨b', c1, c2⟩ := ho c hc hr
    have : (o c).toNat = b' := by rw [c2]; rfl
    have := hi c n hc hn hr h0 (by omega)
    omega)
  refine ⟨?_, fun c hc hl hr => ?_, fun e he hh => ?_, fun c hc hl => ?_, fun c hc hl => ?_⟩
  · rw [up_n (by omega)]; exact h1
  · by_cases e : c = n
    · subst e; rw [up_s, eb, hub]
    · have hne : (o c).toNat ≠ (o n).toNat := fun q => by
        obtain ⟨b', c1, c2⟩ := ho c hc hr
        have : (o c).toNat = b' := by rw [c2]; rfl
        exact e (hi c n hc hn hr h0 (by omega))
      rw [up_n hne]; exact h2 c hc (by omega) hr
  · have hne : e ≠ (o n).toNat := fun q => hh n hn (by omega) h0 q.symm
    rw [up_n hne]; exact h3 e he (fun c hc hl hr => hh c hc (by omega) hr)
  · by_cases e : c = n
    · subst e
      obtain ⟨e1, e2⟩ := h5 c hc (Nat.le_refl _)
      exact ⟨fun _ => ⟨by rw [up_s, e1], e2⟩, fun z => by omega⟩
    · rw [up_n e]; exact h4 c hc (by omega)
  · rw [up_n (by omega)]; exact h5 c hc (by omega)
theorem c_raise {g : pG} {M : pMem} {u v o sl cf rc : Nat → Int} {x : Int} {k : Nat} (hW : pW M) {ns : Nat} (hns : mI M 4 6 = (ns : Int)) (hn16 : ns ≤ 16) (hk : k < 8) (hrc : ∀ c, c ≤ ns → rc c = 0 ∨ rc c = 1) (hrn : rc ns = 0) (ho : ∀ c, c < ns → rc c = 1 → ∃ b : Nat, b < k ∧ o c = (b : Int)) (hi : ∀ c e, c < ns → e < ns → rc c = 1 → rc e = 1 → o c = o e → c = e) :
    pCn g 1 0 0 yX1_raisePrices cX1_raisePrices 5 none SH SH (LM M u v o sl cf rc) [.inr (.inr 4), .inl (k : Int), .inr (.inl x)] (fun r M' => ∃ u' v' sl' : Nat → Int, r = none ∧ M' = LM M u' v' o sl' cf rc ∧ rsd k ns u v o sl rc u' v' sl' x ∧ ∀ b, k < b → u' b = u b) := by
  refine pCn_intro mt_X1_raisePrices (fun X C => ?_)
  have loop : ∀ (i : Nat) (s : (Nat → Int) × (Nat → Int) × (Nat → Int)), i ≤ ns + 1 → rsI k ns u v o sl rc x i s.1 s.2.1 s.2.2 → pE g 5 X (pMQ g SH (fun r M' => ∃ u' v' sl' : Nat → Int, r = none ∧ M' = LM M u' v' o sl' cf rc ∧ rsd k ns u v o sl rc u' v' sl' x ∧ ∀ b, k < b → u' b = u b) X 0 0) SH (LM M s.1 s.2.1 o s.2.2 cf rc) 0 0 13 [some (.inr (.inr 4)), some (.inl (k : Int)), some (.inr (.inl x)), none, some (.inl (i : Int))] [] := by
    refine p_for (ns + 1) _ _ ?_ ?_
    · rintro ⟨u1, v1, s1⟩ hI
      dsimp only at hI ⊢
      refine e_iload C dX1_raisePrices_13 rfl ?_
      refine e_aload_n C dX1_raisePrices_15 rfl ?_
      refine e_getI C f_X1_30 sh_4 dX1_raisePrices_16 ?_
      rw [LM_I _ (by decide), hns]
      refine e_icmp_gt C (tgt := 90) dX1_raisePrices_19 (by decide) (by omega) (by omega) (fun h_19 => ?_) (fun h_19 => by exfalso; omega)
      exact e_return C dX1_raisePrices_90 ⟨u1, v1, s1, rfl, rfl, ⟨hI.1, fun c hc hr => hI.2.1 c hc (by omega) hr, fun b hb hh => hI.2.2.1 b (by omega) (fun c hc _ hr => hh c hc hr), fun c hc hr => (hI.2.2.2.1 c hc (by omega)).1 hr, fun c hc hr => (hI.2.2.2.1 c hc (by omega)).2 hr⟩, fun b hb => hI.2.2.1 b (by omega) (fun c hc _ hr e => by obtain ⟨b', c1, c2⟩ := ho c hc hr; rw [c2] at e; simp at e; omega)⟩
    · rintro i ⟨u1, v1, s1⟩ hi1 hI ih
      dsimp only at hI ⊢
      rcases hrc i (by omega) with h0 | h1
      · refine e_iload C dX1_raisePrices_13 rfl ?_
        refine e_aload_n C dX1_raisePrices_15 rfl ?_
        refine e_getI C f_X1_30 sh_4 dX1_raisePrices_16 ?_
        rw [LM_I _ (by decide), hns]
        refine e_icmp_gt C (tgt := 90) dX1_raisePrices_19 (by decide) (by omega) (by omega) (fun h_19 => by exfalso; omega) (fun h_19 => ?_)
        refine e_aload_n C dX1_raisePrices_22 rfl ?_
        refine e_getR C f_X1_70 sh_4 (hW 4 18 14 rfl) dX1_raisePrices_23 ?_
        refine e_iload C dX1_raisePrices_26 rfl ?_
        refine e_baload C dX1_raisePrices_28 sh_14 _ rfl (by omega) ?_
        rw [LM_rc, h0]
        refine e_if_eq C (tgt := 73) dX1_raisePrices_29 (by decide) (by omega) (fun h_29 => ?_) (fun h_29 => by exact absurd rfl h_29)
        refine e_aload_n C dX1_raisePrices_73 rfl ?_
        refine e_getR C f_X1_64 sh_4 (hW 4 16 12 rfl) dX1_raisePrices_74 ?_
        refine e_iload C dX1_raisePrices_77 rfl ?_
        refine e_dup2 C dX1_raisePrices_79 ?_
        refine e_laload C dX1_raisePrices_80 sh_12 _ rfl (by omega) ?_
        rw [LM_sl]
        refine e_lload_n C dX1_raisePrices_81 rfl ?_
        refine e_lsub C dX1_raisePrices_82 ?_
        refine e_lastore C dX1_raisePrices_83 sh_12 _ rfl (by omega) ?_
        rw [LM_stsl]
        refine e_iinc C dX1_raisePrices_84 rfl ?_
        refine e_goto C (tgt := 13) dX1_raisePrices_87 (by decide) ?_
        exact ih (u1, v1, up s1 i (s1 i - x)) (rsI_0 hI (by omega) h0)
      · have hin : i < ns := by
          rcases Nat.lt_or_ge i ns with z | z
          · exact z
          · have : i = ns := by omega
            rw [this] at h1; omega
        obtain ⟨b, b1, b2⟩ := ho i hin h1
        have eb : (o i).toNat = b := by rw [b2]; rfl
        have hst := rsI_1 hI hin h1 ho hi
        rw [eb] at hst
        refine e_iload C dX1_raisePrices_13 rfl ?_
        refine e_aload_n C dX1_raisePrices_15 rfl ?_
        refine e_getI C f_X1_30 sh_4 dX1_raisePrices_16 ?_
        rw [LM_I _ (by decide), hns]
        refine e_icmp_gt C (tgt := 90) dX1_raisePrices_19 (by decide) (by omega) (by omega) (fun h_19 => by exfalso; omega) (fun h_19 => ?_)
        refine e_aload_n C dX1_raisePrices_22 rfl ?_
        refine e_getR C f_X1_70 sh_4 (hW 4 18 14 rfl) dX1_raisePrices_23 ?_
        refine e_iload C dX1_raisePrices_26 rfl ?_
        refine e_baload C dX1_raisePrices_28 sh_14 _ rfl (by omega) ?_
        rw [LM_rc, h1]
        refine e_if_eq C (tgt := 73) dX1_raisePrices_29 (by decide) (by omega) (fun h_29 => by exact absurd h_29 (by decide)) (fun h_29 => ?_)
        refine e_aload_n C dX1_raisePrices_32 rfl ?_
        refine e_getR C f_X1_61 sh_4 (hW 4 15 11 rfl) dX1_raisePrices_33 ?_
        refine e_iload C dX1_raisePrices_36 rfl ?_
        refine e_iaload C dX1_raisePrices_38 sh_11 _ rfl (by omega) ?_
        rw [LM_o, b2]
        refine e_iconst C dX1_raisePrices_39 ?_
        refine e_icmp_eq C (tgt := 73) dX1_raisePrices_40 (by decide) (by omega) (by omega) (fun h_40 => by exfalso; omega) (fun h_40 => ?_)
        refine e_aload_n C dX1_raisePrices_43 rfl ?_
        refine e_getR C f_X1_55 sh_4 (hW 4 13 9 rfl) dX1_raisePrices_44 ?_
        refine e_aload_n C dX1_raisePrices_47 rfl ?_
        refine e_getR C f_X1_61 sh_4 (hW 4 15 11 rfl) dX1_raisePrices_48 ?_
        refine e_iload C dX1_raisePrices_51 rfl ?_
        refine e_iaload C dX1_raisePrices_53 sh_11 _ rfl (by omega) ?_
        rw [LM_o, b2]
        refine e_dup2 C dX1_raisePrices_54 ?_
        refine e_laload C dX1_raisePrices_55 sh_9 _ rfl (by omega) ?_
        rw [LM_u]
        refine e_lload_n C dX1_raisePrices_56 rfl ?_
        refine e_ladd C dX1_raisePrices_57 ?_
        refine e_lastore C dX1_raisePrices_58 sh_9 _ rfl (by omega) ?_
        rw [LM_stu]
        refine e_aload_n C dX1_raisePrices_59 rfl ?_
        refine e_getR C f_X1_58 sh_4 (hW 4 14 10 rfl) dX1_raisePrices_60 ?_
        refine e_iload C dX1_raisePrices_63 rfl ?_
        refine e_dup2 C dX1_raisePrices_65 ?_
        refine e_laload C dX1_raisePrices_66 sh_10 _ rfl (by omega) ?_
        rw [LM_v]
        refine e_lload_n C dX1_raisePrices_67 rfl ?_
        refine e_lsub C dX1_raisePrices_68 ?_
        refine e_lastore C dX1_raisePrices_69 sh_10 _ rfl (by omega) ?_
        rw [LM_stv]
        refine e_goto C (tgt := 84) dX1_raisePrices_70 (by decide) ?_
        refine e_iinc C dX1_raisePrices_84 rfl ?_
        refine e_goto C (tgt := 13) dX1_raisePrices_87 (by decide) ?_
        exact ih (up u1 b (u1 b + x), up v1 i (v1 i - x), s1) hst
  show pE g 5 X _ SH (LM M u v o sl cf rc) 0 0 0 [some (.inr (.inr 4)), some (.inl (k : Int)), some (.inr (.inl x)), none, none] []
  refine e_aload_n C dX1_raisePrices_0 rfl ?_
  refine e_getR C f_X1_55 sh_4 (hW 4 13 9 rfl) dX1_raisePrices_1 ?_
  refine e_iload_n C dX1_raisePrices_4 rfl ?_
  refine e_dup2 C dX1_raisePrices_5 ?_
  refine e_laload C dX1_raisePrices_6 sh_9 _ rfl (by omega) ?_
  rw [LM_u]
  refine e_lload_n C dX1_raisePrices_7 rfl ?_
  refine e_ladd C dX1_raisePrices_8 ?_
  refine e_lastore C dX1_raisePrices_9 sh_9 _ rfl (by omega) ?_
  rw [LM_stu]
  refine e_iconst C dX1_raisePrices_10 ?_
  refine e_istore C dX1_raisePrices_11 ?_
  exact loop 0 (up u k (u k + x), v, sl) (by omega) ⟨up_s, fun c _ h => absurd h (Nat.not_lt_zero c), fun b hb _ => up_n hb, fun c _ h => absurd h (Nat.not_lt_zero c), fun c _ _ => ⟨rfl, rfl⟩⟩
theorem c_handOn {g : pG} {M : pMem} {u v o sl cf rc : Nat → Int} {w : Nat → Nat → Int} {rk : Nat → Nat} {t q : Nat} {k : Nat} (hW : pW M) {ns : Nat} (hns : mI M 4 6 = (ns : Int)) (hn16 : ns ≤ 16) (hk : k < 8) (hP : huP k ns w u v o cf rc rk t q o) (ht : t ≤ ns) :
    pCn g 1 0 0 yX1_handOn cX1_handOn 6 none SH SH (LM M u v o sl cf rc) [.inr (.inr 4), .inl (k : Int), .inl (q : Int)] (fun r M' => ∃ o' : Nat → Int, r = none ∧ M' = LM M u v o' sl cf rc ∧ huI (k + 1) ns w u v o') := by
  refine pCn_intro mt_X1_handOn (fun X C => ?_)
  have loop : ∀ s : Nat × Int × (Nat → Int) × Option pV, ((s.2.1 = -1 ∧ s.1 ≤ ns + 1 ∧ huI (k + 1) ns w u v s.2.2.1) ∨ ∃ c r : Nat, s.2.1 = (c : Int) ∧ huP k ns w u v o cf rc rk r c s.2.2.1 ∧ r + s.1 ≤ t) → pE g 6 X (pMQ g SH (fun r M' => ∃ o' : Nat → Int, r = none ∧ M' = LM M u v o' sl cf rc ∧ huI (k + 1) ns w u v o') X 0 0) SH (LM M u v s.2.2.1 sl cf rc) 0 0 5 [some (.inr (.inr 4)), some (.inl (k : Int)), some (.inl (q : Int)), some (.inl s.2.1), some (.inl (s.1 : Int)), s.2.2.2] [] := by
    refine p_loop _ _ (fun s => ns + 2 - s.1) ?_
    rintro ⟨sp, cz, o1, x5⟩ hI ih
    dsimp only at hI ih ⊢
    rcases hI with ⟨e1, e2, e3⟩ | ⟨c, r, e1, e2, e3⟩
    · subst e1
      refine e_iload C dX1_handOn_5 rfl ?_
      refine e_aload_n C dX1_handOn_7 rfl ?_
      refine e_getI C f_X1_30 sh_4 dX1_handOn_8 ?_
      rw [LM_I _ (by decide), hns]
      refine e_icmp_gt C (tgt := 67) dX1_handOn_11 (by decide) (by omega) (by omega) (fun h_11 => ?_) (fun h_11 => ?_)
      · exact e_return C dX1_handOn_67 ⟨o1, rfl, rfl, e3⟩
      · refine e_iload_n C dX1_handOn_14 rfl ?_
        refine e_iconst C dX1_handOn_15 ?_
        refine e_icmp_eq C (tgt := 67) dX1_handOn_16 (by decide) (by omega) (by omega) (fun h_16 => ?_) (fun h_16 => by exfalso; omega)
        exact e_return C dX1_handOn_67 ⟨o1, rfl, rfl, e3⟩
    · subst e1
      have hcn : c ≤ ns := e2.2.2.2.2.2.2.2.2.1
      rcases huP_step e2 with ⟨f1, f2⟩ | ⟨f, f1, f2, f3, f4, f5⟩
      · rcases Nat.lt_or_ge c ns with hlt | hge
        · refine e_iload C dX1_handOn_5 rfl ?_
          refine e_aload_n C dX1_handOn_7 rfl ?_
          refine e_getI C f_X1_30 sh_4 dX1_handOn_8 ?_
          rw [LM_I _ (by decide), hns]
          refine e_icmp_gt C (tgt := 67) dX1_handOn_11 (by decide) (by omega) (by omega) (fun h_11 => by exfalso; omega) (fun h_11 => ?_)
          refine e_iload_n C dX1_handOn_14 rfl ?_
          refine e_iconst C dX1_handOn_15 ?_
          refine e_icmp_eq C (tgt := 67) dX1_handOn_16 (by decide) (by omega) (by omega) (fun h_16 => by exfalso; omega) (fun h_16 => ?_)
          refine e_aload_n C dX1_handOn_19 rfl ?_
          refine e_getR C f_X1_67 sh_4 (hW 4 17 13 rfl) dX1_handOn_20 ?_
          refine e_iload_n C dX1_handOn_23 rfl ?_
          refine e_iaload C dX1_handOn_24 sh_13 _ rfl (by omega) ?_
          rw [LM_cf, f1]
          refine e_istore C dX1_handOn_25 ?_
          refine e_iload_n C dX1_handOn_27 rfl ?_
          refine e_aload_n C dX1_handOn_28 rfl ?_
          refine e_getI C f_X1_30 sh_4 dX1_handOn_29 ?_
          rw [LM_I _ (by decide), hns]
          refine e_icmp_ge C (tgt := 58) dX1_handOn_32 (by decide) (by omega) (by omega) (fun h_32 => by exfalso; omega) (fun h_32 => ?_)
          refine e_aload_n C dX1_handOn_35 rfl ?_
          refine e_getR C f_X1_61 sh_4 (hW 4 15 11 rfl) dX1_handOn_36 ?_
          refine e_iload_n C dX1_handOn_39 rfl ?_
          refine e_iload C dX1_handOn_40 rfl ?_
          refine e_iconst C dX1_handOn_42 ?_
          refine e_icmp_ne C (tgt := 50) dX1_handOn_43 (by decide) (by omega) (by omega) (fun h_43 => by exfalso; omega) (fun h_43 => ?_)
          refine e_iload_n C dX1_handOn_46 rfl ?_
          refine e_goto C (tgt := 57) dX1_handOn_47 (by decide) ?_
          refine e_iastore C dX1_handOn_57 sh_11 _ rfl (by omega) ?_
          rw [LM_sto]
          refine e_iload C dX1_handOn_58 rfl ?_
          refine e_istore_n C dX1_handOn_60 ?_
          refine e_iinc C dX1_handOn_61 rfl ?_
          refine e_goto C (tgt := 5) dX1_handOn_64 (by decide) ?_
          refine ih (sp + 1, -1, up o1 c (k : Int), _) (Or.inl ⟨rfl, by dsimp only; omega, ?_⟩) (by dsimp only; omega)
          have e5 : hnd k ns c o1 (-1) = up o1 c (k : Int) := by unfold hnd; rw [if_pos hlt, if_pos rfl]
          rw [e5] at f2; exact f2
        · refine e_iload C dX1_handOn_5 rfl ?_
          refine e_aload_n C dX1_handOn_7 rfl ?_
          refine e_getI C f_X1_30 sh_4 dX1_handOn_8 ?_
          rw [LM_I _ (by decide), hns]
          refine e_icmp_gt C (tgt := 67) dX1_handOn_11 (by decide) (by omega) (by omega) (fun h_11 => by exfalso; omega) (fun h_11 => ?_)
          refine e_iload_n C dX1_handOn_14 rfl ?_
          refine e_iconst C dX1_handOn_15 ?_
          refine e_icmp_eq C (tgt := 67) dX1_handOn_16 (by decide) (by omega) (by omega) (fun h_16 => by exfalso; omega) (fun h_16 => ?_)
          refine e_aload_n C dX1_handOn_19 rfl ?_
          refine e_getR C f_X1_67 sh_4 (hW 4 17 13 rfl) dX1_handOn_20 ?_
          refine e_iload_n C dX1_handOn_23 rfl ?_
          refine e_iaload C dX1_handOn_24 sh_13 _ rfl (by omega) ?_
          rw [LM_cf, f1]
          refine e_istore C dX1_handOn_25 ?_
          refine e_iload_n C dX1_handOn_27 rfl ?_
          refine e_aload_n C dX1_handOn_28 rfl ?_
          refine e_getI C f_X1_30 sh_4 dX1_handOn_29 ?_
          rw [LM_I _ (by decide), hns]
          refine e_icmp_ge C (tgt := 58) dX1_handOn_32 (by decide) (by omega) (by omega) (fun h_32 => ?_) (fun h_32 => by exfalso; omega)
          refine e_iload C dX1_handOn_58 rfl ?_
          refine e_istore_n C dX1_handOn_60 ?_
          refine e_iinc C dX1_handOn_61 rfl ?_
          refine e_goto C (tgt := 5) dX1_handOn_64 (by decide) ?_
          refine ih (sp + 1, -1, o1, _) (Or.inl ⟨rfl, by dsimp only; omega, ?_⟩) (by dsimp only; omega)
          have e5 : hnd k ns c o1 (-1) = o1 := by unfold hnd; rw [if_neg (by omega)]
          rw [e5] at f2; exact f2
      · rcases Nat.lt_or_ge c ns with hlt | hge
        · refine e_iload C dX1_handOn_5 rfl ?_
          refine e_aload_n C dX1_handOn_7 rfl ?_
          refine e_getI C f_X1_30 sh_4 dX1_handOn_8 ?_
          rw [LM_I _ (by decide), hns]
          refine e_icmp_gt C (tgt := 67) dX1_handOn_11 (by decide) (by omega) (by omega) (fun h_11 => by exfalso; omega) (fun h_11 => ?_)
          refine e_iload_n C dX1_handOn_14 rfl ?_
          refine e_iconst C dX1_handOn_15 ?_
          refine e_icmp_eq C (tgt := 67) dX1_handOn_16 (by decide) (by omega) (by omega) (fun h_16 => by exfalso; omega) (fun h_16 => ?_)
          refine e_aload_n C dX1_handOn_19 rfl ?_
          refine e_getR C f_X1_67 sh_4 (hW 4 17 13 rfl) dX1_handOn_20 ?_
          refine e_iload_n C dX1_handOn_23 rfl ?_
          refine e_iaload C dX1_handOn_24 sh_13 _ rfl (by omega) ?_
          rw [LM_cf, f1]
          refine e_istore C dX1_handOn_25 ?_
          refine e_iload_n C dX1_handOn_27 rfl ?_
          refine e_aload_n C dX1_handOn_28 rfl ?_
          refine e_getI C f_X1_30 sh_4 dX1_handOn_29 ?_
          rw [LM_I _ (by decide), hns]
          refine e_icmp_ge C (tgt := 58) dX1_handOn_32 (by decide) (by omega) (by omega) (fun h_32 => by exfalso; omega) (fun h_32 => ?_)
          refine e_aload_n C dX1_handOn_35 rfl ?_
          refine e_getR C f_X1_61 sh_4 (hW 4 15 11 rfl) dX1_handOn_36 ?_
          refine e_iload_n C dX1_handOn_39 rfl ?_
          refine e_iload C dX1_handOn_40 rfl ?_
          refine e_iconst C dX1_handOn_42 ?_
          refine e_icmp_ne C (tgt := 50) dX1_handOn_43 (by decide) (by omega) (by omega) (fun h_43 => ?_) (fun h_43 => by exfalso; omega)
          refine e_aload_n C dX1_handOn_50 rfl ?_
          refine e_getR C f_X1_61 sh_4 (hW 4 15 11 rfl) dX1_handOn_51 ?_
          refine e_iload C dX1_handOn_54 rfl ?_
          refine e_iaload C dX1_handOn_56 sh_11 _ rfl (by omega) ?_
          rw [LM_o]
          refine e_iastore C dX1_handOn_57 sh_11 _ rfl (by omega) ?_
          rw [LM_sto]
          refine e_iload C dX1_handOn_58 rfl ?_
          refine e_istore_n C dX1_handOn_60 ?_
          refine e_iinc C dX1_handOn_61 rfl ?_
          refine e_goto C (tgt := 5) dX1_handOn_64 (by decide) ?_
          refine ih (sp + 1, (f : Int), up o1 c (o1 f), _) (Or.inr ⟨f, rk f, rfl, ?_, by dsimp only; omega⟩) (by dsimp only; omega)
          have e5 : hnd k ns c o1 (f : Int) = up o1 c (o1 f) := by unfold hnd; rw [if_pos hlt, if_neg (by omega), Int.toNat_natCast]
          rw [e5] at f5; exact f5
        · refine e_iload C dX1_handOn_5 rfl ?_
          refine e_aload_n C dX1_handOn_7 rfl ?_
          refine e_getI C f_X1_30 sh_4 dX1_handOn_8 ?_
          rw [LM_I _ (by decide), hns]
          refine e_icmp_gt C (tgt := 67) dX1_handOn_11 (by decide) (by omega) (by omega) (fun h_11 => by exfalso; omega) (fun h_11 => ?_)
          refine e_iload_n C dX1_handOn_14 rfl ?_
          refine e_iconst C dX1_handOn_15 ?_
          refine e_icmp_eq C (tgt := 67) dX1_handOn_16 (by decide) (by omega) (by omega) (fun h_16 => by exfalso; omega) (fun h_16 => ?_)
          refine e_aload_n C dX1_handOn_19 rfl ?_
          refine e_getR C f_X1_67 sh_4 (hW 4 17 13 rfl) dX1_handOn_20 ?_
          refine e_iload_n C dX1_handOn_23 rfl ?_
          refine e_iaload C dX1_handOn_24 sh_13 _ rfl (by omega) ?_
          rw [LM_cf, f1]
          refine e_istore C dX1_handOn_25 ?_
          refine e_iload_n C dX1_handOn_27 rfl ?_
          refine e_aload_n C dX1_handOn_28 rfl ?_
          refine e_getI C f_X1_30 sh_4 dX1_handOn_29 ?_
          rw [LM_I _ (by decide), hns]
          refine e_icmp_ge C (tgt := 58) dX1_handOn_32 (by decide) (by omega) (by omega) (fun h_32 => ?_) (fun h_32 => by exfalso; omega)
          refine e_iload C dX1_handOn_58 rfl ?_
          refine e_istore_n C dX1_handOn_60 ?_
          refine e_iinc C dX1_handOn_61 rfl ?_
          refine e_goto C (tgt := 5) dX1_handOn_64 (by decide) ?_
          refine ih (sp + 1, (f : Int), o1, _) (Or.inr ⟨f, rk f, rfl, ?_, by dsimp only; omega⟩) (by dsimp only; omega)
          have e5 : hnd k ns c o1 (f : Int) = o1 := by unfold hnd; rw [if_neg (by omega)]
          rw [e5] at f5; exact f5
  show pE g 6 X _ SH (LM M u v o sl cf rc) 0 0 0 [some (.inr (.inr 4)), some (.inl (k : Int)), some (.inl (q : Int)), none, none, none] []
  refine e_iload_n C dX1_handOn_0 rfl ?_
  refine e_istore_n C dX1_handOn_1 ?_
  refine e_iconst C dX1_handOn_2 ?_
  refine e_istore C dX1_handOn_3 ?_
  exact loop (0, (q : Int), o, none) (Or.inr ⟨q, t, rfl, hP, by dsimp only; omega⟩)
end
section
theorem huS_rng {k ns t : Nat} {w : Nat → Nat → Int} {u v o sl cf rc : Nat → Int} {frm : Int} {rk : Nat → Nat} {D B : Int} (hB : ∀ b c, b ≤ k → c ≤ ns → -B ≤ w b c) (hBB : ∀ b c, b ≤ k → c ≤ ns → w b c ≤ B) (hB0 : 0 ≤ B ∧ 4 * B < 1152921504606846976) (h : huS k ns t w u v o sl cf rc frm rk D B) :
    mvr k o frm ≤ k ∧ (∀ c, c ≤ ns → -4000000000000000000 ≤ w (mvr k o frm) c - u (mvr k o frm) - v c ∧ w (mvr k o frm) c - u (mvr k o frm) - v c ≤ 4000000000000000000) ∧ (∀ c, c ≤ ns → rc c = 0 → -4000000000000000000 ≤ sl c ∧ sl c ≤ 4000000000000000000) := by
  obtain ⟨hI, hR, hL, hD⟩ := h
  obtain ⟨g1, g2⟩ := hu_rng hI hB hBB
  have huk : -B ≤ u k ∧ u k ≤ B := by
    rcases hL with ⟨_, _, e2, _⟩ | ⟨_, _, e4, e5⟩
    · omega
    · obtain ⟨y1, y2, -⟩ := e5 ns (Nat.le_refl _) hR.2.1
      have := hBB k ns (Nat.le_refl _) (Nat.le_refl _)
      have := hI.2.2.1
      omega
  have hm : mvr k o frm ≤ k ∧ -B ≤ u (mvr k o frm) ∧ u (mvr k o frm) ≤ B := by
    rcases hL with ⟨_, e1, _⟩ | ⟨_, ⟨f, e1, e2, e3⟩, _⟩
    · subst e1; exact ⟨Nat.le_refl _, huk⟩
    · obtain ⟨b, b1, b2, b3, b4⟩ := huI_o hI e2 (hR.2.2.1 f e2 e3)
      have e : mvr k o frm = b := by unfold mvr; rw [if_neg (by omega), e1, Int.toNat_natCast, b3]
      rw [e]; exact ⟨by omega, g1 b b1⟩
  refine ⟨hm.1, fun c hc => ?_, fun c hc h0 => ?_⟩
  · have := hB (mvr k o frm) c hm.1 hc
    have := hBB (mvr k o frm) c hm.1 hc
    have := g2 c hc
    have := this.2 hB0.1
    omega
  · rcases hL with ⟨_, _, _, e3⟩ | ⟨_, _, e4, e5⟩
    · rw [e3 c hc]; omega
    · obtain ⟨y1, y2, -⟩ := e5 c hc h0
      have := hBB k c (Nat.le_refl _) hc
      have := (g2 c hc).2 hB0.1
      omega
theorem c_insert {g : pG} {M : pMem} {u v o sl cf rc : Nat → Int} {w : Nat → Nat → Int} {B : Int} {k : Nat} (hW : pW M) {ns : Nat} (hns : mI M 4 6 = (ns : Int)) (hn16 : ns ≤ 16) (hk : k < 8) (hw : ∀ b c, b ≤ k → c ≤ ns → mL M 8 (b * 17 + c) = w b c)
    (hB : ∀ b c, b ≤ k → c ≤ ns → -B ≤ w b c) (hBB : ∀ b c, b ≤ k → c ≤ ns → w b c ≤ B) (hB0 : 0 ≤ B ∧ 4 * B < 1152921504606846976) (hI : huI k ns w u v o) (hu0 : u k = 0) :
    pCn g 2 0 0 yX1_insert cX1_insert 8 (some .long) SH SH (LM M u v o sl cf rc) [.inr (.inr 4), .inl (k : Int)] (fun r M' => ∃ (z : Int) (u' v' o' sl' cf' rc' : Nat → Int), r = some (.inr (.inl z)) ∧ M' = LM M u' v' o' sl' cf' rc' ∧ huI (k + 1) ns w u' v' o' ∧ sg u' (k + 1) + sg v' ns = sg u k + sg v ns + z ∧ ∀ b, k < b → u' b = u b) := by
  refine pCn_intro mt_X1_insert (fun X C => ?_)
  have loop : ∀ s : Nat × Int × Int × (Nat → Int) × (Nat → Int) × (Nat → Int) × (Nat → Int) × (Nat → Int) × Option pV,
      (s.1 ≤ ns ∧ (∃ rk : Nat → Nat, huS k ns s.1 w s.2.2.2.1 s.2.2.2.2.1 o s.2.2.2.2.2.1 s.2.2.2.2.2.2.1 s.2.2.2.2.2.2.2.1 s.2.2.1 rk (sg u k + sg v ns + s.2.1) B) ∧ ∀ b, k < b → s.2.2.2.1 b = u b) →
      pE g 8 X (pMQ g SH (fun r M' => ∃ (z : Int) (u' v' o' sl' cf' rc' : Nat → Int), r = some (.inr (.inl z)) ∧ M' = LM M u' v' o' sl' cf' rc' ∧ huI (k + 1) ns w u' v' o' ∧ sg u' (k + 1) + sg v' ns = sg u k + sg v ns + z ∧ ∀ b, k < b → u' b = u b) X 0 0) SH (LM M s.2.2.2.1 s.2.2.2.2.1 o s.2.2.2.2.2.1 s.2.2.2.2.2.2.1 s.2.2.2.2.2.2.2.1) 0 0 43 [some (.inr (.inr 4)), some (.inl (k : Int)), some (.inr (.inl s.2.1)), none, some (.inl s.2.2.1), some (.inl (mvr k o s.2.2.1 : Int)), some (.inl (s.1 : Int)), s.2.2.2.2.2.2.2.2] [] := by
    refine p_loop _ _ (fun s => ns + 1 - s.1) ?_
    rintro ⟨t, ad, frm, u1, v1, s1, f1, r1, x7⟩ ⟨ht, ⟨rk, hS⟩, hub⟩ ih
    dsimp only at ht hS hub ih ⊢
    obtain ⟨hm1, hm2, hm3⟩ := huS_rng hB hBB hB0 hS
    have hR := hS.2.1
    have hI1 := hS.1
    have hfr : -2147483648 ≤ frm ∧ frm < 2147483648 := by
      rcases hS.2.2.1 with ⟨_, e1, _⟩ | ⟨_, ⟨f, e1, e2, e3⟩, _⟩ <;> omega
    have hro : ∀ c, c < ns → r1 c = 1 → ∃ b : Nat, b < k ∧ o c = (b : Int) := fun c hc hr => by
      obtain ⟨b, b1, b2, -, -⟩ := huI_o hI1 hc (hR.2.2.1 c hc hr)
      exact ⟨b, b1, b2⟩
    refine e_iload C dX1_insert_43 rfl ?_
    refine e_aload_n C dX1_insert_45 rfl ?_
    refine e_getI C f_X1_30 sh_4 dX1_insert_46 ?_
    rw [LM_I _ (by decide), hns]
    refine e_icmp_gt C (tgt := 131) dX1_insert_49 (by decide) (by omega) (by omega) (fun h_49 => by exfalso; omega) (fun h_49 => ?_)
    refine e_aload_n C dX1_insert_52 rfl ?_
    refine e_iload C dX1_insert_53 rfl ?_
    refine e_iload C dX1_insert_55 rfl ?_
    refine e_callV C (c_reach (w := w) (k := mvr k o frm) (frm := frm) hW hns hn16 (by omega) (fun c hc => hw _ c hm1 hc) hR.1 hR.2.1 hm2 (fun c hc => hm3 c hc)) mt_X1_reach s_X1_144 dX1_insert_57 1 sh_4 rfl (fun r M1 hq => ?_)
    obtain ⟨q, s2, f2, rfl, rfl, hrd⟩ := hq
    dsimp only [Option.toList_some, List.singleton_append]
    have hq1 := hrd.2.2.1
    have hq2 := hrd.2.2.2.1
    refine e_istore C dX1_insert_60 ?_
    refine e_lload_n C dX1_insert_62 rfl ?_
    refine e_aload_n C dX1_insert_63 rfl ?_
    refine e_getR C f_X1_64 sh_4 (hW 4 16 12 rfl) dX1_insert_64 ?_
    refine e_iload C dX1_insert_67 rfl ?_
    refine e_laload C dX1_insert_69 sh_12 _ rfl (by omega) ?_
    rw [LM_sl]
    refine e_ladd C dX1_insert_70 ?_
    refine e_lstore_n C dX1_insert_71 ?_
    refine e_aload_n C dX1_insert_72 rfl ?_
    refine e_iload_n C dX1_insert_73 rfl ?_
    refine e_aload_n C dX1_insert_74 rfl ?_
    refine e_getR C f_X1_64 sh_4 (hW 4 16 12 rfl) dX1_insert_75 ?_
    refine e_iload C dX1_insert_78 rfl ?_
    refine e_laload C dX1_insert_80 sh_12 _ rfl (by omega) ?_
    rw [LM_sl]
    refine e_callV C (c_raise hW hns hn16 hk hR.1 hR.2.1 hro (fun c e hc he hr _ heq => hI1.2.2.2.2.2.2.1 c e hc he (hR.2.2.1 c hc hr) heq)) mt_X1_raisePrices s_X1_147 dX1_insert_81 1 sh_4 rfl (fun r3 M3 hq3 => ?_)
    obtain ⟨u3, v3, s3, rfl, rfl, hrs, hub3⟩ := hq3
    obtain ⟨hT, hpos⟩ := hu_step hB hBB hB0 hS hrd hrs
    have hoq : o q = -1 ∨ ∃ b : Nat, b < k ∧ o q = (b : Int) := by
      by_cases e : o q = -1
      · exact Or.inl e
      · right
        have hqn : q < ns := by
          rcases Nat.lt_or_ge q ns with z | z
          · exact z
          · have : q = ns := by omega
            rw [this] at e; exact absurd hI1.2.2.2.1 e
        obtain ⟨b, b1, b2, -, -⟩ := huI_o hI1 hqn e
        exact ⟨b, b1, b2⟩
    dsimp only [Option.toList_none, List.nil_append]
    refine e_aload_n C dX1_insert_84 rfl ?_
    refine e_getR C f_X1_61 sh_4 (hW 4 15 11 rfl) dX1_insert_85 ?_
    refine e_iload C dX1_insert_88 rfl ?_
    refine e_iaload C dX1_insert_90 sh_11 _ rfl (by omega) ?_
    rw [LM_o]
    refine e_iconst C dX1_insert_91 ?_
    refine e_icmp_ne C (tgt := 104) dX1_insert_92 (by decide) (by rcases hoq with z | ⟨b, b1, b2⟩ <;> omega) (by omega) (fun h_92 => ?_) (fun h_92 => ?_)
    · have hnx := hu_next hT h_92
      obtain ⟨b, b1, b2⟩ : ∃ b : Nat, b < k ∧ o q = (b : Int) := by
        rcases hoq with z | z
        · exact absurd z h_92
        · exact z
      refine e_aload_n C dX1_insert_104 rfl ?_
      refine e_getR C f_X1_70 sh_4 (hW 4 18 14 rfl) dX1_insert_105 ?_
      refine e_iload C dX1_insert_108 rfl ?_
      refine e_iconst C dX1_insert_110 ?_
      refine e_bastore C dX1_insert_111 sh_14 _ rfl (by omega) (Or.inr rfl) ?_
      rw [LM_strc]
      refine e_iload C dX1_insert_112 rfl ?_
      refine e_istore C dX1_insert_114 ?_
      refine e_aload_n C dX1_insert_116 rfl ?_
      refine e_getR C f_X1_61 sh_4 (hW 4 15 11 rfl) dX1_insert_117 ?_
      refine e_iload C dX1_insert_120 rfl ?_
      refine e_iaload C dX1_insert_122 sh_11 _ rfl (by omega) ?_
      rw [LM_o]
      refine e_istore C dX1_insert_123 ?_
      refine e_iinc C dX1_insert_125 rfl ?_
      refine e_goto C (tgt := 43) dX1_insert_128 (by decide) ?_
      have hmv : o q = (mvr k o (q : Int) : Int) := by unfold mvr; rw [if_neg (by omega), Int.toNat_natCast, b2]; rfl
      rw [hmv]
      refine ih (t + 1, ad + s2 q, (q : Int), u3, v3, s3, f2, up r1 q 1, _) ⟨?_, ⟨_, by rw [Int.add_assoc] at hnx; exact hnx⟩, fun b hb => (hub3 b hb).trans (hub b hb)⟩ (by dsimp only; omega)
      have h1 := sg_ub (f := up r1 q 1) (b := 1) (n := ns) (fun i hi => by rcases hnx.2.1.1 i (by omega) with z | z <;> omega)
      have h2 := hnx.2.1.2.2.2.1
      dsimp only; omega
    · refine e_aload_n C dX1_insert_95 rfl ?_
      refine e_iload_n C dX1_insert_96 rfl ?_
      refine e_iload C dX1_insert_97 rfl ?_
      obtain ⟨hP, htn⟩ := huP_start hT (by omega)
      refine e_callV C (c_handOn hW hns hn16 hk hP htn) mt_X1_handOn s_X1_151 dX1_insert_99 1 sh_4 rfl (fun r4 M4 hq4 => ?_)
      obtain ⟨o4, rfl, rfl, hI4⟩ := hq4
      dsimp only [Option.toList_none, List.nil_append]
      refine e_lload_n C dX1_insert_102 rfl ?_
      exact e_lreturn C dX1_insert_103 ⟨ad + s2 q, u3, v3, o4, s3, f2, r1, rfl, rfl, hI4, by have := hT.2.2.2.2.2.2.2; omega, fun b hb => (hub3 b hb).trans (hub b hb)⟩
  have clr : ∀ (i : Nat) (s : Unit), i ≤ ns + 1 → True → pE g 8 X (pMQ g SH (fun r M' => ∃ (z : Int) (u' v' o' sl' cf' rc' : Nat → Int), r = some (.inr (.inl z)) ∧ M' = LM M u' v' o' sl' cf' rc' ∧ huI (k + 1) ns w u' v' o' ∧ sg u' (k + 1) + sg v' ns = sg u k + sg v ns + z ∧ ∀ b, k < b → u' b = u b) X 0 0) SH (LM M u v o (fil sl 1152921504606846976 i) cf (fil rc 0 i)) 0 0 2 [some (.inr (.inr 4)), some (.inl (k : Int)), some (.inl (i : Int)), none, none, none, none, none] [] := by
    refine p_for (ns + 1) _ _ ?_ ?_
    · intro s _
      refine e_iload_n C dX1_insert_2 rfl ?_
      refine e_aload_n C dX1_insert_3 rfl ?_
      refine e_getI C f_X1_30 sh_4 dX1_insert_4 ?_
      rw [LM_I _ (by decide), hns]
      refine e_icmp_gt C (tgt := 32) dX1_insert_7 (by decide) (by omega) (by omega) (fun h_7 => ?_) (fun h_7 => by exfalso; omega)
      refine e_lconst C 0 dX1_insert_32 ?_
      refine e_lstore_n C dX1_insert_33 ?_
      refine e_iconst C dX1_insert_34 ?_
      refine e_istore C dX1_insert_35 ?_
      refine e_iload_n C dX1_insert_37 rfl ?_
      refine e_istore C dX1_insert_38 ?_
      refine e_iconst C dX1_insert_40 ?_
      refine e_istore C dX1_insert_41 ?_
      refine loop (0, 0, -1, u, v, fil sl 1152921504606846976 (ns + 1), cf, fil rc 0 (ns + 1), none) ⟨Nat.zero_le _, ⟨fun _ => 0, hI, ⟨fun c hc => Or.inl (fil_i (by omega)), fil_i (by omega), fun c hc h => ?_, ?_, fun c hc h => ?_, fun c hc h => ?_, fun c hc h => ?_⟩, Or.inl ⟨rfl, rfl, hu0, fun c hc => fil_i (by omega)⟩, ?_⟩, fun b _ => rfl⟩
      · dsimp only at h; rw [fil_i (by omega)] at h; omega
      · dsimp only
        rw [sg_congr (f := fil rc 0 (ns + 1)) (h := fun _ => 0) (fun c hc => fil_i (by omega))]
        have h2 := sg_ub (f := fun _ => (0 : Int)) (b := 0) (n := ns) (fun _ _ => Int.le_refl _)
        have h3 := sg_lb (f := fun _ => (0 : Int)) (b := 0) (n := ns) (fun _ _ => Int.le_refl _)
        omega
      · dsimp only at h; rw [fil_i (by omega)] at h; omega
      · dsimp only at h; rw [fil_i (by omega)] at h; omega
      · dsimp only at h; rw [fil_i (by omega)] at h; omega
      · dsimp only; simp only [sg]; omega
    · intro i s hi _ ih
      refine e_iload_n C dX1_insert_2 rfl ?_
      refine e_aload_n C dX1_insert_3 rfl ?_
      refine e_getI C f_X1_30 sh_4 dX1_insert_4 ?_
      rw [LM_I _ (by decide), hns]
      refine e_icmp_gt C (tgt := 32) dX1_insert_7 (by decide) (by omega) (by omega) (fun h_7 => by exfalso; omega) (fun h_7 => ?_)
      refine e_aload_n C dX1_insert_10 rfl ?_
      refine e_getR C f_X1_64 sh_4 (hW 4 16 12 rfl) dX1_insert_11 ?_
      refine e_iload_n C dX1_insert_14 rfl ?_
      refine e_ldc2 C (1152921504606846976) k_X1_89 dX1_insert_15 ?_
      refine e_lastore C dX1_insert_18 sh_12 _ rfl (by omega) ?_
      rw [LM_stsl, fil_s]
      refine e_aload_n C dX1_insert_19 rfl ?_
      refine e_getR C f_X1_70 sh_4 (hW 4 18 14 rfl) dX1_insert_20 ?_
      refine e_iload_n C dX1_insert_23 rfl ?_
      refine e_iconst C dX1_insert_24 ?_
      refine e_bastore C dX1_insert_25 sh_14 _ rfl (by omega) (Or.inl rfl) ?_
      rw [LM_strc, fil_s]
      refine e_iinc C dX1_insert_26 rfl ?_
      refine e_goto C (tgt := 2) dX1_insert_29 (by decide) ?_
      exact ih () trivial
  show pE g 8 X _ SH (LM M u v o sl cf rc) 0 0 0 [some (.inr (.inr 4)), some (.inl (k : Int)), none, none, none, none, none, none] []
  refine e_iconst C dX1_insert_0 ?_
  refine e_istore_n C dX1_insert_1 ?_
  have hz := clr 0 () (by omega) trivial
  rw [fil_0, fil_0] at hz
  exact hz
end
section
theorem bit_or (n j i : Nat) : (n ||| 2 ^ j).testBit i = (n.testBit i || decide (i = j)) := by
  rw [Nat.testBit_or]
  by_cases h : j = i
  · subst h; simp
  · have h2 : ¬ i = j := fun e => h e.symm
    simp [Nat.testBit_two_pow_of_ne h, h2]
theorem bit_1 (n j : Nat) : (n / 2 ^ j &&& 1 = 1) ↔ n.testBit j = true := by
  rw [Nat.and_one_is_mod, Nat.testBit_eq_decide_div_mod_eq]; simp
theorem bit_le (n j : Nat) : n / 2 ^ j &&& 1 ≤ 1 := Nat.and_le_right
theorem stI_st (M : pMem) (a i : Nat) (x z : Int) : stI (stI M a i x) a i z = stI M a i z := by
  unfold stI
  simp only [Prod.mk.injEq, and_true]
  funext b j
  split <;> simp_all
theorem stI_same (M : pMem) (a i : Nat) (x : Int) (h : mI M a i = x) : stI M a i x = M := by
  unfold stI
  have : (fun b j => if b = a ∧ j = i then x else M.1 b j) = M.1 := by
    funext b j
    split
    · next e => rw [e.1, e.2]; exact h.symm
    · rfl
  rw [this]
theorem c_clearPrices {g : pG} {M : pMem} {u v o sl cf rc : Nat → Int} (hW : pW M) {ns nb : Nat} (hns : mI M 4 6 = (ns : Int)) (hn16 : ns ≤ 16) (hnb : mI M 4 5 = (nb : Int)) (hn8 : nb ≤ 8) :
    pCn g 1 0 0 yX1_clearPrices cX1_clearPrices 2 none SH SH (LM M u v o sl cf rc) [.inr (.inr 4)] (fun r M' => r = none ∧ M' = LM M (fil u 0 nb) (fil v 0 (ns + 1)) (fil o (-1) (ns + 1)) sl cf rc) := by
  refine pCn_intro mt_X1_clearPrices (fun X C => ?_)
  have l2 : ∀ (i : Nat) (s : Unit), i ≤ ns + 1 → True → pE g 2 X (pMQ g SH (fun r M' => r = none ∧ M' = LM M (fil u 0 nb) (fil v 0 (ns + 1)) (fil o (-1) (ns + 1)) sl cf rc) X 0 0) SH (LM M (fil u 0 nb) (fil v 0 i) (fil o (-1) i) sl cf rc) 0 0 25 [some (.inr (.inr 4)), some (.inl (i : Int))] [] := by
    refine p_for (ns + 1) _ _ ?_ ?_
    · intro s _
      refine e_iload_n C dX1_clearPrices_25 rfl ?_
      refine e_aload_n C dX1_clearPrices_26 rfl ?_
      refine e_getI C f_X1_30 sh_4 dX1_clearPrices_27 ?_
      rw [LM_I _ (by decide), hns]
      refine e_icmp_gt C (tgt := 53) dX1_clearPrices_30 (by decide) (by omega) (by omega) (fun h_30 => ?_) (fun h_30 => by exfalso; omega)
      exact e_return C dX1_clearPrices_53 ⟨rfl, rfl⟩
    · intro i s hi _ ih
      refine e_iload_n C dX1_clearPrices_25 rfl ?_
      refine e_aload_n C dX1_clearPrices_26 rfl ?_
      refine e_getI C f_X1_30 sh_4 dX1_clearPrices_27 ?_
      rw [LM_I _ (by decide), hns]
      refine e_icmp_gt C (tgt := 53) dX1_clearPrices_30 (by decide) (by omega) (by omega) (fun h_30 => by exfalso; omega) (fun h_30 => ?_)
      refine e_aload_n C dX1_clearPrices_33 rfl ?_
      refine e_getR C f_X1_58 sh_4 (hW 4 14 10 rfl) dX1_clearPrices_34 ?_
      refine e_iload_n C dX1_clearPrices_37 rfl ?_
      refine e_lconst C 0 dX1_clearPrices_38 ?_
      refine e_lastore C dX1_clearPrices_39 sh_10 _ rfl (by omega) ?_
      rw [LM_stv, fil_s]
      refine e_aload_n C dX1_clearPrices_40 rfl ?_
      refine e_getR C f_X1_61 sh_4 (hW 4 15 11 rfl) dX1_clearPrices_41 ?_
      refine e_iload_n C dX1_clearPrices_44 rfl ?_
      refine e_iconst C dX1_clearPrices_45 ?_
      refine e_iastore C dX1_clearPrices_46 sh_11 _ rfl (by omega) ?_
      rw [LM_sto, fil_s]
      refine e_iinc C dX1_clearPrices_47 rfl ?_
      refine e_goto C (tgt := 25) dX1_clearPrices_50 (by decide) ?_
      exact ih () trivial
  have l1 : ∀ (i : Nat) (s : Unit), i ≤ nb → True → pE g 2 X (pMQ g SH (fun r M' => r = none ∧ M' = LM M (fil u 0 nb) (fil v 0 (ns + 1)) (fil o (-1) (ns + 1)) sl cf rc) X 0 0) SH (LM M (fil u 0 i) v o sl cf rc) 0 0 2 [some (.inr (.inr 4)), some (.inl (i : Int))] [] := by
    refine p_for nb _ _ ?_ ?_
    · intro s _
      refine e_iload_n C dX1_clearPrices_2 rfl ?_
      refine e_aload_n C dX1_clearPrices_3 rfl ?_
      refine e_getI C f_X1_27 sh_4 dX1_clearPrices_4 ?_
      rw [LM_I _ (by decide), hnb]
      refine e_icmp_ge C (tgt := 23) dX1_clearPrices_7 (by decide) (by omega) (by omega) (fun h_7 => ?_) (fun h_7 => by exfalso; omega)
      refine e_iconst C dX1_clearPrices_23 ?_
      refine e_istore_n C dX1_clearPrices_24 ?_
      have hz := l2 0 () (by omega) trivial
      rw [fil_0, fil_0] at hz
      exact hz
    · intro i s hi _ ih
      refine e_iload_n C dX1_clearPrices_2 rfl ?_
      refine e_aload_n C dX1_clearPrices_3 rfl ?_
      refine e_getI C f_X1_27 sh_4 dX1_clearPrices_4 ?_
      rw [LM_I _ (by decide), hnb]
      refine e_icmp_ge C (tgt := 23) dX1_clearPrices_7 (by decide) (by omega) (by omega) (fun h_7 => by exfalso; omega) (fun h_7 => ?_)
      refine e_aload_n C dX1_clearPrices_10 rfl ?_
      refine e_getR C f_X1_55 sh_4 (hW 4 13 9 rfl) dX1_clearPrices_11 ?_
      refine e_iload_n C dX1_clearPrices_14 rfl ?_
      refine e_lconst C 0 dX1_clearPrices_15 ?_
      refine e_lastore C dX1_clearPrices_16 sh_9 _ rfl (by omega) ?_
      rw [LM_stu, fil_s]
      refine e_iinc C dX1_clearPrices_17 rfl ?_
      refine e_goto C (tgt := 2) dX1_clearPrices_20 (by decide) ?_
      exact ih () trivial
  show pE g 2 X _ SH (LM M u v o sl cf rc) 0 0 0 [some (.inr (.inr 4)), none] []
  refine e_iconst C dX1_clearPrices_0 ?_
  refine e_istore_n C dX1_clearPrices_1 ?_
  have hz := l1 0 () (by omega) trivial
  rw [fil_0] at hz
  exact hz
def lwI (ns : Nat) (w : Nat → Nat → Int) (B : Int) (b : Nat) (z : Int) (T : Nat) (f : Int) (χ : Nat → Nat) : Prop :=
  (∀ a, a < b → χ a ≤ ns ∧ ∀ c, c ≤ ns → w a (χ a) ≤ w a c) ∧ z = sg (fun a => w a (χ a)) b ∧ T < 2 ^ 16 ∧ (∀ c, T.testBit c = true ↔ (c < ns ∧ ∃ a, a < b ∧ χ a = c)) ∧ (f = 0 ∨ f = 1) ∧ (f = 0 → vA b ns χ)
theorem lwI_end {ns nb : Nat} {w : Nat → Nat → Int} {B z f : Int} {T : Nat} {χ : Nat → Nat} (hB : ∀ b c, b < nb → c ≤ ns → -B ≤ w b c ∧ w b c ≤ B) (hn8 : nb ≤ 8) (hB0 : 0 ≤ B) (h : lwI ns w B nb z T f χ) : (∀ φ, vA nb ns φ → z ≤ sg (fun b => w b (φ b)) nb) ∧ (f = 0 → isMn nb ns w z) ∧ -(8 * B) ≤ z ∧ z ≤ 8 * B := by
  obtain ⟨h1, h2, h3, h4, h5, h6⟩ := h
  have hl : ∀ φ, vA nb ns φ → z ≤ sg (fun b => w b (φ b)) nb := fun φ hφ => by
    rw [h2]; exact sg_le (fun b hb => (h1 b hb).2 _ (hφ.1 b hb))
  have hu := sg_ub (f := fun a => w a (χ a)) (b := B) (n := nb) (fun i hi => (hB i _ hi (h1 i hi).1).2)
  have hd := sg_lb (f := fun a => w a (χ a)) (b := -B) (n := nb) (fun i hi => (hB i _ hi (h1 i hi).1).1)
  have e1 : (nb : Int) * B ≤ 8 * B := Int.mul_le_mul_of_nonneg_right (by omega) hB0
  have e2 : (nb : Int) * -B = -((nb : Int) * B) := Int.mul_neg _ _
  exact ⟨hl, fun e => ⟨⟨χ, h6 e, h2.symm⟩, hl⟩, by omega, by omega⟩
def upN (χ : Nat → Nat) (b d : Nat) : Nat → Nat := fun i => if i = b then d else χ i
theorem upN_s {χ : Nat → Nat} {b d : Nat} : upN χ b d b = d := by simp [upN]
theorem upN_n {χ : Nat → Nat} {b d i : Nat} (h : i ≠ b) : upN χ b d i = χ i := by simp [upN, h]
theorem lw_step {ns : Nat} {w : Nat → Nat → Int} {b d : Nat} {χ : Nat → Nat} {z : Int} (h1 : ∀ a, a < b → χ a ≤ ns ∧ ∀ c, c ≤ ns → w a (χ a) ≤ w a c) (h2 : z = sg (fun a => w a (χ a)) b) (hd : d ≤ ns) (hm : ∀ e, e ≤ ns → w b d ≤ w b e) :
    (∀ a, a < b + 1 → upN χ b d a ≤ ns ∧ ∀ c, c ≤ ns → w a (upN χ b d a) ≤ w a c) ∧ z + w b d = sg (fun a => w a (upN χ b d a)) (b + 1) := by
  refine ⟨fun a ha => ?_, ?_⟩
  · by_cases e : a = b
    · subst e; rw [upN_s]; exact ⟨hd, hm⟩
    · rw [upN_n e]; exact h1 a (by omega)
  · simp only [sg]
    rw [upN_s, h2, sg_congr (f := fun a => w a (χ a)) (h := fun a => w a (upN χ b d a)) (fun i hi => by rw [upN_n (by omega)])]
theorem lwI_dummy {ns : Nat} {w : Nat → Nat → Int} {B z f : Int} {b T : Nat} {χ : Nat → Nat} (h : lwI ns w B b z T f χ) (hm : ∀ e, e ≤ ns → w b ns ≤ w b e) : lwI ns w B (b + 1) (z + w b ns) T f (upN χ b ns) := by
  obtain ⟨h1, h2, h3, h4, h5, h6⟩ := h
  obtain ⟨k1, k2⟩ := lw_step h1 h2 (Nat.le_refl _) hm
  refine ⟨k1, k2, h3, fun c => ?_, h5, fun e => ⟨fun a ha => (k1 a ha).1, fun a c ha hc hne heq => ?_⟩⟩
  · rw [h4 c]
    constructor
    · rintro ⟨q, a, ha, e⟩
      exact ⟨q, a, by omega, by rw [upN_n (by omega)]; exact e⟩
    · rintro ⟨q, a, ha, e⟩
      rcases Nat.lt_or_ge a b with z | z
      · rw [upN_n (by omega)] at e; exact ⟨q, a, z, e⟩
      · have : a = b := by omega
        subst this; rw [upN_s] at e; omega
  · by_cases e2 : a = b
    · subst e2; exact upN_s
    · rw [upN_n e2] at heq ⊢
      by_cases e3 : c = b
      · subst e3; rw [upN_s] at heq; exact heq
      · rw [upN_n e3] at heq; exact (h6 e).2 a c (by omega) (by omega) hne heq
theorem lwI_spot {ns : Nat} {w : Nat → Nat → Int} {B z f : Int} {b T d : Nat} {χ : Nat → Nat} (hn16 : ns ≤ 16) (h : lwI ns w B b z T f χ) (hd : d < ns) (hm : ∀ e, e ≤ ns → w b d ≤ w b e) {f' : Int} (hf : f' = if f = 1 ∨ T.testBit d = true then 1 else 0) : lwI ns w B (b + 1) (z + w b d) (T ||| 2 ^ d) f' (upN χ b d) := by
  obtain ⟨h1, h2, h3, h4, h5, h6⟩ := h
  obtain ⟨k1, k2⟩ := lw_step h1 h2 (Nat.le_of_lt hd) hm
  refine ⟨k1, k2, Nat.or_lt_two_pow h3 (Nat.pow_lt_pow_right (by decide) (by omega)), fun c => ?_, ?_, fun e => ?_⟩
  · rw [bit_or, Bool.or_eq_true, h4 c, decide_eq_true_eq]
    constructor
    · rintro (⟨q, a, ha, e⟩ | e)
      · exact ⟨q, a, by omega, by rw [upN_n (by omega)]; exact e⟩
      · exact ⟨by omega, b, by omega, by rw [upN_s]; exact e.symm⟩
    · rintro ⟨q, a, ha, e⟩
      rcases Nat.lt_or_ge a b with z | z
      · rw [upN_n (by omega)] at e; exact Or.inl ⟨q, a, z, e⟩
      · have : a = b := by omega
        subst this; rw [upN_s] at e; exact Or.inr e.symm
  · rw [hf]; split
    · exact Or.inr rfl
    · exact Or.inl rfl
  · have hno : ¬ (f = 1 ∨ T.testBit d = true) := fun q => by rw [hf, if_pos q] at e; omega
    have hf0 : f = 0 := by
      rcases h5 with q | q
      · exact q
      · exact absurd (Or.inl q) hno
    have hfree : ∀ a, a < b → χ a ≠ d := fun a ha q => hno (Or.inr ((h4 d).mpr ⟨hd, a, ha, q⟩))
    obtain ⟨v1, v2⟩ := h6 hf0
    refine ⟨fun a ha => (k1 a ha).1, fun a c ha hc hne heq => ?_⟩
    by_cases e2 : a = b
    · subst e2
      rw [upN_s, upN_n (by omega)] at heq
      exact absurd heq.symm (hfree c (by omega))
    · rw [upN_n e2] at heq ⊢
      by_cases e3 : c = b
      · subst e3; rw [upN_s] at heq; exact absurd heq (hfree a (by omega))
      · rw [upN_n e3] at heq; exact v2 a c (by omega) (by omega) hne heq
theorem c_lwr {g : pG} {M : pMem} {w : Nat → Nat → Int} {B : Int} (hW : pW M) {ns nb : Nat} (hns : mI M 4 6 = (ns : Int)) (hn16 : ns ≤ 16) (hnb : mI M 4 5 = (nb : Int)) (hn8 : nb ≤ 8) (hw : ∀ b c, b < nb → c ≤ ns → mL M 8 (b * 17 + c) = w b c) (hB : ∀ b c, b < nb → c ≤ ns → -B ≤ w b c ∧ w b c ≤ B) (hB0 : 0 ≤ B ∧ B < 1000000000000000000) :
    pCn g 1 0 0 yX1_leastWithoutRivals cX1_leastWithoutRivals 8 (some .long) SH SH M [.inr (.inr 4)] (fun r M' => ∃ z f : Int, r = some (.inr (.inl z)) ∧ M' = stI M 4 8 f ∧ (f = 0 ∨ f = 1) ∧ (∀ φ, vA nb ns φ → z ≤ sg (fun b => w b (φ b)) nb) ∧ (f = 0 → isMn nb ns w z) ∧ -(8 * B) ≤ z ∧ z ≤ 8 * B) := by
  refine pCn_intro mt_X1_leastWithoutRivals (fun X C => ?_)
  have hnsf : ∀ f : Int, mI (stI M 4 8 f) 4 6 = (ns : Int) := fun f => by rw [stI_n _ _ (by decide)]; exact hns
  have hnbf : ∀ f : Int, mI (stI M 4 8 f) 4 5 = (nb : Int) := fun f => by rw [stI_n _ _ (by decide)]; exact hnb
  have loop : ∀ (b : Nat) (s : Int × Nat × Int × (Nat → Nat) × Option pV × Option pV × Option pV), b ≤ nb → lwI ns w B b s.1 s.2.1 s.2.2.1 s.2.2.2.1 → pE g 8 X (pMQ g SH (fun r M' => ∃ z f : Int, r = some (.inr (.inl z)) ∧ M' = stI M 4 8 f ∧ (f = 0 ∨ f = 1) ∧ (∀ φ, vA nb ns φ → z ≤ sg (fun b => w b (φ b)) nb) ∧ (f = 0 → isMn nb ns w z) ∧ -(8 * B) ≤ z ∧ z ≤ 8 * B) X 0 0) SH (stI M 4 8 s.2.2.1) 0 0 12 [some (.inr (.inr 4)), some (.inr (.inl s.1)), none, some (.inl (s.2.1 : Int)), some (.inl (b : Int)), s.2.2.2.2.1, s.2.2.2.2.2.1, s.2.2.2.2.2.2] [] := by
    refine p_for nb _ _ ?_ ?_
    · rintro ⟨z, T, f, χ, x5, x6, x7⟩ hI
      dsimp only at hI ⊢
      refine e_iload C dX1_leastWithoutRivals_12 rfl ?_
      refine e_aload_n C dX1_leastWithoutRivals_14 rfl ?_
      refine e_getI C f_X1_27 sh_4 dX1_leastWithoutRivals_15 ?_
      rw [hnbf]
      refine e_icmp_ge C (tgt := 141) dX1_leastWithoutRivals_18 (by decide) (by omega) (by omega) (fun h_18 => ?_) (fun h_18 => by exfalso; omega)
      refine e_lload_n C dX1_leastWithoutRivals_141 rfl ?_
      exact e_lreturn C dX1_leastWithoutRivals_142 ⟨z, f, rfl, rfl, hI.2.2.2.2.1, lwI_end hB hn8 hB0.1 hI⟩
    · rintro b ⟨z, T, f, χ, x5, x6, x7⟩ hb hI ih
      dsimp only at hI ⊢
      have hT := hI.2.2.1
      have hf01 := hI.2.2.2.2.1
      have inner : ∀ (i : Nat) (c : Nat), i ≤ ns → (c ≤ ns ∧ w b c ≤ w b ns ∧ ∀ e, e < i → w b c ≤ w b e) → pE g 8 X (pMQ g SH (fun r M' => ∃ z f : Int, r = some (.inr (.inl z)) ∧ M' = stI M 4 8 f ∧ (f = 0 ∨ f = 1) ∧ (∀ φ, vA nb ns φ → z ≤ sg (fun b => w b (φ b)) nb) ∧ (f = 0 → isMn nb ns w z) ∧ -(8 * B) ≤ z ∧ z ≤ 8 * B) X 0 0) SH (stI M 4 8 f) 0 0 37 [some (.inr (.inr 4)), some (.inr (.inl z)), none, some (.inl (T : Int)), some (.inl (b : Int)), some (.inl ((b : Int) * 17)), some (.inl (c : Int)), some (.inl (i : Int))] [] := by
        refine p_for ns _ _ ?_ ?_
        · rintro c ⟨c1, c2, c3⟩
          have hmin : ∀ e, e ≤ ns → w b c ≤ w b e := fun e he => by
            rcases Nat.lt_or_ge e ns with q | q
            · exact c3 e q
            · have : e = ns := by omega
              rw [this]; exact c2
          refine e_iload C dX1_leastWithoutRivals_37 rfl ?_
          refine e_aload_n C dX1_leastWithoutRivals_39 rfl ?_
          refine e_getI C f_X1_30 sh_4 dX1_leastWithoutRivals_40 ?_
          rw [hnsf]
          refine e_icmp_ge C (tgt := 80) dX1_leastWithoutRivals_43 (by decide) (by omega) (by omega) (fun h_43 => ?_) (fun h_43 => by exfalso; omega)
          refine e_lload_n C dX1_leastWithoutRivals_80 rfl ?_
          refine e_aload_n C dX1_leastWithoutRivals_81 rfl ?_
          refine e_getR C f_X1_52 sh_4 (hW 4 12 8 rfl) dX1_leastWithoutRivals_82 ?_
          refine e_iload C dX1_leastWithoutRivals_85 rfl ?_
          refine e_iload C dX1_leastWithoutRivals_87 rfl ?_
          refine e_iadd C dX1_leastWithoutRivals_89 ?_
          refine e_laload C dX1_leastWithoutRivals_90 sh_8 (b * 17 + c) (by omega) (by omega) ?_
          rw [show mL (stI M 4 8 f) 8 (b * 17 + c) = mL M 8 (b * 17 + c) from rfl, hw b c hb c1]
          refine e_ladd C dX1_leastWithoutRivals_91 ?_
          refine e_lstore_n C dX1_leastWithoutRivals_92 ?_
          refine e_iload C dX1_leastWithoutRivals_93 rfl ?_
          refine e_aload_n C dX1_leastWithoutRivals_95 rfl ?_
          refine e_getI C f_X1_30 sh_4 dX1_leastWithoutRivals_96 ?_
          rw [hnsf]
          refine e_icmp_ge C (tgt := 135) dX1_leastWithoutRivals_99 (by decide) (by omega) (by omega) (fun h_99 => ?_) (fun h_99 => ?_)
          · have e : c = ns := by omega
            subst e
            refine e_iinc C dX1_leastWithoutRivals_135 rfl ?_
            refine e_goto C (tgt := 12) dX1_leastWithoutRivals_138 (by decide) ?_
            exact ih (z + w b c, T, f, _, _, _, _) (lwI_dummy hI hmin)
          · have hcn : c < ns := by omega
            refine e_aload_n C dX1_leastWithoutRivals_102 rfl ?_
            refine e_aload_n C dX1_leastWithoutRivals_103 rfl ?_
            refine e_getI C f_X1_37 sh_4 dX1_leastWithoutRivals_104 ?_
            rw [stI_s]
            by_cases hf1 : f = 1
            · subst hf1
              refine e_if_ne C (tgt := 120) dX1_leastWithoutRivals_107 (by decide) (by omega) (fun _ => ?_) (fun h => absurd (by decide) h)
              have hst := lwI_spot (f' := 1) hn16 hI hcn hmin (by rw [if_pos (Or.inl rfl)])
              refine e_iconst C dX1_leastWithoutRivals_120 ?_
              refine e_goto C (tgt := 125) dX1_leastWithoutRivals_121 (by decide) ?_
              refine e_putZ C f_X1_37 sh_4 (Or.inr rfl) (hd := dX1_leastWithoutRivals_125) (hfin := (fun CC T h => by obtain ⟨h1, -⟩ := h; cases h1; rfl)) ?_
              rw [stI_st]
              refine e_iload_n C dX1_leastWithoutRivals_128 rfl ?_
              refine e_iconst C dX1_leastWithoutRivals_129 ?_
              refine e_iload C dX1_leastWithoutRivals_130 rfl ?_
              refine e_ishl C (a := 1) (b := c) dX1_leastWithoutRivals_132 (by omega) (by rw [Nat.one_mul]; exact Nat.pow_lt_pow_right (by decide) (by omega)) ?_
              refine e_ior C (a := T) (b := 1 * 2 ^ c) dX1_leastWithoutRivals_133 ?_
              rw [Nat.one_mul]
              refine e_istore_n C dX1_leastWithoutRivals_134 ?_
              refine e_iinc C dX1_leastWithoutRivals_135 rfl ?_
              refine e_goto C (tgt := 12) dX1_leastWithoutRivals_138 (by decide) ?_
              exact ih (z + w b c, T ||| 2 ^ c, 1, _, _, _, _) hst
            · have hf0 : f = 0 := by
                rcases hf01 with q | q
                · exact q
                · exact absurd q hf1
              subst hf0
              refine e_if_ne C (tgt := 120) dX1_leastWithoutRivals_107 (by decide) (by omega) (fun h => absurd rfl h) (fun _ => ?_)
              refine e_iload_n C dX1_leastWithoutRivals_110 rfl ?_
              refine e_iload C dX1_leastWithoutRivals_111 rfl ?_
              refine e_ishr C (a := T) (b := c) dX1_leastWithoutRivals_113 (by omega) (by omega) ?_
              refine e_iconst C dX1_leastWithoutRivals_114 ?_
              refine e_iand C (a := T / 2 ^ c) (b := 1) dX1_leastWithoutRivals_115 ?_
              refine e_iconst C dX1_leastWithoutRivals_116 ?_
              have hb1 := bit_le T c
              have hb2 := bit_1 T c
              refine e_icmp_ne C (tgt := 124) dX1_leastWithoutRivals_117 (by decide) (by omega) (by omega) (fun h => ?_) (fun h => ?_)
              · have hst := lwI_spot (f' := 0) hn16 hI hcn hmin (by rw [if_neg]; exact fun q => q.elim (fun q => by omega) (fun q => h (by rw [hb2.mpr q]; rfl)))
                refine e_iconst C dX1_leastWithoutRivals_124 ?_
                refine e_putZ C f_X1_37 sh_4 (Or.inl rfl) (hd := dX1_leastWithoutRivals_125) (hfin := (fun CC T h => by obtain ⟨h1, -⟩ := h; cases h1; rfl)) ?_
                rw [stI_st]
                refine e_iload_n C dX1_leastWithoutRivals_128 rfl ?_
                refine e_iconst C dX1_leastWithoutRivals_129 ?_
                refine e_iload C dX1_leastWithoutRivals_130 rfl ?_
                refine e_ishl C (a := 1) (b := c) dX1_leastWithoutRivals_132 (by omega) (by rw [Nat.one_mul]; exact Nat.pow_lt_pow_right (by decide) (by omega)) ?_
                refine e_ior C (a := T) (b := 1 * 2 ^ c) dX1_leastWithoutRivals_133 ?_
                rw [Nat.one_mul]
                refine e_istore_n C dX1_leastWithoutRivals_134 ?_
                refine e_iinc C dX1_leastWithoutRivals_135 rfl ?_
                refine e_goto C (tgt := 12) dX1_leastWithoutRivals_138 (by decide) ?_
                exact ih (z + w b c, T ||| 2 ^ c, 0, _, _, _, _) hst
              · have hst := lwI_spot (f' := 1) hn16 hI hcn hmin (by rw [if_pos (Or.inr (hb2.mp (by omega)))])
                refine e_iconst C dX1_leastWithoutRivals_120 ?_
                refine e_goto C (tgt := 125) dX1_leastWithoutRivals_121 (by decide) ?_
                refine e_putZ C f_X1_37 sh_4 (Or.inr rfl) (hd := dX1_leastWithoutRivals_125) (hfin := (fun CC T h => by obtain ⟨h1, -⟩ := h; cases h1; rfl)) ?_
                rw [stI_st]
                refine e_iload_n C dX1_leastWithoutRivals_128 rfl ?_
                refine e_iconst C dX1_leastWithoutRivals_129 ?_
                refine e_iload C dX1_leastWithoutRivals_130 rfl ?_
                refine e_ishl C (a := 1) (b := c) dX1_leastWithoutRivals_132 (by omega) (by rw [Nat.one_mul]; exact Nat.pow_lt_pow_right (by decide) (by omega)) ?_
                refine e_ior C (a := T) (b := 1 * 2 ^ c) dX1_leastWithoutRivals_133 ?_
                rw [Nat.one_mul]
                refine e_istore_n C dX1_leastWithoutRivals_134 ?_
                refine e_iinc C dX1_leastWithoutRivals_135 rfl ?_
                refine e_goto C (tgt := 12) dX1_leastWithoutRivals_138 (by decide) ?_
                exact ih (z + w b c, T ||| 2 ^ c, 1, _, _, _, _) hst
        · rintro i c hi ⟨c1, c2, c3⟩ ih2
          have hwi := hB b i hb (by omega)
          have hwc := hB b c hb c1
          refine e_iload C dX1_leastWithoutRivals_37 rfl ?_
          refine e_aload_n C dX1_leastWithoutRivals_39 rfl ?_
          refine e_getI C f_X1_30 sh_4 dX1_leastWithoutRivals_40 ?_
          rw [hnsf]
          refine e_icmp_ge C (tgt := 80) dX1_leastWithoutRivals_43 (by decide) (by omega) (by omega) (fun h_43 => by exfalso; omega) (fun h_43 => ?_)
          refine e_aload_n C dX1_leastWithoutRivals_46 rfl ?_
          refine e_getR C f_X1_52 sh_4 (hW 4 12 8 rfl) dX1_leastWithoutRivals_47 ?_
          refine e_iload C dX1_leastWithoutRivals_50 rfl ?_
          refine e_iload C dX1_leastWithoutRivals_52 rfl ?_
          refine e_iadd C dX1_leastWithoutRivals_54 ?_
          refine e_laload C dX1_leastWithoutRivals_55 sh_8 (b * 17 + i) (by omega) (by omega) ?_
          rw [show mL (stI M 4 8 f) 8 (b * 17 + i) = mL M 8 (b * 17 + i) from rfl, hw b i hb (by omega)]
          refine e_aload_n C dX1_leastWithoutRivals_56 rfl ?_
          refine e_getR C f_X1_52 sh_4 (hW 4 12 8 rfl) dX1_leastWithoutRivals_57 ?_
          refine e_iload C dX1_leastWithoutRivals_60 rfl ?_
          refine e_iload C dX1_leastWithoutRivals_62 rfl ?_
          refine e_iadd C dX1_leastWithoutRivals_64 ?_
          refine e_laload C dX1_leastWithoutRivals_65 sh_8 (b * 17 + c) (by omega) (by omega) ?_
          rw [show mL (stI M 4 8 f) 8 (b * 17 + c) = mL M 8 (b * 17 + c) from rfl, hw b c hb c1]
          refine e_lcmp C dX1_leastWithoutRivals_66 (by omega) (by omega) ?_
          by_cases hlt : w b i < w b c
          · rw [if_neg (by omega), if_neg (by omega)]
            refine e_if_ge C (tgt := 74) dX1_leastWithoutRivals_67 (by decide) (by omega) (fun h => absurd h (by decide)) (fun _ => ?_)
            refine e_iload C dX1_leastWithoutRivals_70 rfl ?_
            refine e_istore C dX1_leastWithoutRivals_72 ?_
            refine e_iinc C dX1_leastWithoutRivals_74 rfl ?_
            refine e_goto C (tgt := 37) dX1_leastWithoutRivals_77 (by decide) ?_
            exact ih2 i ⟨by omega, by omega, fun e he => by
              rcases Nat.lt_or_ge e i with q | q
              · have := c3 e q; omega
              · have : e = i := by omega
                rw [this]; exact Int.le_refl _⟩
          · refine e_if_ge C (tgt := 74) dX1_leastWithoutRivals_67 (by decide) (by (repeat' split) <;> omega) (fun _ => ?_) (fun h => by (repeat' split at h) <;> omega)
            refine e_iinc C dX1_leastWithoutRivals_74 rfl ?_
            refine e_goto C (tgt := 37) dX1_leastWithoutRivals_77 (by decide) ?_
            exact ih2 c ⟨c1, c2, fun e he => by
              rcases Nat.lt_or_ge e i with q | q
              · exact c3 e q
              · have : e = i := by omega
                rw [this]; omega⟩
      refine e_iload C dX1_leastWithoutRivals_12 rfl ?_
      refine e_aload_n C dX1_leastWithoutRivals_14 rfl ?_
      refine e_getI C f_X1_27 sh_4 dX1_leastWithoutRivals_15 ?_
      rw [hnbf]
      refine e_icmp_ge C (tgt := 141) dX1_leastWithoutRivals_18 (by decide) (by omega) (by omega) (fun h_18 => by exfalso; omega) (fun h_18 => ?_)
      refine e_iload C dX1_leastWithoutRivals_21 rfl ?_
      refine e_bipush C dX1_leastWithoutRivals_23 ?_
      refine e_imul C dX1_leastWithoutRivals_25 ?_
      refine e_istore C dX1_leastWithoutRivals_26 ?_
      refine e_aload_n C dX1_leastWithoutRivals_28 rfl ?_
      refine e_getI C f_X1_30 sh_4 dX1_leastWithoutRivals_29 ?_
      rw [hnsf]
      refine e_istore C dX1_leastWithoutRivals_32 ?_
      refine e_iconst C dX1_leastWithoutRivals_34 ?_
      refine e_istore C dX1_leastWithoutRivals_35 ?_
      exact inner 0 ns (by omega) ⟨Nat.le_refl _, Int.le_refl _, fun e he => absurd he (Nat.not_lt_zero e)⟩
  show pE g 8 X _ SH M 0 0 0 [some (.inr (.inr 4)), none, none, none, none, none, none, none] []
  refine e_lconst C 0 dX1_leastWithoutRivals_0 ?_
  refine e_lstore_n C dX1_leastWithoutRivals_1 ?_
  refine e_iconst C dX1_leastWithoutRivals_2 ?_
  refine e_istore_n C dX1_leastWithoutRivals_3 ?_
  refine e_aload_n C dX1_leastWithoutRivals_4 rfl ?_
  refine e_iconst C dX1_leastWithoutRivals_5 ?_
  refine e_putZ C f_X1_37 sh_4 (Or.inl rfl) (hd := dX1_leastWithoutRivals_6) (hfin := (fun CC T h => by obtain ⟨h1, -⟩ := h; cases h1; rfl)) ?_
  refine e_iconst C dX1_leastWithoutRivals_9 ?_
  refine e_istore C dX1_leastWithoutRivals_10 ?_
  exact loop 0 (0, 0, 0, fun _ => 0, none, none, none) (by omega) ⟨fun a ha => absurd ha (Nat.not_lt_zero a), rfl, by decide, fun c => by simp, Or.inl rfl, fun _ => ⟨fun a ha => absurd ha (Nat.not_lt_zero a), fun a c ha => absurd ha (Nat.not_lt_zero a)⟩⟩
end
section
def fcV (M : pMem) (dx dy : Int) (j : Nat) : Int := mL M 7 j + mI M 4 1 * 341812114609 * (((mI M 5 j + dx).natAbs : Int) + ((mI M 6 j + dy).natAbs : Int))
def fcI (M : pMem) (ns nb : Nat) (dx dy : Int) (b s : Nat) (f : Nat → Int) : Prop :=
  (∀ a c, a < b → c < ns → f (a * 17 + c) = fcV M dx dy (a * 17 + c)) ∧ (∀ c, c < s → f (b * 17 + c) = fcV M dx dy (b * 17 + c)) ∧ ∀ a, a < nb → f (a * 17 + ns) = mL M 8 (a * 17 + ns)
theorem c_fill {g : pG} {M : pMem} {dx dy : Int} (hW : pW M) {ns nb : Nat} (hns : mI M 4 6 = (ns : Int)) (hn16 : ns ≤ 16) (hnb : mI M 4 5 = (nb : Int)) (hn8 : nb ≤ 8) (hdx : -3 ≤ dx ∧ dx ≤ 3) (hdy : -3 ≤ dy ∧ dy ≤ 3) (hfar : 0 ≤ mI M 4 1 ∧ mI M 4 1 ≤ 9) (hac : ∀ b c, b < nb → c < ns → -63 ≤ mI M 5 (b * 17 + c) ∧ mI M 5 (b * 17 + c) ≤ 63) (hdn : ∀ b c, b < nb → c < ns → -63 ≤ mI M 6 (b * 17 + c) ∧ mI M 6 (b * 17 + c) ≤ 63) :
    pCn g 1 0 0 yX1_fillCells cX1_fillCells 8 none SH SH M [.inr (.inr 4), .inl dx, .inl dy] (fun r M' => ∃ f : Nat → Int, r = none ∧ M' = wrL M 8 f ∧ fcI M ns nb dx dy nb 0 f) := by
  refine pCn_intro mt_X1_fillCells (fun X C => ?_)
  have loop : ∀ (b : Nat) (s : (Nat → Int) × Option pV × Option pV), b ≤ nb → fcI M ns nb dx dy b 0 s.1 → pE g 8 X (pMQ g SH (fun r M' => ∃ f : Nat → Int, r = none ∧ M' = wrL M 8 f ∧ fcI M ns nb dx dy nb 0 f) X 0 0) SH (wrL M 8 s.1) 0 0 13 [some (.inr (.inr 4)), some (.inl dx), some (.inl dy), some (.inr (.inl (mI M 4 1 * 341812114609))), none, some (.inl (b : Int)), s.2.1, s.2.2] [] := by
    refine p_for nb _ _ ?_ ?_
    · rintro ⟨f, x6, x7⟩ hI
      dsimp only at hI ⊢
      refine e_iload C dX1_fillCells_13 rfl ?_
      refine e_aload_n C dX1_fillCells_15 rfl ?_
      refine e_getI C f_X1_27 sh_4 dX1_fillCells_16 ?_
      rw [show mI (wrL M 8 f) 4 5 = mI M 4 5 from rfl, hnb]
      refine e_icmp_ge C (tgt := 103) dX1_fillCells_19 (by decide) (by omega) (by omega) (fun h_19 => ?_) (fun h_19 => by exfalso; omega)
      exact e_return C dX1_fillCells_103 ⟨f, rfl, rfl, hI⟩
    · rintro b ⟨f0, x6, x7⟩ hb hI ih
      dsimp only at hI ⊢
      have inner : ∀ (i : Nat) (s : (Nat → Int) × Int), i ≤ ns → (s.2 = (b : Int) * 17 + (i : Int) ∧ fcI M ns nb dx dy b i s.1) → pE g 8 X (pMQ g SH (fun r M' => ∃ f : Nat → Int, r = none ∧ M' = wrL M 8 f ∧ fcI M ns nb dx dy nb 0 f) X 0 0) SH (wrL M 8 s.1) 0 0 41 [some (.inr (.inr 4)), some (.inl dx), some (.inl dy), some (.inr (.inl (mI M 4 1 * 341812114609))), none, some (.inl (b : Int)), some (.inl ((b : Int) * 17 + (ns : Int))), some (.inl s.2)] [] := by
        refine p_for ns _ _ ?_ ?_
        · rintro ⟨f, z7⟩ ⟨ez, hI2⟩
          dsimp only at ez hI2 ⊢
          refine e_iload C dX1_fillCells_41 rfl ?_
          refine e_iload C dX1_fillCells_43 rfl ?_
          refine e_icmp_ge C (tgt := 97) dX1_fillCells_45 (by decide) (by omega) (by omega) (fun h_45 => ?_) (fun h_45 => by exfalso; omega)
          refine e_iinc C dX1_fillCells_97 rfl ?_
          refine e_goto C (tgt := 13) dX1_fillCells_100 (by decide) ?_
          refine ih (f, _, _) ⟨fun a c ha hc => ?_, fun c hc => absurd hc (Nat.not_lt_zero c), hI2.2.2⟩
          rcases Nat.lt_or_ge a b with q | q
          · exact hI2.1 a c q hc
          · have : a = b := by omega
            subst this; exact hI2.2.1 c hc
        · rintro i ⟨f, z7⟩ hi ⟨ez, hI2⟩ ih2
          dsimp only at ez hI2 ih2 ⊢
          have hac1 := hac b i hb hi
          have hdn1 := hdn b i hb hi
          refine e_iload C dX1_fillCells_41 rfl ?_
          refine e_iload C dX1_fillCells_43 rfl ?_
          refine e_icmp_ge C (tgt := 97) dX1_fillCells_45 (by decide) (by omega) (by omega) (fun h_45 => by exfalso; omega) (fun h_45 => ?_)
          refine e_aload_n C dX1_fillCells_48 rfl ?_
          refine e_getR C f_X1_52 sh_4 (hW 4 12 8 rfl) dX1_fillCells_49 ?_
          refine e_iload C dX1_fillCells_52 rfl ?_
          refine e_aload_n C dX1_fillCells_54 rfl ?_
          refine e_getR C f_X1_48 sh_4 (hW 4 11 7 rfl) dX1_fillCells_55 ?_
          refine e_iload C dX1_fillCells_58 rfl ?_
          refine e_laload C dX1_fillCells_60 sh_7 (b * 17 + i) (by omega) (by omega) ?_
          refine e_lload_n C dX1_fillCells_61 rfl ?_
          refine e_aload_n C dX1_fillCells_62 rfl ?_
          refine e_getR C f_X1_41 sh_4 (hW 4 9 5 rfl) dX1_fillCells_63 ?_
          refine e_iload C dX1_fillCells_66 rfl ?_
          refine e_iaload C dX1_fillCells_68 sh_5 (b * 17 + i) (by omega) (by omega) ?_
          rw [show mI (wrL M 8 f) 5 (b * 17 + i) = mI M 5 (b * 17 + i) from rfl]
          refine e_iload_n C dX1_fillCells_69 rfl ?_
          refine e_iadd C dX1_fillCells_70 ?_
          refine e_mabs C s_X1_121 dX1_fillCells_71 (by omega) ?_
          refine e_aload_n C dX1_fillCells_74 rfl ?_
          refine e_getR C f_X1_45 sh_4 (hW 4 10 6 rfl) dX1_fillCells_75 ?_
          refine e_iload C dX1_fillCells_78 rfl ?_
          refine e_iaload C dX1_fillCells_80 sh_6 (b * 17 + i) (by omega) (by omega) ?_
          rw [show mI (wrL M 8 f) 6 (b * 17 + i) = mI M 6 (b * 17 + i) from rfl]
          refine e_iload_n C dX1_fillCells_81 rfl ?_
          refine e_iadd C dX1_fillCells_82 ?_
          refine e_mabs C s_X1_121 dX1_fillCells_83 (by omega) ?_
          refine e_iadd C dX1_fillCells_86 ?_
          refine e_i2l C dX1_fillCells_87 (by omega) ?_
          refine e_lmul C dX1_fillCells_88 ?_
          refine e_ladd C dX1_fillCells_89 ?_
          refine e_lastore C dX1_fillCells_90 sh_8 (b * 17 + i) (by omega) (by omega) ?_
          rw [stL_wr]
          refine e_iinc C dX1_fillCells_91 rfl ?_
          refine e_goto C (tgt := 41) dX1_fillCells_94 (by decide) ?_
          refine ih2 (up f (b * 17 + i) (fcV M dx dy (b * 17 + i)), z7 + 1) ⟨by dsimp only; omega, fun a c ha hc => ?_, fun c hc => ?_, fun a ha => ?_⟩
          · dsimp only; rw [up_n (by omega)]; exact hI2.1 a c ha hc
          · dsimp only
            by_cases e : c = i
            · subst e; rw [up_s]
            · rw [up_n (by omega)]; exact hI2.2.1 c (by omega)
          · dsimp only; rw [up_n (by omega)]; exact hI2.2.2 a ha
      refine e_iload C dX1_fillCells_13 rfl ?_
      refine e_aload_n C dX1_fillCells_15 rfl ?_
      refine e_getI C f_X1_27 sh_4 dX1_fillCells_16 ?_
      rw [show mI (wrL M 8 f0) 4 5 = mI M 4 5 from rfl, hnb]
      refine e_icmp_ge C (tgt := 103) dX1_fillCells_19 (by decide) (by omega) (by omega) (fun h_19 => by exfalso; omega) (fun h_19 => ?_)
      refine e_iload C dX1_fillCells_22 rfl ?_
      refine e_bipush C dX1_fillCells_24 ?_
      refine e_imul C dX1_fillCells_26 ?_
      refine e_aload_n C dX1_fillCells_27 rfl ?_
      refine e_getI C f_X1_30 sh_4 dX1_fillCells_28 ?_
      rw [show mI (wrL M 8 f0) 4 6 = mI M 4 6 from rfl, hns]
      refine e_iadd C dX1_fillCells_31 ?_
      refine e_istore C dX1_fillCells_32 ?_
      refine e_iload C dX1_fillCells_34 rfl ?_
      refine e_bipush C dX1_fillCells_36 ?_
      refine e_imul C dX1_fillCells_38 ?_
      refine e_istore C dX1_fillCells_39 ?_
      exact inner 0 (f0, _) (by omega) ⟨by dsimp only; omega, hI⟩
  show pE g 8 X _ SH M 0 0 0 [some (.inr (.inr 4)), some (.inl dx), some (.inl dy), none, none, none, none, none] []
  refine e_aload_n C dX1_fillCells_0 rfl ?_
  refine e_getI C f_X1_15 sh_4 dX1_fillCells_1 ?_
  refine e_i2l C dX1_fillCells_4 (by omega) ?_
  refine e_ldc2 C (341812114609) k_X1_107 dX1_fillCells_5 ?_
  refine e_lmul C dX1_fillCells_8 ?_
  refine e_lstore_n C dX1_fillCells_9 ?_
  refine e_iconst C dX1_fillCells_10 ?_
  refine e_istore C dX1_fillCells_11 ?_
  exact pE_M (wrL_e M 8).symm (loop 0 (mL M 8, none, none) (by omega) ⟨fun a c ha => absurd ha (Nat.not_lt_zero a), fun c hc => absurd hc (Nat.not_lt_zero c), fun a _ => rfl⟩)
end
section
/-! ===== one move ===== -/
def CM (M : pMem) (f : Nat → Int) (c : Int) (u v o sl cf rc : Nat → Int) : pMem := LM (stI (wrL M 8 f) 4 8 c) u v o sl cf rc
theorem CM_w8 (M : pMem) (f h : Nat → Int) (c : Int) (u v o sl cf rc : Nat → Int) : wrL (CM M f c u v o sl cf rc) 8 h = CM M h c u v o sl cf rc := by
  unfold CM LM stI wrL wrI
  simp only [Prod.mk.injEq, and_true, true_and]
  funext b i; (repeat' split) <;> simp_all
theorem CM_48 (M : pMem) (f : Nat → Int) (c e : Int) (u v o sl cf rc : Nat → Int) : stI (CM M f c u v o sl cf rc) 4 8 e = CM M f e u v o sl cf rc := by
  unfold CM LM stI wrL wrI
  simp only [Prod.mk.injEq, and_true]
  funext b i; (repeat' split) <;> simp_all
theorem CM_e (M : pMem) : M = CM M (mL M 8) (mI M 4 8) (mL M 9) (mL M 10) (mI M 11) (mL M 12) (mI M 13) (mI M 14) := by
  unfold CM
  rw [wrL_e, stI_same _ _ _ _ rfl]
  exact LM_e
def dxo (o : Nat) : Int := (o : Int) / 7 - 3
def dyo (o : Nat) : Int := (o : Int) % 7 - 3
def wO (M : pMem) (ns o b c : Nat) : Int := if c < ns then fcV M (dxo o) (dyo o) (b * 17 + c) else mL M 8 (b * 17 + ns)
def stO (M : pMem) (o : Nat) : Int := (mL M 4 7 + mI M 4 0 * (((dxo o).natAbs : Int) + ((dyo o).natAbs : Int))) * 341812114609 + (o : Int) * 6975757441
theorem c_cheapestAt {g : pG} {M : pMem} {f u v o sl cf rc : Nat → Int} {c best : Int} {q : Nat} (hW : pW M) {ns nb : Nat} (hns : mI M 4 6 = (ns : Int)) (hn16 : ns ≤ 16) (hnb : mI M 4 5 = (nb : Int)) (hn8 : nb ≤ 8) (hfar : 0 ≤ mI M 4 1 ∧ mI M 4 1 ≤ 9) (hmv : 0 ≤ mI M 4 0 ∧ mI M 4 0 ≤ 9) (ham : 0 ≤ mL M 4 7 ∧ mL M 4 7 ≤ 1600) (hac : ∀ b c, b < nb → c < ns → -63 ≤ mI M 5 (b * 17 + c) ∧ mI M 5 (b * 17 + c) ≤ 63) (hdn : ∀ b c, b < nb → c < ns → -63 ≤ mI M 6 (b * 17 + c) ∧ mI M 6 (b * 17 + c) ≤ 63) (hB : ∀ o b c, o < 49 → b < nb → c ≤ ns → -444355748991700 ≤ wO M ns o b c ∧ wO M ns o b c ≤ 444355748991700) (hq : q < 49) (hf : ∀ b, b < nb → f (b * 17 + ns) = mL M 8 (b * 17 + ns)) (hbest : 0 ≤ best ∧ best ≤ 1152921504606846976) :
    pCn g 3 0 0 yX1_cheapestAt cX1_cheapestAt 13 (some .long) SH SH (CM M f c u v o sl cf rc) [.inr (.inr 4), .inl (q : Int), .inr (.inl best)] (fun r M' => ∃ (z : Int) (f' : Nat → Int) (c' : Int) (u' v' o' sl' cf' rc' : Nat → Int), r = some (.inr (.inl z)) ∧ M' = CM M f' c' u' v' o' sl' cf' rc' ∧ (∀ b, b < nb → f' (b * 17 + ns) = mL M 8 (b * 17 + ns)) ∧ z ≤ best ∧ (∀ φ, vA nb ns φ → z ≤ stO M q + sg (fun b => wO M ns q b (φ b)) nb) ∧ (z = best ∨ ∃ φ, vA nb ns φ ∧ z = stO M q + sg (fun b => wO M ns q b (φ b)) nb)) := by
  refine pCn_intro mt_X1_cheapestAt (fun X C => ?_)
  have hdx : -3 ≤ dxo q ∧ dxo q ≤ 3 := by unfold dxo; omega
  have hdy : -3 ≤ dyo q ∧ dyo q ≤ 3 := by unfold dyo; omega
  have hab : 0 ≤ ((dxo q).natAbs : Int) + ((dyo q).natAbs : Int) ∧ ((dxo q).natAbs : Int) + ((dyo q).natAbs : Int) ≤ 6 := by omega
  have hmv1 : 0 ≤ mI M 4 0 * (((dxo q).natAbs : Int) + ((dyo q).natAbs : Int)) := Int.mul_nonneg hmv.1 hab.1
  have hmv2 : mI M 4 0 * (((dxo q).natAbs : Int) + ((dyo q).natAbs : Int)) ≤ 9 * 6 := Int.mul_le_mul hmv.2 hab.2 hab.1 (by decide)
  have hst : 0 ≤ stO M q ∧ stO M q ≤ 1000000000000000 := by unfold stO; omega
  show pE g 13 X _ SH (CM M f c u v o sl cf rc) 0 0 0 [some (.inr (.inr 4)), some (.inl (q : Int)), some (.inr (.inl best)), none, none, none, none, none, none, none, none, none, none] []
  refine e_iload_n C dX1_cheapestAt_0 rfl ?_
  refine e_callSN C (c_acrossOf (z := (q : Int)) (by omega)) mt_X5_acrossOf s_X1_114 dX1_cheapestAt_1 (fun r M1 hq => ?_)
  obtain ⟨rfl, hM⟩ := hq
  subst M1
  dsimp only [Option.toList_some, List.singleton_append]
  rw [show (q : Int) / 7 - 3 = dxo q from rfl]
  refine e_istore C dX1_cheapestAt_4 ?_
  refine e_iload_n C dX1_cheapestAt_6 rfl ?_
  refine e_callSN C (c_downOf (z := (q : Int)) (by omega)) mt_X5_downOf s_X1_118 dX1_cheapestAt_7 (fun r M1 hq => ?_)
  obtain ⟨rfl, hM⟩ := hq
  subst M1
  dsimp only [Option.toList_some, List.singleton_append]
  rw [show (q : Int) % 7 - 3 = dyo q from rfl]
  refine e_istore C dX1_cheapestAt_10 ?_
  refine e_aload_n C dX1_cheapestAt_12 rfl ?_
  refine e_getL C f_X1_33 sh_4 dX1_cheapestAt_13 ?_
  rw [show mL (CM M f c u v o sl cf rc) 4 7 = mL M 4 7 from rfl]
  refine e_aload_n C dX1_cheapestAt_16 rfl ?_
  refine e_getI C f_X1_9 sh_4 dX1_cheapestAt_17 ?_
  rw [show mI (CM M f c u v o sl cf rc) 4 0 = mI M 4 0 from rfl]
  refine e_iload C dX1_cheapestAt_20 rfl ?_
  refine e_mabs C s_X1_121 dX1_cheapestAt_22 (by omega) ?_
  refine e_iload C dX1_cheapestAt_25 rfl ?_
  refine e_mabs C s_X1_121 dX1_cheapestAt_27 (by omega) ?_
  refine e_iadd C dX1_cheapestAt_30 ?_
  refine e_imul C dX1_cheapestAt_31 ?_
  refine e_i2l C dX1_cheapestAt_32 (by omega) ?_
  refine e_ladd C dX1_cheapestAt_33 ?_
  refine e_ldc2 C (341812114609) k_X1_107 dX1_cheapestAt_34 ?_
  refine e_lmul C dX1_cheapestAt_37 ?_
  refine e_iload_n C dX1_cheapestAt_38 rfl ?_
  refine e_i2l C dX1_cheapestAt_39 (by omega) ?_
  refine e_ldc2 C (6975757441) k_X1_124 dX1_cheapestAt_40 ?_
  refine e_lmul C dX1_cheapestAt_43 ?_
  refine e_ladd C dX1_cheapestAt_44 ?_
  rw [show (mL M 4 7 + mI M 4 0 * (((dxo q).natAbs : Int) + ((dyo q).natAbs : Int))) * 341812114609 + (q : Int) * 6975757441 = stO M q from rfl]
  refine e_lstore C dX1_cheapestAt_45 ?_
  refine e_aload_n C dX1_cheapestAt_47 rfl ?_
  refine e_iload C dX1_cheapestAt_48 rfl ?_
  refine e_iload C dX1_cheapestAt_50 rfl ?_
  refine e_callV C (c_fill (M := CM M f c u v o sl cf rc) (dx := dxo q) (dy := dyo q) hW hns hn16 hnb hn8 hdx hdy hfar hac hdn) mt_X1_fillCells s_X1_126 dX1_cheapestAt_52 1 sh_4 rfl (fun r M1 hq => ?_)
  obtain ⟨f1, rfl, rfl, hf1⟩ := hq
  dsimp only [Option.toList_none, List.nil_append]
  rw [CM_w8]
  have hw : ∀ b e, b < nb → e ≤ ns → f1 (b * 17 + e) = wO M ns q b e := fun b e hb he => by
    unfold wO
    rcases Nat.lt_or_ge e ns with z | z
    · rw [if_pos z]; exact hf1.1 b e hb z
    · have e2 : e = ns := by omega
      subst e2
      rw [if_neg (by omega)]; exact (hf1.2.2 b hb).trans (hf b hb)
  have hfd : ∀ b, b < nb → f1 (b * 17 + ns) = mL M 8 (b * 17 + ns) := fun b hb => (hf1.2.2 b hb).trans (hf b hb)
  refine e_lload C dX1_cheapestAt_55 rfl ?_
  refine e_aload_n C dX1_cheapestAt_57 rfl ?_
  refine e_callV C (c_lwr (M := CM M f1 c u v o sl cf rc) (w := wO M ns q) (B := 444355748991700) hW hns hn16 hnb hn8 hw (fun b e hb he => hB q b e hq hb he) (by decide)) mt_X1_leastWithoutRivals s_X1_130 dX1_cheapestAt_58 1 sh_4 rfl (fun r2 M2 hq2 => ?_)
  obtain ⟨z1, k1, rfl, rfl, hk1, hz1, hz2, hz3, hz4⟩ := hq2
  dsimp only [Option.toList_some, List.singleton_append]
  rw [CM_48]
  refine e_ladd C dX1_cheapestAt_61 ?_
  refine e_lstore C dX1_cheapestAt_62 ?_
  refine e_lload C dX1_cheapestAt_64 rfl ?_
  refine e_lload_n C dX1_cheapestAt_66 rfl ?_
  refine e_lcmp C dX1_cheapestAt_67 (by omega) (by omega) ?_
  by_cases hge : best ≤ stO M q + z1
  · refine e_if_ge C (tgt := 78) dX1_cheapestAt_68 (by decide) (by (repeat' split) <;> omega) (fun _ => ?_) (fun h => by (repeat' split at h) <;> omega)
    refine e_lload C dX1_cheapestAt_78 rfl ?_
    refine e_lload_n C dX1_cheapestAt_80 rfl ?_
    refine e_mminL C s_X1_134 dX1_cheapestAt_81 (by omega) (by omega) ?_
    exact e_lreturn C dX1_cheapestAt_84 ⟨_, f1, k1, u, v, o, sl, cf, rc, rfl, rfl, hfd, by split <;> omega, fun φ hφ => by have := hz1 φ hφ; split <;> omega, Or.inl (by split <;> omega)⟩
  · rw [if_neg (by omega), if_neg (by omega)]
    refine e_if_ge C (tgt := 78) dX1_cheapestAt_68 (by decide) (by omega) (fun h => absurd h (by decide)) (fun _ => ?_)
    refine e_aload_n C dX1_cheapestAt_71 rfl ?_
    refine e_getI C f_X1_37 sh_4 dX1_cheapestAt_72 ?_
    rw [show mI (CM M f1 k1 u v o sl cf rc) 4 8 = k1 from rfl]
    rcases hk1 with rfl | rfl
    · refine e_if_ne C (tgt := 85) dX1_cheapestAt_75 (by decide) (by omega) (fun h => absurd rfl h) (fun _ => ?_)
      obtain ⟨⟨φ0, p1, p2⟩, p3⟩ := hz2 rfl
      refine e_lload C dX1_cheapestAt_78 rfl ?_
      refine e_lload_n C dX1_cheapestAt_80 rfl ?_
      refine e_mminL C s_X1_134 dX1_cheapestAt_81 (by omega) (by omega) ?_
      exact e_lreturn C dX1_cheapestAt_84 ⟨_, f1, 0, u, v, o, sl, cf, rc, rfl, rfl, hfd, by split <;> omega, fun φ hφ => by have := hz1 φ hφ; split <;> omega, Or.inr ⟨φ0, p1, by rw [p2]; split <;> omega⟩⟩
    · refine e_if_ne C (tgt := 85) dX1_cheapestAt_75 (by decide) (by omega) (fun _ => ?_) (fun h => absurd (by decide) h)
      have loop : ∀ (i : Nat) (s : Int × (Nat → Int) × (Nat → Int) × (Nat → Int) × (Nat → Int) × (Nat → Int) × (Nat → Int)), i ≤ nb → (huI i ns (wO M ns q) s.2.1 s.2.2.1 s.2.2.2.1 ∧ s.1 = stO M q + (sg s.2.1 i + sg s.2.2.1 ns) ∧ ∀ b, i ≤ b → b < nb → s.2.1 b = 0) → pE g 13 X (pMQ g SH (fun r M' => ∃ (z : Int) (f' : Nat → Int) (c' : Int) (u' v' o' sl' cf' rc' : Nat → Int), r = some (.inr (.inl z)) ∧ M' = CM M f' c' u' v' o' sl' cf' rc' ∧ (∀ b, b < nb → f' (b * 17 + ns) = mL M 8 (b * 17 + ns)) ∧ z ≤ best ∧ (∀ φ, vA nb ns φ → z ≤ stO M q + sg (fun b => wO M ns q b (φ b)) nb) ∧ (z = best ∨ ∃ φ, vA nb ns φ ∧ z = stO M q + sg (fun b => wO M ns q b (φ b)) nb)) X 0 0) SH (CM M f1 1 s.2.1 s.2.2.1 s.2.2.2.1 s.2.2.2.2.1 s.2.2.2.2.2.1 s.2.2.2.2.2.2) 0 0 96 [some (.inr (.inr 4)), some (.inl (q : Int)), some (.inr (.inl best)), none, some (.inl (dxo q)), some (.inl (dyo q)), some (.inr (.inl (stO M q))), none, some (.inr (.inl (stO M q + z1))), none, some (.inr (.inl s.1)), none, some (.inl (i : Int))] [] := by
        refine p_for nb _ _ ?_ ?_
        · rintro ⟨tt, u1, v1, o1, s1, c1, r1⟩ ⟨hI, ht, -⟩
          dsimp only at hI ht ⊢
          obtain ⟨⟨φ0, p1, p2⟩, p3⟩ := huI_min hI
          have p4 := hz1 φ0 p1
          have p5 := sg_ub (f := fun b => wO M ns q b (φ0 b)) (b := 444355748991700) (n := nb) (fun i hi => (hB q i _ hq hi (p1.1 i hi)).2)
          refine e_iload C dX1_cheapestAt_96 rfl ?_
          refine e_aload_n C dX1_cheapestAt_98 rfl ?_
          refine e_getI C f_X1_27 sh_4 dX1_cheapestAt_99 ?_
          rw [show mI (CM M f1 1 u1 v1 o1 s1 c1 r1) 4 5 = mI M 4 5 from rfl, hnb]
          refine e_icmp_ge C (tgt := 122) dX1_cheapestAt_102 (by decide) (by omega) (by omega) (fun h_102 => ?_) (fun h_102 => by exfalso; omega)
          refine e_lload C dX1_cheapestAt_122 rfl ?_
          refine e_lload_n C dX1_cheapestAt_124 rfl ?_
          refine e_mminL C s_X1_134 dX1_cheapestAt_125 (by omega) (by omega) ?_
          refine e_lreturn C dX1_cheapestAt_128 ⟨_, f1, 1, u1, v1, o1, s1, c1, r1, rfl, rfl, hfd, by split <;> omega, fun φ hφ => by have := p3 φ hφ; split <;> omega, ?_⟩
          split
          · exact Or.inl rfl
          · exact Or.inr ⟨φ0, p1, by rw [p2]; exact ht⟩
        · rintro i ⟨tt, u1, v1, o1, s1, c1, r1⟩ hi ⟨hI, ht, hu0⟩ ih
          dsimp only at hI ht hu0 ih ⊢
          refine e_iload C dX1_cheapestAt_96 rfl ?_
          refine e_aload_n C dX1_cheapestAt_98 rfl ?_
          refine e_getI C f_X1_27 sh_4 dX1_cheapestAt_99 ?_
          rw [show mI (CM M f1 1 u1 v1 o1 s1 c1 r1) 4 5 = mI M 4 5 from rfl, hnb]
          refine e_icmp_ge C (tgt := 122) dX1_cheapestAt_102 (by decide) (by omega) (by omega) (fun h_102 => by exfalso; omega) (fun h_102 => ?_)
          refine e_lload C dX1_cheapestAt_105 rfl ?_
          refine e_aload_n C dX1_cheapestAt_107 rfl ?_
          refine e_iload C dX1_cheapestAt_108 rfl ?_
          refine e_callV C (c_insert (M := stI (wrL M 8 f1) 4 8 1) (u := u1) (v := v1) (o := o1) (sl := s1) (cf := c1) (rc := r1) (w := wO M ns q) (B := 444355748991700) (k := i) hW hns hn16 (by omega) (fun b e hb he => hw b e (by omega) he) (fun b e hb he => (hB q b e hq (by omega) he).1) (fun b e hb he => (hB q b e hq (by omega) he).2) (by decide) hI (hu0 i (Nat.le_refl _) hi)) mt_X1_insert s_X1_140 dX1_cheapestAt_110 1 sh_4 rfl (fun r3 M3 hq3 => ?_)
          obtain ⟨z3, u3, v3, o3, s3, c3, rc3, rfl, rfl, hI3, hs3, hu3⟩ := hq3
          dsimp only [Option.toList_some, List.singleton_append]
          refine e_ladd C dX1_cheapestAt_113 ?_
          refine e_lstore C dX1_cheapestAt_114 ?_
          refine e_iinc C dX1_cheapestAt_116 rfl ?_
          refine e_goto C (tgt := 96) dX1_cheapestAt_119 (by decide) ?_
          exact ih (tt + z3, u3, v3, o3, s3, c3, rc3) ⟨hI3, by dsimp only; omega, fun b hb1 hb2 => by dsimp only; rw [hu3 b (by omega)]; exact hu0 b (by omega) hb2⟩
      refine e_aload_n C dX1_cheapestAt_85 rfl ?_
      refine e_callV C (c_clearPrices (M := stI (wrL M 8 f1) 4 8 1) (u := u) (v := v) (o := o) (sl := sl) (cf := cf) (rc := rc) hW hns hn16 hnb hn8) mt_X1_clearPrices s_X1_137 dX1_cheapestAt_86 1 sh_4 rfl (fun r4 M4 hq4 => ?_)
      obtain ⟨rfl, hM4⟩ := hq4
      subst M4
      dsimp only [Option.toList_none, List.nil_append]
      refine e_lload C dX1_cheapestAt_89 rfl ?_
      refine e_lstore C dX1_cheapestAt_91 ?_
      refine e_iconst C dX1_cheapestAt_93 ?_
      refine e_istore C dX1_cheapestAt_94 ?_
      refine loop 0 (stO M q, fil u 0 nb, fil v 0 (ns + 1), fil o (-1) (ns + 1), sl, cf, rc) (by omega) ⟨⟨fun b e hb => absurd hb (Nat.not_lt_zero b), fun e he => by dsimp only; rw [fil_i (by omega)]; exact Int.le_refl _, fil_i (by omega), fil_i (by omega), fun e he _ => fil_i (by omega), fun e he hne => absurd (fil_i (by omega)) hne, fun e e2 he _ hne => absurd (fil_i (by omega)) hne, fun b hb => absurd hb (Nat.not_lt_zero b)⟩, ?_, fun b _ hb => fil_i hb⟩
      dsimp only
      rw [sg_congr (f := fil v 0 (ns + 1)) (h := fun _ => 0) (fun e he => fil_i (by omega))]
      have h2 := sg_ub (f := fun _ => (0 : Int)) (b := 0) (n := ns) (fun _ _ => Int.le_refl _)
      have h3 := sg_lb (f := fun _ => (0 : Int)) (b := 0) (n := ns) (fun _ _ => Int.le_refl _)
      simp only [sg]; omega
end
section
/-! ===== what a laying costs, and its key ===== -/
/-- boxes: x, y, code; spots: x, y, code, always; weights: move, far, code, miss, extra -/
abbrev pB : Type := (Nat → Int) × (Nat → Int) × (Nat → Int)
abbrev pS : Type := (Nat → Int) × (Nat → Int) × (Nat → Int) × (Nat → Int)
abbrev pWt : Type := Int × Int × Int × Int × Int
/-- box b on spot s by move q -/
def ly (w : pWt) (A : pB) (Z : pS) (q b s : Nat) : Int := w.2.1 * (((A.1 b - Z.1 s + dxo q).natAbs : Int) + ((A.2.1 b - Z.2.1 s + dyo q).natAbs : Int)) + (if A.2.2 b = Z.2.2.1 s then 0 else w.2.2.1)
/-- nothing on spot s -/
def msv (w : pWt) (Z : pS) (s : Nat) : Int := if Z.2.2.2 s = 0 then w.2.2.2.1 / 2 else w.2.2.2.1
/-- what box b adds, on column c of ns (ns: not laid) -/
def gC (w : pWt) (ns : Nat) (A : pB) (Z : pS) (q b c : Nat) : Int := if c < ns then ly w A Z q b c - msv w Z c else w.2.2.2.2
def dgt (ns c : Nat) : Int := if c < ns then (c : Int) else 16
def gW (w : pWt) (ns : Nat) (A : pB) (Z : pS) (q b c : Nat) : Int := gC w ns A Z q b c * 341812114609 + dgt ns c * 17 ^ (7 - b)
def mvc (w : pWt) (q : Nat) : Int := w.1 * (((dxo q).natAbs : Int) + ((dyo q).natAbs : Int))
/-- the cost of a laying -/
def cst (w : pWt) (nb ns : Nat) (A : pB) (Z : pS) (q : Nat) (φ : Nat → Nat) : Int := mvc w q + sg (msv w Z) ns + sg (fun b => gC w ns A Z q b (φ b)) nb
/-- its key: cost, move, spots -/
def key (w : pWt) (nb ns : Nat) (A : pB) (Z : pS) (q : Nat) (φ : Nat → Nat) : Int := (sg (msv w Z) ns + mvc w q) * 341812114609 + (q : Int) * 6975757441 + sg (fun b => gW w ns A Z q b (φ b)) nb
def isKey (w : pWt) (nb ns : Nat) (A : pB) (Z : pS) (K : Int) : Prop := (∀ q, q < 49 → ∀ φ, vA nb ns φ → K ≤ key w nb ns A Z q φ) ∧ ∃ q, q < 49 ∧ ∃ φ, vA nb ns φ ∧ K = key w nb ns A Z q φ
theorem isKey_one {w : pWt} {nb ns : Nat} {A : pB} {Z : pS} {K J : Int} (h : isKey w nb ns A Z K) (h2 : isKey w nb ns A Z J) : K = J := by
  obtain ⟨a1, q1, b1, f1, c1, d1⟩ := h
  obtain ⟨a2, q2, b2, f2, c2, d2⟩ := h2
  have e1 := a1 q2 b2 f2 c2
  have e2 := a2 q1 b1 f1 c1
  omega
def wtOk (w : pWt) : Prop := (0 ≤ w.1 ∧ w.1 ≤ 9) ∧ (0 ≤ w.2.1 ∧ w.2.1 ≤ 9) ∧ (0 ≤ w.2.2.1 ∧ w.2.2.1 ≤ 99) ∧ (0 ≤ w.2.2.2.1 ∧ w.2.2.2.1 ≤ 99) ∧ (0 ≤ w.2.2.2.2 ∧ w.2.2.2.2 ≤ 99)
def bxOk (nb : Nat) (A : pB) : Prop := ∀ b, b < nb → (0 ≤ A.1 b ∧ A.1 b ≤ 63) ∧ (0 ≤ A.2.1 b ∧ A.2.1 b ≤ 63) ∧ (1 ≤ A.2.2 b ∧ A.2.2 b ≤ 99)
def spOk (ns : Nat) (Z : pS) : Prop := ∀ s, s < ns → (0 ≤ Z.1 s ∧ Z.1 s ≤ 63) ∧ (0 ≤ Z.2.1 s ∧ Z.2.1 s ≤ 63) ∧ (1 ≤ Z.2.2.1 s ∧ Z.2.2.1 s ≤ 99) ∧ (Z.2.2.2 s = 0 ∨ Z.2.2.2 s = 1)
theorem dxo_r {q : Nat} (h : q < 49) : -3 ≤ dxo q ∧ dxo q ≤ 3 := by unfold dxo; omega
theorem dyo_r {q : Nat} (h : q < 49) : -3 ≤ dyo q ∧ dyo q ≤ 3 := by unfold dyo; omega
theorem msv_r {w : pWt} (h : wtOk w) (Z : pS) (s : Nat) : 0 ≤ msv w Z s ∧ msv w Z s ≤ 99 := by
  have := h.2.2.2.1
  unfold msv; split <;> omega
theorem ly_r {w : pWt} {nb ns q b s : Nat} {A : pB} {Z : pS} (hw : wtOk w) (hA : bxOk nb A) (hZ : spOk ns Z) (hq : q < 49) (hb : b < nb) (hs : s < ns) : 0 ≤ ly w A Z q b s ∧ ly w A Z q b s ≤ 1287 := by
  obtain ⟨a1, a2, a3⟩ := hA b hb
  obtain ⟨z1, z2, z3, z4⟩ := hZ s hs
  have h1 := dxo_r hq
  have h2 := dyo_r hq
  have hd : 0 ≤ ((A.1 b - Z.1 s + dxo q).natAbs : Int) + ((A.2.1 b - Z.2.1 s + dyo q).natAbs : Int) ∧ ((A.1 b - Z.1 s + dxo q).natAbs : Int) + ((A.2.1 b - Z.2.1 s + dyo q).natAbs : Int) ≤ 132 := by omega
  have hf := hw.2.1
  have e1 := Int.mul_nonneg hf.1 hd.1
  have e2 : w.2.1 * (((A.1 b - Z.1 s + dxo q).natAbs : Int) + ((A.2.1 b - Z.2.1 s + dyo q).natAbs : Int)) ≤ 9 * 132 := Int.mul_le_mul hf.2 hd.2 hd.1 (by decide)
  have hc := hw.2.2.1
  unfold ly; split <;> omega
theorem gC_r {w : pWt} {nb ns q b c : Nat} {A : pB} {Z : pS} (hw : wtOk w) (hA : bxOk nb A) (hZ : spOk ns Z) (hq : q < 49) (hb : b < nb) : -99 ≤ gC w ns A Z q b c ∧ gC w ns A Z q b c ≤ 1287 := by
  unfold gC
  split
  · next h =>
    have := ly_r hw hA hZ hq hb h
    have := msv_r hw Z c
    omega
  · have := hw.2.2.2.2; omega
theorem p17_r (b : Nat) : (1 : Int) ≤ 17 ^ (7 - b) ∧ (17 : Int) ^ (7 - b) ≤ 410338673 := by
  rcases Nat.lt_or_ge b 8 with h | h
  · rcases (show b = 0 ∨ b = 1 ∨ b = 2 ∨ b = 3 ∨ b = 4 ∨ b = 5 ∨ b = 6 ∨ b = 7 by omega) with rfl | rfl | rfl | rfl | rfl | rfl | rfl | rfl <;> decide
  · rw [show 7 - b = 0 by omega]; decide
theorem dgt_r {ns c : Nat} (h : ns ≤ 16) : 0 ≤ dgt ns c ∧ dgt ns c ≤ 16 := by unfold dgt; split <;> omega
theorem dp_r {ns c : Nat} (h : ns ≤ 16) (b : Nat) : 0 ≤ dgt ns c * 17 ^ (7 - b) ∧ dgt ns c * 17 ^ (7 - b) ≤ 6565418768 := by
  have h1 := p17_r b
  have h2 := dgt_r (c := c) h
  have e1 := Int.mul_nonneg h2.1 (show (0 : Int) ≤ 17 ^ (7 - b) by omega)
  have e2 : dgt ns c * 17 ^ (7 - b) ≤ 16 * 410338673 := Int.mul_le_mul h2.2 h1.2 (by omega) (by decide)
  omega
theorem gW_r {w : pWt} {nb ns q b c : Nat} {A : pB} {Z : pS} (hw : wtOk w) (hA : bxOk nb A) (hZ : spOk ns Z) (hq : q < 49) (hb : b < nb) (hn : ns ≤ 16) : -444355748991700 ≤ gW w ns A Z q b c ∧ gW w ns A Z q b c ≤ 444355748991700 := by
  have h1 := gC_r (c := c) hw hA hZ hq hb
  have h2 := dp_r (c := c) hn b
  unfold gW; omega
theorem mvc_r {w : pWt} {q : Nat} (hw : wtOk w) (hq : q < 49) : 0 ≤ mvc w q ∧ mvc w q ≤ 54 := by
  have h1 := dxo_r hq
  have h2 := dyo_r hq
  have hab : 0 ≤ ((dxo q).natAbs : Int) + ((dyo q).natAbs : Int) ∧ ((dxo q).natAbs : Int) + ((dyo q).natAbs : Int) ≤ 6 := by omega
  have e1 := Int.mul_nonneg hw.1.1 hab.1
  have e2 : w.1 * (((dxo q).natAbs : Int) + ((dyo q).natAbs : Int)) ≤ 9 * 6 := Int.mul_le_mul hw.1.2 hab.2 hab.1 (by decide)
  unfold mvc; omega
theorem smv_r {w : pWt} (hw : wtOk w) (Z : pS) {ns : Nat} (hn : ns ≤ 16) : 0 ≤ sg (msv w Z) ns ∧ sg (msv w Z) ns ≤ 1584 := by
  have h1 := sg_nonneg (f := msv w Z) (n := ns) (fun i _ => (msv_r hw Z i).1)
  have h2 := sg_ub (f := msv w Z) (b := 99) (n := ns) (fun i _ => (msv_r hw Z i).2)
  omega
/-- the boxes' digits, below a unit of the move -/
def dgs (nb ns : Nat) (φ : Nat → Nat) : Int := sg (fun b => dgt ns (φ b) * 17 ^ (7 - b)) nb
theorem key_eq (w : pWt) (nb ns : Nat) (A : pB) (Z : pS) (q : Nat) (φ : Nat → Nat) : key w nb ns A Z q φ = cst w nb ns A Z q φ * 341812114609 + (q : Int) * 6975757441 + dgs nb ns φ := by
  unfold key cst dgs gW
  rw [sg_add]
  have e : sg (fun b => gC w ns A Z q b (φ b) * 341812114609) nb = sg (fun b => gC w ns A Z q b (φ b)) nb * 341812114609 := by
    rw [Int.mul_comm (sg _ nb), ← sg_mul]
    exact sg_congr (fun b _ => Int.mul_comm _ _)
  rw [e]; omega
theorem dgs_r {nb ns : Nat} (h8 : nb ≤ 8) (hn : ns ≤ 16) (φ : Nat → Nat) : 0 ≤ dgs nb ns φ ∧ dgs nb ns φ < 6975757441 := by
  have h0 : 0 ≤ dgs nb ns φ := sg_nonneg (fun b _ => (dp_r hn b).1)
  refine ⟨h0, ?_⟩
  have h1 : dgs nb ns φ ≤ sg (fun b => 16 * 17 ^ (7 - b)) nb := sg_le (fun b _ => Int.mul_le_mul_of_nonneg_right (dgt_r hn).2 (by have := p17_r b; omega))
  have h2 : sg (fun b => 16 * 17 ^ (7 - b)) nb < (6975757441 : Int) := by
    rcases (show nb = 0 ∨ nb = 1 ∨ nb = 2 ∨ nb = 3 ∨ nb = 4 ∨ nb = 5 ∨ nb = 6 ∨ nb = 7 ∨ nb = 8 by omega) with rfl | rfl | rfl | rfl | rfl | rfl | rfl | rfl | rfl <;> decide
  omega
theorem cst_nn {w : pWt} {nb ns q : Nat} {A : pB} {Z : pS} {φ : Nat → Nat} (hw : wtOk w) (hA : bxOk nb A) (hZ : spOk ns Z) (hq : q < 49) (hφ : vA nb ns φ) : 0 ≤ cst w nb ns A Z q φ := by
  have h1 := hu_ge ns φ nb (fun c => if c < ns then -(msv w Z c) else 0) hφ (by simp) (fun c hc => by rw [if_pos hc]; have := (msv_r hw Z c).1; omega)
  have h2 : sg (fun c => if c < ns then -(msv w Z c) else 0) ns = -1 * sg (msv w Z) ns := by
    rw [← sg_mul]; exact sg_congr (fun c hc => by rw [if_pos hc]; omega)
  have h3 : sg (fun b => if φ b < ns then -(msv w Z (φ b)) else 0) nb ≤ sg (fun b => gC w ns A Z q b (φ b)) nb := sg_le (fun b hb => by
    unfold gC
    split
    · next h => have := (ly_r hw hA hZ hq hb h).1; omega
    · have := hw.2.2.2.2; omega)
  have h4 := mvc_r hw hq
  unfold cst
  omega
theorem cst_ub {w : pWt} {nb ns q : Nat} {A : pB} {Z : pS} {φ : Nat → Nat} (hw : wtOk w) (hA : bxOk nb A) (hZ : spOk ns Z) (hq : q < 49) (h8 : nb ≤ 8) (hn : ns ≤ 16) : cst w nb ns A Z q φ ≤ 12000 := by
  have h1 := sg_ub (f := fun b => gC w ns A Z q b (φ b)) (b := 1287) (n := nb) (fun b hb => (gC_r hw hA hZ hq hb).2)
  have h2 := mvc_r hw hq
  have h3 := smv_r hw Z hn
  unfold cst; omega
theorem key_nn {w : pWt} {nb ns q : Nat} {A : pB} {Z : pS} {φ : Nat → Nat} (hw : wtOk w) (hA : bxOk nb A) (hZ : spOk ns Z) (hq : q < 49) (h8 : nb ≤ 8) (hn : ns ≤ 16) (hφ : vA nb ns φ) : 0 ≤ key w nb ns A Z q φ ∧ key w nb ns A Z q φ ≤ 5000000000000000 := by
  rw [key_eq]
  have h1 := cst_nn hw hA hZ hq hφ
  have h2 := cst_ub (φ := φ) hw hA hZ hq h8 hn
  have h3 := dgs_r h8 hn φ
  omega
theorem vA_none (nb ns : Nat) : vA nb ns (fun _ => ns) := ⟨fun _ _ => Nat.le_refl _, fun _ _ _ _ _ _ => rfl⟩
theorem isKey_r {w : pWt} {nb ns : Nat} {A : pB} {Z : pS} {K : Int} (hw : wtOk w) (hA : bxOk nb A) (hZ : spOk ns Z) (h8 : nb ≤ 8) (hn : ns ≤ 16) (h : isKey w nb ns A Z K) : 0 ≤ K ∧ K ≤ 5000000000000000 := by
  obtain ⟨-, q, hq, φ, hφ, e⟩ := h
  rw [e]; exact key_nn hw hA hZ hq h8 hn hφ
theorem gW_congr {w : pWt} {ns : Nat} {A A' : pB} {Z Z' : pS} {q b c : Nat} (hA : A.1 b = A'.1 b ∧ A.2.1 b = A'.2.1 b ∧ A.2.2 b = A'.2.2 b) (hZ : ∀ s, s < ns → Z.1 s = Z'.1 s ∧ Z.2.1 s = Z'.2.1 s ∧ Z.2.2.1 s = Z'.2.2.1 s ∧ Z.2.2.2 s = Z'.2.2.2 s) : gC w ns A Z q b c = gC w ns A' Z' q b c := by
  unfold gC
  split
  · next h =>
    obtain ⟨z1, z2, z3, z4⟩ := hZ c h
    unfold ly msv
    rw [hA.1, hA.2.1, hA.2.2, z1, z2, z3, z4]
  · rfl
theorem msv_congr {w : pWt} {Z Z' : pS} {s : Nat} (h : Z.2.2.2 s = Z'.2.2.2 s) : msv w Z s = msv w Z' s := by unfold msv; rw [h]
theorem cst_congr {w : pWt} {nb ns : Nat} {A A' : pB} {Z Z' : pS} (hA : ∀ b, b < nb → A.1 b = A'.1 b ∧ A.2.1 b = A'.2.1 b ∧ A.2.2 b = A'.2.2 b) (hZ : ∀ s, s < ns → Z.1 s = Z'.1 s ∧ Z.2.1 s = Z'.2.1 s ∧ Z.2.2.1 s = Z'.2.2.1 s ∧ Z.2.2.2 s = Z'.2.2.2 s) (q : Nat) (φ : Nat → Nat) : cst w nb ns A Z q φ = cst w nb ns A' Z' q φ := by
  unfold cst
  rw [sg_congr (f := msv w Z) (h := msv w Z') (fun s hs => msv_congr (hZ s hs).2.2.2), sg_congr (f := fun b => gC w ns A Z q b (φ b)) (h := fun b => gC w ns A' Z' q b (φ b)) (fun b hb => gW_congr (hA b hb) hZ)]
theorem key_congr {w : pWt} {nb ns : Nat} {A A' : pB} {Z Z' : pS} (hA : ∀ b, b < nb → A.1 b = A'.1 b ∧ A.2.1 b = A'.2.1 b ∧ A.2.2 b = A'.2.2 b) (hZ : ∀ s, s < ns → Z.1 s = Z'.1 s ∧ Z.2.1 s = Z'.2.1 s ∧ Z.2.2.1 s = Z'.2.2.1 s ∧ Z.2.2.2 s = Z'.2.2.2 s) (q : Nat) (φ : Nat → Nat) : key w nb ns A Z q φ = key w nb ns A' Z' q φ := by
  rw [key_eq, key_eq, cst_congr hA hZ]
theorem isKey_congr {w : pWt} {nb ns : Nat} {A A' : pB} {Z Z' : pS} {K : Int} (hA : ∀ b, b < nb → A.1 b = A'.1 b ∧ A.2.1 b = A'.2.1 b ∧ A.2.2 b = A'.2.2 b) (hZ : ∀ s, s < ns → Z.1 s = Z'.1 s ∧ Z.2.1 s = Z'.2.1 s ∧ Z.2.2.1 s = Z'.2.2.1 s ∧ Z.2.2.2 s = Z'.2.2.2 s) (h : isKey w nb ns A Z K) : isKey w nb ns A' Z' K := by
  refine ⟨fun q hq φ hφ => ?_, ?_⟩
  · rw [← key_congr hA hZ]; exact h.1 q hq φ hφ
  · obtain ⟨q, hq, φ, hφ, e⟩ := h.2
    exact ⟨q, hq, φ, hφ, by rw [← key_congr hA hZ]; exact e⟩
end
section
/-! ===== setting up ===== -/
def shB (M : pMem) (a : Nat) : pB := (mI M (a + 2), mI M (a + 3), mI M (a + 1))
def shS (M : pMem) (a : Nat) : pS := (mI M (a + 2), mI M (a + 3), mI M (a + 1), mI M (a + 4))
def wtC (M : pMem) : pWt := (mI M 4 0, mI M 4 1, mI M 4 2, mI M 4 3, mI M 4 4)
def SM (M : pMem) (am : Int) (r5 r6 r7 r8 : Nat → Int) : pMem := wrL (wrL (wrI (wrI (stL M 4 7 am) 5 r5) 6 r6) 7 r7) 8 r8
section PSM
variable {M : pMem} {am : Int} {r5 r6 r7 r8 : Nat → Int}
theorem SM_I {a : Nat} (j : Nat) (h : a ≠ 5 ∧ a ≠ 6) : mI (SM M am r5 r6 r7 r8) a j = mI M a j := by
  show (if a = 6 then r6 j else if a = 5 then r5 j else M.1 a j) = M.1 a j
  rw [if_neg h.2, if_neg h.1]
theorem SM_am (x : Int) : stL (SM M am r5 r6 r7 r8) 4 7 x = SM M x r5 r6 r7 r8 := by
  unfold SM wrL wrI stL
  simp only [Prod.mk.injEq, and_true, true_and]
  funext b i; (repeat' split) <;> simp_all
theorem SM_5 (j : Nat) (x : Int) : stI (SM M am r5 r6 r7 r8) 5 j x = SM M am (up r5 j x) r6 r7 r8 := by
  unfold SM wrL wrI stL stI up
  simp only [Prod.mk.injEq, and_true]
  funext b i; (repeat' split) <;> simp_all
theorem SM_6 (j : Nat) (x : Int) : stI (SM M am r5 r6 r7 r8) 6 j x = SM M am r5 (up r6 j x) r7 r8 := by
  unfold SM wrL wrI stL stI up
  simp only [Prod.mk.injEq, and_true]
  funext b i; (repeat' split) <;> simp_all
theorem SM_7 (j : Nat) (x : Int) : stL (SM M am r5 r6 r7 r8) 7 j x = SM M am r5 r6 (up r7 j x) r8 := by
  unfold SM wrL wrI stL up
  simp only [Prod.mk.injEq, and_true, true_and]
  funext b i; (repeat' split) <;> simp_all
theorem SM_8 (j : Nat) (x : Int) : stL (SM M am r5 r6 r7 r8) 8 j x = SM M am r5 r6 r7 (up r8 j x) := by
  unfold SM wrL wrI stL up
  simp only [Prod.mk.injEq, and_true, true_and]
  funext b i; (repeat' split) <;> simp_all
theorem SM_e : M = SM M (mL M 4 7) (mI M 5) (mI M 6) (mL M 7) (mL M 8) := by
  unfold SM
  have h1 : ∀ (N : pMem) (a : Nat) (f : Nat → Int), f = mI N a → wrI N a f = N := fun N a f h => by rw [h]; exact wrI_e N a
  have h2 : ∀ (N : pMem) (a : Nat) (f : Nat → Int), f = mL N a → wrL N a f = N := fun N a f h => by rw [h]; exact wrL_e N a
  have h3 : stL M 4 7 (mL M 4 7) = M := by
    unfold stL
    have : (fun b j => if b = 4 ∧ j = 7 then mL M 4 7 else M.2.1 b j) = M.2.1 := by
      funext b j
      split
      · next e => rw [e.1, e.2]; rfl
      · rfl
    rw [this]
  rw [h3, h1 M 5 _ rfl, h1 M 6 _ rfl, h2 M 7 _ rfl, h2 M 8 _ rfl]
end PSM
def suV (w : pWt) (A : pB) (Z : pS) (i c : Nat) : Int := ((if A.2.2 i = Z.2.2.1 c then 0 else w.2.2.1) - msv w Z c) * 341812114609 + (c : Int) * 17 ^ (7 - i)
def suE (w : pWt) (A : pB) (Z : pS) (r5 r6 r7 : Nat → Int) (i c : Nat) : Prop := r5 (i * 17 + c) = A.1 i - Z.1 c ∧ r6 (i * 17 + c) = A.2.1 i - Z.2.1 c ∧ r7 (i * 17 + c) = suV w A Z i c
def suI (w : pWt) (nb : Nat) (A : pB) (Z : pS) (s b : Nat) (r5 r6 r7 : Nat → Int) : Prop := (∀ c i, c < s → i < nb → suE w A Z r5 r6 r7 i c) ∧ ∀ i, i < b → suE w A Z r5 r6 r7 i s
def suP (w : pWt) (ns nb : Nat) (A : pB) (Z : pS) (am : Int) (r5 r6 r7 r8 : Nat → Int) : Prop := am = sg (msv w Z) ns ∧ (∀ c i, c < ns → i < nb → suE w A Z r5 r6 r7 i c) ∧ ∀ i, i < nb → r8 (i * 17 + ns) = w.2.2.2.2 * 341812114609 + 16 * 17 ^ (7 - i)
theorem suE_up {w : pWt} {A : pB} {Z : pS} {r5 r6 r7 : Nat → Int} {i c j : Nat} {x z v : Int} (h : suE w A Z r5 r6 r7 i c) (hj : i * 17 + c ≠ j) : suE w A Z (up r5 j x) (up r6 j z) (up r7 j v) i c := by
  unfold suE at h ⊢
  rw [up_n hj, up_n hj, up_n hj]; exact h
theorem c_setUp {g : pG} {M : pMem} {a e Na Ne : Nat} (hW : pW M) {ns nb : Nat} (hns : mI M 4 6 = (ns : Int)) (hn16 : ns ≤ 16) (hnb : mI M 4 5 = (nb : Int)) (hn8 : nb ≤ 8) (hA : pSh M a Na) (hE : pSh M e Ne) (ha : 15 ≤ a) (he : 15 ≤ e) (hNa : nb ≤ Na ∧ Na ≤ 16) (hNe : ns ≤ Ne ∧ Ne ≤ 16) (hw : wtOk (wtC M)) (hbx : bxOk nb (shB M a)) (hsp : spOk ns (shS M e)) :
    pCn g 1 0 0 yX1_setUp cX1_setUp 8 none SH SH M [.inr (.inr 4), .inr (.inr a), .inr (.inr e)] (fun r M' => ∃ (am : Int) (r5 r6 r7 r8 : Nat → Int), r = none ∧ M' = SM M am r5 r6 r7 r8 ∧ suP (wtC M) ns nb (shB M a) (shS M e) am r5 r6 r7 r8) := by
  refine pCn_intro mt_X1_setUp (fun X C => ?_)
  have hw3 : 0 ≤ mI M 4 2 ∧ mI M 4 2 ≤ 99 := hw.2.2.1
  have hw4 : 0 ≤ mI M 4 3 ∧ mI M 4 3 ≤ 99 := hw.2.2.2.1
  have hw5 : 0 ≤ mI M 4 4 ∧ mI M 4 4 ≤ 99 := hw.2.2.2.2
  have l3 : ∀ (b : Nat) (s : Int × (Nat → Int) × (Nat → Int) × (Nat → Int) × (Nat → Int) × Option pV × Option pV × Option pV × Option pV), b ≤ nb → (s.1 = sg (msv (wtC M) (shS M e)) ns ∧ (∀ c i, c < ns → i < nb → suE (wtC M) (shB M a) (shS M e) s.2.1 s.2.2.1 s.2.2.2.1 i c) ∧ ∀ i, i < b → s.2.2.2.2.1 (i * 17 + ns) = (wtC M).2.2.2.2 * 341812114609 + 16 * 17 ^ (7 - i)) → pE g 8 X (pMQ g SH (fun r M' => ∃ (am : Int) (r5 r6 r7 r8 : Nat → Int), r = none ∧ M' = SM M am r5 r6 r7 r8 ∧ suP (wtC M) ns nb (shB M a) (shS M e) am r5 r6 r7 r8) X 0 0) SH (SM M s.1 s.2.1 s.2.2.1 s.2.2.2.1 s.2.2.2.2.1) 0 0 181 [some (.inr (.inr 4)), some (.inr (.inr a)), some (.inr (.inr e)), some (.inl (b : Int)), s.2.2.2.2.2.1, s.2.2.2.2.2.2.1, s.2.2.2.2.2.2.2.1, s.2.2.2.2.2.2.2.2] [] := by
    refine p_for nb _ _ ?_ ?_
    · rintro ⟨am, r5, r6, r7, r8, x4, x5, x6, x7⟩ ⟨h1, h2, h3⟩
      dsimp only at h1 h2 h3 ⊢
      refine e_iload_n C dX1_setUp_181 rfl ?_
      refine e_aload_n C dX1_setUp_182 rfl ?_
      refine e_getI C f_X1_27 sh_4 dX1_setUp_183 ?_
      rw [SM_I _ (by decide), hnb]
      refine e_icmp_ge C (tgt := 228) dX1_setUp_186 (by decide) (by omega) (by omega) (fun h_186 => ?_) (fun h_186 => by exfalso; omega)
      exact e_return C dX1_setUp_228 ⟨am, r5, r6, r7, r8, rfl, rfl, h1, h2, h3⟩
    · rintro b ⟨am, r5, r6, r7, r8, x4, x5, x6, x7⟩ hb ⟨h1, h2, h3⟩ ih
      dsimp only at h1 h2 h3 ih ⊢
      refine e_iload_n C dX1_setUp_181 rfl ?_
      refine e_aload_n C dX1_setUp_182 rfl ?_
      refine e_getI C f_X1_27 sh_4 dX1_setUp_183 ?_
      rw [SM_I _ (by decide), hnb]
      refine e_icmp_ge C (tgt := 228) dX1_setUp_186 (by decide) (by omega) (by omega) (fun h_186 => by exfalso; omega) (fun h_186 => ?_)
      refine e_aload_n C dX1_setUp_189 rfl ?_
      refine e_getR C f_X1_52 sh_4 (hW 4 12 8 rfl) dX1_setUp_190 ?_
      refine e_iload_n C dX1_setUp_193 rfl ?_
      refine e_bipush C dX1_setUp_194 ?_
      refine e_imul C dX1_setUp_196 ?_
      refine e_aload_n C dX1_setUp_197 rfl ?_
      refine e_getI C f_X1_30 sh_4 dX1_setUp_198 ?_
      rw [SM_I _ (by decide), hns]
      refine e_iadd C dX1_setUp_201 ?_
      refine e_aload_n C dX1_setUp_202 rfl ?_
      refine e_getI C f_X1_24 sh_4 dX1_setUp_203 ?_
      rw [SM_I _ (by decide)]
      refine e_i2l C dX1_setUp_206 (by omega) ?_
      refine e_ldc2 C (341812114609) k_X1_107 dX1_setUp_207 ?_
      refine e_lmul C dX1_setUp_210 ?_
      refine e_ldc2 C (16) k_X1_112 dX1_setUp_211 ?_
      refine e_getsN C rfl dX1_setUp_214 ?_
      refine e_iload_n C dX1_setUp_217 rfl ?_
      refine e_units C dX1_setUp_218 b rfl (by omega) ?_
      refine e_lmul C dX1_setUp_219 ?_
      refine e_ladd C dX1_setUp_220 ?_
      refine e_lastore C dX1_setUp_221 sh_8 (b * 17 + ns) (by omega) (by omega) ?_
      rw [SM_8]
      refine e_iinc C dX1_setUp_222 rfl ?_
      refine e_goto C (tgt := 181) dX1_setUp_225 (by decide) ?_
      refine ih (am, r5, r6, r7, up r8 (b * 17 + ns) (mI M 4 4 * 341812114609 + 16 * 17 ^ (7 - b)), x4, x5, x6, x7) ⟨h1, h2, fun i hi => ?_⟩
      dsimp only
      by_cases eq : i = b
      · subst eq; rw [up_s]; rfl
      · rw [up_n (by omega)]; exact h3 i (by omega)
  have l1 : ∀ (s : Nat) (t : Int × (Nat → Int) × (Nat → Int) × (Nat → Int) × (Nat → Int) × Option pV × Option pV × Option pV × Option pV), s ≤ ns → (t.1 = sg (msv (wtC M) (shS M e)) s ∧ suI (wtC M) nb (shB M a) (shS M e) s 0 t.2.1 t.2.2.1 t.2.2.2.1) → pE g 8 X (pMQ g SH (fun r M' => ∃ (am : Int) (r5 r6 r7 r8 : Nat → Int), r = none ∧ M' = SM M am r5 r6 r7 r8 ∧ suP (wtC M) ns nb (shB M a) (shS M e) am r5 r6 r7 r8) X 0 0) SH (SM M t.1 t.2.1 t.2.2.1 t.2.2.2.1 t.2.2.2.2.1) 0 0 7 [some (.inr (.inr 4)), some (.inr (.inr a)), some (.inr (.inr e)), some (.inl (s : Int)), t.2.2.2.2.2.1, t.2.2.2.2.2.2.1, t.2.2.2.2.2.2.2.1, t.2.2.2.2.2.2.2.2] [] := by
    refine p_for ns _ _ ?_ ?_
    · rintro ⟨am, r5, r6, r7, r8, x4, x5, x6, x7⟩ ⟨h1, h2⟩
      dsimp only at h1 h2 ⊢
      refine e_iload_n C dX1_setUp_7 rfl ?_
      refine e_aload_n C dX1_setUp_8 rfl ?_
      refine e_getI C f_X1_30 sh_4 dX1_setUp_9 ?_
      rw [SM_I _ (by decide), hns]
      refine e_icmp_ge C (tgt := 179) dX1_setUp_12 (by decide) (by omega) (by omega) (fun h_12 => ?_) (fun h_12 => by exfalso; omega)
      refine e_iconst C dX1_setUp_179 ?_
      refine e_istore_n C dX1_setUp_180 ?_
      exact l3 0 (am, r5, r6, r7, r8, x4, x5, x6, x7) (by omega) ⟨h1, h2.1, fun i hi => absurd hi (Nat.not_lt_zero i)⟩
    · rintro s ⟨am, r5, r6, r7, r8, x4, x5, x6, x7⟩ hs ⟨h1, h2⟩ ih
      dsimp only at h1 h2 ih ⊢
      obtain ⟨z1, z2, z3, z4⟩ := hsp s hs
      have z1' : 0 ≤ mI M (e + 2) s ∧ mI M (e + 2) s ≤ 63 := z1
      have z2' : 0 ≤ mI M (e + 3) s ∧ mI M (e + 3) s ≤ 63 := z2
      have z3' : 1 ≤ mI M (e + 1) s ∧ mI M (e + 1) s ≤ 99 := z3
      have z4' : mI M (e + 4) s = 0 ∨ mI M (e + 4) s = 1 := z4
      have hms := msv_r hw (shS M e) s
      have l2 : ∀ (b : Nat) (t : (Nat → Int) × (Nat → Int) × (Nat → Int) × Option pV × Option pV), b ≤ nb → suI (wtC M) nb (shB M a) (shS M e) s b t.1 t.2.1 t.2.2.1 → pE g 8 X (pMQ g SH (fun r M' => ∃ (am : Int) (r5 r6 r7 r8 : Nat → Int), r = none ∧ M' = SM M am r5 r6 r7 r8 ∧ suP (wtC M) ns nb (shB M a) (shS M e) am r5 r6 r7 r8) X 0 0) SH (SM M (am + msv (wtC M) (shS M e) s) t.1 t.2.1 t.2.2.1 r8) 0 0 54 [some (.inr (.inr 4)), some (.inr (.inr a)), some (.inr (.inr e)), some (.inl (s : Int)), some (.inl (msv (wtC M) (shS M e) s)), some (.inl (b : Int)), t.2.2.2.1, t.2.2.2.2] [] := by
        refine p_for nb _ _ ?_ ?_
        · rintro ⟨t5, t6, t7, y6, y7⟩ h3
          dsimp only at h3 ⊢
          refine e_iload C dX1_setUp_54 rfl ?_
          refine e_aload_n C dX1_setUp_56 rfl ?_
          refine e_getI C f_X1_27 sh_4 dX1_setUp_57 ?_
          rw [SM_I _ (by decide), hnb]
          refine e_icmp_ge C (tgt := 173) dX1_setUp_60 (by decide) (by omega) (by omega) (fun h_60 => ?_) (fun h_60 => by exfalso; omega)
          refine e_iinc C dX1_setUp_173 rfl ?_
          refine e_goto C (tgt := 7) dX1_setUp_176 (by decide) ?_
          refine ih (am + msv (wtC M) (shS M e) s, t5, t6, t7, r8, _, _, _, _) ⟨by dsimp only; simp only [sg]; rw [h1], fun c i hc hi => ?_, fun i hi => absurd hi (Nat.not_lt_zero i)⟩
          rcases Nat.lt_or_ge c s with q | q
          · exact h3.1 c i q hi
          · have : c = s := by omega
            subst this; exact h3.2 i hi
        · rintro b ⟨t5, t6, t7, y6, y7⟩ hb h3 ih2
          dsimp only at h3 ih2 ⊢
          obtain ⟨b1, b2, b3⟩ := hbx b hb
          have b1' : 0 ≤ mI M (a + 2) b ∧ mI M (a + 2) b ≤ 63 := b1
          have b2' : 0 ≤ mI M (a + 3) b ∧ mI M (a + 3) b ≤ 63 := b2
          have b3' : 1 ≤ mI M (a + 1) b ∧ mI M (a + 1) b ≤ 99 := b3
          have nx : suI (wtC M) nb (shB M a) (shS M e) s (b + 1) (up t5 (b * 17 + s) (mI M (a + 2) b - mI M (e + 2) s)) (up t6 (b * 17 + s) (mI M (a + 3) b - mI M (e + 3) s)) (up t7 (b * 17 + s) (suV (wtC M) (shB M a) (shS M e) b s)) := by
            refine ⟨fun c i hc hi => suE_up (h3.1 c i hc hi) (by omega), fun i hi => ?_⟩
            by_cases eq : i = b
            · subst eq; exact ⟨up_s, up_s, up_s⟩
            · exact suE_up (h3.2 i (by omega)) (by omega)
          by_cases hcd : mI M (a + 1) b = mI M (e + 1) s
          · have hv : suV (wtC M) (shB M a) (shS M e) b s = (0 - msv (wtC M) (shS M e) s) * 341812114609 + (s : Int) * 17 ^ (7 - b) := by unfold suV; rw [if_pos (show (shB M a).2.2 b = (shS M e).2.2.1 s from hcd)]
            rw [hv] at nx
            refine e_iload C dX1_setUp_54 rfl ?_
            refine e_aload_n C dX1_setUp_56 rfl ?_
            refine e_getI C f_X1_27 sh_4 dX1_setUp_57 ?_
            rw [SM_I _ (by decide), hnb]
            refine e_icmp_ge C (tgt := 173) dX1_setUp_60 (by decide) (by omega) (by omega) (fun h_60 => by exfalso; omega) (fun h_60 => ?_)
            refine e_iload C dX1_setUp_63 rfl ?_
            refine e_bipush C dX1_setUp_65 ?_
            refine e_imul C dX1_setUp_67 ?_
            refine e_iload_n C dX1_setUp_68 rfl ?_
            refine e_iadd C dX1_setUp_69 ?_
            refine e_istore C dX1_setUp_70 ?_
            refine e_aload_n C dX1_setUp_72 rfl ?_
            refine e_getR C f_X1_98 hA.1 hA.2.2.2.2.2.1 dX1_setUp_73 ?_
            refine e_iload C dX1_setUp_76 rfl ?_
            refine e_iaload C dX1_setUp_78 hA.2.1 _ rfl (by omega) ?_
            rw [SM_I _ (by omega)]
            refine e_aload_n C dX1_setUp_79 rfl ?_
            refine e_getR C f_X1_98 hE.1 hE.2.2.2.2.2.1 dX1_setUp_80 ?_
            refine e_iload_n C dX1_setUp_83 rfl ?_
            refine e_iaload C dX1_setUp_84 hE.2.1 _ rfl (by omega) ?_
            rw [SM_I _ (by omega)]
            refine e_icmp_ne C (tgt := 92) dX1_setUp_85 (by decide) (by omega) (by omega) (fun h_85 => by exact absurd hcd h_85) (fun h_85 => ?_)
            refine e_iconst C dX1_setUp_88 ?_
            refine e_goto C (tgt := 96) dX1_setUp_89 (by decide) ?_
            refine e_istore C dX1_setUp_96 ?_
            refine e_aload_n C dX1_setUp_98 rfl ?_
            refine e_getR C f_X1_41 sh_4 (hW 4 9 5 rfl) dX1_setUp_99 ?_
            refine e_iload C dX1_setUp_102 rfl ?_
            refine e_aload_n C dX1_setUp_104 rfl ?_
            refine e_getR C f_X1_101 hA.1 hA.2.2.2.2.2.2.1 dX1_setUp_105 ?_
            refine e_iload C dX1_setUp_108 rfl ?_
            refine e_iaload C dX1_setUp_110 hA.2.2.1 _ rfl (by omega) ?_
            rw [SM_I _ (by omega)]
            refine e_aload_n C dX1_setUp_111 rfl ?_
            refine e_getR C f_X1_101 hE.1 hE.2.2.2.2.2.2.1 dX1_setUp_112 ?_
            refine e_iload_n C dX1_setUp_115 rfl ?_
            refine e_iaload C dX1_setUp_116 hE.2.2.1 _ rfl (by omega) ?_
            rw [SM_I _ (by omega)]
            refine e_isub C dX1_setUp_117 ?_
            refine e_iastore C dX1_setUp_118 sh_5 (b * 17 + s) (by omega) (by omega) ?_
            rw [SM_5]
            refine e_aload_n C dX1_setUp_119 rfl ?_
            refine e_getR C f_X1_45 sh_4 (hW 4 10 6 rfl) dX1_setUp_120 ?_
            refine e_iload C dX1_setUp_123 rfl ?_
            refine e_aload_n C dX1_setUp_125 rfl ?_
            refine e_getR C f_X1_104 hA.1 hA.2.2.2.2.2.2.2.1 dX1_setUp_126 ?_
            refine e_iload C dX1_setUp_129 rfl ?_
            refine e_iaload C dX1_setUp_131 hA.2.2.2.1 _ rfl (by omega) ?_
            rw [SM_I _ (by omega)]
            refine e_aload_n C dX1_setUp_132 rfl ?_
            refine e_getR C f_X1_104 hE.1 hE.2.2.2.2.2.2.2.1 dX1_setUp_133 ?_
            refine e_iload_n C dX1_setUp_136 rfl ?_
            refine e_iaload C dX1_setUp_137 hE.2.2.2.1 _ rfl (by omega) ?_
            rw [SM_I _ (by omega)]
            refine e_isub C dX1_setUp_138 ?_
            refine e_iastore C dX1_setUp_139 sh_6 (b * 17 + s) (by omega) (by omega) ?_
            rw [SM_6]
            refine e_aload_n C dX1_setUp_140 rfl ?_
            refine e_getR C f_X1_48 sh_4 (hW 4 11 7 rfl) dX1_setUp_141 ?_
            refine e_iload C dX1_setUp_144 rfl ?_
            refine e_iload C dX1_setUp_146 rfl ?_
            refine e_iload C dX1_setUp_148 rfl ?_
            refine e_isub C dX1_setUp_150 ?_
            refine e_i2l C dX1_setUp_151 (by omega) ?_
            refine e_ldc2 C (341812114609) k_X1_107 dX1_setUp_152 ?_
            refine e_lmul C dX1_setUp_155 ?_
            refine e_iload_n C dX1_setUp_156 rfl ?_
            refine e_i2l C dX1_setUp_157 (by omega) ?_
            refine e_getsN C rfl dX1_setUp_158 ?_
            refine e_iload C dX1_setUp_161 rfl ?_
            refine e_units C dX1_setUp_163 b rfl (by omega) ?_
            refine e_lmul C dX1_setUp_164 ?_
            refine e_ladd C dX1_setUp_165 ?_
            refine e_lastore C dX1_setUp_166 sh_7 (b * 17 + s) (by omega) (by omega) ?_
            rw [SM_7]
            refine e_iinc C dX1_setUp_167 rfl ?_
            refine e_goto C (tgt := 54) dX1_setUp_170 (by decide) ?_
            exact ih2 (_, _, _, _, _) nx
          · have hv : suV (wtC M) (shB M a) (shS M e) b s = (mI M 4 2 - msv (wtC M) (shS M e) s) * 341812114609 + (s : Int) * 17 ^ (7 - b) := by unfold suV; rw [if_neg (show ¬ (shB M a).2.2 b = (shS M e).2.2.1 s from hcd)]; rfl
            rw [hv] at nx
            refine e_iload C dX1_setUp_54 rfl ?_
            refine e_aload_n C dX1_setUp_56 rfl ?_
            refine e_getI C f_X1_27 sh_4 dX1_setUp_57 ?_
            rw [SM_I _ (by decide), hnb]
            refine e_icmp_ge C (tgt := 173) dX1_setUp_60 (by decide) (by omega) (by omega) (fun h_60 => by exfalso; omega) (fun h_60 => ?_)
            refine e_iload C dX1_setUp_63 rfl ?_
            refine e_bipush C dX1_setUp_65 ?_
            refine e_imul C dX1_setUp_67 ?_
            refine e_iload_n C dX1_setUp_68 rfl ?_
            refine e_iadd C dX1_setUp_69 ?_
            refine e_istore C dX1_setUp_70 ?_
            refine e_aload_n C dX1_setUp_72 rfl ?_
            refine e_getR C f_X1_98 hA.1 hA.2.2.2.2.2.1 dX1_setUp_73 ?_
            refine e_iload C dX1_setUp_76 rfl ?_
            refine e_iaload C dX1_setUp_78 hA.2.1 _ rfl (by omega) ?_
            rw [SM_I _ (by omega)]
            refine e_aload_n C dX1_setUp_79 rfl ?_
            refine e_getR C f_X1_98 hE.1 hE.2.2.2.2.2.1 dX1_setUp_80 ?_
            refine e_iload_n C dX1_setUp_83 rfl ?_
            refine e_iaload C dX1_setUp_84 hE.2.1 _ rfl (by omega) ?_
            rw [SM_I _ (by omega)]
            refine e_icmp_ne C (tgt := 92) dX1_setUp_85 (by decide) (by omega) (by omega) (fun h_85 => ?_) (fun h_85 => by exact absurd (fun eq => hcd eq) h_85)
            refine e_aload_n C dX1_setUp_92 rfl ?_
            refine e_getI C f_X1_18 sh_4 dX1_setUp_93 ?_
            rw [SM_I _ (by decide)]
            refine e_istore C dX1_setUp_96 ?_
            refine e_aload_n C dX1_setUp_98 rfl ?_
            refine e_getR C f_X1_41 sh_4 (hW 4 9 5 rfl) dX1_setUp_99 ?_
            refine e_iload C dX1_setUp_102 rfl ?_
            refine e_aload_n C dX1_setUp_104 rfl ?_
            refine e_getR C f_X1_101 hA.1 hA.2.2.2.2.2.2.1 dX1_setUp_105 ?_
            refine e_iload C dX1_setUp_108 rfl ?_
            refine e_iaload C dX1_setUp_110 hA.2.2.1 _ rfl (by omega) ?_
            rw [SM_I _ (by omega)]
            refine e_aload_n C dX1_setUp_111 rfl ?_
            refine e_getR C f_X1_101 hE.1 hE.2.2.2.2.2.2.1 dX1_setUp_112 ?_
            refine e_iload_n C dX1_setUp_115 rfl ?_
            refine e_iaload C dX1_setUp_116 hE.2.2.1 _ rfl (by omega) ?_
            rw [SM_I _ (by omega)]
            refine e_isub C dX1_setUp_117 ?_
            refine e_iastore C dX1_setUp_118 sh_5 (b * 17 + s) (by omega) (by omega) ?_
            rw [SM_5]
            refine e_aload_n C dX1_setUp_119 rfl ?_
            refine e_getR C f_X1_45 sh_4 (hW 4 10 6 rfl) dX1_setUp_120 ?_
            refine e_iload C dX1_setUp_123 rfl ?_
            refine e_aload_n C dX1_setUp_125 rfl ?_
            refine e_getR C f_X1_104 hA.1 hA.2.2.2.2.2.2.2.1 dX1_setUp_126 ?_
            refine e_iload C dX1_setUp_129 rfl ?_
            refine e_iaload C dX1_setUp_131 hA.2.2.2.1 _ rfl (by omega) ?_
            rw [SM_I _ (by omega)]
            refine e_aload_n C dX1_setUp_132 rfl ?_
            refine e_getR C f_X1_104 hE.1 hE.2.2.2.2.2.2.2.1 dX1_setUp_133 ?_
            refine e_iload_n C dX1_setUp_136 rfl ?_
            refine e_iaload C dX1_setUp_137 hE.2.2.2.1 _ rfl (by omega) ?_
            rw [SM_I _ (by omega)]
            refine e_isub C dX1_setUp_138 ?_
            refine e_iastore C dX1_setUp_139 sh_6 (b * 17 + s) (by omega) (by omega) ?_
            rw [SM_6]
            refine e_aload_n C dX1_setUp_140 rfl ?_
            refine e_getR C f_X1_48 sh_4 (hW 4 11 7 rfl) dX1_setUp_141 ?_
            refine e_iload C dX1_setUp_144 rfl ?_
            refine e_iload C dX1_setUp_146 rfl ?_
            refine e_iload C dX1_setUp_148 rfl ?_
            refine e_isub C dX1_setUp_150 ?_
            refine e_i2l C dX1_setUp_151 (by omega) ?_
            refine e_ldc2 C (341812114609) k_X1_107 dX1_setUp_152 ?_
            refine e_lmul C dX1_setUp_155 ?_
            refine e_iload_n C dX1_setUp_156 rfl ?_
            refine e_i2l C dX1_setUp_157 (by omega) ?_
            refine e_getsN C rfl dX1_setUp_158 ?_
            refine e_iload C dX1_setUp_161 rfl ?_
            refine e_units C dX1_setUp_163 b rfl (by omega) ?_
            refine e_lmul C dX1_setUp_164 ?_
            refine e_ladd C dX1_setUp_165 ?_
            refine e_lastore C dX1_setUp_166 sh_7 (b * 17 + s) (by omega) (by omega) ?_
            rw [SM_7]
            refine e_iinc C dX1_setUp_167 rfl ?_
            refine e_goto C (tgt := 54) dX1_setUp_170 (by decide) ?_
            exact ih2 (_, _, _, _, _) nx
      have c37 : pE g 8 X (pMQ g SH (fun r M' => ∃ (am : Int) (r5 r6 r7 r8 : Nat → Int), r = none ∧ M' = SM M am r5 r6 r7 r8 ∧ suP (wtC M) ns nb (shB M a) (shS M e) am r5 r6 r7 r8) X 0 0) SH (SM M am r5 r6 r7 r8) 0 0 37 [some (.inr (.inr 4)), some (.inr (.inr a)), some (.inr (.inr e)), some (.inl (s : Int)), x4, x5, x6, x7] [.inl (msv (wtC M) (shS M e) s)] := by
        refine e_istore C dX1_setUp_37 ?_
        refine e_aload_n C dX1_setUp_39 rfl ?_
        refine e_dup C dX1_setUp_40 ?_
        refine e_getL C f_X1_33 sh_4 dX1_setUp_41 ?_
        rw [show mL (SM M am r5 r6 r7 r8) 4 7 = am from rfl]
        refine e_iload C dX1_setUp_44 rfl ?_
        refine e_i2l C dX1_setUp_46 (by omega) ?_
        refine e_ladd C dX1_setUp_47 ?_
        refine e_putL C f_X1_33 sh_4 (hd := dX1_setUp_48) (hfin := (fun CC T h => by obtain ⟨h1, -⟩ := h; cases h1; rfl)) ?_
        rw [SM_am]
        refine e_iconst C dX1_setUp_51 ?_
        refine e_istore C dX1_setUp_52 ?_
        exact l2 0 (r5, r6, r7, _, _) (by omega) h2
      refine e_iload_n C dX1_setUp_7 rfl ?_
      refine e_aload_n C dX1_setUp_8 rfl ?_
      refine e_getI C f_X1_30 sh_4 dX1_setUp_9 ?_
      rw [SM_I _ (by decide), hns]
      refine e_icmp_ge C (tgt := 179) dX1_setUp_12 (by decide) (by omega) (by omega) (fun h_12 => by exfalso; omega) (fun h_12 => ?_)
      refine e_aload_n C dX1_setUp_15 rfl ?_
      refine e_getR C f_X1_95 hE.1 hE.2.2.2.2.2.2.2.2 dX1_setUp_16 ?_
      refine e_iload_n C dX1_setUp_19 rfl ?_
      refine e_baload C dX1_setUp_20 hE.2.2.2.2.1 _ rfl (by omega) ?_
      rw [SM_I _ (by omega)]
      refine e_if_eq C (tgt := 31) dX1_setUp_21 (by decide) (by omega) (fun h_21 => ?_) (fun h_21 => ?_)
      · refine e_aload_n C dX1_setUp_31 rfl ?_
        refine e_getI C f_X1_21 sh_4 dX1_setUp_32 ?_
        rw [SM_I _ (by decide)]
        refine e_iconst C dX1_setUp_35 ?_
        refine e_idiv C dX1_setUp_36 (by omega) (by omega) (by omega) (by omega) ?_
        exact pE_to c37 rfl rfl (by unfold msv; first | (rw [if_pos (show (shS M e).2.2.2 s = 0 from h_21)]; rfl) | (rw [if_neg (show ¬ (shS M e).2.2.2 s = 0 from h_21)]; rfl))
      · refine e_aload_n C dX1_setUp_24 rfl ?_
        refine e_getI C f_X1_21 sh_4 dX1_setUp_25 ?_
        rw [SM_I _ (by decide)]
        refine e_goto C (tgt := 37) dX1_setUp_28 (by decide) ?_
        exact pE_to c37 rfl rfl (by unfold msv; first | (rw [if_pos (show (shS M e).2.2.2 s = 0 from h_21)]; rfl) | (rw [if_neg (show ¬ (shS M e).2.2.2 s = 0 from h_21)]; rfl))
  show pE g 8 X _ SH M 0 0 0 [some (.inr (.inr 4)), some (.inr (.inr a)), some (.inr (.inr e)), none, none, none, none, none] []
  refine e_aload_n C dX1_setUp_0 rfl ?_
  refine e_lconst C 0 dX1_setUp_1 ?_
  refine e_putL C f_X1_33 sh_4 (hd := dX1_setUp_2) (hfin := (fun CC T h => by obtain ⟨h1, -⟩ := h; cases h1; rfl)) ?_
  refine pE_M (show stL M 4 7 0 = SM M 0 (mI M 5) (mI M 6) (mL M 7) (mL M 8) from by rw [← SM_am (am := mL M 4 7), ← SM_e]) ?_
  refine e_iconst C dX1_setUp_5 ?_
  refine e_istore_n C dX1_setUp_6 ?_
  exact l1 0 (0, mI M 5, mI M 6, mL M 7, mL M 8, none, none, none, none) (by omega) ⟨rfl, fun c i hc => absurd hc (Nat.not_lt_zero c), fun i hi => absurd hi (Nat.not_lt_zero i)⟩
end
section
/-! ===== the cheapest laying ===== -/
/-- nothing but the layer's own cells has changed, and not its weights -/
def agO (M M' : pMem) : Prop := (∀ a j, (a < 4 ∨ 15 ≤ a) → mI M' a j = mI M a j ∧ mL M' a j = mL M a j) ∧ (∀ j, j < 5 → mI M' 4 j = mI M 4 j) ∧ ∀ a j, mR M' a j = mR M a j
theorem agO_rf (M : pMem) : agO M M := ⟨fun _ _ _ => ⟨rfl, rfl⟩, fun _ _ => rfl, fun _ _ => rfl⟩
theorem agO_tr {M N R : pMem} (h : agO M N) (h2 : agO N R) : agO M R := ⟨fun a j hh => ⟨((h2.1 a j hh).1).trans (h.1 a j hh).1, ((h2.1 a j hh).2).trans (h.1 a j hh).2⟩, fun j hj => (h2.2.1 j hj).trans (h.2.1 j hj), fun a j => (h2.2.2 a j).trans (h.2.2 a j)⟩
theorem agO_W {M N : pMem} (h : agO M N) (hW : pW M) : pW N := fun a i b hb => (h.2.2 a i).trans (hW a i b hb)
theorem agO_CM {M : pMem} {x z am : Int} {r5 r6 r7 r8 f u v o sl cf rc : Nat → Int} {c : Int} : agO M (CM (SM (stI (stI M 4 5 x) 4 6 z) am r5 r6 r7 r8) f c u v o sl cf rc) := by
  refine ⟨fun a j h => ⟨?_, ?_⟩, fun j h => ?_, fun a j => rfl⟩
  · unfold CM
    rw [LM_I _ (by omega), stI_n _ _ (by omega)]
    show mI (SM (stI (stI M 4 5 x) 4 6 z) am r5 r6 r7 r8) a j = _
    rw [SM_I _ (by omega), stI_n _ _ (by omega), stI_n _ _ (by omega)]
  · unfold CM
    rw [LM_L _ (by omega)]
    show mL (wrL (SM (stI (stI M 4 5 x) 4 6 z) am r5 r6 r7 r8) 8 f) a j = _
    rw [wrL_n _ _ _ (by omega)]
    unfold SM
    rw [wrL_n _ _ _ (by omega), wrL_n _ _ _ (by omega)]
    show mL (stL (stI (stI M 4 5 x) 4 6 z) 4 7 am) a j = _
    rw [stL_n _ _ (by omega)]; rfl
  · unfold CM
    rw [LM_I _ (by decide), stI_n _ _ (by omega)]
    show mI (SM (stI (stI M 4 5 x) 4 6 z) am r5 r6 r7 r8) 4 j = _
    rw [SM_I _ (by decide), stI_n _ _ (by omega), stI_n _ _ (by omega)]
theorem shB_st {M : pMem} {a : Nat} (h : 15 ≤ a) (i : Nat) (v : Int) : shB (stI M 4 i v) a = shB M a := by
  unfold shB
  have e : ∀ b, 15 ≤ b → mI (stI M 4 i v) b = mI M b := fun b hb => by funext j; exact stI_n _ _ (by omega)
  rw [e _ (by omega), e _ (by omega), e _ (by omega)]
theorem shS_st {M : pMem} {a : Nat} (h : 15 ≤ a) (i : Nat) (v : Int) : shS (stI M 4 i v) a = shS M a := by
  unfold shS
  have e : ∀ b, 15 ≤ b → mI (stI M 4 i v) b = mI M b := fun b hb => by funext j; exact stI_n _ _ (by omega)
  rw [e _ (by omega), e _ (by omega), e _ (by omega), e _ (by omega)]
theorem wO_gW {M : pMem} {w : pWt} {ns nb : Nat} {A : pB} {Z : pS} {am : Int} {r5 r6 r7 r8 : Nat → Int} (hP : suP w ns nb A Z am r5 r6 r7 r8) (hf : mI M 4 1 = w.2.1) {q b c : Nat} (hb : b < nb) (hc : c ≤ ns) : wO (SM M am r5 r6 r7 r8) ns q b c = gW w ns A Z q b c := by
  unfold wO gW gC dgt
  rcases Nat.lt_or_ge c ns with h | h
  · rw [if_pos h, if_pos h, if_pos h]
    obtain ⟨e5, e6, e7⟩ := hP.2.1 c b h hb
    show r7 (b * 17 + c) + mI M 4 1 * 341812114609 * (((r5 (b * 17 + c) + dxo q).natAbs : Int) + ((r6 (b * 17 + c) + dyo q).natAbs : Int)) = _
    rw [e5, e6, e7, hf]
    unfold suV ly
    rw [Int.mul_right_comm]
    omega
  · have e : c = ns := by omega
    subst e
    rw [if_neg (by omega), if_neg (by omega), if_neg (by omega)]
    exact hP.2.2 b hb
theorem key_sO {M : pMem} {w : pWt} {ns nb : Nat} {A : pB} {Z : pS} {am : Int} {r5 r6 r7 r8 : Nat → Int} (hP : suP w ns nb A Z am r5 r6 r7 r8) (hf : mI M 4 1 = w.2.1) (hm : mI M 4 0 = w.1) {q : Nat} {φ : Nat → Nat} (hφ : vA nb ns φ) : stO (SM M am r5 r6 r7 r8) q + sg (fun b => wO (SM M am r5 r6 r7 r8) ns q b (φ b)) nb = key w nb ns A Z q φ := by
  unfold key
  rw [sg_congr (fun b hb => wO_gW hP hf hb (hφ.1 b hb))]
  unfold stO mvc
  show (am + mI M 4 0 * _) * 341812114609 + _ + _ = _
  rw [hP.1, hm]
theorem c_cheapest {g : pG} {M : pMem} {a e Na Ne ca : Nat} (hW : pW M) {ns nb : Nat} (hca : mI M a 4 = (ca : Int)) (hce : mI M e 4 = (ns : Int)) (hcb : nb = if 8 < ca then 8 else ca) (hA : pSh M a Na) (hE : pSh M e Ne) (ha : 15 ≤ a) (he : 15 ≤ e) (hNa : ca ≤ Na ∧ Na ≤ 16) (hNe : ns ≤ Ne ∧ Ne ≤ 16) (hw : wtOk (wtC M)) (hbx : bxOk nb (shB M a)) (hsp : spOk ns (shS M e)) :
    pCn g 4 0 0 yX1_cheapest cX1_cheapest 6 (some .long) SH SH M [.inr (.inr 4), .inr (.inr a), .inr (.inr e)] (fun r M' => ∃ K : Int, r = some (.inr (.inl K)) ∧ isKey (wtC M) nb ns (shB M a) (shS M e) K ∧ agO M M') := by
  refine pCn_intro mt_X1_cheapest (fun X C => ?_)
  have h8 : nb ≤ 8 ∧ nb ≤ ca := by rw [hcb]; split <;> omega
  have en : (if (8 : Int) < (ca : Int) then (8 : Int) else (ca : Int)) = (nb : Int) := by rw [hcb]; split <;> split <;> omega
  have e16 : (if (16 : Int) < (ns : Int) then (16 : Int) else (ns : Int)) = (ns : Int) := by rw [if_neg (by omega)]
  have k6 : mI (stI (stI M 4 5 (nb : Int)) 4 6 (ns : Int)) 4 6 = (ns : Int) := stI_s _ _ _ _
  have k5 : mI (stI (stI M 4 5 (nb : Int)) 4 6 (ns : Int)) 4 5 = (nb : Int) := by rw [stI_n _ _ (by decide)]; exact stI_s _ _ _ _
  show pE g 6 X _ SH M 0 0 0 [some (.inr (.inr 4)), some (.inr (.inr a)), some (.inr (.inr e)), none, none, none] []
  refine e_aload_n C dX1_cheapest_0 rfl ?_
  refine e_aload_n C dX1_cheapest_1 rfl ?_
  refine e_getI C f_X1_74 hA.1 dX1_cheapest_2 ?_
  rw [hca]
  refine e_bipush C dX1_cheapest_5 ?_
  refine e_mmin C s_X1_79 dX1_cheapest_7 (by omega) (by omega) ?_
  rw [en]
  refine e_putI C f_X1_27 sh_4 (hd := dX1_cheapest_10) (hfin := (fun CC T h => by obtain ⟨h1, -⟩ := h; cases h1; rfl)) ?_
  refine e_aload_n C dX1_cheapest_13 rfl ?_
  refine e_aload_n C dX1_cheapest_14 rfl ?_
  refine e_getI C f_X1_74 hE.1 dX1_cheapest_15 ?_
  rw [stI_n _ _ (by omega), hce]
  refine e_bipush C dX1_cheapest_18 ?_
  refine e_mmin C s_X1_79 dX1_cheapest_20 (by omega) (by omega) ?_
  rw [e16]
  refine e_putI C f_X1_30 sh_4 (hd := dX1_cheapest_23) (hfin := (fun CC T h => by obtain ⟨h1, -⟩ := h; cases h1; rfl)) ?_
  refine e_aload_n C dX1_cheapest_26 rfl ?_
  refine e_aload_n C dX1_cheapest_27 rfl ?_
  refine e_aload_n C dX1_cheapest_28 rfl ?_
  refine e_callV C (c_setUp (M := stI (stI M 4 5 (nb : Int)) 4 6 (ns : Int)) (a := a) (e := e) hW k6 (by omega) k5 h8.1 hA hE ha he ⟨by omega, hNa.2⟩ hNe hw (by rw [shB_st ha, shB_st ha]; exact hbx) (by rw [shS_st he, shS_st he]; exact hsp)) mt_X1_setUp s_X1_85 dX1_cheapest_29 1 sh_4 rfl (fun r M1 hq => ?_)
  obtain ⟨am, r5, r6, r7, r8, rfl, rfl, hP⟩ := hq
  rw [shB_st ha, shB_st ha, shS_st he, shS_st he] at hP
  have hP : suP (wtC M) ns nb (shB M a) (shS M e) am r5 r6 r7 r8 := hP
  dsimp only [Option.toList_none, List.nil_append]
  generalize hMS : stI (stI M 4 5 (nb : Int)) 4 6 (ns : Int) = MS at k6 k5
  have f1 : mI MS 4 1 = (wtC M).2.1 := by rw [← hMS]; rfl
  have f0 : mI MS 4 0 = (wtC M).1 := by rw [← hMS]; rfl
  have fW : pW MS := by rw [← hMS]; exact hW
  have hsm := smv_r hw (shS M e) (ns := ns) (by omega)
  have g2 : mI (SM MS am r5 r6 r7 r8) 4 6 = (ns : Int) := k6
  have g3 : mI (SM MS am r5 r6 r7 r8) 4 5 = (nb : Int) := k5
  have g4 : 0 ≤ mI (SM MS am r5 r6 r7 r8) 4 1 ∧ mI (SM MS am r5 r6 r7 r8) 4 1 ≤ 9 := by rw [show mI (SM MS am r5 r6 r7 r8) 4 1 = mI MS 4 1 from rfl, f1]; exact hw.2.1
  have g5 : 0 ≤ mI (SM MS am r5 r6 r7 r8) 4 0 ∧ mI (SM MS am r5 r6 r7 r8) 4 0 ≤ 9 := by rw [show mI (SM MS am r5 r6 r7 r8) 4 0 = mI MS 4 0 from rfl, f0]; exact hw.1
  have g6 : 0 ≤ mL (SM MS am r5 r6 r7 r8) 4 7 ∧ mL (SM MS am r5 r6 r7 r8) 4 7 ≤ 1600 := by rw [show mL (SM MS am r5 r6 r7 r8) 4 7 = am from rfl, hP.1]; omega
  have g7 : ∀ b c, b < nb → c < ns → -63 ≤ mI (SM MS am r5 r6 r7 r8) 5 (b * 17 + c) ∧ mI (SM MS am r5 r6 r7 r8) 5 (b * 17 + c) ≤ 63 := fun b c hb hc => by
    rw [show mI (SM MS am r5 r6 r7 r8) 5 (b * 17 + c) = r5 (b * 17 + c) from rfl, (hP.2.1 c b hc hb).1]
    have := (hbx b hb).1
    have := (hsp c hc).1
    omega
  have g8 : ∀ b c, b < nb → c < ns → -63 ≤ mI (SM MS am r5 r6 r7 r8) 6 (b * 17 + c) ∧ mI (SM MS am r5 r6 r7 r8) 6 (b * 17 + c) ≤ 63 := fun b c hb hc => by
    rw [show mI (SM MS am r5 r6 r7 r8) 6 (b * 17 + c) = r6 (b * 17 + c) from rfl, (hP.2.1 c b hc hb).2.1]
    have := (hbx b hb).2.1
    have := (hsp c hc).2.1
    omega
  have g9 : ∀ o b c, o < 49 → b < nb → c ≤ ns → -444355748991700 ≤ wO (SM MS am r5 r6 r7 r8) ns o b c ∧ wO (SM MS am r5 r6 r7 r8) ns o b c ≤ 444355748991700 := fun o b c ho hb hc => by
    rw [wO_gW hP f1 hb hc]; exact gW_r hw hbx hsp ho hb (by omega)
  have hkn : ∀ q φ, q < 49 → vA nb ns φ → 0 ≤ stO (SM MS am r5 r6 r7 r8) q + sg (fun b => wO (SM MS am r5 r6 r7 r8) ns q b (φ b)) nb ∧ stO (SM MS am r5 r6 r7 r8) q + sg (fun b => wO (SM MS am r5 r6 r7 r8) ns q b (φ b)) nb ≤ 5000000000000000 := fun q φ hq hφ => by
    rw [key_sO hP f1 f0 hφ]; exact key_nn hw hbx hsp hq h8.1 (by omega) hφ
  refine pE_M (CM_e (SM MS am r5 r6 r7 r8)) ?_
  have loop : ∀ (i : Nat) (s : Int × (Nat → Int) × Int × (Nat → Int) × (Nat → Int) × (Nat → Int) × (Nat → Int) × (Nat → Int) × (Nat → Int)), i ≤ 49 → ((∀ b, b < nb → s.2.1 (b * 17 + ns) = mL (SM MS am r5 r6 r7 r8) 8 (b * 17 + ns)) ∧ (∀ q, q < i → ∀ φ, vA nb ns φ → s.1 ≤ key (wtC M) nb ns (shB M a) (shS M e) q φ) ∧ ∃ q, q < 49 ∧ ∃ φ, vA nb ns φ ∧ s.1 = key (wtC M) nb ns (shB M a) (shS M e) q φ) → pE g 6 X (pMQ g SH (fun r M' => ∃ K : Int, r = some (.inr (.inl K)) ∧ isKey (wtC M) nb ns (shB M a) (shS M e) K ∧ agO M M') X 0 0) SH (CM (SM MS am r5 r6 r7 r8) s.2.1 s.2.2.1 s.2.2.2.1 s.2.2.2.2.1 s.2.2.2.2.2.1 s.2.2.2.2.2.2.1 s.2.2.2.2.2.2.2.1 s.2.2.2.2.2.2.2.2) 0 0 45 [some (.inr (.inr 4)), some (.inr (.inr a)), some (.inr (.inr e)), some (.inr (.inl s.1)), none, some (.inl (i : Int))] [] := by
    refine p_for 49 _ _ ?_ ?_
    · rintro ⟨best, fq, cq, uq, vq, oq, sq, tq, rq⟩ ⟨h1, h2, h3⟩
      dsimp only at h1 h2 h3 ⊢
      refine e_iload C dX1_cheapest_45 rfl ?_
      refine e_bipush C dX1_cheapest_47 ?_
      refine e_icmp_ge C (tgt := 66) dX1_cheapest_49 (by decide) (by omega) (by omega) (fun h_49 => ?_) (fun h_49 => by exfalso; omega)
      refine e_lload_n C dX1_cheapest_66 rfl ?_
      exact e_lreturn C dX1_cheapest_67 ⟨best, rfl, ⟨h2, h3⟩, by rw [← hMS]; exact agO_CM⟩
    · rintro i ⟨best, fq, cq, uq, vq, oq, sq, tq, rq⟩ hi ⟨h1, h2, h3⟩ ih
      dsimp only at h1 h2 h3 ih ⊢
      have hbst : 0 ≤ best ∧ best ≤ 1152921504606846976 := by
        obtain ⟨q, hq, φ, hφ, ek⟩ := h3
        have := key_nn hw hbx hsp hq h8.1 (by omega) hφ
        omega
      refine e_iload C dX1_cheapest_45 rfl ?_
      refine e_bipush C dX1_cheapest_47 ?_
      refine e_icmp_ge C (tgt := 66) dX1_cheapest_49 (by decide) (by omega) (by omega) (fun h_49 => by exfalso; omega) (fun h_49 => ?_)
      refine e_aload_n C dX1_cheapest_52 rfl ?_
      refine e_iload C dX1_cheapest_53 rfl ?_
      refine e_lload_n C dX1_cheapest_55 rfl ?_
      refine e_callV C (c_cheapestAt (M := SM MS am r5 r6 r7 r8) (f := fq) (c := cq) (u := uq) (v := vq) (o := oq) (sl := sq) (cf := tq) (rc := rq) (best := best) (q := i) fW g2 (by omega) g3 h8.1 g4 g5 g6 g7 g8 g9 hi h1 hbst) mt_X1_cheapestAt s_X1_91 dX1_cheapest_56 1 sh_4 rfl (fun r55 M5 hq5 => ?_)
      obtain ⟨z5, f5, c5, u5, v5, o5, s5, t5, r5x, rfl, rfl, k1, k2, k3, k4⟩ := hq5
      dsimp only [Option.toList_some, List.singleton_append]
      refine e_lstore_n C dX1_cheapest_59 ?_
      refine e_iinc C dX1_cheapest_60 rfl ?_
      refine e_goto C (tgt := 45) dX1_cheapest_63 (by decide) ?_
      refine ih (z5, f5, c5, u5, v5, o5, s5, t5, r5x) ⟨k1, fun q hq φ hφ => ?_, ?_⟩
      · dsimp only
        rcases Nat.lt_or_ge q i with y | y
        · have := h2 q y φ hφ; omega
        · have eq : q = i := by omega
          subst eq
          have := k3 φ hφ
          rw [key_sO hP f1 f0 hφ] at this; exact this
      · dsimp only
        rcases k4 with y | ⟨φ, y1, y2⟩
        · rw [y]; exact h3
        · exact ⟨i, hi, φ, y1, by rw [y2, key_sO hP f1 f0 y1]⟩
  refine e_aload_n C dX1_cheapest_32 rfl ?_
  refine e_bipush C dX1_cheapest_33 ?_
  refine e_ldc2 C (1152921504606846976) k_X1_89 dX1_cheapest_35 ?_
  refine e_callV C (c_cheapestAt (M := SM MS am r5 r6 r7 r8) (best := 1152921504606846976) (q := 24) fW g2 (by omega) g3 h8.1 g4 g5 g6 g7 g8 g9 (by decide) (fun b hb => rfl) (by decide)) mt_X1_cheapestAt s_X1_91 dX1_cheapest_38 1 sh_4 rfl (fun r6x M6 hq6 => ?_)
  obtain ⟨z6, f6, c6, u6, v6, o6, s6, t6, r66, rfl, rfl, k1, k2, k3, k4⟩ := hq6
  dsimp only [Option.toList_some, List.singleton_append]
  refine e_lstore_n C dX1_cheapest_41 ?_
  refine e_iconst C dX1_cheapest_42 ?_
  refine e_istore C dX1_cheapest_43 ?_
  refine loop 0 (z6, f6, c6, u6, v6, o6, s6, t6, r66) (by omega) ⟨k1, fun q hq => absurd hq (Nat.not_lt_zero q), ?_⟩
  dsimp only
  rcases k4 with y | ⟨φ, y1, y2⟩
  · have y3 := k3 (fun _ => ns) (vA_none nb ns)
    have y4 := hkn 24 (fun _ => ns) (by decide) (vA_none nb ns)
    omega
  · exact ⟨24, by decide, φ, y1, by rw [y2, key_sO hP f1 f0 y1]⟩
end
section
/-! ===== kinds: counting, the middle one ===== -/
def b01 (c : Prop) [Decidable c] : Int := if c then 1 else 0
theorem b01_r (c : Prop) [Decidable c] : 0 ≤ b01 c ∧ b01 c ≤ 1 := by unfold b01; split <;> omega
/-- how many of f's first n are at most t -/
def cnL (f : Nat → Int) (n : Nat) (t : Int) : Int := sg (fun i => b01 (f i ≤ t)) n
def srt (f : Nat → Int) (n : Nat) : Prop := ∀ i j, i ≤ j → j < n → f i ≤ f j
theorem sg_cut (f : Nat → Int) (m : Nat) : ∀ n, sg f (m + n) = sg f m + sg (fun i => f (m + i)) n
  | 0 => by simp [sg]
  | n + 1 => by rw [← Nat.add_assoc]; simp only [sg]; rw [sg_cut f m n]; omega
theorem cnL_ge {f : Nat → Int} {n j : Nat} {t : Int} (hj : j ≤ n) (h : ∀ i, i < j → f i ≤ t) : (j : Int) ≤ cnL f n t := by
  unfold cnL
  obtain ⟨m, rfl⟩ : ∃ m, n = j + m := ⟨n - j, by omega⟩
  rw [sg_cut]
  have h1 := sg_nonneg (f := fun i => b01 (f (j + i) ≤ t)) (n := m) (fun i _ => (b01_r _).1)
  have h2 := sg_lb (f := fun i => b01 (f i ≤ t)) (b := 1) (n := j) (fun i hi => by unfold b01; rw [if_pos (h i hi)]; exact Int.le_refl _)
  omega
theorem cnL_le {f : Nat → Int} {n j : Nat} {t : Int} (hj : j ≤ n) (h : ∀ i, j ≤ i → i < n → t < f i) : cnL f n t ≤ (j : Int) := by
  unfold cnL
  obtain ⟨m, rfl⟩ : ∃ m, n = j + m := ⟨n - j, by omega⟩
  rw [sg_cut]
  have h1 := sg_ub (f := fun i => b01 (f (j + i) ≤ t)) (b := 0) (n := m) (fun i hi => by
    have := h (j + i) (by omega) (by omega)
    unfold b01; rw [if_neg (by omega)]; exact Int.le_refl _)
  have h2 := sg_ub (f := fun i => b01 (f i ≤ t)) (b := 1) (n := j) (fun i hi => (b01_r _).2)
  omega
theorem srt_one {f h : Nat → Int} {n : Nat} (hf : srt f n) (hh : srt h n) (he : ∀ t, cnL f n t = cnL h n t) : ∀ j, j < n → f j = h j := by
  have key : ∀ (f h : Nat → Int), srt f n → srt h n → (∀ t, cnL f n t = cnL h n t) → ∀ j, j < n → ¬ f j < h j := by
    intro f h hf hh he j hj hlt
    have h1 := cnL_ge (f := f) (n := n) (j := j + 1) (t := f j) (by omega) (fun i hi => hf i j (by omega) hj)
    have h2 := cnL_le (f := h) (n := n) (j := j) (t := f j) (by omega) (fun i h1 h2 => by have := hh j i h1 h2; omega)
    have := he (f j)
    omega
  intro j hj
  have a := key f h hf hh he j hj
  have b := key h f hh hf (fun t => (he t).symm) j hj
  omega
/-- the middle one of a row whose counts are cv: of an even number the lower one -/
def isMed (cv : Int → Int) (n : Nat) (m : Int) : Prop := ∃ f : Nat → Int, srt f n ∧ (∀ t, cnL f n t = cv t) ∧ m = f ((n - 1) / 2)
theorem isMed_one {cv : Int → Int} {n : Nat} {m k : Int} (hn : 0 < n) (h : isMed cv n m) (h2 : isMed cv n k) : m = k := by
  obtain ⟨f, a1, a2, a3⟩ := h
  obtain ⟨e, b1, b2, b3⟩ := h2
  rw [a3, b3]
  exact srt_one a1 b1 (fun t => by rw [a2, b2]) _ (by omega)
theorem isMed_r {cv : Int → Int} {n : Nat} {m lo hi : Int} (hn : 0 < n) (h : isMed cv n m) (h1 : cv hi = (n : Int)) (h2 : cv (lo - 1) = 0) : lo ≤ m ∧ m ≤ hi := by
  obtain ⟨f, a1, a2, a3⟩ := h
  have hj : (n - 1) / 2 < n := by omega
  rw [a3]
  constructor
  · refine Classical.byContradiction (fun q => ?_)
    have h3 := cnL_ge (f := f) (n := n) (j := (n - 1) / 2 + 1) (t := lo - 1) (by omega) (fun i hi => by have := a1 i ((n - 1) / 2) (by omega) hj; omega)
    rw [a2, h2] at h3; omega
  · refine Classical.byContradiction (fun q => ?_)
    have h3 := cnL_le (f := f) (n := n) (j := (n - 1) / 2) (t := hi) (by omega) (fun i hi1 hi2 => by have := a1 ((n - 1) / 2) i hi1 hi2; omega)
    rw [a2, h1] at h3; omega
/-- putting one more into a risen row: everything from place d on moves up -/
def put1 (f : Nat → Int) (n d : Nat) (v : Int) : Nat → Int := fun i => if i < d then f i else if i = d then v else if i ≤ n then f (i - 1) else f i
theorem put1_s {f : Nat → Int} {n d : Nat} {v : Int} (hs : srt f n) (hd : d ≤ n) (h1 : ∀ i, i < d → f i ≤ v) (h2 : ∀ i, d ≤ i → i < n → v ≤ f i) : srt (put1 f n d v) (n + 1) := by
  intro i j hij hj
  unfold put1
  split <;> split <;> (try split) <;> (try split) <;> (try split) <;> (try split) <;> first
    | omega
    | (exact hs _ _ (by omega) (by omega))
    | (exact h1 _ (by omega))
    | (exact h2 _ (by omega) (by omega))
    | (exact Int.le_trans (h1 _ (by omega)) (h2 _ (by omega) (by omega)))
theorem put1_c {f : Nat → Int} {n d : Nat} {v : Int} (hd : d ≤ n) (t : Int) : cnL (put1 f n d v) (n + 1) t = cnL f n t + b01 (v ≤ t) := by
  unfold cnL
  obtain ⟨m, rfl⟩ : ∃ m, n = d + m := ⟨n - d, by omega⟩
  rw [show d + m + 1 = d + (m + 1) by omega, sg_cut, sg_cut (fun i => b01 (f i ≤ t))]
  have e1 : sg (fun i => b01 (put1 f (d + m) d v i ≤ t)) d = sg (fun i => b01 (f i ≤ t)) d := sg_congr (fun i hi => by unfold put1; rw [if_pos hi])
  have e2 : ∀ k, k ≤ m → sg (fun i => b01 (put1 f (d + m) d v (d + i) ≤ t)) (k + 1) = b01 (v ≤ t) + sg (fun i => b01 (f (d + i) ≤ t)) k := by
    intro k
    induction k with
    | zero =>
      intro _
      simp only [sg]
      unfold put1
      rw [if_neg (by omega), if_pos (by omega)]; omega
    | succ k ih =>
      intro hk
      have := ih (by omega)
      simp only [sg] at this ⊢
      rw [this]
      have e3 : put1 f (d + m) d v (d + (k + 1)) = f (d + k) := by
        unfold put1
        rw [if_neg (by omega), if_neg (by omega), if_pos (by omega), show d + (k + 1) - 1 = d + k by omega]
      rw [e3]; omega
  rw [e1, e2 m (Nat.le_refl _)]; omega
/-! ===== the pages of a kind ===== -/
/-- pages: numbers of boxes, boxes; T: what they are told -/
abbrev pPg : Type := (Nat → Nat) × (Nat → pB)
/-- the box of page p that has code c (-1: none) -/
def ixC (G : pPg) (p : Nat) (c : Int) : Int := fndI (G.2 p).2.2 c 0 (G.1 p)
def onK (G : pPg) (T : Nat → Int) (k c : Int) (p : Nat) : Bool := decide (T p = k ∧ ixC G p c ≠ -1)
def kTn (T : Nat → Int) (k : Int) : Int := sg (fun p => b01 (T p = k)) 16
def knC (G : pPg) (T : Nat → Int) (k c : Int) : Int := sg (fun p => b01 (onK G T k c p = true)) 16
def cvX (G : pPg) (T : Nat → Int) (k c t : Int) : Int := sg (fun p => b01 (onK G T k c p = true ∧ (G.2 p).1 (ixC G p c).toNat ≤ t)) 16
def cvY (G : pPg) (T : Nat → Int) (k c t : Int) : Int := sg (fun p => b01 (onK G T k c p = true ∧ (G.2 p).2.1 (ixC G p c).toNat ≤ t)) 16
def isSp (G : pPg) (T : Nat → Int) (k c : Int) : Bool := decide (0 < knC G T k c ∧ kTn T k ≤ 2 * knC G T k c)
/-- how many of the codes 1 .. c are spots -/
def spc (G : pPg) (T : Nat → Int) (k : Int) : Nat → Nat
  | 0 => 0
  | c + 1 => spc G T k c + (if isSp G T k ((c + 1 : Nat) : Int) = true then 1 else 0)
/-- the spots that stand when the codes 1 .. c have been looked at -/
def kdP (G : pPg) (T : Nat → Int) (k : Int) (c : Nat) (Z : pS) : Prop := ∀ e : Nat, 1 ≤ e → e ≤ c → isSp G T k (e : Int) = true → Z.2.2.1 (spc G T k (e - 1)) = (e : Int) ∧ isMed (cvX G T k (e : Int)) (knC G T k (e : Int)).toNat (Z.1 (spc G T k (e - 1))) ∧ isMed (cvY G T k (e : Int)) (knC G T k (e : Int)).toNat (Z.2.1 (spc G T k (e - 1))) ∧ Z.2.2.2 (spc G T k (e - 1)) = b01 (knC G T k (e : Int) = kTn T k)
/-- a kind's data: its pages, its number of spots, its spots -/
def isKd (G : pPg) (T : Nat → Int) (k : Int) (tot : Int) (n : Nat) (Z : pS) : Prop := tot = kTn T k ∧ n = spc G T k 99 ∧ kdP G T k 99 Z
theorem spc_mono {G : pPg} {T : Nat → Int} {k : Int} {a : Nat} : ∀ {b : Nat}, a ≤ b → spc G T k a ≤ spc G T k b
  | 0, h => by rw [show a = 0 by omega]; exact Nat.le_refl _
  | b + 1, h => by
    rcases Nat.lt_or_ge a (b + 1) with q | q
    · have := spc_mono (G := G) (T := T) (k := k) (show a ≤ b by omega)
      simp only [spc]; omega
    · rw [show a = b + 1 by omega]; exact Nat.le_refl _
theorem spc_at {G : pPg} {T : Nat → Int} {k : Int} {i : Nat} : ∀ {c : Nat}, i < spc G T k c → ∃ e, 1 ≤ e ∧ e ≤ c ∧ isSp G T k (e : Int) = true ∧ spc G T k (e - 1) = i
  | 0, h => by simp [spc] at h
  | c + 1, h => by
    rcases Nat.lt_or_ge i (spc G T k c) with q | q
    · obtain ⟨e, e1, e2, e3, e4⟩ := spc_at q
      exact ⟨e, e1, by omega, e3, e4⟩
    · simp only [spc] at h
      split at h
      · next hs => exact ⟨c + 1, by omega, Nat.le_refl _, hs, by rw [Nat.add_sub_cancel]; omega⟩
      · omega
theorem isKd_one {G : pPg} {T : Nat → Int} {k tot tot2 : Int} {n n2 : Nat} {Z Z2 : pS} (h : isKd G T k tot n Z) (h2 : isKd G T k tot2 n2 Z2) : tot = tot2 ∧ n = n2 ∧ ∀ s, s < n → Z.1 s = Z2.1 s ∧ Z.2.1 s = Z2.2.1 s ∧ Z.2.2.1 s = Z2.2.2.1 s ∧ Z.2.2.2 s = Z2.2.2.2 s := by
  refine ⟨h.1.trans h2.1.symm, h.2.1.trans h2.2.1.symm, fun s hs => ?_⟩
  rw [h.2.1] at hs
  obtain ⟨e, e1, e2, e3, e4⟩ := spc_at hs
  obtain ⟨a1, a2, a3, a4⟩ := h.2.2 e e1 e2 e3
  obtain ⟨b1, b2, b3, b4⟩ := h2.2.2 e e1 e2 e3
  rw [e4] at a1 a2 a3 a4 b1 b2 b3 b4
  have hpos : 0 < (knC G T k (e : Int)).toNat := by
    have : 0 < knC G T k (e : Int) := (of_decide_eq_true e3).1
    omega
  exact ⟨isMed_one hpos a2 b2, isMed_one hpos a3 b3, a1.trans b1.symm, a4.trans b4.symm⟩
end
section
/-! ===== kinds: bounds ===== -/
theorem fndI_sp (f : Nat → Int) (c : Int) : ∀ (n i : Nat), (fndI f c i n = -1 ∧ ∀ j, i ≤ j → j < i + n → f j ≠ c) ∨ ∃ j, i ≤ j ∧ j < i + n ∧ f j = c ∧ fndI f c i n = (j : Int)
  | 0, i => Or.inl ⟨rfl, fun j h1 h2 => by omega⟩
  | n + 1, i => by
    simp only [fndI]
    by_cases h : f i = c
    · rw [if_pos h]; exact Or.inr ⟨i, Nat.le_refl _, by omega, h, rfl⟩
    · rw [if_neg h]
      rcases fndI_sp f c n (i + 1) with ⟨a, b⟩ | ⟨j, a, b, d, e⟩
      · refine Or.inl ⟨a, fun j h1 h2 => ?_⟩
        by_cases e : j = i
        · rw [e]; exact h
        · exact b j (by omega) (by omega)
      · exact Or.inr ⟨j, by omega, by omega, d, e⟩
theorem ixC_sp (G : pPg) (p : Nat) (c : Int) : (ixC G p c = -1 ∧ ∀ j, j < G.1 p → (G.2 p).2.2 j ≠ c) ∨ ∃ j, j < G.1 p ∧ (G.2 p).2.2 j = c ∧ ixC G p c = (j : Int) := by
  rcases fndI_sp (G.2 p).2.2 c (G.1 p) 0 with ⟨a, b⟩ | ⟨j, a, b, d, e⟩
  · exact Or.inl ⟨a, fun j hj => b j (Nat.zero_le _) (by omega)⟩
  · exact Or.inr ⟨j, by omega, d, e⟩
theorem sg_sw (f : Nat → Nat → Int) (m : Nat) : ∀ n, sg (fun i => sg (fun j => f i j) m) n = sg (fun j => sg (fun i => f i j) n) m
  | 0 => by
    have h2 := sg_ub (f := fun _ => (0 : Int)) (b := 0) (n := m) (fun _ _ => Int.le_refl _)
    have h3 := sg_lb (f := fun _ => (0 : Int)) (b := 0) (n := m) (fun _ _ => Int.le_refl _)
    simp only [sg]; omega
  | n + 1 => by simp only [sg]; rw [sg_sw f m n, ← sg_add]
theorem sg_hit (x : Int) : ∀ n : Nat, sg (fun c => b01 (x = ((c + 1 : Nat) : Int))) n ≤ b01 (1 ≤ x ∧ x ≤ n)
  | 0 => by simp only [sg]; exact (b01_r _).1
  | n + 1 => by
    have ih := sg_hit x n
    simp only [sg]
    by_cases h : x = ((n + 1 : Nat) : Int)
    · have e1 : b01 (x = ((n + 1 : Nat) : Int)) = 1 := if_pos h
      have e2 : b01 (1 ≤ x ∧ x ≤ (n : Int)) = 0 := if_neg (by omega)
      have e3 : b01 (1 ≤ x ∧ x ≤ ((n + 1 : Nat) : Int)) = 1 := if_pos (by omega)
      omega
    · have e1 : b01 (x = ((n + 1 : Nat) : Int)) = 0 := if_neg h
      by_cases h2 : 1 ≤ x ∧ x ≤ (n : Int)
      · have e3 : b01 (1 ≤ x ∧ x ≤ ((n + 1 : Nat) : Int)) = 1 := if_pos (by omega)
        have := (b01_r (1 ≤ x ∧ x ≤ (n : Int))).2
        omega
      · have e2 : b01 (1 ≤ x ∧ x ≤ (n : Int)) = 0 := if_neg h2
        have := (b01_r (1 ≤ x ∧ x ≤ ((n + 1 : Nat) : Int))).1
        omega
theorem kn_page {G : pPg} {T : Nat → Int} {k : Int} {p : Nat} (h8 : G.1 p ≤ 8) : sg (fun c => b01 (onK G T k ((c + 1 : Nat) : Int) p = true)) 99 ≤ 8 * b01 (T p = k) := by
  by_cases h : T p = k
  · have e : b01 (T p = k) = 1 := if_pos h
    rw [e]
    have h1 : sg (fun c => b01 (onK G T k ((c + 1 : Nat) : Int) p = true)) 99 ≤ sg (fun c => sg (fun i => b01 ((G.2 p).2.2 i = ((c + 1 : Nat) : Int))) (G.1 p)) 99 := sg_le (fun c _ => by
      rcases ixC_sp G p ((c + 1 : Nat) : Int) with ⟨a, _⟩ | ⟨j, a, b, d⟩
      · have : b01 (onK G T k ((c + 1 : Nat) : Int) p = true) = 0 := if_neg (fun q => (of_decide_eq_true q).2 a)
        rw [this]; exact sg_nonneg (fun i _ => (b01_r _).1)
      · have h2 : b01 ((G.2 p).2.2 j = ((c + 1 : Nat) : Int)) = 1 := if_pos b
        have h3 : b01 ((G.2 p).2.2 j = ((c + 1 : Nat) : Int)) ≤ sg (fun i => b01 ((G.2 p).2.2 i = ((c + 1 : Nat) : Int))) (G.1 p) := by
          obtain ⟨m, hm⟩ : ∃ m, G.1 p = j + (1 + m) := ⟨G.1 p - j - 1, by omega⟩
          rw [hm, sg_cut, sg_cut]
          have := sg_nonneg (f := fun i => b01 ((G.2 p).2.2 i = ((c + 1 : Nat) : Int))) (n := j) (fun i _ => (b01_r _).1)
          have := sg_nonneg (f := fun i => b01 ((G.2 p).2.2 (j + (1 + i)) = ((c + 1 : Nat) : Int))) (n := m) (fun i _ => (b01_r _).1)
          simp only [sg, Nat.add_zero] at *
          omega
        have := (b01_r (onK G T k ((c + 1 : Nat) : Int) p = true)).2
        omega)
    rw [sg_sw] at h1
    have h4 := sg_ub (f := fun i => sg (fun c => b01 ((G.2 p).2.2 i = ((c + 1 : Nat) : Int))) 99) (b := 1) (n := G.1 p) (fun i _ => by
      have := sg_hit ((G.2 p).2.2 i) 99
      have := (b01_r (1 ≤ (G.2 p).2.2 i ∧ (G.2 p).2.2 i ≤ ((99 : Nat) : Int))).2
      omega)
    omega
  · have e : b01 (T p = k) = 0 := if_neg h
    rw [e]
    have := sg_ub (f := fun c => b01 (onK G T k ((c + 1 : Nat) : Int) p = true)) (b := 0) (n := 99) (fun c _ => by
      have : b01 (onK G T k ((c + 1 : Nat) : Int) p = true) = 0 := if_neg (fun q => h (of_decide_eq_true q).1)
      omega)
    omega
theorem kn_r (G : pPg) (T : Nat → Int) (k c : Int) : 0 ≤ knC G T k c ∧ knC G T k c ≤ kTn T k ∧ 0 ≤ kTn T k ∧ kTn T k ≤ 16 := by
  refine ⟨sg_nonneg (fun p _ => (b01_r _).1), sg_le (fun p _ => ?_), sg_nonneg (fun p _ => (b01_r _).1), ?_⟩
  · by_cases h : T p = k
    · have e : b01 (T p = k) = 1 := if_pos h
      have := (b01_r (onK G T k c p = true)).2
      omega
    · have : b01 (onK G T k c p = true) = 0 := if_neg (fun q => h (of_decide_eq_true q).1)
      have := (b01_r (T p = k)).1
      omega
  · have := sg_ub (f := fun p => b01 (T p = k)) (b := 1) (n := 16) (fun p _ => (b01_r _).2)
    unfold kTn; omega
theorem kn_sum {G : pPg} {T : Nat → Int} {k : Int} (h8 : ∀ p, p < 16 → G.1 p ≤ 8) : sg (fun c => knC G T k ((c + 1 : Nat) : Int)) 99 ≤ 8 * kTn T k := by
  unfold knC kTn
  rw [sg_sw, ← sg_mul]
  exact sg_le (fun p hp => kn_page (h8 p hp))
theorem spc_sum {G : pPg} {T : Nat → Int} {k : Int} : ∀ c : Nat, kTn T k * (spc G T k c : Int) ≤ 2 * sg (fun c => knC G T k ((c + 1 : Nat) : Int)) c
  | 0 => by simp [spc, sg]
  | c + 1 => by
    have ih := spc_sum (G := G) (T := T) (k := k) c
    simp only [spc, sg]
    have hk := kn_r G T k ((c + 1 : Nat) : Int)
    split
    · next h =>
      have h2 := (of_decide_eq_true h).2
      rw [show ((spc G T k c + 1 : Nat) : Int) = (spc G T k c : Int) + 1 from rfl, Int.mul_add]; omega
    · rw [Nat.add_zero]; omega
theorem spc_16 {G : pPg} {T : Nat → Int} {k : Int} (h8 : ∀ p, p < 16 → G.1 p ≤ 8) : spc G T k 99 ≤ 16 := by
  have h1 := spc_sum (G := G) (T := T) (k := k) 99
  have h2 := kn_sum (G := G) (T := T) (k := k) h8
  have h3 := kn_r G T k 1
  rcases Int.lt_or_le 0 (kTn T k) with q | q
  · refine Classical.byContradiction (fun z => ?_)
    have h4 : kTn T k * 17 ≤ kTn T k * (spc G T k 99 : Int) := Int.mul_le_mul_of_nonneg_left (by omega) (by omega)
    omega
  · have : ∀ c, spc G T k c = 0 := fun c => by
      induction c with
      | zero => rfl
      | succ c ih =>
        simp only [spc]
        rw [ih, if_neg]
        intro h
        have := (of_decide_eq_true h).1
        have := kn_r G T k ((c + 1 : Nat) : Int)
        omega
    rw [this]; omega
def pgOk (G : pPg) : Prop := (∀ p, p < 16 → G.1 p ≤ 8 ∧ bxOk (G.1 p) (G.2 p)) ∧ ∀ p i j, p < 16 → i < G.1 p → j < G.1 p → (G.2 p).2.2 i = (G.2 p).2.2 j → i = j
theorem cv_r {G : pPg} {T : Nat → Int} {k c : Int} (h : pgOk G) : cvX G T k c 63 = knC G T k c ∧ cvX G T k c (0 - 1) = 0 ∧ cvY G T k c 63 = knC G T k c ∧ cvY G T k c (0 - 1) = 0 := by
  have hv : ∀ p, p < 16 → onK G T k c p = true → (0 ≤ (G.2 p).1 (ixC G p c).toNat ∧ (G.2 p).1 (ixC G p c).toNat ≤ 63) ∧ (0 ≤ (G.2 p).2.1 (ixC G p c).toNat ∧ (G.2 p).2.1 (ixC G p c).toNat ≤ 63) := by
    intro p hp ho
    rcases ixC_sp G p c with ⟨a, _⟩ | ⟨j, a, b, d⟩
    · exact absurd a (of_decide_eq_true ho).2
    · rw [d, Int.toNat_natCast]
      have := (h.1 p hp).2 j a
      exact ⟨this.1, this.2.1⟩
  have z : ∀ (f : Nat → Int), (∀ p, p < 16 → f p = 0) → sg f 16 = 0 := fun f hf => by
    have h1 := sg_ub (f := f) (b := 0) (n := 16) (fun p hp => by rw [hf p hp]; exact Int.le_refl _)
    have h2 := sg_lb (f := f) (b := 0) (n := 16) (fun p hp => by rw [hf p hp]; exact Int.le_refl _)
    omega
  refine ⟨sg_congr (fun p hp => ?_), z _ (fun p hp => ?_), sg_congr (fun p hp => ?_), z _ (fun p hp => ?_)⟩
  · by_cases ho : onK G T k c p = true
    · have := hv p hp ho
      unfold b01; rw [if_pos ⟨ho, by omega⟩, if_pos ho]
    · unfold b01; rw [if_neg (fun q => ho q.1), if_neg ho]
  · unfold b01; rw [if_neg]; intro q
    have := hv p hp q.1
    have := q.2
    omega
  · by_cases ho : onK G T k c p = true
    · have := hv p hp ho
      unfold b01; rw [if_pos ⟨ho, by omega⟩, if_pos ho]
    · unfold b01; rw [if_neg (fun q => ho q.1), if_neg ho]
  · unfold b01; rw [if_neg]; intro q
    have := hv p hp q.1
    have := q.2
    omega
theorem isKd_ok {G : pPg} {T : Nat → Int} {k tot : Int} {n : Nat} {Z : pS} (hG : pgOk G) (h : isKd G T k tot n Z) : n ≤ 16 ∧ spOk n Z ∧ 0 ≤ tot ∧ tot ≤ 16 := by
  have h3 := kn_r G T k 1
  refine ⟨by rw [h.2.1]; exact spc_16 (fun p hp => (hG.1 p hp).1), fun s hs => ?_, by rw [h.1]; omega, by rw [h.1]; omega⟩
  rw [h.2.1] at hs
  obtain ⟨e, e1, e2, e3, e4⟩ := spc_at hs
  obtain ⟨a1, a2, a3, a4⟩ := h.2.2 e e1 e2 e3
  rw [e4] at a1 a2 a3 a4
  have hk := kn_r G T k (e : Int)
  have hpos : 0 < knC G T k (e : Int) := (of_decide_eq_true e3).1
  obtain ⟨c1, c2, c3, c4⟩ := cv_r (T := T) (k := k) (c := (e : Int)) hG
  have hn : ((knC G T k (e : Int)).toNat : Int) = knC G T k (e : Int) := by omega
  exact ⟨isMed_r (by omega) a2 (by rw [hn]; exact c1) c2, isMed_r (by omega) a3 (by rw [hn]; exact c3) c4, by omega, by rw [a4]; unfold b01; split <;> simp⟩
end
section
/-! ===== Maker: rows that rise ===== -/
def shf (f : Nat → Int) (n d : Nat) : Nat → Int := fun i => if i ≤ d then f i else if i ≤ n then f (i - 1) else f i
theorem shf_n (f : Nat → Int) (n : Nat) : shf f n n = f := by
  funext i; unfold shf; split
  · rfl
  · first | rfl | rw [if_neg (by omega)]
theorem shf_st (f : Nat → Int) {n d : Nat} (h : d + 1 ≤ n) : up (shf f n (d + 1)) (d + 1) (f d) = shf f n d := by
  funext i; unfold up shf
  by_cases e : i = d + 1
  · rw [if_pos e, if_neg (by omega), if_pos (by omega), show i - 1 = d by omega]
  · rw [if_neg e]
    by_cases h2 : i ≤ d
    · rw [if_pos (by omega), if_pos h2]
    · rw [if_neg (by omega), if_neg h2]
theorem shf_put (f : Nat → Int) (n d : Nat) (v : Int) : up (shf f n d) d v = put1 f n d v := by
  funext i; unfold up shf put1
  by_cases e : i = d
  · rw [if_pos e, if_neg (by omega), if_pos e]
  · rw [if_neg e, if_neg e]
    by_cases h2 : i < d
    · rw [if_pos (by omega), if_pos h2]
    · rw [if_neg (by omega), if_neg h2]
theorem c_put {g : pG} {M : pMem} {ra n : Nat} {f : Nat → Int} {v : Int} (hr : SH[ra]? = some (.inr (0, 16))) (hn : n < 16) (hs : srt f n) (hv : 0 ≤ v ∧ v ≤ 63) (hf : ∀ i, i < n → 0 ≤ f i ∧ f i ≤ 63) :
    pCn g 1 0 0 yX2_putByRising cX2_putByRising 4 none SH SH (wrI M ra f) [.inr (.inr ra), .inl (n : Int), .inl v] (fun r M' => ∃ f' : Nat → Int, r = none ∧ M' = wrI M ra f' ∧ srt f' (n + 1) ∧ (∀ t, cnL f' (n + 1) t = cnL f n t + b01 (v ≤ t)) ∧ ∀ i, i < n + 1 → 0 ≤ f' i ∧ f' i ≤ 63) := by
  refine pCn_intro mt_X2_putByRising (fun X C => ?_)
  have fin : ∀ d : Nat, d ≤ n → (∀ i, i < d → f i ≤ v) → (∀ i, d ≤ i → i < n → v < f i) → pE g 4 X (pMQ g SH (fun r M' => ∃ f' : Nat → Int, r = none ∧ M' = wrI M ra f' ∧ srt f' (n + 1) ∧ (∀ t, cnL f' (n + 1) t = cnL f n t + b01 (v ≤ t)) ∧ ∀ i, i < n + 1 → 0 ≤ f' i ∧ f' i ≤ 63) X 0 0) SH (wrI M ra (shf f n d)) 0 0 29 [some (.inr (.inr ra)), some (.inl (n : Int)), some (.inl v), some (.inl (d : Int))] [] := by
    intro d hd h1 h2
    refine e_aload_n C dX2_putByRising_29 rfl ?_
    refine e_iload_n C dX2_putByRising_30 rfl ?_
    refine e_iload_n C dX2_putByRising_31 rfl ?_
    refine e_iastore C dX2_putByRising_32 hr _ rfl (by omega) ?_
    rw [stI_wr, shf_put]
    refine e_return C dX2_putByRising_33 ⟨put1 f n d v, rfl, rfl, put1_s hs hd h1 (fun i a b => by have := h2 i a b; omega), fun t => put1_c hd t, fun i hi => ?_⟩
    unfold put1
    split
    · exact hf i (by omega)
    · split
      · exact hv
      · rw [if_pos (by omega)]; exact hf _ (by omega)
  have loop : ∀ d : Nat, d ≤ n → (∀ i, d ≤ i → i < n → v < f i) → pE g 4 X (pMQ g SH (fun r M' => ∃ f' : Nat → Int, r = none ∧ M' = wrI M ra f' ∧ srt f' (n + 1) ∧ (∀ t, cnL f' (n + 1) t = cnL f n t + b01 (v ≤ t)) ∧ ∀ i, i < n + 1 → 0 ≤ f' i ∧ f' i ≤ 63) X 0 0) SH (wrI M ra (shf f n d)) 0 0 2 [some (.inr (.inr ra)), some (.inl (n : Int)), some (.inl v), some (.inl (d : Int))] [] := by
    intro d
    induction d with
    | zero =>
      intro h1 h2
      refine e_iload_n C dX2_putByRising_2 rfl ?_
      refine e_if_le C (tgt := 29) dX2_putByRising_3 (by decide) (by omega) (fun h_3 => ?_) (fun h_3 => by exfalso; omega)
      exact fin 0 (by omega) (fun i hi => absurd hi (Nat.not_lt_zero i)) h2
    | succ d ih =>
      intro h1 h2
      have hfd := hf d (by omega)
      have hsd : shf f n (d + 1) d = f d := by unfold shf; rw [if_pos (by omega)]
      refine e_iload_n C dX2_putByRising_2 rfl ?_
      refine e_if_le C (tgt := 29) dX2_putByRising_3 (by decide) (by omega) (fun h_3 => by exfalso; omega) (fun h_3 => ?_)
      refine e_aload_n C dX2_putByRising_6 rfl ?_
      refine e_iload_n C dX2_putByRising_7 rfl ?_
      refine e_iconst C dX2_putByRising_8 ?_
      refine e_isub C dX2_putByRising_9 ?_
      refine e_iaload C dX2_putByRising_10 hr d (by omega) (by omega) ?_
      rw [wrI_s, hsd]
      refine e_iload_n C dX2_putByRising_11 rfl ?_
      refine e_icmp_le C (tgt := 29) dX2_putByRising_12 (by decide) (by omega) (by omega) (fun h_12 => ?_) (fun h_12 => ?_)
      · refine fin (d + 1) h1 (fun i hi => ?_) h2
        have := hs i d (by omega) (by omega)
        omega
      · refine e_aload_n C dX2_putByRising_15 rfl ?_
        refine e_iload_n C dX2_putByRising_16 rfl ?_
        refine e_aload_n C dX2_putByRising_17 rfl ?_
        refine e_iload_n C dX2_putByRising_18 rfl ?_
        refine e_iconst C dX2_putByRising_19 ?_
        refine e_isub C dX2_putByRising_20 ?_
        refine e_iaload C dX2_putByRising_21 hr d (by omega) (by omega) ?_
        rw [wrI_s, hsd]
        refine e_iastore C dX2_putByRising_22 hr _ rfl (by omega) ?_
        rw [stI_wr, shf_st f h1]
        refine e_iinc C dX2_putByRising_23 rfl ?_
        refine e_goto C (tgt := 2) dX2_putByRising_26 (by decide) ?_
        refine pE_to (ih (by omega) (fun i a b => ?_)) rfl (by rw [show (((d + 1 : Nat) : Int) + -1) = (d : Int) by omega]; rfl) rfl
        by_cases e : i = d
        · rw [e]; omega
        · exact h2 i (by omega) b
  show pE g 4 X _ SH (wrI M ra f) 0 0 0 [some (.inr (.inr ra)), some (.inl (n : Int)), some (.inl v), none] []
  refine e_iload_n C dX2_putByRising_0 rfl ?_
  refine e_istore_n C dX2_putByRising_1 ?_
  have hz := loop n (Nat.le_refl _) (fun i a b => by omega)
  rw [shf_n] at hz
  exact hz
theorem c_middle {g : pG} {M : pMem} {ra n : Nat} (hr : SH[ra]? = some (.inr (0, 16))) (hn : 0 < n ∧ n ≤ 16) : pCn g 1 0 0 yX2_middle cX2_middle 2 (some .int) SH SH M [.inr (.inr ra), .inl (n : Int)] (fun r M' => r = some (.inl (mI M ra ((n - 1) / 2))) ∧ M' = M) := by
  refine pCn_intro mt_X2_middle (fun X C => ?_)
  show pE g 2 X _ SH M 0 0 0 [some (.inr (.inr ra)), some (.inl (n : Int))] []
  refine e_iload_n C dX2_middle_0 rfl ?_
  refine e_if_le C (tgt := 14) dX2_middle_1 (by decide) (by omega) (fun h_1 => by exfalso; omega) (fun h_1 => ?_)
  refine e_aload_n C dX2_middle_4 rfl ?_
  refine e_iload_n C dX2_middle_5 rfl ?_
  refine e_iconst C dX2_middle_6 ?_
  refine e_isub C dX2_middle_7 ?_
  refine e_iconst C dX2_middle_8 ?_
  refine e_idiv C dX2_middle_9 (by omega) (by omega) (by omega) (by omega) ?_
  refine e_iaload C dX2_middle_10 hr ((n - 1) / 2) (by omega) (by omega) ?_
  refine e_goto C (tgt := 15) dX2_middle_11 (by decide) ?_
  exact e_ireturn C dX2_middle_15 ⟨rfl, rfl⟩
def agr (P : Nat → Prop) (M M' : pMem) : Prop := (∀ b j, P b → mI M' b j = mI M b j ∧ mL M' b j = mL M b j) ∧ ∀ b j, mR M' b j = mR M b j
theorem agr_rf (P : Nat → Prop) (M : pMem) : agr P M M := ⟨fun _ _ _ => ⟨rfl, rfl⟩, fun _ _ => rfl⟩
theorem agr_tr {P : Nat → Prop} {M N R : pMem} (h : agr P M N) (h2 : agr P N R) : agr P M R := ⟨fun b j hb => ⟨(h2.1 b j hb).1.trans (h.1 b j hb).1, (h2.1 b j hb).2.trans (h.1 b j hb).2⟩, fun b j => (h2.2 b j).trans (h.2 b j)⟩
theorem agr_su {P R : Nat → Prop} {M N : pMem} (h : agr P M N) (hs : ∀ b, R b → P b) : agr R M N := ⟨fun b j hb => h.1 b j (hs b hb), h.2⟩
theorem agr_W {P : Nat → Prop} {M N : pMem} (h : agr P M N) (hW : pW M) : pW N := fun a i b hb => (h.2 a i).trans (hW a i b hb)
theorem agr_stI {P : Nat → Prop} {M : pMem} {a i : Nat} {v : Int} (h : ∀ b, P b → b ≠ a) : agr P M (stI M a i v) := ⟨fun b j hb => ⟨stI_n _ _ (Or.inl (h b hb)), rfl⟩, fun _ _ => rfl⟩
theorem agr_wrI {P : Nat → Prop} {M : pMem} {a : Nat} {f : Nat → Int} (h : ∀ b, P b → b ≠ a) : agr P M (wrI M a f) := ⟨fun b j hb => ⟨wrI_n _ _ _ (h b hb), rfl⟩, fun _ _ => rfl⟩
theorem agr_wrL {P : Nat → Prop} {M : pMem} {a : Nat} {f : Nat → Int} (h : ∀ b, P b → b ≠ a) : agr P M (wrL M a f) := ⟨fun b j hb => ⟨rfl, wrL_n _ _ _ (h b hb)⟩, fun _ _ => rfl⟩
theorem agr_stL {P : Nat → Prop} {M : pMem} {a i : Nat} {v : Int} (h : ∀ b, P b → b ≠ a) : agr P M (stL M a i v) := ⟨fun b j hb => ⟨rfl, stL_n _ _ (Or.inl (h b hb))⟩, fun _ _ => rfl⟩
/-- the pages as the class holds them -/
def pgC (M : pMem) : pPg := (fun p => (mI M (38 + 5 * p) 4).toNat, fun p => shB M (38 + 5 * p))
def pgM (M : pMem) : Prop := (∀ p, p < 16 → mI M (38 + 5 * p) 4 = (((pgC M).1 p : Nat) : Int)) ∧ pgOk (pgC M)
theorem pgC_ag {P : Nat → Prop} {M N : pMem} (h : agr P M N) (hP : ∀ b, 38 ≤ b → b < 118 → P b) {p : Nat} (hp : p < 16) : (pgC N).1 p = (pgC M).1 p ∧ (pgC N).2 p = (pgC M).2 p := by
  have e : ∀ b, 38 ≤ b → b < 118 → mI N b = mI M b := fun b h1 h2 => funext (fun j => (h.1 b j (hP b h1 h2)).1)
  unfold pgC shB
  dsimp only
  rw [e _ (by omega) (by omega), e _ (by omega) (by omega), e _ (by omega) (by omega), e _ (by omega) (by omega)]
  exact ⟨rfl, rfl⟩
def ccP (G : pPg) (T : Nat → Int) (k c : Int) (p : Nat) : Int := if T p = k then sg (fun i => b01 ((G.2 p).2.2 i = c)) (G.1 p) else 0
theorem cc_kn {G : pPg} {T : Nat → Int} {k c : Int} (hG : pgOk G) : sg (ccP G T k c) 16 = knC G T k c := by
  refine sg_congr (fun p hp => ?_)
  unfold ccP
  by_cases h : T p = k
  · rw [if_pos h]
    rcases ixC_sp G p c with ⟨a, b⟩ | ⟨j, a, b, d⟩
    · have e1 : b01 (onK G T k c p = true) = 0 := if_neg (fun q => (of_decide_eq_true q).2 a)
      rw [e1, sg_congr (f := fun i => b01 ((G.2 p).2.2 i = c)) (h := fun _ => 0) (fun i hi => if_neg (b i hi))]
      have h2 := sg_ub (f := fun _ => (0 : Int)) (b := 0) (n := G.1 p) (fun _ _ => Int.le_refl _)
      have h3 := sg_lb (f := fun _ => (0 : Int)) (b := 0) (n := G.1 p) (fun _ _ => Int.le_refl _)
      omega
    · have e1 : b01 (onK G T k c p = true) = 1 := if_pos (decide_eq_true ⟨h, by omega⟩)
      rw [e1, sg_congr (f := fun i => b01 ((G.2 p).2.2 i = c)) (h := up (fun _ => 0) j 1) (fun i hi => by
        by_cases e : i = j
        · subst e; rw [up_s]; exact if_pos b
        · rw [up_n e]; exact if_neg (fun q => e (hG.2 p i j hp hi a (by rw [q, b])))), sg_up a]
      have h2 := sg_ub (f := fun _ => (0 : Int)) (b := 0) (n := G.1 p) (fun _ _ => Int.le_refl _)
      have h3 := sg_lb (f := fun _ => (0 : Int)) (b := 0) (n := G.1 p) (fun _ _ => Int.le_refl _)
      omega
  · rw [if_neg h]
    exact (if_neg (fun q => h (of_decide_eq_true q).1)).symm
theorem c_carriers {g : pG} {M : pMem} {a ta : Nat} {T : Nat → Int} {k : Int} (hW : pW M) (hA : pKd M a) (ha : 22 ≤ a ∧ (a ≤ 29 ∨ 118 ≤ a)) (ht : SH[ta]? = some (.inr (0, 16))) (hta : ta = 2 ∨ ta = 20) (hT : ∀ p, p < 16 → mI M ta p = T p ∧ -1 ≤ T p ∧ T p < 5) (hk : 0 ≤ k ∧ k < 5) (hG : pgM M) (h0 : mI M a 2 = 0) :
    pCn g 1 0 0 yX2_countCarriers cX2_countCarriers 7 none SH SH M [.inr (.inr 15), .inr (.inr a), .inl k, .inr (.inr 1), .inr (.inr ta)] (fun r M' => ∃ f : Nat → Int, r = none ∧ M' = stI (wrI M 16 f) a 2 (kTn T k) ∧ ∀ c : Nat, 1 ≤ c → c ≤ 99 → f c = knC (pgC M) T k (c : Int)) := by
  refine pCn_intro mt_X2_countCarriers (fun X C => ?_)
  have rdT : ∀ (f : Nat → Int) (x : Int) (p : Nat), p < 16 → mI (stI (wrI M 16 f) a 2 x) ta p = T p := fun f x p hp => by
    rw [stI_n _ _ (by omega), wrI_n _ _ _ (by omega)]; exact (hT p hp).1
  have rdC : ∀ (f : Nat → Int) (x : Int) (p : Nat), p < 16 → mI (stI (wrI M 16 f) a 2 x) (38 + 5 * p) 4 = (((pgC M).1 p : Nat) : Int) := fun f x p hp => by
    rw [stI_n _ _ (by omega), wrI_n _ _ _ (by omega)]; exact hG.1 p hp
  have rdX : ∀ (f : Nat → Int) (x : Int) (p i : Nat), p < 16 → mI (stI (wrI M 16 f) a 2 x) (38 + 5 * p + 1) i = ((pgC M).2 p).2.2 i := fun f x p i hp => by
    rw [stI_n _ _ (by omega), wrI_n _ _ _ (by omega)]; rfl
  have rd2 : ∀ (f : Nat → Int) (x : Int), mI (stI (wrI M 16 f) a 2 x) a 2 = x := fun f x => stI_s _ _ _ _
  have rdF : ∀ (f : Nat → Int) (x : Int) (c : Nat), mI (stI (wrI M 16 f) a 2 x) 16 c = f c := fun f x c => by rw [stI_n _ _ (by omega)]; exact wrI_s _ _ _ _
  have stF : ∀ (f : Nat → Int) (x : Int) (c : Nat) (v : Int), stI (stI (wrI M 16 f) a 2 x) 16 c v = (stI (wrI M 16 (up f c v)) a 2 x) := fun f x c v => by
    unfold stI wrI up
    simp only [Prod.mk.injEq, and_true]
    funext b i
    by_cases e1 : b = 16
    · subst e1; simp [show ¬ (16 = a) by omega]
    · simp [e1]
  have ppl : ∀ (p : Nat) (s : (Nat → Int) × Option pV), p ≤ 16 → (∀ c : Nat, 1 ≤ c → c ≤ 99 → s.1 c = sg (ccP (pgC M) T k (c : Int)) p) → pE g 7 X (pMQ g SH (fun r M' => ∃ f : Nat → Int, r = none ∧ M' = stI (wrI M 16 f) a 2 (kTn T k) ∧ ∀ c : Nat, 1 ≤ c → c ≤ 99 → f c = knC (pgC M) T k (c : Int)) X 0 0) SH (stI (wrI M 16 s.1) a 2 (sg (fun p => b01 (T p = k)) p)) 0 0 27 [some (.inr (.inr 15)), some (.inr (.inr a)), some (.inl k), some (.inr (.inr 1)), some (.inr (.inr ta)), some (.inl (p : Int)), s.2] [] := by
    refine p_for 16 _ _ ?_ ?_
    · rintro ⟨f, x6⟩ hI
      dsimp only at hI ⊢
      refine e_iload C dX2_countCarriers_27 rfl ?_
      refine e_bipush C dX2_countCarriers_29 ?_
      refine e_icmp_ge C (tgt := 99) dX2_countCarriers_31 (by decide) (by omega) (by omega) (fun h_31 => ?_) (fun h_31 => by exfalso; omega)
      exact e_return C dX2_countCarriers_99 ⟨f, rfl, rfl, fun c h1 h2 => (hI c h1 h2).trans (cc_kn hG.2)⟩
    · rintro p ⟨f, x6⟩ hp hI ih
      dsimp only at hI ih ⊢
      have hTp := (hT p hp).2
      by_cases hTk : T p = k
      rotate_left
      · refine e_iload C dX2_countCarriers_27 rfl ?_
        refine e_bipush C dX2_countCarriers_29 ?_
        refine e_icmp_ge C (tgt := 99) dX2_countCarriers_31 (by decide) (by omega) (by omega) (fun h_31 => by exfalso; omega) (fun h_31 => ?_)
        refine e_aload C dX2_countCarriers_34 rfl ?_
        refine e_iload C dX2_countCarriers_36 rfl ?_
        refine e_iaload C dX2_countCarriers_38 ht _ rfl (by omega) ?_
        rw [rdT _ _ _ hp]
        refine e_iload_n C dX2_countCarriers_39 rfl ?_
        refine e_icmp_ne C (tgt := 93) dX2_countCarriers_40 (by decide) (by omega) (by omega) (fun h_40 => ?_) (fun h_40 => by exact absurd (fun e => hTk e) h_40)
        refine e_iinc C dX2_countCarriers_93 rfl ?_
        refine e_goto C (tgt := 27) dX2_countCarriers_96 (by decide) ?_
        have e1 : sg (fun p => b01 (T p = k)) (p + 1) = sg (fun p => b01 (T p = k)) p := by
          simp only [sg]; rw [show b01 (T p = k) = 0 from if_neg hTk]; omega
        refine pE_M (by rw [← e1]) (ih (f, x6) (fun c h1 h2 => ?_))
        simp only [sg]
        rw [hI c h1 h2, show ccP (pgC M) T k (c : Int) p = 0 from if_neg hTk]; omega
      · have e1 : sg (fun p => b01 (T p = k)) (p + 1) = sg (fun p => b01 (T p = k)) p + 1 := by
          simp only [sg]; rw [show b01 (T p = k) = 1 from if_pos hTk]
        have n8 := (hG.2.1 p hp).1
        have hbx := (hG.2.1 p hp).2
        have inner : ∀ (i : Nat) (f1 : Nat → Int), i ≤ (pgC M).1 p → (∀ c : Nat, 1 ≤ c → c ≤ 99 → f1 c = sg (ccP (pgC M) T k (c : Int)) p + sg (fun i => b01 (((pgC M).2 p).2.2 i = (c : Int))) i) → pE g 7 X (pMQ g SH (fun r M' => ∃ f : Nat → Int, r = none ∧ M' = stI (wrI M 16 f) a 2 (kTn T k) ∧ ∀ c : Nat, 1 ≤ c → c ≤ 99 → f c = knC (pgC M) T k (c : Int)) X 0 0) SH (stI (wrI M 16 f1) a 2 (sg (fun p => b01 (T p = k)) (p + 1))) 0 0 56 [some (.inr (.inr 15)), some (.inr (.inr a)), some (.inl k), some (.inr (.inr 1)), some (.inr (.inr ta)), some (.inl (p : Int)), some (.inl (i : Int))] [] := by
          refine p_for ((pgC M).1 p) _ _ ?_ ?_
          · intro f1 hI1
            refine e_iload C dX2_countCarriers_56 rfl ?_
            refine e_aload_n C dX2_countCarriers_58 rfl ?_
            refine e_iload C dX2_countCarriers_59 rfl ?_
            refine e_aaload3 C dX2_countCarriers_61 sh_1 _ rfl (by omega) (hW 1 p _ (rt_page p hp).1) ?_
            refine e_getI C f_X2_52 (pSh_page hW hp).1 dX2_countCarriers_62 ?_
            rw [rdC _ _ _ hp]
            refine e_icmp_ge C (tgt := 93) dX2_countCarriers_65 (by decide) (by omega) (by omega) (fun h_65 => ?_) (fun h_65 => by exfalso; omega)
            refine e_iinc C dX2_countCarriers_93 rfl ?_
            refine e_goto C (tgt := 27) dX2_countCarriers_96 (by decide) ?_
            refine ih (f1, _) (fun c h1 h2 => ?_)
            simp only [sg]
            rw [hI1 c h1 h2, show ccP (pgC M) T k (c : Int) p = sg (fun i => b01 (((pgC M).2 p).2.2 i = (c : Int))) ((pgC M).1 p) from if_pos hTk]
          · intro i f1 hi hI1 ih1
            have hcd := (hbx i hi).2.2
            obtain ⟨cc, hcc⟩ := Int.eq_ofNat_of_zero_le (show 0 ≤ ((pgC M).2 p).2.2 i by omega)
            refine e_iload C dX2_countCarriers_56 rfl ?_
            refine e_aload_n C dX2_countCarriers_58 rfl ?_
            refine e_iload C dX2_countCarriers_59 rfl ?_
            refine e_aaload3 C dX2_countCarriers_61 sh_1 _ rfl (by omega) (hW 1 p _ (rt_page p hp).1) ?_
            refine e_getI C f_X2_52 (pSh_page hW hp).1 dX2_countCarriers_62 ?_
            rw [rdC _ _ _ hp]
            refine e_icmp_ge C (tgt := 93) dX2_countCarriers_65 (by decide) (by omega) (by omega) (fun h_65 => by exfalso; omega) (fun h_65 => ?_)
            refine e_aload_n C dX2_countCarriers_68 rfl ?_
            refine e_getR C f_X2_9 sh_15 (hW 15 0 16 rfl) dX2_countCarriers_69 ?_
            refine e_aload_n C dX2_countCarriers_72 rfl ?_
            refine e_iload C dX2_countCarriers_73 rfl ?_
            refine e_aaload3 C dX2_countCarriers_75 sh_1 _ rfl (by omega) (hW 1 p _ (rt_page p hp).1) ?_
            refine e_getR C f_X2_55 (pSh_page hW hp).1 (pSh_page hW hp).2.2.2.2.2.1 dX2_countCarriers_76 ?_
            refine e_iload C dX2_countCarriers_79 rfl ?_
            refine e_iaload C dX2_countCarriers_81 (pSh_page hW hp).2.1 _ rfl (by omega) ?_
            rw [rdX _ _ _ _ hp]
            refine e_dup2 C dX2_countCarriers_82 ?_
            refine e_iaload C dX2_countCarriers_83 sh_16 cc hcc (by omega) ?_
            rw [rdF]
            refine e_iconst C dX2_countCarriers_84 ?_
            refine e_iadd C dX2_countCarriers_85 ?_
            refine e_iastore C dX2_countCarriers_86 sh_16 cc hcc (by omega) ?_
            rw [stF]
            refine e_iinc C dX2_countCarriers_87 rfl ?_
            refine e_goto C (tgt := 56) dX2_countCarriers_90 (by decide) ?_
            refine ih1 (up f1 cc (f1 cc + 1)) (fun c h1 h2 => ?_)
            simp only [sg]
            by_cases e : c = cc
            · subst e; rw [up_s, hI1 c h1 h2, show b01 (((pgC M).2 p).2.2 i = (c : Int)) = 1 from if_pos hcc]; omega
            · rw [up_n e, hI1 c h1 h2, show b01 (((pgC M).2 p).2.2 i = (c : Int)) = 0 from if_neg (by omega)]; omega
        refine e_iload C dX2_countCarriers_27 rfl ?_
        refine e_bipush C dX2_countCarriers_29 ?_
        refine e_icmp_ge C (tgt := 99) dX2_countCarriers_31 (by decide) (by omega) (by omega) (fun h_31 => by exfalso; omega) (fun h_31 => ?_)
        refine e_aload C dX2_countCarriers_34 rfl ?_
        refine e_iload C dX2_countCarriers_36 rfl ?_
        refine e_iaload C dX2_countCarriers_38 ht _ rfl (by omega) ?_
        rw [rdT _ _ _ hp]
        refine e_iload_n C dX2_countCarriers_39 rfl ?_
        refine e_icmp_ne C (tgt := 93) dX2_countCarriers_40 (by decide) (by omega) (by omega) (fun h_40 => by exact absurd hTk h_40) (fun h_40 => ?_)
        refine e_aload_n C dX2_countCarriers_43 rfl ?_
        refine e_dup C dX2_countCarriers_44 ?_
        refine e_getI C f_X2_30 hA.1 dX2_countCarriers_45 ?_
        rw [rd2]
        refine e_iconst C dX2_countCarriers_48 ?_
        refine e_iadd C dX2_countCarriers_49 ?_
        refine e_putI C f_X2_30 hA.1 (hd := dX2_countCarriers_50) (hfin := (fun CC T h => by obtain ⟨h1, -⟩ := h; cases h1; rfl)) ?_
        rw [stI_st, ← e1]
        refine e_iconst C dX2_countCarriers_53 ?_
        refine e_istore C dX2_countCarriers_54 ?_
        exact inner 0 f (by omega) (fun c h1 h2 => by simp only [sg]; rw [hI c h1 h2]; omega)
  have clr : ∀ (i : Nat) (s : Unit), i ≤ 100 → True → pE g 7 X (pMQ g SH (fun r M' => ∃ f : Nat → Int, r = none ∧ M' = stI (wrI M 16 f) a 2 (kTn T k) ∧ ∀ c : Nat, 1 ≤ c → c ≤ 99 → f c = knC (pgC M) T k (c : Int)) X 0 0) SH (wrI M 16 (fil (mI M 16) 0 i)) 0 0 3 [some (.inr (.inr 15)), some (.inr (.inr a)), some (.inl k), some (.inr (.inr 1)), some (.inr (.inr ta)), some (.inl (i : Int)), none] [] := by
    refine p_for 100 _ _ ?_ ?_
    · intro s _
      refine e_iload C dX2_countCarriers_3 rfl ?_
      refine e_bipush C dX2_countCarriers_5 ?_
      refine e_icmp_gt C (tgt := 24) dX2_countCarriers_7 (by decide) (by omega) (by omega) (fun h_7 => ?_) (fun h_7 => by exfalso; omega)
      refine e_iconst C dX2_countCarriers_24 ?_
      refine e_istore C dX2_countCarriers_25 ?_
      refine pE_M ?_ (ppl 0 (fil (mI M 16) 0 100, none) (by omega) (fun c h1 h2 => fil_i (by omega)))
      exact (stI_same _ _ _ _ (by rw [wrI_n _ _ _ (by omega)]; exact h0)).symm
    · intro i s hi _ ih
      refine e_iload C dX2_countCarriers_3 rfl ?_
      refine e_bipush C dX2_countCarriers_5 ?_
      refine e_icmp_gt C (tgt := 24) dX2_countCarriers_7 (by decide) (by omega) (by omega) (fun h_7 => by exfalso; omega) (fun h_7 => ?_)
      refine e_aload_n C dX2_countCarriers_10 rfl ?_
      refine e_getR C f_X2_9 sh_15 (hW 15 0 16 rfl) dX2_countCarriers_11 ?_
      refine e_iload C dX2_countCarriers_14 rfl ?_
      refine e_iconst C dX2_countCarriers_16 ?_
      refine e_iastore C dX2_countCarriers_17 sh_16 _ rfl (by omega) ?_
      rw [stI_wr, fil_s]
      refine e_iinc C dX2_countCarriers_18 rfl ?_
      refine e_goto C (tgt := 3) dX2_countCarriers_21 (by decide) ?_
      exact ih () trivial
  show pE g 7 X _ SH M 0 0 0 [some (.inr (.inr 15)), some (.inr (.inr a)), some (.inl k), some (.inr (.inr 1)), some (.inr (.inr ta)), none, none] []
  refine e_iconst C dX2_countCarriers_0 ?_
  refine e_istore C dX2_countCarriers_1 ?_
  have hz := clr 0 () (by omega) trivial
  rw [fil_0, wrI_e] at hz
  exact hz
end
section
/-! ===== Maker: gather ===== -/
def GM (M : pMem) (f h : Nat → Int) : pMem := wrI (wrI M 17 f) 18 h
theorem GM_c (M : pMem) (f h : Nat → Int) : GM M f h = wrI (wrI M 18 h) 17 f := by
  unfold GM wrI
  simp only [Prod.mk.injEq, and_true]
  funext b i; (repeat' split) <;> simp_all
theorem GM_n {M : pMem} {f h : Nat → Int} {b : Nat} (j : Nat) (hb : b ≠ 17 ∧ b ≠ 18) : mI (GM M f h) b j = mI M b j := by
  unfold GM; rw [wrI_n _ _ _ hb.2, wrI_n _ _ _ hb.1]
theorem GM_17 {M : pMem} {f h : Nat → Int} (j : Nat) : mI (GM M f h) 17 j = f j := by unfold GM; rw [wrI_n _ _ _ (by decide), wrI_s]
theorem GM_18 {M : pMem} {f h : Nat → Int} (j : Nat) : mI (GM M f h) 18 j = h j := by unfold GM; rw [wrI_s]
theorem GM_e (M : pMem) : M = GM M (mI M 17) (mI M 18) := by
  unfold GM; rw [wrI_e, wrI_e]
def gaI (G : pPg) (T : Nat → Int) (k c : Int) (p n : Nat) (f h : Nat → Int) : Prop :=
  (n : Int) = sg (fun p => b01 (onK G T k c p = true)) p ∧ n ≤ p ∧ srt f n ∧ srt h n ∧ (∀ t, cnL f n t = sg (fun p => b01 (onK G T k c p = true ∧ (G.2 p).1 (ixC G p c).toNat ≤ t)) p) ∧ (∀ t, cnL h n t = sg (fun p => b01 (onK G T k c p = true ∧ (G.2 p).2.1 (ixC G p c).toNat ≤ t)) p) ∧ (∀ i, i < n → 0 ≤ f i ∧ f i ≤ 63) ∧ ∀ i, i < n → 0 ≤ h i ∧ h i ≤ 63
theorem gaI_no {G : pPg} {T : Nat → Int} {k c : Int} {p n : Nat} {f h : Nat → Int} (hI : gaI G T k c p n f h) (hn : ¬ onK G T k c p = true) : gaI G T k c (p + 1) n f h := by
  obtain ⟨h1, h2, h3, h4, h5, h6, h7, h8⟩ := hI
  refine ⟨?_, by omega, h3, h4, fun t => ?_, fun t => ?_, h7, h8⟩
  · simp only [sg]; rw [show b01 (onK G T k c p = true) = 0 from if_neg hn]; omega
  · simp only [sg]; rw [h5, show b01 (onK G T k c p = true ∧ (G.2 p).1 (ixC G p c).toNat ≤ t) = 0 from if_neg (fun q => hn q.1)]; omega
  · simp only [sg]; rw [h6, show b01 (onK G T k c p = true ∧ (G.2 p).2.1 (ixC G p c).toNat ≤ t) = 0 from if_neg (fun q => hn q.1)]; omega
theorem b01_and {a b : Prop} [Decidable a] [Decidable b] (h : a) : b01 (a ∧ b) = b01 b := by unfold b01; by_cases hb : b <;> simp [h, hb]
theorem c_gather {g : pG} {M : pMem} {ta : Nat} {T : Nat → Int} {k c : Int} (hW : pW M) (ht : SH[ta]? = some (.inr (0, 16))) (hta : ta = 2 ∨ ta = 20) (hT : ∀ p, p < 16 → mI M ta p = T p ∧ -1 ≤ T p ∧ T p < 5) (hk : 0 ≤ k ∧ k < 5) (hG : pgM M) (hc : 1 ≤ c ∧ c ≤ 99) :
    pCn g 2 0 0 yX2_gather cX2_gather 8 (some .int) SH SH M [.inr (.inr 15), .inl c, .inl k, .inr (.inr 1), .inr (.inr ta)] (fun r M' => ∃ (n : Nat) (f h : Nat → Int), r = some (.inl (n : Int)) ∧ M' = GM M f h ∧ gaI (pgC M) T k c 16 n f h) := by
  refine pCn_intro mt_X2_gather (fun X C => ?_)
  have loop : ∀ (p : Nat) (s : Nat × (Nat → Int) × (Nat → Int) × Option pV), p ≤ 16 → gaI (pgC M) T k c p s.1 s.2.1 s.2.2.1 → pE g 8 X (pMQ g SH (fun r M' => ∃ (n : Nat) (f h : Nat → Int), r = some (.inl (n : Int)) ∧ M' = GM M f h ∧ gaI (pgC M) T k c 16 n f h) X 0 0) SH (GM M s.2.1 s.2.2.1) 0 0 6 [some (.inr (.inr 15)), some (.inl c), some (.inl k), some (.inr (.inr 1)), some (.inr (.inr ta)), some (.inl (s.1 : Int)), some (.inl (p : Int)), s.2.2.2] [] := by
    refine p_for 16 _ _ ?_ ?_
    · rintro ⟨n, f, h, x7⟩ hI
      dsimp only at hI ⊢
      refine e_iload C dX2_gather_6 rfl ?_
      refine e_bipush C dX2_gather_8 ?_
      refine e_icmp_ge C (tgt := 89) dX2_gather_10 (by decide) (by omega) (by omega) (fun h_10 => ?_) (fun h_10 => by exfalso; omega)
      refine e_iload C dX2_gather_89 rfl ?_
      exact e_ireturn C dX2_gather_91 ⟨n, f, h, rfl, rfl, hI⟩
    · rintro p ⟨n, f, h, x7⟩ hp hI ih
      dsimp only at hI ih ⊢
      have hTp := (hT p hp).2
      have rdT : mI (GM M f h) ta p = T p := by rw [GM_n _ (by omega)]; exact (hT p hp).1
      by_cases hTk : T p = k
      rotate_left
      · refine e_iload C dX2_gather_6 rfl ?_
        refine e_bipush C dX2_gather_8 ?_
        refine e_icmp_ge C (tgt := 89) dX2_gather_10 (by decide) (by omega) (by omega) (fun h_10 => by exfalso; omega) (fun h_10 => ?_)
        refine e_aload C dX2_gather_13 rfl ?_
        refine e_iload C dX2_gather_15 rfl ?_
        refine e_iaload C dX2_gather_17 ht _ rfl (by omega) ?_
        rw [rdT]
        refine e_iload_n C dX2_gather_18 rfl ?_
        refine e_icmp_ne C (tgt := 33) dX2_gather_19 (by decide) (by omega) (by omega) (fun h_19 => ?_) (fun h_19 => by exact absurd (fun e => hTk e) h_19)
        refine e_iconst C dX2_gather_33 ?_
        refine e_istore C dX2_gather_34 ?_
        refine e_iload C dX2_gather_36 rfl ?_
        refine e_iconst C dX2_gather_38 ?_
        refine e_icmp_eq C (tgt := 83) dX2_gather_39 (by decide) (by omega) (by omega) (fun h_39 => ?_) (fun h_39 => by exfalso; omega)
        refine e_iinc C dX2_gather_83 rfl ?_
        refine e_goto C (tgt := 6) dX2_gather_86 (by decide) ?_
        exact ih (n, f, h, _) (gaI_no hI (fun q => hTk (of_decide_eq_true q).1))
      · have hcn := (hG.2.1 p hp).1
        have hbx := (hG.2.1 p hp).2
        have ef : mI (GM M f h) (38 + 5 * p + 1) = ((pgC M).2 p).2.2 := funext (fun j => GM_n j (by omega))
        have ec : mI (GM M f h) (38 + 5 * p) 4 = (((pgC M).1 p : Nat) : Int) := by rw [GM_n _ (by omega)]; exact hG.1 p hp
        have eix : fndI (mI (GM M f h) (38 + 5 * p + 1)) c 0 ((pgC M).1 p) = ixC (pgC M) p c := by rw [ef]; rfl
        rcases ixC_sp (pgC M) p c with ⟨x1, x2⟩ | ⟨j, x1, x2, x3⟩
        · refine e_iload C dX2_gather_6 rfl ?_
          refine e_bipush C dX2_gather_8 ?_
          refine e_icmp_ge C (tgt := 89) dX2_gather_10 (by decide) (by omega) (by omega) (fun h_10 => by exfalso; omega) (fun h_10 => ?_)
          refine e_aload C dX2_gather_13 rfl ?_
          refine e_iload C dX2_gather_15 rfl ?_
          refine e_iaload C dX2_gather_17 ht _ rfl (by omega) ?_
          rw [rdT]
          refine e_iload_n C dX2_gather_18 rfl ?_
          refine e_icmp_ne C (tgt := 33) dX2_gather_19 (by decide) (by omega) (by omega) (fun h_19 => by exact absurd hTk h_19) (fun h_19 => ?_)
          refine e_aload_n C dX2_gather_22 rfl ?_
          refine e_iload C dX2_gather_23 rfl ?_
          refine e_aaload3 C dX2_gather_25 sh_1 _ rfl (by omega) (hW 1 p _ (rt_page p hp).1) ?_
          refine e_iload_n C dX2_gather_26 rfl ?_
          refine e_callV C (c_find (M := GM M f h) (a := 38 + 5 * p) (N := 8) (n := (pgC M).1 p) (c := c) (pSh_page hW hp) ec hcn (by decide) (by omega) (fun i hi => by rw [ef]; have := (hbx i hi).2.2; omega)) mt_X4_find s_X2_58 dX2_gather_27 4 (pSh_page (M := GM M f h) hW hp).1 rfl (fun r M1 hq => ?_)
          obtain ⟨rfl, hM⟩ := hq
          subst M1
          dsimp only [Option.toList_some, List.singleton_append]
          rw [eix, x1]
          refine e_goto C (tgt := 34) dX2_gather_30 (by decide) ?_
          refine e_istore C dX2_gather_34 ?_
          refine e_iload C dX2_gather_36 rfl ?_
          refine e_iconst C dX2_gather_38 ?_
          refine e_icmp_eq C (tgt := 83) dX2_gather_39 (by decide) (by omega) (by omega) (fun h_39 => ?_) (fun h_39 => by exfalso; omega)
          refine e_iinc C dX2_gather_83 rfl ?_
          refine e_goto C (tgt := 6) dX2_gather_86 (by decide) ?_
          exact ih (n, f, h, _) (gaI_no hI (fun q => (of_decide_eq_true q).2 x1))
        · have hon : onK (pgC M) T k c p = true := decide_eq_true ⟨hTk, by omega⟩
          have hbj := hbx j x1
          obtain ⟨i1, i2, i3, i4, i5, i6, i7, i8⟩ := hI
          refine e_iload C dX2_gather_6 rfl ?_
          refine e_bipush C dX2_gather_8 ?_
          refine e_icmp_ge C (tgt := 89) dX2_gather_10 (by decide) (by omega) (by omega) (fun h_10 => by exfalso; omega) (fun h_10 => ?_)
          refine e_aload C dX2_gather_13 rfl ?_
          refine e_iload C dX2_gather_15 rfl ?_
          refine e_iaload C dX2_gather_17 ht _ rfl (by omega) ?_
          rw [rdT]
          refine e_iload_n C dX2_gather_18 rfl ?_
          refine e_icmp_ne C (tgt := 33) dX2_gather_19 (by decide) (by omega) (by omega) (fun h_19 => by exact absurd hTk h_19) (fun h_19 => ?_)
          refine e_aload_n C dX2_gather_22 rfl ?_
          refine e_iload C dX2_gather_23 rfl ?_
          refine e_aaload3 C dX2_gather_25 sh_1 _ rfl (by omega) (hW 1 p _ (rt_page p hp).1) ?_
          refine e_iload_n C dX2_gather_26 rfl ?_
          refine e_callV C (c_find (M := GM M f h) (a := 38 + 5 * p) (N := 8) (n := (pgC M).1 p) (c := c) (pSh_page hW hp) ec hcn (by decide) (by omega) (fun i hi => by rw [ef]; have := (hbx i hi).2.2; omega)) mt_X4_find s_X2_58 dX2_gather_27 4 (pSh_page (M := GM M f h) hW hp).1 rfl (fun r M1 hq => ?_)
          obtain ⟨rfl, hM⟩ := hq
          subst M1
          dsimp only [Option.toList_some, List.singleton_append]
          rw [eix, x3]
          refine e_goto C (tgt := 34) dX2_gather_30 (by decide) ?_
          refine e_istore C dX2_gather_34 ?_
          refine e_iload C dX2_gather_36 rfl ?_
          refine e_iconst C dX2_gather_38 ?_
          refine e_icmp_eq C (tgt := 83) dX2_gather_39 (by decide) (by omega) (by omega) (fun h_39 => by exfalso; omega) (fun h_39 => ?_)
          refine e_aload_n C dX2_gather_42 rfl ?_
          refine e_getR C f_X2_15 sh_15 (hW 15 1 17 rfl) dX2_gather_43 ?_
          refine e_iload C dX2_gather_46 rfl ?_
          refine e_aload_n C dX2_gather_48 rfl ?_
          refine e_iload C dX2_gather_49 rfl ?_
          refine e_aaload3 C dX2_gather_51 sh_1 _ rfl (by omega) (hW 1 p _ (rt_page p hp).1) ?_
          refine e_getR C f_X2_62 (pSh_page (M := GM M f h) hW hp).1 (pSh_page (M := GM M f h) hW hp).2.2.2.2.2.2.1 dX2_gather_52 ?_
          refine e_iload C dX2_gather_55 rfl ?_
          refine e_iaload C dX2_gather_57 (pSh_page (M := GM M f h) hW hp).2.2.1 _ rfl (by omega) ?_
          rw [GM_n _ (by omega), show mI M (38 + 5 * p + 2) j = ((pgC M).2 p).1 j from rfl]
          refine pE_M (GM_c M f h) ?_
          refine e_callS C (c_put (M := wrI M 18 h) (ra := 17) (n := n) (f := f) (v := ((pgC M).2 p).1 j) rfl (by omega) i3 hbj.1 i7) mt_X2_putByRising s_X2_63 dX2_gather_58 (fun r7 M7 hq7 => ?_)
          obtain ⟨f7, rfl, hM7, s7, c7, g7⟩ := hq7
          subst M7
          dsimp only [Option.toList_none, List.nil_append]
          refine pE_M (GM_c M f7 h).symm ?_
          refine e_aload_n C dX2_gather_61 rfl ?_
          refine e_getR C f_X2_18 sh_15 (hW 15 2 18 rfl) dX2_gather_62 ?_
          refine e_iload C dX2_gather_65 rfl ?_
          refine e_aload_n C dX2_gather_67 rfl ?_
          refine e_iload C dX2_gather_68 rfl ?_
          refine e_aaload3 C dX2_gather_70 sh_1 _ rfl (by omega) (hW 1 p _ (rt_page p hp).1) ?_
          refine e_getR C f_X2_67 (pSh_page (M := GM M f7 h) hW hp).1 (pSh_page (M := GM M f7 h) hW hp).2.2.2.2.2.2.2.1 dX2_gather_71 ?_
          refine e_iload C dX2_gather_74 rfl ?_
          refine e_iaload C dX2_gather_76 (pSh_page (M := GM M f7 h) hW hp).2.2.2.1 _ rfl (by omega) ?_
          rw [GM_n _ (by omega), show mI M (38 + 5 * p + 3) j = ((pgC M).2 p).2.1 j from rfl]
          refine e_callS C (c_put (M := wrI M 17 f7) (ra := 18) (n := n) (f := h) (v := ((pgC M).2 p).2.1 j) rfl (by omega) i4 hbj.2.1 i8) mt_X2_putByRising s_X2_63 dX2_gather_77 (fun r8 M8 hq8 => ?_)
          obtain ⟨h8, rfl, hM8, s8, c8, g8⟩ := hq8
          subst M8
          dsimp only [Option.toList_none, List.nil_append]
          refine e_iinc C dX2_gather_80 rfl ?_
          refine e_iinc C dX2_gather_83 rfl ?_
          refine e_goto C (tgt := 6) dX2_gather_86 (by decide) ?_
          refine ih (n + 1, f7, h8, _) ⟨?_, by dsimp only; omega, s7, s8, fun t => ?_, fun t => ?_, g7, g8⟩
          · dsimp only; simp only [sg]; rw [show b01 (onK (pgC M) T k c p = true) = 1 from if_pos hon]; omega
          · dsimp only; simp only [sg]; rw [c7, i5, b01_and hon, x3, Int.toNat_natCast]
          · dsimp only; simp only [sg]; rw [c8, i6, b01_and hon, x3, Int.toNat_natCast]
  show pE g 8 X _ SH M 0 0 0 [some (.inr (.inr 15)), some (.inl c), some (.inl k), some (.inr (.inr 1)), some (.inr (.inr ta)), none, none, none] []
  refine e_iconst C dX2_gather_0 ?_
  refine e_istore C dX2_gather_1 ?_
  refine e_iconst C dX2_gather_3 ?_
  refine e_istore C dX2_gather_4 ?_
  exact pE_M (GM_e M) (loop 0 (0, mI M 17, mI M 18, none) (by omega) ⟨rfl, Nat.le_refl _, fun i j _ hj => absurd hj (Nat.not_lt_zero j), fun i j _ hj => absurd hj (Nat.not_lt_zero j), fun t => rfl, fun t => rfl, fun i hi => absurd hi (Nat.not_lt_zero i), fun i hi => absurd hi (Nat.not_lt_zero i)⟩)
end
section
/-! ===== Maker.make ===== -/
/-- cells that making the kind at a leaves alone -/
def mkO (a : Nat) : Nat → Prop := fun b => (b < a ∨ a + 7 ≤ b) ∧ b ≠ 16 ∧ b ≠ 17 ∧ b ≠ 18
theorem shAdd_1 {M : pMem} {b m : Nat} {c x y w : Int} : mI (shAdd M b m c x y w) (b + 1) = up (mI M (b + 1)) m c := by
  funext j; unfold shAdd
  rw [stI_n _ _ (by omega), stI_n _ _ (by omega), stI_n _ _ (by omega), stI_n _ _ (by omega)]
  by_cases e : j = m
  · subst e; rw [stI_s, up_s]
  · rw [stI_n _ _ (by omega), up_n e]
theorem shAdd_2 {M : pMem} {b m : Nat} {c x y w : Int} : mI (shAdd M b m c x y w) (b + 2) = up (mI M (b + 2)) m x := by
  funext j; unfold shAdd
  rw [stI_n _ _ (by omega), stI_n _ _ (by omega), stI_n _ _ (by omega)]
  by_cases e : j = m
  · subst e; rw [stI_s, up_s]
  · rw [stI_n _ _ (by omega), stI_n _ _ (by omega), up_n e]
theorem shAdd_3 {M : pMem} {b m : Nat} {c x y w : Int} : mI (shAdd M b m c x y w) (b + 3) = up (mI M (b + 3)) m y := by
  funext j; unfold shAdd
  rw [stI_n _ _ (by omega), stI_n _ _ (by omega)]
  by_cases e : j = m
  · subst e; rw [stI_s, up_s]
  · rw [stI_n _ _ (by omega), stI_n _ _ (by omega), stI_n _ _ (by omega), up_n e]
theorem shAdd_4 {M : pMem} {b m : Nat} {c x y w : Int} : mI (shAdd M b m c x y w) (b + 4) = up (mI M (b + 4)) m w := by
  funext j; unfold shAdd
  rw [stI_n _ _ (by omega)]
  by_cases e : j = m
  · subst e; rw [stI_s, up_s]
  · rw [stI_n _ _ (by omega), stI_n _ _ (by omega), stI_n _ _ (by omega), stI_n _ _ (by omega), up_n e]
theorem shAdd_c {M : pMem} {b m : Nat} {c x y w : Int} : mI (shAdd M b m c x y w) b 4 = (m : Int) + 1 := by unfold shAdd; exact stI_s _ _ _ _
theorem shAdd_o {M : pMem} {b m : Nat} {c x y w : Int} {e j : Nat} (h : e < b ∨ b + 4 < e) : mI (shAdd M b m c x y w) e j = mI M e j := by
  unfold shAdd
  rw [stI_n _ _ (by omega), stI_n _ _ (by omega), stI_n _ _ (by omega), stI_n _ _ (by omega), stI_n _ _ (by omega)]
def mkI (G : pPg) (T : Nat → Int) (k : Int) (a : Nat) (M : pMem) (e : Nat) (N : pMem) : Prop :=
  agr (mkO a) M N ∧ (∀ c : Nat, 1 ≤ c → c ≤ 99 → mI N 16 c = knC G T k (c : Int)) ∧ mI N a 2 = kTn T k ∧ mI N (a + 1) 4 = (spc G T k (e - 1) : Int) ∧ kdP G T k (e - 1) (shS N (a + 1)) ∧ ∀ j, j < 16 → mL N (a + 6) j = -1
theorem kdP_no {G : pPg} {T : Nat → Int} {k : Int} {e : Nat} {Z : pS} (h : kdP G T k (e - 1) Z) (he : 1 ≤ e) (hs : ¬ isSp G T k (e : Int) = true) : kdP G T k e Z ∧ spc G T k e = spc G T k (e - 1) := by
  obtain ⟨d, rfl⟩ : ∃ d, e = d + 1 := ⟨e - 1, by omega⟩
  rw [Nat.add_sub_cancel] at h ⊢
  refine ⟨fun c h1 h2 h3 => ?_, by simp only [spc]; rw [if_neg hs]; rfl⟩
  rcases Nat.lt_or_ge c (d + 1) with q | q
  · exact h c h1 (by omega) h3
  · have : c = d + 1 := by omega
    subst this; exact absurd h3 hs
theorem kdP_yes {G : pPg} {T : Nat → Int} {k : Int} {e : Nat} {Z Z2 : pS} {x y : Int} (h : kdP G T k (e - 1) Z) (he : 1 ≤ e) (hs : isSp G T k (e : Int) = true)
    (e1 : Z2.1 = up Z.1 (spc G T k (e - 1)) x) (e2 : Z2.2.1 = up Z.2.1 (spc G T k (e - 1)) y) (e3 : Z2.2.2.1 = up Z.2.2.1 (spc G T k (e - 1)) (e : Int)) (e4 : Z2.2.2.2 = up Z.2.2.2 (spc G T k (e - 1)) (b01 (knC G T k (e : Int) = kTn T k)))
    (hx : isMed (cvX G T k (e : Int)) (knC G T k (e : Int)).toNat x) (hy : isMed (cvY G T k (e : Int)) (knC G T k (e : Int)).toNat y) : kdP G T k e Z2 ∧ spc G T k e = spc G T k (e - 1) + 1 := by
  obtain ⟨d, rfl⟩ : ∃ d, e = d + 1 := ⟨e - 1, by omega⟩
  rw [Nat.add_sub_cancel] at *
  refine ⟨fun c h1 h2 h3 => ?_, by simp only [spc]; rw [if_pos hs]⟩
  rw [e1, e2, e3, e4]
  rcases Nat.lt_or_ge c (d + 1) with q | q
  · have hlt : spc G T k (c - 1) < spc G T k d := by
      have := spc_mono (G := G) (T := T) (k := k) (show c ≤ d by omega)
      obtain ⟨c', rfl⟩ : ∃ c', c = c' + 1 := ⟨c - 1, by omega⟩
      simp only [spc] at this
      rw [if_pos h3] at this
      rw [Nat.add_sub_cancel]; omega
    rw [up_n (by omega), up_n (by omega), up_n (by omega), up_n (by omega)]
    exact h c h1 (by omega) h3
  · have : c = d + 1 := by omega
    subst this
    rw [Nat.add_sub_cancel, up_s, up_s, up_s, up_s]
    exact ⟨rfl, hx, hy, rfl⟩
theorem c_make {g : pG} {M : pMem} {a ta : Nat} {T : Nat → Int} {k : Int} (hW : pW M) (hA : pKd M a) (ha : 22 ≤ a ∧ (a ≤ 29 ∨ 118 ≤ a)) (ht : SH[ta]? = some (.inr (0, 16))) (hta : ta = 2 ∨ ta = 20) (hT : ∀ p, p < 16 → mI M ta p = T p ∧ -1 ≤ T p ∧ T p < 5) (hk : 0 ≤ k ∧ k < 5) (hG : pgM M) :
    pCn g 3 0 0 yX2_make cX2_make 7 none SH SH M [.inr (.inr 15), .inr (.inr a), .inl k, .inr (.inr 1), .inr (.inr ta)] (fun r M' => r = none ∧ agr (mkO a) M M' ∧ isKd (pgC M) T k (mI M' a 2) (mI M' (a + 1) 4).toNat (shS M' (a + 1)) ∧ mI M' (a + 1) 4 = (((mI M' (a + 1) 4).toNat : Nat) : Int) ∧ ∀ j, j < 16 → mL M' (a + 6) j = -1) := by
  refine pCn_intro mt_X2_make (fun X C => ?_)
  have h16 := spc_16 (G := pgC M) (T := T) (k := k) (fun p hp => (hG.2.1 p hp).1)
  have loop : ∀ (e : Nat) (s : pMem × Option pV), e ≤ 100 → (1 ≤ e ∧ mkI (pgC M) T k a M e s.1) → pE g 7 X (pMQ g SH (fun r M' => r = none ∧ agr (mkO a) M M' ∧ isKd (pgC M) T k (mI M' a 2) (mI M' (a + 1) 4).toNat (shS M' (a + 1)) ∧ mI M' (a + 1) 4 = (((mI M' (a + 1) 4).toNat : Nat) : Int) ∧ ∀ j, j < 16 → mL M' (a + 6) j = -1) X 0 0) SH s.1 0 0 16 [some (.inr (.inr 15)), some (.inr (.inr a)), some (.inl k), some (.inr (.inr 1)), some (.inr (.inr ta)), some (.inl (e : Int)), s.2] [] := by
    refine p_for 100 _ _ ?_ ?_
    · rintro ⟨N, x6⟩ ⟨-, i1, i2, i3, i4, i5, i6⟩
      dsimp only at i1 i2 i3 i4 i5 i6 ⊢
      refine e_iload C dX2_make_16 rfl ?_
      refine e_bipush C dX2_make_18 ?_
      refine e_icmp_gt C (tgt := 108) dX2_make_20 (by decide) (by omega) (by omega) (fun h_20 => ?_) (fun h_20 => by exfalso; omega)
      exact e_return C dX2_make_108 ⟨rfl, i1, ⟨i3, by rw [i4]; rfl, i5⟩, by rw [i4]; rfl, i6⟩
    · rintro e ⟨N, x6⟩ he2 ⟨he, hI⟩ ih
      dsimp only at hI ih ⊢
      obtain ⟨i1, i2, i3, i4, i5, i6⟩ := id hI
      have hk1 := kn_r (pgC M) T k (e : Int)
      have hWN : pW N := agr_W i1 hW
      have hAN : pKd N a := ⟨hA.1, (i1.2 _ _).trans hA.2.1, ⟨hA.2.2.1.1, hA.2.2.1.2.1, hA.2.2.1.2.2.1, hA.2.2.1.2.2.2.1, hA.2.2.1.2.2.2.2.1, (i1.2 _ _).trans hA.2.2.1.2.2.2.2.2.1, (i1.2 _ _).trans hA.2.2.1.2.2.2.2.2.2.1, (i1.2 _ _).trans hA.2.2.1.2.2.2.2.2.2.2.1, (i1.2 _ _).trans hA.2.2.1.2.2.2.2.2.2.2.2⟩, hA.2.2.2.1, (i1.2 _ _).trans hA.2.2.2.2⟩
      have pge : ∀ p, p < 16 → (pgC N).1 p = (pgC M).1 p ∧ (pgC N).2 p = (pgC M).2 p := fun p hp => pgC_ag i1 (fun b h1 h2 => by unfold mkO; omega) hp
      have ixe : ∀ p, p < 16 → ∀ c, ixC (pgC N) p c = ixC (pgC M) p c := fun p hp c => by unfold ixC; rw [(pge p hp).1, (pge p hp).2]
      have onKe : ∀ p, p < 16 → onK (pgC N) T k (e : Int) p = onK (pgC M) T k (e : Int) p := fun p hp => by unfold onK; rw [ixe p hp]
      have ixe : ∀ p, p < 16 → ixC (pgC N) p (e : Int) = ixC (pgC M) p (e : Int) := fun p hp => ixe p hp _
      have hGN : pgM N := by
        refine ⟨fun p hp => ?_, fun p hp => ?_, fun p i j hp hi hj => ?_⟩
        · rw [(pge p hp).1, (i1.1 _ 4 (by unfold mkO; omega)).1]; exact hG.1 p hp
        · rw [(pge p hp).1, (pge p hp).2]; exact hG.2.1 p hp
        · rw [(pge p hp).1] at hi hj; rw [(pge p hp).2]; exact hG.2.2 p i j hp hi hj
      have hTN : ∀ p, p < 16 → mI N ta p = T p ∧ -1 ≤ T p ∧ T p < 5 := fun p hp => ⟨((i1.1 ta p (by unfold mkO; omega)).1).trans (hT p hp).1, (hT p hp).2⟩
      by_cases hsp : isSp (pgC M) T k (e : Int) = true
      rotate_left
      · have nx : mkI (pgC M) T k a M (e + 1) N := by
          obtain ⟨k1, k2⟩ := kdP_no i5 he hsp
          exact ⟨i1, i2, i3, by rw [Nat.add_sub_cancel, k2]; exact i4, by rw [Nat.add_sub_cancel]; exact k1, i6⟩
        have hns : ¬ (0 < knC (pgC M) T k (e : Int) ∧ kTn T k ≤ 2 * knC (pgC M) T k (e : Int)) := fun q => hsp (decide_eq_true q)
        refine e_iload C dX2_make_16 rfl ?_
        refine e_bipush C dX2_make_18 ?_
        refine e_icmp_gt C (tgt := 108) dX2_make_20 (by decide) (by omega) (by omega) (fun h_20 => by exfalso; omega) (fun h_20 => ?_)
        refine e_aload_n C dX2_make_23 rfl ?_
        refine e_getR C f_X2_9 sh_15 (hWN 15 0 16 rfl) dX2_make_24 ?_
        refine e_iload C dX2_make_27 rfl ?_
        refine e_iaload C dX2_make_29 sh_16 e rfl (by omega) ?_
        rw [i2 e he (by omega)]
        refine e_if_le C (tgt := 102) dX2_make_30 (by decide) (by omega) (fun h_30 => ?_) (fun h_30 => ?_)
        · refine e_iinc C dX2_make_102 rfl ?_
          refine e_goto C (tgt := 16) dX2_make_105 (by decide) ?_
          exact ih (N, x6) ⟨by omega, nx⟩
        · refine e_iconst C dX2_make_33 ?_
          refine e_aload_n C dX2_make_34 rfl ?_
          refine e_getR C f_X2_9 sh_15 (hWN 15 0 16 rfl) dX2_make_35 ?_
          refine e_iload C dX2_make_38 rfl ?_
          refine e_iaload C dX2_make_40 sh_16 e rfl (by omega) ?_
          rw [i2 e he (by omega)]
          refine e_imul C dX2_make_41 ?_
          refine e_aload_n C dX2_make_42 rfl ?_
          refine e_getI C f_X2_30 hAN.1 dX2_make_43 ?_
          rw [i3]
          refine e_icmp_lt C (tgt := 102) dX2_make_46 (by decide) (by omega) (by omega) (fun h_46 => ?_) (fun h_46 => by exfalso; omega)
          refine e_iinc C dX2_make_102 rfl ?_
          refine e_goto C (tgt := 16) dX2_make_105 (by decide) ?_
          exact ih (N, x6) ⟨by omega, nx⟩
      · have hsp2 := of_decide_eq_true hsp
        have hlt : spc (pgC M) T k (e - 1) < 16 := by
          have h1 := spc_mono (G := pgC M) (T := T) (k := k) (show e ≤ 99 by omega)
          have h2 : spc (pgC M) T k e = spc (pgC M) T k (e - 1) + 1 := by
            obtain ⟨d, rfl⟩ : ∃ d, e = d + 1 := ⟨e - 1, by omega⟩
            rw [Nat.add_sub_cancel]; simp only [spc]; rw [if_pos hsp]
          omega
        by_cases hall : knC (pgC M) T k (e : Int) = kTn T k
        · refine e_iload C dX2_make_16 rfl ?_
          refine e_bipush C dX2_make_18 ?_
          refine e_icmp_gt C (tgt := 108) dX2_make_20 (by decide) (by omega) (by omega) (fun h_20 => by exfalso; omega) (fun h_20 => ?_)
          refine e_aload_n C dX2_make_23 rfl ?_
          refine e_getR C f_X2_9 sh_15 (hWN 15 0 16 rfl) dX2_make_24 ?_
          refine e_iload C dX2_make_27 rfl ?_
          refine e_iaload C dX2_make_29 sh_16 e rfl (by omega) ?_
          rw [i2 e he (by omega)]
          refine e_if_le C (tgt := 102) dX2_make_30 (by decide) (by omega) (fun h_30 => by exfalso; omega) (fun h_30 => ?_)
          refine e_iconst C dX2_make_33 ?_
          refine e_aload_n C dX2_make_34 rfl ?_
          refine e_getR C f_X2_9 sh_15 (hWN 15 0 16 rfl) dX2_make_35 ?_
          refine e_iload C dX2_make_38 rfl ?_
          refine e_iaload C dX2_make_40 sh_16 e rfl (by omega) ?_
          rw [i2 e he (by omega)]
          refine e_imul C dX2_make_41 ?_
          refine e_aload_n C dX2_make_42 rfl ?_
          refine e_getI C f_X2_30 hAN.1 dX2_make_43 ?_
          rw [i3]
          refine e_icmp_lt C (tgt := 102) dX2_make_46 (by decide) (by omega) (by omega) (fun h_46 => by exfalso; omega) (fun h_46 => ?_)
          refine e_aload_n C dX2_make_49 rfl ?_
          refine e_iload C dX2_make_50 rfl ?_
          refine e_iload_n C dX2_make_52 rfl ?_
          refine e_aload_n C dX2_make_53 rfl ?_
          refine e_aload C dX2_make_54 rfl ?_
          refine e_callV C (c_gather (M := N) (ta := ta) (T := T) (k := k) (c := (e : Int)) hWN ht hta hTN hk hGN (by omega)) mt_X2_gather s_X2_34 dX2_make_56 2 sh_15 rfl (fun r M1 hq => ?_)
          obtain ⟨n, f, h, rfl, rfl, hga⟩ := hq
          dsimp only [Option.toList_some, List.singleton_append]
          obtain ⟨q1, q2, q3, q4, q5, q6, q7, q8⟩ := hga
          have hn : (n : Int) = knC (pgC M) T k (e : Int) := by
            rw [q1]; exact (sg_congr (fun p hp => by rw [onKe p hp]))
          have hnn : (knC (pgC M) T k (e : Int)).toNat = n := by omega
          refine e_istore C dX2_make_59 ?_
          refine e_aload_n C dX2_make_61 rfl ?_
          refine e_getR C f_X2_38 hAN.1 hAN.2.1 dX2_make_62 ?_
          refine e_iload C dX2_make_65 rfl ?_
          refine e_aload_n C dX2_make_67 rfl ?_
          refine e_getR C f_X2_15 sh_15 (hWN 15 1 17 rfl) dX2_make_68 ?_
          refine e_iload C dX2_make_71 rfl ?_
          refine e_callS C (c_middle (M := GM N f h) (ra := 17) (n := n) rfl (by omega)) mt_X2_middle s_X2_42 dX2_make_73 (fun r2 M2 hq2 => ?_)
          obtain ⟨rfl, hM2⟩ := hq2
          subst M2
          dsimp only [Option.toList_some, List.singleton_append]
          rw [GM_17]
          refine e_aload_n C dX2_make_76 rfl ?_
          refine e_getR C f_X2_18 sh_15 (hWN 15 2 18 rfl) dX2_make_77 ?_
          refine e_iload C dX2_make_80 rfl ?_
          refine e_callS C (c_middle (M := GM N f h) (ra := 18) (n := n) rfl (by omega)) mt_X2_middle s_X2_42 dX2_make_82 (fun r3 M3 hq3 => ?_)
          obtain ⟨rfl, hM3⟩ := hq3
          subst M3
          dsimp only [Option.toList_some, List.singleton_append]
          rw [GM_18]
          refine e_iload C dX2_make_85 rfl ?_
          refine e_aload_n C dX2_make_87 rfl ?_
          refine e_getI C f_X2_30 hAN.1 dX2_make_88 ?_
          rw [GM_n _ (by omega), i3]
          refine e_icmp_ne C (tgt := 98) dX2_make_91 (by decide) (by omega) (by omega) (fun h_91 => by exfalso; omega) (fun h_91 => ?_)
          refine e_iconst C dX2_make_94 ?_
          refine e_goto C (tgt := 99) dX2_make_95 (by decide) ?_
          refine e_callV C (c_add (M := GM N f h) (a := a + 1) (N := 16) (n := spc (pgC M) T k (e - 1)) (c := (e : Int)) (x := f ((n - 1) / 2)) (y := h ((n - 1) / 2)) (w := 1) hAN.2.2.1 (by decide) (by rw [GM_n _ (by omega)]; exact i4) (by omega) (by omega)) mt_X4_add s_X2_46 dX2_make_99 4 hAN.2.2.1.1 rfl (fun r4 M4 hq4 => ?_)
          obtain ⟨rfl, hM4⟩ := hq4
          subst M4
          dsimp only [Option.toList_none, List.nil_append]
          refine e_iinc C dX2_make_102 rfl ?_
          refine e_goto C (tgt := 16) dX2_make_105 (by decide) ?_
          have hxx : isMed (cvX (pgC M) T k (e : Int)) (knC (pgC M) T k (e : Int)).toNat (f ((n - 1) / 2)) := ⟨f, by rw [hnn]; exact q3, fun t => by rw [hnn, q5]; exact sg_congr (fun p hp => by rw [onKe p hp, ixe p hp, (pge p hp).2]), by rw [hnn]⟩
          have hyy : isMed (cvY (pgC M) T k (e : Int)) (knC (pgC M) T k (e : Int)).toNat (h ((n - 1) / 2)) := ⟨h, by rw [hnn]; exact q4, fun t => by rw [hnn, q6]; exact sg_congr (fun p hp => by rw [onKe p hp, ixe p hp, (pge p hp).2]), by rw [hnn]⟩
          have hw4 : b01 (knC (pgC M) T k (e : Int) = kTn T k) = 1 := if_pos hall
          have gS : ∀ b, b ≠ 17 ∧ b ≠ 18 → mI (GM N f h) b = mI N b := fun b hb => funext (fun j => GM_n j hb)
          obtain ⟨kd1, kd2⟩ := kdP_yes (Z2 := shS (shAdd (GM N f h) (a + 1) (spc (pgC M) T k (e - 1)) (e : Int) (f ((n - 1) / 2)) (h ((n - 1) / 2)) 1) (a + 1)) i5 he hsp
            (by unfold shS; rw [shAdd_2, gS _ (by omega)]) (by unfold shS; rw [shAdd_3, gS _ (by omega)]) (by unfold shS; rw [shAdd_1, gS _ (by omega)]) (by unfold shS; rw [shAdd_4, gS _ (by omega), hw4]) hxx hyy
          refine ih (shAdd (GM N f h) (a + 1) (spc (pgC M) T k (e - 1)) (e : Int) (f ((n - 1) / 2)) (h ((n - 1) / 2)) 1, _) ⟨by omega, ⟨fun b j hb => ⟨?_, ?_⟩, i1.2⟩, fun c h1 h2 => ?_, ?_, ?_, by rw [Nat.add_sub_cancel]; exact kd1, i6⟩
          · dsimp only; rw [shAdd_o (by unfold mkO at hb; omega), GM_n _ (by unfold mkO at hb; omega)]; exact (i1.1 b j hb).1
          · exact (i1.1 b j hb).2
          · dsimp only; rw [shAdd_o (by omega), GM_n _ (by omega)]; exact i2 c h1 h2
          · dsimp only; rw [shAdd_o (by omega), GM_n _ (by omega)]; exact i3
          · dsimp only; rw [shAdd_c, Nat.add_sub_cancel, kd2]; rfl
        · refine e_iload C dX2_make_16 rfl ?_
          refine e_bipush C dX2_make_18 ?_
          refine e_icmp_gt C (tgt := 108) dX2_make_20 (by decide) (by omega) (by omega) (fun h_20 => by exfalso; omega) (fun h_20 => ?_)
          refine e_aload_n C dX2_make_23 rfl ?_
          refine e_getR C f_X2_9 sh_15 (hWN 15 0 16 rfl) dX2_make_24 ?_
          refine e_iload C dX2_make_27 rfl ?_
          refine e_iaload C dX2_make_29 sh_16 e rfl (by omega) ?_
          rw [i2 e he (by omega)]
          refine e_if_le C (tgt := 102) dX2_make_30 (by decide) (by omega) (fun h_30 => by exfalso; omega) (fun h_30 => ?_)
          refine e_iconst C dX2_make_33 ?_
          refine e_aload_n C dX2_make_34 rfl ?_
          refine e_getR C f_X2_9 sh_15 (hWN 15 0 16 rfl) dX2_make_35 ?_
          refine e_iload C dX2_make_38 rfl ?_
          refine e_iaload C dX2_make_40 sh_16 e rfl (by omega) ?_
          rw [i2 e he (by omega)]
          refine e_imul C dX2_make_41 ?_
          refine e_aload_n C dX2_make_42 rfl ?_
          refine e_getI C f_X2_30 hAN.1 dX2_make_43 ?_
          rw [i3]
          refine e_icmp_lt C (tgt := 102) dX2_make_46 (by decide) (by omega) (by omega) (fun h_46 => by exfalso; omega) (fun h_46 => ?_)
          refine e_aload_n C dX2_make_49 rfl ?_
          refine e_iload C dX2_make_50 rfl ?_
          refine e_iload_n C dX2_make_52 rfl ?_
          refine e_aload_n C dX2_make_53 rfl ?_
          refine e_aload C dX2_make_54 rfl ?_
          refine e_callV C (c_gather (M := N) (ta := ta) (T := T) (k := k) (c := (e : Int)) hWN ht hta hTN hk hGN (by omega)) mt_X2_gather s_X2_34 dX2_make_56 2 sh_15 rfl (fun r M1 hq => ?_)
          obtain ⟨n, f, h, rfl, rfl, hga⟩ := hq
          dsimp only [Option.toList_some, List.singleton_append]
          obtain ⟨q1, q2, q3, q4, q5, q6, q7, q8⟩ := hga
          have hn : (n : Int) = knC (pgC M) T k (e : Int) := by
            rw [q1]; exact (sg_congr (fun p hp => by rw [onKe p hp]))
          have hnn : (knC (pgC M) T k (e : Int)).toNat = n := by omega
          refine e_istore C dX2_make_59 ?_
          refine e_aload_n C dX2_make_61 rfl ?_
          refine e_getR C f_X2_38 hAN.1 hAN.2.1 dX2_make_62 ?_
          refine e_iload C dX2_make_65 rfl ?_
          refine e_aload_n C dX2_make_67 rfl ?_
          refine e_getR C f_X2_15 sh_15 (hWN 15 1 17 rfl) dX2_make_68 ?_
          refine e_iload C dX2_make_71 rfl ?_
          refine e_callS C (c_middle (M := GM N f h) (ra := 17) (n := n) rfl (by omega)) mt_X2_middle s_X2_42 dX2_make_73 (fun r2 M2 hq2 => ?_)
          obtain ⟨rfl, hM2⟩ := hq2
          subst M2
          dsimp only [Option.toList_some, List.singleton_append]
          rw [GM_17]
          refine e_aload_n C dX2_make_76 rfl ?_
          refine e_getR C f_X2_18 sh_15 (hWN 15 2 18 rfl) dX2_make_77 ?_
          refine e_iload C dX2_make_80 rfl ?_
          refine e_callS C (c_middle (M := GM N f h) (ra := 18) (n := n) rfl (by omega)) mt_X2_middle s_X2_42 dX2_make_82 (fun r3 M3 hq3 => ?_)
          obtain ⟨rfl, hM3⟩ := hq3
          subst M3
          dsimp only [Option.toList_some, List.singleton_append]
          rw [GM_18]
          refine e_iload C dX2_make_85 rfl ?_
          refine e_aload_n C dX2_make_87 rfl ?_
          refine e_getI C f_X2_30 hAN.1 dX2_make_88 ?_
          rw [GM_n _ (by omega), i3]
          refine e_icmp_ne C (tgt := 98) dX2_make_91 (by decide) (by omega) (by omega) (fun h_91 => ?_) (fun h_91 => by exfalso; omega)
          refine e_iconst C dX2_make_98 ?_
          refine e_callV C (c_add (M := GM N f h) (a := a + 1) (N := 16) (n := spc (pgC M) T k (e - 1)) (c := (e : Int)) (x := f ((n - 1) / 2)) (y := h ((n - 1) / 2)) (w := 0) hAN.2.2.1 (by decide) (by rw [GM_n _ (by omega)]; exact i4) (by omega) (by omega)) mt_X4_add s_X2_46 dX2_make_99 4 hAN.2.2.1.1 rfl (fun r4 M4 hq4 => ?_)
          obtain ⟨rfl, hM4⟩ := hq4
          subst M4
          dsimp only [Option.toList_none, List.nil_append]
          refine e_iinc C dX2_make_102 rfl ?_
          refine e_goto C (tgt := 16) dX2_make_105 (by decide) ?_
          have hxx : isMed (cvX (pgC M) T k (e : Int)) (knC (pgC M) T k (e : Int)).toNat (f ((n - 1) / 2)) := ⟨f, by rw [hnn]; exact q3, fun t => by rw [hnn, q5]; exact sg_congr (fun p hp => by rw [onKe p hp, ixe p hp, (pge p hp).2]), by rw [hnn]⟩
          have hyy : isMed (cvY (pgC M) T k (e : Int)) (knC (pgC M) T k (e : Int)).toNat (h ((n - 1) / 2)) := ⟨h, by rw [hnn]; exact q4, fun t => by rw [hnn, q6]; exact sg_congr (fun p hp => by rw [onKe p hp, ixe p hp, (pge p hp).2]), by rw [hnn]⟩
          have hw4 : b01 (knC (pgC M) T k (e : Int) = kTn T k) = 0 := if_neg hall
          have gS : ∀ b, b ≠ 17 ∧ b ≠ 18 → mI (GM N f h) b = mI N b := fun b hb => funext (fun j => GM_n j hb)
          obtain ⟨kd1, kd2⟩ := kdP_yes (Z2 := shS (shAdd (GM N f h) (a + 1) (spc (pgC M) T k (e - 1)) (e : Int) (f ((n - 1) / 2)) (h ((n - 1) / 2)) 0) (a + 1)) i5 he hsp
            (by unfold shS; rw [shAdd_2, gS _ (by omega)]) (by unfold shS; rw [shAdd_3, gS _ (by omega)]) (by unfold shS; rw [shAdd_1, gS _ (by omega)]) (by unfold shS; rw [shAdd_4, gS _ (by omega), hw4]) hxx hyy
          refine ih (shAdd (GM N f h) (a + 1) (spc (pgC M) T k (e - 1)) (e : Int) (f ((n - 1) / 2)) (h ((n - 1) / 2)) 0, _) ⟨by omega, ⟨fun b j hb => ⟨?_, ?_⟩, i1.2⟩, fun c h1 h2 => ?_, ?_, ?_, by rw [Nat.add_sub_cancel]; exact kd1, i6⟩
          · dsimp only; rw [shAdd_o (by unfold mkO at hb; omega), GM_n _ (by unfold mkO at hb; omega)]; exact (i1.1 b j hb).1
          · exact (i1.1 b j hb).2
          · dsimp only; rw [shAdd_o (by omega), GM_n _ (by omega)]; exact i2 c h1 h2
          · dsimp only; rw [shAdd_o (by omega), GM_n _ (by omega)]; exact i3
          · dsimp only; rw [shAdd_c, Nat.add_sub_cancel, kd2]; rfl
  show pE g 7 X _ SH M 0 0 0 [some (.inr (.inr 15)), some (.inr (.inr a)), some (.inl k), some (.inr (.inr 1)), some (.inr (.inr ta)), none, none] []
  refine e_aload_n C dX2_make_0 rfl ?_
  refine e_callV C (c_kclear (M := M) (a := a) hA) mt_X0_clear s_X2_21 dX2_make_1 0 hA.1 rfl (fun r M1 hq => ?_)
  obtain ⟨rfl, hM⟩ := hq
  subst M1
  dsimp only [Option.toList_none, List.nil_append]
  have a1 : agr (mkO a) M (kdClear M a) := by
    unfold kdClear
    refine agr_tr (agr_tr (agr_stI (fun b hb => by unfold mkO at hb; omega)) (agr_stI (fun b hb => by unfold mkO at hb; omega))) (agr_wrL (fun b hb => by unfold mkO at hb; omega))
  have pge : ∀ p, p < 16 → (pgC (kdClear M a)).1 p = (pgC M).1 p ∧ (pgC (kdClear M a)).2 p = (pgC M).2 p := fun p hp => pgC_ag a1 (fun b h1 h2 => by unfold mkO; omega) hp
  have hGN : pgM (kdClear M a) := by
    refine ⟨fun p hp => ?_, fun p hp => ?_, fun p i j hp hi hj => ?_⟩
    · rw [(pge p hp).1, (a1.1 _ 4 (by unfold mkO; omega)).1]; exact hG.1 p hp
    · rw [(pge p hp).1, (pge p hp).2]; exact hG.2.1 p hp
    · rw [(pge p hp).1] at hi hj; rw [(pge p hp).2]; exact hG.2.2 p i j hp hi hj
  have hTN : ∀ p, p < 16 → mI (kdClear M a) ta p = T p ∧ -1 ≤ T p ∧ T p < 5 := fun p hp => ⟨((a1.1 ta p (by unfold mkO; omega)).1).trans (hT p hp).1, (hT p hp).2⟩
  have z2 : mI (kdClear M a) a 2 = 0 := stI_s _ _ _ _
  refine e_aload_n C dX2_make_4 rfl ?_
  refine e_aload_n C dX2_make_5 rfl ?_
  refine e_iload_n C dX2_make_6 rfl ?_
  refine e_aload_n C dX2_make_7 rfl ?_
  refine e_aload C dX2_make_8 rfl ?_
  refine e_callV C (c_carriers (M := kdClear M a) (a := a) (ta := ta) (T := T) (k := k) hW hA ha ht hta hTN hk hGN z2) mt_X2_countCarriers s_X2_26 dX2_make_10 2 sh_15 rfl (fun r5 M5 hq5 => ?_)
  obtain ⟨f, rfl, rfl, hf⟩ := hq5
  dsimp only [Option.toList_none, List.nil_append]
  refine e_iconst C dX2_make_13 ?_
  refine e_istore C dX2_make_14 ?_
  refine loop 1 (stI (wrI (kdClear M a) 16 f) a 2 (kTn T k), none) (by omega) ⟨Nat.le_refl _, ?_, fun c h1 h2 => ?_, stI_s _ _ _ _, ?_, fun c h1 h2 => ?_, fun j hj => ?_⟩
  · refine agr_tr a1 (agr_tr (agr_wrI (fun b hb => by unfold mkO at hb; omega)) (agr_stI (fun b hb => by unfold mkO at hb; omega)))
  · dsimp only; rw [stI_n _ _ (by omega), wrI_s, hf c h1 h2]
    exact sg_congr (fun p hp => by unfold onK ixC; rw [(pge p hp).1, (pge p hp).2])
  · dsimp only; rw [stI_n _ _ (by omega), wrI_n _ _ _ (by omega)]
    show mI (stI (stI M (a + 1) 4 0) a 2 0) (a + 1) 4 = _
    rw [stI_n _ _ (by omega), stI_s]; rfl
  · simp only [Nat.sub_self] at h2; omega
  · show mL (wrL (stI (stI M (a + 1) 4 0) a 2 0) (a + 6) (fil (mL M (a + 6)) (-1) 16)) (a + 6) j = -1
    rw [wrL_s]; exact fil_i hj
end
