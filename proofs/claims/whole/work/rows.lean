section
-- ===== PART A: goes FIRST, ahead of the names: the tables' words, and 'selects' of the private methods out of them =====
/-- a private method of a class that the tables say can be made, by its rows of tables_1 -/
def lw_okq (q : MethodName × Nat) : Prop := (q.1.cls ≠ "java/lang/invoke/MethodHandle" ∧ q.1.cls ≠ "java/lang/invoke/VarHandle") ∧ Cond.instantiable q.1.cls q.2 ∈ tables_1 ∧ Cond.privateMethod q.1 ∈ tables_1 ∧ Cond.instanceMethod q.1 ∈ tables_1
theorem lw_p0 : lw_okq (⟨"PaperKinds", "forgetLayings", "()V"⟩, 16) := ⟨⟨by decide +kernel, by decide +kernel⟩, List.mem_of_getElem? (i := 10) (by decide +kernel), List.mem_of_getElem? (i := 185) (by decide +kernel), List.mem_of_getElem? (i := 186) (by decide +kernel)⟩
theorem lw_p1 : lw_okq (⟨"PaperKinds", "forgetPage", "(I)V"⟩, 16) := ⟨⟨by decide +kernel, by decide +kernel⟩, List.mem_of_getElem? (i := 10) (by decide +kernel), List.mem_of_getElem? (i := 189) (by decide +kernel), List.mem_of_getElem? (i := 190) (by decide +kernel)⟩
theorem lw_p2 : lw_okq (⟨"PaperKinds", "isPage", "(I)Z"⟩, 16) := ⟨⟨by decide +kernel, by decide +kernel⟩, List.mem_of_getElem? (i := 10) (by decide +kernel), List.mem_of_getElem? (i := 251) (by decide +kernel), List.mem_of_getElem? (i := 252) (by decide +kernel)⟩
theorem lw_p3 : lw_okq (⟨"PaperKinds", "remake", "(I)V"⟩, 16) := ⟨⟨by decide +kernel, by decide +kernel⟩, List.mem_of_getElem? (i := 10) (by decide +kernel), List.mem_of_getElem? (i := 266) (by decide +kernel), List.mem_of_getElem? (i := 267) (by decide +kernel)⟩
theorem lw_p4 : lw_okq (⟨"PaperKinds$Maker", "countCarriers", "(LPaperKinds$Kind;I[LPaperKinds$Sheet;[I)V"⟩, 3) := ⟨⟨by decide +kernel, by decide +kernel⟩, List.mem_of_getElem? (i := 94) (by decide +kernel), List.mem_of_getElem? (i := 282) (by decide +kernel), List.mem_of_getElem? (i := 283) (by decide +kernel)⟩
theorem lw_p5 : lw_okq (⟨"PaperKinds$Maker", "gather", "(II[LPaperKinds$Sheet;[I)I"⟩, 3) := ⟨⟨by decide +kernel, by decide +kernel⟩, List.mem_of_getElem? (i := 94) (by decide +kernel), List.mem_of_getElem? (i := 286) (by decide +kernel), List.mem_of_getElem? (i := 287) (by decide +kernel)⟩
theorem lw_p6 : lw_okq (⟨"PaperKinds", "isTellable", "(II)Z"⟩, 16) := ⟨⟨by decide +kernel, by decide +kernel⟩, List.mem_of_getElem? (i := 10) (by decide +kernel), List.mem_of_getElem? (i := 302) (by decide +kernel), List.mem_of_getElem? (i := 303) (by decide +kernel)⟩
theorem lw_p7 : lw_okq (⟨"PaperKinds", "hasPages", "(I)Z"⟩, 16) := ⟨⟨by decide +kernel, by decide +kernel⟩, List.mem_of_getElem? (i := 10) (by decide +kernel), List.mem_of_getElem? (i := 326) (by decide +kernel), List.mem_of_getElem? (i := 327) (by decide +kernel)⟩
theorem lw_p8 : lw_okq (⟨"PaperKinds", "laying", "(ILPaperKinds$Kind;)J"⟩, 16) := ⟨⟨by decide +kernel, by decide +kernel⟩, List.mem_of_getElem? (i := 10) (by decide +kernel), List.mem_of_getElem? (i := 330) (by decide +kernel), List.mem_of_getElem? (i := 331) (by decide +kernel)⟩
theorem lw_p9 : lw_okq (⟨"PaperKinds$Layer", "setUp", "(LPaperKinds$Sheet;LPaperKinds$Sheet;)V"⟩, 19) := ⟨⟨by decide +kernel, by decide +kernel⟩, List.mem_of_getElem? (i := 22) (by decide +kernel), List.mem_of_getElem? (i := 341) (by decide +kernel), List.mem_of_getElem? (i := 342) (by decide +kernel)⟩
theorem lw_p10 : lw_okq (⟨"PaperKinds$Layer", "cheapestAt", "(IJ)J"⟩, 19) := ⟨⟨by decide +kernel, by decide +kernel⟩, List.mem_of_getElem? (i := 22) (by decide +kernel), List.mem_of_getElem? (i := 350) (by decide +kernel), List.mem_of_getElem? (i := 351) (by decide +kernel)⟩
theorem lw_p11 : lw_okq (⟨"PaperKinds$Layer", "fillCells", "(II)V"⟩, 19) := ⟨⟨by decide +kernel, by decide +kernel⟩, List.mem_of_getElem? (i := 22) (by decide +kernel), List.mem_of_getElem? (i := 364) (by decide +kernel), List.mem_of_getElem? (i := 365) (by decide +kernel)⟩
theorem lw_p12 : lw_okq (⟨"PaperKinds$Layer", "leastWithoutRivals", "()J"⟩, 19) := ⟨⟨by decide +kernel, by decide +kernel⟩, List.mem_of_getElem? (i := 22) (by decide +kernel), List.mem_of_getElem? (i := 368) (by decide +kernel), List.mem_of_getElem? (i := 369) (by decide +kernel)⟩
theorem lw_p13 : lw_okq (⟨"PaperKinds$Layer", "clearPrices", "()V"⟩, 19) := ⟨⟨by decide +kernel, by decide +kernel⟩, List.mem_of_getElem? (i := 22) (by decide +kernel), List.mem_of_getElem? (i := 375) (by decide +kernel), List.mem_of_getElem? (i := 376) (by decide +kernel)⟩
theorem lw_p14 : lw_okq (⟨"PaperKinds$Layer", "insert", "(I)J"⟩, 19) := ⟨⟨by decide +kernel, by decide +kernel⟩, List.mem_of_getElem? (i := 22) (by decide +kernel), List.mem_of_getElem? (i := 379) (by decide +kernel), List.mem_of_getElem? (i := 380) (by decide +kernel)⟩
theorem lw_p15 : lw_okq (⟨"PaperKinds$Layer", "reach", "(II)I"⟩, 19) := ⟨⟨by decide +kernel, by decide +kernel⟩, List.mem_of_getElem? (i := 22) (by decide +kernel), List.mem_of_getElem? (i := 383) (by decide +kernel), List.mem_of_getElem? (i := 384) (by decide +kernel)⟩
def lw_privs_1 : List (MethodName × Nat) := [(⟨"PaperKinds", "forgetLayings", "()V"⟩, 16), (⟨"PaperKinds", "forgetPage", "(I)V"⟩, 16), (⟨"PaperKinds", "isPage", "(I)Z"⟩, 16), (⟨"PaperKinds", "remake", "(I)V"⟩, 16), (⟨"PaperKinds$Maker", "countCarriers", "(LPaperKinds$Kind;I[LPaperKinds$Sheet;[I)V"⟩, 3), (⟨"PaperKinds$Maker", "gather", "(II[LPaperKinds$Sheet;[I)I"⟩, 3), (⟨"PaperKinds", "isTellable", "(II)Z"⟩, 16), (⟨"PaperKinds", "hasPages", "(I)Z"⟩, 16), (⟨"PaperKinds", "laying", "(ILPaperKinds$Kind;)J"⟩, 16), (⟨"PaperKinds$Layer", "setUp", "(LPaperKinds$Sheet;LPaperKinds$Sheet;)V"⟩, 19), (⟨"PaperKinds$Layer", "cheapestAt", "(IJ)J"⟩, 19), (⟨"PaperKinds$Layer", "fillCells", "(II)V"⟩, 19), (⟨"PaperKinds$Layer", "leastWithoutRivals", "()J"⟩, 19), (⟨"PaperKinds$Layer", "clearPrices", "()V"⟩, 19), (⟨"PaperKinds$Layer", "insert", "(I)J"⟩, 19), (⟨"PaperKinds$Layer", "reach", "(II)I"⟩, 19)]
theorem lw_r1 : ∀ q ∈ lw_privs_1, lw_okq q := List.forall_mem_cons.mpr ⟨lw_p0, List.forall_mem_cons.mpr ⟨lw_p1, List.forall_mem_cons.mpr ⟨lw_p2, List.forall_mem_cons.mpr ⟨lw_p3, List.forall_mem_cons.mpr ⟨lw_p4, List.forall_mem_cons.mpr ⟨lw_p5, List.forall_mem_cons.mpr ⟨lw_p6, List.forall_mem_cons.mpr ⟨lw_p7, List.forall_mem_cons.mpr ⟨lw_p8, List.forall_mem_cons.mpr ⟨lw_p9, List.forall_mem_cons.mpr ⟨lw_p10, List.forall_mem_cons.mpr ⟨lw_p11, List.forall_mem_cons.mpr ⟨lw_p12, List.forall_mem_cons.mpr ⟨lw_p13, List.forall_mem_cons.mpr ⟨lw_p14, List.forall_mem_cons.mpr ⟨lw_p15, fun _ h => absurd h List.not_mem_nil⟩⟩⟩⟩⟩⟩⟩⟩⟩⟩⟩⟩⟩⟩⟩⟩
theorem lw_p16 : lw_okq (⟨"PaperKinds$Layer", "raisePrices", "(IJ)V"⟩, 19) := ⟨⟨by decide +kernel, by decide +kernel⟩, List.mem_of_getElem? (i := 22) (by decide +kernel), List.mem_of_getElem? (i := 387) (by decide +kernel), List.mem_of_getElem? (i := 388) (by decide +kernel)⟩
theorem lw_p17 : lw_okq (⟨"PaperKinds$Layer", "handOn", "(II)V"⟩, 19) := ⟨⟨by decide +kernel, by decide +kernel⟩, List.mem_of_getElem? (i := 22) (by decide +kernel), List.mem_of_getElem? (i := 391) (by decide +kernel), List.mem_of_getElem? (i := 392) (by decide +kernel)⟩
theorem lw_p18 : lw_okq (⟨"PaperKinds", "rank", "(I[LPaperKinds$Kind;)I"⟩, 16) := ⟨⟨by decide +kernel, by decide +kernel⟩, List.mem_of_getElem? (i := 10) (by decide +kernel), List.mem_of_getElem? (i := 423) (by decide +kernel), List.mem_of_getElem? (i := 424) (by decide +kernel)⟩
theorem lw_p19 : lw_okq (⟨"PaperKinds", "findHeaps", "()V"⟩, 16) := ⟨⟨by decide +kernel, by decide +kernel⟩, List.mem_of_getElem? (i := 10) (by decide +kernel), List.mem_of_getElem? (i := 457) (by decide +kernel), List.mem_of_getElem? (i := 458) (by decide +kernel)⟩
theorem lw_p20 : lw_okq (⟨"PaperKinds", "nearCost", "(II)I"⟩, 16) := ⟨⟨by decide +kernel, by decide +kernel⟩, List.mem_of_getElem? (i := 10) (by decide +kernel), List.mem_of_getElem? (i := 461) (by decide +kernel), List.mem_of_getElem? (i := 462) (by decide +kernel)⟩
theorem lw_p21 : lw_okq (⟨"PaperKinds", "joinHeaps", "(II)V"⟩, 16) := ⟨⟨by decide +kernel, by decide +kernel⟩, List.mem_of_getElem? (i := 10) (by decide +kernel), List.mem_of_getElem? (i := 465) (by decide +kernel), List.mem_of_getElem? (i := 466) (by decide +kernel)⟩
theorem lw_p22 : lw_okq (⟨"PaperKinds", "tryTelling", "(II)V"⟩, 16) := ⟨⟨by decide +kernel, by decide +kernel⟩, List.mem_of_getElem? (i := 10) (by decide +kernel), List.mem_of_getElem? (i := 488) (by decide +kernel), List.mem_of_getElem? (i := 489) (by decide +kernel)⟩
theorem lw_p23 : lw_okq (⟨"PaperKinds", "tryMaking", "(LPaperKinds$Kind;I)V"⟩, 16) := ⟨⟨by decide +kernel, by decide +kernel⟩, List.mem_of_getElem? (i := 10) (by decide +kernel), List.mem_of_getElem? (i := 492) (by decide +kernel), List.mem_of_getElem? (i := 493) (by decide +kernel)⟩
theorem lw_p24 : lw_okq (⟨"PaperKinds", "boxesAskedFor", "(I)I"⟩, 16) := ⟨⟨by decide +kernel, by decide +kernel⟩, List.mem_of_getElem? (i := 10) (by decide +kernel), List.mem_of_getElem? (i := 500) (by decide +kernel), List.mem_of_getElem? (i := 501) (by decide +kernel)⟩
theorem lw_p25 : lw_okq (⟨"PaperKindsModel", "changes", "()V"⟩, 39) := ⟨⟨by decide +kernel, by decide +kernel⟩, List.mem_of_getElem? (i := 504) (by decide +kernel), List.mem_of_getElem? (i := 632) (by decide +kernel), List.mem_of_getElem? (i := 633) (by decide +kernel)⟩
theorem lw_p26 : lw_okq (⟨"PaperKindsModel", "isPage", "(I)Z"⟩, 39) := ⟨⟨by decide +kernel, by decide +kernel⟩, List.mem_of_getElem? (i := 504) (by decide +kernel), List.mem_of_getElem? (i := 640) (by decide +kernel), List.mem_of_getElem? (i := 641) (by decide +kernel)⟩
theorem lw_p27 : lw_okq (⟨"PaperKindsModel", "makes", "()V"⟩, 39) := ⟨⟨by decide +kernel, by decide +kernel⟩, List.mem_of_getElem? (i := 504) (by decide +kernel), List.mem_of_getElem? (i := 663) (by decide +kernel), List.mem_of_getElem? (i := 664) (by decide +kernel)⟩
theorem lw_p28 : lw_okq (⟨"PaperKindsModel", "makesSpot", "(II)V"⟩, 39) := ⟨⟨by decide +kernel, by decide +kernel⟩, List.mem_of_getElem? (i := 504) (by decide +kernel), List.mem_of_getElem? (i := 667) (by decide +kernel), List.mem_of_getElem? (i := 668) (by decide +kernel)⟩
theorem lw_p29 : lw_okq (⟨"PaperKindsModel", "boxWith", "(II)I"⟩, 39) := ⟨⟨by decide +kernel, by decide +kernel⟩, List.mem_of_getElem? (i := 504) (by decide +kernel), List.mem_of_getElem? (i := 671) (by decide +kernel), List.mem_of_getElem? (i := 672) (by decide +kernel)⟩
theorem lw_p30 : lw_okq (⟨"PaperKindsModel", "middle", "(I)I"⟩, 39) := ⟨⟨by decide +kernel, by decide +kernel⟩, List.mem_of_getElem? (i := 504) (by decide +kernel), List.mem_of_getElem? (i := 675) (by decide +kernel), List.mem_of_getElem? (i := 676) (by decide +kernel)⟩
theorem lw_p31 : lw_okq (⟨"PaperKindsModel", "isLaid", "(II)Z"⟩, 39) := ⟨⟨by decide +kernel, by decide +kernel⟩, List.mem_of_getElem? (i := 504) (by decide +kernel), List.mem_of_getElem? (i := 687) (by decide +kernel), List.mem_of_getElem? (i := 688) (by decide +kernel)⟩
def lw_privs_2 : List (MethodName × Nat) := [(⟨"PaperKinds$Layer", "raisePrices", "(IJ)V"⟩, 19), (⟨"PaperKinds$Layer", "handOn", "(II)V"⟩, 19), (⟨"PaperKinds", "rank", "(I[LPaperKinds$Kind;)I"⟩, 16), (⟨"PaperKinds", "findHeaps", "()V"⟩, 16), (⟨"PaperKinds", "nearCost", "(II)I"⟩, 16), (⟨"PaperKinds", "joinHeaps", "(II)V"⟩, 16), (⟨"PaperKinds", "tryTelling", "(II)V"⟩, 16), (⟨"PaperKinds", "tryMaking", "(LPaperKinds$Kind;I)V"⟩, 16), (⟨"PaperKinds", "boxesAskedFor", "(I)I"⟩, 16), (⟨"PaperKindsModel", "changes", "()V"⟩, 39), (⟨"PaperKindsModel", "isPage", "(I)Z"⟩, 39), (⟨"PaperKindsModel", "makes", "()V"⟩, 39), (⟨"PaperKindsModel", "makesSpot", "(II)V"⟩, 39), (⟨"PaperKindsModel", "boxWith", "(II)I"⟩, 39), (⟨"PaperKindsModel", "middle", "(I)I"⟩, 39), (⟨"PaperKindsModel", "isLaid", "(II)Z"⟩, 39)]
theorem lw_r2 : ∀ q ∈ lw_privs_2, lw_okq q := List.forall_mem_cons.mpr ⟨lw_p16, List.forall_mem_cons.mpr ⟨lw_p17, List.forall_mem_cons.mpr ⟨lw_p18, List.forall_mem_cons.mpr ⟨lw_p19, List.forall_mem_cons.mpr ⟨lw_p20, List.forall_mem_cons.mpr ⟨lw_p21, List.forall_mem_cons.mpr ⟨lw_p22, List.forall_mem_cons.mpr ⟨lw_p23, List.forall_mem_cons.mpr ⟨lw_p24, List.forall_mem_cons.mpr ⟨lw_p25, List.forall_mem_cons.mpr ⟨lw_p26, List.forall_mem_cons.mpr ⟨lw_p27, List.forall_mem_cons.mpr ⟨lw_p28, List.forall_mem_cons.mpr ⟨lw_p29, List.forall_mem_cons.mpr ⟨lw_p30, List.forall_mem_cons.mpr ⟨lw_p31, fun _ h => absurd h List.not_mem_nil⟩⟩⟩⟩⟩⟩⟩⟩⟩⟩⟩⟩⟩⟩⟩⟩
theorem lw_p32 : lw_okq (⟨"PaperKindsModel", "isKind", "(I)Z"⟩, 39) := ⟨⟨by decide +kernel, by decide +kernel⟩, List.mem_of_getElem? (i := 504) (by decide +kernel), List.mem_of_getElem? (i := 691) (by decide +kernel), List.mem_of_getElem? (i := 692) (by decide +kernel)⟩
theorem lw_p33 : lw_okq (⟨"PaperKindsModel", "takesPage", "(I)V"⟩, 39) := ⟨⟨by decide +kernel, by decide +kernel⟩, List.mem_of_getElem? (i := 504) (by decide +kernel), List.mem_of_getElem? (i := 695) (by decide +kernel), List.mem_of_getElem? (i := 696) (by decide +kernel)⟩
theorem lw_p34 : lw_okq (⟨"PaperKindsModel", "takesSpots", "(I)V"⟩, 39) := ⟨⟨by decide +kernel, by decide +kernel⟩, List.mem_of_getElem? (i := 504) (by decide +kernel), List.mem_of_getElem? (i := 699) (by decide +kernel), List.mem_of_getElem? (i := 700) (by decide +kernel)⟩
theorem lw_p35 : lw_okq (⟨"PaperKindsModel", "seeks", "()V"⟩, 39) := ⟨⟨by decide +kernel, by decide +kernel⟩, List.mem_of_getElem? (i := 504) (by decide +kernel), List.mem_of_getElem? (i := 703) (by decide +kernel), List.mem_of_getElem? (i := 704) (by decide +kernel)⟩
theorem lw_p36 : lw_okq (⟨"PaperKindsModel", "byMove", "(II)I"⟩, 39) := ⟨⟨by decide +kernel, by decide +kernel⟩, List.mem_of_getElem? (i := 504) (by decide +kernel), List.mem_of_getElem? (i := 708) (by decide +kernel), List.mem_of_getElem? (i := 709) (by decide +kernel)⟩
theorem lw_p37 : lw_okq (⟨"PaperKindsModel", "lays", "(IIII)I"⟩, 39) := ⟨⟨by decide +kernel, by decide +kernel⟩, List.mem_of_getElem? (i := 504) (by decide +kernel), List.mem_of_getElem? (i := 712) (by decide +kernel), List.mem_of_getElem? (i := 713) (by decide +kernel)⟩
theorem lw_p38 : lw_okq (⟨"PaperKindsModel", "places", "()V"⟩, 39) := ⟨⟨by decide +kernel, by decide +kernel⟩, List.mem_of_getElem? (i := 504) (by decide +kernel), List.mem_of_getElem? (i := 719) (by decide +kernel), List.mem_of_getElem? (i := 720) (by decide +kernel)⟩
theorem lw_p39 : lw_okq (⟨"PaperKindsModel", "sortOf", "(I)I"⟩, 39) := ⟨⟨by decide +kernel, by decide +kernel⟩, List.mem_of_getElem? (i := 504) (by decide +kernel), List.mem_of_getElem? (i := 735) (by decide +kernel), List.mem_of_getElem? (i := 736) (by decide +kernel)⟩
theorem lw_p40 : lw_okq (⟨"PaperKindsModel", "looks", "(I)V"⟩, 39) := ⟨⟨by decide +kernel, by decide +kernel⟩, List.mem_of_getElem? (i := 504) (by decide +kernel), List.mem_of_getElem? (i := 739) (by decide +kernel), List.mem_of_getElem? (i := 740) (by decide +kernel)⟩
theorem lw_p41 : lw_okq (⟨"PaperKindsModel", "costOf", "(II)I"⟩, 39) := ⟨⟨by decide +kernel, by decide +kernel⟩, List.mem_of_getElem? (i := 504) (by decide +kernel), List.mem_of_getElem? (i := 743) (by decide +kernel), List.mem_of_getElem? (i := 744) (by decide +kernel)⟩
theorem lw_p42 : lw_okq (⟨"PaperKindsModel", "gathers", "()V"⟩, 39) := ⟨⟨by decide +kernel, by decide +kernel⟩, List.mem_of_getElem? (i := 504) (by decide +kernel), List.mem_of_getElem? (i := 759) (by decide +kernel), List.mem_of_getElem? (i := 760) (by decide +kernel)⟩
theorem lw_p43 : lw_okq (⟨"PaperKindsModel", "isUnknown", "(I)Z"⟩, 39) := ⟨⟨by decide +kernel, by decide +kernel⟩, List.mem_of_getElem? (i := 504) (by decide +kernel), List.mem_of_getElem? (i := 763) (by decide +kernel), List.mem_of_getElem? (i := 764) (by decide +kernel)⟩
theorem lw_p44 : lw_okq (⟨"PaperKindsModel", "isNear", "(II)Z"⟩, 39) := ⟨⟨by decide +kernel, by decide +kernel⟩, List.mem_of_getElem? (i := 504) (by decide +kernel), List.mem_of_getElem? (i := 767) (by decide +kernel), List.mem_of_getElem? (i := 768) (by decide +kernel)⟩
theorem lw_p45 : lw_okq (⟨"PaperKindsModel", "joins", "(II)V"⟩, 39) := ⟨⟨by decide +kernel, by decide +kernel⟩, List.mem_of_getElem? (i := 504) (by decide +kernel), List.mem_of_getElem? (i := 771) (by decide +kernel), List.mem_of_getElem? (i := 772) (by decide +kernel)⟩
theorem lw_p46 : lw_okq (⟨"PaperKindsModel", "toldBy", "(II)I"⟩, 39) := ⟨⟨by decide +kernel, by decide +kernel⟩, List.mem_of_getElem? (i := 504) (by decide +kernel), List.mem_of_getElem? (i := 783) (by decide +kernel), List.mem_of_getElem? (i := 784) (by decide +kernel)⟩
theorem lw_p47 : lw_okq (⟨"PaperKindsModel", "spotWith", "(II)I"⟩, 39) := ⟨⟨by decide +kernel, by decide +kernel⟩, List.mem_of_getElem? (i := 504) (by decide +kernel), List.mem_of_getElem? (i := 787) (by decide +kernel), List.mem_of_getElem? (i := 788) (by decide +kernel)⟩
def lw_privs_3 : List (MethodName × Nat) := [(⟨"PaperKindsModel", "isKind", "(I)Z"⟩, 39), (⟨"PaperKindsModel", "takesPage", "(I)V"⟩, 39), (⟨"PaperKindsModel", "takesSpots", "(I)V"⟩, 39), (⟨"PaperKindsModel", "seeks", "()V"⟩, 39), (⟨"PaperKindsModel", "byMove", "(II)I"⟩, 39), (⟨"PaperKindsModel", "lays", "(IIII)I"⟩, 39), (⟨"PaperKindsModel", "places", "()V"⟩, 39), (⟨"PaperKindsModel", "sortOf", "(I)I"⟩, 39), (⟨"PaperKindsModel", "looks", "(I)V"⟩, 39), (⟨"PaperKindsModel", "costOf", "(II)I"⟩, 39), (⟨"PaperKindsModel", "gathers", "()V"⟩, 39), (⟨"PaperKindsModel", "isUnknown", "(I)Z"⟩, 39), (⟨"PaperKindsModel", "isNear", "(II)Z"⟩, 39), (⟨"PaperKindsModel", "joins", "(II)V"⟩, 39), (⟨"PaperKindsModel", "toldBy", "(II)I"⟩, 39), (⟨"PaperKindsModel", "spotWith", "(II)I"⟩, 39)]
theorem lw_r3 : ∀ q ∈ lw_privs_3, lw_okq q := List.forall_mem_cons.mpr ⟨lw_p32, List.forall_mem_cons.mpr ⟨lw_p33, List.forall_mem_cons.mpr ⟨lw_p34, List.forall_mem_cons.mpr ⟨lw_p35, List.forall_mem_cons.mpr ⟨lw_p36, List.forall_mem_cons.mpr ⟨lw_p37, List.forall_mem_cons.mpr ⟨lw_p38, List.forall_mem_cons.mpr ⟨lw_p39, List.forall_mem_cons.mpr ⟨lw_p40, List.forall_mem_cons.mpr ⟨lw_p41, List.forall_mem_cons.mpr ⟨lw_p42, List.forall_mem_cons.mpr ⟨lw_p43, List.forall_mem_cons.mpr ⟨lw_p44, List.forall_mem_cons.mpr ⟨lw_p45, List.forall_mem_cons.mpr ⟨lw_p46, List.forall_mem_cons.mpr ⟨lw_p47, fun _ h => absurd h List.not_mem_nil⟩⟩⟩⟩⟩⟩⟩⟩⟩⟩⟩⟩⟩⟩⟩⟩
theorem lw_p48 : lw_okq (⟨"PaperKindsModel", "areVersions", "(II)Z"⟩, 39) := ⟨⟨by decide +kernel, by decide +kernel⟩, List.mem_of_getElem? (i := 504) (by decide +kernel), List.mem_of_getElem? (i := 791) (by decide +kernel), List.mem_of_getElem? (i := 792) (by decide +kernel)⟩
def lw_privs_4 : List (MethodName × Nat) := [(⟨"PaperKindsModel", "areVersions", "(II)Z"⟩, 39)]
theorem lw_r4 : ∀ q ∈ lw_privs_4, lw_okq q := List.forall_mem_cons.mpr ⟨lw_p48, fun _ h => absurd h List.not_mem_nil⟩
def lw_privs : List (MethodName × Nat) := lw_privs_1 ++ (lw_privs_2 ++ (lw_privs_3 ++ (lw_privs_4)))
def lw_tbl : List Cond := k2_sels lw_privs ++ tables_1
theorem lw_privs_ok : ∀ q ∈ lw_privs, lw_okq q := by
  show ∀ q ∈ lw_privs_1 ++ (lw_privs_2 ++ (lw_privs_3 ++ (lw_privs_4))), lw_okq q
  exact List.forall_mem_append.mpr ⟨lw_r1, List.forall_mem_append.mpr ⟨lw_r2, List.forall_mem_append.mpr ⟨lw_r3, lw_r4⟩⟩⟩
end
section
def RX0 : String := "PaperKinds$Kind"
def TX0 : u_T := fun k => match k with
  | 0 => ("PaperKinds$Kind", "spots", "LPaperKinds$Sheet;", true)
  | 1 => ("PaperKinds$Kind", "layings", "[J", true)
  | _ => ("PaperKinds$Kind", "pageCount", "I", false)
def tyX0 : Nat → FieldType := fun k => match k with
  | 0 => .object "PaperKinds$Sheet"
  | 1 => .array .long
  | _ => .int
theorem nmX0 : ∀ a, a < 3 → ∀ b, b < 3 → a ≠ b → (TX0 a).2.1 ≠ (TX0 b).2.1 := by decide +kernel
theorem tyX0_ok : ∀ k, k < 3 → parseFieldDescriptor (TX0 k).2.2.1 = some (tyX0 k) := by decide +kernel
abbrev cX0_init : ByteArray := prog_2_method_1_code
def yX0_init : MethodName := ⟨RX0, "<init>", "()V"⟩
abbrev cX0_clear : ByteArray := prog_2_method_2_code
def yX0_clear : MethodName := ⟨RX0, "clear", "()V"⟩
def RX1 : String := "PaperKinds$Layer"
def TX1 : u_T := fun k => match k with
  | 0 => ("PaperKinds$Layer", "move", "I", false)
  | 1 => ("PaperKinds$Layer", "far", "I", false)
  | 2 => ("PaperKinds$Layer", "code", "I", false)
  | 3 => ("PaperKinds$Layer", "miss", "I", false)
  | 4 => ("PaperKinds$Layer", "extra", "I", false)
  | 5 => ("PaperKinds$Layer", "boxCount", "I", false)
  | 6 => ("PaperKinds$Layer", "spotCount", "I", false)
  | 7 => ("PaperKinds$Layer", "allMissed", "J", false)
  | 8 => ("PaperKinds$Layer", "crowded", "Z", false)
  | 9 => ("PaperKinds$Layer", "across", "[I", true)
  | 10 => ("PaperKinds$Layer", "down", "[I", true)
  | 11 => ("PaperKinds$Layer", "fixed", "[J", true)
  | 12 => ("PaperKinds$Layer", "cells", "[J", true)
  | 13 => ("PaperKinds$Layer", "boxPrices", "[J", true)
  | 14 => ("PaperKinds$Layer", "columnPrices", "[J", true)
  | 15 => ("PaperKinds$Layer", "boxOn", "[I", true)
  | 16 => ("PaperKinds$Layer", "slack", "[J", true)
  | 17 => ("PaperKinds$Layer", "cameFrom", "[I", true)
  | _ => ("PaperKinds$Layer", "reached", "[Z", true)
def tyX1 : Nat → FieldType := fun k => match k with
  | 0 => .int
  | 1 => .int
  | 2 => .int
  | 3 => .int
  | 4 => .int
  | 5 => .int
  | 6 => .int
  | 7 => .long
  | 8 => .boolean
  | 9 => .array .int
  | 10 => .array .int
  | 11 => .array .long
  | 12 => .array .long
  | 13 => .array .long
  | 14 => .array .long
  | 15 => .array .int
  | 16 => .array .long
  | 17 => .array .int
  | _ => .array .boolean
theorem nmX1 : ∀ a, a < 19 → ∀ b, b < 19 → a ≠ b → (TX1 a).2.1 ≠ (TX1 b).2.1 := by decide +kernel
theorem tyX1_ok : ∀ k, k < 19 → parseFieldDescriptor (TX1 k).2.2.1 = some (tyX1 k) := by decide +kernel
abbrev cX1_init : ByteArray := prog_3_method_1_code
def yX1_init : MethodName := ⟨RX1, "<init>", "()V"⟩
abbrev cX1_cheapest : ByteArray := prog_3_method_2_code
def yX1_cheapest : MethodName := ⟨RX1, "cheapest", "(LPaperKinds$Sheet;LPaperKinds$Sheet;)J"⟩
abbrev cX1_setUp : ByteArray := prog_3_method_3_code
def yX1_setUp : MethodName := ⟨RX1, "setUp", "(LPaperKinds$Sheet;LPaperKinds$Sheet;)V"⟩
abbrev cX1_cheapestAt : ByteArray := prog_3_method_4_code
def yX1_cheapestAt : MethodName := ⟨RX1, "cheapestAt", "(IJ)J"⟩
abbrev cX1_fillCells : ByteArray := prog_3_method_5_code
def yX1_fillCells : MethodName := ⟨RX1, "fillCells", "(II)V"⟩
abbrev cX1_leastWithoutRivals : ByteArray := prog_3_method_6_code
def yX1_leastWithoutRivals : MethodName := ⟨RX1, "leastWithoutRivals", "()J"⟩
abbrev cX1_clearPrices : ByteArray := prog_3_method_7_code
def yX1_clearPrices : MethodName := ⟨RX1, "clearPrices", "()V"⟩
abbrev cX1_insert : ByteArray := prog_3_method_8_code
def yX1_insert : MethodName := ⟨RX1, "insert", "(I)J"⟩
abbrev cX1_reach : ByteArray := prog_3_method_9_code
def yX1_reach : MethodName := ⟨RX1, "reach", "(II)I"⟩
abbrev cX1_raisePrices : ByteArray := prog_3_method_10_code
def yX1_raisePrices : MethodName := ⟨RX1, "raisePrices", "(IJ)V"⟩
abbrev cX1_handOn : ByteArray := prog_3_method_11_code
def yX1_handOn : MethodName := ⟨RX1, "handOn", "(II)V"⟩
def RX2 : String := "PaperKinds$Maker"
def TX2 : u_T := fun k => match k with
  | 0 => ("PaperKinds$Maker", "carriers", "[I", true)
  | 1 => ("PaperKinds$Maker", "xs", "[I", true)
  | _ => ("PaperKinds$Maker", "ys", "[I", true)
def tyX2 : Nat → FieldType := fun k => match k with
  | 0 => .array .int
  | 1 => .array .int
  | _ => .array .int
theorem nmX2 : ∀ a, a < 3 → ∀ b, b < 3 → a ≠ b → (TX2 a).2.1 ≠ (TX2 b).2.1 := by decide +kernel
theorem tyX2_ok : ∀ k, k < 3 → parseFieldDescriptor (TX2 k).2.2.1 = some (tyX2 k) := by decide +kernel
abbrev cX2_init : ByteArray := prog_4_method_1_code
def yX2_init : MethodName := ⟨RX2, "<init>", "()V"⟩
abbrev cX2_make : ByteArray := prog_4_method_2_code
def yX2_make : MethodName := ⟨RX2, "make", "(LPaperKinds$Kind;I[LPaperKinds$Sheet;[I)V"⟩
abbrev cX2_countCarriers : ByteArray := prog_4_method_3_code
def yX2_countCarriers : MethodName := ⟨RX2, "countCarriers", "(LPaperKinds$Kind;I[LPaperKinds$Sheet;[I)V"⟩
abbrev cX2_gather : ByteArray := prog_4_method_4_code
def yX2_gather : MethodName := ⟨RX2, "gather", "(II[LPaperKinds$Sheet;[I)I"⟩
abbrev cX2_putByRising : ByteArray := prog_4_method_5_code
def yX2_putByRising : MethodName := ⟨RX2, "putByRising", "([III)V"⟩
abbrev cX2_middle : ByteArray := prog_4_method_6_code
def yX2_middle : MethodName := ⟨RX2, "middle", "([II)I"⟩
def RX3 : String := "PaperKinds$Ranking"
def TX3 : u_T := fun k => match k with
  | 0 => ("PaperKinds$Ranking", "best", "I", false)
  | 1 => ("PaperKinds$Ranking", "least", "I", false)
  | _ => ("PaperKinds$Ranking", "next", "I", false)
def tyX3 : Nat → FieldType := fun k => match k with
  | 0 => .int
  | 1 => .int
  | _ => .int
theorem nmX3 : ∀ a, a < 3 → ∀ b, b < 3 → a ≠ b → (TX3 a).2.1 ≠ (TX3 b).2.1 := by decide +kernel
theorem tyX3_ok : ∀ k, k < 3 → parseFieldDescriptor (TX3 k).2.2.1 = some (tyX3 k) := by decide +kernel
abbrev cX3_init : ByteArray := prog_5_method_1_code
def yX3_init : MethodName := ⟨RX3, "<init>", "()V"⟩
abbrev cX3_clear : ByteArray := prog_5_method_2_code
def yX3_clear : MethodName := ⟨RX3, "clear", "()V"⟩
abbrev cX3_take : ByteArray := prog_5_method_3_code
def yX3_take : MethodName := ⟨RX3, "take", "(II)V"⟩
abbrev cX3_spread : ByteArray := prog_5_method_4_code
def yX3_spread : MethodName := ⟨RX3, "spread", "()I"⟩
abbrev cX3_answer : ByteArray := prog_5_method_5_code
def yX3_answer : MethodName := ⟨RX3, "answer", "(II)I"⟩
def RX4 : String := "PaperKinds$Sheet"
def TX4 : u_T := fun k => match k with
  | 0 => ("PaperKinds$Sheet", "codes", "[I", true)
  | 1 => ("PaperKinds$Sheet", "xs", "[I", true)
  | 2 => ("PaperKinds$Sheet", "ys", "[I", true)
  | 3 => ("PaperKinds$Sheet", "always", "[Z", true)
  | _ => ("PaperKinds$Sheet", "count", "I", false)
def tyX4 : Nat → FieldType := fun k => match k with
  | 0 => .array .int
  | 1 => .array .int
  | 2 => .array .int
  | 3 => .array .boolean
  | _ => .int
theorem nmX4 : ∀ a, a < 5 → ∀ b, b < 5 → a ≠ b → (TX4 a).2.1 ≠ (TX4 b).2.1 := by decide +kernel
theorem tyX4_ok : ∀ k, k < 5 → parseFieldDescriptor (TX4 k).2.2.1 = some (tyX4 k) := by decide +kernel
abbrev cX4_init : ByteArray := prog_6_method_1_code
def yX4_init : MethodName := ⟨RX4, "<init>", "(I)V"⟩
abbrev cX4_add : ByteArray := prog_6_method_2_code
def yX4_add : MethodName := ⟨RX4, "add", "(IIIZ)V"⟩
abbrev cX4_find : ByteArray := prog_6_method_3_code
def yX4_find : MethodName := ⟨RX4, "find", "(I)I"⟩
def RX5 : String := "PaperKinds"
def TX5 : u_T := fun k => match k with
  | 0 => ("PaperKinds", "pages", "[LPaperKinds$Sheet;", true)
  | 1 => ("PaperKinds", "tellings", "[I", true)
  | 2 => ("PaperKinds", "kinds", "[LPaperKinds$Kind;", true)
  | 3 => ("PaperKinds", "layer", "LPaperKinds$Layer;", true)
  | 4 => ("PaperKinds", "maker", "LPaperKinds$Maker;", true)
  | 5 => ("PaperKinds", "ranking", "LPaperKinds$Ranking;", true)
  | 6 => ("PaperKinds", "triedTellings", "[I", true)
  | 7 => ("PaperKinds", "triedKinds", "[LPaperKinds$Kind;", true)
  | 8 => ("PaperKinds", "leftKind", "LPaperKinds$Kind;", true)
  | 9 => ("PaperKinds", "joinedKind", "LPaperKinds$Kind;", true)
  | 10 => ("PaperKinds", "nearCosts", "[I", true)
  | 11 => ("PaperKinds", "heapOf", "[I", true)
  | 12 => ("PaperKinds", "pageCount", "I", false)
  | 13 => ("PaperKinds", "limit", "I", false)
  | 14 => ("PaperKinds", "gap", "I", false)
  | _ => ("PaperKinds", "nearness", "I", false)
def tyX5 : Nat → FieldType := fun k => match k with
  | 0 => .array (.object "PaperKinds$Sheet")
  | 1 => .array .int
  | 2 => .array (.object "PaperKinds$Kind")
  | 3 => .object "PaperKinds$Layer"
  | 4 => .object "PaperKinds$Maker"
  | 5 => .object "PaperKinds$Ranking"
  | 6 => .array .int
  | 7 => .array (.object "PaperKinds$Kind")
  | 8 => .object "PaperKinds$Kind"
  | 9 => .object "PaperKinds$Kind"
  | 10 => .array .int
  | 11 => .array .int
  | 12 => .int
  | 13 => .int
  | 14 => .int
  | _ => .int
theorem nmX5 : ∀ a, a < 16 → ∀ b, b < 16 → a ≠ b → (TX5 a).2.1 ≠ (TX5 b).2.1 := by decide +kernel
theorem tyX5_ok : ∀ k, k < 16 → parseFieldDescriptor (TX5 k).2.2.1 = some (tyX5 k) := by decide +kernel
abbrev cX5_init : ByteArray := prog_1_method_1_code
def yX5_init : MethodName := ⟨RX5, "<init>", "()V"⟩
abbrev cX5_page : ByteArray := prog_1_method_2_code
def yX5_page : MethodName := ⟨RX5, "page", "()I"⟩
abbrev cX5_box : ByteArray := prog_1_method_3_code
def yX5_box : MethodName := ⟨RX5, "box", "(IIII)I"⟩
abbrev cX5_tell : ByteArray := prog_1_method_4_code
def yX5_tell : MethodName := ⟨RX5, "tell", "(II)Z"⟩
abbrev cX5_weights : ByteArray := prog_1_method_5_code
def yX5_weights : MethodName := ⟨RX5, "weights", "(IIIII)Z"⟩
abbrev cX5_bounds : ByteArray := prog_1_method_6_code
def yX5_bounds : MethodName := ⟨RX5, "bounds", "(III)Z"⟩
abbrev cX5_kind : ByteArray := prog_1_method_7_code
def yX5_kind : MethodName := ⟨RX5, "kind", "(II)I"⟩
abbrev cX5_spot : ByteArray := prog_1_method_8_code
def yX5_spot : MethodName := ⟨RX5, "spot", "(III)I"⟩
abbrev cX5_lay : ByteArray := prog_1_method_9_code
def yX5_lay : MethodName := ⟨RX5, "lay", "(III)I"⟩
abbrev cX5_moved : ByteArray := prog_1_method_10_code
def yX5_moved : MethodName := ⟨RX5, "moved", "(IIZ)I"⟩
abbrev cX5_read : ByteArray := prog_1_method_11_code
def yX5_read : MethodName := ⟨RX5, "read", "(III)I"⟩
abbrev cX5_sorted : ByteArray := prog_1_method_12_code
def yX5_sorted : MethodName := ⟨RX5, "sorted", "(I)I"⟩
abbrev cX5_told : ByteArray := prog_1_method_13_code
def yX5_told : MethodName := ⟨RX5, "told", "(I)I"⟩
abbrev cX5_look : ByteArray := prog_1_method_14_code
def yX5_look : MethodName := ⟨RX5, "look", "()I"⟩
abbrev cX5_heaps : ByteArray := prog_1_method_15_code
def yX5_heaps : MethodName := ⟨RX5, "heaps", "()I"⟩
abbrev cX5_heap : ByteArray := prog_1_method_16_code
def yX5_heap : MethodName := ⟨RX5, "heap", "(I)I"⟩
abbrev cX5_versions : ByteArray := prog_1_method_17_code
def yX5_versions : MethodName := ⟨RX5, "versions", "(III)I"⟩
abbrev cX5_touch : ByteArray := prog_1_method_18_code
def yX5_touch : MethodName := ⟨RX5, "touch", "(II)I"⟩
abbrev cX5_about : ByteArray := prog_1_method_19_code
def yX5_about : MethodName := ⟨RX5, "about", "(I)I"⟩
abbrev cX5_boxesAskedFor : ByteArray := prog_1_method_20_code
def yX5_boxesAskedFor : MethodName := ⟨RX5, "boxesAskedFor", "(I)I"⟩
abbrev cX5_isIn : ByteArray := prog_1_method_21_code
def yX5_isIn : MethodName := ⟨RX5, "isIn", "(III)Z"⟩
abbrev cX5_isPage : ByteArray := prog_1_method_22_code
def yX5_isPage : MethodName := ⟨RX5, "isPage", "(I)Z"⟩
abbrev cX5_isKind : ByteArray := prog_1_method_23_code
def yX5_isKind : MethodName := ⟨RX5, "isKind", "(I)Z"⟩
abbrev cX5_hasPages : ByteArray := prog_1_method_24_code
def yX5_hasPages : MethodName := ⟨RX5, "hasPages", "(I)Z"⟩
abbrev cX5_isTellable : ByteArray := prog_1_method_25_code
def yX5_isTellable : MethodName := ⟨RX5, "isTellable", "(II)Z"⟩
abbrev cX5_remake : ByteArray := prog_1_method_26_code
def yX5_remake : MethodName := ⟨RX5, "remake", "(I)V"⟩
abbrev cX5_forgetLayings : ByteArray := prog_1_method_27_code
def yX5_forgetLayings : MethodName := ⟨RX5, "forgetLayings", "()V"⟩
abbrev cX5_forgetPage : ByteArray := prog_1_method_28_code
def yX5_forgetPage : MethodName := ⟨RX5, "forgetPage", "(I)V"⟩
abbrev cX5_laying : ByteArray := prog_1_method_29_code
def yX5_laying : MethodName := ⟨RX5, "laying", "(ILPaperKinds$Kind;)J"⟩
abbrev cX5_costIn : ByteArray := prog_1_method_30_code
def yX5_costIn : MethodName := ⟨RX5, "costIn", "(J)I"⟩
abbrev cX5_moveIn : ByteArray := prog_1_method_31_code
def yX5_moveIn : MethodName := ⟨RX5, "moveIn", "(J)I"⟩
abbrev cX5_spotIn : ByteArray := prog_1_method_32_code
def yX5_spotIn : MethodName := ⟨RX5, "spotIn", "(JI)I"⟩
abbrev cX5_acrossOf : ByteArray := prog_1_method_33_code
def yX5_acrossOf : MethodName := ⟨RX5, "acrossOf", "(I)I"⟩
abbrev cX5_downOf : ByteArray := prog_1_method_34_code
def yX5_downOf : MethodName := ⟨RX5, "downOf", "(I)I"⟩
abbrev cX5_rank : ByteArray := prog_1_method_35_code
def yX5_rank : MethodName := ⟨RX5, "rank", "(I[LPaperKinds$Kind;)I"⟩
abbrev cX5_findHeaps : ByteArray := prog_1_method_36_code
def yX5_findHeaps : MethodName := ⟨RX5, "findHeaps", "()V"⟩
abbrev cX5_joinHeaps : ByteArray := prog_1_method_37_code
def yX5_joinHeaps : MethodName := ⟨RX5, "joinHeaps", "(II)V"⟩
abbrev cX5_nearCost : ByteArray := prog_1_method_38_code
def yX5_nearCost : MethodName := ⟨RX5, "nearCost", "(II)I"⟩
abbrev cX5_codeApart : ByteArray := prog_1_method_39_code
def yX5_codeApart : MethodName := ⟨RX5, "codeApart", "(LPaperKinds$Sheet;LPaperKinds$Sheet;)I"⟩
abbrev cX5_tryTelling : ByteArray := prog_1_method_40_code
def yX5_tryTelling : MethodName := ⟨RX5, "tryTelling", "(II)V"⟩
abbrev cX5_tryMaking : ByteArray := prog_1_method_41_code
def yX5_tryMaking : MethodName := ⟨RX5, "tryMaking", "(LPaperKinds$Kind;I)V"⟩
def RX6 : String := "PaperKindsModel"
def TX6 : u_T := fun k => match k with
  | 0 => ("PaperKindsModel", "pages", "I", false)
  | 1 => ("PaperKindsModel", "boxes", "[I", true)
  | 2 => ("PaperKindsModel", "boxX", "[I", true)
  | 3 => ("PaperKindsModel", "boxY", "[I", true)
  | 4 => ("PaperKindsModel", "boxCode", "[I", true)
  | 5 => ("PaperKindsModel", "told", "[I", true)
  | 6 => ("PaperKindsModel", "weight", "[I", true)
  | 7 => ("PaperKindsModel", "limit", "I", false)
  | 8 => ("PaperKindsModel", "gap", "I", false)
  | 9 => ("PaperKindsModel", "heapBound", "I", false)
  | 10 => ("PaperKindsModel", "isMade", "Z", false)
  | 11 => ("PaperKindsModel", "kindPages", "[I", true)
  | 12 => ("PaperKindsModel", "spots", "[I", true)
  | 13 => ("PaperKindsModel", "spotCode", "[I", true)
  | 14 => ("PaperKindsModel", "spotX", "[I", true)
  | 15 => ("PaperKindsModel", "spotY", "[I", true)
  | 16 => ("PaperKindsModel", "isAlways", "[Z", true)
  | 17 => ("PaperKindsModel", "many", "I", false)
  | 18 => ("PaperKindsModel", "x", "[I", true)
  | 19 => ("PaperKindsModel", "y", "[I", true)
  | 20 => ("PaperKindsModel", "code", "[I", true)
  | 21 => ("PaperKindsModel", "places", "I", false)
  | 22 => ("PaperKindsModel", "placeX", "[I", true)
  | 23 => ("PaperKindsModel", "placeY", "[I", true)
  | 24 => ("PaperKindsModel", "placeCode", "[I", true)
  | 25 => ("PaperKindsModel", "mustBe", "[Z", true)
  | 26 => ("PaperKindsModel", "least", "[I", true)
  | 27 => ("PaperKindsModel", "fixed", "[I", true)
  | 28 => ("PaperKindsModel", "cost", "I", false)
  | 29 => ("PaperKindsModel", "moveX", "I", false)
  | 30 => ("PaperKindsModel", "moveY", "I", false)
  | 31 => ("PaperKindsModel", "laid", "[I", true)
  | 32 => ("PaperKindsModel", "costs", "[I", true)
  | 33 => ("PaperKindsModel", "row", "[I", true)
  | 34 => ("PaperKindsModel", "bestKind", "I", false)
  | 35 => ("PaperKindsModel", "bestCost", "I", false)
  | 36 => ("PaperKindsModel", "nextCost", "I", false)
  | 37 => ("PaperKindsModel", "heapOf", "[I", true)
  | _ => ("PaperKindsModel", "sortedAs", "[I", true)
def tyX6 : Nat → FieldType := fun k => match k with
  | 0 => .int
  | 1 => .array .int
  | 2 => .array .int
  | 3 => .array .int
  | 4 => .array .int
  | 5 => .array .int
  | 6 => .array .int
  | 7 => .int
  | 8 => .int
  | 9 => .int
  | 10 => .boolean
  | 11 => .array .int
  | 12 => .array .int
  | 13 => .array .int
  | 14 => .array .int
  | 15 => .array .int
  | 16 => .array .boolean
  | 17 => .int
  | 18 => .array .int
  | 19 => .array .int
  | 20 => .array .int
  | 21 => .int
  | 22 => .array .int
  | 23 => .array .int
  | 24 => .array .int
  | 25 => .array .boolean
  | 26 => .array .int
  | 27 => .array .int
  | 28 => .int
  | 29 => .int
  | 30 => .int
  | 31 => .array .int
  | 32 => .array .int
  | 33 => .array .int
  | 34 => .int
  | 35 => .int
  | 36 => .int
  | 37 => .array .int
  | _ => .array .int
theorem nmX6 : ∀ a, a < 39 → ∀ b, b < 39 → a ≠ b → (TX6 a).2.1 ≠ (TX6 b).2.1 := by decide +kernel
theorem tyX6_ok : ∀ k, k < 39 → parseFieldDescriptor (TX6 k).2.2.1 = some (tyX6 k) := by decide +kernel
abbrev cX6_init : ByteArray := prog_8_method_1_code
def yX6_init : MethodName := ⟨RX6, "<init>", "()V"⟩
abbrev cX6_in : ByteArray := prog_8_method_2_code
def yX6_in : MethodName := ⟨RX6, "in", "(III)Z"⟩
abbrev cX6_isPage : ByteArray := prog_8_method_3_code
def yX6_isPage : MethodName := ⟨RX6, "isPage", "(I)Z"⟩
abbrev cX6_changes : ByteArray := prog_8_method_4_code
def yX6_changes : MethodName := ⟨RX6, "changes", "()V"⟩
abbrev cX6_page : ByteArray := prog_8_method_5_code
def yX6_page : MethodName := ⟨RX6, "page", "()I"⟩
abbrev cX6_box : ByteArray := prog_8_method_6_code
def yX6_box : MethodName := ⟨RX6, "box", "(IIII)I"⟩
abbrev cX6_tell : ByteArray := prog_8_method_7_code
def yX6_tell : MethodName := ⟨RX6, "tell", "(II)Z"⟩
abbrev cX6_weights : ByteArray := prog_8_method_8_code
def yX6_weights : MethodName := ⟨RX6, "weights", "(IIIII)Z"⟩
abbrev cX6_bounds : ByteArray := prog_8_method_9_code
def yX6_bounds : MethodName := ⟨RX6, "bounds", "(III)Z"⟩
abbrev cX6_boxWith : ByteArray := prog_8_method_10_code
def yX6_boxWith : MethodName := ⟨RX6, "boxWith", "(II)I"⟩
abbrev cX6_middle : ByteArray := prog_8_method_11_code
def yX6_middle : MethodName := ⟨RX6, "middle", "(I)I"⟩
abbrev cX6_makes : ByteArray := prog_8_method_12_code
def yX6_makes : MethodName := ⟨RX6, "makes", "()V"⟩
abbrev cX6_makesSpot : ByteArray := prog_8_method_13_code
def yX6_makesSpot : MethodName := ⟨RX6, "makesSpot", "(II)V"⟩
abbrev cX6_isKind : ByteArray := prog_8_method_14_code
def yX6_isKind : MethodName := ⟨RX6, "isKind", "(I)Z"⟩
abbrev cX6_kind : ByteArray := prog_8_method_15_code
def yX6_kind : MethodName := ⟨RX6, "kind", "(II)I"⟩
abbrev cX6_spot : ByteArray := prog_8_method_16_code
def yX6_spot : MethodName := ⟨RX6, "spot", "(III)I"⟩
abbrev cX6_apart : ByteArray := prog_8_method_17_code
def yX6_apart : MethodName := ⟨RX6, "apart", "(II)I"⟩
abbrev cX6_lays : ByteArray := prog_8_method_18_code
def yX6_lays : MethodName := ⟨RX6, "lays", "(IIII)I"⟩
abbrev cX6_byMove : ByteArray := prog_8_method_19_code
def yX6_byMove : MethodName := ⟨RX6, "byMove", "(II)I"⟩
abbrev cX6_seeks : ByteArray := prog_8_method_20_code
def yX6_seeks : MethodName := ⟨RX6, "seeks", "()V"⟩
abbrev cX6_places : ByteArray := prog_8_method_21_code
def yX6_places : MethodName := ⟨RX6, "places", "()V"⟩
abbrev cX6_takesPage : ByteArray := prog_8_method_22_code
def yX6_takesPage : MethodName := ⟨RX6, "takesPage", "(I)V"⟩
abbrev cX6_takesSpots : ByteArray := prog_8_method_23_code
def yX6_takesSpots : MethodName := ⟨RX6, "takesSpots", "(I)V"⟩
abbrev cX6_costOf : ByteArray := prog_8_method_24_code
def yX6_costOf : MethodName := ⟨RX6, "costOf", "(II)I"⟩
abbrev cX6_isLaid : ByteArray := prog_8_method_25_code
def yX6_isLaid : MethodName := ⟨RX6, "isLaid", "(II)Z"⟩
abbrev cX6_lay : ByteArray := prog_8_method_26_code
def yX6_lay : MethodName := ⟨RX6, "lay", "(III)I"⟩
abbrev cX6_moved : ByteArray := prog_8_method_27_code
def yX6_moved : MethodName := ⟨RX6, "moved", "(IIZ)I"⟩
abbrev cX6_read : ByteArray := prog_8_method_28_code
def yX6_read : MethodName := ⟨RX6, "read", "(III)I"⟩
abbrev cX6_looks : ByteArray := prog_8_method_29_code
def yX6_looks : MethodName := ⟨RX6, "looks", "(I)V"⟩
abbrev cX6_sortOf : ByteArray := prog_8_method_30_code
def yX6_sortOf : MethodName := ⟨RX6, "sortOf", "(I)I"⟩
abbrev cX6_sorted : ByteArray := prog_8_method_31_code
def yX6_sorted : MethodName := ⟨RX6, "sorted", "(I)I"⟩
abbrev cX6_told : ByteArray := prog_8_method_32_code
def yX6_told : MethodName := ⟨RX6, "told", "(I)I"⟩
abbrev cX6_look : ByteArray := prog_8_method_33_code
def yX6_look : MethodName := ⟨RX6, "look", "()I"⟩
abbrev cX6_isUnknown : ByteArray := prog_8_method_34_code
def yX6_isUnknown : MethodName := ⟨RX6, "isUnknown", "(I)Z"⟩
abbrev cX6_isNear : ByteArray := prog_8_method_35_code
def yX6_isNear : MethodName := ⟨RX6, "isNear", "(II)Z"⟩
abbrev cX6_gathers : ByteArray := prog_8_method_36_code
def yX6_gathers : MethodName := ⟨RX6, "gathers", "()V"⟩
abbrev cX6_joins : ByteArray := prog_8_method_37_code
def yX6_joins : MethodName := ⟨RX6, "joins", "(II)V"⟩
abbrev cX6_heaps : ByteArray := prog_8_method_38_code
def yX6_heaps : MethodName := ⟨RX6, "heaps", "()I"⟩
abbrev cX6_heap : ByteArray := prog_8_method_39_code
def yX6_heap : MethodName := ⟨RX6, "heap", "(I)I"⟩
abbrev cX6_areVersions : ByteArray := prog_8_method_40_code
def yX6_areVersions : MethodName := ⟨RX6, "areVersions", "(II)Z"⟩
abbrev cX6_spotWith : ByteArray := prog_8_method_41_code
def yX6_spotWith : MethodName := ⟨RX6, "spotWith", "(II)I"⟩
abbrev cX6_toldBy : ByteArray := prog_8_method_42_code
def yX6_toldBy : MethodName := ⟨RX6, "toldBy", "(II)I"⟩
abbrev cX6_versions : ByteArray := prog_8_method_43_code
def yX6_versions : MethodName := ⟨RX6, "versions", "(III)I"⟩
abbrev cX6_touch : ByteArray := prog_8_method_44_code
def yX6_touch : MethodName := ⟨RX6, "touch", "(II)I"⟩
abbrev cX6_about : ByteArray := prog_8_method_45_code
def yX6_about : MethodName := ⟨RX6, "about", "(I)I"⟩
def RJ9 : String := "java/lang/Math"
def TJ9 : u_T := fun k => match k with
  | _ => ("", "", "", false)
def tyJ9 : Nat → FieldType := fun k => match k with
  | _ => .int
theorem nmJ9 : ∀ a, a < 0 → ∀ b, b < 0 → a ≠ b → (TJ9 a).2.1 ≠ (TJ9 b).2.1 := by decide +kernel
theorem tyJ9_ok : ∀ k, k < 0 → parseFieldDescriptor (TJ9 k).2.2.1 = some (tyJ9 k) := by decide +kernel
abbrev cJ9_abs_0f7a4 : ByteArray := prog_9_method_59_code
def yJ9_abs_0f7a4 : MethodName := ⟨RJ9, "abs", "(I)I"⟩
abbrev cJ9_max_7cf53 : ByteArray := prog_9_method_65_code
def yJ9_max_7cf53 : MethodName := ⟨RJ9, "max", "(II)I"⟩
abbrev cJ9_min_7cf53 : ByteArray := prog_9_method_69_code
def yJ9_min_7cf53 : MethodName := ⟨RJ9, "min", "(II)I"⟩
abbrev cJ9_min_f86c9 : ByteArray := prog_9_method_70_code
def yJ9_min_f86c9 : MethodName := ⟨RJ9, "min", "(JJ)J"⟩
def RL : String := "PaperKindsLaw"
abbrev cL_law : ByteArray := code
def yL_law : MethodName := ⟨RL, "law", "([I)Z"⟩
end
section
/-! ===== the memory of the two objects, in whole numbers, at places counted from the law's start ===== -/
abbrev pV : Type := Int ⊕ Int ⊕ Nat
abbrev pMem : Type := (Nat → Nat → Int) × (Nat → Nat → Int) × (Nat → Nat → Option Nat)
abbrev pShp : Type := Nat ⊕ (Nat × Nat)
/-- class numbers, their slots, array classes, the first place, the script's cell, the static row's cell -/
abbrev pG : Type := (Nat → ClassId) × (Nat → Nat → Nat) × (Nat → ClassId) × Nat × Nat × Nat
def pad (g : pG) (k : Nat) : Nat := if k = 1000000 then g.2.2.2.2.1 else if k = 1000001 then g.2.2.2.2.2 else g.2.2.2.1 + k
def prv (g : pG) : pV → Value
  | .inl z => .int (Int32.ofInt z)
  | .inr (.inl z) => .long (Int64.ofInt z)
  | .inr (.inr k) => .ref (pad g k)
def mI (M : pMem) (a i : Nat) : Int := M.1 a i
def mL (M : pMem) (a i : Nat) : Int := M.2.1 a i
def mR (M : pMem) (a i : Nat) : Option Nat := M.2.2 a i
def stI (M : pMem) (a i : Nat) (v : Int) : pMem := (fun b j => if b = a ∧ j = i then v else M.1 b j, M.2.1, M.2.2)
def stL (M : pMem) (a i : Nat) (v : Int) : pMem := (M.1, fun b j => if b = a ∧ j = i then v else M.2.1 b j, M.2.2)
def stR (M : pMem) (a i : Nat) (v : Nat) : pMem := (M.1, M.2.1, fun b j => if b = a ∧ j = i then some v else M.2.2 b j)
def zero (M : pMem) (a : Nat) : pMem := (fun b j => if b = a then 0 else M.1 b j, fun b j => if b = a then 0 else M.2.1 b j, fun b j => if b = a then none else M.2.2 b j)
/-- the kind of field k of class ci: 0 int, 1 long, 2 boolean, 3 a reference -/
def pfk (ci k : Nat) : Nat := match ci with
  | 0 => if k = 2 then 0 else 3
  | 1 => if k < 7 then 0 else if k = 7 then 1 else if k = 8 then 2 else 3
  | 2 => 3
  | 3 => 0
  | 4 => if k = 4 then 0 else 3
  | 5 => if k < 12 then 3 else 0
  | _ => if k = 10 then 2 else if k = 0 ∨ k = 7 ∨ k = 8 ∨ k = 9 ∨ k = 17 ∨ k = 21 ∨ k = 28 ∨ k = 29 ∨ k = 30 ∨ k = 34 ∨ k = 35 ∨ k = 36 then 0 else 3
def pnF (ci : Nat) : Nat := match ci with
  | 0 => 3
  | 1 => 19
  | 2 => 3
  | 3 => 3
  | 4 => 5
  | 5 => 16
  | _ => 39
abbrev classes : List vw_C := [(RX0, TX0, 3), (RX1, TX1, 19), (RX2, TX2, 3), (RX3, TX3, 3), (RX4, TX4, 5), (RX5, TX5, 16), (RX6, TX6, 39)]
def pty (ci : Nat) : Nat → FieldType := match ci with
  | 0 => tyX0
  | 1 => tyX1
  | 2 => tyX2
  | 3 => tyX3
  | 4 => tyX4
  | 5 => tyX5
  | _ => tyX6
def pfv (g : pG) (ci : Nat) (M : pMem) (a k : Nat) : Value := match pfk ci k with
  | 1 => .long (Int64.ofInt (mL M a k))
  | 3 => va_rf ((mR M a k).map (pad g))
  | _ => .int (Int32.ofInt (mI M a k))
def parr (g : pG) (t : Nat) (M : pMem) (a : Nat) : (Nat → Int32) ⊕ (Nat → Int64) ⊕ (Nat → UInt32) ⊕ (Nat → UInt64) ⊕ (Nat → Option Nat) := match t with
  | 0 => .inl (fun j => Int32.ofInt (mI M a j))
  | 1 => .inr (.inl (fun j => Int64.ofInt (mL M a j)))
  | 2 => .inl (fun j => Int32.ofInt (mI M a j))
  | _ => .inr (.inr (.inr (.inr (fun j => (mR M a j).map (pad g)))))
def pent (g : pG) (M : pMem) (sh : pShp) (a : Nat) : va_E := match sh with
  | .inl ci => .inr (ci, (List.range (pnF ci)).map (pfv g ci M a))
  | .inr tn => .inl (g.2.2.1 tn.1, tn.2, parr g tn.1 M a)
def pwd (g : pG) (S : List pShp) (M : pMem) : va_W := S.mapIdx (fun a sh => (pad g a, pent g M sh a))
def pA (g : pG) : Nat → Prop := fun q => g.2.2.2.1 ≤ q
def pRel (g : pG) (S : List pShp) (M : pMem) (H : Heap) : Prop := va_P (g.1, g.2.1) classes (pwd g S M) H ∧ H.size = g.2.2.2.1 + S.length ∧ S.length ≤ 1000
def ptys (g : pG) : List (ClassId × FieldType) := [(g.2.2.1 0, .int), (g.2.2.1 1, .long), (g.2.2.1 2, .boolean), (g.2.2.1 3, .object "PaperKinds$Sheet"), (g.2.2.1 4, .object "PaperKinds$Kind")]
def pK (g : pG) (U : State) : Prop := va_K (g.1, g.2.1) classes (ptys g) U
def pSt (g : pG) (U : State) (H : Heap) : Prop := va_Z "PaperKinds" "BOX_UNITS" "[J" (.ref g.2.2.2.2.2) (pA g) U H ∧ va_T .long g.2.2.2.2.2 8 (fun j => .long (Int64.ofInt (17 ^ (7 - j)))) (pA g) U H
def pNM : List (String × Nat × MethodName × String) := [("PaperKinds", 27, yX1_init, "PaperKinds"), ("PaperKinds", 34, yX2_init, "PaperKinds"), ("PaperKinds", 41, yX3_init, "PaperKinds"), ("PaperKinds", 52, yX0_init, "PaperKinds"), ("PaperKinds$Layer", 114, yX5_acrossOf, "PaperKinds"), ("PaperKinds$Layer", 118, yX5_downOf, "PaperKinds")]
def pNw (U : State) : Prop := (∀ q ∈ pNM, va_Nw (.methodLinkNest q.1 q.2.1 q.2.2.1 q.2.2.2) U) ∧ va_Nw (.fieldLinkNest "PaperKinds$Layer" 109 "PaperKinds" "BOX_UNITS" "[J" "PaperKinds") U ∧ va_AO "PaperKinds$Sheet" U ∧ va_AO "PaperKinds$Kind" U
def pgood : List Cond := lw_tbl.filter goodWord
def pPc (g : pG) (S : List pShp) (M : pMem) (av : List pV) : Array Value → State → Prop := fun v U => v = (av.map (prv g)).toArray ∧ pRel g S M U.heap ∧ pK g U ∧ pSt g U U.heap ∧ pNw U
def pQc (g : pG) (S' : List pShp) (Q : Option pV → pMem → Prop) : Array Value → State → Outcome → State → Prop := fun _ st o t => ∃ (r : Option pV) (M' : pMem), o = .returned (r.map (prv g)) ∧ Q r M' ∧ pRel g S' M' t.heap ∧ va_F (pA g) st t
/-- a method's contract -/
def pCn (g : pG) (d k n : Nat) (y : MethodName) (cc : ByteArray) (nL : Nat) (ret : Option FieldType) (S S' : List pShp) (M : pMem) (av : List pV) (Q : Option pV → pMem → Prop) : Prop :=
  ∀ l : Launch, Met l y (.code y cc nL ret :: pgood) { frames := d, cells := k, slots := n, locals := 40 * d } (pPc g S M av) (pQc g S' Q) k n (pA g)
abbrev pX : Type := Program × Launch × Env × Room × State × MethodId × Array Value × List Frame × Method × Code
def pCx (g : pG) (y : MethodName) (cc : ByteArray) (nL : Nat) (ret : Option FieldType) (d k n : Nat) : pX → Prop := fun (p, l, e, R, s, m, args, below, meth, c) =>
  p.tables.exec = Jvm.exec ∧ c.code = cc ∧ c.maxLocals = nL ∧ s.vm.findClass y.cls = some m.cls ∧ (∀ w ∈ pgood, w.before args s = true) ∧ pK g s ∧ pSt g s s.heap ∧ pNw s ∧ g.2.2.2.1 ≤ s.heap.size ∧ meth.locks = false ∧ meth.sig.returnType = ret ∧ meth.name = y.name ∧ d ≤ R.frames ∧ 40 * d ≤ R.locals ∧ k ≤ R.cells ∧ n ≤ R.slots
def pLk (g : pG) (nL : Nat) (ls : Array Slot) (L : List (Option pV)) : Prop := ls.size = nL ∧ lv_wf ls ∧ ∀ (i : Nat) (v : pV), L[i]? = some (some v) → ls[i]? = some (.val (prv g v))
def pE (g : pG) (nL : Nat) (X : pX) (Qf : State → Prop) (S : List pShp) (M : pMem) (cs sl pc : Nat) (L : List (Option pV)) (st : List pV) : Prop :=
  match X with
  | (p, l, e, R, s, m, args, below, meth, c) => ∀ (H : Heap) (locs : List Loc) (ls : Array Slot), pRel g S M H → va_S (pA g) s.heap H locs → pLk g nL ls L → W p l e R s m args below meth c H locs cs sl Qf (F0 m pc ls (st.map (prv g)))
def pMQ (g : pG) (S' : List pShp) (Q : Option pV → pMem → Prop) (X : pX) (k n : Nat) : State → Prop := MQ X.2.2.2.2.2.2.2.1 (pQc g S' Q) X.2.2.2.2.2.2.1 X.2.2.2.2.1 k n (pA g)
/-! storing into locals -/
def pst (L : List (Option pV)) (i : Nat) (v : pV) : List (Option pV) := match i with
  | 0 => L.set 0 (some v)
  | j + 1 => match L[j]? with
    | some (some (.inr (.inl _))) => (L.set j none).set (j + 1) (some v)
    | _ => L.set (j + 1) (some v)
def pst2 (L : List (Option pV)) (i : Nat) (v : pV) : List (Option pV) := (pst L i v).set (i + 1) none
/-! the whole numbers that a machine's number holds -/
def i32 (z : Int) : Prop := -2147483648 ≤ z ∧ z < 2147483648
def i64 (z : Int) : Prop := -9223372036854775808 ≤ z ∧ z < 9223372036854775808
theorem i32_to {z : Int} (h : i32 z) : (Int32.ofInt z).toInt = z := by
  rw [Int32.toInt_ofInt]; unfold i32 at h; have e : (Int32.size : Int) = 4294967296 := rfl; exact Int.bmod_eq_of_le_mul_two (by omega) (by omega)
theorem i64_to {z : Int} (h : i64 z) : (Int64.ofInt z).toInt = z := by
  rw [Int64.toInt_ofInt]; unfold i64 at h; have e : (Int64.size : Int) = 18446744073709551616 := rfl; exact Int.bmod_eq_of_le_mul_two (by omega) (by omega)
theorem i32_lt {x y : Int} (hx : i32 x) (hy : i32 y) : Int32.ofInt x < Int32.ofInt y ↔ x < y := by
  rw [Int32.lt_iff_toInt_lt, i32_to hx, i32_to hy]
theorem i32_le {x y : Int} (hx : i32 x) (hy : i32 y) : Int32.ofInt x ≤ Int32.ofInt y ↔ x ≤ y := by
  rw [Int32.le_iff_toInt_le, i32_to hx, i32_to hy]
theorem i32_eq {x y : Int} (hx : i32 x) (hy : i32 y) : Int32.ofInt x = Int32.ofInt y ↔ x = y := by
  rw [← Int32.toInt_inj, i32_to hx, i32_to hy]
theorem i64_lt {x y : Int} (hx : i64 x) (hy : i64 y) : Int64.ofInt x < Int64.ofInt y ↔ x < y := by
  rw [Int64.lt_iff_toInt_lt, i64_to hx, i64_to hy]
theorem i64_eq {x y : Int} (hx : i64 x) (hy : i64 y) : Int64.ofInt x = Int64.ofInt y ↔ x = y := by
  rw [← Int64.toInt_inj, i64_to hx, i64_to hy]
theorem i32_0 : Int32.ofInt 0 = 0 := by decide +kernel
theorem i32_nI (n : Nat) : Int32.ofInt (n : Int) = nI n := Int32.ofInt_eq_ofNat
end
section
section PR
variable {g : pG} {y : MethodName} {cc : ByteArray} {nL : Nat} {ret : Option FieldType} {d k n : Nat} {X : pX} {Qf : State → Prop} {S : List pShp} {M : pMem} {cs sl pc : Nat} {L : List (Option pV)} {st : List pV}
theorem pst_get {L : List (Option pV)} {i : Nat} {v : pV} {j : Nat} {w : pV} (h : (pst L i v)[j]? = some (some w)) : (j = i ∧ w = v) ∨ (j ≠ i ∧ L[j]? = some (some w) ∧ ¬ (j + 1 = i ∧ (prv g w).category = 2)) := by
  unfold pst at h
  cases i with
  | zero =>
    simp only [List.getElem?_set] at h
    split at h
    · next q => subst q; split at h <;> simp_all
    · next q => right; exact ⟨fun e => q e.symm, h, by omega⟩
  | succ i =>
    dsimp only at h
    split at h
    · next z hz =>
      simp only [List.getElem?_set] at h
      split at h
      · next q => subst q; split at h <;> simp_all
      · next q =>
        split at h
        · next q2 => split at h <;> simp at h
        · next q2 => right; exact ⟨fun e => q e.symm, h, by omega⟩
    · next hz =>
      simp only [List.getElem?_set] at h
      split at h
      · next q => subst q; split at h <;> simp_all
      · next q =>
        right; refine ⟨fun e => q e.symm, h, fun e => ?_⟩
        have e1 : j = i := by omega
        subst e1
        rcases w with z | z | z
        · simp [prv, Value.category] at e
        · exact hz z h
        · simp [prv, Value.category] at e
def pLs (g : pG) (L : List (Option pV)) : List (Nat × Value) := (List.range L.length).filterMap (fun i => match L[i]? with
  | some (some v) => some (i, prv g v)
  | _ => none)
theorem pLs_mem {i : Nat} {w : Value} : (i, w) ∈ pLs g L ↔ ∃ v, L[i]? = some (some v) ∧ w = prv g v := by
  unfold pLs
  rw [List.mem_filterMap]
  constructor
  · rintro ⟨a, ha, h⟩
    split at h
    · next v hv => cases h; exact ⟨v, hv, rfl⟩
    · cases h
  · rintro ⟨v, hv, rfl⟩
    refine ⟨i, List.mem_range.mpr (List.getElem?_eq_some_iff.mp hv).1, ?_⟩
    rw [hv]
theorem pLk_has {ls : Array Slot} (h : pLk g nL ls L) : lv_has ls nL (pLs g L) := by
  refine ⟨h.1, h.2.1, fun q hq => ?_⟩
  obtain ⟨i, w⟩ := q
  obtain ⟨v, hv, rfl⟩ := pLs_mem.mp hq
  exact h.2.2 i v hv
theorem pLk_st1 {ls : Array Slot} {i : Nat} {v : pV} (h : pLk g nL ls L) (hi : i < nL) (hc : (prv g v).category = 1) : ∃ ls', storeLocals ls i (prv g v) = some ls' ∧ pLk g nL ls' (pst L i v) := by
  obtain ⟨ls', e1, h1, h2, h3⟩ := lv_store1 (pLk_has h) hi hc
  refine ⟨ls', e1, h1, h2, fun j w hw => ?_⟩
  rcases pst_get (g := g) hw with ⟨rfl, rfl⟩ | ⟨q1, q2, q3⟩
  · exact h3 (j, prv g w) List.mem_cons_self
  · refine h3 (j, prv g w) (List.mem_cons_of_mem _ (List.mem_filter.mpr ⟨pLs_mem.mpr ⟨w, q2, rfl⟩, ?_⟩))
    simp only [Bool.and_eq_true, Bool.not_eq_true', beq_eq_false_iff_ne, ne_eq]
    refine ⟨q1, ?_⟩
    cases hh : (j + 1 == i && (prv g w).category == 2) with
    | false => rfl
    | true => exact absurd (by simpa using hh) q3
theorem pLk_st2 {ls : Array Slot} {i : Nat} {v : pV} (h : pLk g nL ls L) (hi : i + 1 < nL) (hc : (prv g v).category = 2) : ∃ ls', storeLocals ls i (prv g v) = some ls' ∧ pLk g nL ls' (pst2 L i v) := by
  obtain ⟨ls', e1, h1, h2, h3⟩ := lv_store2 (pLk_has h) hi hc
  refine ⟨ls', e1, h1, h2, fun j w hw => ?_⟩
  unfold pst2 at hw
  rw [List.getElem?_set] at hw
  split at hw
  · split at hw <;> simp at hw
  · next hne =>
    rcases pst_get (g := g) hw with ⟨rfl, rfl⟩ | ⟨q1, q2, q3⟩
    · exact h3 (j, prv g w) List.mem_cons_self
    · refine h3 (j, prv g w) (List.mem_cons_of_mem _ (List.mem_filter.mpr ⟨pLs_mem.mpr ⟨w, q2, rfl⟩, ?_⟩))
      simp only [Bool.and_eq_true, Bool.not_eq_true', beq_eq_false_iff_ne, ne_eq]
      refine ⟨q1, fun e => hne e.symm, ?_⟩
      cases hh : (j + 1 == i && (prv g w).category == 2) with
      | false => rfl
      | true => exact absurd (by simpa using hh) q3
theorem e_iconst (C : pCx g y cc nL ret d k n X) {z : Int} (hd : decode cc pc = .ok (.iconst z, 1)) (kk : pE g nL X Qf S M cs sl (pc + 1) L (.inl z :: st)) : pE g nL X Qf S M cs sl pc L st := by
  obtain ⟨p, l, e, R, s, m, args, below, meth, c⟩ := X
  intro H locs ls hR hS hl
  exact lv_iconst C.1 C.2.1 hd rfl (kk H locs ls hR hS hl)
theorem e_bipush (C : pCx g y cc nL ret d k n X) {z : Int} (hd : decode cc pc = .ok (.bipush z, 2)) (hv : (Int8.ofInt z).toInt32 = Int32.ofInt z := by decide +kernel) (kk : pE g nL X Qf S M cs sl (pc + 2) L (.inl z :: st)) : pE g nL X Qf S M cs sl pc L st := by
  obtain ⟨p, l, e, R, s, m, args, below, meth, c⟩ := X
  intro H locs ls hR hS hl
  exact lv_bipush C.1 C.2.1 hd hv (kk H locs ls hR hS hl)
theorem e_sipush (C : pCx g y cc nL ret d k n X) {z : Int} (hd : decode cc pc = .ok (.sipush z, 3)) (hv : (Int16.ofInt z).toInt32 = Int32.ofInt z := by decide +kernel) (kk : pE g nL X Qf S M cs sl (pc + 3) L (.inl z :: st)) : pE g nL X Qf S M cs sl pc L st := by
  obtain ⟨p, l, e, R, s, m, args, below, meth, c⟩ := X
  intro H locs ls hR hS hl
  exact lv_sipush C.1 C.2.1 hd hv (kk H locs ls hR hS hl)
theorem e_lconst (C : pCx g y cc nL ret d k n X) {z : Fin 2} (v : Int) (hd : decode cc pc = .ok (.lconst z, 1)) (hv : Int64.ofNat (z : Nat) = Int64.ofInt v := by decide +kernel) (kk : pE g nL X Qf S M cs sl (pc + 1) L (.inr (.inl v) :: st)) : pE g nL X Qf S M cs sl pc L st := by
  obtain ⟨p, l, e, R, s, m, args, below, meth, c⟩ := X
  intro H locs ls hR hS hl
  exact lv_lconst C.1 C.2.1 hd hv (kk H locs ls hR hS hl)
theorem e_ldc (C : pCx g y cc nL ret d k n X) {i : Nat} (v : Int) {w : Int32} (hw : Cond.constant y.cls i w ∈ pgood) (hd : decode cc pc = .ok (.ldc i, 2)) (hv : w = Int32.ofInt v := by decide +kernel) (kk : pE g nL X Qf S M cs sl (pc + 2) L (.inl v :: st)) : pE g nL X Qf S M cs sl pc L st := by
  obtain ⟨p, l, e, R, s, m, args, below, meth, c⟩ := X
  intro H locs ls hR hS hl
  exact lv_ldc C.1 C.2.1 C.2.2.2.1 (C.2.2.2.2.1 _ hw) hd (by rw [hv]; exact kk H locs ls hR hS hl)
theorem e_ldc2 (C : pCx g y cc nL ret d k n X) {i : Nat} (v : Int) {w : Int64} (hw : Cond.constantLong y.cls i w ∈ pgood) (hd : decode cc pc = .ok (.ldc2_w i, 3)) (hv : w = Int64.ofInt v := by decide +kernel) (kk : pE g nL X Qf S M cs sl (pc + 3) L (.inr (.inl v) :: st)) : pE g nL X Qf S M cs sl pc L st := by
  obtain ⟨p, l, e, R, s, m, args, below, meth, c⟩ := X
  intro H locs ls hR hS hl
  exact lv_ldc2 C.1 C.2.1 C.2.2.2.1 (C.2.2.2.2.1 _ hw) hd (by rw [hv]; exact kk H locs ls hR hS hl)
theorem e_iload_n (C : pCx g y cc nL ret d k n X) {j : Fin 4} {z : Int} (hd : decode cc pc = .ok (.iload_n j, 1)) (h : L[(j : Nat)]? = some (some (.inl z))) (kk : pE g nL X Qf S M cs sl (pc + 1) L (.inl z :: st)) : pE g nL X Qf S M cs sl pc L st := by
  obtain ⟨p, l, e, R, s, m, args, below, meth, c⟩ := X
  intro H locs ls hR hS hl
  exact lv_iload_n C.1 C.2.1 hd rfl (hl.2.2 _ _ h) (kk H locs ls hR hS hl)
theorem e_iload (C : pCx g y cc nL ret d k n X) {j : Nat} {z : Int} (hd : decode cc pc = .ok (.iload j, 2)) (h : L[j]? = some (some (.inl z))) (kk : pE g nL X Qf S M cs sl (pc + 2) L (.inl z :: st)) : pE g nL X Qf S M cs sl pc L st := by
  obtain ⟨p, l, e, R, s, m, args, below, meth, c⟩ := X
  intro H locs ls hR hS hl
  exact lv_iload C.1 C.2.1 hd (hl.2.2 _ _ h) (kk H locs ls hR hS hl)
theorem e_lload_n (C : pCx g y cc nL ret d k n X) {j : Fin 4} {z : Int} (hd : decode cc pc = .ok (.lload_n j, 1)) (h : L[(j : Nat)]? = some (some (.inr (.inl z)))) (kk : pE g nL X Qf S M cs sl (pc + 1) L (.inr (.inl z) :: st)) : pE g nL X Qf S M cs sl pc L st := by
  obtain ⟨p, l, e, R, s, m, args, below, meth, c⟩ := X
  intro H locs ls hR hS hl
  exact lv_lload_n C.1 C.2.1 hd rfl (hl.2.2 _ _ h) (kk H locs ls hR hS hl)
theorem e_lload (C : pCx g y cc nL ret d k n X) {j : Nat} {z : Int} (hd : decode cc pc = .ok (.lload j, 2)) (h : L[j]? = some (some (.inr (.inl z)))) (kk : pE g nL X Qf S M cs sl (pc + 2) L (.inr (.inl z) :: st)) : pE g nL X Qf S M cs sl pc L st := by
  obtain ⟨p, l, e, R, s, m, args, below, meth, c⟩ := X
  intro H locs ls hR hS hl
  exact lv_lload C.1 C.2.1 hd (hl.2.2 _ _ h) (kk H locs ls hR hS hl)
theorem e_aload_n (C : pCx g y cc nL ret d k n X) {j : Fin 4} {z : Nat} (hd : decode cc pc = .ok (.aload_n j, 1)) (h : L[(j : Nat)]? = some (some (.inr (.inr z)))) (kk : pE g nL X Qf S M cs sl (pc + 1) L (.inr (.inr z) :: st)) : pE g nL X Qf S M cs sl pc L st := by
  obtain ⟨p, l, e, R, s, m, args, below, meth, c⟩ := X
  intro H locs ls hR hS hl
  exact lv_aload_n C.1 C.2.1 hd rfl (hl.2.2 _ _ h) (kk H locs ls hR hS hl)
theorem e_aload (C : pCx g y cc nL ret d k n X) {j : Nat} {z : Nat} (hd : decode cc pc = .ok (.aload j, 2)) (h : L[j]? = some (some (.inr (.inr z)))) (kk : pE g nL X Qf S M cs sl (pc + 2) L (.inr (.inr z) :: st)) : pE g nL X Qf S M cs sl pc L st := by
  obtain ⟨p, l, e, R, s, m, args, below, meth, c⟩ := X
  intro H locs ls hR hS hl
  exact lv_aload C.1 C.2.1 hd (hl.2.2 _ _ h) (kk H locs ls hR hS hl)
theorem pLk_of1 {ls : Array Slot} {i : Nat} {v : pV} (hs : lv_has ls nL ((i, prv g v) :: (pLs g L).filter (fun q => !(q.1 == i) && !(q.1 + 1 == i && q.2.category == 2)))) : pLk g nL ls (pst L i v) := by
  obtain ⟨h1, h2, h3⟩ := hs
  refine ⟨h1, h2, fun j w hw => ?_⟩
  rcases pst_get (g := g) hw with ⟨rfl, rfl⟩ | ⟨q1, q2, q3⟩
  · exact h3 (j, prv g w) List.mem_cons_self
  · refine h3 (j, prv g w) (List.mem_cons_of_mem _ (List.mem_filter.mpr ⟨pLs_mem.mpr ⟨w, q2, rfl⟩, ?_⟩))
    simp only [Bool.and_eq_true, Bool.not_eq_true', beq_eq_false_iff_ne, ne_eq]
    refine ⟨q1, ?_⟩
    cases hh : (j + 1 == i && (prv g w).category == 2) with
    | false => rfl
    | true => exact absurd (by simpa using hh) q3
theorem pLk_of2 {ls : Array Slot} {i : Nat} {v : pV} (hs : lv_has ls nL ((i, prv g v) :: (pLs g L).filter (fun q => !(q.1 == i) && (!(q.1 == i + 1) && !(q.1 + 1 == i && q.2.category == 2))))) : pLk g nL ls (pst2 L i v) := by
  obtain ⟨h1, h2, h3⟩ := hs
  refine ⟨h1, h2, fun j w hw => ?_⟩
  unfold pst2 at hw
  rw [List.getElem?_set] at hw
  split at hw
  · split at hw <;> simp at hw
  · next hne =>
    rcases pst_get (g := g) hw with ⟨rfl, rfl⟩ | ⟨q1, q2, q3⟩
    · exact h3 (j, prv g w) List.mem_cons_self
    · refine h3 (j, prv g w) (List.mem_cons_of_mem _ (List.mem_filter.mpr ⟨pLs_mem.mpr ⟨w, q2, rfl⟩, ?_⟩))
      simp only [Bool.and_eq_true, Bool.not_eq_true', beq_eq_false_iff_ne, ne_eq]
      refine ⟨q1, fun e => hne e.symm, ?_⟩
      cases hh : (j + 1 == i && (prv g w).category == 2) with
      | false => rfl
      | true => exact absurd (by simpa using hh) q3
theorem e_istore_n (C : pCx g y cc nL ret d k n X) {j : Fin 4} {z : Int} (hd : decode cc pc = .ok (.istore_n j, 1)) (h : (j : Nat) < nL := by decide) (kk : pE g nL X Qf S M cs sl (pc + 1) (pst L j (.inl z)) st) : pE g nL X Qf S M cs sl pc L (.inl z :: st) := by
  obtain ⟨p, l, e, R, s, m, args, below, meth, c⟩ := X
  intro H locs ls hR hS hl
  exact lv_istore_n C.1 C.2.1 hd rfl (pLk_has hl) h rfl (fun ls1 h1 => kk H locs ls1 hR hS (pLk_of1 (v := .inl z) h1))
theorem e_istore (C : pCx g y cc nL ret d k n X) {j : Nat} {z : Int} (hd : decode cc pc = .ok (.istore j, 2)) (h : j < nL := by decide) (kk : pE g nL X Qf S M cs sl (pc + 2) (pst L j (.inl z)) st) : pE g nL X Qf S M cs sl pc L (.inl z :: st) := by
  obtain ⟨p, l, e, R, s, m, args, below, meth, c⟩ := X
  intro H locs ls hR hS hl
  exact lv_istore C.1 C.2.1 hd (pLk_has hl) h rfl (fun ls1 h1 => kk H locs ls1 hR hS (pLk_of1 (v := .inl z) h1))
theorem e_lstore_n (C : pCx g y cc nL ret d k n X) {j : Fin 4} {z : Int} (hd : decode cc pc = .ok (.lstore_n j, 1)) (h : (j : Nat) + 1 < nL := by decide) (kk : pE g nL X Qf S M cs sl (pc + 1) (pst2 L j (.inr (.inl z))) st) : pE g nL X Qf S M cs sl pc L (.inr (.inl z) :: st) := by
  obtain ⟨p, l, e, R, s, m, args, below, meth, c⟩ := X
  intro H locs ls hR hS hl
  exact lv_lstore_n C.1 C.2.1 hd rfl (pLk_has hl) h rfl (fun ls1 h1 => kk H locs ls1 hR hS (pLk_of2 (v := .inr (.inl z)) h1))
theorem e_lstore (C : pCx g y cc nL ret d k n X) {j : Nat} {z : Int} (hd : decode cc pc = .ok (.lstore j, 2)) (h : j + 1 < nL := by decide) (kk : pE g nL X Qf S M cs sl (pc + 2) (pst2 L j (.inr (.inl z))) st) : pE g nL X Qf S M cs sl pc L (.inr (.inl z) :: st) := by
  obtain ⟨p, l, e, R, s, m, args, below, meth, c⟩ := X
  intro H locs ls hR hS hl
  exact lv_lstore C.1 C.2.1 hd (pLk_has hl) h rfl (fun ls1 h1 => kk H locs ls1 hR hS (pLk_of2 (v := .inr (.inl z)) h1))
theorem e_astore_n (C : pCx g y cc nL ret d k n X) {j : Fin 4} {z : Nat} (hd : decode cc pc = .ok (.astore_n j, 1)) (h : (j : Nat) < nL := by decide) (kk : pE g nL X Qf S M cs sl (pc + 1) (pst L j (.inr (.inr z))) st) : pE g nL X Qf S M cs sl pc L (.inr (.inr z) :: st) := by
  obtain ⟨p, l, e, R, s, m, args, below, meth, c⟩ := X
  intro H locs ls hR hS hl
  exact lv_astore_n C.1 C.2.1 hd rfl (pLk_has hl) h rfl (fun ls1 h1 => kk H locs ls1 hR hS (pLk_of1 (v := .inr (.inr z)) h1))
theorem e_astore (C : pCx g y cc nL ret d k n X) {j : Nat} {z : Nat} (hd : decode cc pc = .ok (.astore j, 2)) (h : j < nL := by decide) (kk : pE g nL X Qf S M cs sl (pc + 2) (pst L j (.inr (.inr z))) st) : pE g nL X Qf S M cs sl pc L (.inr (.inr z) :: st) := by
  obtain ⟨p, l, e, R, s, m, args, below, meth, c⟩ := X
  intro H locs ls hR hS hl
  exact lv_astore C.1 C.2.1 hd (pLk_has hl) h rfl (fun ls1 h1 => kk H locs ls1 hR hS (pLk_of1 (v := .inr (.inr z)) h1))
theorem e_iinc (C : pCx g y cc nL ret d k n X) {j : Nat} {z v : Int} (hd : decode cc pc = .ok (.iinc j v, 3)) (hj : L[j]? = some (some (.inl z))) (h : j < nL := by decide) (kk : pE g nL X Qf S M cs sl (pc + 3) (pst L j (.inl (z + v))) st) : pE g nL X Qf S M cs sl pc L st := by
  obtain ⟨p, l, e, R, s, m, args, below, meth, c⟩ := X
  intro H locs ls hR hS hl
  obtain ⟨q, hq⟩ := List.getElem?_of_mem (pLs_mem (g := g) (w := prv g (.inl z)) |>.mpr ⟨_, hj, rfl⟩)
  exact lv_iinc C.1 C.2.1 hd (pLk_has hl) hq (by rw [← Int32.ofInt_add]) h rfl (fun ls1 h1 => kk H locs ls1 hR hS (pLk_of1 (v := .inl (z + v)) h1))
theorem e_iadd (C : pCx g y cc nL ret d k n X) {x z : Int} (hd : decode cc pc = .ok (.iadd, 1)) (kk : pE g nL X Qf S M cs sl (pc + 1) L (.inl (x + z) :: st)) : pE g nL X Qf S M cs sl pc L (.inl z :: .inl x :: st) := by
  obtain ⟨p, l, e, R, s, m, args, below, meth, c⟩ := X
  intro H locs ls hR hS hl
  exact lv_iadd C.1 C.2.1 hd (by rw [← Int32.ofInt_add]; exact kk H locs ls hR hS hl)
theorem e_isub (C : pCx g y cc nL ret d k n X) {x z : Int} (hd : decode cc pc = .ok (.isub, 1)) (kk : pE g nL X Qf S M cs sl (pc + 1) L (.inl (x - z) :: st)) : pE g nL X Qf S M cs sl pc L (.inl z :: .inl x :: st) := by
  obtain ⟨p, l, e, R, s, m, args, below, meth, c⟩ := X
  intro H locs ls hR hS hl
  exact lv_isub C.1 C.2.1 hd (by rw [← Int32.ofInt_sub]; exact kk H locs ls hR hS hl)
theorem e_imul (C : pCx g y cc nL ret d k n X) {x z : Int} (hd : decode cc pc = .ok (.imul, 1)) (kk : pE g nL X Qf S M cs sl (pc + 1) L (.inl (x * z) :: st)) : pE g nL X Qf S M cs sl pc L (.inl z :: .inl x :: st) := by
  obtain ⟨p, l, e, R, s, m, args, below, meth, c⟩ := X
  intro H locs ls hR hS hl
  exact lv_imul C.1 C.2.1 hd (by rw [← Int32.ofInt_mul]; exact kk H locs ls hR hS hl)
theorem e_ladd (C : pCx g y cc nL ret d k n X) {x z : Int} (hd : decode cc pc = .ok (.ladd, 1)) (kk : pE g nL X Qf S M cs sl (pc + 1) L (.inr (.inl (x + z)) :: st)) : pE g nL X Qf S M cs sl pc L (.inr (.inl z) :: .inr (.inl x) :: st) := by
  obtain ⟨p, l, e, R, s, m, args, below, meth, c⟩ := X
  intro H locs ls hR hS hl
  exact lv_ladd C.1 C.2.1 hd (by rw [← Int64.ofInt_add]; exact kk H locs ls hR hS hl)
theorem e_lsub (C : pCx g y cc nL ret d k n X) {x z : Int} (hd : decode cc pc = .ok (.lsub, 1)) (kk : pE g nL X Qf S M cs sl (pc + 1) L (.inr (.inl (x - z)) :: st)) : pE g nL X Qf S M cs sl pc L (.inr (.inl z) :: .inr (.inl x) :: st) := by
  obtain ⟨p, l, e, R, s, m, args, below, meth, c⟩ := X
  intro H locs ls hR hS hl
  exact lv_lsub C.1 C.2.1 hd (by rw [← Int64.ofInt_sub]; exact kk H locs ls hR hS hl)
theorem e_lmul (C : pCx g y cc nL ret d k n X) {x z : Int} (hd : decode cc pc = .ok (.lmul, 1)) (kk : pE g nL X Qf S M cs sl (pc + 1) L (.inr (.inl (x * z)) :: st)) : pE g nL X Qf S M cs sl pc L (.inr (.inl z) :: .inr (.inl x) :: st) := by
  obtain ⟨p, l, e, R, s, m, args, below, meth, c⟩ := X
  intro H locs ls hR hS hl
  exact lv_lmul C.1 C.2.1 hd (by rw [← Int64.ofInt_mul]; exact kk H locs ls hR hS hl)
theorem i32_div {x z : Int} (hx : i32 x) (hz : i32 z) (h0 : 0 ≤ x) (h1 : 0 < z) : Int32.ofInt x / Int32.ofInt z = Int32.ofInt (x / z) := by
  obtain ⟨a, rfl⟩ := Int.eq_ofNat_of_zero_le h0
  obtain ⟨b, rfl⟩ := Int.eq_ofNat_of_zero_le (Int.le_of_lt h1)
  unfold i32 at hx hz
  rw [show ((a : Int) / (b : Int)) = ((a / b : Nat) : Int) from rfl, i32_nI, i32_nI, i32_nI]
  exact pk_div (by omega) (by omega) (by omega)
theorem i32_rem {x z : Int} (hx : i32 x) (hz : i32 z) (h0 : 0 ≤ x) (h1 : 0 < z) : Int32.ofInt x - Int32.ofInt x / Int32.ofInt z * Int32.ofInt z = Int32.ofInt (x % z) := by
  obtain ⟨a, rfl⟩ := Int.eq_ofNat_of_zero_le h0
  obtain ⟨b, rfl⟩ := Int.eq_ofNat_of_zero_le (Int.le_of_lt h1)
  unfold i32 at hx hz
  rw [show ((a : Int) % (b : Int)) = ((a % b : Nat) : Int) from rfl, i32_nI, i32_nI, i32_nI]
  exact pk_rem (by omega) (by omega) (by omega)
theorem i64_nat (n : Nat) : Int64.ofInt (n : Int) = lN n := Int64.ofInt_eq_ofNat
theorem i64_div {x z : Int} (hx : i64 x) (hz : i64 z) (h0 : 0 ≤ x) (h1 : 0 < z) : Int64.ofInt x / Int64.ofInt z = Int64.ofInt (x / z) := by
  obtain ⟨a, rfl⟩ := Int.eq_ofNat_of_zero_le h0
  obtain ⟨b, rfl⟩ := Int.eq_ofNat_of_zero_le (Int.le_of_lt h1)
  unfold i64 at hx hz
  rw [show ((a : Int) / (b : Int)) = ((a / b : Nat) : Int) from rfl, i64_nat, i64_nat, i64_nat]
  exact pk_lDiv (by omega) (by omega) (by omega)
theorem i64_rem {x z : Int} (hx : i64 x) (hz : i64 z) (h0 : 0 ≤ x) (h1 : 0 < z) : Int64.ofInt x - Int64.ofInt x / Int64.ofInt z * Int64.ofInt z = Int64.ofInt (x % z) := by
  obtain ⟨a, rfl⟩ := Int.eq_ofNat_of_zero_le h0
  obtain ⟨b, rfl⟩ := Int.eq_ofNat_of_zero_le (Int.le_of_lt h1)
  unfold i64 at hx hz
  rw [show ((a : Int) % (b : Int)) = ((a % b : Nat) : Int) from rfl, i64_nat, i64_nat, i64_nat]
  exact pk_lRem (by omega) (by omega) (by omega)
theorem e_idiv (C : pCx g y cc nL ret d k n X) {x z : Int} (hd : decode cc pc = .ok (.idiv, 1)) (hx : i32 x) (hz : i32 z) (h0 : 0 ≤ x) (h1 : 0 < z) (kk : pE g nL X Qf S M cs sl (pc + 1) L (.inl (x / z) :: st)) : pE g nL X Qf S M cs sl pc L (.inl z :: .inl x :: st) := by
  obtain ⟨p, l, e, R, s, m, args, below, meth, c⟩ := X
  intro H locs ls hR hS hl
  exact lv_idiv C.1 C.2.1 hd (fun q => by rw [← i32_0, i32_eq hz (by unfold i32; omega)] at q; omega) (by rw [i32_div hx hz h0 h1]; exact kk H locs ls hR hS hl)
theorem e_irem (C : pCx g y cc nL ret d k n X) {x z : Int} (hd : decode cc pc = .ok (.irem, 1)) (hx : i32 x) (hz : i32 z) (h0 : 0 ≤ x) (h1 : 0 < z) (kk : pE g nL X Qf S M cs sl (pc + 1) L (.inl (x % z) :: st)) : pE g nL X Qf S M cs sl pc L (.inl z :: .inl x :: st) := by
  obtain ⟨p, l, e, R, s, m, args, below, meth, c⟩ := X
  intro H locs ls hR hS hl
  exact lv_irem C.1 C.2.1 hd (fun q => by rw [← i32_0, i32_eq hz (by unfold i32; omega)] at q; omega) (by rw [i32_rem hx hz h0 h1]; exact kk H locs ls hR hS hl)
theorem e_ldiv (C : pCx g y cc nL ret d k n X) {x z : Int} (hd : decode cc pc = .ok (.ldiv, 1)) (hx : i64 x) (hz : i64 z) (h0 : 0 ≤ x) (h1 : 0 < z) (kk : pE g nL X Qf S M cs sl (pc + 1) L (.inr (.inl (x / z)) :: st)) : pE g nL X Qf S M cs sl pc L (.inr (.inl z) :: .inr (.inl x) :: st) := by
  obtain ⟨p, l, e, R, s, m, args, below, meth, c⟩ := X
  intro H locs ls hR hS hl
  exact lv_ldiv C.1 C.2.1 hd (fun q => by rw [show (0 : Int64) = Int64.ofInt 0 from by decide +kernel, i64_eq hz (by unfold i64; omega)] at q; omega) (by rw [i64_div hx hz h0 h1]; exact kk H locs ls hR hS hl)
theorem e_lrem (C : pCx g y cc nL ret d k n X) {x z : Int} (hd : decode cc pc = .ok (.lrem, 1)) (hx : i64 x) (hz : i64 z) (h0 : 0 ≤ x) (h1 : 0 < z) (kk : pE g nL X Qf S M cs sl (pc + 1) L (.inr (.inl (x % z)) :: st)) : pE g nL X Qf S M cs sl pc L (.inr (.inl z) :: .inr (.inl x) :: st) := by
  obtain ⟨p, l, e, R, s, m, args, below, meth, c⟩ := X
  intro H locs ls hR hS hl
  exact lv_lrem C.1 C.2.1 hd (fun q => by rw [show (0 : Int64) = Int64.ofInt 0 from by decide +kernel, i64_eq hz (by unfold i64; omega)] at q; omega) (by rw [i64_rem hx hz h0 h1]; exact kk H locs ls hR hS hl)
theorem e_i2l (C : pCx g y cc nL ret d k n X) {x : Int} (hd : decode cc pc = .ok (.i2l, 1)) (hx : i32 x) (kk : pE g nL X Qf S M cs sl (pc + 1) L (.inr (.inl x) :: st)) : pE g nL X Qf S M cs sl pc L (.inl x :: st) := by
  obtain ⟨p, l, e, R, s, m, args, below, meth, c⟩ := X
  intro H locs ls hR hS hl
  refine lv_i2l C.1 C.2.1 hd ?_ (kk H locs ls hR hS hl)
  rw [← Int64.toInt_inj, Int32.toInt_toInt64, i32_to hx, i64_to]
  unfold i32 at hx; unfold i64; omega
theorem e_l2i (C : pCx g y cc nL ret d k n X) {x : Int} (hd : decode cc pc = .ok (.l2i, 1)) (hx : i32 x) (kk : pE g nL X Qf S M cs sl (pc + 1) L (.inl x :: st)) : pE g nL X Qf S M cs sl pc L (.inr (.inl x) :: st) := by
  obtain ⟨p, l, e, R, s, m, args, below, meth, c⟩ := X
  intro H locs ls hR hS hl
  refine lv_l2i C.1 C.2.1 hd ?_ (kk H locs ls hR hS hl)
  rw [← Int32.toInt_inj, Int64.toInt_toInt32, i32_to hx, i64_to (by unfold i32 at hx; unfold i64; omega)]
  unfold i32 at hx; exact Int.bmod_eq_of_le_mul_two (by omega) (by omega)
theorem i32_and (a b : Nat) : Int32.ofInt (a : Int) &&& Int32.ofInt (b : Int) = Int32.ofInt ((a &&& b : Nat) : Int) := by
  rw [i32_nI, i32_nI, i32_nI]; unfold nI
  rw [← Int32.toBitVec_inj]; simp [Int32.toBitVec_and, Int32.toBitVec_ofNat']
theorem i32_or (a b : Nat) : Int32.ofInt (a : Int) ||| Int32.ofInt (b : Int) = Int32.ofInt ((a ||| b : Nat) : Int) := by
  rw [i32_nI, i32_nI, i32_nI]; unfold nI
  rw [← Int32.toBitVec_inj]; simp [Int32.toBitVec_or, Int32.toBitVec_ofNat']
theorem i32_sm : ∀ j, j < 32 → ((nI j &&& 31).toBitVec.smod 32).toNat = j := by decide +kernel
theorem e_iand (C : pCx g y cc nL ret d k n X) {a b : Nat} (hd : decode cc pc = .ok (.iand, 1)) (kk : pE g nL X Qf S M cs sl (pc + 1) L (.inl ((a &&& b : Nat) : Int) :: st)) : pE g nL X Qf S M cs sl pc L (.inl (b : Int) :: .inl (a : Int) :: st) := by
  obtain ⟨p, l, e, R, s, m, args, below, meth, c⟩ := X
  intro H locs ls hR hS hl
  exact lv_iand C.1 C.2.1 hd (by rw [i32_and]; exact kk H locs ls hR hS hl)
theorem e_ior (C : pCx g y cc nL ret d k n X) {a b : Nat} (hd : decode cc pc = .ok (.ior, 1)) (kk : pE g nL X Qf S M cs sl (pc + 1) L (.inl ((a ||| b : Nat) : Int) :: st)) : pE g nL X Qf S M cs sl pc L (.inl (b : Int) :: .inl (a : Int) :: st) := by
  obtain ⟨p, l, e, R, s, m, args, below, meth, c⟩ := X
  intro H locs ls hR hS hl
  exact lv_ior C.1 C.2.1 hd (by rw [i32_or]; exact kk H locs ls hR hS hl)
theorem e_ishl (C : pCx g y cc nL ret d k n X) {a b : Nat} (hd : decode cc pc = .ok (.ishl, 1)) (hb : b < 32) (h : a * 2 ^ b < 2 ^ 32) (kk : pE g nL X Qf S M cs sl (pc + 1) L (.inl ((a * 2 ^ b : Nat) : Int) :: st)) : pE g nL X Qf S M cs sl pc L (.inl (b : Int) :: .inl (a : Int) :: st) := by
  obtain ⟨p, l, e, R, s, m, args, below, meth, c⟩ := X
  intro H locs ls hR hS hl
  exact lv_ishl C.1 C.2.1 hd (by rw [i32_nI, i32_nI, pk_shlN _ b (i32_sm b hb) h, ← i32_nI]; exact kk H locs ls hR hS hl)
theorem e_ishr (C : pCx g y cc nL ret d k n X) {a b : Nat} (hd : decode cc pc = .ok (.ishr, 1)) (hb : b < 32) (h : a < 2 ^ 31) (kk : pE g nL X Qf S M cs sl (pc + 1) L (.inl ((a / 2 ^ b : Nat) : Int) :: st)) : pE g nL X Qf S M cs sl pc L (.inl (b : Int) :: .inl (a : Int) :: st) := by
  obtain ⟨p, l, e, R, s, m, args, below, meth, c⟩ := X
  intro H locs ls hR hS hl
  exact lv_ishr C.1 C.2.1 hd (by rw [i32_nI, i32_nI, pk_shrN h _ b (i32_sm b hb), ← i32_nI]; exact kk H locs ls hR hS hl)
theorem e_lcmp (C : pCx g y cc nL ret d k n X) {x z : Int} (hd : decode cc pc = .ok (.lcmp, 1)) (hx : i64 x) (hz : i64 z) (kk : pE g nL X Qf S M cs sl (pc + 1) L (.inl (if z < x then 1 else if x = z then 0 else -1) :: st)) : pE g nL X Qf S M cs sl pc L (.inr (.inl z) :: .inr (.inl x) :: st) := by
  obtain ⟨p, l, e, R, s, m, args, below, meth, c⟩ := X
  intro H locs ls hR hS hl
  refine W.lcmp C.1 C.2.1 hd ?_
  have h := kk H locs ls hR hS hl
  have e1 : lg_cmp (Int64.ofInt x) (Int64.ofInt z) = Int32.ofInt (if z < x then 1 else if x = z then 0 else -1) := by
    unfold lg_cmp
    simp only [gt_iff_lt, i64_lt hz hx, i64_eq hx hz]
    split
    · rfl
    · split <;> rfl
  rw [e1]; exact h
theorem e_dup (C : pCx g y cc nL ret d k n X) {v : pV} (hd : decode cc pc = .ok (.dup, 1)) (hv : (prv g v).category = 1 := by rfl) (kk : pE g nL X Qf S M cs sl (pc + 1) L (v :: v :: st)) : pE g nL X Qf S M cs sl pc L (v :: st) := by
  obtain ⟨p, l, e, R, s, m, args, below, meth, c⟩ := X
  intro H locs ls hR hS hl
  exact lv_dup C.1 C.2.1 hd hv (kk H locs ls hR hS hl)
theorem e_dup2 (C : pCx g y cc nL ret d k n X) {v w : pV} (hd : decode cc pc = .ok (.dup2, 1)) (hv : (prv g v).category = 1 := by rfl) (hw : (prv g w).category = 1 := by rfl) (kk : pE g nL X Qf S M cs sl (pc + 1) L (v :: w :: v :: w :: st)) : pE g nL X Qf S M cs sl pc L (v :: w :: st) := by
  obtain ⟨p, l, e, R, s, m, args, below, meth, c⟩ := X
  intro H locs ls hR hS hl
  exact lv_dup2_11 C.1 C.2.1 hd hv hw (kk H locs ls hR hS hl)
theorem e_pop (C : pCx g y cc nL ret d k n X) {v : pV} (hd : decode cc pc = .ok (.pop, 1)) (hv : (prv g v).category = 1 := by rfl) (kk : pE g nL X Qf S M cs sl (pc + 1) L st) : pE g nL X Qf S M cs sl pc L (v :: st) := by
  obtain ⟨p, l, e, R, s, m, args, below, meth, c⟩ := X
  intro H locs ls hR hS hl
  exact lv_pop C.1 C.2.1 hd hv (kk H locs ls hR hS hl)
theorem e_goto (C : pCx g y cc nL ret d k n X) {off : Int} {tgt : Nat} (hd : decode cc pc = .ok (.goto off, 3)) (ht : (pc : Int) + off = (tgt : Int) := by decide) (kk : pE g nL X Qf S M cs sl tgt L st) : pE g nL X Qf S M cs sl pc L st := by
  obtain ⟨p, l, e, R, s, m, args, below, meth, c⟩ := X
  intro H locs ls hR hS hl
  exact lv_goto C.1 C.2.1 hd ht (kk H locs ls hR hS hl)
theorem e_icmp_eq (C : pCx g y cc nL ret d k n X) {x z : Int} {off : Int} {tgt : Nat} (hd : decode cc pc = .ok (.if_icmp .eq off, 3)) (ht : (pc : Int) + off = (tgt : Int)) (hx : i32 x) (hz : i32 z) (kt : x = z → pE g nL X Qf S M cs sl tgt L st) (kf : ¬ (x = z) → pE g nL X Qf S M cs sl (pc + 3) L st) : pE g nL X Qf S M cs sl pc L (.inl z :: .inl x :: st) := by
  obtain ⟨p, l, e, R, s, m, args, below, meth, c⟩ := X
  intro H locs ls hR hS hl
  refine lv_icmp_eq C.1 C.2.1 hd ht (fun q => kt ?_ H locs ls hR hS hl) (fun q => kf ?_ H locs ls hR hS hl)
  · simp only [gt_iff_lt, ge_iff_le, ne_eq, i32_eq hx hz, i32_lt hx hz, i32_lt hz hx, i32_le hx hz, i32_le hz hx] at q ⊢; first | exact q | omega
  · simp only [gt_iff_lt, ge_iff_le, ne_eq, i32_eq hx hz, i32_lt hx hz, i32_lt hz hx, i32_le hx hz, i32_le hz hx] at q ⊢; first | exact q | omega
theorem e_icmp_ne (C : pCx g y cc nL ret d k n X) {x z : Int} {off : Int} {tgt : Nat} (hd : decode cc pc = .ok (.if_icmp .ne off, 3)) (ht : (pc : Int) + off = (tgt : Int)) (hx : i32 x) (hz : i32 z) (kt : x ≠ z → pE g nL X Qf S M cs sl tgt L st) (kf : ¬ (x ≠ z) → pE g nL X Qf S M cs sl (pc + 3) L st) : pE g nL X Qf S M cs sl pc L (.inl z :: .inl x :: st) := by
  obtain ⟨p, l, e, R, s, m, args, below, meth, c⟩ := X
  intro H locs ls hR hS hl
  refine lv_icmp_ne C.1 C.2.1 hd ht (fun q => kt ?_ H locs ls hR hS hl) (fun q => kf ?_ H locs ls hR hS hl)
  · simp only [gt_iff_lt, ge_iff_le, ne_eq, i32_eq hx hz, i32_lt hx hz, i32_lt hz hx, i32_le hx hz, i32_le hz hx] at q ⊢; first | exact q | omega
  · simp only [gt_iff_lt, ge_iff_le, ne_eq, i32_eq hx hz, i32_lt hx hz, i32_lt hz hx, i32_le hx hz, i32_le hz hx] at q ⊢; first | exact q | omega
theorem e_icmp_lt (C : pCx g y cc nL ret d k n X) {x z : Int} {off : Int} {tgt : Nat} (hd : decode cc pc = .ok (.if_icmp .lt off, 3)) (ht : (pc : Int) + off = (tgt : Int)) (hx : i32 x) (hz : i32 z) (kt : x < z → pE g nL X Qf S M cs sl tgt L st) (kf : ¬ (x < z) → pE g nL X Qf S M cs sl (pc + 3) L st) : pE g nL X Qf S M cs sl pc L (.inl z :: .inl x :: st) := by
  obtain ⟨p, l, e, R, s, m, args, below, meth, c⟩ := X
  intro H locs ls hR hS hl
  refine lv_icmp_lt C.1 C.2.1 hd ht (fun q => kt ?_ H locs ls hR hS hl) (fun q => kf ?_ H locs ls hR hS hl)
  · simp only [gt_iff_lt, ge_iff_le, ne_eq, i32_eq hx hz, i32_lt hx hz, i32_lt hz hx, i32_le hx hz, i32_le hz hx] at q ⊢; first | exact q | omega
  · simp only [gt_iff_lt, ge_iff_le, ne_eq, i32_eq hx hz, i32_lt hx hz, i32_lt hz hx, i32_le hx hz, i32_le hz hx] at q ⊢; first | exact q | omega
theorem e_icmp_ge (C : pCx g y cc nL ret d k n X) {x z : Int} {off : Int} {tgt : Nat} (hd : decode cc pc = .ok (.if_icmp .ge off, 3)) (ht : (pc : Int) + off = (tgt : Int)) (hx : i32 x) (hz : i32 z) (kt : z ≤ x → pE g nL X Qf S M cs sl tgt L st) (kf : ¬ (z ≤ x) → pE g nL X Qf S M cs sl (pc + 3) L st) : pE g nL X Qf S M cs sl pc L (.inl z :: .inl x :: st) := by
  obtain ⟨p, l, e, R, s, m, args, below, meth, c⟩ := X
  intro H locs ls hR hS hl
  refine lv_icmp_ge C.1 C.2.1 hd ht (fun q => kt ?_ H locs ls hR hS hl) (fun q => kf ?_ H locs ls hR hS hl)
  · simp only [gt_iff_lt, ge_iff_le, ne_eq, i32_eq hx hz, i32_lt hx hz, i32_lt hz hx, i32_le hx hz, i32_le hz hx] at q ⊢; first | exact q | omega
  · simp only [gt_iff_lt, ge_iff_le, ne_eq, i32_eq hx hz, i32_lt hx hz, i32_lt hz hx, i32_le hx hz, i32_le hz hx] at q ⊢; first | exact q | omega
theorem e_icmp_gt (C : pCx g y cc nL ret d k n X) {x z : Int} {off : Int} {tgt : Nat} (hd : decode cc pc = .ok (.if_icmp .gt off, 3)) (ht : (pc : Int) + off = (tgt : Int)) (hx : i32 x) (hz : i32 z) (kt : z < x → pE g nL X Qf S M cs sl tgt L st) (kf : ¬ (z < x) → pE g nL X Qf S M cs sl (pc + 3) L st) : pE g nL X Qf S M cs sl pc L (.inl z :: .inl x :: st) := by
  obtain ⟨p, l, e, R, s, m, args, below, meth, c⟩ := X
  intro H locs ls hR hS hl
  refine lv_icmp_gt C.1 C.2.1 hd ht (fun q => kt ?_ H locs ls hR hS hl) (fun q => kf ?_ H locs ls hR hS hl)
  · simp only [gt_iff_lt, ge_iff_le, ne_eq, i32_eq hx hz, i32_lt hx hz, i32_lt hz hx, i32_le hx hz, i32_le hz hx] at q ⊢; first | exact q | omega
  · simp only [gt_iff_lt, ge_iff_le, ne_eq, i32_eq hx hz, i32_lt hx hz, i32_lt hz hx, i32_le hx hz, i32_le hz hx] at q ⊢; first | exact q | omega
theorem e_icmp_le (C : pCx g y cc nL ret d k n X) {x z : Int} {off : Int} {tgt : Nat} (hd : decode cc pc = .ok (.if_icmp .le off, 3)) (ht : (pc : Int) + off = (tgt : Int)) (hx : i32 x) (hz : i32 z) (kt : x ≤ z → pE g nL X Qf S M cs sl tgt L st) (kf : ¬ (x ≤ z) → pE g nL X Qf S M cs sl (pc + 3) L st) : pE g nL X Qf S M cs sl pc L (.inl z :: .inl x :: st) := by
  obtain ⟨p, l, e, R, s, m, args, below, meth, c⟩ := X
  intro H locs ls hR hS hl
  refine lv_icmp_le C.1 C.2.1 hd ht (fun q => kt ?_ H locs ls hR hS hl) (fun q => kf ?_ H locs ls hR hS hl)
  · simp only [gt_iff_lt, ge_iff_le, ne_eq, i32_eq hx hz, i32_lt hx hz, i32_lt hz hx, i32_le hx hz, i32_le hz hx] at q ⊢; first | exact q | omega
  · simp only [gt_iff_lt, ge_iff_le, ne_eq, i32_eq hx hz, i32_lt hx hz, i32_lt hz hx, i32_le hx hz, i32_le hz hx] at q ⊢; first | exact q | omega
theorem e_if_eq (C : pCx g y cc nL ret d k n X) {x : Int} {off : Int} {tgt : Nat} (hd : decode cc pc = .ok (.ifCond .eq off, 3)) (ht : (pc : Int) + off = (tgt : Int)) (hx : i32 x) (kt : x = 0 → pE g nL X Qf S M cs sl tgt L st) (kf : ¬ (x = 0) → pE g nL X Qf S M cs sl (pc + 3) L st) : pE g nL X Qf S M cs sl pc L (.inl x :: st) := by
  obtain ⟨p, l, e, R, s, m, args, below, meth, c⟩ := X
  intro H locs ls hR hS hl
  have hz : i32 0 := by unfold i32; omega
  refine lv_if_eq C.1 C.2.1 hd ht (fun q => kt ?_ H locs ls hR hS hl) (fun q => kf ?_ H locs ls hR hS hl)
  · simp only [← i32_0, gt_iff_lt, ge_iff_le, ne_eq, i32_eq hx hz, i32_lt hx hz, i32_lt hz hx, i32_le hx hz, i32_le hz hx] at q ⊢; first | exact q | omega
  · simp only [← i32_0, gt_iff_lt, ge_iff_le, ne_eq, i32_eq hx hz, i32_lt hx hz, i32_lt hz hx, i32_le hx hz, i32_le hz hx] at q ⊢; first | exact q | omega
theorem e_if_ne (C : pCx g y cc nL ret d k n X) {x : Int} {off : Int} {tgt : Nat} (hd : decode cc pc = .ok (.ifCond .ne off, 3)) (ht : (pc : Int) + off = (tgt : Int)) (hx : i32 x) (kt : x ≠ 0 → pE g nL X Qf S M cs sl tgt L st) (kf : ¬ (x ≠ 0) → pE g nL X Qf S M cs sl (pc + 3) L st) : pE g nL X Qf S M cs sl pc L (.inl x :: st) := by
  obtain ⟨p, l, e, R, s, m, args, below, meth, c⟩ := X
  intro H locs ls hR hS hl
  have hz : i32 0 := by unfold i32; omega
  refine lv_if_ne C.1 C.2.1 hd ht (fun q => kt ?_ H locs ls hR hS hl) (fun q => kf ?_ H locs ls hR hS hl)
  · simp only [← i32_0, gt_iff_lt, ge_iff_le, ne_eq, i32_eq hx hz, i32_lt hx hz, i32_lt hz hx, i32_le hx hz, i32_le hz hx] at q ⊢; first | exact q | omega
  · simp only [← i32_0, gt_iff_lt, ge_iff_le, ne_eq, i32_eq hx hz, i32_lt hx hz, i32_lt hz hx, i32_le hx hz, i32_le hz hx] at q ⊢; first | exact q | omega
theorem e_if_lt (C : pCx g y cc nL ret d k n X) {x : Int} {off : Int} {tgt : Nat} (hd : decode cc pc = .ok (.ifCond .lt off, 3)) (ht : (pc : Int) + off = (tgt : Int)) (hx : i32 x) (kt : x < 0 → pE g nL X Qf S M cs sl tgt L st) (kf : ¬ (x < 0) → pE g nL X Qf S M cs sl (pc + 3) L st) : pE g nL X Qf S M cs sl pc L (.inl x :: st) := by
  obtain ⟨p, l, e, R, s, m, args, below, meth, c⟩ := X
  intro H locs ls hR hS hl
  have hz : i32 0 := by unfold i32; omega
  refine lv_if_lt C.1 C.2.1 hd ht (fun q => kt ?_ H locs ls hR hS hl) (fun q => kf ?_ H locs ls hR hS hl)
  · simp only [← i32_0, gt_iff_lt, ge_iff_le, ne_eq, i32_eq hx hz, i32_lt hx hz, i32_lt hz hx, i32_le hx hz, i32_le hz hx] at q ⊢; first | exact q | omega
  · simp only [← i32_0, gt_iff_lt, ge_iff_le, ne_eq, i32_eq hx hz, i32_lt hx hz, i32_lt hz hx, i32_le hx hz, i32_le hz hx] at q ⊢; first | exact q | omega
theorem e_if_ge (C : pCx g y cc nL ret d k n X) {x : Int} {off : Int} {tgt : Nat} (hd : decode cc pc = .ok (.ifCond .ge off, 3)) (ht : (pc : Int) + off = (tgt : Int)) (hx : i32 x) (kt : 0 ≤ x → pE g nL X Qf S M cs sl tgt L st) (kf : ¬ (0 ≤ x) → pE g nL X Qf S M cs sl (pc + 3) L st) : pE g nL X Qf S M cs sl pc L (.inl x :: st) := by
  obtain ⟨p, l, e, R, s, m, args, below, meth, c⟩ := X
  intro H locs ls hR hS hl
  have hz : i32 0 := by unfold i32; omega
  refine lv_if_ge C.1 C.2.1 hd ht (fun q => kt ?_ H locs ls hR hS hl) (fun q => kf ?_ H locs ls hR hS hl)
  · simp only [← i32_0, gt_iff_lt, ge_iff_le, ne_eq, i32_eq hx hz, i32_lt hx hz, i32_lt hz hx, i32_le hx hz, i32_le hz hx] at q ⊢; first | exact q | omega
  · simp only [← i32_0, gt_iff_lt, ge_iff_le, ne_eq, i32_eq hx hz, i32_lt hx hz, i32_lt hz hx, i32_le hx hz, i32_le hz hx] at q ⊢; first | exact q | omega
theorem e_if_gt (C : pCx g y cc nL ret d k n X) {x : Int} {off : Int} {tgt : Nat} (hd : decode cc pc = .ok (.ifCond .gt off, 3)) (ht : (pc : Int) + off = (tgt : Int)) (hx : i32 x) (kt : 0 < x → pE g nL X Qf S M cs sl tgt L st) (kf : ¬ (0 < x) → pE g nL X Qf S M cs sl (pc + 3) L st) : pE g nL X Qf S M cs sl pc L (.inl x :: st) := by
  obtain ⟨p, l, e, R, s, m, args, below, meth, c⟩ := X
  intro H locs ls hR hS hl
  have hz : i32 0 := by unfold i32; omega
  refine lv_if_gt C.1 C.2.1 hd ht (fun q => kt ?_ H locs ls hR hS hl) (fun q => kf ?_ H locs ls hR hS hl)
  · simp only [← i32_0, gt_iff_lt, ge_iff_le, ne_eq, i32_eq hx hz, i32_lt hx hz, i32_lt hz hx, i32_le hx hz, i32_le hz hx] at q ⊢; first | exact q | omega
  · simp only [← i32_0, gt_iff_lt, ge_iff_le, ne_eq, i32_eq hx hz, i32_lt hx hz, i32_lt hz hx, i32_le hx hz, i32_le hz hx] at q ⊢; first | exact q | omega
theorem e_if_le (C : pCx g y cc nL ret d k n X) {x : Int} {off : Int} {tgt : Nat} (hd : decode cc pc = .ok (.ifCond .le off, 3)) (ht : (pc : Int) + off = (tgt : Int)) (hx : i32 x) (kt : x ≤ 0 → pE g nL X Qf S M cs sl tgt L st) (kf : ¬ (x ≤ 0) → pE g nL X Qf S M cs sl (pc + 3) L st) : pE g nL X Qf S M cs sl pc L (.inl x :: st) := by
  obtain ⟨p, l, e, R, s, m, args, below, meth, c⟩ := X
  intro H locs ls hR hS hl
  have hz : i32 0 := by unfold i32; omega
  refine lv_if_le C.1 C.2.1 hd ht (fun q => kt ?_ H locs ls hR hS hl) (fun q => kf ?_ H locs ls hR hS hl)
  · simp only [← i32_0, gt_iff_lt, ge_iff_le, ne_eq, i32_eq hx hz, i32_lt hx hz, i32_lt hz hx, i32_le hx hz, i32_le hz hx] at q ⊢; first | exact q | omega
  · simp only [← i32_0, gt_iff_lt, ge_iff_le, ne_eq, i32_eq hx hz, i32_lt hx hz, i32_lt hz hx, i32_le hx hz, i32_le hz hx] at q ⊢; first | exact q | omega
theorem e_tabIn (C : pCx g y cc nL ret d k n X) {dflt lo hi off x : Int} {offs : Array Int} {len tgt : Nat} (hd : decode cc pc = .ok (.tableswitch dflt lo hi offs, len)) (hx : i32 x) (h1 : ¬ x < lo) (h2 : ¬ hi < x) (ho : offs[(x - lo).toNat]? = some off) (ht : (pc : Int) + off = (tgt : Int)) (kk : pE g nL X Qf S M cs sl tgt L st) : pE g nL X Qf S M cs sl pc L (.inl x :: st) := by
  obtain ⟨p, l, e, R, s, m, args, below, meth, c⟩ := X
  intro H locs ls hR hS hl
  exact lv_tableIn C.1 C.2.1 hd (by rw [i32_to hx]; exact h1) (by rw [i32_to hx]; exact h2) (by rw [i32_to hx]; exact ho) ht (kk H locs ls hR hS hl)
theorem e_tabOut (C : pCx g y cc nL ret d k n X) {dflt lo hi x : Int} {offs : Array Int} {len tgt : Nat} (hd : decode cc pc = .ok (.tableswitch dflt lo hi offs, len)) (hx : i32 x) (h1 : x < lo ∨ hi < x) (ht : (pc : Int) + dflt = (tgt : Int)) (kk : pE g nL X Qf S M cs sl tgt L st) : pE g nL X Qf S M cs sl pc L (.inl x :: st) := by
  obtain ⟨p, l, e, R, s, m, args, below, meth, c⟩ := X
  intro H locs ls hR hS hl
  exact lv_tableOut C.1 C.2.1 hd (by rw [i32_to hx]; exact h1) ht (kk H locs ls hR hS hl)
theorem e_lookup (C : pCx g y cc nL ret d k n X) {dflt off x : Int} {ps : Array (Int × Int)} {len tgt : Nat} (hd : decode cc pc = .ok (.lookupswitch dflt ps, len)) (hx : i32 x) (hp : (ps.toList.zip (ps.toList.drop 1)).all (fun (a, next) => a.1 < next.1) = true) (ho : Op.lookupswitch.offset ps.toList dflt x = off) (ht : (pc : Int) + off = (tgt : Int)) (kk : pE g nL X Qf S M cs sl tgt L st) : pE g nL X Qf S M cs sl pc L (.inl x :: st) := by
  obtain ⟨p, l, e, R, s, m, args, below, meth, c⟩ := X
  intro H locs ls hR hS hl
  exact lv_lookup C.1 C.2.1 hd hp (by rw [i32_to hx]; exact ho) ht (kk H locs ls hR hS hl)
theorem e_ireturn {Q : Option pV → pMem → Prop} {z : Int} (C : pCx g y cc nL (some .int) d k n X) (hd : decode cc pc = .ok (.ireturn, 1)) (hq : Q (some (.inl z)) M) : pE g nL X (pMQ g S Q X cs sl) S M cs sl pc L [.inl z] := by
  obtain ⟨p, l, e, R, s, m, args, below, meth, c⟩ := X
  intro H locs ls hR hS hl
  refine W.iret C.1 C.2.1 C.2.2.2.2.2.2.2.2.2.2.1 (fun t ht hW => ⟨some (.inl z), M, rfl, hq, by rw [ht]; exact hR, hS.F ht⟩) hS.2.2 hd C.2.2.2.2.2.2.2.2.2.1
theorem e_zreturn {Q : Option pV → pMem → Prop} {z : Int} (C : pCx g y cc nL (some .boolean) d k n X) (hd : decode cc pc = .ok (.ireturn, 1)) (hz : z = 0 ∨ z = 1) (hq : Q (some (.inl z)) M) : pE g nL X (pMQ g S Q X cs sl) S M cs sl pc L [.inl z] := by
  obtain ⟨p, l, e, R, s, m, args, below, meth, c⟩ := X
  intro H locs ls hR hS hl
  refine W.zret C.1 C.2.1 C.2.2.2.2.2.2.2.2.2.2.1 (by rcases hz with rfl | rfl <;> decide +kernel) (fun t ht hW => ⟨some (.inl z), M, rfl, hq, by rw [ht]; exact hR, hS.F ht⟩) hS.2.2 hd C.2.2.2.2.2.2.2.2.2.1
theorem e_lreturn {Q : Option pV → pMem → Prop} {z : Int} (C : pCx g y cc nL (some .long) d k n X) (hd : decode cc pc = .ok (.lreturn, 1)) (hq : Q (some (.inr (.inl z))) M) : pE g nL X (pMQ g S Q X cs sl) S M cs sl pc L [.inr (.inl z)] := by
  obtain ⟨p, l, e, R, s, m, args, below, meth, c⟩ := X
  intro H locs ls hR hS hl
  refine W.lret C.1 C.2.1 C.2.2.2.2.2.2.2.2.2.2.1 (fun t ht hW => ⟨some (.inr (.inl z)), M, rfl, hq, by rw [ht]; exact hR, hS.F ht⟩) hS.2.2 hd C.2.2.2.2.2.2.2.2.2.1
theorem e_return {Q : Option pV → pMem → Prop} (C : pCx g y cc nL none d k n X) (hd : decode cc pc = .ok (.return_, 1)) (hq : Q none M) : pE g nL X (pMQ g S Q X cs sl) S M cs sl pc L [] := by
  obtain ⟨p, l, e, R, s, m, args, below, meth, c⟩ := X
  intro H locs ls hR hS hl
  refine W.vret C.1 C.2.1 C.2.2.2.2.2.2.2.2.2.2.1 (fun t ht hW => ⟨none, M, rfl, hq, by rw [ht]; exact hR, hS.F ht⟩) hS.2.2 hd C.2.2.2.2.2.2.2.2.2.1
end PR
end
section
section PM
variable {g : pG} {y : MethodName} {cc : ByteArray} {nL : Nat} {ret : Option FieldType} {d k n : Nat} {X : pX} {Qf : State → Prop} {S : List pShp} {M : pMem} {cs sl pc : Nat} {L : List (Option pV)} {st : List pV}
theorem pwd_get (a : Nat) : (pwd g S M)[a]? = (S[a]?).map (fun sh => (pad g a, pent g M sh a)) := by
  unfold pwd; rw [List.getElem?_mapIdx]
theorem pwd_at {a : Nat} {sh : pShp} (h : S[a]? = some sh) : (pwd g S M)[a]? = some (pad g a, pent g M sh a) := by rw [pwd_get, h]; rfl
theorem pad_lt {a : Nat} (h : a < 1000000) : pad g a = g.2.2.2.1 + a := by unfold pad; rw [if_neg (by omega), if_neg (by omega)]
theorem pwd_D (h : S.length ≤ 1000) : va_D (pA g) (pwd g S M) := by
  refine ⟨fun i j p q hi hj e => ?_, fun i q hi => ?_⟩
  · rw [pwd_get] at hi hj
    obtain ⟨x, hx, rfl⟩ := Option.map_eq_some_iff.mp hi
    obtain ⟨z, hz, rfl⟩ := Option.map_eq_some_iff.mp hj
    have h1 := (List.getElem?_eq_some_iff.mp hx).1
    have h2 := (List.getElem?_eq_some_iff.mp hz).1
    dsimp only at e
    rw [pad_lt (by omega), pad_lt (by omega)] at e
    omega
  · rw [pwd_get] at hi
    obtain ⟨x, hx, rfl⟩ := Option.map_eq_some_iff.mp hi
    have h1 := (List.getElem?_eq_some_iff.mp hx).1
    show g.2.2.2.1 ≤ pad g i
    rw [pad_lt (by omega)]
    omega
theorem pwd_set {M' : pMem} {a : Nat} {sh : pShp} (h : S[a]? = some sh) (ho : ∀ b sh', b ≠ a → pent g M' sh' b = pent g M sh' b) : (pwd g S M).set a (pad g a, pent g M' sh a) = pwd g S M' := by
  apply List.ext_getElem?
  intro b
  rw [List.getElem?_set]
  split
  · next q =>
    subst q
    rw [pwd_at h]
    have h1 := (List.getElem?_eq_some_iff.mp h).1
    rw [if_pos (by unfold pwd; rw [List.length_mapIdx]; exact h1)]
  · next q =>
    rw [pwd_get, pwd_get]
    cases S[b]? with
    | none => rfl
    | some sh' => simp only [Option.map_some, Option.some.injEq, Prod.mk.injEq, true_and]; exact (ho b sh' (fun e => q e.symm)).symm
theorem pent_o {M M' : pMem} {b : Nat} (h1 : ∀ j, mI M' b j = mI M b j) (h2 : ∀ j, mL M' b j = mL M b j) (h3 : ∀ j, mR M' b j = mR M b j) (sh : pShp) : pent g M' sh b = pent g M sh b := by
  unfold pent
  cases sh with
  | inl ci =>
    have e1 : pfv g ci M' b = pfv g ci M b := by funext j; unfold pfv; rw [h1, h2, h3]
    simp only [e1]
  | inr tn =>
    have e1 : parr g tn.1 M' b = parr g tn.1 M b := by
      unfold parr
      have f1 : mI M' b = mI M b := funext h1
      have f2 : mL M' b = mL M b := funext h2
      have f3 : mR M' b = mR M b := funext h3
      simp only [f1, f2, f3]
    simp only [e1]
theorem stI_o {a i : Nat} {v : Int} (b : Nat) (sh : pShp) (h : b ≠ a) : pent g (stI M a i v) sh b = pent g M sh b := pent_o (M := M) (M' := stI M a i v) (fun j => by simp [mI, stI, h]) (fun j => rfl) (fun j => rfl) sh
theorem stL_o {a i : Nat} {v : Int} (b : Nat) (sh : pShp) (h : b ≠ a) : pent g (stL M a i v) sh b = pent g M sh b := pent_o (M := M) (M' := stL M a i v) (fun j => rfl) (fun j => by simp [mL, stL, h]) (fun j => rfl) sh
theorem stR_o {a i v : Nat} (b : Nat) (sh : pShp) (h : b ≠ a) : pent g (stR M a i v) sh b = pent g M sh b := pent_o (M := M) (M' := stR M a i v) (fun j => rfl) (fun j => rfl) (fun j => by simp [mR, stR, h]) sh
theorem pfs_set {ci a j : Nat} {M' : pMem} {v : Value} (hj : j < pnF ci) (h1 : pfv g ci M' a j = v) (h2 : ∀ i, i ≠ j → pfv g ci M' a i = pfv g ci M a i) : ((List.range (pnF ci)).map (pfv g ci M a)).set j v = (List.range (pnF ci)).map (pfv g ci M' a) := by
  apply List.ext_getElem?
  intro b
  rw [List.getElem?_set]
  split
  · next q => subst q; simp [hj, h1]
  · next q =>
    simp only [List.getElem?_map]
    cases hb : (List.range (pnF ci))[b]? with
    | none => rfl
    | some x =>
      have e1 : x = b := by
        have := List.getElem?_eq_some_iff.mp hb
        obtain ⟨w, hw⟩ := this
        simpa using hw.symm
      subst e1
      simp only [Option.map_some, h2 x (fun e => q e.symm)]
/-- a class as the tables have it -/
def pCl (ci : Nat) (C : String) (T : u_T) : Prop := classes[ci]? = some (C, T, pnF ci) ∧ (∀ w ∈ u_ws C T (pnF ci), w ∈ pgood) ∧ (∀ j, j < pnF ci → parseFieldDescriptor (T j).2.2.1 = some (pty ci j)) ∧ (∀ a, a < pnF ci → ∀ b, b < pnF ci → a ≠ b → (T a).2.1 ≠ (T b).2.1) ∧ (∀ j, j < pnF ci → (T j).1 = C)
/-- a field as a method's class links it -/
def pFl (own : String) (i ci j : Nat) : Prop := ∃ (C : String) (T : u_T), pCl ci C T ∧ j < pnF ci ∧ Cond.fieldLink own i (T j).1 (T j).2.1 (T j).2.2.1 ∈ pgood
theorem pfv_I {ci j a : Nat} (hk : pfk ci j ≠ 1 ∧ pfk ci j ≠ 3) : pfv g ci M a j = .int (Int32.ofInt (mI M a j)) := by
  unfold pfv
  split
  · next h => exact absurd h hk.1
  · next h => exact absurd h hk.2
  · rfl
theorem pfv_L {ci j a : Nat} (hk : pfk ci j = 1) : pfv g ci M a j = .long (Int64.ofInt (mL M a j)) := by unfold pfv; simp only [hk]
theorem pfv_R {ci j a : Nat} (hk : pfk ci j = 3) : pfv g ci M a j = va_rf ((mR M a j).map (pad g)) := by unfold pfv; simp only [hk]
theorem pRel_len {H : Heap} (h : pRel g S M H) : S.length ≤ 1000 := h.2.2
theorem pRel_H {H H1 : Heap} {ws : va_W} {locs : List Loc} {s : State} {M' : pMem} (h : pRel g S M H) (hw : ws = pwd g S M') (hP : va_P (g.1, g.2.1) classes ws H1) (hz : H1.size = H.size) : pRel g S M' H1 := ⟨hw ▸ hP, by rw [hz]; exact h.2.1, h.2.2⟩
theorem e_getI (C : pCx g y cc nL ret d k n X) {i ci j a : Nat} (hf : pFl y.cls i ci j) (hs : S[a]? = some (.inl ci)) (hd : decode cc pc = .ok (.getfield i, 3)) (kk : pE g nL X Qf S M cs sl (pc + 3) L (.inl (mI M a j) :: st)) (hk : pfk ci j ≠ 1 ∧ pfk ci j ≠ 3 := by decide) : pE g nL X Qf S M cs sl pc L (.inr (.inr a) :: st) := by
  obtain ⟨p, l, e, R, s, m, args, below, meth, c⟩ := X
  intro H locs ls hR hS hl
  obtain ⟨CC, T, ⟨c1, c2, c3, c4, c5⟩, h1, h2⟩ := hf
  have hv : pfv g ci M a j = prv g (.inl (mI M a j)) := (fun hk => pfv_I hk : pfk ci j ≠ 1 ∧ pfk ci j ≠ 3 → pfv g ci M a j = prv g (.inl (mI M a j))) hk
  refine va_get C.1 C.2.1 C.2.2.2.2.1 c2 C.2.2.2.1 C.2.2.2.2.2.1 hR.1 a (pwd_at hs) c1 j h1 (C.2.2.2.2.1 _ h2) (fun _ h => h) (v := prv g (.inl (mI M a j))) ?_ hd (kk H locs ls hR hS hl)
  rw [← hv]; simp [h1]
theorem e_getL (C : pCx g y cc nL ret d k n X) {i ci j a : Nat} (hf : pFl y.cls i ci j) (hs : S[a]? = some (.inl ci)) (hd : decode cc pc = .ok (.getfield i, 3)) (kk : pE g nL X Qf S M cs sl (pc + 3) L (.inr (.inl (mL M a j)) :: st)) (hk : pfk ci j = 1 := by decide) : pE g nL X Qf S M cs sl pc L (.inr (.inr a) :: st) := by
  obtain ⟨p, l, e, R, s, m, args, below, meth, c⟩ := X
  intro H locs ls hR hS hl
  obtain ⟨CC, T, ⟨c1, c2, c3, c4, c5⟩, h1, h2⟩ := hf
  have hv : pfv g ci M a j = prv g (.inr (.inl (mL M a j))) := (fun hk => pfv_L hk : pfk ci j = 1 → pfv g ci M a j = prv g (.inr (.inl (mL M a j)))) hk
  refine va_get C.1 C.2.1 C.2.2.2.2.1 c2 C.2.2.2.1 C.2.2.2.2.2.1 hR.1 a (pwd_at hs) c1 j h1 (C.2.2.2.2.1 _ h2) (fun _ h => h) (v := prv g (.inr (.inl (mL M a j)))) ?_ hd (kk H locs ls hR hS hl)
  rw [← hv]; simp [h1]
theorem e_getR (C : pCx g y cc nL ret d k n X) {i ci j a b : Nat} (hf : pFl y.cls i ci j) (hs : S[a]? = some (.inl ci)) (hb : mR M a j = some b) (hd : decode cc pc = .ok (.getfield i, 3)) (kk : pE g nL X Qf S M cs sl (pc + 3) L (.inr (.inr b) :: st)) (hk : pfk ci j = 3 := by decide) : pE g nL X Qf S M cs sl pc L (.inr (.inr a) :: st) := by
  obtain ⟨p, l, e, R, s, m, args, below, meth, c⟩ := X
  intro H locs ls hR hS hl
  obtain ⟨CC, T, ⟨c1, c2, c3, c4, c5⟩, h1, h2⟩ := hf
  have hv : pfv g ci M a j = prv g (.inr (.inr b)) := by rw [pfv_R hk, hb]; rfl
  refine va_get C.1 C.2.1 C.2.2.2.2.1 c2 C.2.2.2.1 C.2.2.2.2.2.1 hR.1 a (pwd_at hs) c1 j h1 (C.2.2.2.2.1 _ h2) (fun _ h => h) (v := prv g (.inr (.inr b))) ?_ hd (kk H locs ls hR hS hl)
  rw [← hv]; simp [h1]
theorem pRel_set {a : Nat} {sh : pShp} {M' : pMem} {H H1 : Heap} (hR : pRel g S M H) (hs : S[a]? = some sh) (ho : ∀ b sh', b ≠ a → pent g M' sh' b = pent g M sh' b) (he : va_at (g.1, g.2.1) classes (pad g a, pent g M' sh a) H1) (z : H1.size = H.size) (oq : ∀ q : Nat, q ≠ pad g a → H1[q]? = H[q]?) : pRel g S M' H1 := by
  refine ⟨?_, by rw [z]; exact hR.2.1, hR.2.2⟩
  rw [← pwd_set hs ho]
  exact hR.1.set (pwd_D hR.2.2) (pwd_at hs) he oq
theorem pA_at {a : Nat} {sh : pShp} {H : Heap} (hR : pRel g S M H) (hs : S[a]? = some sh) : pA g (pad g a) := (pwd_D (M := M) hR.2.2).2 a _ (pwd_at hs)
theorem pfs_V {ci a j : Nat} {M' : pMem} {v : Value} (hj : j < pnF ci) (h1 : pfv g ci M' a j = v) (h2 : ∀ i, i ≠ j → pfv g ci M' a i = pfv g ci M a i) (q : Nat) : updV (vp_V ((List.range (pnF ci)).map (pfv g ci M a))) j v q = vp_V ((List.range (pnF ci)).map (pfv g ci M' a)) q := by
  rw [vp_updV_set (by simp [hj]), pfs_set hj h1 h2]
theorem e_putI (C : pCx g y cc nL ret d k n X) {i ci j a : Nat} {v : Int} (hf : pFl y.cls i ci j) (hs : S[a]? = some (.inl ci)) (hty : pty ci j = .int := by rfl) (hd : decode cc pc = .ok (.putfield i, 3)) (hfin : ∀ (CC : String) (T : u_T), pCl ci CC T → (T j).2.2.2 = false) (kk : pE g nL X Qf S (stI M a j v) cs sl (pc + 3) L st) (hk : pfk ci j = 0 := by decide) : pE g nL X Qf S M cs sl pc L (.inl v :: .inr (.inr a) :: st) := by
  obtain ⟨p, l, e, R, s, m, args, below, meth, c⟩ := X
  intro H locs ls hR hS hl
  obtain ⟨CC, T, hcl, h1, h2⟩ := hf
  have hfin := hfin CC T hcl
  obtain ⟨c1, c2, c3, c4, c5⟩ := hcl
  have hK := C.2.2.2.2.2.1
  have hts := C.2.2.2.2.1
  have hap := va_apart (own := y.cls) hts c2 (pty ci) c3 c4 hK c1
  obtain ⟨r, h3, cell, q1, q2, q3, q4⟩ := hR.1 a _ (pwd_at hs)
  have hr : r = (CC, T, pnF ci) := Option.some.inj (h3.symm.trans c1)
  subst hr
  obtain ⟨hSl, hfc, kC, hkC, hkind⟩ := hK.1 ci _ c1
  obtain ⟨cf, kf, fi, f, hi, hsl⟩ := hSl j h1
  have hlay := hts _ (c2 _ (u_in_lay h1))
  unfold u_lay at hlay
  have hst := (u_facts hfc hkC (u_lays hts c2 h1) hi).1
  have hv : pfv g ci (stI M a j v) a j = prv g (.inl v) := by rw [pfv_I (by omega)]; simp [mI, stI, prv]
  have ho : ∀ i, i ≠ j → pfv g ci (stI M a j v) a i = pfv g ci M a i := fun i hi => by unfold pfv; simp only [mI, mL, mR, stI, hi, and_false, if_false]
  rw [if_neg (by rw [hfin]; decide)] at hlay
  have h6 := u_store hfc hkC hkind hlay hi (c3 j h1) (v := prv g (.inl v)) (by rw [hty]; rfl) (by rw [hty]; rfl)
  refine W.putK C.1 C.2.1 (f := f) ⟨C.2.2.2.1, C.2.2.2.2.1 _ h2, ⟨_, _, _, hi⟩, hst⟩ (by rw [q2]; exact h6) q1 q3 (by rw [hsl]; exact k2_hasslot (q4 j h1)) rfl rfl hd fun H' e1 e2 e3 => ?_
  rw [hsl] at e1 ⊢
  exact kk H' _ ls (pRel_set hR hs (fun b sh hb => stI_o b sh hb) ⟨_, c1, t_OB.to (V := updV (vp_V ((List.range (pnF ci)).map (pfv g ci M a))) j (prv g (.inl v))) ⟨_, e1, q2, q3, t_set q4 hap h1 _⟩ (fun q _ => pfs_V h1 hv ho q)⟩ e2 e3) (hS.put e2 e3 (pA_at hR hs)) hl
theorem e_putZ (C : pCx g y cc nL ret d k n X) {i ci j a : Nat} {v : Int} (hf : pFl y.cls i ci j) (hs : S[a]? = some (.inl ci)) (hz : v = 0 ∨ v = 1) (hty : pty ci j = .boolean := by rfl) (hd : decode cc pc = .ok (.putfield i, 3)) (hfin : ∀ (CC : String) (T : u_T), pCl ci CC T → (T j).2.2.2 = false) (kk : pE g nL X Qf S (stI M a j v) cs sl (pc + 3) L st) (hk : pfk ci j = 2 := by decide) : pE g nL X Qf S M cs sl pc L (.inl v :: .inr (.inr a) :: st) := by
  obtain ⟨p, l, e, R, s, m, args, below, meth, c⟩ := X
  intro H locs ls hR hS hl
  obtain ⟨CC, T, hcl, h1, h2⟩ := hf
  have hfin := hfin CC T hcl
  obtain ⟨c1, c2, c3, c4, c5⟩ := hcl
  have hK := C.2.2.2.2.2.1
  have hts := C.2.2.2.2.1
  have hap := va_apart (own := y.cls) hts c2 (pty ci) c3 c4 hK c1
  obtain ⟨r, h3, cell, q1, q2, q3, q4⟩ := hR.1 a _ (pwd_at hs)
  have hr : r = (CC, T, pnF ci) := Option.some.inj (h3.symm.trans c1)
  subst hr
  obtain ⟨hSl, hfc, kC, hkC, hkind⟩ := hK.1 ci _ c1
  obtain ⟨cf, kf, fi, f, hi, hsl⟩ := hSl j h1
  have hlay := hts _ (c2 _ (u_in_lay h1))
  unfold u_lay at hlay
  have hst := (u_facts hfc hkC (u_lays hts c2 h1) hi).1
  have hv : pfv g ci (stI M a j v) a j = prv g (.inl v) := by rw [pfv_I (by omega)]; simp [mI, stI, prv]
  have ho : ∀ i, i ≠ j → pfv g ci (stI M a j v) a i = pfv g ci M a i := fun i hi => by unfold pfv; simp only [mI, mL, mR, stI, hi, and_false, if_false]
  rw [if_neg (by rw [hfin]; decide)] at hlay
  have h6 := u_store hfc hkC hkind hlay hi (c3 j h1) (v := prv g (.inl v)) (by rw [hty]; rcases hz with rfl | rfl <;> (simp only [prv]; decide +kernel)) (by rw [hty]; rcases hz with rfl | rfl <;> (simp only [prv]; decide +kernel))
  refine W.putK C.1 C.2.1 (f := f) ⟨C.2.2.2.1, C.2.2.2.2.1 _ h2, ⟨_, _, _, hi⟩, hst⟩ (by rw [q2]; exact h6) q1 q3 (by rw [hsl]; exact k2_hasslot (q4 j h1)) rfl rfl hd fun H' e1 e2 e3 => ?_
  rw [hsl] at e1 ⊢
  exact kk H' _ ls (pRel_set hR hs (fun b sh hb => stI_o b sh hb) ⟨_, c1, t_OB.to (V := updV (vp_V ((List.range (pnF ci)).map (pfv g ci M a))) j (prv g (.inl v))) ⟨_, e1, q2, q3, t_set q4 hap h1 _⟩ (fun q _ => pfs_V h1 hv ho q)⟩ e2 e3) (hS.put e2 e3 (pA_at hR hs)) hl
theorem e_putL (C : pCx g y cc nL ret d k n X) {i ci j a : Nat} {v : Int} (hf : pFl y.cls i ci j) (hs : S[a]? = some (.inl ci)) (hty : pty ci j = .long := by rfl) (hd : decode cc pc = .ok (.putfield i, 3)) (hfin : ∀ (CC : String) (T : u_T), pCl ci CC T → (T j).2.2.2 = false) (kk : pE g nL X Qf S (stL M a j v) cs sl (pc + 3) L st) (hk : pfk ci j = 1 := by decide) : pE g nL X Qf S M cs sl pc L (.inr (.inl v) :: .inr (.inr a) :: st) := by
  obtain ⟨p, l, e, R, s, m, args, below, meth, c⟩ := X
  intro H locs ls hR hS hl
  obtain ⟨CC, T, hcl, h1, h2⟩ := hf
  have hfin := hfin CC T hcl
  obtain ⟨c1, c2, c3, c4, c5⟩ := hcl
  have hK := C.2.2.2.2.2.1
  have hts := C.2.2.2.2.1
  have hap := va_apart (own := y.cls) hts c2 (pty ci) c3 c4 hK c1
  obtain ⟨r, h3, cell, q1, q2, q3, q4⟩ := hR.1 a _ (pwd_at hs)
  have hr : r = (CC, T, pnF ci) := Option.some.inj (h3.symm.trans c1)
  subst hr
  obtain ⟨hSl, hfc, kC, hkC, hkind⟩ := hK.1 ci _ c1
  obtain ⟨cf, kf, fi, f, hi, hsl⟩ := hSl j h1
  have hlay := hts _ (c2 _ (u_in_lay h1))
  unfold u_lay at hlay
  have hst := (u_facts hfc hkC (u_lays hts c2 h1) hi).1
  have hv : pfv g ci (stL M a j v) a j = prv g (.inr (.inl v)) := by rw [pfv_L hk]; simp [mL, stL, prv]
  have ho : ∀ i, i ≠ j → pfv g ci (stL M a j v) a i = pfv g ci M a i := fun i hi => by unfold pfv; simp only [mI, mL, mR, stL, hi, and_false, if_false]
  rw [if_neg (by rw [hfin]; decide)] at hlay
  have h6 := u_store hfc hkC hkind hlay hi (c3 j h1) (v := prv g (.inr (.inl v))) (by rw [hty]; rfl) (by rw [hty]; rfl)
  refine W.putK C.1 C.2.1 (f := f) ⟨C.2.2.2.1, C.2.2.2.2.1 _ h2, ⟨_, _, _, hi⟩, hst⟩ (by rw [q2]; exact h6) q1 q3 (by rw [hsl]; exact k2_hasslot (q4 j h1)) rfl rfl hd fun H' e1 e2 e3 => ?_
  rw [hsl] at e1 ⊢
  exact kk H' _ ls (pRel_set hR hs (fun b sh hb => stL_o b sh hb) ⟨_, c1, t_OB.to (V := updV (vp_V ((List.range (pnF ci)).map (pfv g ci M a))) j (prv g (.inr (.inl v)))) ⟨_, e1, q2, q3, t_set q4 hap h1 _⟩ (fun q _ => pfs_V h1 hv ho q)⟩ e2 e3) (hS.put e2 e3 (pA_at hR hs)) hl
theorem e_putR (C : pCx g y cc nL ret d k n X) {i ci j a : Nat} {v : Nat} (hf : pFl y.cls i ci j) (hs : S[a]? = some (.inl ci)) (hty : ∀ b : Nat, narrow (pty ci j) (.ref b) = .ref b ∧ fits (pty ci j) (.ref b) = true) (hd : decode cc pc = .ok (.putfield i, 3)) (hfin : ∀ (CC : String) (T : u_T), pCl ci CC T → (T j).2.2.2 = true) (hin : y.name = "<init>") (hown : ∀ (CC : String) (T : u_T), pCl ci CC T → CC = y.cls) (kk : pE g nL X Qf S (stR M a j v) cs sl (pc + 3) L st) (hk : pfk ci j = 3 := by decide) : pE g nL X Qf S M cs sl pc L (.inr (.inr v) :: .inr (.inr a) :: st) := by
  obtain ⟨p, l, e, R, s, m, args, below, meth, c⟩ := X
  intro H locs ls hR hS hl
  obtain ⟨CC, T, hcl, h1, h2⟩ := hf
  have hfin := hfin CC T hcl
  have hown := hown CC T hcl
  obtain ⟨c1, c2, c3, c4, c5⟩ := hcl
  have hK := C.2.2.2.2.2.1
  have hts := C.2.2.2.2.1
  have hap := va_apart (own := y.cls) hts c2 (pty ci) c3 c4 hK c1
  obtain ⟨r, h3, cell, q1, q2, q3, q4⟩ := hR.1 a _ (pwd_at hs)
  have hr : r = (CC, T, pnF ci) := Option.some.inj (h3.symm.trans c1)
  subst hr
  obtain ⟨hSl, hfc, kC, hkC, hkind⟩ := hK.1 ci _ c1
  obtain ⟨cf, kf, fi, f, hi, hsl⟩ := hSl j h1
  have hlay := hts _ (c2 _ (u_in_lay h1))
  unfold u_lay at hlay
  have hst := (u_facts hfc hkC (u_lays hts c2 h1) hi).1
  have hv : pfv g ci (stR M a j v) a j = prv g (.inr (.inr v)) := by rw [pfv_R hk]; simp [mR, stR, prv, va_rf]
  have ho : ∀ i, i ≠ j → pfv g ci (stR M a j v) a i = pfv g ci M a i := fun i hi => by unfold pfv; simp only [mI, mL, mR, stR, hi, and_false, if_false]
  rw [if_pos hfin] at hlay
  have hcf : m.cls = cf := by
    obtain ⟨_, _, c', _, _, _, -, -, hf', -, -, -, hown2, -⟩ := Cond.laysFinal_spec hlay
    have e1 : c' = cf := by have := hi.symm.trans hf'; simp at this; exact this.1.symm
    rw [c5 j h1, hown] at hown2
    rw [← e1]; exact Option.some.inj (C.2.2.2.1.symm.trans hown2)
  have h6 := u_fits hfc hkC hkind (Or.inr hlay) hi (c3 j h1) (v := prv g (.inr (.inr v))) (hty _).1 (hty _).2
  refine W.putFinK C.1 C.2.1 C.2.2.2.1 (C.2.2.2.2.1 _ h2) hi hst hcf (C.2.2.2.2.2.2.2.2.2.2.2.1.trans hin) (by rw [q2]; exact h6) q1 q3 (by rw [hsl]; exact k2_hasslot (q4 j h1)) rfl rfl hd fun H' e1 e2 e3 => ?_
  rw [hsl] at e1 ⊢
  exact kk H' _ ls (pRel_set hR hs (fun b sh hb => stR_o b sh hb) ⟨_, c1, t_OB.to (V := updV (vp_V ((List.range (pnF ci)).map (pfv g ci M a))) j (prv g (.inr (.inr v)))) ⟨_, e1, q2, q3, t_set q4 hap h1 _⟩ (fun q _ => pfs_V h1 hv ho q)⟩ e2 e3) (hS.put e2 e3 (pA_at hR hs)) hl
theorem p_vin {j n : Nat} (hj : j < n) (hn : n < 2147483648) : vp_in (Int32.ofInt (j : Int)) n := by rw [i32_nI]; exact vp_in_nI hj (by omega)
theorem p_cl {j : Nat} (hj : j < 2147483648) : (Int32.ofInt (j : Int)).toNatClampNeg = j := by rw [i32_nI]; exact nI_clamp (by omega)
theorem e_iaload (C : pCx g y cc nL ret d k n X) {a N : Nat} {z : Int} (hd : decode cc pc = .ok (.iaload, 1)) (hs : S[a]? = some (.inr (0, N))) (j : Nat) (hz : z = (j : Int)) (hj : j < N) (kk : pE g nL X Qf S M cs sl (pc + 1) L (.inl (mI M a j) :: st)) (hN : N < 2147483648 := by decide) : pE g nL X Qf S M cs sl pc L (.inl z :: .inr (.inr a) :: st) := by
  obtain ⟨p, l, e, R, s, m, args, below, meth, c⟩ := X
  intro H locs ls hR hS hl
  subst hz
  refine va_iald C.1 C.2.1 C.2.2.2.2.2.1 hR.1 a 0 (pwd_at hs) rfl (p_vin hj hN) hd ?_
  rw [p_cl (Nat.lt_trans hj hN)]
  exact kk H locs ls hR hS hl
theorem e_baload (C : pCx g y cc nL ret d k n X) {a N : Nat} {z : Int} (hd : decode cc pc = .ok (.baload, 1)) (hs : S[a]? = some (.inr (2, N))) (j : Nat) (hz : z = (j : Int)) (hj : j < N) (kk : pE g nL X Qf S M cs sl (pc + 1) L (.inl (mI M a j) :: st)) (hN : N < 2147483648 := by decide) : pE g nL X Qf S M cs sl pc L (.inl z :: .inr (.inr a) :: st) := by
  obtain ⟨p, l, e, R, s, m, args, below, meth, c⟩ := X
  intro H locs ls hR hS hl
  subst hz
  refine va_zald C.1 C.2.1 C.2.2.2.2.2.1 hR.1 a 2 (pwd_at hs) rfl (p_vin hj hN) hd ?_
  rw [p_cl (Nat.lt_trans hj hN)]
  exact kk H locs ls hR hS hl
theorem e_laload (C : pCx g y cc nL ret d k n X) {a N : Nat} {z : Int} (hd : decode cc pc = .ok (.laload, 1)) (hs : S[a]? = some (.inr (1, N))) (j : Nat) (hz : z = (j : Int)) (hj : j < N) (kk : pE g nL X Qf S M cs sl (pc + 1) L (.inr (.inl (mL M a j)) :: st)) (hN : N < 2147483648 := by decide) : pE g nL X Qf S M cs sl pc L (.inl z :: .inr (.inr a) :: st) := by
  obtain ⟨p, l, e, R, s, m, args, below, meth, c⟩ := X
  intro H locs ls hR hS hl
  subst hz
  refine va_lald C.1 C.2.1 C.2.2.2.2.2.1 hR.1 a 1 (pwd_at hs) rfl (p_vin hj hN) hd ?_
  rw [p_cl (Nat.lt_trans hj hN)]
  exact kk H locs ls hR hS hl
theorem e_aaload3 (C : pCx g y cc nL ret d k n X) {a N b : Nat} {z : Int} (hd : decode cc pc = .ok (.aaload, 1)) (hs : S[a]? = some (.inr (3, N))) (j : Nat) (hz : z = (j : Int)) (hj : j < N) (hb : mR M a j = some b) (kk : pE g nL X Qf S M cs sl (pc + 1) L (.inr (.inr b) :: st)) (hN : N < 2147483648 := by decide) : pE g nL X Qf S M cs sl pc L (.inl z :: .inr (.inr a) :: st) := by
  obtain ⟨p, l, e, R, s, m, args, below, meth, c⟩ := X
  intro H locs ls hR hS hl
  subst hz
  refine va_aldq C.1 C.2.1 C.2.2.2.2.2.1 hR.1 a 3 (pwd_at hs) rfl (p_vin hj hN) hd ?_
  rw [p_cl (Nat.lt_trans hj hN), hb]
  exact kk H locs ls hR hS hl
theorem e_aastore3 (C : pCx g y cc nL ret d k n X) {a N b : Nat} {z : Int} (hd : decode cc pc = .ok (.aastore, 1)) (hs : S[a]? = some (.inr (3, N))) (hb : S[b]? = some (.inl 4)) (j : Nat) (hz : z = (j : Int)) (hj : j < N) (kk : pE g nL X Qf S (stR M a j b) cs sl (pc + 1) L st) (hN : N < 2147483648 := by decide) : pE g nL X Qf S M cs sl pc L (.inr (.inr b) :: .inl z :: .inr (.inr a) :: st) := by
  obtain ⟨p, l, e, R, s, m, args, below, meth, c⟩ := X
  intro H locs ls hR hS hl
  subst hz
  have hK := C.2.2.2.2.2.1
  obtain ⟨r', hr', cellV, g1, g2, g3, -⟩ := hR.1 b _ (pwd_at hb)
  have hcls := (hK.1 4 (RX4, TX4, pnF 4) rfl).2
  obtain ⟨kA, comp, k1, k2, k3, -⟩ := (hK.2 3 (g.2.2.1 3, .object "PaperKinds$Sheet") rfl).2
  have hcomp : comp = g.1 4 := Option.some.inj (k3.symm.trans hcls.1)
  subst hcomp
  obtain ⟨kC, hkC, -⟩ := hcls.2
  have hi := p_cl (Nat.lt_trans hj hN)
  have h0 : ¬ Int32.ofInt (j : Int) < 0 := fun q => p_vin hj hN (Or.inl q)
  have hA : H[pad g a]? = some (arrV (g.2.2.1 3) N (fun q => va_rf ((mR M a q).map (pad g)))) := hR.1 a _ (pwd_at hs)
  refine W.aast C.1 C.2.1 hA (fun q h => by cases h) (fun h => by cases h) k1 k2 rfl hkC ⟨h0, by show _ < (arrV _ _ _).slots.size; rw [arrV_size, hi]; exact hj⟩ g1 (fun q h => by rw [g3] at h; cases h) (by rw [g2]; exact hkC) (by rw [g2]; exact va_assign hcls) rfl rfl hd fun H1 e z oq => ?_
  refine kk H1 _ ls (pRel_set hR hs (fun b sh hb => stR_o b sh hb) ?_ z oq) (hS.put z oq (pA_at hR hs)) hl
  show H1[pad g a]? = some (arrV (g.2.2.1 3) N (fun q => va_rf ((mR (stR M a j b) a q).map (pad g))))
  rw [e, arrV_store, hi]
  congr 2
  funext q
  by_cases hq : q = j
  · subst hq; simp [updV, mR, stR, va_rf]
  · simp [updV, mR, stR, hq]
theorem e_aaload4 (C : pCx g y cc nL ret d k n X) {a N b : Nat} {z : Int} (hd : decode cc pc = .ok (.aaload, 1)) (hs : S[a]? = some (.inr (4, N))) (j : Nat) (hz : z = (j : Int)) (hj : j < N) (hb : mR M a j = some b) (kk : pE g nL X Qf S M cs sl (pc + 1) L (.inr (.inr b) :: st)) (hN : N < 2147483648 := by decide) : pE g nL X Qf S M cs sl pc L (.inl z :: .inr (.inr a) :: st) := by
  obtain ⟨p, l, e, R, s, m, args, below, meth, c⟩ := X
  intro H locs ls hR hS hl
  subst hz
  refine va_aldq C.1 C.2.1 C.2.2.2.2.2.1 hR.1 a 4 (pwd_at hs) rfl (p_vin hj hN) hd ?_
  rw [p_cl (Nat.lt_trans hj hN), hb]
  exact kk H locs ls hR hS hl
theorem e_aastore4 (C : pCx g y cc nL ret d k n X) {a N b : Nat} {z : Int} (hd : decode cc pc = .ok (.aastore, 1)) (hs : S[a]? = some (.inr (4, N))) (hb : S[b]? = some (.inl 0)) (j : Nat) (hz : z = (j : Int)) (hj : j < N) (kk : pE g nL X Qf S (stR M a j b) cs sl (pc + 1) L st) (hN : N < 2147483648 := by decide) : pE g nL X Qf S M cs sl pc L (.inr (.inr b) :: .inl z :: .inr (.inr a) :: st) := by
  obtain ⟨p, l, e, R, s, m, args, below, meth, c⟩ := X
  intro H locs ls hR hS hl
  subst hz
  have hK := C.2.2.2.2.2.1
  obtain ⟨r', hr', cellV, g1, g2, g3, -⟩ := hR.1 b _ (pwd_at hb)
  have hcls := (hK.1 0 (RX0, TX0, pnF 0) rfl).2
  obtain ⟨kA, comp, k1, k2, k3, -⟩ := (hK.2 4 (g.2.2.1 4, .object "PaperKinds$Kind") rfl).2
  have hcomp : comp = g.1 0 := Option.some.inj (k3.symm.trans hcls.1)
  subst hcomp
  obtain ⟨kC, hkC, -⟩ := hcls.2
  have hi := p_cl (Nat.lt_trans hj hN)
  have h0 : ¬ Int32.ofInt (j : Int) < 0 := fun q => p_vin hj hN (Or.inl q)
  have hA : H[pad g a]? = some (arrV (g.2.2.1 4) N (fun q => va_rf ((mR M a q).map (pad g)))) := hR.1 a _ (pwd_at hs)
  refine W.aast C.1 C.2.1 hA (fun q h => by cases h) (fun h => by cases h) k1 k2 rfl hkC ⟨h0, by show _ < (arrV _ _ _).slots.size; rw [arrV_size, hi]; exact hj⟩ g1 (fun q h => by rw [g3] at h; cases h) (by rw [g2]; exact hkC) (by rw [g2]; exact va_assign hcls) rfl rfl hd fun H1 e z oq => ?_
  refine kk H1 _ ls (pRel_set hR hs (fun b sh hb => stR_o b sh hb) ?_ z oq) (hS.put z oq (pA_at hR hs)) hl
  show H1[pad g a]? = some (arrV (g.2.2.1 4) N (fun q => va_rf ((mR (stR M a j b) a q).map (pad g))))
  rw [e, arrV_store, hi]
  congr 2
  funext q
  by_cases hq : q = j
  · subst hq; simp [updV, mR, stR, va_rf]
  · simp [updV, mR, stR, hq]
theorem e_iastore (C : pCx g y cc nL ret d k n X) {a N : Nat} {z v : Int} (hd : decode cc pc = .ok (.iastore, 1)) (hs : S[a]? = some (.inr (0, N))) (j : Nat) (hz : z = (j : Int)) (hj : j < N) (kk : pE g nL X Qf S (stI M a j v) cs sl (pc + 1) L st) (hN : N < 2147483648 := by decide) : pE g nL X Qf S M cs sl pc L (.inl v :: .inl z :: .inr (.inr a) :: st) := by
  obtain ⟨p, l, e, R, s, m, args, below, meth, c⟩ := X
  intro H locs ls hR hS hl
  subst hz
  have hK := C.2.2.2.2.2.1
  have hi := p_cl (Nat.lt_trans hj hN)
  have hA : H[pad g a]? = some (arrV (g.2.2.1 0) N (fun q => .int (Int32.ofInt (mI M a q)))) := hR.1 a _ (pwd_at hs)
  refine W.iast C.1 C.2.1 hA ((hK.2 0 _ rfl).1 N (fun q => .int (Int32.ofInt (mI M a q)))) (fun q => by cases q) (by show ¬ (_ ∨ (arrV _ _ _).slots.size ≤ _); rw [arrV_size]; exact p_vin hj hN) rfl rfl hd fun H1 e z oq => ?_
  refine kk H1 _ ls (pRel_set hR hs (fun b sh hb => stI_o b sh hb) ?_ z oq) (hS.put z oq (pA_at hR hs)) hl
  show H1[pad g a]? = some (arrV (g.2.2.1 0) N (fun q => .int (Int32.ofInt (mI (stI M a j v) a q))))
  rw [e, arrV_store, hi]
  congr 2
  funext q
  by_cases hq : q = j
  · subst hq; simp [updV, mI, mL, stI, stL]
  · simp [updV, mI, mL, stI, stL, hq]
theorem e_bastore (C : pCx g y cc nL ret d k n X) {a N : Nat} {z v : Int} (hd : decode cc pc = .ok (.bastore, 1)) (hs : S[a]? = some (.inr (2, N))) (j : Nat) (hz : z = (j : Int)) (hj : j < N) (hv : v = 0 ∨ v = 1) (kk : pE g nL X Qf S (stI M a j v) cs sl (pc + 1) L st) (hN : N < 2147483648 := by decide) : pE g nL X Qf S M cs sl pc L (.inl v :: .inl z :: .inr (.inr a) :: st) := by
  obtain ⟨p, l, e, R, s, m, args, below, meth, c⟩ := X
  intro H locs ls hR hS hl
  subst hz
  have hK := C.2.2.2.2.2.1
  have hi := p_cl (Nat.lt_trans hj hN)
  have hA : H[pad g a]? = some (arrV (g.2.2.1 2) N (fun q => .int (Int32.ofInt (mI M a q)))) := hR.1 a _ (pwd_at hs)
  refine W.zast C.1 C.2.1 hA ((hK.2 2 _ rfl).1 N (fun q => .int (Int32.ofInt (mI M a q)))) (fun q => by cases q) (by show ¬ (_ ∨ (arrV _ _ _).slots.size ≤ _); rw [arrV_size]; exact p_vin hj hN) rfl rfl hd fun H1 e z oq => ?_
  refine kk H1 _ ls (pRel_set hR hs (fun b sh hb => stI_o b sh hb) ?_ z oq) (hS.put z oq (pA_at hR hs)) hl
  show H1[pad g a]? = some (arrV (g.2.2.1 2) N (fun q => .int (Int32.ofInt (mI (stI M a j v) a q))))
  rw [e, arrV_store, hi]
  congr 2
  funext q
  by_cases hq : q = j
  · subst hq; rcases hv with rfl | rfl <;> simp [updV, mI, stI, narrow] <;> decide +kernel
  · simp [updV, mI, mL, stI, stL, hq]
theorem e_lastore (C : pCx g y cc nL ret d k n X) {a N : Nat} {z v : Int} (hd : decode cc pc = .ok (.lastore, 1)) (hs : S[a]? = some (.inr (1, N))) (j : Nat) (hz : z = (j : Int)) (hj : j < N) (kk : pE g nL X Qf S (stL M a j v) cs sl (pc + 1) L st) (hN : N < 2147483648 := by decide) : pE g nL X Qf S M cs sl pc L (.inr (.inl v) :: .inl z :: .inr (.inr a) :: st) := by
  obtain ⟨p, l, e, R, s, m, args, below, meth, c⟩ := X
  intro H locs ls hR hS hl
  subst hz
  have hK := C.2.2.2.2.2.1
  have hi := p_cl (Nat.lt_trans hj hN)
  have hA : H[pad g a]? = some (arrV (g.2.2.1 1) N (fun q => .long (Int64.ofInt (mL M a q)))) := hR.1 a _ (pwd_at hs)
  refine W.last C.1 C.2.1 hA ((hK.2 1 _ rfl).1 N (fun q => .long (Int64.ofInt (mL M a q)))) (fun q => by cases q) (by show ¬ (_ ∨ (arrV _ _ _).slots.size ≤ _); rw [arrV_size]; exact p_vin hj hN) rfl rfl hd fun H1 e z oq => ?_
  refine kk H1 _ ls (pRel_set hR hs (fun b sh hb => stL_o b sh hb) ?_ z oq) (hS.put z oq (pA_at hR hs)) hl
  show H1[pad g a]? = some (arrV (g.2.2.1 1) N (fun q => .long (Int64.ofInt (mL (stL M a j v) a q))))
  rw [e, arrV_store, hi]
  congr 2
  funext q
  by_cases hq : q = j
  · subst hq; simp [updV, mI, mL, stI, stL]
  · simp [updV, mI, mL, stI, stL, hq]
theorem e_alen (C : pCx g y cc nL ret d k n X) {a t N : Nat} (hd : decode cc pc = .ok (.arraylength, 1)) (hs : S[a]? = some (.inr (t, N))) (ht : t < 5) (kk : pE g nL X Qf S M cs sl (pc + 1) L (.inl (N : Int) :: st)) : pE g nL X Qf S M cs sl pc L (.inr (.inr a) :: st) := by
  obtain ⟨p, l, e, R, s, m, args, below, meth, c⟩ := X
  intro H locs ls hR hS hl
  obtain ⟨ty, hty⟩ : ∃ ty, (ptys g)[t]? = some (g.2.2.1 t, ty) := by
    match t, ht with
    | 0, _ => exact ⟨_, rfl⟩
    | 1, _ => exact ⟨_, rfl⟩
    | 2, _ => exact ⟨_, rfl⟩
    | 3, _ => exact ⟨_, rfl⟩
    | 4, _ => exact ⟨_, rfl⟩
  exact va_alen C.1 C.2.1 C.2.2.2.2.2.1 hR.1 a t (pwd_at hs) hty (i32_nI N).symm hd (kk H locs ls hR hS hl)
theorem e_units (C : pCx g y cc nL ret d k n X) {z : Int} (hd : decode cc pc = .ok (.laload, 1)) (j : Nat) (hz : z = (j : Int)) (hj : j < 8) (kk : pE g nL X Qf S M cs sl (pc + 1) L (.inr (.inl (17 ^ (7 - j))) :: st)) : pE g nL X Qf S M cs sl pc L (.inl z :: .inr (.inr 1000001) :: st) := by
  obtain ⟨p, l, e, R, s, m, args, below, meth, c⟩ := X
  intro H locs ls hR hS hl
  subst hz
  exact va_tl C.1 C.2.1 C.2.2.2.2.2.2.1.2 hS (p_vin hj (by decide)) (v := .long (Int64.ofInt (17 ^ (7 - j)))) (by rw [p_cl (by omega)]) hd (kk H locs ls hR hS hl)
theorem e_getsO (C : pCx g y cc nL ret d k n X) {i : Nat} (hd : decode cc pc = .ok (.getstatic i, 3)) (hf : Cond.fieldLink y.cls i "PaperKinds" "BOX_UNITS" "[J" ∈ pgood) (kk : pE g nL X Qf S M cs sl (pc + 3) L (.inr (.inr 1000001) :: st)) : pE g nL X Qf S M cs sl pc L st := by
  obtain ⟨p, l, e, R, s, m, args, below, meth, c⟩ := X
  intro H locs ls hR hS hl
  exact va_gets C.1 C.2.1 C.2.2.2.2.2.2.1.1 hS C.2.2.2.1 (C.2.2.2.2.1 _ hf) (fun _ h => h) hd (kk H locs ls hR hS hl)
theorem e_getsN (C : pCx g y cc nL ret d k n X) (hy : y.cls = "PaperKinds$Layer") (hd : decode cc pc = .ok (.getstatic 109, 3)) (kk : pE g nL X Qf S M cs sl (pc + 3) L (.inr (.inr 1000001) :: st)) : pE g nL X Qf S M cs sl pc L st := by
  obtain ⟨p, l, e, R, s, m, args, below, meth, c⟩ := X
  intro H locs ls hR hS hl
  exact va_getsN C.1 C.2.1 C.2.2.2.2.2.2.1.1 hS (hy ▸ C.2.2.2.1) (va_Nw.use rfl C.2.2.2.2.2.2.2.1.2.1) (fun _ h => h) hd (kk H locs ls hR hS hl)
end PM
end
