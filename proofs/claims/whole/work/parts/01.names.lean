-- ===== PART A: goes FIRST, ahead of the names: the tables' words, and 'selects' of the private methods out of them =====
/-- a private method of a class that the tables say can be made, by its rows of tables_1 -/
def lw_okq (q : MethodName × Nat) : Prop := (q.1.cls ≠ "java/lang/invoke/MethodHandle" ∧ q.1.cls ≠ "java/lang/invoke/VarHandle") ∧ Cond.instantiable q.1.cls q.2 ∈ tables_1 ∧ Cond.privateMethod q.1 ∈ tables_1 ∧ Cond.instanceMethod q.1 ∈ tables_1
theorem lw_p0 : lw_okq (⟨"KeyKeepers$Ways", "wantedByAsking", "(I)V"⟩, 3) := ⟨⟨by decide +kernel, by decide +kernel⟩, List.mem_of_getElem? (i := 60) (by decide +kernel), List.mem_of_getElem? (i := 223) (by decide +kernel), List.mem_of_getElem? (i := 224) (by decide +kernel)⟩
theorem lw_p1 : lw_okq (⟨"KeyKeepers$Ways", "wantedByToken", "(I)V"⟩, 3) := ⟨⟨by decide +kernel, by decide +kernel⟩, List.mem_of_getElem? (i := 60) (by decide +kernel), List.mem_of_getElem? (i := 243) (by decide +kernel), List.mem_of_getElem? (i := 244) (by decide +kernel)⟩
theorem lw_p2 : lw_okq (⟨"KeyKeepers$Ways", "enter", "(I)V"⟩, 3) := ⟨⟨by decide +kernel, by decide +kernel⟩, List.mem_of_getElem? (i := 60) (by decide +kernel), List.mem_of_getElem? (i := 252) (by decide +kernel), List.mem_of_getElem? (i := 253) (by decide +kernel)⟩
theorem lw_p3 : lw_okq (⟨"KeyKeepers$Ways", "queue", "(II)V"⟩, 3) := ⟨⟨by decide +kernel, by decide +kernel⟩, List.mem_of_getElem? (i := 60) (by decide +kernel), List.mem_of_getElem? (i := 272) (by decide +kernel), List.mem_of_getElem? (i := 273) (by decide +kernel)⟩
theorem lw_p4 : lw_okq (⟨"KeyKeepers$Ways", "followRules", "(I)V"⟩, 3) := ⟨⟨by decide +kernel, by decide +kernel⟩, List.mem_of_getElem? (i := 60) (by decide +kernel), List.mem_of_getElem? (i := 280) (by decide +kernel), List.mem_of_getElem? (i := 281) (by decide +kernel)⟩
theorem lw_p5 : lw_okq (⟨"KeyKeepers", "settled", "()Z"⟩, 8) := ⟨⟨by decide +kernel, by decide +kernel⟩, List.mem_of_getElem? (i := 13) (by decide +kernel), List.mem_of_getElem? (i := 289) (by decide +kernel), List.mem_of_getElem? (i := 290) (by decide +kernel)⟩
theorem lw_p6 : lw_okq (⟨"KeyKeepers$Ways", "leftByAsking", "(I)V"⟩, 3) := ⟨⟨by decide +kernel, by decide +kernel⟩, List.mem_of_getElem? (i := 60) (by decide +kernel), List.mem_of_getElem? (i := 317) (by decide +kernel), List.mem_of_getElem? (i := 318) (by decide +kernel)⟩
theorem lw_p7 : lw_okq (⟨"KeyKeepers$Ways", "leftByToken", "(I)V"⟩, 3) := ⟨⟨by decide +kernel, by decide +kernel⟩, List.mem_of_getElem? (i := 60) (by decide +kernel), List.mem_of_getElem? (i := 321) (by decide +kernel), List.mem_of_getElem? (i := 322) (by decide +kernel)⟩
theorem lw_p8 : lw_okq (⟨"KeyKeepers$Ways", "isDue", "(II)Z"⟩, 3) := ⟨⟨by decide +kernel, by decide +kernel⟩, List.mem_of_getElem? (i := 60) (by decide +kernel), List.mem_of_getElem? (i := 329) (by decide +kernel), List.mem_of_getElem? (i := 330) (by decide +kernel)⟩
theorem lw_p9 : lw_okq (⟨"KeyKeepers$Ways", "passToken", "(II)V"⟩, 3) := ⟨⟨by decide +kernel, by decide +kernel⟩, List.mem_of_getElem? (i := 60) (by decide +kernel), List.mem_of_getElem? (i := 333) (by decide +kernel), List.mem_of_getElem? (i := 334) (by decide +kernel)⟩
theorem lw_p10 : lw_okq (⟨"KeyKeepers", "bring", "(II)I"⟩, 8) := ⟨⟨by decide +kernel, by decide +kernel⟩, List.mem_of_getElem? (i := 13) (by decide +kernel), List.mem_of_getElem? (i := 350) (by decide +kernel), List.mem_of_getElem? (i := 351) (by decide +kernel)⟩
theorem lw_p11 : lw_okq (⟨"KeyKeepers$Ways", "askedByAsking", "(III)V"⟩, 3) := ⟨⟨by decide +kernel, by decide +kernel⟩, List.mem_of_getElem? (i := 60) (by decide +kernel), List.mem_of_getElem? (i := 374) (by decide +kernel), List.mem_of_getElem? (i := 375) (by decide +kernel)⟩
theorem lw_p12 : lw_okq (⟨"KeyKeepers$Ways", "goesBefore", "(III)Z"⟩, 3) := ⟨⟨by decide +kernel, by decide +kernel⟩, List.mem_of_getElem? (i := 60) (by decide +kernel), List.mem_of_getElem? (i := 381) (by decide +kernel), List.mem_of_getElem? (i := 382) (by decide +kernel)⟩
theorem lw_p13 : lw_okq (⟨"KeyKeepers$Ways", "given", "(II)V"⟩, 3) := ⟨⟨by decide +kernel, by decide +kernel⟩, List.mem_of_getElem? (i := 60) (by decide +kernel), List.mem_of_getElem? (i := 385) (by decide +kernel), List.mem_of_getElem? (i := 386) (by decide +kernel)⟩
theorem lw_p14 : lw_okq (⟨"KeyKeepers$Ways", "askedByToken", "(III)V"⟩, 3) := ⟨⟨by decide +kernel, by decide +kernel⟩, List.mem_of_getElem? (i := 60) (by decide +kernel), List.mem_of_getElem? (i := 399) (by decide +kernel), List.mem_of_getElem? (i := 400) (by decide +kernel)⟩
theorem lw_p15 : lw_okq (⟨"KeyKeepers", "timeOf", "(I)I"⟩, 8) := ⟨⟨by decide +kernel, by decide +kernel⟩, List.mem_of_getElem? (i := 13) (by decide +kernel), List.mem_of_getElem? (i := 424) (by decide +kernel), List.mem_of_getElem? (i := 425) (by decide +kernel)⟩
def lw_privs_1 : List (MethodName × Nat) := [(⟨"KeyKeepers$Ways", "wantedByAsking", "(I)V"⟩, 3), (⟨"KeyKeepers$Ways", "wantedByToken", "(I)V"⟩, 3), (⟨"KeyKeepers$Ways", "enter", "(I)V"⟩, 3), (⟨"KeyKeepers$Ways", "queue", "(II)V"⟩, 3), (⟨"KeyKeepers$Ways", "followRules", "(I)V"⟩, 3), (⟨"KeyKeepers", "settled", "()Z"⟩, 8), (⟨"KeyKeepers$Ways", "leftByAsking", "(I)V"⟩, 3), (⟨"KeyKeepers$Ways", "leftByToken", "(I)V"⟩, 3), (⟨"KeyKeepers$Ways", "isDue", "(II)Z"⟩, 3), (⟨"KeyKeepers$Ways", "passToken", "(II)V"⟩, 3), (⟨"KeyKeepers", "bring", "(II)I"⟩, 8), (⟨"KeyKeepers$Ways", "askedByAsking", "(III)V"⟩, 3), (⟨"KeyKeepers$Ways", "goesBefore", "(III)Z"⟩, 3), (⟨"KeyKeepers$Ways", "given", "(II)V"⟩, 3), (⟨"KeyKeepers$Ways", "askedByToken", "(III)V"⟩, 3), (⟨"KeyKeepers", "timeOf", "(I)I"⟩, 8)]
theorem lw_r1 : ∀ q ∈ lw_privs_1, lw_okq q := List.forall_mem_cons.mpr ⟨lw_p0, List.forall_mem_cons.mpr ⟨lw_p1, List.forall_mem_cons.mpr ⟨lw_p2, List.forall_mem_cons.mpr ⟨lw_p3, List.forall_mem_cons.mpr ⟨lw_p4, List.forall_mem_cons.mpr ⟨lw_p5, List.forall_mem_cons.mpr ⟨lw_p6, List.forall_mem_cons.mpr ⟨lw_p7, List.forall_mem_cons.mpr ⟨lw_p8, List.forall_mem_cons.mpr ⟨lw_p9, List.forall_mem_cons.mpr ⟨lw_p10, List.forall_mem_cons.mpr ⟨lw_p11, List.forall_mem_cons.mpr ⟨lw_p12, List.forall_mem_cons.mpr ⟨lw_p13, List.forall_mem_cons.mpr ⟨lw_p14, List.forall_mem_cons.mpr ⟨lw_p15, fun _ h => absurd h List.not_mem_nil⟩⟩⟩⟩⟩⟩⟩⟩⟩⟩⟩⟩⟩⟩⟩⟩
theorem lw_p16 : lw_okq (⟨"KeyKeepers$Search", "keep", "()V"⟩, 10) := ⟨⟨by decide +kernel, by decide +kernel⟩, List.mem_of_getElem? (i := 97) (by decide +kernel), List.mem_of_getElem? (i := 473) (by decide +kernel), List.mem_of_getElem? (i := 474) (by decide +kernel)⟩
theorem lw_p17 : lw_okq (⟨"KeyKeepers$Search", "hash", "()I"⟩, 10) := ⟨⟨by decide +kernel, by decide +kernel⟩, List.mem_of_getElem? (i := 97) (by decide +kernel), List.mem_of_getElem? (i := 477) (by decide +kernel), List.mem_of_getElem? (i := 478) (by decide +kernel)⟩
theorem lw_p18 : lw_okq (⟨"KeyKeepers$Search", "mixed", "(III)I"⟩, 10) := ⟨⟨by decide +kernel, by decide +kernel⟩, List.mem_of_getElem? (i := 97) (by decide +kernel), List.mem_of_getElem? (i := 481) (by decide +kernel), List.mem_of_getElem? (i := 482) (by decide +kernel)⟩
theorem lw_p19 : lw_okq (⟨"KeyKeepers$Search", "isState", "(II)Z"⟩, 10) := ⟨⟨by decide +kernel, by decide +kernel⟩, List.mem_of_getElem? (i := 97) (by decide +kernel), List.mem_of_getElem? (i := 496) (by decide +kernel), List.mem_of_getElem? (i := 497) (by decide +kernel)⟩
theorem lw_p20 : lw_okq (⟨"KeyKeepers$Search", "isLike", "(III)Z"⟩, 10) := ⟨⟨by decide +kernel, by decide +kernel⟩, List.mem_of_getElem? (i := 97) (by decide +kernel), List.mem_of_getElem? (i := 500) (by decide +kernel), List.mem_of_getElem? (i := 501) (by decide +kernel)⟩
theorem lw_p21 : lw_okq (⟨"KeyKeepers$Search", "goFrom", "(I)V"⟩, 10) := ⟨⟨by decide +kernel, by decide +kernel⟩, List.mem_of_getElem? (i := 97) (by decide +kernel), List.mem_of_getElem? (i := 504) (by decide +kernel), List.mem_of_getElem? (i := 505) (by decide +kernel)⟩
theorem lw_p22 : lw_okq (⟨"KeyKeepers$Search", "load", "(I)V"⟩, 10) := ⟨⟨by decide +kernel, by decide +kernel⟩, List.mem_of_getElem? (i := 97) (by decide +kernel), List.mem_of_getElem? (i := 508) (by decide +kernel), List.mem_of_getElem? (i := 509) (by decide +kernel)⟩
theorem lw_p23 : lw_okq (⟨"KeyKeepers$Search", "tally", "()V"⟩, 10) := ⟨⟨by decide +kernel, by decide +kernel⟩, List.mem_of_getElem? (i := 97) (by decide +kernel), List.mem_of_getElem? (i := 517) (by decide +kernel), List.mem_of_getElem? (i := 518) (by decide +kernel)⟩
theorem lw_p24 : lw_okq (⟨"KeyKeepers$Stand", "tokenBetween", "(II)Z"⟩, 4) := ⟨⟨by decide +kernel, by decide +kernel⟩, List.mem_of_getElem? (i := 21) (by decide +kernel), List.mem_of_getElem? (i := 526) (by decide +kernel), List.mem_of_getElem? (i := 527) (by decide +kernel)⟩
theorem lw_p25 : lw_okq (⟨"KeyKeepers$Search", "weigh", "(I)V"⟩, 10) := ⟨⟨by decide +kernel, by decide +kernel⟩, List.mem_of_getElem? (i := 97) (by decide +kernel), List.mem_of_getElem? (i := 537) (by decide +kernel), List.mem_of_getElem? (i := 538) (by decide +kernel)⟩
theorem lw_p26 : lw_okq (⟨"KeyKeepersModel", "clear", "()V"⟩, 18) := ⟨⟨by decide +kernel, by decide +kernel⟩, List.mem_of_getElem? (i := 553) (by decide +kernel), List.mem_of_getElem? (i := 561) (by decide +kernel), List.mem_of_getElem? (i := 562) (by decide +kernel)⟩
theorem lw_p27 : lw_okq (⟨"KeyKeepersModel", "layHolders", "()V"⟩, 18) := ⟨⟨by decide +kernel, by decide +kernel⟩, List.mem_of_getElem? (i := 553) (by decide +kernel), List.mem_of_getElem? (i := 565) (by decide +kernel), List.mem_of_getElem? (i := 566) (by decide +kernel)⟩
theorem lw_p28 : lw_okq (⟨"KeyKeepersModel", "isKeeper", "(I)Z"⟩, 18) := ⟨⟨by decide +kernel, by decide +kernel⟩, List.mem_of_getElem? (i := 553) (by decide +kernel), List.mem_of_getElem? (i := 639) (by decide +kernel), List.mem_of_getElem? (i := 640) (by decide +kernel)⟩
theorem lw_p29 : lw_okq (⟨"KeyKeepersModel", "store", "()V"⟩, 18) := ⟨⟨by decide +kernel, by decide +kernel⟩, List.mem_of_getElem? (i := 553) (by decide +kernel), List.mem_of_getElem? (i := 643) (by decide +kernel), List.mem_of_getElem? (i := 644) (by decide +kernel)⟩
theorem lw_p30 : lw_okq (⟨"KeyKeepersModel", "wants", "(I)V"⟩, 18) := ⟨⟨by decide +kernel, by decide +kernel⟩, List.mem_of_getElem? (i := 553) (by decide +kernel), List.mem_of_getElem? (i := 647) (by decide +kernel), List.mem_of_getElem? (i := 648) (by decide +kernel)⟩
theorem lw_p31 : lw_okq (⟨"KeyKeepersModel", "askAll", "(II)V"⟩, 18) := ⟨⟨by decide +kernel, by decide +kernel⟩, List.mem_of_getElem? (i := 553) (by decide +kernel), List.mem_of_getElem? (i := 651) (by decide +kernel), List.mem_of_getElem? (i := 652) (by decide +kernel)⟩
def lw_privs_2 : List (MethodName × Nat) := [(⟨"KeyKeepers$Search", "keep", "()V"⟩, 10), (⟨"KeyKeepers$Search", "hash", "()I"⟩, 10), (⟨"KeyKeepers$Search", "mixed", "(III)I"⟩, 10), (⟨"KeyKeepers$Search", "isState", "(II)Z"⟩, 10), (⟨"KeyKeepers$Search", "isLike", "(III)Z"⟩, 10), (⟨"KeyKeepers$Search", "goFrom", "(I)V"⟩, 10), (⟨"KeyKeepers$Search", "load", "(I)V"⟩, 10), (⟨"KeyKeepers$Search", "tally", "()V"⟩, 10), (⟨"KeyKeepers$Stand", "tokenBetween", "(II)Z"⟩, 4), (⟨"KeyKeepers$Search", "weigh", "(I)V"⟩, 10), (⟨"KeyKeepersModel", "clear", "()V"⟩, 18), (⟨"KeyKeepersModel", "layHolders", "()V"⟩, 18), (⟨"KeyKeepersModel", "isKeeper", "(I)Z"⟩, 18), (⟨"KeyKeepersModel", "store", "()V"⟩, 18), (⟨"KeyKeepersModel", "wants", "(I)V"⟩, 18), (⟨"KeyKeepersModel", "askAll", "(II)V"⟩, 18)]
theorem lw_r2 : ∀ q ∈ lw_privs_2, lw_okq q := List.forall_mem_cons.mpr ⟨lw_p16, List.forall_mem_cons.mpr ⟨lw_p17, List.forall_mem_cons.mpr ⟨lw_p18, List.forall_mem_cons.mpr ⟨lw_p19, List.forall_mem_cons.mpr ⟨lw_p20, List.forall_mem_cons.mpr ⟨lw_p21, List.forall_mem_cons.mpr ⟨lw_p22, List.forall_mem_cons.mpr ⟨lw_p23, List.forall_mem_cons.mpr ⟨lw_p24, List.forall_mem_cons.mpr ⟨lw_p25, List.forall_mem_cons.mpr ⟨lw_p26, List.forall_mem_cons.mpr ⟨lw_p27, List.forall_mem_cons.mpr ⟨lw_p28, List.forall_mem_cons.mpr ⟨lw_p29, List.forall_mem_cons.mpr ⟨lw_p30, List.forall_mem_cons.mpr ⟨lw_p31, fun _ h => absurd h List.not_mem_nil⟩⟩⟩⟩⟩⟩⟩⟩⟩⟩⟩⟩⟩⟩⟩⟩
theorem lw_p32 : lw_okq (⟨"KeyKeepersModel", "send", "(IIII)V"⟩, 18) := ⟨⟨by decide +kernel, by decide +kernel⟩, List.mem_of_getElem? (i := 553) (by decide +kernel), List.mem_of_getElem? (i := 655) (by decide +kernel), List.mem_of_getElem? (i := 656) (by decide +kernel)⟩
theorem lw_p33 : lw_okq (⟨"KeyKeepersModel", "pairAt", "(II)I"⟩, 18) := ⟨⟨by decide +kernel, by decide +kernel⟩, List.mem_of_getElem? (i := 553) (by decide +kernel), List.mem_of_getElem? (i := 659) (by decide +kernel), List.mem_of_getElem? (i := 660) (by decide +kernel)⟩
theorem lw_p34 : lw_okq (⟨"KeyKeepersModel", "comesIn", "(I)V"⟩, 18) := ⟨⟨by decide +kernel, by decide +kernel⟩, List.mem_of_getElem? (i := 553) (by decide +kernel), List.mem_of_getElem? (i := 663) (by decide +kernel), List.mem_of_getElem? (i := 664) (by decide +kernel)⟩
theorem lw_p35 : lw_okq (⟨"KeyKeepersModel", "sent", "()I"⟩, 18) := ⟨⟨by decide +kernel, by decide +kernel⟩, List.mem_of_getElem? (i := 553) (by decide +kernel), List.mem_of_getElem? (i := 667) (by decide +kernel), List.mem_of_getElem? (i := 668) (by decide +kernel)⟩
theorem lw_p36 : lw_okq (⟨"KeyKeepersModel", "queue", "(II)V"⟩, 18) := ⟨⟨by decide +kernel, by decide +kernel⟩, List.mem_of_getElem? (i := 553) (by decide +kernel), List.mem_of_getElem? (i := 671) (by decide +kernel), List.mem_of_getElem? (i := 672) (by decide +kernel)⟩
theorem lw_p37 : lw_okq (⟨"KeyKeepersModel", "rules", "(I)V"⟩, 18) := ⟨⟨by decide +kernel, by decide +kernel⟩, List.mem_of_getElem? (i := 553) (by decide +kernel), List.mem_of_getElem? (i := 675) (by decide +kernel), List.mem_of_getElem? (i := 676) (by decide +kernel)⟩
theorem lw_p38 : lw_okq (⟨"KeyKeepersModel", "stands", "()Z"⟩, 18) := ⟨⟨by decide +kernel, by decide +kernel⟩, List.mem_of_getElem? (i := 553) (by decide +kernel), List.mem_of_getElem? (i := 679) (by decide +kernel), List.mem_of_getElem? (i := 680) (by decide +kernel)⟩
theorem lw_p39 : lw_okq (⟨"KeyKeepersModel", "leaves", "(I)V"⟩, 18) := ⟨⟨by decide +kernel, by decide +kernel⟩, List.mem_of_getElem? (i := 553) (by decide +kernel), List.mem_of_getElem? (i := 688) (by decide +kernel), List.mem_of_getElem? (i := 689) (by decide +kernel)⟩
theorem lw_p40 : lw_okq (⟨"KeyKeepersModel", "isRowed", "(I)Z"⟩, 18) := ⟨⟨by decide +kernel, by decide +kernel⟩, List.mem_of_getElem? (i := 553) (by decide +kernel), List.mem_of_getElem? (i := 692) (by decide +kernel), List.mem_of_getElem? (i := 693) (by decide +kernel)⟩
theorem lw_p41 : lw_okq (⟨"KeyKeepersModel", "passToken", "(II)V"⟩, 18) := ⟨⟨by decide +kernel, by decide +kernel⟩, List.mem_of_getElem? (i := 553) (by decide +kernel), List.mem_of_getElem? (i := 696) (by decide +kernel), List.mem_of_getElem? (i := 697) (by decide +kernel)⟩
theorem lw_p42 : lw_okq (⟨"KeyKeepersModel", "comes", "(II)I"⟩, 18) := ⟨⟨by decide +kernel, by decide +kernel⟩, List.mem_of_getElem? (i := 553) (by decide +kernel), List.mem_of_getElem? (i := 704) (by decide +kernel), List.mem_of_getElem? (i := 705) (by decide +kernel)⟩
theorem lw_p43 : lw_okq (⟨"KeyKeepersModel", "dropEldest", "(I)V"⟩, 18) := ⟨⟨by decide +kernel, by decide +kernel⟩, List.mem_of_getElem? (i := 553) (by decide +kernel), List.mem_of_getElem? (i := 708) (by decide +kernel), List.mem_of_getElem? (i := 709) (by decide +kernel)⟩
theorem lw_p44 : lw_okq (⟨"KeyKeepersModel", "askedComes", "(III)V"⟩, 18) := ⟨⟨by decide +kernel, by decide +kernel⟩, List.mem_of_getElem? (i := 553) (by decide +kernel), List.mem_of_getElem? (i := 712) (by decide +kernel), List.mem_of_getElem? (i := 713) (by decide +kernel)⟩
theorem lw_p45 : lw_okq (⟨"KeyKeepersModel", "pairOf", "(I)I"⟩, 18) := ⟨⟨by decide +kernel, by decide +kernel⟩, List.mem_of_getElem? (i := 553) (by decide +kernel), List.mem_of_getElem? (i := 720) (by decide +kernel), List.mem_of_getElem? (i := 721) (by decide +kernel)⟩
theorem lw_p46 : lw_okq (⟨"KeyKeepersModel", "hasToken", "(I)Z"⟩, 18) := ⟨⟨by decide +kernel, by decide +kernel⟩, List.mem_of_getElem? (i := 553) (by decide +kernel), List.mem_of_getElem? (i := 733) (by decide +kernel), List.mem_of_getElem? (i := 734) (by decide +kernel)⟩
theorem lw_p47 : lw_okq (⟨"KeyKeepersModel", "meets", "()V"⟩, 18) := ⟨⟨by decide +kernel, by decide +kernel⟩, List.mem_of_getElem? (i := 553) (by decide +kernel), List.mem_of_getElem? (i := 761) (by decide +kernel), List.mem_of_getElem? (i := 762) (by decide +kernel)⟩
def lw_privs_3 : List (MethodName × Nat) := [(⟨"KeyKeepersModel", "send", "(IIII)V"⟩, 18), (⟨"KeyKeepersModel", "pairAt", "(II)I"⟩, 18), (⟨"KeyKeepersModel", "comesIn", "(I)V"⟩, 18), (⟨"KeyKeepersModel", "sent", "()I"⟩, 18), (⟨"KeyKeepersModel", "queue", "(II)V"⟩, 18), (⟨"KeyKeepersModel", "rules", "(I)V"⟩, 18), (⟨"KeyKeepersModel", "stands", "()Z"⟩, 18), (⟨"KeyKeepersModel", "leaves", "(I)V"⟩, 18), (⟨"KeyKeepersModel", "isRowed", "(I)Z"⟩, 18), (⟨"KeyKeepersModel", "passToken", "(II)V"⟩, 18), (⟨"KeyKeepersModel", "comes", "(II)I"⟩, 18), (⟨"KeyKeepersModel", "dropEldest", "(I)V"⟩, 18), (⟨"KeyKeepersModel", "askedComes", "(III)V"⟩, 18), (⟨"KeyKeepersModel", "pairOf", "(I)I"⟩, 18), (⟨"KeyKeepersModel", "hasToken", "(I)Z"⟩, 18), (⟨"KeyKeepersModel", "meets", "()V"⟩, 18)]
theorem lw_r3 : ∀ q ∈ lw_privs_3, lw_okq q := List.forall_mem_cons.mpr ⟨lw_p32, List.forall_mem_cons.mpr ⟨lw_p33, List.forall_mem_cons.mpr ⟨lw_p34, List.forall_mem_cons.mpr ⟨lw_p35, List.forall_mem_cons.mpr ⟨lw_p36, List.forall_mem_cons.mpr ⟨lw_p37, List.forall_mem_cons.mpr ⟨lw_p38, List.forall_mem_cons.mpr ⟨lw_p39, List.forall_mem_cons.mpr ⟨lw_p40, List.forall_mem_cons.mpr ⟨lw_p41, List.forall_mem_cons.mpr ⟨lw_p42, List.forall_mem_cons.mpr ⟨lw_p43, List.forall_mem_cons.mpr ⟨lw_p44, List.forall_mem_cons.mpr ⟨lw_p45, List.forall_mem_cons.mpr ⟨lw_p46, List.forall_mem_cons.mpr ⟨lw_p47, fun _ h => absurd h List.not_mem_nil⟩⟩⟩⟩⟩⟩⟩⟩⟩⟩⟩⟩⟩⟩⟩⟩
theorem lw_p48 : lw_okq (⟨"KeyKeepersModel", "slotOf", "()I"⟩, 18) := ⟨⟨by decide +kernel, by decide +kernel⟩, List.mem_of_getElem? (i := 553) (by decide +kernel), List.mem_of_getElem? (i := 765) (by decide +kernel), List.mem_of_getElem? (i := 766) (by decide +kernel)⟩
theorem lw_p49 : lw_okq (⟨"KeyKeepersModel", "isState", "(I)Z"⟩, 18) := ⟨⟨by decide +kernel, by decide +kernel⟩, List.mem_of_getElem? (i := 553) (by decide +kernel), List.mem_of_getElem? (i := 769) (by decide +kernel), List.mem_of_getElem? (i := 770) (by decide +kernel)⟩
theorem lw_p50 : lw_okq (⟨"KeyKeepersModel", "visit", "(I)V"⟩, 18) := ⟨⟨by decide +kernel, by decide +kernel⟩, List.mem_of_getElem? (i := 553) (by decide +kernel), List.mem_of_getElem? (i := 773) (by decide +kernel), List.mem_of_getElem? (i := 774) (by decide +kernel)⟩
theorem lw_p51 : lw_okq (⟨"KeyKeepersModel", "load", "(I)V"⟩, 18) := ⟨⟨by decide +kernel, by decide +kernel⟩, List.mem_of_getElem? (i := 553) (by decide +kernel), List.mem_of_getElem? (i := 777) (by decide +kernel), List.mem_of_getElem? (i := 778) (by decide +kernel)⟩
theorem lw_p52 : lw_okq (⟨"KeyKeepersModel", "ofMode", "(I)I"⟩, 18) := ⟨⟨by decide +kernel, by decide +kernel⟩, List.mem_of_getElem? (i := 553) (by decide +kernel), List.mem_of_getElem? (i := 781) (by decide +kernel), List.mem_of_getElem? (i := 782) (by decide +kernel)⟩
theorem lw_p53 : lw_okq (⟨"KeyKeepersModel", "underWay", "()I"⟩, 18) := ⟨⟨by decide +kernel, by decide +kernel⟩, List.mem_of_getElem? (i := 553) (by decide +kernel), List.mem_of_getElem? (i := 788) (by decide +kernel), List.mem_of_getElem? (i := 789) (by decide +kernel)⟩
theorem lw_p54 : lw_okq (⟨"KeyKeepersModel", "isTokenSomewhere", "()Z"⟩, 18) := ⟨⟨by decide +kernel, by decide +kernel⟩, List.mem_of_getElem? (i := 553) (by decide +kernel), List.mem_of_getElem? (i := 792) (by decide +kernel), List.mem_of_getElem? (i := 793) (by decide +kernel)⟩
theorem lw_p55 : lw_okq (⟨"KeyKeepersModel", "goes", "()I"⟩, 18) := ⟨⟨by decide +kernel, by decide +kernel⟩, List.mem_of_getElem? (i := 553) (by decide +kernel), List.mem_of_getElem? (i := 796) (by decide +kernel), List.mem_of_getElem? (i := 797) (by decide +kernel)⟩
def lw_privs_4 : List (MethodName × Nat) := [(⟨"KeyKeepersModel", "slotOf", "()I"⟩, 18), (⟨"KeyKeepersModel", "isState", "(I)Z"⟩, 18), (⟨"KeyKeepersModel", "visit", "(I)V"⟩, 18), (⟨"KeyKeepersModel", "load", "(I)V"⟩, 18), (⟨"KeyKeepersModel", "ofMode", "(I)I"⟩, 18), (⟨"KeyKeepersModel", "underWay", "()I"⟩, 18), (⟨"KeyKeepersModel", "isTokenSomewhere", "()Z"⟩, 18), (⟨"KeyKeepersModel", "goes", "()I"⟩, 18)]
theorem lw_r4 : ∀ q ∈ lw_privs_4, lw_okq q := List.forall_mem_cons.mpr ⟨lw_p48, List.forall_mem_cons.mpr ⟨lw_p49, List.forall_mem_cons.mpr ⟨lw_p50, List.forall_mem_cons.mpr ⟨lw_p51, List.forall_mem_cons.mpr ⟨lw_p52, List.forall_mem_cons.mpr ⟨lw_p53, List.forall_mem_cons.mpr ⟨lw_p54, List.forall_mem_cons.mpr ⟨lw_p55, fun _ h => absurd h List.not_mem_nil⟩⟩⟩⟩⟩⟩⟩⟩
def lw_privs : List (MethodName × Nat) := lw_privs_1 ++ (lw_privs_2 ++ (lw_privs_3 ++ (lw_privs_4)))
def lw_tbl : List Cond := k2_sels lw_privs ++ tables_1
theorem lw_privs_ok : ∀ q ∈ lw_privs, lw_okq q := by
  show ∀ q ∈ lw_privs_1 ++ (lw_privs_2 ++ (lw_privs_3 ++ (lw_privs_4))), lw_okq q
  exact List.forall_mem_append.mpr ⟨lw_r1, List.forall_mem_append.mpr ⟨lw_r2, List.forall_mem_append.mpr ⟨lw_r3, lw_r4⟩⟩⟩
/-! ===== BEGIN words of one list among another's, by their places ===== -/
theorem goodIn_r {big : List Cond} (ws : List Cond) (ps : List Nat) (hp : ws = ps.filterMap (fun i => big[i]?)) (h : ws.all goodWord = true) : GoodIn big ws := by
  intro w hw
  have h1 := List.all_eq_true.mp h w hw
  rw [hp] at hw
  obtain ⟨i, -, hi⟩ := List.mem_filterMap.mp hw
  have hm : w ∈ big := by first | exact List.mem_of_getElem? hi | exact List.getElem?_mem hi
  exact ⟨hm, good_of_word h1⟩
theorem goodIn_app {big a b : List Cond} (ha : GoodIn big a) (hb : GoodIn big b) : GoodIn big (a ++ b) := fun w h => (List.mem_append.mp h).elim (ha w) (hb w)
theorem goodIn_ca {big a b : List Cond} {c : Cond} (ha : GoodIn big (c :: a)) (hb : GoodIn big b) : GoodIn big (c :: (a ++ b)) := fun w h => (List.mem_cons.mp h).elim (fun e => ha w (List.mem_cons.mpr (Or.inl e))) (fun h => (List.mem_append.mp h).elim (fun h => ha w (List.mem_cons.mpr (Or.inr h))) (hb w))
theorem goodIn_sub {big ws : List Cond} (hm : ∀ w ∈ ws, w ∈ big) (h : ws.all goodWord = true) : GoodIn big ws := fun w hw => ⟨hm w hw, good_of_word (List.all_eq_true.mp h w hw)⟩
/-! ===== END ===== -/

/-! ===== BEGIN printed: names, fields, word lists, decode rows ===== -/
def RX0 : String := "KeyKeepers$Book"
def TX0 : u_T := fun k => match k with
  | _ => ("KeyKeepers$Book", "lines", "[I", true)
def tyX0 : Nat → FieldType := fun k => match k with
  | _ => .array .int
abbrev wsX00 : List Cond := u_ws RX0 TX0 1
theorem nmX0 : ∀ a, a < 1 → ∀ b, b < 1 → a ≠ b → (TX0 a).2.1 ≠ (TX0 b).2.1 := by decide +kernel
theorem tyX0_ok : ∀ k, k < 1 → parseFieldDescriptor (TX0 k).2.2.1 = some (tyX0 k) := by decide +kernel
abbrev cX0_init : ByteArray := prog_2_method_1_code
def yX0_init : MethodName := ⟨RX0, "<init>", "()V"⟩
abbrev cX0_write : ByteArray := prog_2_method_2_code
def yX0_write : MethodName := ⟨RX0, "write", "(IIII)V"⟩
abbrev cX0_read : ByteArray := prog_2_method_3_code
def yX0_read : MethodName := ⟨RX0, "read", "(II)I"⟩
def RX1 : String := "KeyKeepers$Past"
def TX1 : u_T := fun k => match k with
  | 0 => ("KeyKeepers$Past", "stand", "LKeyKeepers$Stand;", true)
  | 1 => ("KeyKeepers$Past", "rows", "[I", true)
  | 2 => ("KeyKeepers$Past", "place", "I", false)
  | _ => ("KeyKeepers$Past", "kept", "I", false)
def tyX1 : Nat → FieldType := fun k => match k with
  | 0 => .object "KeyKeepers$Stand"
  | 1 => .array .int
  | 2 => .int
  | _ => .int
abbrev wsX10 : List Cond := u_ws RX1 TX1 4
theorem nmX1 : ∀ a, a < 4 → ∀ b, b < 4 → a ≠ b → (TX1 a).2.1 ≠ (TX1 b).2.1 := by decide +kernel
theorem tyX1_ok : ∀ k, k < 4 → parseFieldDescriptor (TX1 k).2.2.1 = some (tyX1 k) := by decide +kernel
abbrev cX1_init : ByteArray := prog_3_method_1_code
def yX1_init : MethodName := ⟨RX1, "<init>", "(LKeyKeepers$Stand;)V"⟩
abbrev cX1_forget : ByteArray := prog_3_method_2_code
def yX1_forget : MethodName := ⟨RX1, "forget", "()V"⟩
abbrev cX1_mark : ByteArray := prog_3_method_3_code
def yX1_mark : MethodName := ⟨RX1, "mark", "()V"⟩
abbrev cX1_backToMark : ByteArray := prog_3_method_4_code
def yX1_backToMark : MethodName := ⟨RX1, "backToMark", "()V"⟩
abbrev cX1_keepMark : ByteArray := prog_3_method_5_code
def yX1_keepMark : MethodName := ⟨RX1, "keepMark", "()V"⟩
abbrev cX1_takeBack : ByteArray := prog_3_method_6_code
def yX1_takeBack : MethodName := ⟨RX1, "takeBack", "()Z"⟩
def RX2 : String := "KeyKeepers$Search"
def TX2 : u_T := fun k => match k with
  | 0 => ("KeyKeepers$Search", "stand", "LKeyKeepers$Stand;", true)
  | 1 => ("KeyKeepers$Search", "ways", "LKeyKeepers$Ways;", true)
  | 2 => ("KeyKeepers$Search", "states", "[I", true)
  | 3 => ("KeyKeepers$Search", "hashes", "[I", true)
  | 4 => ("KeyKeepers$Search", "table", "[I", true)
  | 5 => ("KeyKeepers$Search", "before", "[I", true)
  | 6 => ("KeyKeepers$Search", "told", "[I", true)
  | 7 => ("KeyKeepers$Search", "found", "I", false)
  | 8 => ("KeyKeepers$Search", "spent", "Z", false)
  | _ => ("KeyKeepers$Search", "brought", "Z", false)
def tyX2 : Nat → FieldType := fun k => match k with
  | 0 => .object "KeyKeepers$Stand"
  | 1 => .object "KeyKeepers$Ways"
  | 2 => .array .int
  | 3 => .array .int
  | 4 => .array .int
  | 5 => .array .int
  | 6 => .array .int
  | 7 => .int
  | 8 => .boolean
  | _ => .boolean
abbrev wsX20 : List Cond := u_ws RX2 TX2 10
theorem nmX2 : ∀ a, a < 10 → ∀ b, b < 10 → a ≠ b → (TX2 a).2.1 ≠ (TX2 b).2.1 := by decide +kernel
theorem tyX2_ok : ∀ k, k < 10 → parseFieldDescriptor (TX2 k).2.2.1 = some (tyX2 k) := by decide +kernel
abbrev cX2_init : ByteArray := prog_4_method_1_code
def yX2_init : MethodName := ⟨RX2, "<init>", "(LKeyKeepers$Stand;LKeyKeepers$Ways;)V"⟩
abbrev cX2_goThrough : ByteArray := prog_4_method_2_code
def yX2_goThrough : MethodName := ⟨RX2, "goThrough", "()I"⟩
abbrev cX2_goFrom : ByteArray := prog_4_method_3_code
def yX2_goFrom : MethodName := ⟨RX2, "goFrom", "(I)V"⟩
abbrev cX2_load : ByteArray := prog_4_method_4_code
def yX2_load : MethodName := ⟨RX2, "load", "(I)V"⟩
abbrev cX2_tally : ByteArray := prog_4_method_5_code
def yX2_tally : MethodName := ⟨RX2, "tally", "()V"⟩
abbrev cX2_weigh : ByteArray := prog_4_method_6_code
def yX2_weigh : MethodName := ⟨RX2, "weigh", "(I)V"⟩
abbrev cX2_keep : ByteArray := prog_4_method_7_code
def yX2_keep : MethodName := ⟨RX2, "keep", "()V"⟩
abbrev cX2_isState : ByteArray := prog_4_method_8_code
def yX2_isState : MethodName := ⟨RX2, "isState", "(II)Z"⟩
abbrev cX2_isLike : ByteArray := prog_4_method_9_code
def yX2_isLike : MethodName := ⟨RX2, "isLike", "(III)Z"⟩
abbrev cX2_hash : ByteArray := prog_4_method_10_code
def yX2_hash : MethodName := ⟨RX2, "hash", "()I"⟩
abbrev cX2_mixed : ByteArray := prog_4_method_11_code
def yX2_mixed : MethodName := ⟨RX2, "mixed", "(III)I"⟩
def RX3 : String := "KeyKeepers$Stand"
def TX3 : u_T := fun k => match k with
  | 0 => ("KeyKeepers$Stand", "row", "[I", true)
  | 1 => ("KeyKeepers$Stand", "way", "I", false)
  | 2 => ("KeyKeepers$Stand", "n", "I", false)
  | _ => ("KeyKeepers$Stand", "tooMany", "Z", false)
def tyX3 : Nat → FieldType := fun k => match k with
  | 0 => .array .int
  | 1 => .int
  | 2 => .int
  | _ => .boolean
abbrev wsX30 : List Cond := u_ws RX3 TX3 4
theorem nmX3 : ∀ a, a < 4 → ∀ b, b < 4 → a ≠ b → (TX3 a).2.1 ≠ (TX3 b).2.1 := by decide +kernel
theorem tyX3_ok : ∀ k, k < 4 → parseFieldDescriptor (TX3 k).2.2.1 = some (tyX3 k) := by decide +kernel
abbrev cX3_init : ByteArray := prog_5_method_1_code
def yX3_init : MethodName := ⟨RX3, "<init>", "()V"⟩
abbrev cX3_kindOf : ByteArray := prog_5_method_2_code
def yX3_kindOf : MethodName := ⟨RX3, "kindOf", "(I)I"⟩
abbrev cX3_numberOf : ByteArray := prog_5_method_3_code
def yX3_numberOf : MethodName := ⟨RX3, "numberOf", "(I)I"⟩
abbrev cX3_startAnew : ByteArray := prog_5_method_4_code
def yX3_startAnew : MethodName := ⟨RX3, "startAnew", "(II)V"⟩
abbrev cX3_isKeeper : ByteArray := prog_5_method_5_code
def yX3_isKeeper : MethodName := ⟨RX3, "isKeeper", "(I)Z"⟩
abbrev cX3_isPair : ByteArray := prog_5_method_6_code
def yX3_isPair : MethodName := ⟨RX3, "isPair", "(II)Z"⟩
abbrev cX3_get : ByteArray := prog_5_method_7_code
def yX3_get : MethodName := ⟨RX3, "get", "(I)I"⟩
abbrev cX3_put : ByteArray := prog_5_method_8_code
def yX3_put : MethodName := ⟨RX3, "put", "(II)V"⟩
abbrev cX3_of : ByteArray := prog_5_method_9_code
def yX3_of : MethodName := ⟨RX3, "of", "(II)I"⟩
abbrev cX3_set : ByteArray := prog_5_method_10_code
def yX3_set : MethodName := ⟨RX3, "set", "(III)V"⟩
abbrev cX3_known : ByteArray := prog_5_method_11_code
def yX3_known : MethodName := ⟨RX3, "known", "(II)I"⟩
abbrev cX3_setKnown : ByteArray := prog_5_method_12_code
def yX3_setKnown : MethodName := ⟨RX3, "setKnown", "(III)V"⟩
abbrev cX3_queueOf : ByteArray := prog_5_method_13_code
def yX3_queueOf : MethodName := ⟨RX3, "queueOf", "(I)I"⟩
abbrev cX3_wayFrom : ByteArray := prog_5_method_14_code
def yX3_wayFrom : MethodName := ⟨RX3, "wayFrom", "()I"⟩
abbrev cX3_wayTo : ByteArray := prog_5_method_15_code
def yX3_wayTo : MethodName := ⟨RX3, "wayTo", "()I"⟩
abbrev cX3_append : ByteArray := prog_5_method_16_code
def yX3_append : MethodName := ⟨RX3, "append", "(III)Z"⟩
abbrev cX3_takeFirst : ByteArray := prog_5_method_17_code
def yX3_takeFirst : MethodName := ⟨RX3, "takeFirst", "(II)I"⟩
abbrev cX3_rowHas : ByteArray := prog_5_method_18_code
def yX3_rowHas : MethodName := ⟨RX3, "rowHas", "(I)Z"⟩
abbrev cX3_lettersOf : ByteArray := prog_5_method_19_code
def yX3_lettersOf : MethodName := ⟨RX3, "lettersOf", "(II)I"⟩
abbrev cX3_underWay : ByteArray := prog_5_method_20_code
def yX3_underWay : MethodName := ⟨RX3, "underWay", "(II)I"⟩
abbrev cX3_letterAt : ByteArray := prog_5_method_21_code
def yX3_letterAt : MethodName := ⟨RX3, "letterAt", "(III)I"⟩
abbrev cX3_send : ByteArray := prog_5_method_22_code
def yX3_send : MethodName := ⟨RX3, "send", "(IIII)V"⟩
abbrev cX3_sendToOthers : ByteArray := prog_5_method_23_code
def yX3_sendToOthers : MethodName := ⟨RX3, "sendToOthers", "(III)V"⟩
abbrev cX3_takeLetter : ByteArray := prog_5_method_24_code
def yX3_takeLetter : MethodName := ⟨RX3, "takeLetter", "(II)I"⟩
abbrev cX3_sentInAll : ByteArray := prog_5_method_25_code
def yX3_sentInAll : MethodName := ⟨RX3, "sentInAll", "()I"⟩
abbrev cX3_underWayInAll : ByteArray := prog_5_method_26_code
def yX3_underWayInAll : MethodName := ⟨RX3, "underWayInAll", "()I"⟩
abbrev cX3_busyPairs : ByteArray := prog_5_method_27_code
def yX3_busyPairs : MethodName := ⟨RX3, "busyPairs", "()I"⟩
abbrev cX3_busyPair : ByteArray := prog_5_method_28_code
def yX3_busyPair : MethodName := ⟨RX3, "busyPair", "(I)I"⟩
abbrev cX3_howMany : ByteArray := prog_5_method_29_code
def yX3_howMany : MethodName := ⟨RX3, "howMany", "(I)I"⟩
abbrev cX3_hasToken : ByteArray := prog_5_method_30_code
def yX3_hasToken : MethodName := ⟨RX3, "hasToken", "(I)Z"⟩
abbrev cX3_tokenIsLost : ByteArray := prog_5_method_31_code
def yX3_tokenIsLost : MethodName := ⟨RX3, "tokenIsLost", "()Z"⟩
abbrev cX3_tokenBetween : ByteArray := prog_5_method_32_code
def yX3_tokenBetween : MethodName := ⟨RX3, "tokenBetween", "(II)Z"⟩
abbrev cX3_copyTo : ByteArray := prog_5_method_33_code
def yX3_copyTo : MethodName := ⟨RX3, "copyTo", "([III)V"⟩
abbrev cX3_copyFrom : ByteArray := prog_5_method_34_code
def yX3_copyFrom : MethodName := ⟨RX3, "copyFrom", "([III)V"⟩
def RX4 : String := "KeyKeepers$Ways"
def TX4 : u_T := fun k => match k with
  | 0 => ("KeyKeepers$Ways", "stand", "LKeyKeepers$Stand;", true)
  | 1 => ("KeyKeepers$Ways", "book", "LKeyKeepers$Book;", true)
  | _ => ("KeyKeepers$Ways", "writing", "Z", false)
def tyX4 : Nat → FieldType := fun k => match k with
  | 0 => .object "KeyKeepers$Stand"
  | 1 => .object "KeyKeepers$Book"
  | _ => .boolean
abbrev wsX40 : List Cond := u_ws RX4 TX4 3
theorem nmX4 : ∀ a, a < 3 → ∀ b, b < 3 → a ≠ b → (TX4 a).2.1 ≠ (TX4 b).2.1 := by decide +kernel
theorem tyX4_ok : ∀ k, k < 3 → parseFieldDescriptor (TX4 k).2.2.1 = some (tyX4 k) := by decide +kernel
abbrev cX4_init : ByteArray := prog_6_method_1_code
def yX4_init : MethodName := ⟨RX4, "<init>", "(LKeyKeepers$Stand;LKeyKeepers$Book;)V"⟩
abbrev cX4_wanted : ByteArray := prog_6_method_2_code
def yX4_wanted : MethodName := ⟨RX4, "wanted", "(I)V"⟩
abbrev cX4_left : ByteArray := prog_6_method_3_code
def yX4_left : MethodName := ⟨RX4, "left", "(I)V"⟩
abbrev cX4_coming : ByteArray := prog_6_method_4_code
def yX4_coming : MethodName := ⟨RX4, "coming", "(II)V"⟩
abbrev cX4_stillToCome : ByteArray := prog_6_method_5_code
def yX4_stillToCome : MethodName := ⟨RX4, "stillToCome", "(I)I"⟩
abbrev cX4_enter : ByteArray := prog_6_method_6_code
def yX4_enter : MethodName := ⟨RX4, "enter", "(I)V"⟩
abbrev cX4_wantedByAsking : ByteArray := prog_6_method_7_code
def yX4_wantedByAsking : MethodName := ⟨RX4, "wantedByAsking", "(I)V"⟩
abbrev cX4_askedByAsking : ByteArray := prog_6_method_8_code
def yX4_askedByAsking : MethodName := ⟨RX4, "askedByAsking", "(III)V"⟩
abbrev cX4_goesBefore : ByteArray := prog_6_method_9_code
def yX4_goesBefore : MethodName := ⟨RX4, "goesBefore", "(III)Z"⟩
abbrev cX4_given : ByteArray := prog_6_method_10_code
def yX4_given : MethodName := ⟨RX4, "given", "(II)V"⟩
abbrev cX4_leftByAsking : ByteArray := prog_6_method_11_code
def yX4_leftByAsking : MethodName := ⟨RX4, "leftByAsking", "(I)V"⟩
abbrev cX4_wantedByToken : ByteArray := prog_6_method_12_code
def yX4_wantedByToken : MethodName := ⟨RX4, "wantedByToken", "(I)V"⟩
abbrev cX4_askedByToken : ByteArray := prog_6_method_13_code
def yX4_askedByToken : MethodName := ⟨RX4, "askedByToken", "(III)V"⟩
abbrev cX4_isDue : ByteArray := prog_6_method_14_code
def yX4_isDue : MethodName := ⟨RX4, "isDue", "(II)Z"⟩
abbrev cX4_passToken : ByteArray := prog_6_method_15_code
def yX4_passToken : MethodName := ⟨RX4, "passToken", "(II)V"⟩
abbrev cX4_leftByToken : ByteArray := prog_6_method_16_code
def yX4_leftByToken : MethodName := ⟨RX4, "leftByToken", "(I)V"⟩
abbrev cX4_queue : ByteArray := prog_6_method_17_code
def yX4_queue : MethodName := ⟨RX4, "queue", "(II)V"⟩
abbrev cX4_followRules : ByteArray := prog_6_method_18_code
def yX4_followRules : MethodName := ⟨RX4, "followRules", "(I)V"⟩
def RX5 : String := "KeyKeepers"
def TX5 : u_T := fun k => match k with
  | 0 => ("KeyKeepers", "stand", "LKeyKeepers$Stand;", true)
  | 1 => ("KeyKeepers", "book", "LKeyKeepers$Book;", true)
  | 2 => ("KeyKeepers", "ways", "LKeyKeepers$Ways;", true)
  | 3 => ("KeyKeepers", "past", "LKeyKeepers$Past;", true)
  | 4 => ("KeyKeepers", "search", "LKeyKeepers$Search;", true)
  | 5 => ("KeyKeepers", "begins", "I", false)
  | 6 => ("KeyKeepers", "passes", "I", false)
  | _ => ("KeyKeepers", "acted", "Z", false)
def tyX5 : Nat → FieldType := fun k => match k with
  | 0 => .object "KeyKeepers$Stand"
  | 1 => .object "KeyKeepers$Book"
  | 2 => .object "KeyKeepers$Ways"
  | 3 => .object "KeyKeepers$Past"
  | 4 => .object "KeyKeepers$Search"
  | 5 => .int
  | 6 => .int
  | _ => .boolean
abbrev wsX50 : List Cond := u_ws RX5 TX5 8
theorem nmX5 : ∀ a, a < 8 → ∀ b, b < 8 → a ≠ b → (TX5 a).2.1 ≠ (TX5 b).2.1 := by decide +kernel
theorem tyX5_ok : ∀ k, k < 8 → parseFieldDescriptor (TX5 k).2.2.1 = some (tyX5 k) := by decide +kernel
abbrev cX5_init : ByteArray := prog_1_method_1_code
def yX5_init : MethodName := ⟨RX5, "<init>", "()V"⟩
abbrev cX5_begin : ByteArray := prog_1_method_2_code
def yX5_begin : MethodName := ⟨RX5, "begin", "(II)I"⟩
abbrev cX5_parent : ByteArray := prog_1_method_3_code
def yX5_parent : MethodName := ⟨RX5, "parent", "(II)I"⟩
abbrev cX5_want : ByteArray := prog_1_method_4_code
def yX5_want : MethodName := ⟨RX5, "want", "(I)I"⟩
abbrev cX5_leave : ByteArray := prog_1_method_5_code
def yX5_leave : MethodName := ⟨RX5, "leave", "(I)I"⟩
abbrev cX5_come : ByteArray := prog_1_method_6_code
def yX5_come : MethodName := ⟨RX5, "come", "(II)I"⟩
abbrev cX5_run : ByteArray := prog_1_method_7_code
def yX5_run : MethodName := ⟨RX5, "run", "(II)I"⟩
abbrev cX5_keeper : ByteArray := prog_1_method_8_code
def yX5_keeper : MethodName := ⟨RX5, "keeper", "(II)I"⟩
abbrev cX5_knows : ByteArray := prog_1_method_9_code
def yX5_knows : MethodName := ⟨RX5, "knows", "(II)I"⟩
abbrev cX5_token : ByteArray := prog_1_method_10_code
def yX5_token : MethodName := ⟨RX5, "token", "(II)I"⟩
abbrev cX5_letter : ByteArray := prog_1_method_11_code
def yX5_letter : MethodName := ⟨RX5, "letter", "(IIII)I"⟩
abbrev cX5_entry : ByteArray := prog_1_method_12_code
def yX5_entry : MethodName := ⟨RX5, "entry", "(II)I"⟩
abbrev cX5_undo : ByteArray := prog_1_method_13_code
def yX5_undo : MethodName := ⟨RX5, "undo", "()I"⟩
abbrev cX5_pass : ByteArray := prog_1_method_14_code
def yX5_pass : MethodName := ⟨RX5, "pass", "()I"⟩
abbrev cX5_passed : ByteArray := prog_1_method_15_code
def yX5_passed : MethodName := ⟨RX5, "passed", "(I)I"⟩
abbrev cX5_count : ByteArray := prog_1_method_16_code
def yX5_count : MethodName := ⟨RX5, "count", "(I)I"⟩
abbrev cX5_timeOf : ByteArray := prog_1_method_17_code
def yX5_timeOf : MethodName := ⟨RX5, "timeOf", "(I)I"⟩
abbrev cX5_bring : ByteArray := prog_1_method_18_code
def yX5_bring : MethodName := ⟨RX5, "bring", "(II)I"⟩
abbrev cX5_settled : ByteArray := prog_1_method_19_code
def yX5_settled : MethodName := ⟨RX5, "settled", "()Z"⟩
def RX6 : String := "KeyKeepersModel"
def TX6 : u_T := fun k => match k with
  | 0 => ("KeyKeepersModel", "way", "I", false)
  | 1 => ("KeyKeepersModel", "n", "I", false)
  | 2 => ("KeyKeepersModel", "parent", "[I", true)
  | 3 => ("KeyKeepersModel", "st", "[I", true)
  | 4 => ("KeyKeepersModel", "ex", "[I", true)
  | 5 => ("KeyKeepersModel", "isOver", "Z", false)
  | 6 => ("KeyKeepersModel", "records", "Z", false)
  | 7 => ("KeyKeepersModel", "acted", "Z", false)
  | 8 => ("KeyKeepersModel", "begins", "I", false)
  | 9 => ("KeyKeepersModel", "passes", "I", false)
  | 10 => ("KeyKeepersModel", "kept", "I", false)
  | 11 => ("KeyKeepersModel", "was", "[I", true)
  | 12 => ("KeyKeepersModel", "back", "[I", true)
  | 13 => ("KeyKeepersModel", "states", "I", false)
  | 14 => ("KeyKeepersModel", "all", "[I", true)
  | 15 => ("KeyKeepersModel", "slots", "[I", true)
  | 16 => ("KeyKeepersModel", "told", "[I", true)
  | _ => ("KeyKeepersModel", "isSpent", "Z", false)
def tyX6 : Nat → FieldType := fun k => match k with
  | 0 => .int
  | 1 => .int
  | 2 => .array .int
  | 3 => .array .int
  | 4 => .array .int
  | 5 => .boolean
  | 6 => .boolean
  | 7 => .boolean
  | 8 => .int
  | 9 => .int
  | 10 => .int
  | 11 => .array .int
  | 12 => .array .int
  | 13 => .int
  | 14 => .array .int
  | 15 => .array .int
  | 16 => .array .int
  | _ => .boolean
abbrev wsX60 : List Cond := u_ws RX6 TX6 18
theorem nmX6 : ∀ a, a < 18 → ∀ b, b < 18 → a ≠ b → (TX6 a).2.1 ≠ (TX6 b).2.1 := by decide +kernel
theorem tyX6_ok : ∀ k, k < 18 → parseFieldDescriptor (TX6 k).2.2.1 = some (tyX6 k) := by decide +kernel
abbrev cX6_init : ByteArray := prog_8_method_1_code
def yX6_init : MethodName := ⟨RX6, "<init>", "()V"⟩
abbrev cX6_in : ByteArray := prog_8_method_2_code
def yX6_in : MethodName := ⟨RX6, "in", "(III)Z"⟩
abbrev cX6_isKeeper : ByteArray := prog_8_method_3_code
def yX6_isKeeper : MethodName := ⟨RX6, "isKeeper", "(I)Z"⟩
abbrev cX6_clear : ByteArray := prog_8_method_4_code
def yX6_clear : MethodName := ⟨RX6, "clear", "()V"⟩
abbrev cX6_layHolders : ByteArray := prog_8_method_5_code
def yX6_layHolders : MethodName := ⟨RX6, "layHolders", "()V"⟩
abbrev cX6_begin : ByteArray := prog_8_method_6_code
def yX6_begin : MethodName := ⟨RX6, "begin", "(II)I"⟩
abbrev cX6_parent : ByteArray := prog_8_method_7_code
def yX6_parent : MethodName := ⟨RX6, "parent", "(II)I"⟩
abbrev cX6_pairAt : ByteArray := prog_8_method_8_code
def yX6_pairAt : MethodName := ⟨RX6, "pairAt", "(II)I"⟩
abbrev cX6_send : ByteArray := prog_8_method_9_code
def yX6_send : MethodName := ⟨RX6, "send", "(IIII)V"⟩
abbrev cX6_dropEldest : ByteArray := prog_8_method_10_code
def yX6_dropEldest : MethodName := ⟨RX6, "dropEldest", "(I)V"⟩
abbrev cX6_askAll : ByteArray := prog_8_method_11_code
def yX6_askAll : MethodName := ⟨RX6, "askAll", "(II)V"⟩
abbrev cX6_sent : ByteArray := prog_8_method_12_code
def yX6_sent : MethodName := ⟨RX6, "sent", "()I"⟩
abbrev cX6_comesIn : ByteArray := prog_8_method_13_code
def yX6_comesIn : MethodName := ⟨RX6, "comesIn", "(I)V"⟩
abbrev cX6_rules : ByteArray := prog_8_method_14_code
def yX6_rules : MethodName := ⟨RX6, "rules", "(I)V"⟩
abbrev cX6_queue : ByteArray := prog_8_method_15_code
def yX6_queue : MethodName := ⟨RX6, "queue", "(II)V"⟩
abbrev cX6_wants : ByteArray := prog_8_method_16_code
def yX6_wants : MethodName := ⟨RX6, "wants", "(I)V"⟩
abbrev cX6_isRowed : ByteArray := prog_8_method_17_code
def yX6_isRowed : MethodName := ⟨RX6, "isRowed", "(I)Z"⟩
abbrev cX6_passToken : ByteArray := prog_8_method_18_code
def yX6_passToken : MethodName := ⟨RX6, "passToken", "(II)V"⟩
abbrev cX6_leaves : ByteArray := prog_8_method_19_code
def yX6_leaves : MethodName := ⟨RX6, "leaves", "(I)V"⟩
abbrev cX6_askedComes : ByteArray := prog_8_method_20_code
def yX6_askedComes : MethodName := ⟨RX6, "askedComes", "(III)V"⟩
abbrev cX6_comes : ByteArray := prog_8_method_21_code
def yX6_comes : MethodName := ⟨RX6, "comes", "(II)I"⟩
abbrev cX6_store : ByteArray := prog_8_method_22_code
def yX6_store : MethodName := ⟨RX6, "store", "()V"⟩
abbrev cX6_stands : ByteArray := prog_8_method_23_code
def yX6_stands : MethodName := ⟨RX6, "stands", "()Z"⟩
abbrev cX6_want : ByteArray := prog_8_method_24_code
def yX6_want : MethodName := ⟨RX6, "want", "(I)I"⟩
abbrev cX6_leave : ByteArray := prog_8_method_25_code
def yX6_leave : MethodName := ⟨RX6, "leave", "(I)I"⟩
abbrev cX6_come : ByteArray := prog_8_method_26_code
def yX6_come : MethodName := ⟨RX6, "come", "(II)I"⟩
abbrev cX6_pairOf : ByteArray := prog_8_method_27_code
def yX6_pairOf : MethodName := ⟨RX6, "pairOf", "(I)I"⟩
abbrev cX6_run : ByteArray := prog_8_method_28_code
def yX6_run : MethodName := ⟨RX6, "run", "(II)I"⟩
abbrev cX6_hasToken : ByteArray := prog_8_method_29_code
def yX6_hasToken : MethodName := ⟨RX6, "hasToken", "(I)Z"⟩
abbrev cX6_keeper : ByteArray := prog_8_method_30_code
def yX6_keeper : MethodName := ⟨RX6, "keeper", "(II)I"⟩
abbrev cX6_knows : ByteArray := prog_8_method_31_code
def yX6_knows : MethodName := ⟨RX6, "knows", "(II)I"⟩
abbrev cX6_token : ByteArray := prog_8_method_32_code
def yX6_token : MethodName := ⟨RX6, "token", "(II)I"⟩
abbrev cX6_letter : ByteArray := prog_8_method_33_code
def yX6_letter : MethodName := ⟨RX6, "letter", "(IIII)I"⟩
abbrev cX6_entry : ByteArray := prog_8_method_34_code
def yX6_entry : MethodName := ⟨RX6, "entry", "(II)I"⟩
abbrev cX6_undo : ByteArray := prog_8_method_35_code
def yX6_undo : MethodName := ⟨RX6, "undo", "()I"⟩
abbrev cX6_slotOf : ByteArray := prog_8_method_36_code
def yX6_slotOf : MethodName := ⟨RX6, "slotOf", "()I"⟩
abbrev cX6_isState : ByteArray := prog_8_method_37_code
def yX6_isState : MethodName := ⟨RX6, "isState", "(I)Z"⟩
abbrev cX6_meets : ByteArray := prog_8_method_38_code
def yX6_meets : MethodName := ⟨RX6, "meets", "()V"⟩
abbrev cX6_load : ByteArray := prog_8_method_39_code
def yX6_load : MethodName := ⟨RX6, "load", "(I)V"⟩
abbrev cX6_underWay : ByteArray := prog_8_method_40_code
def yX6_underWay : MethodName := ⟨RX6, "underWay", "()I"⟩
abbrev cX6_ofMode : ByteArray := prog_8_method_41_code
def yX6_ofMode : MethodName := ⟨RX6, "ofMode", "(I)I"⟩
abbrev cX6_isTokenSomewhere : ByteArray := prog_8_method_42_code
def yX6_isTokenSomewhere : MethodName := ⟨RX6, "isTokenSomewhere", "()Z"⟩
abbrev cX6_more : ByteArray := prog_8_method_43_code
def yX6_more : MethodName := ⟨RX6, "more", "(II)I"⟩
abbrev cX6_goes : ByteArray := prog_8_method_44_code
def yX6_goes : MethodName := ⟨RX6, "goes", "()I"⟩
abbrev cX6_visit : ByteArray := prog_8_method_45_code
def yX6_visit : MethodName := ⟨RX6, "visit", "(I)V"⟩
abbrev cX6_pass : ByteArray := prog_8_method_46_code
def yX6_pass : MethodName := ⟨RX6, "pass", "()I"⟩
abbrev cX6_passed : ByteArray := prog_8_method_47_code
def yX6_passed : MethodName := ⟨RX6, "passed", "(I)I"⟩
abbrev cX6_count : ByteArray := prog_8_method_48_code
def yX6_count : MethodName := ⟨RX6, "count", "(I)I"⟩
def RJ6 : String := "java/lang/Integer"
def TJ6 : u_T := fun k => match k with
  | _ => ("", "", "", false)
def tyJ6 : Nat → FieldType := fun k => match k with
  | _ => .int
abbrev wsJ60 : List Cond := u_ws RJ6 TJ6 0
theorem nmJ6 : ∀ a, a < 0 → ∀ b, b < 0 → a ≠ b → (TJ6 a).2.1 ≠ (TJ6 b).2.1 := by decide +kernel
theorem tyJ6_ok : ∀ k, k < 0 → parseFieldDescriptor (TJ6 k).2.2.1 = some (tyJ6 k) := by decide +kernel
abbrev cJ6_bitCount_0f7a4 : ByteArray := prog_9_method_49_code
def yJ6_bitCount_0f7a4 : MethodName := ⟨RJ6, "bitCount", "(I)I"⟩
def RJ9 : String := "java/lang/Math"
def TJ9 : u_T := fun k => match k with
  | _ => ("", "", "", false)
def tyJ9 : Nat → FieldType := fun k => match k with
  | _ => .int
abbrev wsJ90 : List Cond := u_ws RJ9 TJ9 0
theorem nmJ9 : ∀ a, a < 0 → ∀ b, b < 0 → a ≠ b → (TJ9 a).2.1 ≠ (TJ9 b).2.1 := by decide +kernel
theorem tyJ9_ok : ∀ k, k < 0 → parseFieldDescriptor (TJ9 k).2.2.1 = some (tyJ9 k) := by decide +kernel
abbrev cJ9_max_7cf53 : ByteArray := prog_10_method_65_code
def yJ9_max_7cf53 : MethodName := ⟨RJ9, "max", "(II)I"⟩
abbrev cJ9_min_7cf53 : ByteArray := prog_10_method_69_code
def yJ9_min_7cf53 : MethodName := ⟨RJ9, "min", "(II)I"⟩
def RJ10 : String := "java/lang/System"
def TJ10 : u_T := fun k => match k with
  | _ => ("", "", "", false)
def tyJ10 : Nat → FieldType := fun k => match k with
  | _ => .int
abbrev wsJ100 : List Cond := u_ws RJ10 TJ10 0
theorem nmJ10 : ∀ a, a < 0 → ∀ b, b < 0 → a ≠ b → (TJ10 a).2.1 ≠ (TJ10 b).2.1 := by decide +kernel
theorem tyJ10_ok : ∀ k, k < 0 → parseFieldDescriptor (TJ10 k).2.2.1 = some (tyJ10 k) := by decide +kernel
def RJ7 : String := "java/util/Arrays"
def TJ7 : u_T := fun k => match k with
  | _ => ("", "", "", false)
def tyJ7 : Nat → FieldType := fun k => match k with
  | _ => .int
abbrev wsJ70 : List Cond := u_ws RJ7 TJ7 0
theorem nmJ7 : ∀ a, a < 0 → ∀ b, b < 0 → a ≠ b → (TJ7 a).2.1 ≠ (TJ7 b).2.1 := by decide +kernel
theorem tyJ7_ok : ∀ k, k < 0 → parseFieldDescriptor (TJ7 k).2.2.1 = some (tyJ7 k) := by decide +kernel
abbrev cJ7_fill_53178 : ByteArray := prog_12_method_103_code
def yJ7_fill_53178 : MethodName := ⟨RJ7, "fill", "([II)V"⟩
def RL : String := "KeyKeepersLaw"
abbrev cL_law : ByteArray := code
def yL_law : MethodName := ⟨RL, "law", "([I)Z"⟩
abbrev vwCl : List vw_C := [(RX0, TX0, 1), (RX1, TX1, 4), (RX2, TX2, 10), (RX3, TX3, 4), (RX4, TX4, 3), (RX5, TX5, 8), (RX6, TX6, 18)]
