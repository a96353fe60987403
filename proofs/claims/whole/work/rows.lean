section
-- ===== PART A: goes FIRST, ahead of the names: the tables' words, and 'selects' of the private methods out of them =====
/-- a private method of a class that the tables say can be made, by its rows of tables_1 -/
def lw_okq (q : MethodName × Nat) : Prop := (q.1.cls ≠ "java/lang/invoke/MethodHandle" ∧ q.1.cls ≠ "java/lang/invoke/VarHandle") ∧ Cond.instantiable q.1.cls q.2 ∈ tables_1 ∧ Cond.privateMethod q.1 ∈ tables_1 ∧ Cond.instanceMethod q.1 ∈ tables_1
theorem lw_p0 : lw_okq (⟨"KeyKeepers$Ways", "wantedByAsking", "(I)V"⟩, 3) := ⟨⟨by decide +kernel, by decide +kernel⟩, List.mem_of_getElem? (i := 60) (by decide +kernel), List.mem_of_getElem? (i := 223) (by decide +kernel), List.mem_of_getElem? (i := 224) (by decide +kernel)⟩
theorem lw_p1 : lw_okq (⟨"KeyKeepers$Ways", "wantedByToken", "(I)V"⟩, 3) := ⟨⟨by decide +kernel, by decide +kernel⟩, List.mem_of_getElem? (i := 60) (by decide +kernel), List.mem_of_getElem? (i := 243) (by decide +kernel), List.mem_of_getElem? (i := 244) (by decide +kernel)⟩
theorem lw_p2 : lw_okq (⟨"KeyKeepers$Ways", "enter", "(I)V"⟩, 3) := ⟨⟨by decide +kernel, by decide +kernel⟩, List.mem_of_getElem? (i := 60) (by decide +kernel), List.mem_of_getElem? (i := 252) (by decide +kernel), List.mem_of_getElem? (i := 253) (by decide +kernel)⟩
theorem lw_p3 : lw_okq (⟨"KeyKeepers$Ways", "queue", "(II)V"⟩, 3) := ⟨⟨by decide +kernel, by decide +kernel⟩, List.mem_of_getElem? (i := 60) (by decide +kernel), List.mem_of_getElem? (i := 272) (by decide +kernel), List.mem_of_getElem? (i := 273) (by decide +kernel)⟩
theorem lw_p4 : lw_okq (⟨"KeyKeepers$Ways", "followRules", "(I)V"⟩, 3) := ⟨⟨by decide +kernel, by decide +kernel⟩, List.mem_of_getElem? (i := 60) (by decide +kernel), List.mem_of_getElem? (i := 280) (by decide +kernel), List.mem_of_getElem? (i := 281) (by decide +kernel)⟩
theorem lw_p5 : lw_okq (⟨"KeyKeepers", "settled", "()Z"⟩, 8) := ⟨⟨by decide +kernel, by decide +kernel⟩, List.mem_of_getElem? (i := 13) (by decide +kernel), List.mem_of_getElem? (i := 289) (by decide +kernel), List.mem_of_getElem? (i := 290) (by decide +kernel)⟩
theorem lw_p6 : lw_okq (⟨"KeyKeepers$Ways", "leftByAsking", "(I)V"⟩, 3) := ⟨⟨by decide +kernel, by decide +kernel⟩, List.mem_of_getElem? (i := 60) (by decide +kernel), List.mem_of_getElem? (i := 317) (by decide +kernel), List.mem_of_getElem? (i := 318) (by decide +kernel)⟩
theorem lw_p7 : lw_okq (⟨"KeyKeepers$Ways", "leftByToken", "(I)V"⟩, 3) := ⟨⟨by decide +kernel, by decide +kernel⟩, List.mem_of_getElem? (i := 60) (by decide +kernel), List.mem_of_getElem? (i := 321) (by decide +kernel), List.mem_of_getElem? (i := 322) (by decide +kernel)⟩
theorem lw_p8 : lw_okq (⟨"KeyKeepers$Ways", "isDue", "(II)Z"⟩, 3) := ⟨⟨by decide +kernel, by decide +kernel⟩, List.mem_of_getElem? (i := 60) (by decide +kernel), List.mem_of_getElem? (i := 329) (by decide +kernel), List.mem_of_getElem? (i := 330) (by decide +kernel)⟩
theorem lw_p9 : lw_okq (⟨"KeyKeepers$Ways", "passToken", "(II)V"⟩, 3) := ⟨⟨by decide +kernel, by decide +kernel⟩, List.mem_of_getElem? (i := 60) (by decide +kernel), List.mem_of_getElem? (i := 333) (by decide +kernel), List.mem_of_getElem? (i := 334) (by decide +kernel)⟩
theorem lw_p10 : lw_okq (⟨"KeyKeepers", "bring", "(II)I"⟩, 8) := ⟨⟨by decide +kernel, by decide +kernel⟩, List.mem_of_getElem? (i := 13) (by decide +kernel), List.mem_of_getElem? (i := 350) (by decide +kernel), List.mem_of_getElem? (i := 351) (by decide +kernel)⟩
theorem lw_p11 : lw_okq (⟨"KeyKeepers$Ways", "askedByAsking", "(III)V"⟩, 3) := ⟨⟨by decide +kernel, by decide +kernel⟩, List.mem_of_getElem? (i := 60) (by decide +kernel), List.mem_of_getElem? (i := 374) (by decide +kernel), List.mem_of_getElem? (i := 375) (by decide +kernel)⟩
theorem lw_p12 : lw_okq (⟨"KeyKeepers$Ways", "goesBefore", "(III)Z"⟩, 3) := ⟨⟨by decide +kernel, by decide +kernel⟩, List.mem_of_getElem? (i := 60) (by decide +kernel), List.mem_of_getElem? (i := 381) (by decide +kernel), List.mem_of_getElem? (i := 382) (by decide +kernel)⟩
theorem lw_p13 : lw_okq (⟨"KeyKeepers$Ways", "given", "(II)V"⟩, 3) := ⟨⟨by decide +kernel, by decide +kernel⟩, List.mem_of_getElem? (i := 60) (by decide +kernel), List.mem_of_getElem? (i := 385) (by decide +kernel), List.mem_of_getElem? (i := 386) (by decide +kernel)⟩
theorem lw_p14 : lw_okq (⟨"KeyKeepers$Ways", "askedByToken", "(III)V"⟩, 3) := ⟨⟨by decide +kernel, by decide +kernel⟩, List.mem_of_getElem? (i := 60) (by decide +kernel), List.mem_of_getElem? (i := 399) (by decide +kernel), List.mem_of_getElem? (i := 400) (by decide +kernel)⟩
theorem lw_p15 : lw_okq (⟨"KeyKeepers", "timeOf", "(I)I"⟩, 8) := ⟨⟨by decide +kernel, by decide +kernel⟩, List.mem_of_getElem? (i := 13) (by decide +kernel), List.mem_of_getElem? (i := 424) (by decide +kernel), List.mem_of_getElem? (i := 425) (by decide +kernel)⟩
def lw_privs_1 : List (MethodName × Nat) := [(⟨"KeyKeepers$Ways", "wantedByAsking", "(I)V"⟩, 3), (⟨"KeyKeepers$Ways", "wantedByToken", "(I)V"⟩, 3), (⟨"KeyKeepers$Ways", "enter", "(I)V"⟩, 3), (⟨"KeyKeepers$Ways", "queue", "(II)V"⟩, 3), (⟨"KeyKeepers$Ways", "followRules", "(I)V"⟩, 3), (⟨"KeyKeepers", "settled", "()Z"⟩, 8), (⟨"KeyKeepers$Ways", "leftByAsking", "(I)V"⟩, 3), (⟨"KeyKeepers$Ways", "leftByToken", "(I)V"⟩, 3), (⟨"KeyKeepers$Ways", "isDue", "(II)Z"⟩, 3), (⟨"KeyKeepers$Ways", "passToken", "(II)V"⟩, 3), (⟨"KeyKeepers", "bring", "(II)I"⟩, 8), (⟨"KeyKeepers$Ways", "askedByAsking", "(III)V"⟩, 3), (⟨"KeyKeepers$Ways", "goesBefore", "(III)Z"⟩, 3), (⟨"KeyKeepers$Ways", "given", "(II)V"⟩, 3), (⟨"KeyKeepers$Ways", "askedByToken", "(III)V"⟩, 3), (⟨"KeyKeepers", "timeOf", "(I)I"⟩, 8)]
theorem lw_r1 : ∀ q ∈ lw_privs_1, lw_okq q := List.forall_mem_cons.mpr ⟨lw_p0, List.forall_mem_cons.mpr ⟨lw_p1, List.forall_mem_cons.mpr ⟨lw_p2, List.forall_mem_cons.mpr ⟨lw_p3, List.forall_mem_cons.mpr ⟨lw_p4, List.forall_mem_cons.mpr ⟨lw_p5, List.forall_mem_cons.mpr ⟨lw_p6, List.forall_mem_cons.mpr ⟨lw_p7, List.forall_mem_cons.mpr ⟨lw_p8, List.forall_mem_cons.mpr ⟨lw_p9, List.forall_mem_cons.mpr ⟨lw_p10, List.forall_mem_cons.mpr ⟨lw_p11, List.forall_mem_cons.mpr ⟨lw_p12, List.forall_mem_cons.mpr ⟨lw_p13, List.forall_mem_cons.mpr ⟨lw_p14, List.forall_mem_cons.mpr ⟨lw_p15, fun _ h => absurd h List.not_mem_nil⟩⟩⟩⟩⟩⟩⟩⟩⟩⟩⟩⟩⟩⟩⟩⟩
theorem lw_p16 : lw_okq (⟨"KeyKeepers$Search", "keep", "()V"⟩, 10) := ⟨⟨by decide +kernel, by decide +kernel⟩, List.mem_of_getElem? (i := 97) (by decide +kernel), List.mem_of_getElem? (i := 473) (by decide +kernel), List.mem_of_getElem? (i := 474) (by decide +kernel)⟩
theorem lw_p17 : lw_okq (⟨"KeyKeepers$Search", "hash", "()I"⟩, 10) := ⟨⟨by decide +kernel, by decide +kernel⟩, List.mem_of_getElem? (i := 97) (by decide +kernel), List.mem_of_getElem? (i := 477) (by decide +kernel), List.mem_of_getElem? (i := 478) (by decide +kernel)⟩
theorem lw_p18 : lw_okq (⟨"KeyKeepers$Search", "mixed", "(III)I"⟩, 10) := ⟨⟨by decide +kernel, by decide +kernel⟩, List.mem_of_getElem? (i := 97) (by decide +kernel), List.mem_of_getElem? (i := 481) (by decide +kernel), List.mem_of_getElem? (i := 482) (by decide +kernel)⟩
theorem lw_p19 : lw_okq (⟨"KeyKeepers$Search", "isState", "(II)Z"⟩, 10) := ⟨⟨by decide +kernel, by decide +kernel⟩, List.mem_of_getElem? (i := 97) (by decide +kernel), List.mem_of_getElem? (i := 496) (by decide +kernel), List.mem_of_getElem? (i := 497) (by decide +kernel)⟩
theorem lw_p20 : lw_okq (⟨"KeyKeepers$Search", "isLike", "(III)Z"⟩, 10) := ⟨⟨by decide +kernel, by decide +kernel⟩, List.mem_of_getElem? (i := 97) (by decide +kernel), List.mem_of_getElem? (i := 500) (by decide +kernel), List.mem_of_getElem? (i := 501) (by decide +kernel)⟩
theorem lw_p21 : lw_okq (⟨"KeyKeepers$Search", "goFrom", "(I)V"⟩, 10) := ⟨⟨by decide +kernel, by decide +kernel⟩, List.mem_of_getElem? (i := 97) (by decide +kernel), List.mem_of_getElem? (i := 504) (by decide +kernel), List.mem_of_getElem? (i := 505) (by decide +kernel)⟩
theorem lw_p22 : lw_okq (⟨"KeyKeepers$Search", "load", "(I)V"⟩, 10) := ⟨⟨by decide +kernel, by decide +kernel⟩, List.mem_of_getElem? (i := 97) (by decide +kernel), List.mem_of_getElem? (i := 508) (by decide +kernel), List.mem_of_getElem? (i := 509) (by decide +kernel)⟩
theorem lw_p23 : lw_okq (⟨"KeyKeepers$Search", "tally", "()V"⟩, 10) := ⟨⟨by decide +kernel, by decide +kernel⟩, List.mem_of_getElem? (i := 97) (by decide +kernel), List.mem_of_getElem? (i := 517) (by decide +kernel), List.mem_of_getElem? (i := 518) (by decide +kernel)⟩
theorem lw_p24 : lw_okq (⟨"KeyKeepers$Stand", "tokenBetween", "(II)Z"⟩, 4) := ⟨⟨by decide +kernel, by decide +kernel⟩, List.mem_of_getElem? (i := 21) (by decide +kernel), List.mem_of_getElem? (i := 526) (by decide +kernel), List.mem_of_getElem? (i := 527) (by decide +kernel)⟩
theorem lw_p25 : lw_okq (⟨"KeyKeepers$Search", "weigh", "(I)V"⟩, 10) := ⟨⟨by decide +kernel, by decide +kernel⟩, List.mem_of_getElem? (i := 97) (by decide +kernel), List.mem_of_getElem? (i := 537) (by decide +kernel), List.mem_of_getElem? (i := 538) (by decide +kernel)⟩
theorem lw_p26 : lw_okq (⟨"KeyKeepersModel", "clear", "()V"⟩, 18) := ⟨⟨by decide +kernel, by decide +kernel⟩, List.mem_of_getElem? (i := 553) (by decide +kernel), List.mem_of_getElem? (i := 561) (by decide +kernel), List.mem_of_getElem? (i := 562) (by decide +kernel)⟩
theorem lw_p27 : lw_okq (⟨"KeyKeepersModel", "layHolders", "()V"⟩, 18) := ⟨⟨by decide +kernel, by decide +kernel⟩, List.mem_of_getElem? (i := 553) (by decide +kernel), List.mem_of_getElem? (i := 565) (by decide +kernel), List.mem_of_getElem? (i := 566) (by decide +kernel)⟩
theorem lw_p28 : lw_okq (⟨"KeyKeepersModel", "isKeeper", "(I)Z"⟩, 18) := ⟨⟨by decide +kernel, by decide +kernel⟩, List.mem_of_getElem? (i := 553) (by decide +kernel), List.mem_of_getElem? (i := 639) (by decide +kernel), List.mem_of_getElem? (i := 640) (by decide +kernel)⟩
theorem lw_p29 : lw_okq (⟨"KeyKeepersModel", "store", "()V"⟩, 18) := ⟨⟨by decide +kernel, by decide +kernel⟩, List.mem_of_getElem? (i := 553) (by decide +kernel), List.mem_of_getElem? (i := 643) (by decide +kernel), List.mem_of_getElem? (i := 644) (by decide +kernel)⟩
theorem lw_p30 : lw_okq (⟨"KeyKeepersModel", "wants", "(I)V"⟩, 18) := ⟨⟨by decide +kernel, by decide +kernel⟩, List.mem_of_getElem? (i := 553) (by decide +kernel), List.mem_of_getElem? (i := 647) (by decide +kernel), List.mem_of_getElem? (i := 648) (by decide +kernel)⟩
theorem lw_p31 : lw_okq (⟨"KeyKeepersModel", "askAll", "(II)V"⟩, 18) := ⟨⟨by decide +kernel, by decide +kernel⟩, List.mem_of_getElem? (i := 553) (by decide +kernel), List.mem_of_getElem? (i := 651) (by decide +kernel), List.mem_of_getElem? (i := 652) (by decide +kernel)⟩
def lw_privs_2 : List (MethodName × Nat) := [(⟨"KeyKeepers$Search", "keep", "()V"⟩, 10), (⟨"KeyKeepers$Search", "hash", "()I"⟩, 10), (⟨"KeyKeepers$Search", "mixed", "(III)I"⟩, 10), (⟨"KeyKeepers$Search", "isState", "(II)Z"⟩, 10), (⟨"KeyKeepers$Search", "isLike", "(III)Z"⟩, 10), (⟨"KeyKeepers$Search", "goFrom", "(I)V"⟩, 10), (⟨"KeyKeepers$Search", "load", "(I)V"⟩, 10), (⟨"KeyKeepers$Search", "tally", "()V"⟩, 10), (⟨"KeyKeepers$Stand", "tokenBetween", "(II)Z"⟩, 4), (⟨"KeyKeepers$Search", "weigh", "(I)V"⟩, 10), (⟨"KeyKeepersModel", "clear", "()V"⟩, 18), (⟨"KeyKeepersModel", "layHolders", "()V"⟩, 18), (⟨"KeyKeepersModel", "isKeeper", "(I)Z"⟩, 18), (⟨"KeyKeepersModel", "store", "()V"⟩, 18), (⟨"KeyKeepersModel", "wants", "(I)V"⟩, 18), (⟨"KeyKeepersModel", "askAll", "(II)V"⟩, 18)]
theorem lw_r2 : ∀ q ∈ lw_privs_2, lw_okq q := List.forall_mem_cons.mpr ⟨lw_p16, List.forall_mem_cons.mpr ⟨lw_p17, List.forall_mem_cons.mpr ⟨lw_p18, List.forall_mem_cons.mpr ⟨lw_p19, List.forall_mem_cons.mpr ⟨lw_p20, List.forall_mem_cons.mpr ⟨lw_p21, List.forall_mem_cons.mpr ⟨lw_p22, List.forall_mem_cons.mpr ⟨lw_p23, List.forall_mem_cons.mpr ⟨lw_p24, List.forall_mem_cons.mpr ⟨lw_p25, List.forall_mem_cons.mpr ⟨lw_p26, List.forall_mem_cons.mpr ⟨lw_p27, List.forall_mem_cons.mpr ⟨lw_p28, List.forall_mem_cons.mpr ⟨lw_p29, List.forall_mem_cons.mpr ⟨lw_p30, List.forall_mem_cons.mpr ⟨lw_p31, fun _ h => absurd h List.not_mem_nil⟩⟩⟩⟩⟩⟩⟩⟩⟩⟩⟩⟩⟩⟩⟩⟩
theorem lw_p32 : lw_okq (⟨"KeyKeepersModel", "send", "(IIII)V"⟩, 18) := ⟨⟨by decide +kernel, by decide +kernel⟩, List.mem_of_getElem? (i := 553) (by decide +kernel), List.mem_of_getElem? (i := 655) (by decide +kernel), List.mem_of_getElem? (i := 656) (by decide +kernel)⟩
theorem lw_p33 : lw_okq (⟨"KeyKeepersModel", "pairAt", "(II)I"⟩, 18) := ⟨⟨by decide +kernel, by decide +kernel⟩, List.mem_of_getElem? (i := 553) (by decide +kernel), List.mem_of_getElem? (i := 659) (by decide +kernel), List.mem_of_getElem? (i := 660) (by decide +kernel)⟩
theorem lw_p34 : lw_okq (⟨"KeyKeepersModel", "comesIn", "(I)V"⟩, 18) := ⟨⟨by decide +kernel, by decide +kernel⟩, List.mem_of_getElem? (i := 553) (by decide +kernel), List.mem_of_getElem? (i := 663) (by decide +kernel), List.mem_of_getElem? (i := 664) (by decide +kernel)⟩
theorem lw_p35 : lw_okq (⟨"KeyKeepersModel", "sent", "()I"⟩, 18) := ⟨⟨by decide +kernel, by decide +kernel⟩, List.mem_of_getElem? (i := 553) (by decide +kernel), List.mem_of_getElem? (i := 667) (by decide +kernel), List.mem_of_getElem? (i := 668) (by decide +kernel)⟩
theorem lw_p36 : lw_okq (⟨"KeyKeepersModel", "queue", "(II)V"⟩, 18) := ⟨⟨by decide +kernel, by decide +kernel⟩, List.mem_of_getElem? (i := 553) (by decide +kernel), List.mem_of_getElem? (i := 671) (by decide +kernel), List.mem_of_getElem? (i := 672) (by decide +kernel)⟩
theorem lw_p37 : lw_okq (⟨"KeyKeepersModel", "rules", "(I)V"⟩, 18) := ⟨⟨by decide +kernel, by decide +kernel⟩, List.mem_of_getElem? (i := 553) (by decide +kernel), List.mem_of_getElem? (i := 675) (by decide +kernel), List.mem_of_getElem? (i := 676) (by decide +kernel)⟩
theorem lw_p38 : lw_okq (⟨"KeyKeepersModel", "stands", "()Z"⟩, 18) := ⟨⟨by decide +kernel, by decide +kernel⟩, List.mem_of_getElem? (i := 553) (by decide +kernel), List.mem_of_getElem? (i := 679) (by decide +kernel), List.mem_of_getElem? (i := 680) (by decide +kernel)⟩
theorem lw_p39 : lw_okq (⟨"KeyKeepersModel", "leaves", "(I)V"⟩, 18) := ⟨⟨by decide +kernel, by decide +kernel⟩, List.mem_of_getElem? (i := 553) (by decide +kernel), List.mem_of_getElem? (i := 688) (by decide +kernel), List.mem_of_getElem? (i := 689) (by decide +kernel)⟩
theorem lw_p40 : lw_okq (⟨"KeyKeepersModel", "isRowed", "(I)Z"⟩, 18) := ⟨⟨by decide +kernel, by decide +kernel⟩, List.mem_of_getElem? (i := 553) (by decide +kernel), List.mem_of_getElem? (i := 692) (by decide +kernel), List.mem_of_getElem? (i := 693) (by decide +kernel)⟩
theorem lw_p41 : lw_okq (⟨"KeyKeepersModel", "passToken", "(II)V"⟩, 18) := ⟨⟨by decide +kernel, by decide +kernel⟩, List.mem_of_getElem? (i := 553) (by decide +kernel), List.mem_of_getElem? (i := 696) (by decide +kernel), List.mem_of_getElem? (i := 697) (by decide +kernel)⟩
theorem lw_p42 : lw_okq (⟨"KeyKeepersModel", "comes", "(II)I"⟩, 18) := ⟨⟨by decide +kernel, by decide +kernel⟩, List.mem_of_getElem? (i := 553) (by decide +kernel), List.mem_of_getElem? (i := 704) (by decide +kernel), List.mem_of_getElem? (i := 705) (by decide +kernel)⟩
theorem lw_p43 : lw_okq (⟨"KeyKeepersModel", "dropEldest", "(I)V"⟩, 18) := ⟨⟨by decide +kernel, by decide +kernel⟩, List.mem_of_getElem? (i := 553) (by decide +kernel), List.mem_of_getElem? (i := 708) (by decide +kernel), List.mem_of_getElem? (i := 709) (by decide +kernel)⟩
theorem lw_p44 : lw_okq (⟨"KeyKeepersModel", "askedComes", "(III)V"⟩, 18) := ⟨⟨by decide +kernel, by decide +kernel⟩, List.mem_of_getElem? (i := 553) (by decide +kernel), List.mem_of_getElem? (i := 712) (by decide +kernel), List.mem_of_getElem? (i := 713) (by decide +kernel)⟩
theorem lw_p45 : lw_okq (⟨"KeyKeepersModel", "pairOf", "(I)I"⟩, 18) := ⟨⟨by decide +kernel, by decide +kernel⟩, List.mem_of_getElem? (i := 553) (by decide +kernel), List.mem_of_getElem? (i := 720) (by decide +kernel), List.mem_of_getElem? (i := 721) (by decide +kernel)⟩
theorem lw_p46 : lw_okq (⟨"KeyKeepersModel", "hasToken", "(I)Z"⟩, 18) := ⟨⟨by decide +kernel, by decide +kernel⟩, List.mem_of_getElem? (i := 553) (by decide +kernel), List.mem_of_getElem? (i := 733) (by decide +kernel), List.mem_of_getElem? (i := 734) (by decide +kernel)⟩
theorem lw_p47 : lw_okq (⟨"KeyKeepersModel", "meets", "()V"⟩, 18) := ⟨⟨by decide +kernel, by decide +kernel⟩, List.mem_of_getElem? (i := 553) (by decide +kernel), List.mem_of_getElem? (i := 761) (by decide +kernel), List.mem_of_getElem? (i := 762) (by decide +kernel)⟩
def lw_privs_3 : List (MethodName × Nat) := [(⟨"KeyKeepersModel", "send", "(IIII)V"⟩, 18), (⟨"KeyKeepersModel", "pairAt", "(II)I"⟩, 18), (⟨"KeyKeepersModel", "comesIn", "(I)V"⟩, 18), (⟨"KeyKeepersModel", "sent", "()I"⟩, 18), (⟨"KeyKeepersModel", "queue", "(II)V"⟩, 18), (⟨"KeyKeepersModel", "rules", "(I)V"⟩, 18), (⟨"KeyKeepersModel", "stands", "()Z"⟩, 18), (⟨"KeyKeepersModel", "leaves", "(I)V"⟩, 18), (⟨"KeyKeepersModel", "isRowed", "(I)Z"⟩, 18), (⟨"KeyKeepersModel", "passToken", "(II)V"⟩, 18), (⟨"KeyKeepersModel", "comes", "(II)I"⟩, 18), (⟨"KeyKeepersModel", "dropEldest", "(I)V"⟩, 18), (⟨"KeyKeepersModel", "askedComes", "(III)V"⟩, 18), (⟨"KeyKeepersModel", "pairOf", "(I)I"⟩, 18), (⟨"KeyKeepersModel", "hasToken", "(I)Z"⟩, 18), (⟨"KeyKeepersModel", "meets", "()V"⟩, 18)]
theorem lw_r3 : ∀ q ∈ lw_privs_3, lw_okq q := List.forall_mem_cons.mpr ⟨lw_p32, List.forall_mem_cons.mpr ⟨lw_p33, List.forall_mem_cons.mpr ⟨lw_p34, List.forall_mem_cons.mpr ⟨lw_p35, List.forall_mem_cons.mpr ⟨lw_p36, List.forall_mem_cons.mpr ⟨lw_p37, List.forall_mem_cons.mpr ⟨lw_p38, List.forall_mem_cons.mpr ⟨lw_p39, List.forall_mem_cons.mpr ⟨lw_p40, List.forall_mem_cons.mpr ⟨lw_p41, List.forall_mem_cons.mpr ⟨lw_p42, List.forall_mem_cons.mpr ⟨lw_p43, List.forall_mem_cons.mpr ⟨lw_p44, List.forall_mem_cons.mpr ⟨lw_p45, List.forall_mem_cons.mpr ⟨lw_p46, List.forall_mem_cons.mpr ⟨lw_p47, fun _ h => absurd h List.not_mem_nil⟩⟩⟩⟩⟩⟩⟩⟩⟩⟩⟩⟩⟩⟩⟩⟩
theorem lw_p48 : lw_okq (⟨"KeyKeepersModel", "slotOf", "()I"⟩, 18) := ⟨⟨by decide +kernel, by decide +kernel⟩, List.mem_of_getElem? (i := 553) (by decide +kernel), List.mem_of_getElem? (i := 765) (by decide +kernel), List.mem_of_getElem? (i := 766) (by decide +kernel)⟩
theorem lw_p49 : lw_okq (⟨"KeyKeepersModel", "isState", "(I)Z"⟩, 18) := ⟨⟨by decide +kernel, by decide +kernel⟩, List.mem_of_getElem? (i := 553) (by decide +kernel), List.mem_of_getElem? (i := 769) (by decide +kernel), List.mem_of_getElem? (i := 770) (by decide +kernel)⟩
theorem lw_p50 : lw_okq (⟨"KeyKeepersModel", "visit", "(I)V"⟩, 18) := ⟨⟨by decide +kernel, by decide +kernel⟩, List.mem_of_getElem? (i := 553) (by decide +kernel), List.mem_of_getElem? (i := 773) (by decide +kernel), List.mem_of_getElem? (i := 774) (by decide +kernel)⟩
theorem lw_p51 : lw_okq (⟨"KeyKeepersModel", "load", "(I)V"⟩, 18) := ⟨⟨by decide +kernel, by decide +kernel⟩, List.mem_of_getElem? (i := 553) (by decide +kernel), List.mem_of_getElem? (i := 777) (by decide +kernel), List.mem_of_getElem? (i := 778) (by decide +kernel)⟩
theorem lw_p52 : lw_okq (⟨"KeyKeepersModel", "ofMode", "(I)I"⟩, 18) := ⟨⟨by decide +kernel, by decide +kernel⟩, List.mem_of_getElem? (i := 553) (by decide +kernel), List.mem_of_getElem? (i := 781) (by decide +kernel), List.mem_of_getElem? (i := 782) (by decide +kernel)⟩
theorem lw_p53 : lw_okq (⟨"KeyKeepersModel", "underWay", "()I"⟩, 18) := ⟨⟨by decide +kernel, by decide +kernel⟩, List.mem_of_getElem? (i := 553) (by decide +kernel), List.mem_of_getElem? (i := 788) (by decide +kernel), List.mem_of_getElem? (i := 789) (by decide +kernel)⟩
theorem lw_p54 : lw_okq (⟨"KeyKeepersModel", "isTokenSomewhere", "()Z"⟩, 18) := ⟨⟨by decide +kernel, by decide +kernel⟩, List.mem_of_getElem? (i := 553) (by decide +kernel), List.mem_of_getElem? (i := 792) (by decide +kernel), List.mem_of_getElem? (i := 793) (by decide +kernel)⟩
theorem lw_p55 : lw_okq (⟨"KeyKeepersModel", "goes", "()I"⟩, 18) := ⟨⟨by decide +kernel, by decide +kernel⟩, List.mem_of_getElem? (i := 553) (by decide +kernel), List.mem_of_getElem? (i := 796) (by decide +kernel), List.mem_of_getElem? (i := 797) (by decide +kernel)⟩
def lw_privs_4 : List (MethodName × Nat) := [(⟨"KeyKeepersModel", "slotOf", "()I"⟩, 18), (⟨"KeyKeepersModel", "isState", "(I)Z"⟩, 18), (⟨"KeyKeepersModel", "visit", "(I)V"⟩, 18), (⟨"KeyKeepersModel", "load", "(I)V"⟩, 18), (⟨"KeyKeepersModel", "ofMode", "(I)I"⟩, 18), (⟨"KeyKeepersModel", "underWay", "()I"⟩, 18), (⟨"KeyKeepersModel", "isTokenSomewhere", "()Z"⟩, 18), (⟨"KeyKeepersModel", "goes", "()I"⟩, 18)]
theorem lw_r4 : ∀ q ∈ lw_privs_4, lw_okq q := List.forall_mem_cons.mpr ⟨lw_p48, List.forall_mem_cons.mpr ⟨lw_p49, List.forall_mem_cons.mpr ⟨lw_p50, List.forall_mem_cons.mpr ⟨lw_p51, List.forall_mem_cons.mpr ⟨lw_p52, List.forall_mem_cons.mpr ⟨lw_p53, List.forall_mem_cons.mpr ⟨lw_p54, List.forall_mem_cons.mpr ⟨lw_p55, fun _ h => absurd h List.not_mem_nil⟩⟩⟩⟩⟩⟩⟩⟩
def lw_privs : List (MethodName × Nat) := lw_privs_1 ++ (lw_privs_2 ++ (lw_privs_3 ++ (lw_privs_4)))
def lw_tbl : List Cond := k2_sels lw_privs ++ tables_1
theorem lw_privs_ok : ∀ q ∈ lw_privs, lw_okq q := by
  show ∀ q ∈ lw_privs_1 ++ (lw_privs_2 ++ (lw_privs_3 ++ (lw_privs_4))), lw_okq q
  exact List.forall_mem_append.mpr ⟨lw_r1, List.forall_mem_append.mpr ⟨lw_r2, List.forall_mem_append.mpr ⟨lw_r3, lw_r4⟩⟩⟩
/-! ===== BEGIN words of one list among another's, by their places ===== -/
theorem goodIn_r {big : List Cond} (ws : List Cond) (ps : List Nat) (hp : ws = ps.filterMap (fun i => big[i]?)) (h : ws.all goodWord = true) : GoodIn big ws := by
  intro w hw
  have h1 := List.all_eq_true.mp h w hw
  rw [hp] at hw
  obtain ⟨i, -, hi⟩ := List.mem_filterMap.mp hw
  have hm : w ∈ big := by first | exact List.mem_of_getElem? hi | exact List.getElem?_mem hi
  exact ⟨hm, good_of_word h1⟩
theorem goodIn_app {big a b : List Cond} (ha : GoodIn big a) (hb : GoodIn big b) : GoodIn big (a ++ b) := fun w h => (List.mem_append.mp h).elim (ha w) (hb w)
theorem goodIn_ca {big a b : List Cond} {c : Cond} (ha : GoodIn big (c :: a)) (hb : GoodIn big b) : GoodIn big (c :: (a ++ b)) := fun w h => (List.mem_cons.mp h).elim (fun e => ha w (List.mem_cons.mpr (Or.inl e))) (fun h => (List.mem_append.mp h).elim (fun h => ha w (List.mem_cons.mpr (Or.inr h))) (hb w))
theorem goodIn_sub {big ws : List Cond} (hm : ∀ w ∈ ws, w ∈ big) (h : ws.all goodWord = true) : GoodIn big ws := fun w hw => ⟨hm w hw, good_of_word (List.all_eq_true.mp h w hw)⟩
/-! ===== END ===== -/

/-! ===== BEGIN printed: names, fields, word lists, decode rows ===== -/
def RX0 : String := "KeyKeepers$Book"
def TX0 : u_T := fun k => match k with
  | _ => ("KeyKeepers$Book", "lines", "[I", true)
def tyX0 : Nat → FieldType := fun k => match k with
  | _ => .array .int
abbrev wsX00 : List Cond := u_ws RX0 TX0 1
theorem nmX0 : ∀ a, a < 1 → ∀ b, b < 1 → a ≠ b → (TX0 a).2.1 ≠ (TX0 b).2.1 := by decide +kernel
theorem tyX0_ok : ∀ k, k < 1 → parseFieldDescriptor (TX0 k).2.2.1 = some (tyX0 k) := by decide +kernel
abbrev cX0_init : ByteArray := prog_2_method_1_code
def yX0_init : MethodName := ⟨RX0, "<init>", "()V"⟩
abbrev cX0_write : ByteArray := prog_2_method_2_code
def yX0_write : MethodName := ⟨RX0, "write", "(IIII)V"⟩
abbrev cX0_read : ByteArray := prog_2_method_3_code
def yX0_read : MethodName := ⟨RX0, "read", "(II)I"⟩
def RX1 : String := "KeyKeepers$Past"
def TX1 : u_T := fun k => match k with
  | 0 => ("KeyKeepers$Past", "stand", "LKeyKeepers$Stand;", true)
  | 1 => ("KeyKeepers$Past", "rows", "[I", true)
  | 2 => ("KeyKeepers$Past", "place", "I", false)
  | _ => ("KeyKeepers$Past", "kept", "I", false)
def tyX1 : Nat → FieldType := fun k => match k with
  | 0 => .object "KeyKeepers$Stand"
  | 1 => .array .int
  | 2 => .int
  | _ => .int
abbrev wsX10 : List Cond := u_ws RX1 TX1 4
theorem nmX1 : ∀ a, a < 4 → ∀ b, b < 4 → a ≠ b → (TX1 a).2.1 ≠ (TX1 b).2.1 := by decide +kernel
theorem tyX1_ok : ∀ k, k < 4 → parseFieldDescriptor (TX1 k).2.2.1 = some (tyX1 k) := by decide +kernel
abbrev cX1_init : ByteArray := prog_3_method_1_code
def yX1_init : MethodName := ⟨RX1, "<init>", "(LKeyKeepers$Stand;)V"⟩
abbrev cX1_forget : ByteArray := prog_3_method_2_code
def yX1_forget : MethodName := ⟨RX1, "forget", "()V"⟩
abbrev cX1_mark : ByteArray := prog_3_method_3_code
def yX1_mark : MethodName := ⟨RX1, "mark", "()V"⟩
abbrev cX1_backToMark : ByteArray := prog_3_method_4_code
def yX1_backToMark : MethodName := ⟨RX1, "backToMark", "()V"⟩
abbrev cX1_keepMark : ByteArray := prog_3_method_5_code
def yX1_keepMark : MethodName := ⟨RX1, "keepMark", "()V"⟩
abbrev cX1_takeBack : ByteArray := prog_3_method_6_code
def yX1_takeBack : MethodName := ⟨RX1, "takeBack", "()Z"⟩
def RX2 : String := "KeyKeepers$Search"
def TX2 : u_T := fun k => match k with
  | 0 => ("KeyKeepers$Search", "stand", "LKeyKeepers$Stand;", true)
  | 1 => ("KeyKeepers$Search", "ways", "LKeyKeepers$Ways;", true)
  | 2 => ("KeyKeepers$Search", "states", "[I", true)
  | 3 => ("KeyKeepers$Search", "hashes", "[I", true)
  | 4 => ("KeyKeepers$Search", "table", "[I", true)
  | 5 => ("KeyKeepers$Search", "before", "[I", true)
  | 6 => ("KeyKeepers$Search", "told", "[I", true)
  | 7 => ("KeyKeepers$Search", "found", "I", false)
  | 8 => ("KeyKeepers$Search", "spent", "Z", false)
  | _ => ("KeyKeepers$Search", "brought", "Z", false)
def tyX2 : Nat → FieldType := fun k => match k with
  | 0 => .object "KeyKeepers$Stand"
  | 1 => .object "KeyKeepers$Ways"
  | 2 => .array .int
  | 3 => .array .int
  | 4 => .array .int
  | 5 => .array .int
  | 6 => .array .int
  | 7 => .int
  | 8 => .boolean
  | _ => .boolean
abbrev wsX20 : List Cond := u_ws RX2 TX2 10
theorem nmX2 : ∀ a, a < 10 → ∀ b, b < 10 → a ≠ b → (TX2 a).2.1 ≠ (TX2 b).2.1 := by decide +kernel
theorem tyX2_ok : ∀ k, k < 10 → parseFieldDescriptor (TX2 k).2.2.1 = some (tyX2 k) := by decide +kernel
abbrev cX2_init : ByteArray := prog_4_method_1_code
def yX2_init : MethodName := ⟨RX2, "<init>", "(LKeyKeepers$Stand;LKeyKeepers$Ways;)V"⟩
abbrev cX2_goThrough : ByteArray := prog_4_method_2_code
def yX2_goThrough : MethodName := ⟨RX2, "goThrough", "()I"⟩
abbrev cX2_goFrom : ByteArray := prog_4_method_3_code
def yX2_goFrom : MethodName := ⟨RX2, "goFrom", "(I)V"⟩
abbrev cX2_load : ByteArray := prog_4_method_4_code
def yX2_load : MethodName := ⟨RX2, "load", "(I)V"⟩
abbrev cX2_tally : ByteArray := prog_4_method_5_code
def yX2_tally : MethodName := ⟨RX2, "tally", "()V"⟩
abbrev cX2_weigh : ByteArray := prog_4_method_6_code
def yX2_weigh : MethodName := ⟨RX2, "weigh", "(I)V"⟩
abbrev cX2_keep : ByteArray := prog_4_method_7_code
def yX2_keep : MethodName := ⟨RX2, "keep", "()V"⟩
abbrev cX2_isState : ByteArray := prog_4_method_8_code
def yX2_isState : MethodName := ⟨RX2, "isState", "(II)Z"⟩
abbrev cX2_isLike : ByteArray := prog_4_method_9_code
def yX2_isLike : MethodName := ⟨RX2, "isLike", "(III)Z"⟩
abbrev cX2_hash : ByteArray := prog_4_method_10_code
def yX2_hash : MethodName := ⟨RX2, "hash", "()I"⟩
abbrev cX2_mixed : ByteArray := prog_4_method_11_code
def yX2_mixed : MethodName := ⟨RX2, "mixed", "(III)I"⟩
def RX3 : String := "KeyKeepers$Stand"
def TX3 : u_T := fun k => match k with
  | 0 => ("KeyKeepers$Stand", "row", "[I", true)
  | 1 => ("KeyKeepers$Stand", "way", "I", false)
  | 2 => ("KeyKeepers$Stand", "n", "I", false)
  | _ => ("KeyKeepers$Stand", "tooMany", "Z", false)
def tyX3 : Nat → FieldType := fun k => match k with
  | 0 => .array .int
  | 1 => .int
  | 2 => .int
  | _ => .boolean
abbrev wsX30 : List Cond := u_ws RX3 TX3 4
theorem nmX3 : ∀ a, a < 4 → ∀ b, b < 4 → a ≠ b → (TX3 a).2.1 ≠ (TX3 b).2.1 := by decide +kernel
theorem tyX3_ok : ∀ k, k < 4 → parseFieldDescriptor (TX3 k).2.2.1 = some (tyX3 k) := by decide +kernel
abbrev cX3_init : ByteArray := prog_5_method_1_code
def yX3_init : MethodName := ⟨RX3, "<init>", "()V"⟩
abbrev cX3_kindOf : ByteArray := prog_5_method_2_code
def yX3_kindOf : MethodName := ⟨RX3, "kindOf", "(I)I"⟩
abbrev cX3_numberOf : ByteArray := prog_5_method_3_code
def yX3_numberOf : MethodName := ⟨RX3, "numberOf", "(I)I"⟩
abbrev cX3_startAnew : ByteArray := prog_5_method_4_code
def yX3_startAnew : MethodName := ⟨RX3, "startAnew", "(II)V"⟩
abbrev cX3_isKeeper : ByteArray := prog_5_method_5_code
def yX3_isKeeper : MethodName := ⟨RX3, "isKeeper", "(I)Z"⟩
abbrev cX3_isPair : ByteArray := prog_5_method_6_code
def yX3_isPair : MethodName := ⟨RX3, "isPair", "(II)Z"⟩
abbrev cX3_get : ByteArray := prog_5_method_7_code
def yX3_get : MethodName := ⟨RX3, "get", "(I)I"⟩
abbrev cX3_put : ByteArray := prog_5_method_8_code
def yX3_put : MethodName := ⟨RX3, "put", "(II)V"⟩
abbrev cX3_of : ByteArray := prog_5_method_9_code
def yX3_of : MethodName := ⟨RX3, "of", "(II)I"⟩
abbrev cX3_set : ByteArray := prog_5_method_10_code
def yX3_set : MethodName := ⟨RX3, "set", "(III)V"⟩
abbrev cX3_known : ByteArray := prog_5_method_11_code
def yX3_known : MethodName := ⟨RX3, "known", "(II)I"⟩
abbrev cX3_setKnown : ByteArray := prog_5_method_12_code
def yX3_setKnown : MethodName := ⟨RX3, "setKnown", "(III)V"⟩
abbrev cX3_queueOf : ByteArray := prog_5_method_13_code
def yX3_queueOf : MethodName := ⟨RX3, "queueOf", "(I)I"⟩
abbrev cX3_wayFrom : ByteArray := prog_5_method_14_code
def yX3_wayFrom : MethodName := ⟨RX3, "wayFrom", "()I"⟩
abbrev cX3_wayTo : ByteArray := prog_5_method_15_code
def yX3_wayTo : MethodName := ⟨RX3, "wayTo", "()I"⟩
abbrev cX3_append : ByteArray := prog_5_method_16_code
def yX3_append : MethodName := ⟨RX3, "append", "(III)Z"⟩
abbrev cX3_takeFirst : ByteArray := prog_5_method_17_code
def yX3_takeFirst : MethodName := ⟨RX3, "takeFirst", "(II)I"⟩
abbrev cX3_rowHas : ByteArray := prog_5_method_18_code
def yX3_rowHas : MethodName := ⟨RX3, "rowHas", "(I)Z"⟩
abbrev cX3_lettersOf : ByteArray := prog_5_method_19_code
def yX3_lettersOf : MethodName := ⟨RX3, "lettersOf", "(II)I"⟩
abbrev cX3_underWay : ByteArray := prog_5_method_20_code
def yX3_underWay : MethodName := ⟨RX3, "underWay", "(II)I"⟩
abbrev cX3_letterAt : ByteArray := prog_5_method_21_code
def yX3_letterAt : MethodName := ⟨RX3, "letterAt", "(III)I"⟩
abbrev cX3_send : ByteArray := prog_5_method_22_code
def yX3_send : MethodName := ⟨RX3, "send", "(IIII)V"⟩
abbrev cX3_sendToOthers : ByteArray := prog_5_method_23_code
def yX3_sendToOthers : MethodName := ⟨RX3, "sendToOthers", "(III)V"⟩
abbrev cX3_takeLetter : ByteArray := prog_5_method_24_code
def yX3_takeLetter : MethodName := ⟨RX3, "takeLetter", "(II)I"⟩
abbrev cX3_sentInAll : ByteArray := prog_5_method_25_code
def yX3_sentInAll : MethodName := ⟨RX3, "sentInAll", "()I"⟩
abbrev cX3_underWayInAll : ByteArray := prog_5_method_26_code
def yX3_underWayInAll : MethodName := ⟨RX3, "underWayInAll", "()I"⟩
abbrev cX3_busyPairs : ByteArray := prog_5_method_27_code
def yX3_busyPairs : MethodName := ⟨RX3, "busyPairs", "()I"⟩
abbrev cX3_busyPair : ByteArray := prog_5_method_28_code
def yX3_busyPair : MethodName := ⟨RX3, "busyPair", "(I)I"⟩
abbrev cX3_howMany : ByteArray := prog_5_method_29_code
def yX3_howMany : MethodName := ⟨RX3, "howMany", "(I)I"⟩
abbrev cX3_hasToken : ByteArray := prog_5_method_30_code
def yX3_hasToken : MethodName := ⟨RX3, "hasToken", "(I)Z"⟩
abbrev cX3_tokenIsLost : ByteArray := prog_5_method_31_code
def yX3_tokenIsLost : MethodName := ⟨RX3, "tokenIsLost", "()Z"⟩
abbrev cX3_tokenBetween : ByteArray := prog_5_method_32_code
def yX3_tokenBetween : MethodName := ⟨RX3, "tokenBetween", "(II)Z"⟩
abbrev cX3_copyTo : ByteArray := prog_5_method_33_code
def yX3_copyTo : MethodName := ⟨RX3, "copyTo", "([III)V"⟩
abbrev cX3_copyFrom : ByteArray := prog_5_method_34_code
def yX3_copyFrom : MethodName := ⟨RX3, "copyFrom", "([III)V"⟩
def RX4 : String := "KeyKeepers$Ways"
def TX4 : u_T := fun k => match k with
  | 0 => ("KeyKeepers$Ways", "stand", "LKeyKeepers$Stand;", true)
  | 1 => ("KeyKeepers$Ways", "book", "LKeyKeepers$Book;", true)
  | _ => ("KeyKeepers$Ways", "writing", "Z", false)
def tyX4 : Nat → FieldType := fun k => match k with
  | 0 => .object "KeyKeepers$Stand"
  | 1 => .object "KeyKeepers$Book"
  | _ => .boolean
abbrev wsX40 : List Cond := u_ws RX4 TX4 3
theorem nmX4 : ∀ a, a < 3 → ∀ b, b < 3 → a ≠ b → (TX4 a).2.1 ≠ (TX4 b).2.1 := by decide +kernel
theorem tyX4_ok : ∀ k, k < 3 → parseFieldDescriptor (TX4 k).2.2.1 = some (tyX4 k) := by decide +kernel
abbrev cX4_init : ByteArray := prog_6_method_1_code
def yX4_init : MethodName := ⟨RX4, "<init>", "(LKeyKeepers$Stand;LKeyKeepers$Book;)V"⟩
abbrev cX4_wanted : ByteArray := prog_6_method_2_code
def yX4_wanted : MethodName := ⟨RX4, "wanted", "(I)V"⟩
abbrev cX4_left : ByteArray := prog_6_method_3_code
def yX4_left : MethodName := ⟨RX4, "left", "(I)V"⟩
abbrev cX4_coming : ByteArray := prog_6_method_4_code
def yX4_coming : MethodName := ⟨RX4, "coming", "(II)V"⟩
abbrev cX4_stillToCome : ByteArray := prog_6_method_5_code
def yX4_stillToCome : MethodName := ⟨RX4, "stillToCome", "(I)I"⟩
abbrev cX4_enter : ByteArray := prog_6_method_6_code
def yX4_enter : MethodName := ⟨RX4, "enter", "(I)V"⟩
abbrev cX4_wantedByAsking : ByteArray := prog_6_method_7_code
def yX4_wantedByAsking : MethodName := ⟨RX4, "wantedByAsking", "(I)V"⟩
abbrev cX4_askedByAsking : ByteArray := prog_6_method_8_code
def yX4_askedByAsking : MethodName := ⟨RX4, "askedByAsking", "(III)V"⟩
abbrev cX4_goesBefore : ByteArray := prog_6_method_9_code
def yX4_goesBefore : MethodName := ⟨RX4, "goesBefore", "(III)Z"⟩
abbrev cX4_given : ByteArray := prog_6_method_10_code
def yX4_given : MethodName := ⟨RX4, "given", "(II)V"⟩
abbrev cX4_leftByAsking : ByteArray := prog_6_method_11_code
def yX4_leftByAsking : MethodName := ⟨RX4, "leftByAsking", "(I)V"⟩
abbrev cX4_wantedByToken : ByteArray := prog_6_method_12_code
def yX4_wantedByToken : MethodName := ⟨RX4, "wantedByToken", "(I)V"⟩
abbrev cX4_askedByToken : ByteArray := prog_6_method_13_code
def yX4_askedByToken : MethodName := ⟨RX4, "askedByToken", "(III)V"⟩
abbrev cX4_isDue : ByteArray := prog_6_method_14_code
def yX4_isDue : MethodName := ⟨RX4, "isDue", "(II)Z"⟩
abbrev cX4_passToken : ByteArray := prog_6_method_15_code
def yX4_passToken : MethodName := ⟨RX4, "passToken", "(II)V"⟩
abbrev cX4_leftByToken : ByteArray := prog_6_method_16_code
def yX4_leftByToken : MethodName := ⟨RX4, "leftByToken", "(I)V"⟩
abbrev cX4_queue : ByteArray := prog_6_method_17_code
def yX4_queue : MethodName := ⟨RX4, "queue", "(II)V"⟩
abbrev cX4_followRules : ByteArray := prog_6_method_18_code
def yX4_followRules : MethodName := ⟨RX4, "followRules", "(I)V"⟩
def RX5 : String := "KeyKeepers"
def TX5 : u_T := fun k => match k with
  | 0 => ("KeyKeepers", "stand", "LKeyKeepers$Stand;", true)
  | 1 => ("KeyKeepers", "book", "LKeyKeepers$Book;", true)
  | 2 => ("KeyKeepers", "ways", "LKeyKeepers$Ways;", true)
  | 3 => ("KeyKeepers", "past", "LKeyKeepers$Past;", true)
  | 4 => ("KeyKeepers", "search", "LKeyKeepers$Search;", true)
  | 5 => ("KeyKeepers", "begins", "I", false)
  | 6 => ("KeyKeepers", "passes", "I", false)
  | _ => ("KeyKeepers", "acted", "Z", false)
def tyX5 : Nat → FieldType := fun k => match k with
  | 0 => .object "KeyKeepers$Stand"
  | 1 => .object "KeyKeepers$Book"
  | 2 => .object "KeyKeepers$Ways"
  | 3 => .object "KeyKeepers$Past"
  | 4 => .object "KeyKeepers$Search"
  | 5 => .int
  | 6 => .int
  | _ => .boolean
abbrev wsX50 : List Cond := u_ws RX5 TX5 8
theorem nmX5 : ∀ a, a < 8 → ∀ b, b < 8 → a ≠ b → (TX5 a).2.1 ≠ (TX5 b).2.1 := by decide +kernel
theorem tyX5_ok : ∀ k, k < 8 → parseFieldDescriptor (TX5 k).2.2.1 = some (tyX5 k) := by decide +kernel
abbrev cX5_init : ByteArray := prog_1_method_1_code
def yX5_init : MethodName := ⟨RX5, "<init>", "()V"⟩
abbrev cX5_begin : ByteArray := prog_1_method_2_code
def yX5_begin : MethodName := ⟨RX5, "begin", "(II)I"⟩
abbrev cX5_parent : ByteArray := prog_1_method_3_code
def yX5_parent : MethodName := ⟨RX5, "parent", "(II)I"⟩
abbrev cX5_want : ByteArray := prog_1_method_4_code
def yX5_want : MethodName := ⟨RX5, "want", "(I)I"⟩
abbrev cX5_leave : ByteArray := prog_1_method_5_code
def yX5_leave : MethodName := ⟨RX5, "leave", "(I)I"⟩
abbrev cX5_come : ByteArray := prog_1_method_6_code
def yX5_come : MethodName := ⟨RX5, "come", "(II)I"⟩
abbrev cX5_run : ByteArray := prog_1_method_7_code
def yX5_run : MethodName := ⟨RX5, "run", "(II)I"⟩
abbrev cX5_keeper : ByteArray := prog_1_method_8_code
def yX5_keeper : MethodName := ⟨RX5, "keeper", "(II)I"⟩
abbrev cX5_knows : ByteArray := prog_1_method_9_code
def yX5_knows : MethodName := ⟨RX5, "knows", "(II)I"⟩
abbrev cX5_token : ByteArray := prog_1_method_10_code
def yX5_token : MethodName := ⟨RX5, "token", "(II)I"⟩
abbrev cX5_letter : ByteArray := prog_1_method_11_code
def yX5_letter : MethodName := ⟨RX5, "letter", "(IIII)I"⟩
abbrev cX5_entry : ByteArray := prog_1_method_12_code
def yX5_entry : MethodName := ⟨RX5, "entry", "(II)I"⟩
abbrev cX5_undo : ByteArray := prog_1_method_13_code
def yX5_undo : MethodName := ⟨RX5, "undo", "()I"⟩
abbrev cX5_pass : ByteArray := prog_1_method_14_code
def yX5_pass : MethodName := ⟨RX5, "pass", "()I"⟩
abbrev cX5_passed : ByteArray := prog_1_method_15_code
def yX5_passed : MethodName := ⟨RX5, "passed", "(I)I"⟩
abbrev cX5_count : ByteArray := prog_1_method_16_code
def yX5_count : MethodName := ⟨RX5, "count", "(I)I"⟩
abbrev cX5_timeOf : ByteArray := prog_1_method_17_code
def yX5_timeOf : MethodName := ⟨RX5, "timeOf", "(I)I"⟩
abbrev cX5_bring : ByteArray := prog_1_method_18_code
def yX5_bring : MethodName := ⟨RX5, "bring", "(II)I"⟩
abbrev cX5_settled : ByteArray := prog_1_method_19_code
def yX5_settled : MethodName := ⟨RX5, "settled", "()Z"⟩
def RX6 : String := "KeyKeepersModel"
def TX6 : u_T := fun k => match k with
  | 0 => ("KeyKeepersModel", "way", "I", false)
  | 1 => ("KeyKeepersModel", "n", "I", false)
  | 2 => ("KeyKeepersModel", "parent", "[I", true)
  | 3 => ("KeyKeepersModel", "st", "[I", true)
  | 4 => ("KeyKeepersModel", "ex", "[I", true)
  | 5 => ("KeyKeepersModel", "isOver", "Z", false)
  | 6 => ("KeyKeepersModel", "records", "Z", false)
  | 7 => ("KeyKeepersModel", "acted", "Z", false)
  | 8 => ("KeyKeepersModel", "begins", "I", false)
  | 9 => ("KeyKeepersModel", "passes", "I", false)
  | 10 => ("KeyKeepersModel", "kept", "I", false)
  | 11 => ("KeyKeepersModel", "was", "[I", true)
  | 12 => ("KeyKeepersModel", "back", "[I", true)
  | 13 => ("KeyKeepersModel", "states", "I", false)
  | 14 => ("KeyKeepersModel", "all", "[I", true)
  | 15 => ("KeyKeepersModel", "slots", "[I", true)
  | 16 => ("KeyKeepersModel", "told", "[I", true)
  | _ => ("KeyKeepersModel", "isSpent", "Z", false)
def tyX6 : Nat → FieldType := fun k => match k with
  | 0 => .int
  | 1 => .int
  | 2 => .array .int
  | 3 => .array .int
  | 4 => .array .int
  | 5 => .boolean
  | 6 => .boolean
  | 7 => .boolean
  | 8 => .int
  | 9 => .int
  | 10 => .int
  | 11 => .array .int
  | 12 => .array .int
  | 13 => .int
  | 14 => .array .int
  | 15 => .array .int
  | 16 => .array .int
  | _ => .boolean
abbrev wsX60 : List Cond := u_ws RX6 TX6 18
theorem nmX6 : ∀ a, a < 18 → ∀ b, b < 18 → a ≠ b → (TX6 a).2.1 ≠ (TX6 b).2.1 := by decide +kernel
theorem tyX6_ok : ∀ k, k < 18 → parseFieldDescriptor (TX6 k).2.2.1 = some (tyX6 k) := by decide +kernel
abbrev cX6_init : ByteArray := prog_8_method_1_code
def yX6_init : MethodName := ⟨RX6, "<init>", "()V"⟩
abbrev cX6_in : ByteArray := prog_8_method_2_code
def yX6_in : MethodName := ⟨RX6, "in", "(III)Z"⟩
abbrev cX6_isKeeper : ByteArray := prog_8_method_3_code
def yX6_isKeeper : MethodName := ⟨RX6, "isKeeper", "(I)Z"⟩
abbrev cX6_clear : ByteArray := prog_8_method_4_code
def yX6_clear : MethodName := ⟨RX6, "clear", "()V"⟩
abbrev cX6_layHolders : ByteArray := prog_8_method_5_code
def yX6_layHolders : MethodName := ⟨RX6, "layHolders", "()V"⟩
abbrev cX6_begin : ByteArray := prog_8_method_6_code
def yX6_begin : MethodName := ⟨RX6, "begin", "(II)I"⟩
abbrev cX6_parent : ByteArray := prog_8_method_7_code
def yX6_parent : MethodName := ⟨RX6, "parent", "(II)I"⟩
abbrev cX6_pairAt : ByteArray := prog_8_method_8_code
def yX6_pairAt : MethodName := ⟨RX6, "pairAt", "(II)I"⟩
abbrev cX6_send : ByteArray := prog_8_method_9_code
def yX6_send : MethodName := ⟨RX6, "send", "(IIII)V"⟩
abbrev cX6_dropEldest : ByteArray := prog_8_method_10_code
def yX6_dropEldest : MethodName := ⟨RX6, "dropEldest", "(I)V"⟩
abbrev cX6_askAll : ByteArray := prog_8_method_11_code
def yX6_askAll : MethodName := ⟨RX6, "askAll", "(II)V"⟩
abbrev cX6_sent : ByteArray := prog_8_method_12_code
def yX6_sent : MethodName := ⟨RX6, "sent", "()I"⟩
abbrev cX6_comesIn : ByteArray := prog_8_method_13_code
def yX6_comesIn : MethodName := ⟨RX6, "comesIn", "(I)V"⟩
abbrev cX6_rules : ByteArray := prog_8_method_14_code
def yX6_rules : MethodName := ⟨RX6, "rules", "(I)V"⟩
abbrev cX6_queue : ByteArray := prog_8_method_15_code
def yX6_queue : MethodName := ⟨RX6, "queue", "(II)V"⟩
abbrev cX6_wants : ByteArray := prog_8_method_16_code
def yX6_wants : MethodName := ⟨RX6, "wants", "(I)V"⟩
abbrev cX6_isRowed : ByteArray := prog_8_method_17_code
def yX6_isRowed : MethodName := ⟨RX6, "isRowed", "(I)Z"⟩
abbrev cX6_passToken : ByteArray := prog_8_method_18_code
def yX6_passToken : MethodName := ⟨RX6, "passToken", "(II)V"⟩
abbrev cX6_leaves : ByteArray := prog_8_method_19_code
def yX6_leaves : MethodName := ⟨RX6, "leaves", "(I)V"⟩
abbrev cX6_askedComes : ByteArray := prog_8_method_20_code
def yX6_askedComes : MethodName := ⟨RX6, "askedComes", "(III)V"⟩
abbrev cX6_comes : ByteArray := prog_8_method_21_code
def yX6_comes : MethodName := ⟨RX6, "comes", "(II)I"⟩
abbrev cX6_store : ByteArray := prog_8_method_22_code
def yX6_store : MethodName := ⟨RX6, "store", "()V"⟩
abbrev cX6_stands : ByteArray := prog_8_method_23_code
def yX6_stands : MethodName := ⟨RX6, "stands", "()Z"⟩
abbrev cX6_want : ByteArray := prog_8_method_24_code
def yX6_want : MethodName := ⟨RX6, "want", "(I)I"⟩
abbrev cX6_leave : ByteArray := prog_8_method_25_code
def yX6_leave : MethodName := ⟨RX6, "leave", "(I)I"⟩
abbrev cX6_come : ByteArray := prog_8_method_26_code
def yX6_come : MethodName := ⟨RX6, "come", "(II)I"⟩
abbrev cX6_pairOf : ByteArray := prog_8_method_27_code
def yX6_pairOf : MethodName := ⟨RX6, "pairOf", "(I)I"⟩
abbrev cX6_run : ByteArray := prog_8_method_28_code
def yX6_run : MethodName := ⟨RX6, "run", "(II)I"⟩
abbrev cX6_hasToken : ByteArray := prog_8_method_29_code
def yX6_hasToken : MethodName := ⟨RX6, "hasToken", "(I)Z"⟩
abbrev cX6_keeper : ByteArray := prog_8_method_30_code
def yX6_keeper : MethodName := ⟨RX6, "keeper", "(II)I"⟩
abbrev cX6_knows : ByteArray := prog_8_method_31_code
def yX6_knows : MethodName := ⟨RX6, "knows", "(II)I"⟩
abbrev cX6_token : ByteArray := prog_8_method_32_code
def yX6_token : MethodName := ⟨RX6, "token", "(II)I"⟩
abbrev cX6_letter : ByteArray := prog_8_method_33_code
def yX6_letter : MethodName := ⟨RX6, "letter", "(IIII)I"⟩
abbrev cX6_entry : ByteArray := prog_8_method_34_code
def yX6_entry : MethodName := ⟨RX6, "entry", "(II)I"⟩
abbrev cX6_undo : ByteArray := prog_8_method_35_code
def yX6_undo : MethodName := ⟨RX6, "undo", "()I"⟩
abbrev cX6_slotOf : ByteArray := prog_8_method_36_code
def yX6_slotOf : MethodName := ⟨RX6, "slotOf", "()I"⟩
abbrev cX6_isState : ByteArray := prog_8_method_37_code
def yX6_isState : MethodName := ⟨RX6, "isState", "(I)Z"⟩
abbrev cX6_meets : ByteArray := prog_8_method_38_code
def yX6_meets : MethodName := ⟨RX6, "meets", "()V"⟩
abbrev cX6_load : ByteArray := prog_8_method_39_code
def yX6_load : MethodName := ⟨RX6, "load", "(I)V"⟩
abbrev cX6_underWay : ByteArray := prog_8_method_40_code
def yX6_underWay : MethodName := ⟨RX6, "underWay", "()I"⟩
abbrev cX6_ofMode : ByteArray := prog_8_method_41_code
def yX6_ofMode : MethodName := ⟨RX6, "ofMode", "(I)I"⟩
abbrev cX6_isTokenSomewhere : ByteArray := prog_8_method_42_code
def yX6_isTokenSomewhere : MethodName := ⟨RX6, "isTokenSomewhere", "()Z"⟩
abbrev cX6_more : ByteArray := prog_8_method_43_code
def yX6_more : MethodName := ⟨RX6, "more", "(II)I"⟩
abbrev cX6_goes : ByteArray := prog_8_method_44_code
def yX6_goes : MethodName := ⟨RX6, "goes", "()I"⟩
abbrev cX6_visit : ByteArray := prog_8_method_45_code
def yX6_visit : MethodName := ⟨RX6, "visit", "(I)V"⟩
abbrev cX6_pass : ByteArray := prog_8_method_46_code
def yX6_pass : MethodName := ⟨RX6, "pass", "()I"⟩
abbrev cX6_passed : ByteArray := prog_8_method_47_code
def yX6_passed : MethodName := ⟨RX6, "passed", "(I)I"⟩
abbrev cX6_count : ByteArray := prog_8_method_48_code
def yX6_count : MethodName := ⟨RX6, "count", "(I)I"⟩
def RJ6 : String := "java/lang/Integer"
def TJ6 : u_T := fun k => match k with
  | _ => ("", "", "", false)
def tyJ6 : Nat → FieldType := fun k => match k with
  | _ => .int
abbrev wsJ60 : List Cond := u_ws RJ6 TJ6 0
theorem nmJ6 : ∀ a, a < 0 → ∀ b, b < 0 → a ≠ b → (TJ6 a).2.1 ≠ (TJ6 b).2.1 := by decide +kernel
theorem tyJ6_ok : ∀ k, k < 0 → parseFieldDescriptor (TJ6 k).2.2.1 = some (tyJ6 k) := by decide +kernel
abbrev cJ6_bitCount_0f7a4 : ByteArray := prog_9_method_49_code
def yJ6_bitCount_0f7a4 : MethodName := ⟨RJ6, "bitCount", "(I)I"⟩
def RJ9 : String := "java/lang/Math"
def TJ9 : u_T := fun k => match k with
  | _ => ("", "", "", false)
def tyJ9 : Nat → FieldType := fun k => match k with
  | _ => .int
abbrev wsJ90 : List Cond := u_ws RJ9 TJ9 0
theorem nmJ9 : ∀ a, a < 0 → ∀ b, b < 0 → a ≠ b → (TJ9 a).2.1 ≠ (TJ9 b).2.1 := by decide +kernel
theorem tyJ9_ok : ∀ k, k < 0 → parseFieldDescriptor (TJ9 k).2.2.1 = some (tyJ9 k) := by decide +kernel
abbrev cJ9_max_7cf53 : ByteArray := prog_10_method_65_code
def yJ9_max_7cf53 : MethodName := ⟨RJ9, "max", "(II)I"⟩
abbrev cJ9_min_7cf53 : ByteArray := prog_10_method_69_code
def yJ9_min_7cf53 : MethodName := ⟨RJ9, "min", "(II)I"⟩
def RJ10 : String := "java/lang/System"
def TJ10 : u_T := fun k => match k with
  | _ => ("", "", "", false)
def tyJ10 : Nat → FieldType := fun k => match k with
  | _ => .int
abbrev wsJ100 : List Cond := u_ws RJ10 TJ10 0
theorem nmJ10 : ∀ a, a < 0 → ∀ b, b < 0 → a ≠ b → (TJ10 a).2.1 ≠ (TJ10 b).2.1 := by decide +kernel
theorem tyJ10_ok : ∀ k, k < 0 → parseFieldDescriptor (TJ10 k).2.2.1 = some (tyJ10 k) := by decide +kernel
def RJ7 : String := "java/util/Arrays"
def TJ7 : u_T := fun k => match k with
  | _ => ("", "", "", false)
def tyJ7 : Nat → FieldType := fun k => match k with
  | _ => .int
abbrev wsJ70 : List Cond := u_ws RJ7 TJ7 0
theorem nmJ7 : ∀ a, a < 0 → ∀ b, b < 0 → a ≠ b → (TJ7 a).2.1 ≠ (TJ7 b).2.1 := by decide +kernel
theorem tyJ7_ok : ∀ k, k < 0 → parseFieldDescriptor (TJ7 k).2.2.1 = some (tyJ7 k) := by decide +kernel
abbrev cJ7_fill_53178 : ByteArray := prog_12_method_103_code
def yJ7_fill_53178 : MethodName := ⟨RJ7, "fill", "([II)V"⟩
def RL : String := "KeyKeepersLaw"
abbrev cL_law : ByteArray := code
def yL_law : MethodName := ⟨RL, "law", "([I)Z"⟩
abbrev vwCl : List vw_C := [(RX0, TX0, 1), (RX1, TX1, 4), (RX2, TX2, 10), (RX3, TX3, 4), (RX4, TX4, 3), (RX5, TX5, 8), (RX6, TX6, 18)]
end
section
theorem dX0_init_0 : decode cX0_init 0 = .ok (.aload_n 0, 1) := by decide +kernel
theorem dX0_init_1 : decode cX0_init 1 = .ok (.invokespecial 5, 3) := by decide +kernel
theorem dX0_init_4 : decode cX0_init 4 = .ok (.aload_n 0, 1) := by decide +kernel
theorem dX0_init_5 : decode cX0_init 5 = .ok (.sipush 270, 3) := by decide +kernel
theorem dX0_init_8 : decode cX0_init 8 = .ok (.newarray .int, 2) := by decide +kernel
theorem dX0_init_10 : decode cX0_init 10 = .ok (.putfield 11, 3) := by decide +kernel
theorem dX0_init_13 : decode cX0_init 13 = .ok (.return_, 1) := by decide +kernel
theorem dX0_write_0 : decode cX0_write 0 = .ok (.iload_n 1, 1) := by decide +kernel
theorem dX0_write_1 : decode cX0_write 1 = .ok (.bipush 90, 2) := by decide +kernel
theorem dX0_write_3 : decode cX0_write 3 = .ok (.irem, 1) := by decide +kernel
theorem dX0_write_4 : decode cX0_write 4 = .ok (.iconst 3, 1) := by decide +kernel
theorem dX0_write_5 : decode cX0_write 5 = .ok (.imul, 1) := by decide +kernel
theorem dX0_write_6 : decode cX0_write 6 = .ok (.istore 5, 2) := by decide +kernel
theorem dX0_write_8 : decode cX0_write 8 = .ok (.iload 5, 2) := by decide +kernel
theorem dX0_write_10 : decode cX0_write 10 = .ok (.ifCond .lt 44, 3) := by decide +kernel
theorem dX0_write_13 : decode cX0_write 13 = .ok (.iload 5, 2) := by decide +kernel
theorem dX0_write_15 : decode cX0_write 15 = .ok (.iconst 2, 1) := by decide +kernel
theorem dX0_write_16 : decode cX0_write 16 = .ok (.iadd, 1) := by decide +kernel
theorem dX0_write_17 : decode cX0_write 17 = .ok (.aload_n 0, 1) := by decide +kernel
theorem dX0_write_18 : decode cX0_write 18 = .ok (.getfield 11, 3) := by decide +kernel
theorem dX0_write_21 : decode cX0_write 21 = .ok (.arraylength, 1) := by decide +kernel
theorem dX0_write_22 : decode cX0_write 22 = .ok (.if_icmp .ge 32, 3) := by decide +kernel
theorem dX0_write_25 : decode cX0_write 25 = .ok (.aload_n 0, 1) := by decide +kernel
theorem dX0_write_26 : decode cX0_write 26 = .ok (.getfield 11, 3) := by decide +kernel
theorem dX0_write_29 : decode cX0_write 29 = .ok (.iload 5, 2) := by decide +kernel
theorem dX0_write_31 : decode cX0_write 31 = .ok (.iload_n 2, 1) := by decide +kernel
theorem dX0_write_32 : decode cX0_write 32 = .ok (.iastore, 1) := by decide +kernel
theorem dX0_write_33 : decode cX0_write 33 = .ok (.aload_n 0, 1) := by decide +kernel
theorem dX0_write_34 : decode cX0_write 34 = .ok (.getfield 11, 3) := by decide +kernel
theorem dX0_write_37 : decode cX0_write 37 = .ok (.iload 5, 2) := by decide +kernel
theorem dX0_write_39 : decode cX0_write 39 = .ok (.iconst 1, 1) := by decide +kernel
theorem dX0_write_40 : decode cX0_write 40 = .ok (.iadd, 1) := by decide +kernel
theorem dX0_write_41 : decode cX0_write 41 = .ok (.iload_n 3, 1) := by decide +kernel
theorem dX0_write_42 : decode cX0_write 42 = .ok (.iastore, 1) := by decide +kernel
theorem dX0_write_43 : decode cX0_write 43 = .ok (.aload_n 0, 1) := by decide +kernel
theorem dX0_write_44 : decode cX0_write 44 = .ok (.getfield 11, 3) := by decide +kernel
theorem dX0_write_47 : decode cX0_write 47 = .ok (.iload 5, 2) := by decide +kernel
theorem dX0_write_49 : decode cX0_write 49 = .ok (.iconst 2, 1) := by decide +kernel
theorem dX0_write_50 : decode cX0_write 50 = .ok (.iadd, 1) := by decide +kernel
theorem dX0_write_51 : decode cX0_write 51 = .ok (.iload 4, 2) := by decide +kernel
theorem dX0_write_53 : decode cX0_write 53 = .ok (.iastore, 1) := by decide +kernel
theorem dX0_write_54 : decode cX0_write 54 = .ok (.return_, 1) := by decide +kernel
theorem dX0_read_0 : decode cX0_read 0 = .ok (.iload_n 1, 1) := by decide +kernel
theorem dX0_read_1 : decode cX0_read 1 = .ok (.bipush 90, 2) := by decide +kernel
theorem dX0_read_3 : decode cX0_read 3 = .ok (.irem, 1) := by decide +kernel
theorem dX0_read_4 : decode cX0_read 4 = .ok (.iconst 3, 1) := by decide +kernel
theorem dX0_read_5 : decode cX0_read 5 = .ok (.imul, 1) := by decide +kernel
theorem dX0_read_6 : decode cX0_read 6 = .ok (.iload_n 2, 1) := by decide +kernel
theorem dX0_read_7 : decode cX0_read 7 = .ok (.iadd, 1) := by decide +kernel
theorem dX0_read_8 : decode cX0_read 8 = .ok (.istore_n 3, 1) := by decide +kernel
theorem dX0_read_9 : decode cX0_read 9 = .ok (.iload_n 3, 1) := by decide +kernel
theorem dX0_read_10 : decode cX0_read 10 = .ok (.ifCond .lt 21, 3) := by decide +kernel
theorem dX0_read_13 : decode cX0_read 13 = .ok (.iload_n 3, 1) := by decide +kernel
theorem dX0_read_14 : decode cX0_read 14 = .ok (.aload_n 0, 1) := by decide +kernel
theorem dX0_read_15 : decode cX0_read 15 = .ok (.getfield 11, 3) := by decide +kernel
theorem dX0_read_18 : decode cX0_read 18 = .ok (.arraylength, 1) := by decide +kernel
theorem dX0_read_19 : decode cX0_read 19 = .ok (.if_icmp .ge 12, 3) := by decide +kernel
theorem dX0_read_22 : decode cX0_read 22 = .ok (.aload_n 0, 1) := by decide +kernel
theorem dX0_read_23 : decode cX0_read 23 = .ok (.getfield 11, 3) := by decide +kernel
theorem dX0_read_26 : decode cX0_read 26 = .ok (.iload_n 3, 1) := by decide +kernel
theorem dX0_read_27 : decode cX0_read 27 = .ok (.iaload, 1) := by decide +kernel
theorem dX0_read_28 : decode cX0_read 28 = .ok (.goto 4, 3) := by decide +kernel
theorem dX0_read_31 : decode cX0_read 31 = .ok (.iconst 0, 1) := by decide +kernel
theorem dX0_read_32 : decode cX0_read 32 = .ok (.ireturn, 1) := by decide +kernel
theorem dX1_init_0 : decode cX1_init 0 = .ok (.aload_n 0, 1) := by decide +kernel
theorem dX1_init_1 : decode cX1_init 1 = .ok (.invokespecial 3, 3) := by decide +kernel
theorem dX1_init_4 : decode cX1_init 4 = .ok (.aload_n 0, 1) := by decide +kernel
theorem dX1_init_5 : decode cX1_init 5 = .ok (.aload_n 1, 1) := by decide +kernel
theorem dX1_init_6 : decode cX1_init 6 = .ok (.putfield 9, 3) := by decide +kernel
theorem dX1_init_9 : decode cX1_init 9 = .ok (.aload_n 0, 1) := by decide +kernel
theorem dX1_init_10 : decode cX1_init 10 = .ok (.sipush 19158, 3) := by decide +kernel
theorem dX1_init_13 : decode cX1_init 13 = .ok (.newarray .int, 2) := by decide +kernel
theorem dX1_init_15 : decode cX1_init 15 = .ok (.putfield 15, 3) := by decide +kernel
theorem dX1_init_18 : decode cX1_init 18 = .ok (.return_, 1) := by decide +kernel
theorem dX1_forget_0 : decode cX1_forget 0 = .ok (.aload_n 0, 1) := by decide +kernel
theorem dX1_forget_1 : decode cX1_forget 1 = .ok (.iconst 0, 1) := by decide +kernel
theorem dX1_forget_2 : decode cX1_forget 2 = .ok (.putfield 19, 3) := by decide +kernel
theorem dX1_forget_5 : decode cX1_forget 5 = .ok (.return_, 1) := by decide +kernel
theorem dX1_mark_0 : decode cX1_mark 0 = .ok (.aload_n 0, 1) := by decide +kernel
theorem dX1_mark_1 : decode cX1_mark 1 = .ok (.getfield 9, 3) := by decide +kernel
theorem dX1_mark_4 : decode cX1_mark 4 = .ok (.aload_n 0, 1) := by decide +kernel
theorem dX1_mark_5 : decode cX1_mark 5 = .ok (.getfield 15, 3) := by decide +kernel
theorem dX1_mark_8 : decode cX1_mark 8 = .ok (.aload_n 0, 1) := by decide +kernel
theorem dX1_mark_9 : decode cX1_mark 9 = .ok (.getfield 23, 3) := by decide +kernel
theorem dX1_mark_12 : decode cX1_mark 12 = .ok (.sipush 618, 3) := by decide +kernel
theorem dX1_mark_15 : decode cX1_mark 15 = .ok (.imul, 1) := by decide +kernel
theorem dX1_mark_16 : decode cX1_mark 16 = .ok (.sipush 618, 3) := by decide +kernel
theorem dX1_mark_19 : decode cX1_mark 19 = .ok (.invokevirtual 26, 3) := by decide +kernel
theorem dX1_mark_22 : decode cX1_mark 22 = .ok (.return_, 1) := by decide +kernel
theorem dX1_backToMark_0 : decode cX1_backToMark 0 = .ok (.aload_n 0, 1) := by decide +kernel
theorem dX1_backToMark_1 : decode cX1_backToMark 1 = .ok (.getfield 9, 3) := by decide +kernel
theorem dX1_backToMark_4 : decode cX1_backToMark 4 = .ok (.aload_n 0, 1) := by decide +kernel
theorem dX1_backToMark_5 : decode cX1_backToMark 5 = .ok (.getfield 15, 3) := by decide +kernel
theorem dX1_backToMark_8 : decode cX1_backToMark 8 = .ok (.aload_n 0, 1) := by decide +kernel
theorem dX1_backToMark_9 : decode cX1_backToMark 9 = .ok (.getfield 23, 3) := by decide +kernel
theorem dX1_backToMark_12 : decode cX1_backToMark 12 = .ok (.sipush 618, 3) := by decide +kernel
theorem dX1_backToMark_15 : decode cX1_backToMark 15 = .ok (.imul, 1) := by decide +kernel
theorem dX1_backToMark_16 : decode cX1_backToMark 16 = .ok (.sipush 618, 3) := by decide +kernel
theorem dX1_backToMark_19 : decode cX1_backToMark 19 = .ok (.invokevirtual 30, 3) := by decide +kernel
theorem dX1_backToMark_22 : decode cX1_backToMark 22 = .ok (.return_, 1) := by decide +kernel
theorem dX1_keepMark_0 : decode cX1_keepMark 0 = .ok (.aload_n 0, 1) := by decide +kernel
theorem dX1_keepMark_1 : decode cX1_keepMark 1 = .ok (.aload_n 0, 1) := by decide +kernel
theorem dX1_keepMark_2 : decode cX1_keepMark 2 = .ok (.getfield 23, 3) := by decide +kernel
theorem dX1_keepMark_5 : decode cX1_keepMark 5 = .ok (.iconst 1, 1) := by decide +kernel
theorem dX1_keepMark_6 : decode cX1_keepMark 6 = .ok (.iadd, 1) := by decide +kernel
theorem dX1_keepMark_7 : decode cX1_keepMark 7 = .ok (.bipush 31, 2) := by decide +kernel
theorem dX1_keepMark_9 : decode cX1_keepMark 9 = .ok (.irem, 1) := by decide +kernel
theorem dX1_keepMark_10 : decode cX1_keepMark 10 = .ok (.putfield 23, 3) := by decide +kernel
theorem dX1_keepMark_13 : decode cX1_keepMark 13 = .ok (.aload_n 0, 1) := by decide +kernel
theorem dX1_keepMark_14 : decode cX1_keepMark 14 = .ok (.aload_n 0, 1) := by decide +kernel
theorem dX1_keepMark_15 : decode cX1_keepMark 15 = .ok (.getfield 19, 3) := by decide +kernel
theorem dX1_keepMark_18 : decode cX1_keepMark 18 = .ok (.iconst 1, 1) := by decide +kernel
theorem dX1_keepMark_19 : decode cX1_keepMark 19 = .ok (.iadd, 1) := by decide +kernel
theorem dX1_keepMark_20 : decode cX1_keepMark 20 = .ok (.bipush 30, 2) := by decide +kernel
theorem dX1_keepMark_22 : decode cX1_keepMark 22 = .ok (.invokestatic 33, 3) := by decide +kernel
theorem dX1_keepMark_25 : decode cX1_keepMark 25 = .ok (.putfield 19, 3) := by decide +kernel
theorem dX1_keepMark_28 : decode cX1_keepMark 28 = .ok (.return_, 1) := by decide +kernel
theorem dX1_takeBack_0 : decode cX1_takeBack 0 = .ok (.aload_n 0, 1) := by decide +kernel
theorem dX1_takeBack_1 : decode cX1_takeBack 1 = .ok (.getfield 19, 3) := by decide +kernel
theorem dX1_takeBack_4 : decode cX1_takeBack 4 = .ok (.ifCond .ne 5, 3) := by decide +kernel
theorem dX1_takeBack_7 : decode cX1_takeBack 7 = .ok (.iconst 0, 1) := by decide +kernel
theorem dX1_takeBack_8 : decode cX1_takeBack 8 = .ok (.ireturn, 1) := by decide +kernel
theorem dX1_takeBack_9 : decode cX1_takeBack 9 = .ok (.aload_n 0, 1) := by decide +kernel
theorem dX1_takeBack_10 : decode cX1_takeBack 10 = .ok (.dup, 1) := by decide +kernel
theorem dX1_takeBack_11 : decode cX1_takeBack 11 = .ok (.getfield 19, 3) := by decide +kernel
theorem dX1_takeBack_14 : decode cX1_takeBack 14 = .ok (.iconst 1, 1) := by decide +kernel
theorem dX1_takeBack_15 : decode cX1_takeBack 15 = .ok (.isub, 1) := by decide +kernel
theorem dX1_takeBack_16 : decode cX1_takeBack 16 = .ok (.putfield 19, 3) := by decide +kernel
theorem dX1_takeBack_19 : decode cX1_takeBack 19 = .ok (.aload_n 0, 1) := by decide +kernel
theorem dX1_takeBack_20 : decode cX1_takeBack 20 = .ok (.aload_n 0, 1) := by decide +kernel
theorem dX1_takeBack_21 : decode cX1_takeBack 21 = .ok (.getfield 23, 3) := by decide +kernel
theorem dX1_takeBack_24 : decode cX1_takeBack 24 = .ok (.bipush 31, 2) := by decide +kernel
theorem dX1_takeBack_26 : decode cX1_takeBack 26 = .ok (.iadd, 1) := by decide +kernel
theorem dX1_takeBack_27 : decode cX1_takeBack 27 = .ok (.iconst 1, 1) := by decide +kernel
theorem dX1_takeBack_28 : decode cX1_takeBack 28 = .ok (.isub, 1) := by decide +kernel
theorem dX1_takeBack_29 : decode cX1_takeBack 29 = .ok (.bipush 31, 2) := by decide +kernel
theorem dX1_takeBack_31 : decode cX1_takeBack 31 = .ok (.irem, 1) := by decide +kernel
theorem dX1_takeBack_32 : decode cX1_takeBack 32 = .ok (.putfield 23, 3) := by decide +kernel
theorem dX1_takeBack_35 : decode cX1_takeBack 35 = .ok (.aload_n 0, 1) := by decide +kernel
theorem dX1_takeBack_36 : decode cX1_takeBack 36 = .ok (.invokevirtual 39, 3) := by decide +kernel
theorem dX1_takeBack_39 : decode cX1_takeBack 39 = .ok (.iconst 1, 1) := by decide +kernel
theorem dX1_takeBack_40 : decode cX1_takeBack 40 = .ok (.ireturn, 1) := by decide +kernel
theorem dX2_init_0 : decode cX2_init 0 = .ok (.aload_n 0, 1) := by decide +kernel
theorem dX2_init_1 : decode cX2_init 1 = .ok (.invokespecial 3, 3) := by decide +kernel
theorem dX2_init_4 : decode cX2_init 4 = .ok (.aload_n 0, 1) := by decide +kernel
theorem dX2_init_5 : decode cX2_init 5 = .ok (.aload_n 1, 1) := by decide +kernel
theorem dX2_init_6 : decode cX2_init 6 = .ok (.putfield 9, 3) := by decide +kernel
theorem dX2_init_9 : decode cX2_init 9 = .ok (.aload_n 0, 1) := by decide +kernel
theorem dX2_init_10 : decode cX2_init 10 = .ok (.aload_n 2, 1) := by decide +kernel
theorem dX2_init_11 : decode cX2_init 11 = .ok (.putfield 15, 3) := by decide +kernel
theorem dX2_init_14 : decode cX2_init 14 = .ok (.aload_n 0, 1) := by decide +kernel
theorem dX2_init_15 : decode cX2_init 15 = .ok (.ldc 21, 2) := by decide +kernel
theorem dX2_init_17 : decode cX2_init 17 = .ok (.newarray .int, 2) := by decide +kernel
theorem dX2_init_19 : decode cX2_init 19 = .ok (.putfield 22, 3) := by decide +kernel
theorem dX2_init_22 : decode cX2_init 22 = .ok (.aload_n 0, 1) := by decide +kernel
theorem dX2_init_23 : decode cX2_init 23 = .ok (.sipush 300, 3) := by decide +kernel
theorem dX2_init_26 : decode cX2_init 26 = .ok (.newarray .int, 2) := by decide +kernel
theorem dX2_init_28 : decode cX2_init 28 = .ok (.putfield 26, 3) := by decide +kernel
theorem dX2_init_31 : decode cX2_init 31 = .ok (.aload_n 0, 1) := by decide +kernel
theorem dX2_init_32 : decode cX2_init 32 = .ok (.sipush 1024, 3) := by decide +kernel
theorem dX2_init_35 : decode cX2_init 35 = .ok (.newarray .int, 2) := by decide +kernel
theorem dX2_init_37 : decode cX2_init 37 = .ok (.putfield 29, 3) := by decide +kernel
theorem dX2_init_40 : decode cX2_init 40 = .ok (.aload_n 0, 1) := by decide +kernel
theorem dX2_init_41 : decode cX2_init 41 = .ok (.sipush 618, 3) := by decide +kernel
theorem dX2_init_44 : decode cX2_init 44 = .ok (.newarray .int, 2) := by decide +kernel
theorem dX2_init_46 : decode cX2_init 46 = .ok (.putfield 32, 3) := by decide +kernel
theorem dX2_init_49 : decode cX2_init 49 = .ok (.aload_n 0, 1) := by decide +kernel
theorem dX2_init_50 : decode cX2_init 50 = .ok (.bipush 7, 2) := by decide +kernel
theorem dX2_init_52 : decode cX2_init 52 = .ok (.newarray .int, 2) := by decide +kernel
theorem dX2_init_54 : decode cX2_init 54 = .ok (.putfield 35, 3) := by decide +kernel
theorem dX2_init_57 : decode cX2_init 57 = .ok (.return_, 1) := by decide +kernel
theorem dX2_goThrough_0 : decode cX2_goThrough 0 = .ok (.aload_n 0, 1) := by decide +kernel
theorem dX2_goThrough_1 : decode cX2_goThrough 1 = .ok (.getfield 35, 3) := by decide +kernel
theorem dX2_goThrough_4 : decode cX2_goThrough 4 = .ok (.iconst 0, 1) := by decide +kernel
theorem dX2_goThrough_5 : decode cX2_goThrough 5 = .ok (.invokestatic 38, 3) := by decide +kernel
theorem dX2_goThrough_8 : decode cX2_goThrough 8 = .ok (.aload_n 0, 1) := by decide +kernel
theorem dX2_goThrough_9 : decode cX2_goThrough 9 = .ok (.getfield 29, 3) := by decide +kernel
theorem dX2_goThrough_12 : decode cX2_goThrough 12 = .ok (.iconst 0, 1) := by decide +kernel
theorem dX2_goThrough_13 : decode cX2_goThrough 13 = .ok (.invokestatic 38, 3) := by decide +kernel
theorem dX2_goThrough_16 : decode cX2_goThrough 16 = .ok (.aload_n 0, 1) := by decide +kernel
theorem dX2_goThrough_17 : decode cX2_goThrough 17 = .ok (.iconst 0, 1) := by decide +kernel
theorem dX2_goThrough_18 : decode cX2_goThrough 18 = .ok (.putfield 44, 3) := by decide +kernel
theorem dX2_goThrough_21 : decode cX2_goThrough 21 = .ok (.aload_n 0, 1) := by decide +kernel
theorem dX2_goThrough_22 : decode cX2_goThrough 22 = .ok (.iconst 0, 1) := by decide +kernel
theorem dX2_goThrough_23 : decode cX2_goThrough 23 = .ok (.putfield 48, 3) := by decide +kernel
theorem dX2_goThrough_26 : decode cX2_goThrough 26 = .ok (.aload_n 0, 1) := by decide +kernel
theorem dX2_goThrough_27 : decode cX2_goThrough 27 = .ok (.getfield 9, 3) := by decide +kernel
theorem dX2_goThrough_30 : decode cX2_goThrough 30 = .ok (.aload_n 0, 1) := by decide +kernel
theorem dX2_goThrough_31 : decode cX2_goThrough 31 = .ok (.getfield 32, 3) := by decide +kernel
theorem dX2_goThrough_34 : decode cX2_goThrough 34 = .ok (.iconst 0, 1) := by decide +kernel
theorem dX2_goThrough_35 : decode cX2_goThrough 35 = .ok (.sipush 618, 3) := by decide +kernel
theorem dX2_goThrough_38 : decode cX2_goThrough 38 = .ok (.invokevirtual 52, 3) := by decide +kernel
theorem dX2_goThrough_41 : decode cX2_goThrough 41 = .ok (.aload_n 0, 1) := by decide +kernel
theorem dX2_goThrough_42 : decode cX2_goThrough 42 = .ok (.getfield 15, 3) := by decide +kernel
theorem dX2_goThrough_45 : decode cX2_goThrough 45 = .ok (.iconst 0, 1) := by decide +kernel
theorem dX2_goThrough_46 : decode cX2_goThrough 46 = .ok (.putfield 56, 3) := by decide +kernel
theorem dX2_goThrough_49 : decode cX2_goThrough 49 = .ok (.aload_n 0, 1) := by decide +kernel
theorem dX2_goThrough_50 : decode cX2_goThrough 50 = .ok (.invokevirtual 61, 3) := by decide +kernel
theorem dX2_goThrough_53 : decode cX2_goThrough 53 = .ok (.iconst 0, 1) := by decide +kernel
theorem dX2_goThrough_54 : decode cX2_goThrough 54 = .ok (.istore_n 1, 1) := by decide +kernel
theorem dX2_goThrough_55 : decode cX2_goThrough 55 = .ok (.iload_n 1, 1) := by decide +kernel
theorem dX2_goThrough_56 : decode cX2_goThrough 56 = .ok (.aload_n 0, 1) := by decide +kernel
theorem dX2_goThrough_57 : decode cX2_goThrough 57 = .ok (.getfield 44, 3) := by decide +kernel
theorem dX2_goThrough_60 : decode cX2_goThrough 60 = .ok (.if_icmp .ge 21, 3) := by decide +kernel
theorem dX2_goThrough_63 : decode cX2_goThrough 63 = .ok (.iload_n 1, 1) := by decide +kernel
theorem dX2_goThrough_64 : decode cX2_goThrough 64 = .ok (.sipush 300, 3) := by decide +kernel
theorem dX2_goThrough_67 : decode cX2_goThrough 67 = .ok (.if_icmp .ge 14, 3) := by decide +kernel
theorem dX2_goThrough_70 : decode cX2_goThrough 70 = .ok (.aload_n 0, 1) := by decide +kernel
theorem dX2_goThrough_71 : decode cX2_goThrough 71 = .ok (.iload_n 1, 1) := by decide +kernel
theorem dX2_goThrough_72 : decode cX2_goThrough 72 = .ok (.invokevirtual 64, 3) := by decide +kernel
theorem dX2_goThrough_75 : decode cX2_goThrough 75 = .ok (.iinc 1 1, 3) := by decide +kernel
theorem dX2_goThrough_78 : decode cX2_goThrough 78 = .ok (.goto (-23), 3) := by decide +kernel
theorem dX2_goThrough_81 : decode cX2_goThrough 81 = .ok (.aload_n 0, 1) := by decide +kernel
theorem dX2_goThrough_82 : decode cX2_goThrough 82 = .ok (.getfield 15, 3) := by decide +kernel
theorem dX2_goThrough_85 : decode cX2_goThrough 85 = .ok (.iconst 1, 1) := by decide +kernel
theorem dX2_goThrough_86 : decode cX2_goThrough 86 = .ok (.putfield 56, 3) := by decide +kernel
theorem dX2_goThrough_89 : decode cX2_goThrough 89 = .ok (.aload_n 0, 1) := by decide +kernel
theorem dX2_goThrough_90 : decode cX2_goThrough 90 = .ok (.getfield 9, 3) := by decide +kernel
theorem dX2_goThrough_93 : decode cX2_goThrough 93 = .ok (.aload_n 0, 1) := by decide +kernel
theorem dX2_goThrough_94 : decode cX2_goThrough 94 = .ok (.getfield 32, 3) := by decide +kernel
theorem dX2_goThrough_97 : decode cX2_goThrough 97 = .ok (.iconst 0, 1) := by decide +kernel
theorem dX2_goThrough_98 : decode cX2_goThrough 98 = .ok (.sipush 618, 3) := by decide +kernel
theorem dX2_goThrough_101 : decode cX2_goThrough 101 = .ok (.invokevirtual 68, 3) := by decide +kernel
theorem dX2_goThrough_104 : decode cX2_goThrough 104 = .ok (.aload_n 0, 1) := by decide +kernel
theorem dX2_goThrough_105 : decode cX2_goThrough 105 = .ok (.getfield 35, 3) := by decide +kernel
theorem dX2_goThrough_108 : decode cX2_goThrough 108 = .ok (.iconst 0, 1) := by decide +kernel
theorem dX2_goThrough_109 : decode cX2_goThrough 109 = .ok (.aload_n 0, 1) := by decide +kernel
theorem dX2_goThrough_110 : decode cX2_goThrough 110 = .ok (.getfield 44, 3) := by decide +kernel
theorem dX2_goThrough_113 : decode cX2_goThrough 113 = .ok (.iastore, 1) := by decide +kernel
theorem dX2_goThrough_114 : decode cX2_goThrough 114 = .ok (.aload_n 0, 1) := by decide +kernel
theorem dX2_goThrough_115 : decode cX2_goThrough 115 = .ok (.getfield 48, 3) := by decide +kernel
theorem dX2_goThrough_118 : decode cX2_goThrough 118 = .ok (.ifCond .eq 8, 3) := by decide +kernel
theorem dX2_goThrough_121 : decode cX2_goThrough 121 = .ok (.bipush (-5), 2) := by decide +kernel
theorem dX2_goThrough_123 : decode cX2_goThrough 123 = .ok (.goto 7, 3) := by decide +kernel
theorem dX2_goThrough_126 : decode cX2_goThrough 126 = .ok (.aload_n 0, 1) := by decide +kernel
theorem dX2_goThrough_127 : decode cX2_goThrough 127 = .ok (.getfield 44, 3) := by decide +kernel
theorem dX2_goThrough_130 : decode cX2_goThrough 130 = .ok (.ireturn, 1) := by decide +kernel
theorem dX2_goFrom_0 : decode cX2_goFrom 0 = .ok (.aload_n 0, 1) := by decide +kernel
theorem dX2_goFrom_1 : decode cX2_goFrom 1 = .ok (.iload_n 1, 1) := by decide +kernel
theorem dX2_goFrom_2 : decode cX2_goFrom 2 = .ok (.invokevirtual 71, 3) := by decide +kernel
theorem dX2_goFrom_5 : decode cX2_goFrom 5 = .ok (.aload_n 0, 1) := by decide +kernel
theorem dX2_goFrom_6 : decode cX2_goFrom 6 = .ok (.getfield 9, 3) := by decide +kernel
theorem dX2_goFrom_9 : decode cX2_goFrom 9 = .ok (.iconst 1, 1) := by decide +kernel
theorem dX2_goFrom_10 : decode cX2_goFrom 10 = .ok (.invokevirtual 74, 3) := by decide +kernel
theorem dX2_goFrom_13 : decode cX2_goFrom 13 = .ok (.ifCond .le 7, 3) := by decide +kernel
theorem dX2_goFrom_16 : decode cX2_goFrom 16 = .ok (.iconst 1, 1) := by decide +kernel
theorem dX2_goFrom_17 : decode cX2_goFrom 17 = .ok (.goto 4, 3) := by decide +kernel
theorem dX2_goFrom_20 : decode cX2_goFrom 20 = .ok (.iconst 0, 1) := by decide +kernel
theorem dX2_goFrom_21 : decode cX2_goFrom 21 = .ok (.istore_n 2, 1) := by decide +kernel
theorem dX2_goFrom_22 : decode cX2_goFrom 22 = .ok (.aload_n 0, 1) := by decide +kernel
theorem dX2_goFrom_23 : decode cX2_goFrom 23 = .ok (.invokevirtual 78, 3) := by decide +kernel
theorem dX2_goFrom_26 : decode cX2_goFrom 26 = .ok (.aload_n 0, 1) := by decide +kernel
theorem dX2_goFrom_27 : decode cX2_goFrom 27 = .ok (.iconst 0, 1) := by decide +kernel
theorem dX2_goFrom_28 : decode cX2_goFrom 28 = .ok (.putfield 81, 3) := by decide +kernel
theorem dX2_goFrom_31 : decode cX2_goFrom 31 = .ok (.iconst 0, 1) := by decide +kernel
theorem dX2_goFrom_32 : decode cX2_goFrom 32 = .ok (.istore_n 3, 1) := by decide +kernel
theorem dX2_goFrom_33 : decode cX2_goFrom 33 = .ok (.iload_n 3, 1) := by decide +kernel
theorem dX2_goFrom_34 : decode cX2_goFrom 34 = .ok (.aload_n 0, 1) := by decide +kernel
theorem dX2_goFrom_35 : decode cX2_goFrom 35 = .ok (.getfield 9, 3) := by decide +kernel
theorem dX2_goFrom_38 : decode cX2_goFrom 38 = .ok (.getfield 84, 3) := by decide +kernel
theorem dX2_goFrom_41 : decode cX2_goFrom 41 = .ok (.if_icmp .ge 58, 3) := by decide +kernel
theorem dX2_goFrom_44 : decode cX2_goFrom 44 = .ok (.iconst 0, 1) := by decide +kernel
theorem dX2_goFrom_45 : decode cX2_goFrom 45 = .ok (.istore 4, 2) := by decide +kernel
theorem dX2_goFrom_47 : decode cX2_goFrom 47 = .ok (.iload 4, 2) := by decide +kernel
theorem dX2_goFrom_49 : decode cX2_goFrom 49 = .ok (.aload_n 0, 1) := by decide +kernel
theorem dX2_goFrom_50 : decode cX2_goFrom 50 = .ok (.getfield 9, 3) := by decide +kernel
theorem dX2_goFrom_53 : decode cX2_goFrom 53 = .ok (.getfield 84, 3) := by decide +kernel
theorem dX2_goFrom_56 : decode cX2_goFrom 56 = .ok (.if_icmp .ge 37, 3) := by decide +kernel
theorem dX2_goFrom_59 : decode cX2_goFrom 59 = .ok (.aload_n 0, 1) := by decide +kernel
theorem dX2_goFrom_60 : decode cX2_goFrom 60 = .ok (.getfield 9, 3) := by decide +kernel
theorem dX2_goFrom_63 : decode cX2_goFrom 63 = .ok (.iload_n 3, 1) := by decide +kernel
theorem dX2_goFrom_64 : decode cX2_goFrom 64 = .ok (.iload 4, 2) := by decide +kernel
theorem dX2_goFrom_66 : decode cX2_goFrom 66 = .ok (.invokevirtual 87, 3) := by decide +kernel
theorem dX2_goFrom_69 : decode cX2_goFrom 69 = .ok (.ifCond .le 18, 3) := by decide +kernel
theorem dX2_goFrom_72 : decode cX2_goFrom 72 = .ok (.aload_n 0, 1) := by decide +kernel
theorem dX2_goFrom_73 : decode cX2_goFrom 73 = .ok (.getfield 15, 3) := by decide +kernel
theorem dX2_goFrom_76 : decode cX2_goFrom 76 = .ok (.iload_n 3, 1) := by decide +kernel
theorem dX2_goFrom_77 : decode cX2_goFrom 77 = .ok (.iload 4, 2) := by decide +kernel
theorem dX2_goFrom_79 : decode cX2_goFrom 79 = .ok (.invokevirtual 91, 3) := by decide +kernel
theorem dX2_goFrom_82 : decode cX2_goFrom 82 = .ok (.aload_n 0, 1) := by decide +kernel
theorem dX2_goFrom_83 : decode cX2_goFrom 83 = .ok (.iload_n 1, 1) := by decide +kernel
theorem dX2_goFrom_84 : decode cX2_goFrom 84 = .ok (.invokevirtual 95, 3) := by decide +kernel
theorem dX2_goFrom_87 : decode cX2_goFrom 87 = .ok (.iinc 4 1, 3) := by decide +kernel
theorem dX2_goFrom_90 : decode cX2_goFrom 90 = .ok (.goto (-43), 3) := by decide +kernel
theorem dX2_goFrom_93 : decode cX2_goFrom 93 = .ok (.iinc 3 1, 3) := by decide +kernel
theorem dX2_goFrom_96 : decode cX2_goFrom 96 = .ok (.goto (-63), 3) := by decide +kernel
theorem dX2_goFrom_99 : decode cX2_goFrom 99 = .ok (.iconst 0, 1) := by decide +kernel
theorem dX2_goFrom_100 : decode cX2_goFrom 100 = .ok (.istore_n 3, 1) := by decide +kernel
theorem dX2_goFrom_101 : decode cX2_goFrom 101 = .ok (.iload_n 3, 1) := by decide +kernel
theorem dX2_goFrom_102 : decode cX2_goFrom 102 = .ok (.aload_n 0, 1) := by decide +kernel
theorem dX2_goFrom_103 : decode cX2_goFrom 103 = .ok (.getfield 9, 3) := by decide +kernel
theorem dX2_goFrom_106 : decode cX2_goFrom 106 = .ok (.getfield 84, 3) := by decide +kernel
theorem dX2_goFrom_109 : decode cX2_goFrom 109 = .ok (.if_icmp .ge 35, 3) := by decide +kernel
theorem dX2_goFrom_112 : decode cX2_goFrom 112 = .ok (.aload_n 0, 1) := by decide +kernel
theorem dX2_goFrom_113 : decode cX2_goFrom 113 = .ok (.getfield 9, 3) := by decide +kernel
theorem dX2_goFrom_116 : decode cX2_goFrom 116 = .ok (.iload_n 3, 1) := by decide +kernel
theorem dX2_goFrom_117 : decode cX2_goFrom 117 = .ok (.iconst 0, 1) := by decide +kernel
theorem dX2_goFrom_118 : decode cX2_goFrom 118 = .ok (.invokevirtual 98, 3) := by decide +kernel
theorem dX2_goFrom_121 : decode cX2_goFrom 121 = .ok (.iconst 2, 1) := by decide +kernel
theorem dX2_goFrom_122 : decode cX2_goFrom 122 = .ok (.if_icmp .ne 16, 3) := by decide +kernel
theorem dX2_goFrom_125 : decode cX2_goFrom 125 = .ok (.aload_n 0, 1) := by decide +kernel
theorem dX2_goFrom_126 : decode cX2_goFrom 126 = .ok (.getfield 15, 3) := by decide +kernel
theorem dX2_goFrom_129 : decode cX2_goFrom 129 = .ok (.iload_n 3, 1) := by decide +kernel
theorem dX2_goFrom_130 : decode cX2_goFrom 130 = .ok (.invokevirtual 101, 3) := by decide +kernel
theorem dX2_goFrom_133 : decode cX2_goFrom 133 = .ok (.aload_n 0, 1) := by decide +kernel
theorem dX2_goFrom_134 : decode cX2_goFrom 134 = .ok (.iload_n 1, 1) := by decide +kernel
theorem dX2_goFrom_135 : decode cX2_goFrom 135 = .ok (.invokevirtual 95, 3) := by decide +kernel
theorem dX2_goFrom_138 : decode cX2_goFrom 138 = .ok (.iinc 3 1, 3) := by decide +kernel
theorem dX2_goFrom_141 : decode cX2_goFrom 141 = .ok (.goto (-40), 3) := by decide +kernel
theorem dX2_goFrom_144 : decode cX2_goFrom 144 = .ok (.aload_n 0, 1) := by decide +kernel
theorem dX2_goFrom_145 : decode cX2_goFrom 145 = .ok (.getfield 81, 3) := by decide +kernel
theorem dX2_goFrom_148 : decode cX2_goFrom 148 = .ok (.ifCond .ne 31, 3) := by decide +kernel
theorem dX2_goFrom_151 : decode cX2_goFrom 151 = .ok (.aload_n 0, 1) := by decide +kernel
theorem dX2_goFrom_152 : decode cX2_goFrom 152 = .ok (.getfield 35, 3) := by decide +kernel
theorem dX2_goFrom_155 : decode cX2_goFrom 155 = .ok (.iconst 1, 1) := by decide +kernel
theorem dX2_goFrom_156 : decode cX2_goFrom 156 = .ok (.dup2, 1) := by decide +kernel
theorem dX2_goFrom_157 : decode cX2_goFrom 157 = .ok (.iaload, 1) := by decide +kernel
theorem dX2_goFrom_158 : decode cX2_goFrom 158 = .ok (.iconst 1, 1) := by decide +kernel
theorem dX2_goFrom_159 : decode cX2_goFrom 159 = .ok (.iadd, 1) := by decide +kernel
theorem dX2_goFrom_160 : decode cX2_goFrom 160 = .ok (.iastore, 1) := by decide +kernel
theorem dX2_goFrom_161 : decode cX2_goFrom 161 = .ok (.aload_n 0, 1) := by decide +kernel
theorem dX2_goFrom_162 : decode cX2_goFrom 162 = .ok (.getfield 35, 3) := by decide +kernel
theorem dX2_goFrom_165 : decode cX2_goFrom 165 = .ok (.iconst 3, 1) := by decide +kernel
theorem dX2_goFrom_166 : decode cX2_goFrom 166 = .ok (.dup2, 1) := by decide +kernel
theorem dX2_goFrom_167 : decode cX2_goFrom 167 = .ok (.iaload, 1) := by decide +kernel
theorem dX2_goFrom_168 : decode cX2_goFrom 168 = .ok (.iload_n 2, 1) := by decide +kernel
theorem dX2_goFrom_169 : decode cX2_goFrom 169 = .ok (.ifCond .eq 7, 3) := by decide +kernel
theorem dX2_goFrom_172 : decode cX2_goFrom 172 = .ok (.iconst 1, 1) := by decide +kernel
theorem dX2_goFrom_173 : decode cX2_goFrom 173 = .ok (.goto 4, 3) := by decide +kernel
theorem dX2_goFrom_176 : decode cX2_goFrom 176 = .ok (.iconst 0, 1) := by decide +kernel
theorem dX2_goFrom_177 : decode cX2_goFrom 177 = .ok (.iadd, 1) := by decide +kernel
theorem dX2_goFrom_178 : decode cX2_goFrom 178 = .ok (.iastore, 1) := by decide +kernel
theorem dX2_goFrom_179 : decode cX2_goFrom 179 = .ok (.return_, 1) := by decide +kernel
theorem dX2_load_0 : decode cX2_load 0 = .ok (.aload_n 0, 1) := by decide +kernel
theorem dX2_load_1 : decode cX2_load 1 = .ok (.getfield 9, 3) := by decide +kernel
theorem dX2_load_4 : decode cX2_load 4 = .ok (.aload_n 0, 1) := by decide +kernel
theorem dX2_load_5 : decode cX2_load 5 = .ok (.getfield 22, 3) := by decide +kernel
theorem dX2_load_8 : decode cX2_load 8 = .ok (.iload_n 1, 1) := by decide +kernel
theorem dX2_load_9 : decode cX2_load 9 = .ok (.sipush 608, 3) := by decide +kernel
theorem dX2_load_12 : decode cX2_load 12 = .ok (.imul, 1) := by decide +kernel
theorem dX2_load_13 : decode cX2_load 13 = .ok (.sipush 608, 3) := by decide +kernel
theorem dX2_load_16 : decode cX2_load 16 = .ok (.invokevirtual 68, 3) := by decide +kernel
theorem dX2_load_19 : decode cX2_load 19 = .ok (.return_, 1) := by decide +kernel
theorem dX2_tally_0 : decode cX2_tally 0 = .ok (.aload_n 0, 1) := by decide +kernel
theorem dX2_tally_1 : decode cX2_tally 1 = .ok (.getfield 9, 3) := by decide +kernel
theorem dX2_tally_4 : decode cX2_tally 4 = .ok (.iconst 2, 1) := by decide +kernel
theorem dX2_tally_5 : decode cX2_tally 5 = .ok (.invokevirtual 74, 3) := by decide +kernel
theorem dX2_tally_8 : decode cX2_tally 8 = .ok (.istore_n 1, 1) := by decide +kernel
theorem dX2_tally_9 : decode cX2_tally 9 = .ok (.aload_n 0, 1) := by decide +kernel
theorem dX2_tally_10 : decode cX2_tally 10 = .ok (.getfield 35, 3) := by decide +kernel
theorem dX2_tally_13 : decode cX2_tally 13 = .ok (.iconst 2, 1) := by decide +kernel
theorem dX2_tally_14 : decode cX2_tally 14 = .ok (.aload_n 0, 1) := by decide +kernel
theorem dX2_tally_15 : decode cX2_tally 15 = .ok (.getfield 35, 3) := by decide +kernel
theorem dX2_tally_18 : decode cX2_tally 18 = .ok (.iconst 2, 1) := by decide +kernel
theorem dX2_tally_19 : decode cX2_tally 19 = .ok (.iaload, 1) := by decide +kernel
theorem dX2_tally_20 : decode cX2_tally 20 = .ok (.iload_n 1, 1) := by decide +kernel
theorem dX2_tally_21 : decode cX2_tally 21 = .ok (.invokestatic 104, 3) := by decide +kernel
theorem dX2_tally_24 : decode cX2_tally 24 = .ok (.iastore, 1) := by decide +kernel
theorem dX2_tally_25 : decode cX2_tally 25 = .ok (.aload_n 0, 1) := by decide +kernel
theorem dX2_tally_26 : decode cX2_tally 26 = .ok (.getfield 35, 3) := by decide +kernel
theorem dX2_tally_29 : decode cX2_tally 29 = .ok (.iconst 4, 1) := by decide +kernel
theorem dX2_tally_30 : decode cX2_tally 30 = .ok (.dup2, 1) := by decide +kernel
theorem dX2_tally_31 : decode cX2_tally 31 = .ok (.iaload, 1) := by decide +kernel
theorem dX2_tally_32 : decode cX2_tally 32 = .ok (.iload_n 1, 1) := by decide +kernel
theorem dX2_tally_33 : decode cX2_tally 33 = .ok (.ifCond .ne 17, 3) := by decide +kernel
theorem dX2_tally_36 : decode cX2_tally 36 = .ok (.aload_n 0, 1) := by decide +kernel
theorem dX2_tally_37 : decode cX2_tally 37 = .ok (.getfield 9, 3) := by decide +kernel
theorem dX2_tally_40 : decode cX2_tally 40 = .ok (.invokevirtual 109, 3) := by decide +kernel
theorem dX2_tally_43 : decode cX2_tally 43 = .ok (.ifCond .eq 7, 3) := by decide +kernel
theorem dX2_tally_46 : decode cX2_tally 46 = .ok (.iconst 1, 1) := by decide +kernel
theorem dX2_tally_47 : decode cX2_tally 47 = .ok (.goto 4, 3) := by decide +kernel
theorem dX2_tally_50 : decode cX2_tally 50 = .ok (.iconst 0, 1) := by decide +kernel
theorem dX2_tally_51 : decode cX2_tally 51 = .ok (.iadd, 1) := by decide +kernel
theorem dX2_tally_52 : decode cX2_tally 52 = .ok (.iastore, 1) := by decide +kernel
theorem dX2_tally_53 : decode cX2_tally 53 = .ok (.aload_n 0, 1) := by decide +kernel
theorem dX2_tally_54 : decode cX2_tally 54 = .ok (.getfield 35, 3) := by decide +kernel
theorem dX2_tally_57 : decode cX2_tally 57 = .ok (.bipush 6, 2) := by decide +kernel
theorem dX2_tally_59 : decode cX2_tally 59 = .ok (.aload_n 0, 1) := by decide +kernel
theorem dX2_tally_60 : decode cX2_tally 60 = .ok (.getfield 35, 3) := by decide +kernel
theorem dX2_tally_63 : decode cX2_tally 63 = .ok (.bipush 6, 2) := by decide +kernel
theorem dX2_tally_65 : decode cX2_tally 65 = .ok (.iaload, 1) := by decide +kernel
theorem dX2_tally_66 : decode cX2_tally 66 = .ok (.aload_n 0, 1) := by decide +kernel
theorem dX2_tally_67 : decode cX2_tally 67 = .ok (.getfield 9, 3) := by decide +kernel
theorem dX2_tally_70 : decode cX2_tally 70 = .ok (.invokevirtual 113, 3) := by decide +kernel
theorem dX2_tally_73 : decode cX2_tally 73 = .ok (.invokestatic 104, 3) := by decide +kernel
theorem dX2_tally_76 : decode cX2_tally 76 = .ok (.iastore, 1) := by decide +kernel
theorem dX2_tally_77 : decode cX2_tally 77 = .ok (.return_, 1) := by decide +kernel
theorem dX2_weigh_0 : decode cX2_weigh 0 = .ok (.aload_n 0, 1) := by decide +kernel
theorem dX2_weigh_1 : decode cX2_weigh 1 = .ok (.getfield 9, 3) := by decide +kernel
theorem dX2_weigh_4 : decode cX2_weigh 4 = .ok (.getfield 117, 3) := by decide +kernel
theorem dX2_weigh_7 : decode cX2_weigh 7 = .ok (.ifCond .eq 16, 3) := by decide +kernel
theorem dX2_weigh_10 : decode cX2_weigh 10 = .ok (.aload_n 0, 1) := by decide +kernel
theorem dX2_weigh_11 : decode cX2_weigh 11 = .ok (.getfield 35, 3) := by decide +kernel
theorem dX2_weigh_14 : decode cX2_weigh 14 = .ok (.iconst 5, 1) := by decide +kernel
theorem dX2_weigh_15 : decode cX2_weigh 15 = .ok (.dup2, 1) := by decide +kernel
theorem dX2_weigh_16 : decode cX2_weigh 16 = .ok (.iaload, 1) := by decide +kernel
theorem dX2_weigh_17 : decode cX2_weigh 17 = .ok (.iconst 1, 1) := by decide +kernel
theorem dX2_weigh_18 : decode cX2_weigh 18 = .ok (.iadd, 1) := by decide +kernel
theorem dX2_weigh_19 : decode cX2_weigh 19 = .ok (.iastore, 1) := by decide +kernel
theorem dX2_weigh_20 : decode cX2_weigh 20 = .ok (.goto 12, 3) := by decide +kernel
theorem dX2_weigh_23 : decode cX2_weigh 23 = .ok (.aload_n 0, 1) := by decide +kernel
theorem dX2_weigh_24 : decode cX2_weigh 24 = .ok (.iconst 1, 1) := by decide +kernel
theorem dX2_weigh_25 : decode cX2_weigh 25 = .ok (.putfield 81, 3) := by decide +kernel
theorem dX2_weigh_28 : decode cX2_weigh 28 = .ok (.aload_n 0, 1) := by decide +kernel
theorem dX2_weigh_29 : decode cX2_weigh 29 = .ok (.invokevirtual 61, 3) := by decide +kernel
theorem dX2_weigh_32 : decode cX2_weigh 32 = .ok (.aload_n 0, 1) := by decide +kernel
theorem dX2_weigh_33 : decode cX2_weigh 33 = .ok (.iload_n 1, 1) := by decide +kernel
theorem dX2_weigh_34 : decode cX2_weigh 34 = .ok (.invokevirtual 71, 3) := by decide +kernel
theorem dX2_weigh_37 : decode cX2_weigh 37 = .ok (.return_, 1) := by decide +kernel
theorem dX2_keep_0 : decode cX2_keep 0 = .ok (.aload_n 0, 1) := by decide +kernel
theorem dX2_keep_1 : decode cX2_keep 1 = .ok (.invokevirtual 120, 3) := by decide +kernel
theorem dX2_keep_4 : decode cX2_keep 4 = .ok (.istore_n 1, 1) := by decide +kernel
theorem dX2_keep_5 : decode cX2_keep 5 = .ok (.iload_n 1, 1) := by decide +kernel
theorem dX2_keep_6 : decode cX2_keep 6 = .ok (.sipush 1023, 3) := by decide +kernel
theorem dX2_keep_9 : decode cX2_keep 9 = .ok (.iand, 1) := by decide +kernel
theorem dX2_keep_10 : decode cX2_keep 10 = .ok (.istore_n 2, 1) := by decide +kernel
theorem dX2_keep_11 : decode cX2_keep 11 = .ok (.iconst 0, 1) := by decide +kernel
theorem dX2_keep_12 : decode cX2_keep 12 = .ok (.istore_n 3, 1) := by decide +kernel
theorem dX2_keep_13 : decode cX2_keep 13 = .ok (.iload_n 3, 1) := by decide +kernel
theorem dX2_keep_14 : decode cX2_keep 14 = .ok (.sipush 1024, 3) := by decide +kernel
theorem dX2_keep_17 : decode cX2_keep 17 = .ok (.if_icmp .ge 43, 3) := by decide +kernel
theorem dX2_keep_20 : decode cX2_keep 20 = .ok (.aload_n 0, 1) := by decide +kernel
theorem dX2_keep_21 : decode cX2_keep 21 = .ok (.getfield 29, 3) := by decide +kernel
theorem dX2_keep_24 : decode cX2_keep 24 = .ok (.iload_n 2, 1) := by decide +kernel
theorem dX2_keep_25 : decode cX2_keep 25 = .ok (.iaload, 1) := by decide +kernel
theorem dX2_keep_26 : decode cX2_keep 26 = .ok (.ifCond .eq 34, 3) := by decide +kernel
theorem dX2_keep_29 : decode cX2_keep 29 = .ok (.aload_n 0, 1) := by decide +kernel
theorem dX2_keep_30 : decode cX2_keep 30 = .ok (.aload_n 0, 1) := by decide +kernel
theorem dX2_keep_31 : decode cX2_keep 31 = .ok (.getfield 29, 3) := by decide +kernel
theorem dX2_keep_34 : decode cX2_keep 34 = .ok (.iload_n 2, 1) := by decide +kernel
theorem dX2_keep_35 : decode cX2_keep 35 = .ok (.iaload, 1) := by decide +kernel
theorem dX2_keep_36 : decode cX2_keep 36 = .ok (.iconst 1, 1) := by decide +kernel
theorem dX2_keep_37 : decode cX2_keep 37 = .ok (.isub, 1) := by decide +kernel
theorem dX2_keep_38 : decode cX2_keep 38 = .ok (.iload_n 1, 1) := by decide +kernel
theorem dX2_keep_39 : decode cX2_keep 39 = .ok (.invokevirtual 123, 3) := by decide +kernel
theorem dX2_keep_42 : decode cX2_keep 42 = .ok (.ifCond .eq 4, 3) := by decide +kernel
theorem dX2_keep_45 : decode cX2_keep 45 = .ok (.return_, 1) := by decide +kernel
theorem dX2_keep_46 : decode cX2_keep 46 = .ok (.iload_n 2, 1) := by decide +kernel
theorem dX2_keep_47 : decode cX2_keep 47 = .ok (.iconst 1, 1) := by decide +kernel
theorem dX2_keep_48 : decode cX2_keep 48 = .ok (.iadd, 1) := by decide +kernel
theorem dX2_keep_49 : decode cX2_keep 49 = .ok (.sipush 1023, 3) := by decide +kernel
theorem dX2_keep_52 : decode cX2_keep 52 = .ok (.iand, 1) := by decide +kernel
theorem dX2_keep_53 : decode cX2_keep 53 = .ok (.istore_n 2, 1) := by decide +kernel
theorem dX2_keep_54 : decode cX2_keep 54 = .ok (.iinc 3 1, 3) := by decide +kernel
theorem dX2_keep_57 : decode cX2_keep 57 = .ok (.goto (-44), 3) := by decide +kernel
theorem dX2_keep_60 : decode cX2_keep 60 = .ok (.aload_n 0, 1) := by decide +kernel
theorem dX2_keep_61 : decode cX2_keep 61 = .ok (.getfield 44, 3) := by decide +kernel
theorem dX2_keep_64 : decode cX2_keep 64 = .ok (.sipush 300, 3) := by decide +kernel
theorem dX2_keep_67 : decode cX2_keep 67 = .ok (.if_icmp .lt 9, 3) := by decide +kernel
theorem dX2_keep_70 : decode cX2_keep 70 = .ok (.aload_n 0, 1) := by decide +kernel
theorem dX2_keep_71 : decode cX2_keep 71 = .ok (.iconst 1, 1) := by decide +kernel
theorem dX2_keep_72 : decode cX2_keep 72 = .ok (.putfield 48, 3) := by decide +kernel
theorem dX2_keep_75 : decode cX2_keep 75 = .ok (.return_, 1) := by decide +kernel
theorem dX2_keep_76 : decode cX2_keep 76 = .ok (.aload_n 0, 1) := by decide +kernel
theorem dX2_keep_77 : decode cX2_keep 77 = .ok (.getfield 9, 3) := by decide +kernel
theorem dX2_keep_80 : decode cX2_keep 80 = .ok (.aload_n 0, 1) := by decide +kernel
theorem dX2_keep_81 : decode cX2_keep 81 = .ok (.getfield 22, 3) := by decide +kernel
theorem dX2_keep_84 : decode cX2_keep 84 = .ok (.aload_n 0, 1) := by decide +kernel
theorem dX2_keep_85 : decode cX2_keep 85 = .ok (.getfield 44, 3) := by decide +kernel
theorem dX2_keep_88 : decode cX2_keep 88 = .ok (.sipush 608, 3) := by decide +kernel
theorem dX2_keep_91 : decode cX2_keep 91 = .ok (.imul, 1) := by decide +kernel
theorem dX2_keep_92 : decode cX2_keep 92 = .ok (.sipush 608, 3) := by decide +kernel
theorem dX2_keep_95 : decode cX2_keep 95 = .ok (.invokevirtual 52, 3) := by decide +kernel
theorem dX2_keep_98 : decode cX2_keep 98 = .ok (.aload_n 0, 1) := by decide +kernel
theorem dX2_keep_99 : decode cX2_keep 99 = .ok (.getfield 26, 3) := by decide +kernel
theorem dX2_keep_102 : decode cX2_keep 102 = .ok (.aload_n 0, 1) := by decide +kernel
theorem dX2_keep_103 : decode cX2_keep 103 = .ok (.getfield 44, 3) := by decide +kernel
theorem dX2_keep_106 : decode cX2_keep 106 = .ok (.iload_n 1, 1) := by decide +kernel
theorem dX2_keep_107 : decode cX2_keep 107 = .ok (.iastore, 1) := by decide +kernel
theorem dX2_keep_108 : decode cX2_keep 108 = .ok (.aload_n 0, 1) := by decide +kernel
theorem dX2_keep_109 : decode cX2_keep 109 = .ok (.dup, 1) := by decide +kernel
theorem dX2_keep_110 : decode cX2_keep 110 = .ok (.getfield 44, 3) := by decide +kernel
theorem dX2_keep_113 : decode cX2_keep 113 = .ok (.iconst 1, 1) := by decide +kernel
theorem dX2_keep_114 : decode cX2_keep 114 = .ok (.iadd, 1) := by decide +kernel
theorem dX2_keep_115 : decode cX2_keep 115 = .ok (.putfield 44, 3) := by decide +kernel
theorem dX2_keep_118 : decode cX2_keep 118 = .ok (.aload_n 0, 1) := by decide +kernel
theorem dX2_keep_119 : decode cX2_keep 119 = .ok (.getfield 29, 3) := by decide +kernel
theorem dX2_keep_122 : decode cX2_keep 122 = .ok (.iload_n 2, 1) := by decide +kernel
theorem dX2_keep_123 : decode cX2_keep 123 = .ok (.aload_n 0, 1) := by decide +kernel
theorem dX2_keep_124 : decode cX2_keep 124 = .ok (.getfield 44, 3) := by decide +kernel
theorem dX2_keep_127 : decode cX2_keep 127 = .ok (.iastore, 1) := by decide +kernel
theorem dX2_keep_128 : decode cX2_keep 128 = .ok (.return_, 1) := by decide +kernel
theorem dX2_isState_0 : decode cX2_isState 0 = .ok (.iload_n 1, 1) := by decide +kernel
theorem dX2_isState_1 : decode cX2_isState 1 = .ok (.ifCond .lt 22, 3) := by decide +kernel
theorem dX2_isState_4 : decode cX2_isState 4 = .ok (.iload_n 1, 1) := by decide +kernel
theorem dX2_isState_5 : decode cX2_isState 5 = .ok (.aload_n 0, 1) := by decide +kernel
theorem dX2_isState_6 : decode cX2_isState 6 = .ok (.getfield 26, 3) := by decide +kernel
theorem dX2_isState_9 : decode cX2_isState 9 = .ok (.arraylength, 1) := by decide +kernel
theorem dX2_isState_10 : decode cX2_isState 10 = .ok (.if_icmp .ge 13, 3) := by decide +kernel
theorem dX2_isState_13 : decode cX2_isState 13 = .ok (.aload_n 0, 1) := by decide +kernel
theorem dX2_isState_14 : decode cX2_isState 14 = .ok (.getfield 26, 3) := by decide +kernel
theorem dX2_isState_17 : decode cX2_isState 17 = .ok (.iload_n 1, 1) := by decide +kernel
theorem dX2_isState_18 : decode cX2_isState 18 = .ok (.iaload, 1) := by decide +kernel
theorem dX2_isState_19 : decode cX2_isState 19 = .ok (.iload_n 2, 1) := by decide +kernel
theorem dX2_isState_20 : decode cX2_isState 20 = .ok (.if_icmp .eq 5, 3) := by decide +kernel
theorem dX2_isState_23 : decode cX2_isState 23 = .ok (.iconst 0, 1) := by decide +kernel
theorem dX2_isState_24 : decode cX2_isState 24 = .ok (.ireturn, 1) := by decide +kernel
theorem dX2_isState_25 : decode cX2_isState 25 = .ok (.aload_n 0, 1) := by decide +kernel
theorem dX2_isState_26 : decode cX2_isState 26 = .ok (.iload_n 1, 1) := by decide +kernel
theorem dX2_isState_27 : decode cX2_isState 27 = .ok (.iconst 0, 1) := by decide +kernel
theorem dX2_isState_28 : decode cX2_isState 28 = .ok (.bipush 6, 2) := by decide +kernel
theorem dX2_isState_30 : decode cX2_isState 30 = .ok (.invokevirtual 127, 3) := by decide +kernel
theorem dX2_isState_33 : decode cX2_isState 33 = .ok (.ifCond .eq 25, 3) := by decide +kernel
theorem dX2_isState_36 : decode cX2_isState 36 = .ok (.aload_n 0, 1) := by decide +kernel
theorem dX2_isState_37 : decode cX2_isState 37 = .ok (.iload_n 1, 1) := by decide +kernel
theorem dX2_isState_38 : decode cX2_isState 38 = .ok (.aload_n 0, 1) := by decide +kernel
theorem dX2_isState_39 : decode cX2_isState 39 = .ok (.getfield 9, 3) := by decide +kernel
theorem dX2_isState_42 : decode cX2_isState 42 = .ok (.invokevirtual 131, 3) := by decide +kernel
theorem dX2_isState_45 : decode cX2_isState 45 = .ok (.aload_n 0, 1) := by decide +kernel
theorem dX2_isState_46 : decode cX2_isState 46 = .ok (.getfield 9, 3) := by decide +kernel
theorem dX2_isState_49 : decode cX2_isState 49 = .ok (.invokevirtual 134, 3) := by decide +kernel
theorem dX2_isState_52 : decode cX2_isState 52 = .ok (.invokevirtual 127, 3) := by decide +kernel
theorem dX2_isState_55 : decode cX2_isState 55 = .ok (.ifCond .ne 5, 3) := by decide +kernel
theorem dX2_isState_58 : decode cX2_isState 58 = .ok (.iconst 0, 1) := by decide +kernel
theorem dX2_isState_59 : decode cX2_isState 59 = .ok (.ireturn, 1) := by decide +kernel
theorem dX2_isState_60 : decode cX2_isState 60 = .ok (.iconst 0, 1) := by decide +kernel
theorem dX2_isState_61 : decode cX2_isState 61 = .ok (.istore_n 3, 1) := by decide +kernel
theorem dX2_isState_62 : decode cX2_isState 62 = .ok (.iload_n 3, 1) := by decide +kernel
theorem dX2_isState_63 : decode cX2_isState 63 = .ok (.aload_n 0, 1) := by decide +kernel
theorem dX2_isState_64 : decode cX2_isState 64 = .ok (.getfield 9, 3) := by decide +kernel
theorem dX2_isState_67 : decode cX2_isState 67 = .ok (.getfield 84, 3) := by decide +kernel
theorem dX2_isState_70 : decode cX2_isState 70 = .ok (.if_icmp .ge 65, 3) := by decide +kernel
theorem dX2_isState_73 : decode cX2_isState 73 = .ok (.iconst 0, 1) := by decide +kernel
theorem dX2_isState_74 : decode cX2_isState 74 = .ok (.istore 4, 2) := by decide +kernel
theorem dX2_isState_76 : decode cX2_isState 76 = .ok (.iload 4, 2) := by decide +kernel
theorem dX2_isState_78 : decode cX2_isState 78 = .ok (.aload_n 0, 1) := by decide +kernel
theorem dX2_isState_79 : decode cX2_isState 79 = .ok (.getfield 9, 3) := by decide +kernel
theorem dX2_isState_82 : decode cX2_isState 82 = .ok (.getfield 84, 3) := by decide +kernel
theorem dX2_isState_85 : decode cX2_isState 85 = .ok (.if_icmp .ge 44, 3) := by decide +kernel
theorem dX2_isState_88 : decode cX2_isState 88 = .ok (.iload_n 3, 1) := by decide +kernel
theorem dX2_isState_89 : decode cX2_isState 89 = .ok (.iload 4, 2) := by decide +kernel
theorem dX2_isState_91 : decode cX2_isState 91 = .ok (.invokestatic 137, 3) := by decide +kernel
theorem dX2_isState_94 : decode cX2_isState 94 = .ok (.istore 5, 2) := by decide +kernel
theorem dX2_isState_96 : decode cX2_isState 96 = .ok (.aload_n 0, 1) := by decide +kernel
theorem dX2_isState_97 : decode cX2_isState 97 = .ok (.iload_n 1, 1) := by decide +kernel
theorem dX2_isState_98 : decode cX2_isState 98 = .ok (.iload 5, 2) := by decide +kernel
theorem dX2_isState_100 : decode cX2_isState 100 = .ok (.iload 5, 2) := by decide +kernel
theorem dX2_isState_102 : decode cX2_isState 102 = .ok (.iconst 1, 1) := by decide +kernel
theorem dX2_isState_103 : decode cX2_isState 103 = .ok (.iadd, 1) := by decide +kernel
theorem dX2_isState_104 : decode cX2_isState 104 = .ok (.aload_n 0, 1) := by decide +kernel
theorem dX2_isState_105 : decode cX2_isState 105 = .ok (.getfield 9, 3) := by decide +kernel
theorem dX2_isState_108 : decode cX2_isState 108 = .ok (.iload_n 3, 1) := by decide +kernel
theorem dX2_isState_109 : decode cX2_isState 109 = .ok (.iload 4, 2) := by decide +kernel
theorem dX2_isState_111 : decode cX2_isState 111 = .ok (.invokevirtual 87, 3) := by decide +kernel
theorem dX2_isState_114 : decode cX2_isState 114 = .ok (.iadd, 1) := by decide +kernel
theorem dX2_isState_115 : decode cX2_isState 115 = .ok (.invokevirtual 127, 3) := by decide +kernel
theorem dX2_isState_118 : decode cX2_isState 118 = .ok (.ifCond .ne 5, 3) := by decide +kernel
theorem dX2_isState_121 : decode cX2_isState 121 = .ok (.iconst 0, 1) := by decide +kernel
theorem dX2_isState_122 : decode cX2_isState 122 = .ok (.ireturn, 1) := by decide +kernel
theorem dX2_isState_123 : decode cX2_isState 123 = .ok (.iinc 4 1, 3) := by decide +kernel
theorem dX2_isState_126 : decode cX2_isState 126 = .ok (.goto (-50), 3) := by decide +kernel
theorem dX2_isState_129 : decode cX2_isState 129 = .ok (.iinc 3 1, 3) := by decide +kernel
theorem dX2_isState_132 : decode cX2_isState 132 = .ok (.goto (-70), 3) := by decide +kernel
theorem dX2_isState_135 : decode cX2_isState 135 = .ok (.iconst 1, 1) := by decide +kernel
theorem dX2_isState_136 : decode cX2_isState 136 = .ok (.ireturn, 1) := by decide +kernel
theorem dX2_isLike_0 : decode cX2_isLike 0 = .ok (.aload_n 0, 1) := by decide +kernel
theorem dX2_isLike_1 : decode cX2_isLike 1 = .ok (.getfield 9, 3) := by decide +kernel
theorem dX2_isLike_4 : decode cX2_isLike 4 = .ok (.getfield 140, 3) := by decide +kernel
theorem dX2_isLike_7 : decode cX2_isLike 7 = .ok (.astore 4, 2) := by decide +kernel
theorem dX2_isLike_9 : decode cX2_isLike 9 = .ok (.iload_n 1, 1) := by decide +kernel
theorem dX2_isLike_10 : decode cX2_isLike 10 = .ok (.sipush 608, 3) := by decide +kernel
theorem dX2_isLike_13 : decode cX2_isLike 13 = .ok (.imul, 1) := by decide +kernel
theorem dX2_isLike_14 : decode cX2_isLike 14 = .ok (.istore 5, 2) := by decide +kernel
theorem dX2_isLike_16 : decode cX2_isLike 16 = .ok (.iload_n 2, 1) := by decide +kernel
theorem dX2_isLike_17 : decode cX2_isLike 17 = .ok (.ifCond .lt 27, 3) := by decide +kernel
theorem dX2_isLike_20 : decode cX2_isLike 20 = .ok (.iload_n 3, 1) := by decide +kernel
theorem dX2_isLike_21 : decode cX2_isLike 21 = .ok (.aload 4, 2) := by decide +kernel
theorem dX2_isLike_23 : decode cX2_isLike 23 = .ok (.arraylength, 1) := by decide +kernel
theorem dX2_isLike_24 : decode cX2_isLike 24 = .ok (.if_icmp .gt 20, 3) := by decide +kernel
theorem dX2_isLike_27 : decode cX2_isLike 27 = .ok (.iload 5, 2) := by decide +kernel
theorem dX2_isLike_29 : decode cX2_isLike 29 = .ok (.ifCond .lt 15, 3) := by decide +kernel
theorem dX2_isLike_32 : decode cX2_isLike 32 = .ok (.iload 5, 2) := by decide +kernel
theorem dX2_isLike_34 : decode cX2_isLike 34 = .ok (.aload_n 0, 1) := by decide +kernel
theorem dX2_isLike_35 : decode cX2_isLike 35 = .ok (.getfield 22, 3) := by decide +kernel
theorem dX2_isLike_38 : decode cX2_isLike 38 = .ok (.arraylength, 1) := by decide +kernel
theorem dX2_isLike_39 : decode cX2_isLike 39 = .ok (.iload_n 3, 1) := by decide +kernel
theorem dX2_isLike_40 : decode cX2_isLike 40 = .ok (.isub, 1) := by decide +kernel
theorem dX2_isLike_41 : decode cX2_isLike 41 = .ok (.if_icmp .le 5, 3) := by decide +kernel
theorem dX2_isLike_44 : decode cX2_isLike 44 = .ok (.iconst 0, 1) := by decide +kernel
theorem dX2_isLike_45 : decode cX2_isLike 45 = .ok (.ireturn, 1) := by decide +kernel
theorem dX2_isLike_46 : decode cX2_isLike 46 = .ok (.iload_n 2, 1) := by decide +kernel
theorem dX2_isLike_47 : decode cX2_isLike 47 = .ok (.istore 6, 2) := by decide +kernel
theorem dX2_isLike_49 : decode cX2_isLike 49 = .ok (.iload 6, 2) := by decide +kernel
theorem dX2_isLike_51 : decode cX2_isLike 51 = .ok (.iload_n 3, 1) := by decide +kernel
theorem dX2_isLike_52 : decode cX2_isLike 52 = .ok (.if_icmp .ge 29, 3) := by decide +kernel
theorem dX2_isLike_55 : decode cX2_isLike 55 = .ok (.aload_n 0, 1) := by decide +kernel
theorem dX2_isLike_56 : decode cX2_isLike 56 = .ok (.getfield 22, 3) := by decide +kernel
theorem dX2_isLike_59 : decode cX2_isLike 59 = .ok (.iload 5, 2) := by decide +kernel
theorem dX2_isLike_61 : decode cX2_isLike 61 = .ok (.iload 6, 2) := by decide +kernel
theorem dX2_isLike_63 : decode cX2_isLike 63 = .ok (.iadd, 1) := by decide +kernel
theorem dX2_isLike_64 : decode cX2_isLike 64 = .ok (.iaload, 1) := by decide +kernel
theorem dX2_isLike_65 : decode cX2_isLike 65 = .ok (.aload 4, 2) := by decide +kernel
theorem dX2_isLike_67 : decode cX2_isLike 67 = .ok (.iload 6, 2) := by decide +kernel
theorem dX2_isLike_69 : decode cX2_isLike 69 = .ok (.iaload, 1) := by decide +kernel
theorem dX2_isLike_70 : decode cX2_isLike 70 = .ok (.if_icmp .eq 5, 3) := by decide +kernel
theorem dX2_isLike_73 : decode cX2_isLike 73 = .ok (.iconst 0, 1) := by decide +kernel
theorem dX2_isLike_74 : decode cX2_isLike 74 = .ok (.ireturn, 1) := by decide +kernel
theorem dX2_isLike_75 : decode cX2_isLike 75 = .ok (.iinc 6 1, 3) := by decide +kernel
theorem dX2_isLike_78 : decode cX2_isLike 78 = .ok (.goto (-29), 3) := by decide +kernel
theorem dX2_isLike_81 : decode cX2_isLike 81 = .ok (.iconst 1, 1) := by decide +kernel
theorem dX2_isLike_82 : decode cX2_isLike 82 = .ok (.ireturn, 1) := by decide +kernel
theorem dX2_hash_0 : decode cX2_hash 0 = .ok (.aload_n 0, 1) := by decide +kernel
theorem dX2_hash_1 : decode cX2_hash 1 = .ok (.iconst 0, 1) := by decide +kernel
theorem dX2_hash_2 : decode cX2_hash 2 = .ok (.iconst 0, 1) := by decide +kernel
theorem dX2_hash_3 : decode cX2_hash 3 = .ok (.bipush 6, 2) := by decide +kernel
theorem dX2_hash_5 : decode cX2_hash 5 = .ok (.invokevirtual 143, 3) := by decide +kernel
theorem dX2_hash_8 : decode cX2_hash 8 = .ok (.istore_n 1, 1) := by decide +kernel
theorem dX2_hash_9 : decode cX2_hash 9 = .ok (.aload_n 0, 1) := by decide +kernel
theorem dX2_hash_10 : decode cX2_hash 10 = .ok (.iload_n 1, 1) := by decide +kernel
theorem dX2_hash_11 : decode cX2_hash 11 = .ok (.aload_n 0, 1) := by decide +kernel
theorem dX2_hash_12 : decode cX2_hash 12 = .ok (.getfield 9, 3) := by decide +kernel
theorem dX2_hash_15 : decode cX2_hash 15 = .ok (.invokevirtual 131, 3) := by decide +kernel
theorem dX2_hash_18 : decode cX2_hash 18 = .ok (.aload_n 0, 1) := by decide +kernel
theorem dX2_hash_19 : decode cX2_hash 19 = .ok (.getfield 9, 3) := by decide +kernel
theorem dX2_hash_22 : decode cX2_hash 22 = .ok (.invokevirtual 134, 3) := by decide +kernel
theorem dX2_hash_25 : decode cX2_hash 25 = .ok (.invokevirtual 143, 3) := by decide +kernel
theorem dX2_hash_28 : decode cX2_hash 28 = .ok (.istore_n 1, 1) := by decide +kernel
theorem dX2_hash_29 : decode cX2_hash 29 = .ok (.iconst 0, 1) := by decide +kernel
theorem dX2_hash_30 : decode cX2_hash 30 = .ok (.istore_n 2, 1) := by decide +kernel
theorem dX2_hash_31 : decode cX2_hash 31 = .ok (.iload_n 2, 1) := by decide +kernel
theorem dX2_hash_32 : decode cX2_hash 32 = .ok (.aload_n 0, 1) := by decide +kernel
theorem dX2_hash_33 : decode cX2_hash 33 = .ok (.getfield 9, 3) := by decide +kernel
theorem dX2_hash_36 : decode cX2_hash 36 = .ok (.getfield 84, 3) := by decide +kernel
theorem dX2_hash_39 : decode cX2_hash 39 = .ok (.if_icmp .ge 57, 3) := by decide +kernel
theorem dX2_hash_42 : decode cX2_hash 42 = .ok (.iconst 0, 1) := by decide +kernel
theorem dX2_hash_43 : decode cX2_hash 43 = .ok (.istore_n 3, 1) := by decide +kernel
theorem dX2_hash_44 : decode cX2_hash 44 = .ok (.iload_n 3, 1) := by decide +kernel
theorem dX2_hash_45 : decode cX2_hash 45 = .ok (.aload_n 0, 1) := by decide +kernel
theorem dX2_hash_46 : decode cX2_hash 46 = .ok (.getfield 9, 3) := by decide +kernel
theorem dX2_hash_49 : decode cX2_hash 49 = .ok (.getfield 84, 3) := by decide +kernel
theorem dX2_hash_52 : decode cX2_hash 52 = .ok (.if_icmp .ge 38, 3) := by decide +kernel
theorem dX2_hash_55 : decode cX2_hash 55 = .ok (.iload_n 2, 1) := by decide +kernel
theorem dX2_hash_56 : decode cX2_hash 56 = .ok (.iload_n 3, 1) := by decide +kernel
theorem dX2_hash_57 : decode cX2_hash 57 = .ok (.invokestatic 137, 3) := by decide +kernel
theorem dX2_hash_60 : decode cX2_hash 60 = .ok (.istore 4, 2) := by decide +kernel
theorem dX2_hash_62 : decode cX2_hash 62 = .ok (.aload_n 0, 1) := by decide +kernel
theorem dX2_hash_63 : decode cX2_hash 63 = .ok (.iload_n 1, 1) := by decide +kernel
theorem dX2_hash_64 : decode cX2_hash 64 = .ok (.iload 4, 2) := by decide +kernel
theorem dX2_hash_66 : decode cX2_hash 66 = .ok (.iload 4, 2) := by decide +kernel
theorem dX2_hash_68 : decode cX2_hash 68 = .ok (.iconst 1, 1) := by decide +kernel
theorem dX2_hash_69 : decode cX2_hash 69 = .ok (.iadd, 1) := by decide +kernel
theorem dX2_hash_70 : decode cX2_hash 70 = .ok (.aload_n 0, 1) := by decide +kernel
theorem dX2_hash_71 : decode cX2_hash 71 = .ok (.getfield 9, 3) := by decide +kernel
theorem dX2_hash_74 : decode cX2_hash 74 = .ok (.iload_n 2, 1) := by decide +kernel
theorem dX2_hash_75 : decode cX2_hash 75 = .ok (.iload_n 3, 1) := by decide +kernel
theorem dX2_hash_76 : decode cX2_hash 76 = .ok (.invokevirtual 87, 3) := by decide +kernel
theorem dX2_hash_79 : decode cX2_hash 79 = .ok (.iadd, 1) := by decide +kernel
theorem dX2_hash_80 : decode cX2_hash 80 = .ok (.invokevirtual 143, 3) := by decide +kernel
theorem dX2_hash_83 : decode cX2_hash 83 = .ok (.istore_n 1, 1) := by decide +kernel
theorem dX2_hash_84 : decode cX2_hash 84 = .ok (.iinc 3 1, 3) := by decide +kernel
theorem dX2_hash_87 : decode cX2_hash 87 = .ok (.goto (-43), 3) := by decide +kernel
theorem dX2_hash_90 : decode cX2_hash 90 = .ok (.iinc 2 1, 3) := by decide +kernel
theorem dX2_hash_93 : decode cX2_hash 93 = .ok (.goto (-62), 3) := by decide +kernel
theorem dX2_hash_96 : decode cX2_hash 96 = .ok (.iload_n 1, 1) := by decide +kernel
theorem dX2_hash_97 : decode cX2_hash 97 = .ok (.iload_n 1, 1) := by decide +kernel
theorem dX2_hash_98 : decode cX2_hash 98 = .ok (.bipush 16, 2) := by decide +kernel
theorem dX2_hash_100 : decode cX2_hash 100 = .ok (.iushr, 1) := by decide +kernel
theorem dX2_hash_101 : decode cX2_hash 101 = .ok (.ixor, 1) := by decide +kernel
theorem dX2_hash_102 : decode cX2_hash 102 = .ok (.ireturn, 1) := by decide +kernel
theorem dX2_mixed_0 : decode cX2_mixed 0 = .ok (.aload_n 0, 1) := by decide +kernel
theorem dX2_mixed_1 : decode cX2_mixed 1 = .ok (.getfield 9, 3) := by decide +kernel
theorem dX2_mixed_4 : decode cX2_mixed 4 = .ok (.getfield 140, 3) := by decide +kernel
theorem dX2_mixed_7 : decode cX2_mixed 7 = .ok (.astore 4, 2) := by decide +kernel
theorem dX2_mixed_9 : decode cX2_mixed 9 = .ok (.iload_n 1, 1) := by decide +kernel
theorem dX2_mixed_10 : decode cX2_mixed 10 = .ok (.istore 5, 2) := by decide +kernel
theorem dX2_mixed_12 : decode cX2_mixed 12 = .ok (.iload_n 2, 1) := by decide +kernel
theorem dX2_mixed_13 : decode cX2_mixed 13 = .ok (.iconst 0, 1) := by decide +kernel
theorem dX2_mixed_14 : decode cX2_mixed 14 = .ok (.invokestatic 104, 3) := by decide +kernel
theorem dX2_mixed_17 : decode cX2_mixed 17 = .ok (.istore 6, 2) := by decide +kernel
theorem dX2_mixed_19 : decode cX2_mixed 19 = .ok (.iload 6, 2) := by decide +kernel
theorem dX2_mixed_21 : decode cX2_mixed 21 = .ok (.iload_n 3, 1) := by decide +kernel
theorem dX2_mixed_22 : decode cX2_mixed 22 = .ok (.if_icmp .ge 30, 3) := by decide +kernel
theorem dX2_mixed_25 : decode cX2_mixed 25 = .ok (.iload 6, 2) := by decide +kernel
theorem dX2_mixed_27 : decode cX2_mixed 27 = .ok (.aload 4, 2) := by decide +kernel
theorem dX2_mixed_29 : decode cX2_mixed 29 = .ok (.arraylength, 1) := by decide +kernel
theorem dX2_mixed_30 : decode cX2_mixed 30 = .ok (.if_icmp .ge 22, 3) := by decide +kernel
theorem dX2_mixed_33 : decode cX2_mixed 33 = .ok (.iload 5, 2) := by decide +kernel
theorem dX2_mixed_35 : decode cX2_mixed 35 = .ok (.bipush 31, 2) := by decide +kernel
theorem dX2_mixed_37 : decode cX2_mixed 37 = .ok (.imul, 1) := by decide +kernel
theorem dX2_mixed_38 : decode cX2_mixed 38 = .ok (.aload 4, 2) := by decide +kernel
theorem dX2_mixed_40 : decode cX2_mixed 40 = .ok (.iload 6, 2) := by decide +kernel
theorem dX2_mixed_42 : decode cX2_mixed 42 = .ok (.iaload, 1) := by decide +kernel
theorem dX2_mixed_43 : decode cX2_mixed 43 = .ok (.iadd, 1) := by decide +kernel
theorem dX2_mixed_44 : decode cX2_mixed 44 = .ok (.istore 5, 2) := by decide +kernel
theorem dX2_mixed_46 : decode cX2_mixed 46 = .ok (.iinc 6 1, 3) := by decide +kernel
theorem dX2_mixed_49 : decode cX2_mixed 49 = .ok (.goto (-30), 3) := by decide +kernel
theorem dX2_mixed_52 : decode cX2_mixed 52 = .ok (.iload 5, 2) := by decide +kernel
theorem dX2_mixed_54 : decode cX2_mixed 54 = .ok (.ireturn, 1) := by decide +kernel
theorem dX3_init_0 : decode cX3_init 0 = .ok (.aload_n 0, 1) := by decide +kernel
theorem dX3_init_1 : decode cX3_init 1 = .ok (.invokespecial 5, 3) := by decide +kernel
theorem dX3_init_4 : decode cX3_init 4 = .ok (.aload_n 0, 1) := by decide +kernel
theorem dX3_init_5 : decode cX3_init 5 = .ok (.sipush 618, 3) := by decide +kernel
theorem dX3_init_8 : decode cX3_init 8 = .ok (.newarray .int, 2) := by decide +kernel
theorem dX3_init_10 : decode cX3_init 10 = .ok (.putfield 11, 3) := by decide +kernel
theorem dX3_init_13 : decode cX3_init 13 = .ok (.return_, 1) := by decide +kernel
theorem dX3_kindOf_0 : decode cX3_kindOf 0 = .ok (.iload_n 0, 1) := by decide +kernel
theorem dX3_kindOf_1 : decode cX3_kindOf 1 = .ok (.iconst 3, 1) := by decide +kernel
theorem dX3_kindOf_2 : decode cX3_kindOf 2 = .ok (.iand, 1) := by decide +kernel
theorem dX3_kindOf_3 : decode cX3_kindOf 3 = .ok (.ireturn, 1) := by decide +kernel
theorem dX3_numberOf_0 : decode cX3_numberOf 0 = .ok (.iload_n 0, 1) := by decide +kernel
theorem dX3_numberOf_1 : decode cX3_numberOf 1 = .ok (.iconst 2, 1) := by decide +kernel
theorem dX3_numberOf_2 : decode cX3_numberOf 2 = .ok (.ishr, 1) := by decide +kernel
theorem dX3_numberOf_3 : decode cX3_numberOf 3 = .ok (.ireturn, 1) := by decide +kernel
theorem dX3_startAnew_0 : decode cX3_startAnew 0 = .ok (.aload_n 0, 1) := by decide +kernel
theorem dX3_startAnew_1 : decode cX3_startAnew 1 = .ok (.iload_n 1, 1) := by decide +kernel
theorem dX3_startAnew_2 : decode cX3_startAnew 2 = .ok (.putfield 15, 3) := by decide +kernel
theorem dX3_startAnew_5 : decode cX3_startAnew 5 = .ok (.aload_n 0, 1) := by decide +kernel
theorem dX3_startAnew_6 : decode cX3_startAnew 6 = .ok (.iload_n 2, 1) := by decide +kernel
theorem dX3_startAnew_7 : decode cX3_startAnew 7 = .ok (.putfield 19, 3) := by decide +kernel
theorem dX3_startAnew_10 : decode cX3_startAnew 10 = .ok (.aload_n 0, 1) := by decide +kernel
theorem dX3_startAnew_11 : decode cX3_startAnew 11 = .ok (.getfield 11, 3) := by decide +kernel
theorem dX3_startAnew_14 : decode cX3_startAnew 14 = .ok (.iconst 0, 1) := by decide +kernel
theorem dX3_startAnew_15 : decode cX3_startAnew 15 = .ok (.invokestatic 22, 3) := by decide +kernel
theorem dX3_startAnew_18 : decode cX3_startAnew 18 = .ok (.iconst 1, 1) := by decide +kernel
theorem dX3_startAnew_19 : decode cX3_startAnew 19 = .ok (.istore_n 3, 1) := by decide +kernel
theorem dX3_startAnew_20 : decode cX3_startAnew 20 = .ok (.iload_n 3, 1) := by decide +kernel
theorem dX3_startAnew_21 : decode cX3_startAnew 21 = .ok (.aload_n 0, 1) := by decide +kernel
theorem dX3_startAnew_22 : decode cX3_startAnew 22 = .ok (.getfield 19, 3) := by decide +kernel
theorem dX3_startAnew_25 : decode cX3_startAnew 25 = .ok (.if_icmp .ge 41, 3) := by decide +kernel
theorem dX3_startAnew_28 : decode cX3_startAnew 28 = .ok (.aload_n 0, 1) := by decide +kernel
theorem dX3_startAnew_29 : decode cX3_startAnew 29 = .ok (.getfield 15, 3) := by decide +kernel
theorem dX3_startAnew_32 : decode cX3_startAnew 32 = .ok (.iconst 2, 1) := by decide +kernel
theorem dX3_startAnew_33 : decode cX3_startAnew 33 = .ok (.if_icmp .ne 33, 3) := by decide +kernel
theorem dX3_startAnew_36 : decode cX3_startAnew 36 = .ok (.aload_n 0, 1) := by decide +kernel
theorem dX3_startAnew_37 : decode cX3_startAnew 37 = .ok (.iload_n 3, 1) := by decide +kernel
theorem dX3_startAnew_38 : decode cX3_startAnew 38 = .ok (.bipush 80, 2) := by decide +kernel
theorem dX3_startAnew_40 : decode cX3_startAnew 40 = .ok (.iload_n 3, 1) := by decide +kernel
theorem dX3_startAnew_41 : decode cX3_startAnew 41 = .ok (.iconst 1, 1) := by decide +kernel
theorem dX3_startAnew_42 : decode cX3_startAnew 42 = .ok (.isub, 1) := by decide +kernel
theorem dX3_startAnew_43 : decode cX3_startAnew 43 = .ok (.iconst 2, 1) := by decide +kernel
theorem dX3_startAnew_44 : decode cX3_startAnew 44 = .ok (.idiv, 1) := by decide +kernel
theorem dX3_startAnew_45 : decode cX3_startAnew 45 = .ok (.invokevirtual 28, 3) := by decide +kernel
theorem dX3_startAnew_48 : decode cX3_startAnew 48 = .ok (.aload_n 0, 1) := by decide +kernel
theorem dX3_startAnew_49 : decode cX3_startAnew 49 = .ok (.iload_n 3, 1) := by decide +kernel
theorem dX3_startAnew_50 : decode cX3_startAnew 50 = .ok (.bipush 86, 2) := by decide +kernel
theorem dX3_startAnew_52 : decode cX3_startAnew 52 = .ok (.iload_n 3, 1) := by decide +kernel
theorem dX3_startAnew_53 : decode cX3_startAnew 53 = .ok (.iconst 1, 1) := by decide +kernel
theorem dX3_startAnew_54 : decode cX3_startAnew 54 = .ok (.isub, 1) := by decide +kernel
theorem dX3_startAnew_55 : decode cX3_startAnew 55 = .ok (.iconst 2, 1) := by decide +kernel
theorem dX3_startAnew_56 : decode cX3_startAnew 56 = .ok (.idiv, 1) := by decide +kernel
theorem dX3_startAnew_57 : decode cX3_startAnew 57 = .ok (.invokevirtual 28, 3) := by decide +kernel
theorem dX3_startAnew_60 : decode cX3_startAnew 60 = .ok (.iinc 3 1, 3) := by decide +kernel
theorem dX3_startAnew_63 : decode cX3_startAnew 63 = .ok (.goto (-43), 3) := by decide +kernel
theorem dX3_startAnew_66 : decode cX3_startAnew 66 = .ok (.return_, 1) := by decide +kernel
theorem dX3_isKeeper_0 : decode cX3_isKeeper 0 = .ok (.iload_n 1, 1) := by decide +kernel
theorem dX3_isKeeper_1 : decode cX3_isKeeper 1 = .ok (.ifCond .lt 15, 3) := by decide +kernel
theorem dX3_isKeeper_4 : decode cX3_isKeeper 4 = .ok (.iload_n 1, 1) := by decide +kernel
theorem dX3_isKeeper_5 : decode cX3_isKeeper 5 = .ok (.aload_n 0, 1) := by decide +kernel
theorem dX3_isKeeper_6 : decode cX3_isKeeper 6 = .ok (.getfield 19, 3) := by decide +kernel
theorem dX3_isKeeper_9 : decode cX3_isKeeper 9 = .ok (.if_icmp .ge 7, 3) := by decide +kernel
theorem dX3_isKeeper_12 : decode cX3_isKeeper 12 = .ok (.iconst 1, 1) := by decide +kernel
theorem dX3_isKeeper_13 : decode cX3_isKeeper 13 = .ok (.goto 4, 3) := by decide +kernel
theorem dX3_isKeeper_16 : decode cX3_isKeeper 16 = .ok (.iconst 0, 1) := by decide +kernel
theorem dX3_isKeeper_17 : decode cX3_isKeeper 17 = .ok (.ireturn, 1) := by decide +kernel
theorem dX3_isPair_0 : decode cX3_isPair 0 = .ok (.aload_n 0, 1) := by decide +kernel
theorem dX3_isPair_1 : decode cX3_isPair 1 = .ok (.iload_n 1, 1) := by decide +kernel
theorem dX3_isPair_2 : decode cX3_isPair 2 = .ok (.invokevirtual 32, 3) := by decide +kernel
theorem dX3_isPair_5 : decode cX3_isPair 5 = .ok (.ifCond .eq 20, 3) := by decide +kernel
theorem dX3_isPair_8 : decode cX3_isPair 8 = .ok (.aload_n 0, 1) := by decide +kernel
theorem dX3_isPair_9 : decode cX3_isPair 9 = .ok (.iload_n 2, 1) := by decide +kernel
theorem dX3_isPair_10 : decode cX3_isPair 10 = .ok (.invokevirtual 32, 3) := by decide +kernel
theorem dX3_isPair_13 : decode cX3_isPair 13 = .ok (.ifCond .eq 12, 3) := by decide +kernel
theorem dX3_isPair_16 : decode cX3_isPair 16 = .ok (.iload_n 1, 1) := by decide +kernel
theorem dX3_isPair_17 : decode cX3_isPair 17 = .ok (.iload_n 2, 1) := by decide +kernel
theorem dX3_isPair_18 : decode cX3_isPair 18 = .ok (.if_icmp .eq 7, 3) := by decide +kernel
theorem dX3_isPair_21 : decode cX3_isPair 21 = .ok (.iconst 1, 1) := by decide +kernel
theorem dX3_isPair_22 : decode cX3_isPair 22 = .ok (.goto 4, 3) := by decide +kernel
theorem dX3_isPair_25 : decode cX3_isPair 25 = .ok (.iconst 0, 1) := by decide +kernel
theorem dX3_isPair_26 : decode cX3_isPair 26 = .ok (.ireturn, 1) := by decide +kernel
theorem dX3_get_0 : decode cX3_get 0 = .ok (.iload_n 1, 1) := by decide +kernel
theorem dX3_get_1 : decode cX3_get 1 = .ok (.ifCond .lt 21, 3) := by decide +kernel
theorem dX3_get_4 : decode cX3_get 4 = .ok (.iload_n 1, 1) := by decide +kernel
theorem dX3_get_5 : decode cX3_get 5 = .ok (.aload_n 0, 1) := by decide +kernel
theorem dX3_get_6 : decode cX3_get 6 = .ok (.getfield 11, 3) := by decide +kernel
theorem dX3_get_9 : decode cX3_get 9 = .ok (.arraylength, 1) := by decide +kernel
theorem dX3_get_10 : decode cX3_get 10 = .ok (.if_icmp .ge 12, 3) := by decide +kernel
theorem dX3_get_13 : decode cX3_get 13 = .ok (.aload_n 0, 1) := by decide +kernel
theorem dX3_get_14 : decode cX3_get 14 = .ok (.getfield 11, 3) := by decide +kernel
theorem dX3_get_17 : decode cX3_get 17 = .ok (.iload_n 1, 1) := by decide +kernel
theorem dX3_get_18 : decode cX3_get 18 = .ok (.iaload, 1) := by decide +kernel
theorem dX3_get_19 : decode cX3_get 19 = .ok (.goto 4, 3) := by decide +kernel
theorem dX3_get_22 : decode cX3_get 22 = .ok (.iconst 0, 1) := by decide +kernel
theorem dX3_get_23 : decode cX3_get 23 = .ok (.ireturn, 1) := by decide +kernel
theorem dX3_put_0 : decode cX3_put 0 = .ok (.iload_n 1, 1) := by decide +kernel
theorem dX3_put_1 : decode cX3_put 1 = .ok (.ifCond .lt 19, 3) := by decide +kernel
theorem dX3_put_4 : decode cX3_put 4 = .ok (.iload_n 1, 1) := by decide +kernel
theorem dX3_put_5 : decode cX3_put 5 = .ok (.aload_n 0, 1) := by decide +kernel
theorem dX3_put_6 : decode cX3_put 6 = .ok (.getfield 11, 3) := by decide +kernel
theorem dX3_put_9 : decode cX3_put 9 = .ok (.arraylength, 1) := by decide +kernel
theorem dX3_put_10 : decode cX3_put 10 = .ok (.if_icmp .ge 10, 3) := by decide +kernel
theorem dX3_put_13 : decode cX3_put 13 = .ok (.aload_n 0, 1) := by decide +kernel
theorem dX3_put_14 : decode cX3_put 14 = .ok (.getfield 11, 3) := by decide +kernel
theorem dX3_put_17 : decode cX3_put 17 = .ok (.iload_n 1, 1) := by decide +kernel
theorem dX3_put_18 : decode cX3_put 18 = .ok (.iload_n 2, 1) := by decide +kernel
theorem dX3_put_19 : decode cX3_put 19 = .ok (.iastore, 1) := by decide +kernel
theorem dX3_put_20 : decode cX3_put 20 = .ok (.return_, 1) := by decide +kernel
theorem dX3_of_0 : decode cX3_of 0 = .ok (.aload_n 0, 1) := by decide +kernel
theorem dX3_of_1 : decode cX3_of 1 = .ok (.iload_n 2, 1) := by decide +kernel
theorem dX3_of_2 : decode cX3_of 2 = .ok (.iload_n 1, 1) := by decide +kernel
theorem dX3_of_3 : decode cX3_of 3 = .ok (.iadd, 1) := by decide +kernel
theorem dX3_of_4 : decode cX3_of 4 = .ok (.invokevirtual 36, 3) := by decide +kernel
theorem dX3_of_7 : decode cX3_of 7 = .ok (.ireturn, 1) := by decide +kernel
theorem dX3_set_0 : decode cX3_set 0 = .ok (.aload_n 0, 1) := by decide +kernel
theorem dX3_set_1 : decode cX3_set 1 = .ok (.iload_n 2, 1) := by decide +kernel
theorem dX3_set_2 : decode cX3_set 2 = .ok (.iload_n 1, 1) := by decide +kernel
theorem dX3_set_3 : decode cX3_set 3 = .ok (.iadd, 1) := by decide +kernel
theorem dX3_set_4 : decode cX3_set 4 = .ok (.iload_n 3, 1) := by decide +kernel
theorem dX3_set_5 : decode cX3_set 5 = .ok (.invokevirtual 40, 3) := by decide +kernel
theorem dX3_set_8 : decode cX3_set 8 = .ok (.return_, 1) := by decide +kernel
theorem dX3_known_0 : decode cX3_known 0 = .ok (.aload_n 0, 1) := by decide +kernel
theorem dX3_known_1 : decode cX3_known 1 = .ok (.bipush 44, 2) := by decide +kernel
theorem dX3_known_3 : decode cX3_known 3 = .ok (.iload_n 1, 1) := by decide +kernel
theorem dX3_known_4 : decode cX3_known 4 = .ok (.bipush 6, 2) := by decide +kernel
theorem dX3_known_6 : decode cX3_known 6 = .ok (.imul, 1) := by decide +kernel
theorem dX3_known_7 : decode cX3_known 7 = .ok (.iadd, 1) := by decide +kernel
theorem dX3_known_8 : decode cX3_known 8 = .ok (.iload_n 2, 1) := by decide +kernel
theorem dX3_known_9 : decode cX3_known 9 = .ok (.iadd, 1) := by decide +kernel
theorem dX3_known_10 : decode cX3_known 10 = .ok (.invokevirtual 36, 3) := by decide +kernel
theorem dX3_known_13 : decode cX3_known 13 = .ok (.ireturn, 1) := by decide +kernel
theorem dX3_setKnown_0 : decode cX3_setKnown 0 = .ok (.aload_n 0, 1) := by decide +kernel
theorem dX3_setKnown_1 : decode cX3_setKnown 1 = .ok (.bipush 44, 2) := by decide +kernel
theorem dX3_setKnown_3 : decode cX3_setKnown 3 = .ok (.iload_n 1, 1) := by decide +kernel
theorem dX3_setKnown_4 : decode cX3_setKnown 4 = .ok (.bipush 6, 2) := by decide +kernel
theorem dX3_setKnown_6 : decode cX3_setKnown 6 = .ok (.imul, 1) := by decide +kernel
theorem dX3_setKnown_7 : decode cX3_setKnown 7 = .ok (.iadd, 1) := by decide +kernel
theorem dX3_setKnown_8 : decode cX3_setKnown 8 = .ok (.iload_n 2, 1) := by decide +kernel
theorem dX3_setKnown_9 : decode cX3_setKnown 9 = .ok (.iadd, 1) := by decide +kernel
theorem dX3_setKnown_10 : decode cX3_setKnown 10 = .ok (.iload_n 3, 1) := by decide +kernel
theorem dX3_setKnown_11 : decode cX3_setKnown 11 = .ok (.invokevirtual 40, 3) := by decide +kernel
theorem dX3_setKnown_14 : decode cX3_setKnown 14 = .ok (.return_, 1) := by decide +kernel
theorem dX3_queueOf_0 : decode cX3_queueOf 0 = .ok (.bipush 98, 2) := by decide +kernel
theorem dX3_queueOf_2 : decode cX3_queueOf 2 = .ok (.iload_n 0, 1) := by decide +kernel
theorem dX3_queueOf_3 : decode cX3_queueOf 3 = .ok (.bipush 7, 2) := by decide +kernel
theorem dX3_queueOf_5 : decode cX3_queueOf 5 = .ok (.imul, 1) := by decide +kernel
theorem dX3_queueOf_6 : decode cX3_queueOf 6 = .ok (.iadd, 1) := by decide +kernel
theorem dX3_queueOf_7 : decode cX3_queueOf 7 = .ok (.ireturn, 1) := by decide +kernel
theorem dX3_wayFrom_0 : decode cX3_wayFrom 0 = .ok (.aload_n 0, 1) := by decide +kernel
theorem dX3_wayFrom_1 : decode cX3_wayFrom 1 = .ok (.getfield 15, 3) := by decide +kernel
theorem dX3_wayFrom_4 : decode cX3_wayFrom 4 = .ok (.ifCond .ne 8, 3) := by decide +kernel
theorem dX3_wayFrom_7 : decode cX3_wayFrom 7 = .ok (.bipush 6, 2) := by decide +kernel
theorem dX3_wayFrom_9 : decode cX3_wayFrom 9 = .ok (.goto 18, 3) := by decide +kernel
theorem dX3_wayFrom_12 : decode cX3_wayFrom 12 = .ok (.aload_n 0, 1) := by decide +kernel
theorem dX3_wayFrom_13 : decode cX3_wayFrom 13 = .ok (.getfield 15, 3) := by decide +kernel
theorem dX3_wayFrom_16 : decode cX3_wayFrom 16 = .ok (.iconst 1, 1) := by decide +kernel
theorem dX3_wayFrom_17 : decode cX3_wayFrom 17 = .ok (.if_icmp .ne 8, 3) := by decide +kernel
theorem dX3_wayFrom_20 : decode cX3_wayFrom 20 = .ok (.bipush 30, 2) := by decide +kernel
theorem dX3_wayFrom_22 : decode cX3_wayFrom 22 = .ok (.goto 5, 3) := by decide +kernel
theorem dX3_wayFrom_25 : decode cX3_wayFrom 25 = .ok (.bipush 80, 2) := by decide +kernel
theorem dX3_wayFrom_27 : decode cX3_wayFrom 27 = .ok (.ireturn, 1) := by decide +kernel
theorem dX3_wayTo_0 : decode cX3_wayTo 0 = .ok (.aload_n 0, 1) := by decide +kernel
theorem dX3_wayTo_1 : decode cX3_wayTo 1 = .ok (.getfield 15, 3) := by decide +kernel
theorem dX3_wayTo_4 : decode cX3_wayTo 4 = .ok (.ifCond .ne 8, 3) := by decide +kernel
theorem dX3_wayTo_7 : decode cX3_wayTo 7 = .ok (.bipush 30, 2) := by decide +kernel
theorem dX3_wayTo_9 : decode cX3_wayTo 9 = .ok (.goto 19, 3) := by decide +kernel
theorem dX3_wayTo_12 : decode cX3_wayTo 12 = .ok (.aload_n 0, 1) := by decide +kernel
theorem dX3_wayTo_13 : decode cX3_wayTo 13 = .ok (.getfield 15, 3) := by decide +kernel
theorem dX3_wayTo_16 : decode cX3_wayTo 16 = .ok (.iconst 1, 1) := by decide +kernel
theorem dX3_wayTo_17 : decode cX3_wayTo 17 = .ok (.if_icmp .ne 8, 3) := by decide +kernel
theorem dX3_wayTo_20 : decode cX3_wayTo 20 = .ok (.bipush 80, 2) := by decide +kernel
theorem dX3_wayTo_22 : decode cX3_wayTo 22 = .ok (.goto 6, 3) := by decide +kernel
theorem dX3_wayTo_25 : decode cX3_wayTo 25 = .ok (.sipush 140, 3) := by decide +kernel
theorem dX3_wayTo_28 : decode cX3_wayTo 28 = .ok (.ireturn, 1) := by decide +kernel
theorem dX3_append_0 : decode cX3_append 0 = .ok (.iload_n 1, 1) := by decide +kernel
theorem dX3_append_1 : decode cX3_append 1 = .ok (.ifCond .lt 14, 3) := by decide +kernel
theorem dX3_append_4 : decode cX3_append 4 = .ok (.iload_n 1, 1) := by decide +kernel
theorem dX3_append_5 : decode cX3_append 5 = .ok (.iload_n 2, 1) := by decide +kernel
theorem dX3_append_6 : decode cX3_append 6 = .ok (.iadd, 1) := by decide +kernel
theorem dX3_append_7 : decode cX3_append 7 = .ok (.aload_n 0, 1) := by decide +kernel
theorem dX3_append_8 : decode cX3_append 8 = .ok (.getfield 11, 3) := by decide +kernel
theorem dX3_append_11 : decode cX3_append 11 = .ok (.arraylength, 1) := by decide +kernel
theorem dX3_append_12 : decode cX3_append 12 = .ok (.if_icmp .lt 5, 3) := by decide +kernel
theorem dX3_append_15 : decode cX3_append 15 = .ok (.iconst 0, 1) := by decide +kernel
theorem dX3_append_16 : decode cX3_append 16 = .ok (.ireturn, 1) := by decide +kernel
theorem dX3_append_17 : decode cX3_append 17 = .ok (.aload_n 0, 1) := by decide +kernel
theorem dX3_append_18 : decode cX3_append 18 = .ok (.getfield 11, 3) := by decide +kernel
theorem dX3_append_21 : decode cX3_append 21 = .ok (.iload_n 1, 1) := by decide +kernel
theorem dX3_append_22 : decode cX3_append 22 = .ok (.iaload, 1) := by decide +kernel
theorem dX3_append_23 : decode cX3_append 23 = .ok (.istore 4, 2) := by decide +kernel
theorem dX3_append_25 : decode cX3_append 25 = .ok (.iload 4, 2) := by decide +kernel
theorem dX3_append_27 : decode cX3_append 27 = .ok (.ifCond .lt 9, 3) := by decide +kernel
theorem dX3_append_30 : decode cX3_append 30 = .ok (.iload 4, 2) := by decide +kernel
theorem dX3_append_32 : decode cX3_append 32 = .ok (.iload_n 2, 1) := by decide +kernel
theorem dX3_append_33 : decode cX3_append 33 = .ok (.if_icmp .lt 5, 3) := by decide +kernel
theorem dX3_append_36 : decode cX3_append 36 = .ok (.iconst 0, 1) := by decide +kernel
theorem dX3_append_37 : decode cX3_append 37 = .ok (.ireturn, 1) := by decide +kernel
theorem dX3_append_38 : decode cX3_append 38 = .ok (.aload_n 0, 1) := by decide +kernel
theorem dX3_append_39 : decode cX3_append 39 = .ok (.getfield 11, 3) := by decide +kernel
theorem dX3_append_42 : decode cX3_append 42 = .ok (.iload_n 1, 1) := by decide +kernel
theorem dX3_append_43 : decode cX3_append 43 = .ok (.iconst 1, 1) := by decide +kernel
theorem dX3_append_44 : decode cX3_append 44 = .ok (.iadd, 1) := by decide +kernel
theorem dX3_append_45 : decode cX3_append 45 = .ok (.iload 4, 2) := by decide +kernel
theorem dX3_append_47 : decode cX3_append 47 = .ok (.iadd, 1) := by decide +kernel
theorem dX3_append_48 : decode cX3_append 48 = .ok (.iload_n 3, 1) := by decide +kernel
theorem dX3_append_49 : decode cX3_append 49 = .ok (.iastore, 1) := by decide +kernel
theorem dX3_append_50 : decode cX3_append 50 = .ok (.aload_n 0, 1) := by decide +kernel
theorem dX3_append_51 : decode cX3_append 51 = .ok (.getfield 11, 3) := by decide +kernel
theorem dX3_append_54 : decode cX3_append 54 = .ok (.iload_n 1, 1) := by decide +kernel
theorem dX3_append_55 : decode cX3_append 55 = .ok (.iload 4, 2) := by decide +kernel
theorem dX3_append_57 : decode cX3_append 57 = .ok (.iconst 1, 1) := by decide +kernel
theorem dX3_append_58 : decode cX3_append 58 = .ok (.iadd, 1) := by decide +kernel
theorem dX3_append_59 : decode cX3_append 59 = .ok (.iastore, 1) := by decide +kernel
theorem dX3_append_60 : decode cX3_append 60 = .ok (.iconst 1, 1) := by decide +kernel
theorem dX3_append_61 : decode cX3_append 61 = .ok (.ireturn, 1) := by decide +kernel
theorem dX3_takeFirst_0 : decode cX3_takeFirst 0 = .ok (.aload_n 0, 1) := by decide +kernel
theorem dX3_takeFirst_1 : decode cX3_takeFirst 1 = .ok (.iload_n 1, 1) := by decide +kernel
theorem dX3_takeFirst_2 : decode cX3_takeFirst 2 = .ok (.invokevirtual 36, 3) := by decide +kernel
theorem dX3_takeFirst_5 : decode cX3_takeFirst 5 = .ok (.istore_n 3, 1) := by decide +kernel
theorem dX3_takeFirst_6 : decode cX3_takeFirst 6 = .ok (.aload_n 0, 1) := by decide +kernel
theorem dX3_takeFirst_7 : decode cX3_takeFirst 7 = .ok (.iload_n 1, 1) := by decide +kernel
theorem dX3_takeFirst_8 : decode cX3_takeFirst 8 = .ok (.iconst 1, 1) := by decide +kernel
theorem dX3_takeFirst_9 : decode cX3_takeFirst 9 = .ok (.iadd, 1) := by decide +kernel
theorem dX3_takeFirst_10 : decode cX3_takeFirst 10 = .ok (.invokevirtual 36, 3) := by decide +kernel
theorem dX3_takeFirst_13 : decode cX3_takeFirst 13 = .ok (.istore 4, 2) := by decide +kernel
theorem dX3_takeFirst_15 : decode cX3_takeFirst 15 = .ok (.iload_n 3, 1) := by decide +kernel
theorem dX3_takeFirst_16 : decode cX3_takeFirst 16 = .ok (.iconst 1, 1) := by decide +kernel
theorem dX3_takeFirst_17 : decode cX3_takeFirst 17 = .ok (.if_icmp .lt 8, 3) := by decide +kernel
theorem dX3_takeFirst_20 : decode cX3_takeFirst 20 = .ok (.iload_n 3, 1) := by decide +kernel
theorem dX3_takeFirst_21 : decode cX3_takeFirst 21 = .ok (.iload_n 2, 1) := by decide +kernel
theorem dX3_takeFirst_22 : decode cX3_takeFirst 22 = .ok (.if_icmp .le 6, 3) := by decide +kernel
theorem dX3_takeFirst_25 : decode cX3_takeFirst 25 = .ok (.iload 4, 2) := by decide +kernel
theorem dX3_takeFirst_27 : decode cX3_takeFirst 27 = .ok (.ireturn, 1) := by decide +kernel
theorem dX3_takeFirst_28 : decode cX3_takeFirst 28 = .ok (.iconst 1, 1) := by decide +kernel
theorem dX3_takeFirst_29 : decode cX3_takeFirst 29 = .ok (.istore 5, 2) := by decide +kernel
theorem dX3_takeFirst_31 : decode cX3_takeFirst 31 = .ok (.iload 5, 2) := by decide +kernel
theorem dX3_takeFirst_33 : decode cX3_takeFirst 33 = .ok (.iload_n 3, 1) := by decide +kernel
theorem dX3_takeFirst_34 : decode cX3_takeFirst 34 = .ok (.if_icmp .ge 27, 3) := by decide +kernel
theorem dX3_takeFirst_37 : decode cX3_takeFirst 37 = .ok (.aload_n 0, 1) := by decide +kernel
theorem dX3_takeFirst_38 : decode cX3_takeFirst 38 = .ok (.iload_n 1, 1) := by decide +kernel
theorem dX3_takeFirst_39 : decode cX3_takeFirst 39 = .ok (.iload 5, 2) := by decide +kernel
theorem dX3_takeFirst_41 : decode cX3_takeFirst 41 = .ok (.iadd, 1) := by decide +kernel
theorem dX3_takeFirst_42 : decode cX3_takeFirst 42 = .ok (.aload_n 0, 1) := by decide +kernel
theorem dX3_takeFirst_43 : decode cX3_takeFirst 43 = .ok (.iload_n 1, 1) := by decide +kernel
theorem dX3_takeFirst_44 : decode cX3_takeFirst 44 = .ok (.iload 5, 2) := by decide +kernel
theorem dX3_takeFirst_46 : decode cX3_takeFirst 46 = .ok (.iadd, 1) := by decide +kernel
theorem dX3_takeFirst_47 : decode cX3_takeFirst 47 = .ok (.iconst 1, 1) := by decide +kernel
theorem dX3_takeFirst_48 : decode cX3_takeFirst 48 = .ok (.iadd, 1) := by decide +kernel
theorem dX3_takeFirst_49 : decode cX3_takeFirst 49 = .ok (.invokevirtual 36, 3) := by decide +kernel
theorem dX3_takeFirst_52 : decode cX3_takeFirst 52 = .ok (.invokevirtual 40, 3) := by decide +kernel
theorem dX3_takeFirst_55 : decode cX3_takeFirst 55 = .ok (.iinc 5 1, 3) := by decide +kernel
theorem dX3_takeFirst_58 : decode cX3_takeFirst 58 = .ok (.goto (-27), 3) := by decide +kernel
theorem dX3_takeFirst_61 : decode cX3_takeFirst 61 = .ok (.aload_n 0, 1) := by decide +kernel
theorem dX3_takeFirst_62 : decode cX3_takeFirst 62 = .ok (.iload_n 1, 1) := by decide +kernel
theorem dX3_takeFirst_63 : decode cX3_takeFirst 63 = .ok (.iload_n 3, 1) := by decide +kernel
theorem dX3_takeFirst_64 : decode cX3_takeFirst 64 = .ok (.iadd, 1) := by decide +kernel
theorem dX3_takeFirst_65 : decode cX3_takeFirst 65 = .ok (.iconst 0, 1) := by decide +kernel
theorem dX3_takeFirst_66 : decode cX3_takeFirst 66 = .ok (.invokevirtual 40, 3) := by decide +kernel
theorem dX3_takeFirst_69 : decode cX3_takeFirst 69 = .ok (.aload_n 0, 1) := by decide +kernel
theorem dX3_takeFirst_70 : decode cX3_takeFirst 70 = .ok (.iload_n 1, 1) := by decide +kernel
theorem dX3_takeFirst_71 : decode cX3_takeFirst 71 = .ok (.iload_n 3, 1) := by decide +kernel
theorem dX3_takeFirst_72 : decode cX3_takeFirst 72 = .ok (.iconst 1, 1) := by decide +kernel
theorem dX3_takeFirst_73 : decode cX3_takeFirst 73 = .ok (.isub, 1) := by decide +kernel
theorem dX3_takeFirst_74 : decode cX3_takeFirst 74 = .ok (.invokevirtual 40, 3) := by decide +kernel
theorem dX3_takeFirst_77 : decode cX3_takeFirst 77 = .ok (.iload 4, 2) := by decide +kernel
theorem dX3_takeFirst_79 : decode cX3_takeFirst 79 = .ok (.ireturn, 1) := by decide +kernel
theorem dX3_rowHas_0 : decode cX3_rowHas 0 = .ok (.aload_n 0, 1) := by decide +kernel
theorem dX3_rowHas_1 : decode cX3_rowHas 1 = .ok (.bipush 37, 2) := by decide +kernel
theorem dX3_rowHas_3 : decode cX3_rowHas 3 = .ok (.invokevirtual 36, 3) := by decide +kernel
theorem dX3_rowHas_6 : decode cX3_rowHas 6 = .ok (.istore_n 2, 1) := by decide +kernel
theorem dX3_rowHas_7 : decode cX3_rowHas 7 = .ok (.iconst 0, 1) := by decide +kernel
theorem dX3_rowHas_8 : decode cX3_rowHas 8 = .ok (.istore_n 3, 1) := by decide +kernel
theorem dX3_rowHas_9 : decode cX3_rowHas 9 = .ok (.iload_n 3, 1) := by decide +kernel
theorem dX3_rowHas_10 : decode cX3_rowHas 10 = .ok (.iload_n 2, 1) := by decide +kernel
theorem dX3_rowHas_11 : decode cX3_rowHas 11 = .ok (.if_icmp .ge 29, 3) := by decide +kernel
theorem dX3_rowHas_14 : decode cX3_rowHas 14 = .ok (.iload_n 3, 1) := by decide +kernel
theorem dX3_rowHas_15 : decode cX3_rowHas 15 = .ok (.bipush 6, 2) := by decide +kernel
theorem dX3_rowHas_17 : decode cX3_rowHas 17 = .ok (.if_icmp .ge 23, 3) := by decide +kernel
theorem dX3_rowHas_20 : decode cX3_rowHas 20 = .ok (.aload_n 0, 1) := by decide +kernel
theorem dX3_rowHas_21 : decode cX3_rowHas 21 = .ok (.bipush 38, 2) := by decide +kernel
theorem dX3_rowHas_23 : decode cX3_rowHas 23 = .ok (.iload_n 3, 1) := by decide +kernel
theorem dX3_rowHas_24 : decode cX3_rowHas 24 = .ok (.iadd, 1) := by decide +kernel
theorem dX3_rowHas_25 : decode cX3_rowHas 25 = .ok (.invokevirtual 36, 3) := by decide +kernel
theorem dX3_rowHas_28 : decode cX3_rowHas 28 = .ok (.iload_n 1, 1) := by decide +kernel
theorem dX3_rowHas_29 : decode cX3_rowHas 29 = .ok (.if_icmp .ne 5, 3) := by decide +kernel
theorem dX3_rowHas_32 : decode cX3_rowHas 32 = .ok (.iconst 1, 1) := by decide +kernel
theorem dX3_rowHas_33 : decode cX3_rowHas 33 = .ok (.ireturn, 1) := by decide +kernel
theorem dX3_rowHas_34 : decode cX3_rowHas 34 = .ok (.iinc 3 1, 3) := by decide +kernel
theorem dX3_rowHas_37 : decode cX3_rowHas 37 = .ok (.goto (-28), 3) := by decide +kernel
theorem dX3_rowHas_40 : decode cX3_rowHas 40 = .ok (.iconst 0, 1) := by decide +kernel
theorem dX3_rowHas_41 : decode cX3_rowHas 41 = .ok (.ireturn, 1) := by decide +kernel
theorem dX3_lettersOf_0 : decode cX3_lettersOf 0 = .ok (.sipush 140, 3) := by decide +kernel
theorem dX3_lettersOf_3 : decode cX3_lettersOf 3 = .ok (.iload_n 0, 1) := by decide +kernel
theorem dX3_lettersOf_4 : decode cX3_lettersOf 4 = .ok (.bipush 6, 2) := by decide +kernel
theorem dX3_lettersOf_6 : decode cX3_lettersOf 6 = .ok (.imul, 1) := by decide +kernel
theorem dX3_lettersOf_7 : decode cX3_lettersOf 7 = .ok (.iload_n 1, 1) := by decide +kernel
theorem dX3_lettersOf_8 : decode cX3_lettersOf 8 = .ok (.iadd, 1) := by decide +kernel
theorem dX3_lettersOf_9 : decode cX3_lettersOf 9 = .ok (.bipush 13, 2) := by decide +kernel
theorem dX3_lettersOf_11 : decode cX3_lettersOf 11 = .ok (.imul, 1) := by decide +kernel
theorem dX3_lettersOf_12 : decode cX3_lettersOf 12 = .ok (.iadd, 1) := by decide +kernel
theorem dX3_lettersOf_13 : decode cX3_lettersOf 13 = .ok (.ireturn, 1) := by decide +kernel
theorem dX3_underWay_0 : decode cX3_underWay 0 = .ok (.aload_n 0, 1) := by decide +kernel
theorem dX3_underWay_1 : decode cX3_underWay 1 = .ok (.iload_n 1, 1) := by decide +kernel
theorem dX3_underWay_2 : decode cX3_underWay 2 = .ok (.iload_n 2, 1) := by decide +kernel
theorem dX3_underWay_3 : decode cX3_underWay 3 = .ok (.invokestatic 44, 3) := by decide +kernel
theorem dX3_underWay_6 : decode cX3_underWay 6 = .ok (.invokevirtual 36, 3) := by decide +kernel
theorem dX3_underWay_9 : decode cX3_underWay 9 = .ok (.ireturn, 1) := by decide +kernel
theorem dX3_letterAt_0 : decode cX3_letterAt 0 = .ok (.aload_n 0, 1) := by decide +kernel
theorem dX3_letterAt_1 : decode cX3_letterAt 1 = .ok (.iload_n 1, 1) := by decide +kernel
theorem dX3_letterAt_2 : decode cX3_letterAt 2 = .ok (.iload_n 2, 1) := by decide +kernel
theorem dX3_letterAt_3 : decode cX3_letterAt 3 = .ok (.invokestatic 44, 3) := by decide +kernel
theorem dX3_letterAt_6 : decode cX3_letterAt 6 = .ok (.iconst 1, 1) := by decide +kernel
theorem dX3_letterAt_7 : decode cX3_letterAt 7 = .ok (.iadd, 1) := by decide +kernel
theorem dX3_letterAt_8 : decode cX3_letterAt 8 = .ok (.iload_n 3, 1) := by decide +kernel
theorem dX3_letterAt_9 : decode cX3_letterAt 9 = .ok (.iadd, 1) := by decide +kernel
theorem dX3_letterAt_10 : decode cX3_letterAt 10 = .ok (.invokevirtual 36, 3) := by decide +kernel
theorem dX3_letterAt_13 : decode cX3_letterAt 13 = .ok (.ireturn, 1) := by decide +kernel
theorem dX3_send_0 : decode cX3_send 0 = .ok (.aload_n 0, 1) := by decide +kernel
theorem dX3_send_1 : decode cX3_send 1 = .ok (.iload_n 1, 1) := by decide +kernel
theorem dX3_send_2 : decode cX3_send 2 = .ok (.iload_n 2, 1) := by decide +kernel
theorem dX3_send_3 : decode cX3_send 3 = .ok (.invokestatic 44, 3) := by decide +kernel
theorem dX3_send_6 : decode cX3_send 6 = .ok (.bipush 12, 2) := by decide +kernel
theorem dX3_send_8 : decode cX3_send 8 = .ok (.iload 4, 2) := by decide +kernel
theorem dX3_send_10 : decode cX3_send 10 = .ok (.iconst 2, 1) := by decide +kernel
theorem dX3_send_11 : decode cX3_send 11 = .ok (.ishl, 1) := by decide +kernel
theorem dX3_send_12 : decode cX3_send 12 = .ok (.iload_n 3, 1) := by decide +kernel
theorem dX3_send_13 : decode cX3_send 13 = .ok (.ior, 1) := by decide +kernel
theorem dX3_send_14 : decode cX3_send 14 = .ok (.invokevirtual 48, 3) := by decide +kernel
theorem dX3_send_17 : decode cX3_send 17 = .ok (.ifCond .ne 8, 3) := by decide +kernel
theorem dX3_send_20 : decode cX3_send 20 = .ok (.aload_n 0, 1) := by decide +kernel
theorem dX3_send_21 : decode cX3_send 21 = .ok (.iconst 1, 1) := by decide +kernel
theorem dX3_send_22 : decode cX3_send 22 = .ok (.putfield 52, 3) := by decide +kernel
theorem dX3_send_25 : decode cX3_send 25 = .ok (.aload_n 0, 1) := by decide +kernel
theorem dX3_send_26 : decode cX3_send 26 = .ok (.sipush 608, 3) := by decide +kernel
theorem dX3_send_29 : decode cX3_send 29 = .ok (.iload_n 3, 1) := by decide +kernel
theorem dX3_send_30 : decode cX3_send 30 = .ok (.iadd, 1) := by decide +kernel
theorem dX3_send_31 : decode cX3_send 31 = .ok (.aload_n 0, 1) := by decide +kernel
theorem dX3_send_32 : decode cX3_send 32 = .ok (.sipush 608, 3) := by decide +kernel
theorem dX3_send_35 : decode cX3_send 35 = .ok (.iload_n 3, 1) := by decide +kernel
theorem dX3_send_36 : decode cX3_send 36 = .ok (.iadd, 1) := by decide +kernel
theorem dX3_send_37 : decode cX3_send 37 = .ok (.invokevirtual 36, 3) := by decide +kernel
theorem dX3_send_40 : decode cX3_send 40 = .ok (.iconst 1, 1) := by decide +kernel
theorem dX3_send_41 : decode cX3_send 41 = .ok (.iadd, 1) := by decide +kernel
theorem dX3_send_42 : decode cX3_send 42 = .ok (.invokevirtual 40, 3) := by decide +kernel
theorem dX3_send_45 : decode cX3_send 45 = .ok (.return_, 1) := by decide +kernel
theorem dX3_sendToOthers_0 : decode cX3_sendToOthers 0 = .ok (.iconst 0, 1) := by decide +kernel
theorem dX3_sendToOthers_1 : decode cX3_sendToOthers 1 = .ok (.istore 4, 2) := by decide +kernel
theorem dX3_sendToOthers_3 : decode cX3_sendToOthers 3 = .ok (.iload 4, 2) := by decide +kernel
theorem dX3_sendToOthers_5 : decode cX3_sendToOthers 5 = .ok (.aload_n 0, 1) := by decide +kernel
theorem dX3_sendToOthers_6 : decode cX3_sendToOthers 6 = .ok (.getfield 19, 3) := by decide +kernel
theorem dX3_sendToOthers_9 : decode cX3_sendToOthers 9 = .ok (.if_icmp .ge 24, 3) := by decide +kernel
theorem dX3_sendToOthers_12 : decode cX3_sendToOthers 12 = .ok (.iload 4, 2) := by decide +kernel
theorem dX3_sendToOthers_14 : decode cX3_sendToOthers 14 = .ok (.iload_n 1, 1) := by decide +kernel
theorem dX3_sendToOthers_15 : decode cX3_sendToOthers 15 = .ok (.if_icmp .eq 12, 3) := by decide +kernel
theorem dX3_sendToOthers_18 : decode cX3_sendToOthers 18 = .ok (.aload_n 0, 1) := by decide +kernel
theorem dX3_sendToOthers_19 : decode cX3_sendToOthers 19 = .ok (.iload_n 1, 1) := by decide +kernel
theorem dX3_sendToOthers_20 : decode cX3_sendToOthers 20 = .ok (.iload 4, 2) := by decide +kernel
theorem dX3_sendToOthers_22 : decode cX3_sendToOthers 22 = .ok (.iload_n 2, 1) := by decide +kernel
theorem dX3_sendToOthers_23 : decode cX3_sendToOthers 23 = .ok (.iload_n 3, 1) := by decide +kernel
theorem dX3_sendToOthers_24 : decode cX3_sendToOthers 24 = .ok (.invokevirtual 56, 3) := by decide +kernel
theorem dX3_sendToOthers_27 : decode cX3_sendToOthers 27 = .ok (.iinc 4 1, 3) := by decide +kernel
theorem dX3_sendToOthers_30 : decode cX3_sendToOthers 30 = .ok (.goto (-27), 3) := by decide +kernel
theorem dX3_sendToOthers_33 : decode cX3_sendToOthers 33 = .ok (.return_, 1) := by decide +kernel
theorem dX3_takeLetter_0 : decode cX3_takeLetter 0 = .ok (.aload_n 0, 1) := by decide +kernel
theorem dX3_takeLetter_1 : decode cX3_takeLetter 1 = .ok (.iload_n 1, 1) := by decide +kernel
theorem dX3_takeLetter_2 : decode cX3_takeLetter 2 = .ok (.iload_n 2, 1) := by decide +kernel
theorem dX3_takeLetter_3 : decode cX3_takeLetter 3 = .ok (.invokestatic 44, 3) := by decide +kernel
theorem dX3_takeLetter_6 : decode cX3_takeLetter 6 = .ok (.bipush 12, 2) := by decide +kernel
theorem dX3_takeLetter_8 : decode cX3_takeLetter 8 = .ok (.invokevirtual 60, 3) := by decide +kernel
theorem dX3_takeLetter_11 : decode cX3_takeLetter 11 = .ok (.ireturn, 1) := by decide +kernel
theorem dX3_sentInAll_0 : decode cX3_sentInAll 0 = .ok (.aload_n 0, 1) := by decide +kernel
theorem dX3_sentInAll_1 : decode cX3_sentInAll 1 = .ok (.sipush 608, 3) := by decide +kernel
theorem dX3_sentInAll_4 : decode cX3_sentInAll 4 = .ok (.invokevirtual 36, 3) := by decide +kernel
theorem dX3_sentInAll_7 : decode cX3_sentInAll 7 = .ok (.aload_n 0, 1) := by decide +kernel
theorem dX3_sentInAll_8 : decode cX3_sentInAll 8 = .ok (.sipush 609, 3) := by decide +kernel
theorem dX3_sentInAll_11 : decode cX3_sentInAll 11 = .ok (.invokevirtual 36, 3) := by decide +kernel
theorem dX3_sentInAll_14 : decode cX3_sentInAll 14 = .ok (.iadd, 1) := by decide +kernel
theorem dX3_sentInAll_15 : decode cX3_sentInAll 15 = .ok (.aload_n 0, 1) := by decide +kernel
theorem dX3_sentInAll_16 : decode cX3_sentInAll 16 = .ok (.sipush 610, 3) := by decide +kernel
theorem dX3_sentInAll_19 : decode cX3_sentInAll 19 = .ok (.invokevirtual 36, 3) := by decide +kernel
theorem dX3_sentInAll_22 : decode cX3_sentInAll 22 = .ok (.iadd, 1) := by decide +kernel
theorem dX3_sentInAll_23 : decode cX3_sentInAll 23 = .ok (.ireturn, 1) := by decide +kernel
theorem dX3_underWayInAll_0 : decode cX3_underWayInAll 0 = .ok (.iconst 0, 1) := by decide +kernel
theorem dX3_underWayInAll_1 : decode cX3_underWayInAll 1 = .ok (.istore_n 1, 1) := by decide +kernel
theorem dX3_underWayInAll_2 : decode cX3_underWayInAll 2 = .ok (.iconst 0, 1) := by decide +kernel
theorem dX3_underWayInAll_3 : decode cX3_underWayInAll 3 = .ok (.istore_n 2, 1) := by decide +kernel
theorem dX3_underWayInAll_4 : decode cX3_underWayInAll 4 = .ok (.iload_n 2, 1) := by decide +kernel
theorem dX3_underWayInAll_5 : decode cX3_underWayInAll 5 = .ok (.aload_n 0, 1) := by decide +kernel
theorem dX3_underWayInAll_6 : decode cX3_underWayInAll 6 = .ok (.getfield 19, 3) := by decide +kernel
theorem dX3_underWayInAll_9 : decode cX3_underWayInAll 9 = .ok (.if_icmp .ge 34, 3) := by decide +kernel
theorem dX3_underWayInAll_12 : decode cX3_underWayInAll 12 = .ok (.iconst 0, 1) := by decide +kernel
theorem dX3_underWayInAll_13 : decode cX3_underWayInAll 13 = .ok (.istore_n 3, 1) := by decide +kernel
theorem dX3_underWayInAll_14 : decode cX3_underWayInAll 14 = .ok (.iload_n 3, 1) := by decide +kernel
theorem dX3_underWayInAll_15 : decode cX3_underWayInAll 15 = .ok (.aload_n 0, 1) := by decide +kernel
theorem dX3_underWayInAll_16 : decode cX3_underWayInAll 16 = .ok (.getfield 19, 3) := by decide +kernel
theorem dX3_underWayInAll_19 : decode cX3_underWayInAll 19 = .ok (.if_icmp .ge 18, 3) := by decide +kernel
theorem dX3_underWayInAll_22 : decode cX3_underWayInAll 22 = .ok (.iload_n 1, 1) := by decide +kernel
theorem dX3_underWayInAll_23 : decode cX3_underWayInAll 23 = .ok (.aload_n 0, 1) := by decide +kernel
theorem dX3_underWayInAll_24 : decode cX3_underWayInAll 24 = .ok (.iload_n 2, 1) := by decide +kernel
theorem dX3_underWayInAll_25 : decode cX3_underWayInAll 25 = .ok (.iload_n 3, 1) := by decide +kernel
theorem dX3_underWayInAll_26 : decode cX3_underWayInAll 26 = .ok (.invokevirtual 63, 3) := by decide +kernel
theorem dX3_underWayInAll_29 : decode cX3_underWayInAll 29 = .ok (.iadd, 1) := by decide +kernel
theorem dX3_underWayInAll_30 : decode cX3_underWayInAll 30 = .ok (.istore_n 1, 1) := by decide +kernel
theorem dX3_underWayInAll_31 : decode cX3_underWayInAll 31 = .ok (.iinc 3 1, 3) := by decide +kernel
theorem dX3_underWayInAll_34 : decode cX3_underWayInAll 34 = .ok (.goto (-20), 3) := by decide +kernel
theorem dX3_underWayInAll_37 : decode cX3_underWayInAll 37 = .ok (.iinc 2 1, 3) := by decide +kernel
theorem dX3_underWayInAll_40 : decode cX3_underWayInAll 40 = .ok (.goto (-36), 3) := by decide +kernel
theorem dX3_underWayInAll_43 : decode cX3_underWayInAll 43 = .ok (.iload_n 1, 1) := by decide +kernel
theorem dX3_underWayInAll_44 : decode cX3_underWayInAll 44 = .ok (.ireturn, 1) := by decide +kernel
theorem dX3_busyPairs_0 : decode cX3_busyPairs 0 = .ok (.iconst 0, 1) := by decide +kernel
theorem dX3_busyPairs_1 : decode cX3_busyPairs 1 = .ok (.istore_n 1, 1) := by decide +kernel
theorem dX3_busyPairs_2 : decode cX3_busyPairs 2 = .ok (.iconst 0, 1) := by decide +kernel
theorem dX3_busyPairs_3 : decode cX3_busyPairs 3 = .ok (.istore_n 2, 1) := by decide +kernel
theorem dX3_busyPairs_4 : decode cX3_busyPairs 4 = .ok (.iload_n 2, 1) := by decide +kernel
theorem dX3_busyPairs_5 : decode cX3_busyPairs 5 = .ok (.aload_n 0, 1) := by decide +kernel
theorem dX3_busyPairs_6 : decode cX3_busyPairs 6 = .ok (.getfield 19, 3) := by decide +kernel
theorem dX3_busyPairs_9 : decode cX3_busyPairs 9 = .ok (.if_icmp .ge 42, 3) := by decide +kernel
theorem dX3_busyPairs_12 : decode cX3_busyPairs 12 = .ok (.iconst 0, 1) := by decide +kernel
theorem dX3_busyPairs_13 : decode cX3_busyPairs 13 = .ok (.istore_n 3, 1) := by decide +kernel
theorem dX3_busyPairs_14 : decode cX3_busyPairs 14 = .ok (.iload_n 3, 1) := by decide +kernel
theorem dX3_busyPairs_15 : decode cX3_busyPairs 15 = .ok (.aload_n 0, 1) := by decide +kernel
theorem dX3_busyPairs_16 : decode cX3_busyPairs 16 = .ok (.getfield 19, 3) := by decide +kernel
theorem dX3_busyPairs_19 : decode cX3_busyPairs 19 = .ok (.if_icmp .ge 26, 3) := by decide +kernel
theorem dX3_busyPairs_22 : decode cX3_busyPairs 22 = .ok (.iload_n 1, 1) := by decide +kernel
theorem dX3_busyPairs_23 : decode cX3_busyPairs 23 = .ok (.aload_n 0, 1) := by decide +kernel
theorem dX3_busyPairs_24 : decode cX3_busyPairs 24 = .ok (.iload_n 2, 1) := by decide +kernel
theorem dX3_busyPairs_25 : decode cX3_busyPairs 25 = .ok (.iload_n 3, 1) := by decide +kernel
theorem dX3_busyPairs_26 : decode cX3_busyPairs 26 = .ok (.invokevirtual 63, 3) := by decide +kernel
theorem dX3_busyPairs_29 : decode cX3_busyPairs 29 = .ok (.ifCond .le 7, 3) := by decide +kernel
theorem dX3_busyPairs_32 : decode cX3_busyPairs 32 = .ok (.iconst 1, 1) := by decide +kernel
theorem dX3_busyPairs_33 : decode cX3_busyPairs 33 = .ok (.goto 4, 3) := by decide +kernel
theorem dX3_busyPairs_36 : decode cX3_busyPairs 36 = .ok (.iconst 0, 1) := by decide +kernel
theorem dX3_busyPairs_37 : decode cX3_busyPairs 37 = .ok (.iadd, 1) := by decide +kernel
theorem dX3_busyPairs_38 : decode cX3_busyPairs 38 = .ok (.istore_n 1, 1) := by decide +kernel
theorem dX3_busyPairs_39 : decode cX3_busyPairs 39 = .ok (.iinc 3 1, 3) := by decide +kernel
theorem dX3_busyPairs_42 : decode cX3_busyPairs 42 = .ok (.goto (-28), 3) := by decide +kernel
theorem dX3_busyPairs_45 : decode cX3_busyPairs 45 = .ok (.iinc 2 1, 3) := by decide +kernel
theorem dX3_busyPairs_48 : decode cX3_busyPairs 48 = .ok (.goto (-44), 3) := by decide +kernel
theorem dX3_busyPairs_51 : decode cX3_busyPairs 51 = .ok (.iload_n 1, 1) := by decide +kernel
theorem dX3_busyPairs_52 : decode cX3_busyPairs 52 = .ok (.ireturn, 1) := by decide +kernel
theorem dX3_busyPair_0 : decode cX3_busyPair 0 = .ok (.iconst 0, 1) := by decide +kernel
theorem dX3_busyPair_1 : decode cX3_busyPair 1 = .ok (.istore_n 2, 1) := by decide +kernel
theorem dX3_busyPair_2 : decode cX3_busyPair 2 = .ok (.iconst 0, 1) := by decide +kernel
theorem dX3_busyPair_3 : decode cX3_busyPair 3 = .ok (.istore_n 3, 1) := by decide +kernel
theorem dX3_busyPair_4 : decode cX3_busyPair 4 = .ok (.iload_n 3, 1) := by decide +kernel
theorem dX3_busyPair_5 : decode cX3_busyPair 5 = .ok (.aload_n 0, 1) := by decide +kernel
theorem dX3_busyPair_6 : decode cX3_busyPair 6 = .ok (.getfield 19, 3) := by decide +kernel
theorem dX3_busyPair_9 : decode cX3_busyPair 9 = .ok (.if_icmp .ge 53, 3) := by decide +kernel
theorem dX3_busyPair_12 : decode cX3_busyPair 12 = .ok (.iconst 0, 1) := by decide +kernel
theorem dX3_busyPair_13 : decode cX3_busyPair 13 = .ok (.istore 4, 2) := by decide +kernel
theorem dX3_busyPair_15 : decode cX3_busyPair 15 = .ok (.iload 4, 2) := by decide +kernel
theorem dX3_busyPair_17 : decode cX3_busyPair 17 = .ok (.aload_n 0, 1) := by decide +kernel
theorem dX3_busyPair_18 : decode cX3_busyPair 18 = .ok (.getfield 19, 3) := by decide +kernel
theorem dX3_busyPair_21 : decode cX3_busyPair 21 = .ok (.if_icmp .ge 35, 3) := by decide +kernel
theorem dX3_busyPair_24 : decode cX3_busyPair 24 = .ok (.aload_n 0, 1) := by decide +kernel
theorem dX3_busyPair_25 : decode cX3_busyPair 25 = .ok (.iload_n 3, 1) := by decide +kernel
theorem dX3_busyPair_26 : decode cX3_busyPair 26 = .ok (.iload 4, 2) := by decide +kernel
theorem dX3_busyPair_28 : decode cX3_busyPair 28 = .ok (.invokevirtual 63, 3) := by decide +kernel
theorem dX3_busyPair_31 : decode cX3_busyPair 31 = .ok (.ifCond .le 19, 3) := by decide +kernel
theorem dX3_busyPair_34 : decode cX3_busyPair 34 = .ok (.iload_n 2, 1) := by decide +kernel
theorem dX3_busyPair_35 : decode cX3_busyPair 35 = .ok (.iinc 2 1, 3) := by decide +kernel
theorem dX3_busyPair_38 : decode cX3_busyPair 38 = .ok (.iload_n 1, 1) := by decide +kernel
theorem dX3_busyPair_39 : decode cX3_busyPair 39 = .ok (.if_icmp .ne 11, 3) := by decide +kernel
theorem dX3_busyPair_42 : decode cX3_busyPair 42 = .ok (.iload_n 3, 1) := by decide +kernel
theorem dX3_busyPair_43 : decode cX3_busyPair 43 = .ok (.bipush 6, 2) := by decide +kernel
theorem dX3_busyPair_45 : decode cX3_busyPair 45 = .ok (.imul, 1) := by decide +kernel
theorem dX3_busyPair_46 : decode cX3_busyPair 46 = .ok (.iload 4, 2) := by decide +kernel
theorem dX3_busyPair_48 : decode cX3_busyPair 48 = .ok (.iadd, 1) := by decide +kernel
theorem dX3_busyPair_49 : decode cX3_busyPair 49 = .ok (.ireturn, 1) := by decide +kernel
theorem dX3_busyPair_50 : decode cX3_busyPair 50 = .ok (.iinc 4 1, 3) := by decide +kernel
theorem dX3_busyPair_53 : decode cX3_busyPair 53 = .ok (.goto (-38), 3) := by decide +kernel
theorem dX3_busyPair_56 : decode cX3_busyPair 56 = .ok (.iinc 3 1, 3) := by decide +kernel
theorem dX3_busyPair_59 : decode cX3_busyPair 59 = .ok (.goto (-55), 3) := by decide +kernel
theorem dX3_busyPair_62 : decode cX3_busyPair 62 = .ok (.iconst 0, 1) := by decide +kernel
theorem dX3_busyPair_63 : decode cX3_busyPair 63 = .ok (.ireturn, 1) := by decide +kernel
theorem dX3_howMany_0 : decode cX3_howMany 0 = .ok (.iconst 0, 1) := by decide +kernel
theorem dX3_howMany_1 : decode cX3_howMany 1 = .ok (.istore_n 2, 1) := by decide +kernel
theorem dX3_howMany_2 : decode cX3_howMany 2 = .ok (.iconst 0, 1) := by decide +kernel
theorem dX3_howMany_3 : decode cX3_howMany 3 = .ok (.istore_n 3, 1) := by decide +kernel
theorem dX3_howMany_4 : decode cX3_howMany 4 = .ok (.iload_n 3, 1) := by decide +kernel
theorem dX3_howMany_5 : decode cX3_howMany 5 = .ok (.aload_n 0, 1) := by decide +kernel
theorem dX3_howMany_6 : decode cX3_howMany 6 = .ok (.getfield 19, 3) := by decide +kernel
theorem dX3_howMany_9 : decode cX3_howMany 9 = .ok (.if_icmp .ge 27, 3) := by decide +kernel
theorem dX3_howMany_12 : decode cX3_howMany 12 = .ok (.iload_n 2, 1) := by decide +kernel
theorem dX3_howMany_13 : decode cX3_howMany 13 = .ok (.aload_n 0, 1) := by decide +kernel
theorem dX3_howMany_14 : decode cX3_howMany 14 = .ok (.iload_n 3, 1) := by decide +kernel
theorem dX3_howMany_15 : decode cX3_howMany 15 = .ok (.iconst 0, 1) := by decide +kernel
theorem dX3_howMany_16 : decode cX3_howMany 16 = .ok (.invokevirtual 66, 3) := by decide +kernel
theorem dX3_howMany_19 : decode cX3_howMany 19 = .ok (.iload_n 1, 1) := by decide +kernel
theorem dX3_howMany_20 : decode cX3_howMany 20 = .ok (.if_icmp .ne 7, 3) := by decide +kernel
theorem dX3_howMany_23 : decode cX3_howMany 23 = .ok (.iconst 1, 1) := by decide +kernel
theorem dX3_howMany_24 : decode cX3_howMany 24 = .ok (.goto 4, 3) := by decide +kernel
theorem dX3_howMany_27 : decode cX3_howMany 27 = .ok (.iconst 0, 1) := by decide +kernel
theorem dX3_howMany_28 : decode cX3_howMany 28 = .ok (.iadd, 1) := by decide +kernel
theorem dX3_howMany_29 : decode cX3_howMany 29 = .ok (.istore_n 2, 1) := by decide +kernel
theorem dX3_howMany_30 : decode cX3_howMany 30 = .ok (.iinc 3 1, 3) := by decide +kernel
theorem dX3_howMany_33 : decode cX3_howMany 33 = .ok (.goto (-29), 3) := by decide +kernel
theorem dX3_howMany_36 : decode cX3_howMany 36 = .ok (.iload_n 2, 1) := by decide +kernel
theorem dX3_howMany_37 : decode cX3_howMany 37 = .ok (.ireturn, 1) := by decide +kernel
theorem dX3_hasToken_0 : decode cX3_hasToken 0 = .ok (.aload_n 0, 1) := by decide +kernel
theorem dX3_hasToken_1 : decode cX3_hasToken 1 = .ok (.getfield 15, 3) := by decide +kernel
theorem dX3_hasToken_4 : decode cX3_hasToken 4 = .ok (.iconst 1, 1) := by decide +kernel
theorem dX3_hasToken_5 : decode cX3_hasToken 5 = .ok (.if_icmp .ne 13, 3) := by decide +kernel
theorem dX3_hasToken_8 : decode cX3_hasToken 8 = .ok (.aload_n 0, 1) := by decide +kernel
theorem dX3_hasToken_9 : decode cX3_hasToken 9 = .ok (.bipush 30, 2) := by decide +kernel
theorem dX3_hasToken_11 : decode cX3_hasToken 11 = .ok (.invokevirtual 36, 3) := by decide +kernel
theorem dX3_hasToken_14 : decode cX3_hasToken 14 = .ok (.iload_n 1, 1) := by decide +kernel
theorem dX3_hasToken_15 : decode cX3_hasToken 15 = .ok (.if_icmp .eq 22, 3) := by decide +kernel
theorem dX3_hasToken_18 : decode cX3_hasToken 18 = .ok (.aload_n 0, 1) := by decide +kernel
theorem dX3_hasToken_19 : decode cX3_hasToken 19 = .ok (.getfield 15, 3) := by decide +kernel
theorem dX3_hasToken_22 : decode cX3_hasToken 22 = .ok (.iconst 2, 1) := by decide +kernel
theorem dX3_hasToken_23 : decode cX3_hasToken 23 = .ok (.if_icmp .ne 18, 3) := by decide +kernel
theorem dX3_hasToken_26 : decode cX3_hasToken 26 = .ok (.aload_n 0, 1) := by decide +kernel
theorem dX3_hasToken_27 : decode cX3_hasToken 27 = .ok (.iload_n 1, 1) := by decide +kernel
theorem dX3_hasToken_28 : decode cX3_hasToken 28 = .ok (.bipush 86, 2) := by decide +kernel
theorem dX3_hasToken_30 : decode cX3_hasToken 30 = .ok (.invokevirtual 66, 3) := by decide +kernel
theorem dX3_hasToken_33 : decode cX3_hasToken 33 = .ok (.iload_n 1, 1) := by decide +kernel
theorem dX3_hasToken_34 : decode cX3_hasToken 34 = .ok (.if_icmp .ne 7, 3) := by decide +kernel
theorem dX3_hasToken_37 : decode cX3_hasToken 37 = .ok (.iconst 1, 1) := by decide +kernel
theorem dX3_hasToken_38 : decode cX3_hasToken 38 = .ok (.goto 4, 3) := by decide +kernel
theorem dX3_hasToken_41 : decode cX3_hasToken 41 = .ok (.iconst 0, 1) := by decide +kernel
theorem dX3_hasToken_42 : decode cX3_hasToken 42 = .ok (.ireturn, 1) := by decide +kernel
theorem dX3_tokenIsLost_0 : decode cX3_tokenIsLost 0 = .ok (.iconst 0, 1) := by decide +kernel
theorem dX3_tokenIsLost_1 : decode cX3_tokenIsLost 1 = .ok (.istore_n 1, 1) := by decide +kernel
theorem dX3_tokenIsLost_2 : decode cX3_tokenIsLost 2 = .ok (.iload_n 1, 1) := by decide +kernel
theorem dX3_tokenIsLost_3 : decode cX3_tokenIsLost 3 = .ok (.aload_n 0, 1) := by decide +kernel
theorem dX3_tokenIsLost_4 : decode cX3_tokenIsLost 4 = .ok (.getfield 19, 3) := by decide +kernel
theorem dX3_tokenIsLost_7 : decode cX3_tokenIsLost 7 = .ok (.if_icmp .ge 46, 3) := by decide +kernel
theorem dX3_tokenIsLost_10 : decode cX3_tokenIsLost 10 = .ok (.aload_n 0, 1) := by decide +kernel
theorem dX3_tokenIsLost_11 : decode cX3_tokenIsLost 11 = .ok (.iload_n 1, 1) := by decide +kernel
theorem dX3_tokenIsLost_12 : decode cX3_tokenIsLost 12 = .ok (.invokevirtual 69, 3) := by decide +kernel
theorem dX3_tokenIsLost_15 : decode cX3_tokenIsLost 15 = .ok (.ifCond .eq 5, 3) := by decide +kernel
theorem dX3_tokenIsLost_18 : decode cX3_tokenIsLost 18 = .ok (.iconst 0, 1) := by decide +kernel
theorem dX3_tokenIsLost_19 : decode cX3_tokenIsLost 19 = .ok (.ireturn, 1) := by decide +kernel
theorem dX3_tokenIsLost_20 : decode cX3_tokenIsLost 20 = .ok (.iconst 0, 1) := by decide +kernel
theorem dX3_tokenIsLost_21 : decode cX3_tokenIsLost 21 = .ok (.istore_n 2, 1) := by decide +kernel
theorem dX3_tokenIsLost_22 : decode cX3_tokenIsLost 22 = .ok (.iload_n 2, 1) := by decide +kernel
theorem dX3_tokenIsLost_23 : decode cX3_tokenIsLost 23 = .ok (.aload_n 0, 1) := by decide +kernel
theorem dX3_tokenIsLost_24 : decode cX3_tokenIsLost 24 = .ok (.getfield 19, 3) := by decide +kernel
theorem dX3_tokenIsLost_27 : decode cX3_tokenIsLost 27 = .ok (.if_icmp .ge 20, 3) := by decide +kernel
theorem dX3_tokenIsLost_30 : decode cX3_tokenIsLost 30 = .ok (.aload_n 0, 1) := by decide +kernel
theorem dX3_tokenIsLost_31 : decode cX3_tokenIsLost 31 = .ok (.iload_n 1, 1) := by decide +kernel
theorem dX3_tokenIsLost_32 : decode cX3_tokenIsLost 32 = .ok (.iload_n 2, 1) := by decide +kernel
theorem dX3_tokenIsLost_33 : decode cX3_tokenIsLost 33 = .ok (.invokevirtual 72, 3) := by decide +kernel
theorem dX3_tokenIsLost_36 : decode cX3_tokenIsLost 36 = .ok (.ifCond .eq 5, 3) := by decide +kernel
theorem dX3_tokenIsLost_39 : decode cX3_tokenIsLost 39 = .ok (.iconst 0, 1) := by decide +kernel
theorem dX3_tokenIsLost_40 : decode cX3_tokenIsLost 40 = .ok (.ireturn, 1) := by decide +kernel
theorem dX3_tokenIsLost_41 : decode cX3_tokenIsLost 41 = .ok (.iinc 2 1, 3) := by decide +kernel
theorem dX3_tokenIsLost_44 : decode cX3_tokenIsLost 44 = .ok (.goto (-22), 3) := by decide +kernel
theorem dX3_tokenIsLost_47 : decode cX3_tokenIsLost 47 = .ok (.iinc 1 1, 3) := by decide +kernel
theorem dX3_tokenIsLost_50 : decode cX3_tokenIsLost 50 = .ok (.goto (-48), 3) := by decide +kernel
theorem dX3_tokenIsLost_53 : decode cX3_tokenIsLost 53 = .ok (.aload_n 0, 1) := by decide +kernel
theorem dX3_tokenIsLost_54 : decode cX3_tokenIsLost 54 = .ok (.getfield 15, 3) := by decide +kernel
theorem dX3_tokenIsLost_57 : decode cX3_tokenIsLost 57 = .ok (.ifCond .eq 7, 3) := by decide +kernel
theorem dX3_tokenIsLost_60 : decode cX3_tokenIsLost 60 = .ok (.iconst 1, 1) := by decide +kernel
theorem dX3_tokenIsLost_61 : decode cX3_tokenIsLost 61 = .ok (.goto 4, 3) := by decide +kernel
theorem dX3_tokenIsLost_64 : decode cX3_tokenIsLost 64 = .ok (.iconst 0, 1) := by decide +kernel
theorem dX3_tokenIsLost_65 : decode cX3_tokenIsLost 65 = .ok (.ireturn, 1) := by decide +kernel
theorem dX3_tokenBetween_0 : decode cX3_tokenBetween 0 = .ok (.aload_n 0, 1) := by decide +kernel
theorem dX3_tokenBetween_1 : decode cX3_tokenBetween 1 = .ok (.iload_n 1, 1) := by decide +kernel
theorem dX3_tokenBetween_2 : decode cX3_tokenBetween 2 = .ok (.iload_n 2, 1) := by decide +kernel
theorem dX3_tokenBetween_3 : decode cX3_tokenBetween 3 = .ok (.invokevirtual 63, 3) := by decide +kernel
theorem dX3_tokenBetween_6 : decode cX3_tokenBetween 6 = .ok (.istore_n 3, 1) := by decide +kernel
theorem dX3_tokenBetween_7 : decode cX3_tokenBetween 7 = .ok (.iconst 0, 1) := by decide +kernel
theorem dX3_tokenBetween_8 : decode cX3_tokenBetween 8 = .ok (.istore 4, 2) := by decide +kernel
theorem dX3_tokenBetween_10 : decode cX3_tokenBetween 10 = .ok (.iload 4, 2) := by decide +kernel
theorem dX3_tokenBetween_12 : decode cX3_tokenBetween 12 = .ok (.iload_n 3, 1) := by decide +kernel
theorem dX3_tokenBetween_13 : decode cX3_tokenBetween 13 = .ok (.if_icmp .ge 33, 3) := by decide +kernel
theorem dX3_tokenBetween_16 : decode cX3_tokenBetween 16 = .ok (.iload 4, 2) := by decide +kernel
theorem dX3_tokenBetween_18 : decode cX3_tokenBetween 18 = .ok (.bipush 12, 2) := by decide +kernel
theorem dX3_tokenBetween_20 : decode cX3_tokenBetween 20 = .ok (.if_icmp .ge 26, 3) := by decide +kernel
theorem dX3_tokenBetween_23 : decode cX3_tokenBetween 23 = .ok (.aload_n 0, 1) := by decide +kernel
theorem dX3_tokenBetween_24 : decode cX3_tokenBetween 24 = .ok (.iload_n 1, 1) := by decide +kernel
theorem dX3_tokenBetween_25 : decode cX3_tokenBetween 25 = .ok (.iload_n 2, 1) := by decide +kernel
theorem dX3_tokenBetween_26 : decode cX3_tokenBetween 26 = .ok (.iload 4, 2) := by decide +kernel
theorem dX3_tokenBetween_28 : decode cX3_tokenBetween 28 = .ok (.invokevirtual 76, 3) := by decide +kernel
theorem dX3_tokenBetween_31 : decode cX3_tokenBetween 31 = .ok (.invokestatic 80, 3) := by decide +kernel
theorem dX3_tokenBetween_34 : decode cX3_tokenBetween 34 = .ok (.iconst 2, 1) := by decide +kernel
theorem dX3_tokenBetween_35 : decode cX3_tokenBetween 35 = .ok (.if_icmp .ne 5, 3) := by decide +kernel
theorem dX3_tokenBetween_38 : decode cX3_tokenBetween 38 = .ok (.iconst 1, 1) := by decide +kernel
theorem dX3_tokenBetween_39 : decode cX3_tokenBetween 39 = .ok (.ireturn, 1) := by decide +kernel
theorem dX3_tokenBetween_40 : decode cX3_tokenBetween 40 = .ok (.iinc 4 1, 3) := by decide +kernel
theorem dX3_tokenBetween_43 : decode cX3_tokenBetween 43 = .ok (.goto (-33), 3) := by decide +kernel
theorem dX3_tokenBetween_46 : decode cX3_tokenBetween 46 = .ok (.iconst 0, 1) := by decide +kernel
theorem dX3_tokenBetween_47 : decode cX3_tokenBetween 47 = .ok (.ireturn, 1) := by decide +kernel
theorem dX3_copyTo_0 : decode cX3_copyTo 0 = .ok (.iload_n 2, 1) := by decide +kernel
theorem dX3_copyTo_1 : decode cX3_copyTo 1 = .ok (.ifCond .lt 35, 3) := by decide +kernel
theorem dX3_copyTo_4 : decode cX3_copyTo 4 = .ok (.iload_n 3, 1) := by decide +kernel
theorem dX3_copyTo_5 : decode cX3_copyTo 5 = .ok (.ifCond .lt 31, 3) := by decide +kernel
theorem dX3_copyTo_8 : decode cX3_copyTo 8 = .ok (.iload_n 3, 1) := by decide +kernel
theorem dX3_copyTo_9 : decode cX3_copyTo 9 = .ok (.aload_n 0, 1) := by decide +kernel
theorem dX3_copyTo_10 : decode cX3_copyTo 10 = .ok (.getfield 11, 3) := by decide +kernel
theorem dX3_copyTo_13 : decode cX3_copyTo 13 = .ok (.arraylength, 1) := by decide +kernel
theorem dX3_copyTo_14 : decode cX3_copyTo 14 = .ok (.if_icmp .gt 22, 3) := by decide +kernel
theorem dX3_copyTo_17 : decode cX3_copyTo 17 = .ok (.iload_n 2, 1) := by decide +kernel
theorem dX3_copyTo_18 : decode cX3_copyTo 18 = .ok (.aload_n 1, 1) := by decide +kernel
theorem dX3_copyTo_19 : decode cX3_copyTo 19 = .ok (.arraylength, 1) := by decide +kernel
theorem dX3_copyTo_20 : decode cX3_copyTo 20 = .ok (.iload_n 3, 1) := by decide +kernel
theorem dX3_copyTo_21 : decode cX3_copyTo 21 = .ok (.isub, 1) := by decide +kernel
theorem dX3_copyTo_22 : decode cX3_copyTo 22 = .ok (.if_icmp .gt 14, 3) := by decide +kernel
theorem dX3_copyTo_25 : decode cX3_copyTo 25 = .ok (.aload_n 0, 1) := by decide +kernel
theorem dX3_copyTo_26 : decode cX3_copyTo 26 = .ok (.getfield 11, 3) := by decide +kernel
theorem dX3_copyTo_29 : decode cX3_copyTo 29 = .ok (.iconst 0, 1) := by decide +kernel
theorem dX3_copyTo_30 : decode cX3_copyTo 30 = .ok (.aload_n 1, 1) := by decide +kernel
theorem dX3_copyTo_31 : decode cX3_copyTo 31 = .ok (.iload_n 2, 1) := by decide +kernel
theorem dX3_copyTo_32 : decode cX3_copyTo 32 = .ok (.iload_n 3, 1) := by decide +kernel
theorem dX3_copyTo_33 : decode cX3_copyTo 33 = .ok (.invokestatic 83, 3) := by decide +kernel
theorem dX3_copyTo_36 : decode cX3_copyTo 36 = .ok (.return_, 1) := by decide +kernel
theorem dX3_copyFrom_0 : decode cX3_copyFrom 0 = .ok (.iload_n 2, 1) := by decide +kernel
theorem dX3_copyFrom_1 : decode cX3_copyFrom 1 = .ok (.ifCond .lt 35, 3) := by decide +kernel
theorem dX3_copyFrom_4 : decode cX3_copyFrom 4 = .ok (.iload_n 3, 1) := by decide +kernel
theorem dX3_copyFrom_5 : decode cX3_copyFrom 5 = .ok (.ifCond .lt 31, 3) := by decide +kernel
theorem dX3_copyFrom_8 : decode cX3_copyFrom 8 = .ok (.iload_n 3, 1) := by decide +kernel
theorem dX3_copyFrom_9 : decode cX3_copyFrom 9 = .ok (.aload_n 0, 1) := by decide +kernel
theorem dX3_copyFrom_10 : decode cX3_copyFrom 10 = .ok (.getfield 11, 3) := by decide +kernel
theorem dX3_copyFrom_13 : decode cX3_copyFrom 13 = .ok (.arraylength, 1) := by decide +kernel
theorem dX3_copyFrom_14 : decode cX3_copyFrom 14 = .ok (.if_icmp .gt 22, 3) := by decide +kernel
theorem dX3_copyFrom_17 : decode cX3_copyFrom 17 = .ok (.iload_n 2, 1) := by decide +kernel
theorem dX3_copyFrom_18 : decode cX3_copyFrom 18 = .ok (.aload_n 1, 1) := by decide +kernel
theorem dX3_copyFrom_19 : decode cX3_copyFrom 19 = .ok (.arraylength, 1) := by decide +kernel
theorem dX3_copyFrom_20 : decode cX3_copyFrom 20 = .ok (.iload_n 3, 1) := by decide +kernel
theorem dX3_copyFrom_21 : decode cX3_copyFrom 21 = .ok (.isub, 1) := by decide +kernel
theorem dX3_copyFrom_22 : decode cX3_copyFrom 22 = .ok (.if_icmp .gt 14, 3) := by decide +kernel
theorem dX3_copyFrom_25 : decode cX3_copyFrom 25 = .ok (.aload_n 1, 1) := by decide +kernel
theorem dX3_copyFrom_26 : decode cX3_copyFrom 26 = .ok (.iload_n 2, 1) := by decide +kernel
theorem dX3_copyFrom_27 : decode cX3_copyFrom 27 = .ok (.aload_n 0, 1) := by decide +kernel
theorem dX3_copyFrom_28 : decode cX3_copyFrom 28 = .ok (.getfield 11, 3) := by decide +kernel
theorem dX3_copyFrom_31 : decode cX3_copyFrom 31 = .ok (.iconst 0, 1) := by decide +kernel
theorem dX3_copyFrom_32 : decode cX3_copyFrom 32 = .ok (.iload_n 3, 1) := by decide +kernel
theorem dX3_copyFrom_33 : decode cX3_copyFrom 33 = .ok (.invokestatic 83, 3) := by decide +kernel
theorem dX3_copyFrom_36 : decode cX3_copyFrom 36 = .ok (.return_, 1) := by decide +kernel
theorem dX4_init_0 : decode cX4_init 0 = .ok (.aload_n 0, 1) := by decide +kernel
theorem dX4_init_1 : decode cX4_init 1 = .ok (.invokespecial 3, 3) := by decide +kernel
theorem dX4_init_4 : decode cX4_init 4 = .ok (.aload_n 0, 1) := by decide +kernel
theorem dX4_init_5 : decode cX4_init 5 = .ok (.aload_n 1, 1) := by decide +kernel
theorem dX4_init_6 : decode cX4_init 6 = .ok (.putfield 9, 3) := by decide +kernel
theorem dX4_init_9 : decode cX4_init 9 = .ok (.aload_n 0, 1) := by decide +kernel
theorem dX4_init_10 : decode cX4_init 10 = .ok (.aload_n 2, 1) := by decide +kernel
theorem dX4_init_11 : decode cX4_init 11 = .ok (.putfield 15, 3) := by decide +kernel
theorem dX4_init_14 : decode cX4_init 14 = .ok (.aload_n 0, 1) := by decide +kernel
theorem dX4_init_15 : decode cX4_init 15 = .ok (.iconst 1, 1) := by decide +kernel
theorem dX4_init_16 : decode cX4_init 16 = .ok (.putfield 19, 3) := by decide +kernel
theorem dX4_init_19 : decode cX4_init 19 = .ok (.return_, 1) := by decide +kernel
theorem dX4_wanted_0 : decode cX4_wanted 0 = .ok (.aload_n 0, 1) := by decide +kernel
theorem dX4_wanted_1 : decode cX4_wanted 1 = .ok (.getfield 9, 3) := by decide +kernel
theorem dX4_wanted_4 : decode cX4_wanted 4 = .ok (.iconst 0, 1) := by decide +kernel
theorem dX4_wanted_5 : decode cX4_wanted 5 = .ok (.putfield 23, 3) := by decide +kernel
theorem dX4_wanted_8 : decode cX4_wanted 8 = .ok (.aload_n 0, 1) := by decide +kernel
theorem dX4_wanted_9 : decode cX4_wanted 9 = .ok (.getfield 9, 3) := by decide +kernel
theorem dX4_wanted_12 : decode cX4_wanted 12 = .ok (.iload_n 1, 1) := by decide +kernel
theorem dX4_wanted_13 : decode cX4_wanted 13 = .ok (.iconst 0, 1) := by decide +kernel
theorem dX4_wanted_14 : decode cX4_wanted 14 = .ok (.iconst 1, 1) := by decide +kernel
theorem dX4_wanted_15 : decode cX4_wanted 15 = .ok (.invokevirtual 28, 3) := by decide +kernel
theorem dX4_wanted_18 : decode cX4_wanted 18 = .ok (.aload_n 0, 1) := by decide +kernel
theorem dX4_wanted_19 : decode cX4_wanted 19 = .ok (.getfield 9, 3) := by decide +kernel
theorem dX4_wanted_22 : decode cX4_wanted 22 = .ok (.sipush 612, 3) := by decide +kernel
theorem dX4_wanted_25 : decode cX4_wanted 25 = .ok (.iload_n 1, 1) := by decide +kernel
theorem dX4_wanted_26 : decode cX4_wanted 26 = .ok (.iadd, 1) := by decide +kernel
theorem dX4_wanted_27 : decode cX4_wanted 27 = .ok (.aload_n 0, 1) := by decide +kernel
theorem dX4_wanted_28 : decode cX4_wanted 28 = .ok (.getfield 9, 3) := by decide +kernel
theorem dX4_wanted_31 : decode cX4_wanted 31 = .ok (.sipush 611, 3) := by decide +kernel
theorem dX4_wanted_34 : decode cX4_wanted 34 = .ok (.invokevirtual 32, 3) := by decide +kernel
theorem dX4_wanted_37 : decode cX4_wanted 37 = .ok (.invokevirtual 36, 3) := by decide +kernel
theorem dX4_wanted_40 : decode cX4_wanted 40 = .ok (.aload_n 0, 1) := by decide +kernel
theorem dX4_wanted_41 : decode cX4_wanted 41 = .ok (.getfield 9, 3) := by decide +kernel
theorem dX4_wanted_44 : decode cX4_wanted 44 = .ok (.getfield 40, 3) := by decide +kernel
theorem dX4_wanted_47 : decode cX4_wanted 47 = .ok (.ifCond .ne 11, 3) := by decide +kernel
theorem dX4_wanted_50 : decode cX4_wanted 50 = .ok (.aload_n 0, 1) := by decide +kernel
theorem dX4_wanted_51 : decode cX4_wanted 51 = .ok (.iload_n 1, 1) := by decide +kernel
theorem dX4_wanted_52 : decode cX4_wanted 52 = .ok (.invokevirtual 44, 3) := by decide +kernel
theorem dX4_wanted_55 : decode cX4_wanted 55 = .ok (.goto 33, 3) := by decide +kernel
theorem dX4_wanted_58 : decode cX4_wanted 58 = .ok (.aload_n 0, 1) := by decide +kernel
theorem dX4_wanted_59 : decode cX4_wanted 59 = .ok (.getfield 9, 3) := by decide +kernel
theorem dX4_wanted_62 : decode cX4_wanted 62 = .ok (.getfield 40, 3) := by decide +kernel
theorem dX4_wanted_65 : decode cX4_wanted 65 = .ok (.iconst 1, 1) := by decide +kernel
theorem dX4_wanted_66 : decode cX4_wanted 66 = .ok (.if_icmp .ne 11, 3) := by decide +kernel
theorem dX4_wanted_69 : decode cX4_wanted 69 = .ok (.aload_n 0, 1) := by decide +kernel
theorem dX4_wanted_70 : decode cX4_wanted 70 = .ok (.iload_n 1, 1) := by decide +kernel
theorem dX4_wanted_71 : decode cX4_wanted 71 = .ok (.invokevirtual 48, 3) := by decide +kernel
theorem dX4_wanted_74 : decode cX4_wanted 74 = .ok (.goto 14, 3) := by decide +kernel
theorem dX4_wanted_77 : decode cX4_wanted 77 = .ok (.aload_n 0, 1) := by decide +kernel
theorem dX4_wanted_78 : decode cX4_wanted 78 = .ok (.iload_n 1, 1) := by decide +kernel
theorem dX4_wanted_79 : decode cX4_wanted 79 = .ok (.iload_n 1, 1) := by decide +kernel
theorem dX4_wanted_80 : decode cX4_wanted 80 = .ok (.invokevirtual 51, 3) := by decide +kernel
theorem dX4_wanted_83 : decode cX4_wanted 83 = .ok (.aload_n 0, 1) := by decide +kernel
theorem dX4_wanted_84 : decode cX4_wanted 84 = .ok (.iload_n 1, 1) := by decide +kernel
theorem dX4_wanted_85 : decode cX4_wanted 85 = .ok (.invokevirtual 54, 3) := by decide +kernel
theorem dX4_wanted_88 : decode cX4_wanted 88 = .ok (.return_, 1) := by decide +kernel
theorem dX4_left_0 : decode cX4_left 0 = .ok (.aload_n 0, 1) := by decide +kernel
theorem dX4_left_1 : decode cX4_left 1 = .ok (.getfield 9, 3) := by decide +kernel
theorem dX4_left_4 : decode cX4_left 4 = .ok (.iconst 0, 1) := by decide +kernel
theorem dX4_left_5 : decode cX4_left 5 = .ok (.putfield 23, 3) := by decide +kernel
theorem dX4_left_8 : decode cX4_left 8 = .ok (.aload_n 0, 1) := by decide +kernel
theorem dX4_left_9 : decode cX4_left 9 = .ok (.getfield 9, 3) := by decide +kernel
theorem dX4_left_12 : decode cX4_left 12 = .ok (.iload_n 1, 1) := by decide +kernel
theorem dX4_left_13 : decode cX4_left 13 = .ok (.iconst 0, 1) := by decide +kernel
theorem dX4_left_14 : decode cX4_left 14 = .ok (.iconst 0, 1) := by decide +kernel
theorem dX4_left_15 : decode cX4_left 15 = .ok (.invokevirtual 28, 3) := by decide +kernel
theorem dX4_left_18 : decode cX4_left 18 = .ok (.aload_n 0, 1) := by decide +kernel
theorem dX4_left_19 : decode cX4_left 19 = .ok (.getfield 9, 3) := by decide +kernel
theorem dX4_left_22 : decode cX4_left 22 = .ok (.getfield 40, 3) := by decide +kernel
theorem dX4_left_25 : decode cX4_left 25 = .ok (.ifCond .ne 11, 3) := by decide +kernel
theorem dX4_left_28 : decode cX4_left 28 = .ok (.aload_n 0, 1) := by decide +kernel
theorem dX4_left_29 : decode cX4_left 29 = .ok (.iload_n 1, 1) := by decide +kernel
theorem dX4_left_30 : decode cX4_left 30 = .ok (.invokevirtual 57, 3) := by decide +kernel
theorem dX4_left_33 : decode cX4_left 33 = .ok (.goto 27, 3) := by decide +kernel
theorem dX4_left_36 : decode cX4_left 36 = .ok (.aload_n 0, 1) := by decide +kernel
theorem dX4_left_37 : decode cX4_left 37 = .ok (.getfield 9, 3) := by decide +kernel
theorem dX4_left_40 : decode cX4_left 40 = .ok (.getfield 40, 3) := by decide +kernel
theorem dX4_left_43 : decode cX4_left 43 = .ok (.iconst 1, 1) := by decide +kernel
theorem dX4_left_44 : decode cX4_left 44 = .ok (.if_icmp .ne 11, 3) := by decide +kernel
theorem dX4_left_47 : decode cX4_left 47 = .ok (.aload_n 0, 1) := by decide +kernel
theorem dX4_left_48 : decode cX4_left 48 = .ok (.iload_n 1, 1) := by decide +kernel
theorem dX4_left_49 : decode cX4_left 49 = .ok (.invokevirtual 60, 3) := by decide +kernel
theorem dX4_left_52 : decode cX4_left 52 = .ok (.goto 8, 3) := by decide +kernel
theorem dX4_left_55 : decode cX4_left 55 = .ok (.aload_n 0, 1) := by decide +kernel
theorem dX4_left_56 : decode cX4_left 56 = .ok (.iload_n 1, 1) := by decide +kernel
theorem dX4_left_57 : decode cX4_left 57 = .ok (.invokevirtual 54, 3) := by decide +kernel
theorem dX4_left_60 : decode cX4_left 60 = .ok (.return_, 1) := by decide +kernel
theorem dX4_coming_0 : decode cX4_coming 0 = .ok (.aload_n 0, 1) := by decide +kernel
theorem dX4_coming_1 : decode cX4_coming 1 = .ok (.getfield 9, 3) := by decide +kernel
theorem dX4_coming_4 : decode cX4_coming 4 = .ok (.iconst 0, 1) := by decide +kernel
theorem dX4_coming_5 : decode cX4_coming 5 = .ok (.putfield 23, 3) := by decide +kernel
theorem dX4_coming_8 : decode cX4_coming 8 = .ok (.aload_n 0, 1) := by decide +kernel
theorem dX4_coming_9 : decode cX4_coming 9 = .ok (.getfield 9, 3) := by decide +kernel
theorem dX4_coming_12 : decode cX4_coming 12 = .ok (.iload_n 1, 1) := by decide +kernel
theorem dX4_coming_13 : decode cX4_coming 13 = .ok (.iload_n 2, 1) := by decide +kernel
theorem dX4_coming_14 : decode cX4_coming 14 = .ok (.invokevirtual 63, 3) := by decide +kernel
theorem dX4_coming_17 : decode cX4_coming 17 = .ok (.istore_n 3, 1) := by decide +kernel
theorem dX4_coming_18 : decode cX4_coming 18 = .ok (.iload_n 3, 1) := by decide +kernel
theorem dX4_coming_19 : decode cX4_coming 19 = .ok (.invokestatic 67, 3) := by decide +kernel
theorem dX4_coming_22 : decode cX4_coming 22 = .ok (.ifCond .ne 7, 3) := by decide +kernel
theorem dX4_coming_25 : decode cX4_coming 25 = .ok (.iconst 1, 1) := by decide +kernel
theorem dX4_coming_26 : decode cX4_coming 26 = .ok (.goto 4, 3) := by decide +kernel
theorem dX4_coming_29 : decode cX4_coming 29 = .ok (.iconst 0, 1) := by decide +kernel
theorem dX4_coming_30 : decode cX4_coming 30 = .ok (.istore 4, 2) := by decide +kernel
theorem dX4_coming_32 : decode cX4_coming 32 = .ok (.aload_n 0, 1) := by decide +kernel
theorem dX4_coming_33 : decode cX4_coming 33 = .ok (.getfield 9, 3) := by decide +kernel
theorem dX4_coming_36 : decode cX4_coming 36 = .ok (.getfield 40, 3) := by decide +kernel
theorem dX4_coming_39 : decode cX4_coming 39 = .ok (.ifCond .ne 30, 3) := by decide +kernel
theorem dX4_coming_42 : decode cX4_coming 42 = .ok (.iload 4, 2) := by decide +kernel
theorem dX4_coming_44 : decode cX4_coming 44 = .ok (.ifCond .eq 16, 3) := by decide +kernel
theorem dX4_coming_47 : decode cX4_coming 47 = .ok (.aload_n 0, 1) := by decide +kernel
theorem dX4_coming_48 : decode cX4_coming 48 = .ok (.iload_n 2, 1) := by decide +kernel
theorem dX4_coming_49 : decode cX4_coming 49 = .ok (.iload_n 1, 1) := by decide +kernel
theorem dX4_coming_50 : decode cX4_coming 50 = .ok (.iload_n 3, 1) := by decide +kernel
theorem dX4_coming_51 : decode cX4_coming 51 = .ok (.invokestatic 70, 3) := by decide +kernel
theorem dX4_coming_54 : decode cX4_coming 54 = .ok (.invokevirtual 73, 3) := by decide +kernel
theorem dX4_coming_57 : decode cX4_coming 57 = .ok (.goto 89, 3) := by decide +kernel
theorem dX4_coming_60 : decode cX4_coming 60 = .ok (.aload_n 0, 1) := by decide +kernel
theorem dX4_coming_61 : decode cX4_coming 61 = .ok (.iload_n 2, 1) := by decide +kernel
theorem dX4_coming_62 : decode cX4_coming 62 = .ok (.iload_n 1, 1) := by decide +kernel
theorem dX4_coming_63 : decode cX4_coming 63 = .ok (.invokevirtual 76, 3) := by decide +kernel
theorem dX4_coming_66 : decode cX4_coming 66 = .ok (.goto 80, 3) := by decide +kernel
theorem dX4_coming_69 : decode cX4_coming 69 = .ok (.aload_n 0, 1) := by decide +kernel
theorem dX4_coming_70 : decode cX4_coming 70 = .ok (.getfield 9, 3) := by decide +kernel
theorem dX4_coming_73 : decode cX4_coming 73 = .ok (.getfield 40, 3) := by decide +kernel
theorem dX4_coming_76 : decode cX4_coming 76 = .ok (.iconst 1, 1) := by decide +kernel
theorem dX4_coming_77 : decode cX4_coming 77 = .ok (.if_icmp .ne 39, 3) := by decide +kernel
theorem dX4_coming_80 : decode cX4_coming 80 = .ok (.iload 4, 2) := by decide +kernel
theorem dX4_coming_82 : decode cX4_coming 82 = .ok (.ifCond .eq 16, 3) := by decide +kernel
theorem dX4_coming_85 : decode cX4_coming 85 = .ok (.aload_n 0, 1) := by decide +kernel
theorem dX4_coming_86 : decode cX4_coming 86 = .ok (.iload_n 2, 1) := by decide +kernel
theorem dX4_coming_87 : decode cX4_coming 87 = .ok (.iload_n 1, 1) := by decide +kernel
theorem dX4_coming_88 : decode cX4_coming 88 = .ok (.iload_n 3, 1) := by decide +kernel
theorem dX4_coming_89 : decode cX4_coming 89 = .ok (.invokestatic 70, 3) := by decide +kernel
theorem dX4_coming_92 : decode cX4_coming 92 = .ok (.invokevirtual 79, 3) := by decide +kernel
theorem dX4_coming_95 : decode cX4_coming 95 = .ok (.goto 51, 3) := by decide +kernel
theorem dX4_coming_98 : decode cX4_coming 98 = .ok (.aload_n 0, 1) := by decide +kernel
theorem dX4_coming_99 : decode cX4_coming 99 = .ok (.getfield 9, 3) := by decide +kernel
theorem dX4_coming_102 : decode cX4_coming 102 = .ok (.bipush 30, 2) := by decide +kernel
theorem dX4_coming_104 : decode cX4_coming 104 = .ok (.iload_n 2, 1) := by decide +kernel
theorem dX4_coming_105 : decode cX4_coming 105 = .ok (.invokevirtual 36, 3) := by decide +kernel
theorem dX4_coming_108 : decode cX4_coming 108 = .ok (.aload_n 0, 1) := by decide +kernel
theorem dX4_coming_109 : decode cX4_coming 109 = .ok (.iload_n 2, 1) := by decide +kernel
theorem dX4_coming_110 : decode cX4_coming 110 = .ok (.invokevirtual 82, 3) := by decide +kernel
theorem dX4_coming_113 : decode cX4_coming 113 = .ok (.goto 33, 3) := by decide +kernel
theorem dX4_coming_116 : decode cX4_coming 116 = .ok (.iload 4, 2) := by decide +kernel
theorem dX4_coming_118 : decode cX4_coming 118 = .ok (.ifCond .eq 12, 3) := by decide +kernel
theorem dX4_coming_121 : decode cX4_coming 121 = .ok (.aload_n 0, 1) := by decide +kernel
theorem dX4_coming_122 : decode cX4_coming 122 = .ok (.iload_n 2, 1) := by decide +kernel
theorem dX4_coming_123 : decode cX4_coming 123 = .ok (.iload_n 1, 1) := by decide +kernel
theorem dX4_coming_124 : decode cX4_coming 124 = .ok (.invokevirtual 51, 3) := by decide +kernel
theorem dX4_coming_127 : decode cX4_coming 127 = .ok (.goto 14, 3) := by decide +kernel
theorem dX4_coming_130 : decode cX4_coming 130 = .ok (.aload_n 0, 1) := by decide +kernel
theorem dX4_coming_131 : decode cX4_coming 131 = .ok (.getfield 9, 3) := by decide +kernel
theorem dX4_coming_134 : decode cX4_coming 134 = .ok (.iload_n 2, 1) := by decide +kernel
theorem dX4_coming_135 : decode cX4_coming 135 = .ok (.bipush 86, 2) := by decide +kernel
theorem dX4_coming_137 : decode cX4_coming 137 = .ok (.iload_n 2, 1) := by decide +kernel
theorem dX4_coming_138 : decode cX4_coming 138 = .ok (.invokevirtual 28, 3) := by decide +kernel
theorem dX4_coming_141 : decode cX4_coming 141 = .ok (.aload_n 0, 1) := by decide +kernel
theorem dX4_coming_142 : decode cX4_coming 142 = .ok (.iload_n 2, 1) := by decide +kernel
theorem dX4_coming_143 : decode cX4_coming 143 = .ok (.invokevirtual 54, 3) := by decide +kernel
theorem dX4_coming_146 : decode cX4_coming 146 = .ok (.return_, 1) := by decide +kernel
theorem dX4_stillToCome_0 : decode cX4_stillToCome 0 = .ok (.aload_n 0, 1) := by decide +kernel
theorem dX4_stillToCome_1 : decode cX4_stillToCome 1 = .ok (.getfield 9, 3) := by decide +kernel
theorem dX4_stillToCome_4 : decode cX4_stillToCome 4 = .ok (.iload_n 1, 1) := by decide +kernel
theorem dX4_stillToCome_5 : decode cX4_stillToCome 5 = .ok (.iconst 0, 1) := by decide +kernel
theorem dX4_stillToCome_6 : decode cX4_stillToCome 6 = .ok (.invokevirtual 85, 3) := by decide +kernel
theorem dX4_stillToCome_9 : decode cX4_stillToCome 9 = .ok (.iconst 1, 1) := by decide +kernel
theorem dX4_stillToCome_10 : decode cX4_stillToCome 10 = .ok (.if_icmp .ne 7, 3) := by decide +kernel
theorem dX4_stillToCome_13 : decode cX4_stillToCome 13 = .ok (.iconst 1, 1) := by decide +kernel
theorem dX4_stillToCome_14 : decode cX4_stillToCome 14 = .ok (.goto 4, 3) := by decide +kernel
theorem dX4_stillToCome_17 : decode cX4_stillToCome 17 = .ok (.iconst 0, 1) := by decide +kernel
theorem dX4_stillToCome_18 : decode cX4_stillToCome 18 = .ok (.istore_n 2, 1) := by decide +kernel
theorem dX4_stillToCome_19 : decode cX4_stillToCome 19 = .ok (.iload_n 2, 1) := by decide +kernel
theorem dX4_stillToCome_20 : decode cX4_stillToCome 20 = .ok (.ifCond .eq 29, 3) := by decide +kernel
theorem dX4_stillToCome_23 : decode cX4_stillToCome 23 = .ok (.aload_n 0, 1) := by decide +kernel
theorem dX4_stillToCome_24 : decode cX4_stillToCome 24 = .ok (.getfield 9, 3) := by decide +kernel
theorem dX4_stillToCome_27 : decode cX4_stillToCome 27 = .ok (.getfield 88, 3) := by decide +kernel
theorem dX4_stillToCome_30 : decode cX4_stillToCome 30 = .ok (.iconst 1, 1) := by decide +kernel
theorem dX4_stillToCome_31 : decode cX4_stillToCome 31 = .ok (.isub, 1) := by decide +kernel
theorem dX4_stillToCome_32 : decode cX4_stillToCome 32 = .ok (.aload_n 0, 1) := by decide +kernel
theorem dX4_stillToCome_33 : decode cX4_stillToCome 33 = .ok (.getfield 9, 3) := by decide +kernel
theorem dX4_stillToCome_36 : decode cX4_stillToCome 36 = .ok (.iload_n 1, 1) := by decide +kernel
theorem dX4_stillToCome_37 : decode cX4_stillToCome 37 = .ok (.bipush 18, 2) := by decide +kernel
theorem dX4_stillToCome_39 : decode cX4_stillToCome 39 = .ok (.invokevirtual 85, 3) := by decide +kernel
theorem dX4_stillToCome_42 : decode cX4_stillToCome 42 = .ok (.invokestatic 91, 3) := by decide +kernel
theorem dX4_stillToCome_45 : decode cX4_stillToCome 45 = .ok (.isub, 1) := by decide +kernel
theorem dX4_stillToCome_46 : decode cX4_stillToCome 46 = .ok (.goto 4, 3) := by decide +kernel
theorem dX4_stillToCome_49 : decode cX4_stillToCome 49 = .ok (.iconst 0, 1) := by decide +kernel
theorem dX4_stillToCome_50 : decode cX4_stillToCome 50 = .ok (.ireturn, 1) := by decide +kernel
theorem dX4_enter_0 : decode cX4_enter 0 = .ok (.aload_n 0, 1) := by decide +kernel
theorem dX4_enter_1 : decode cX4_enter 1 = .ok (.getfield 9, 3) := by decide +kernel
theorem dX4_enter_4 : decode cX4_enter 4 = .ok (.iload_n 1, 1) := by decide +kernel
theorem dX4_enter_5 : decode cX4_enter 5 = .ok (.iconst 0, 1) := by decide +kernel
theorem dX4_enter_6 : decode cX4_enter 6 = .ok (.iconst 2, 1) := by decide +kernel
theorem dX4_enter_7 : decode cX4_enter 7 = .ok (.invokevirtual 28, 3) := by decide +kernel
theorem dX4_enter_10 : decode cX4_enter 10 = .ok (.aload_n 0, 1) := by decide +kernel
theorem dX4_enter_11 : decode cX4_enter 11 = .ok (.getfield 19, 3) := by decide +kernel
theorem dX4_enter_14 : decode cX4_enter 14 = .ok (.ifCond .eq 57, 3) := by decide +kernel
theorem dX4_enter_17 : decode cX4_enter 17 = .ok (.aload_n 0, 1) := by decide +kernel
theorem dX4_enter_18 : decode cX4_enter 18 = .ok (.getfield 9, 3) := by decide +kernel
theorem dX4_enter_21 : decode cX4_enter 21 = .ok (.sipush 611, 3) := by decide +kernel
theorem dX4_enter_24 : decode cX4_enter 24 = .ok (.invokevirtual 32, 3) := by decide +kernel
theorem dX4_enter_27 : decode cX4_enter 27 = .ok (.istore_n 2, 1) := by decide +kernel
theorem dX4_enter_28 : decode cX4_enter 28 = .ok (.aload_n 0, 1) := by decide +kernel
theorem dX4_enter_29 : decode cX4_enter 29 = .ok (.getfield 15, 3) := by decide +kernel
theorem dX4_enter_32 : decode cX4_enter 32 = .ok (.iload_n 2, 1) := by decide +kernel
theorem dX4_enter_33 : decode cX4_enter 33 = .ok (.iload_n 1, 1) := by decide +kernel
theorem dX4_enter_34 : decode cX4_enter 34 = .ok (.iload_n 2, 1) := by decide +kernel
theorem dX4_enter_35 : decode cX4_enter 35 = .ok (.aload_n 0, 1) := by decide +kernel
theorem dX4_enter_36 : decode cX4_enter 36 = .ok (.getfield 9, 3) := by decide +kernel
theorem dX4_enter_39 : decode cX4_enter 39 = .ok (.sipush 612, 3) := by decide +kernel
theorem dX4_enter_42 : decode cX4_enter 42 = .ok (.iload_n 1, 1) := by decide +kernel
theorem dX4_enter_43 : decode cX4_enter 43 = .ok (.iadd, 1) := by decide +kernel
theorem dX4_enter_44 : decode cX4_enter 44 = .ok (.invokevirtual 32, 3) := by decide +kernel
theorem dX4_enter_47 : decode cX4_enter 47 = .ok (.isub, 1) := by decide +kernel
theorem dX4_enter_48 : decode cX4_enter 48 = .ok (.aload_n 0, 1) := by decide +kernel
theorem dX4_enter_49 : decode cX4_enter 49 = .ok (.getfield 9, 3) := by decide +kernel
theorem dX4_enter_52 : decode cX4_enter 52 = .ok (.invokevirtual 96, 3) := by decide +kernel
theorem dX4_enter_55 : decode cX4_enter 55 = .ok (.invokevirtual 100, 3) := by decide +kernel
theorem dX4_enter_58 : decode cX4_enter 58 = .ok (.aload_n 0, 1) := by decide +kernel
theorem dX4_enter_59 : decode cX4_enter 59 = .ok (.getfield 9, 3) := by decide +kernel
theorem dX4_enter_62 : decode cX4_enter 62 = .ok (.sipush 611, 3) := by decide +kernel
theorem dX4_enter_65 : decode cX4_enter 65 = .ok (.iload_n 2, 1) := by decide +kernel
theorem dX4_enter_66 : decode cX4_enter 66 = .ok (.iconst 1, 1) := by decide +kernel
theorem dX4_enter_67 : decode cX4_enter 67 = .ok (.iadd, 1) := by decide +kernel
theorem dX4_enter_68 : decode cX4_enter 68 = .ok (.invokevirtual 36, 3) := by decide +kernel
theorem dX4_enter_71 : decode cX4_enter 71 = .ok (.return_, 1) := by decide +kernel
theorem dX4_wantedByAsking_0 : decode cX4_wantedByAsking 0 = .ok (.aload_n 0, 1) := by decide +kernel
theorem dX4_wantedByAsking_1 : decode cX4_wantedByAsking 1 = .ok (.getfield 9, 3) := by decide +kernel
theorem dX4_wantedByAsking_4 : decode cX4_wantedByAsking 4 = .ok (.iload_n 1, 1) := by decide +kernel
theorem dX4_wantedByAsking_5 : decode cX4_wantedByAsking 5 = .ok (.bipush 6, 2) := by decide +kernel
theorem dX4_wantedByAsking_7 : decode cX4_wantedByAsking 7 = .ok (.invokevirtual 85, 3) := by decide +kernel
theorem dX4_wantedByAsking_10 : decode cX4_wantedByAsking 10 = .ok (.iconst 1, 1) := by decide +kernel
theorem dX4_wantedByAsking_11 : decode cX4_wantedByAsking 11 = .ok (.iadd, 1) := by decide +kernel
theorem dX4_wantedByAsking_12 : decode cX4_wantedByAsking 12 = .ok (.istore_n 2, 1) := by decide +kernel
theorem dX4_wantedByAsking_13 : decode cX4_wantedByAsking 13 = .ok (.aload_n 0, 1) := by decide +kernel
theorem dX4_wantedByAsking_14 : decode cX4_wantedByAsking 14 = .ok (.getfield 9, 3) := by decide +kernel
theorem dX4_wantedByAsking_17 : decode cX4_wantedByAsking 17 = .ok (.iload_n 1, 1) := by decide +kernel
theorem dX4_wantedByAsking_18 : decode cX4_wantedByAsking 18 = .ok (.bipush 6, 2) := by decide +kernel
theorem dX4_wantedByAsking_20 : decode cX4_wantedByAsking 20 = .ok (.iload_n 2, 1) := by decide +kernel
theorem dX4_wantedByAsking_21 : decode cX4_wantedByAsking 21 = .ok (.invokevirtual 28, 3) := by decide +kernel
theorem dX4_wantedByAsking_24 : decode cX4_wantedByAsking 24 = .ok (.aload_n 0, 1) := by decide +kernel
theorem dX4_wantedByAsking_25 : decode cX4_wantedByAsking 25 = .ok (.getfield 9, 3) := by decide +kernel
theorem dX4_wantedByAsking_28 : decode cX4_wantedByAsking 28 = .ok (.iload_n 1, 1) := by decide +kernel
theorem dX4_wantedByAsking_29 : decode cX4_wantedByAsking 29 = .ok (.bipush 12, 2) := by decide +kernel
theorem dX4_wantedByAsking_31 : decode cX4_wantedByAsking 31 = .ok (.iload_n 2, 1) := by decide +kernel
theorem dX4_wantedByAsking_32 : decode cX4_wantedByAsking 32 = .ok (.invokevirtual 28, 3) := by decide +kernel
theorem dX4_wantedByAsking_35 : decode cX4_wantedByAsking 35 = .ok (.aload_n 0, 1) := by decide +kernel
theorem dX4_wantedByAsking_36 : decode cX4_wantedByAsking 36 = .ok (.getfield 9, 3) := by decide +kernel
theorem dX4_wantedByAsking_39 : decode cX4_wantedByAsking 39 = .ok (.iload_n 1, 1) := by decide +kernel
theorem dX4_wantedByAsking_40 : decode cX4_wantedByAsking 40 = .ok (.bipush 18, 2) := by decide +kernel
theorem dX4_wantedByAsking_42 : decode cX4_wantedByAsking 42 = .ok (.iconst 0, 1) := by decide +kernel
theorem dX4_wantedByAsking_43 : decode cX4_wantedByAsking 43 = .ok (.invokevirtual 28, 3) := by decide +kernel
theorem dX4_wantedByAsking_46 : decode cX4_wantedByAsking 46 = .ok (.aload_n 0, 1) := by decide +kernel
theorem dX4_wantedByAsking_47 : decode cX4_wantedByAsking 47 = .ok (.getfield 9, 3) := by decide +kernel
theorem dX4_wantedByAsking_50 : decode cX4_wantedByAsking 50 = .ok (.iload_n 1, 1) := by decide +kernel
theorem dX4_wantedByAsking_51 : decode cX4_wantedByAsking 51 = .ok (.iconst 0, 1) := by decide +kernel
theorem dX4_wantedByAsking_52 : decode cX4_wantedByAsking 52 = .ok (.iload_n 2, 1) := by decide +kernel
theorem dX4_wantedByAsking_53 : decode cX4_wantedByAsking 53 = .ok (.invokevirtual 106, 3) := by decide +kernel
theorem dX4_wantedByAsking_56 : decode cX4_wantedByAsking 56 = .ok (.return_, 1) := by decide +kernel
theorem dX4_askedByAsking_0 : decode cX4_askedByAsking 0 = .ok (.aload_n 0, 1) := by decide +kernel
theorem dX4_askedByAsking_1 : decode cX4_askedByAsking 1 = .ok (.getfield 9, 3) := by decide +kernel
theorem dX4_askedByAsking_4 : decode cX4_askedByAsking 4 = .ok (.iload_n 1, 1) := by decide +kernel
theorem dX4_askedByAsking_5 : decode cX4_askedByAsking 5 = .ok (.bipush 6, 2) := by decide +kernel
theorem dX4_askedByAsking_7 : decode cX4_askedByAsking 7 = .ok (.aload_n 0, 1) := by decide +kernel
theorem dX4_askedByAsking_8 : decode cX4_askedByAsking 8 = .ok (.getfield 9, 3) := by decide +kernel
theorem dX4_askedByAsking_11 : decode cX4_askedByAsking 11 = .ok (.iload_n 1, 1) := by decide +kernel
theorem dX4_askedByAsking_12 : decode cX4_askedByAsking 12 = .ok (.bipush 6, 2) := by decide +kernel
theorem dX4_askedByAsking_14 : decode cX4_askedByAsking 14 = .ok (.invokevirtual 85, 3) := by decide +kernel
theorem dX4_askedByAsking_17 : decode cX4_askedByAsking 17 = .ok (.iload_n 3, 1) := by decide +kernel
theorem dX4_askedByAsking_18 : decode cX4_askedByAsking 18 = .ok (.invokestatic 109, 3) := by decide +kernel
theorem dX4_askedByAsking_21 : decode cX4_askedByAsking 21 = .ok (.iconst 1, 1) := by decide +kernel
theorem dX4_askedByAsking_22 : decode cX4_askedByAsking 22 = .ok (.iadd, 1) := by decide +kernel
theorem dX4_askedByAsking_23 : decode cX4_askedByAsking 23 = .ok (.invokevirtual 28, 3) := by decide +kernel
theorem dX4_askedByAsking_26 : decode cX4_askedByAsking 26 = .ok (.aload_n 0, 1) := by decide +kernel
theorem dX4_askedByAsking_27 : decode cX4_askedByAsking 27 = .ok (.iload_n 1, 1) := by decide +kernel
theorem dX4_askedByAsking_28 : decode cX4_askedByAsking 28 = .ok (.iload_n 2, 1) := by decide +kernel
theorem dX4_askedByAsking_29 : decode cX4_askedByAsking 29 = .ok (.iload_n 3, 1) := by decide +kernel
theorem dX4_askedByAsking_30 : decode cX4_askedByAsking 30 = .ok (.invokevirtual 114, 3) := by decide +kernel
theorem dX4_askedByAsking_33 : decode cX4_askedByAsking 33 = .ok (.ifCond .eq 30, 3) := by decide +kernel
theorem dX4_askedByAsking_36 : decode cX4_askedByAsking 36 = .ok (.aload_n 0, 1) := by decide +kernel
theorem dX4_askedByAsking_37 : decode cX4_askedByAsking 37 = .ok (.getfield 9, 3) := by decide +kernel
theorem dX4_askedByAsking_40 : decode cX4_askedByAsking 40 = .ok (.iload_n 1, 1) := by decide +kernel
theorem dX4_askedByAsking_41 : decode cX4_askedByAsking 41 = .ok (.bipush 24, 2) := by decide +kernel
theorem dX4_askedByAsking_43 : decode cX4_askedByAsking 43 = .ok (.aload_n 0, 1) := by decide +kernel
theorem dX4_askedByAsking_44 : decode cX4_askedByAsking 44 = .ok (.getfield 9, 3) := by decide +kernel
theorem dX4_askedByAsking_47 : decode cX4_askedByAsking 47 = .ok (.iload_n 1, 1) := by decide +kernel
theorem dX4_askedByAsking_48 : decode cX4_askedByAsking 48 = .ok (.bipush 24, 2) := by decide +kernel
theorem dX4_askedByAsking_50 : decode cX4_askedByAsking 50 = .ok (.invokevirtual 85, 3) := by decide +kernel
theorem dX4_askedByAsking_53 : decode cX4_askedByAsking 53 = .ok (.iconst 1, 1) := by decide +kernel
theorem dX4_askedByAsking_54 : decode cX4_askedByAsking 54 = .ok (.iload_n 2, 1) := by decide +kernel
theorem dX4_askedByAsking_55 : decode cX4_askedByAsking 55 = .ok (.ishl, 1) := by decide +kernel
theorem dX4_askedByAsking_56 : decode cX4_askedByAsking 56 = .ok (.ior, 1) := by decide +kernel
theorem dX4_askedByAsking_57 : decode cX4_askedByAsking 57 = .ok (.invokevirtual 28, 3) := by decide +kernel
theorem dX4_askedByAsking_60 : decode cX4_askedByAsking 60 = .ok (.goto 14, 3) := by decide +kernel
theorem dX4_askedByAsking_63 : decode cX4_askedByAsking 63 = .ok (.aload_n 0, 1) := by decide +kernel
theorem dX4_askedByAsking_64 : decode cX4_askedByAsking 64 = .ok (.getfield 9, 3) := by decide +kernel
theorem dX4_askedByAsking_67 : decode cX4_askedByAsking 67 = .ok (.iload_n 1, 1) := by decide +kernel
theorem dX4_askedByAsking_68 : decode cX4_askedByAsking 68 = .ok (.iload_n 2, 1) := by decide +kernel
theorem dX4_askedByAsking_69 : decode cX4_askedByAsking 69 = .ok (.iconst 1, 1) := by decide +kernel
theorem dX4_askedByAsking_70 : decode cX4_askedByAsking 70 = .ok (.iconst 0, 1) := by decide +kernel
theorem dX4_askedByAsking_71 : decode cX4_askedByAsking 71 = .ok (.invokevirtual 118, 3) := by decide +kernel
theorem dX4_askedByAsking_74 : decode cX4_askedByAsking 74 = .ok (.return_, 1) := by decide +kernel
theorem dX4_goesBefore_0 : decode cX4_goesBefore 0 = .ok (.aload_n 0, 1) := by decide +kernel
theorem dX4_goesBefore_1 : decode cX4_goesBefore 1 = .ok (.getfield 9, 3) := by decide +kernel
theorem dX4_goesBefore_4 : decode cX4_goesBefore 4 = .ok (.iload_n 1, 1) := by decide +kernel
theorem dX4_goesBefore_5 : decode cX4_goesBefore 5 = .ok (.iconst 0, 1) := by decide +kernel
theorem dX4_goesBefore_6 : decode cX4_goesBefore 6 = .ok (.invokevirtual 85, 3) := by decide +kernel
theorem dX4_goesBefore_9 : decode cX4_goesBefore 9 = .ok (.istore 4, 2) := by decide +kernel
theorem dX4_goesBefore_11 : decode cX4_goesBefore 11 = .ok (.aload_n 0, 1) := by decide +kernel
theorem dX4_goesBefore_12 : decode cX4_goesBefore 12 = .ok (.getfield 9, 3) := by decide +kernel
theorem dX4_goesBefore_15 : decode cX4_goesBefore 15 = .ok (.iload_n 1, 1) := by decide +kernel
theorem dX4_goesBefore_16 : decode cX4_goesBefore 16 = .ok (.bipush 12, 2) := by decide +kernel
theorem dX4_goesBefore_18 : decode cX4_goesBefore 18 = .ok (.invokevirtual 85, 3) := by decide +kernel
theorem dX4_goesBefore_21 : decode cX4_goesBefore 21 = .ok (.istore 5, 2) := by decide +kernel
theorem dX4_goesBefore_23 : decode cX4_goesBefore 23 = .ok (.iload 4, 2) := by decide +kernel
theorem dX4_goesBefore_25 : decode cX4_goesBefore 25 = .ok (.iconst 2, 1) := by decide +kernel
theorem dX4_goesBefore_26 : decode cX4_goesBefore 26 = .ok (.if_icmp .eq 26, 3) := by decide +kernel
theorem dX4_goesBefore_29 : decode cX4_goesBefore 29 = .ok (.iload 4, 2) := by decide +kernel
theorem dX4_goesBefore_31 : decode cX4_goesBefore 31 = .ok (.iconst 1, 1) := by decide +kernel
theorem dX4_goesBefore_32 : decode cX4_goesBefore 32 = .ok (.if_icmp .ne 24, 3) := by decide +kernel
theorem dX4_goesBefore_35 : decode cX4_goesBefore 35 = .ok (.iload 5, 2) := by decide +kernel
theorem dX4_goesBefore_37 : decode cX4_goesBefore 37 = .ok (.iload_n 3, 1) := by decide +kernel
theorem dX4_goesBefore_38 : decode cX4_goesBefore 38 = .ok (.if_icmp .lt 14, 3) := by decide +kernel
theorem dX4_goesBefore_41 : decode cX4_goesBefore 41 = .ok (.iload 5, 2) := by decide +kernel
theorem dX4_goesBefore_43 : decode cX4_goesBefore 43 = .ok (.iload_n 3, 1) := by decide +kernel
theorem dX4_goesBefore_44 : decode cX4_goesBefore 44 = .ok (.if_icmp .ne 12, 3) := by decide +kernel
theorem dX4_goesBefore_47 : decode cX4_goesBefore 47 = .ok (.iload_n 1, 1) := by decide +kernel
theorem dX4_goesBefore_48 : decode cX4_goesBefore 48 = .ok (.iload_n 2, 1) := by decide +kernel
theorem dX4_goesBefore_49 : decode cX4_goesBefore 49 = .ok (.if_icmp .ge 7, 3) := by decide +kernel
theorem dX4_goesBefore_52 : decode cX4_goesBefore 52 = .ok (.iconst 1, 1) := by decide +kernel
theorem dX4_goesBefore_53 : decode cX4_goesBefore 53 = .ok (.goto 4, 3) := by decide +kernel
theorem dX4_goesBefore_56 : decode cX4_goesBefore 56 = .ok (.iconst 0, 1) := by decide +kernel
theorem dX4_goesBefore_57 : decode cX4_goesBefore 57 = .ok (.ireturn, 1) := by decide +kernel
theorem dX4_given_0 : decode cX4_given 0 = .ok (.aload_n 0, 1) := by decide +kernel
theorem dX4_given_1 : decode cX4_given 1 = .ok (.getfield 9, 3) := by decide +kernel
theorem dX4_given_4 : decode cX4_given 4 = .ok (.iload_n 1, 1) := by decide +kernel
theorem dX4_given_5 : decode cX4_given 5 = .ok (.bipush 18, 2) := by decide +kernel
theorem dX4_given_7 : decode cX4_given 7 = .ok (.aload_n 0, 1) := by decide +kernel
theorem dX4_given_8 : decode cX4_given 8 = .ok (.getfield 9, 3) := by decide +kernel
theorem dX4_given_11 : decode cX4_given 11 = .ok (.iload_n 1, 1) := by decide +kernel
theorem dX4_given_12 : decode cX4_given 12 = .ok (.bipush 18, 2) := by decide +kernel
theorem dX4_given_14 : decode cX4_given 14 = .ok (.invokevirtual 85, 3) := by decide +kernel
theorem dX4_given_17 : decode cX4_given 17 = .ok (.iconst 1, 1) := by decide +kernel
theorem dX4_given_18 : decode cX4_given 18 = .ok (.iload_n 2, 1) := by decide +kernel
theorem dX4_given_19 : decode cX4_given 19 = .ok (.ishl, 1) := by decide +kernel
theorem dX4_given_20 : decode cX4_given 20 = .ok (.ior, 1) := by decide +kernel
theorem dX4_given_21 : decode cX4_given 21 = .ok (.invokevirtual 28, 3) := by decide +kernel
theorem dX4_given_24 : decode cX4_given 24 = .ok (.aload_n 0, 1) := by decide +kernel
theorem dX4_given_25 : decode cX4_given 25 = .ok (.getfield 9, 3) := by decide +kernel
theorem dX4_given_28 : decode cX4_given 28 = .ok (.iload_n 1, 1) := by decide +kernel
theorem dX4_given_29 : decode cX4_given 29 = .ok (.iconst 0, 1) := by decide +kernel
theorem dX4_given_30 : decode cX4_given 30 = .ok (.invokevirtual 85, 3) := by decide +kernel
theorem dX4_given_33 : decode cX4_given 33 = .ok (.iconst 1, 1) := by decide +kernel
theorem dX4_given_34 : decode cX4_given 34 = .ok (.if_icmp .ne 16, 3) := by decide +kernel
theorem dX4_given_37 : decode cX4_given 37 = .ok (.aload_n 0, 1) := by decide +kernel
theorem dX4_given_38 : decode cX4_given 38 = .ok (.iload_n 1, 1) := by decide +kernel
theorem dX4_given_39 : decode cX4_given 39 = .ok (.invokevirtual 121, 3) := by decide +kernel
theorem dX4_given_42 : decode cX4_given 42 = .ok (.ifCond .ne 8, 3) := by decide +kernel
theorem dX4_given_45 : decode cX4_given 45 = .ok (.aload_n 0, 1) := by decide +kernel
theorem dX4_given_46 : decode cX4_given 46 = .ok (.iload_n 1, 1) := by decide +kernel
theorem dX4_given_47 : decode cX4_given 47 = .ok (.invokevirtual 82, 3) := by decide +kernel
theorem dX4_given_50 : decode cX4_given 50 = .ok (.return_, 1) := by decide +kernel
theorem dX4_leftByAsking_0 : decode cX4_leftByAsking 0 = .ok (.aload_n 0, 1) := by decide +kernel
theorem dX4_leftByAsking_1 : decode cX4_leftByAsking 1 = .ok (.getfield 9, 3) := by decide +kernel
theorem dX4_leftByAsking_4 : decode cX4_leftByAsking 4 = .ok (.iload_n 1, 1) := by decide +kernel
theorem dX4_leftByAsking_5 : decode cX4_leftByAsking 5 = .ok (.bipush 24, 2) := by decide +kernel
theorem dX4_leftByAsking_7 : decode cX4_leftByAsking 7 = .ok (.invokevirtual 85, 3) := by decide +kernel
theorem dX4_leftByAsking_10 : decode cX4_leftByAsking 10 = .ok (.istore_n 2, 1) := by decide +kernel
theorem dX4_leftByAsking_11 : decode cX4_leftByAsking 11 = .ok (.iconst 0, 1) := by decide +kernel
theorem dX4_leftByAsking_12 : decode cX4_leftByAsking 12 = .ok (.istore_n 3, 1) := by decide +kernel
theorem dX4_leftByAsking_13 : decode cX4_leftByAsking 13 = .ok (.iload_n 3, 1) := by decide +kernel
theorem dX4_leftByAsking_14 : decode cX4_leftByAsking 14 = .ok (.aload_n 0, 1) := by decide +kernel
theorem dX4_leftByAsking_15 : decode cX4_leftByAsking 15 = .ok (.getfield 9, 3) := by decide +kernel
theorem dX4_leftByAsking_18 : decode cX4_leftByAsking 18 = .ok (.getfield 88, 3) := by decide +kernel
theorem dX4_leftByAsking_21 : decode cX4_leftByAsking 21 = .ok (.if_icmp .ge 28, 3) := by decide +kernel
theorem dX4_leftByAsking_24 : decode cX4_leftByAsking 24 = .ok (.iload_n 2, 1) := by decide +kernel
theorem dX4_leftByAsking_25 : decode cX4_leftByAsking 25 = .ok (.iload_n 3, 1) := by decide +kernel
theorem dX4_leftByAsking_26 : decode cX4_leftByAsking 26 = .ok (.ishr, 1) := by decide +kernel
theorem dX4_leftByAsking_27 : decode cX4_leftByAsking 27 = .ok (.iconst 1, 1) := by decide +kernel
theorem dX4_leftByAsking_28 : decode cX4_leftByAsking 28 = .ok (.iand, 1) := by decide +kernel
theorem dX4_leftByAsking_29 : decode cX4_leftByAsking 29 = .ok (.ifCond .eq 14, 3) := by decide +kernel
theorem dX4_leftByAsking_32 : decode cX4_leftByAsking 32 = .ok (.aload_n 0, 1) := by decide +kernel
theorem dX4_leftByAsking_33 : decode cX4_leftByAsking 33 = .ok (.getfield 9, 3) := by decide +kernel
theorem dX4_leftByAsking_36 : decode cX4_leftByAsking 36 = .ok (.iload_n 1, 1) := by decide +kernel
theorem dX4_leftByAsking_37 : decode cX4_leftByAsking 37 = .ok (.iload_n 3, 1) := by decide +kernel
theorem dX4_leftByAsking_38 : decode cX4_leftByAsking 38 = .ok (.iconst 1, 1) := by decide +kernel
theorem dX4_leftByAsking_39 : decode cX4_leftByAsking 39 = .ok (.iconst 0, 1) := by decide +kernel
theorem dX4_leftByAsking_40 : decode cX4_leftByAsking 40 = .ok (.invokevirtual 118, 3) := by decide +kernel
theorem dX4_leftByAsking_43 : decode cX4_leftByAsking 43 = .ok (.iinc 3 1, 3) := by decide +kernel
theorem dX4_leftByAsking_46 : decode cX4_leftByAsking 46 = .ok (.goto (-33), 3) := by decide +kernel
theorem dX4_leftByAsking_49 : decode cX4_leftByAsking 49 = .ok (.aload_n 0, 1) := by decide +kernel
theorem dX4_leftByAsking_50 : decode cX4_leftByAsking 50 = .ok (.getfield 9, 3) := by decide +kernel
theorem dX4_leftByAsking_53 : decode cX4_leftByAsking 53 = .ok (.iload_n 1, 1) := by decide +kernel
theorem dX4_leftByAsking_54 : decode cX4_leftByAsking 54 = .ok (.bipush 24, 2) := by decide +kernel
theorem dX4_leftByAsking_56 : decode cX4_leftByAsking 56 = .ok (.iconst 0, 1) := by decide +kernel
theorem dX4_leftByAsking_57 : decode cX4_leftByAsking 57 = .ok (.invokevirtual 28, 3) := by decide +kernel
theorem dX4_leftByAsking_60 : decode cX4_leftByAsking 60 = .ok (.return_, 1) := by decide +kernel
theorem dX4_wantedByToken_0 : decode cX4_wantedByToken 0 = .ok (.aload_n 0, 1) := by decide +kernel
theorem dX4_wantedByToken_1 : decode cX4_wantedByToken 1 = .ok (.getfield 9, 3) := by decide +kernel
theorem dX4_wantedByToken_4 : decode cX4_wantedByToken 4 = .ok (.iload_n 1, 1) := by decide +kernel
theorem dX4_wantedByToken_5 : decode cX4_wantedByToken 5 = .ok (.invokevirtual 124, 3) := by decide +kernel
theorem dX4_wantedByToken_8 : decode cX4_wantedByToken 8 = .ok (.ifCond .eq 9, 3) := by decide +kernel
theorem dX4_wantedByToken_11 : decode cX4_wantedByToken 11 = .ok (.aload_n 0, 1) := by decide +kernel
theorem dX4_wantedByToken_12 : decode cX4_wantedByToken 12 = .ok (.iload_n 1, 1) := by decide +kernel
theorem dX4_wantedByToken_13 : decode cX4_wantedByToken 13 = .ok (.invokevirtual 82, 3) := by decide +kernel
theorem dX4_wantedByToken_16 : decode cX4_wantedByToken 16 = .ok (.return_, 1) := by decide +kernel
theorem dX4_wantedByToken_17 : decode cX4_wantedByToken 17 = .ok (.aload_n 0, 1) := by decide +kernel
theorem dX4_wantedByToken_18 : decode cX4_wantedByToken 18 = .ok (.getfield 9, 3) := by decide +kernel
theorem dX4_wantedByToken_21 : decode cX4_wantedByToken 21 = .ok (.iload_n 1, 1) := by decide +kernel
theorem dX4_wantedByToken_22 : decode cX4_wantedByToken 22 = .ok (.iload_n 1, 1) := by decide +kernel
theorem dX4_wantedByToken_23 : decode cX4_wantedByToken 23 = .ok (.invokevirtual 128, 3) := by decide +kernel
theorem dX4_wantedByToken_26 : decode cX4_wantedByToken 26 = .ok (.iconst 1, 1) := by decide +kernel
theorem dX4_wantedByToken_27 : decode cX4_wantedByToken 27 = .ok (.iadd, 1) := by decide +kernel
theorem dX4_wantedByToken_28 : decode cX4_wantedByToken 28 = .ok (.istore_n 2, 1) := by decide +kernel
theorem dX4_wantedByToken_29 : decode cX4_wantedByToken 29 = .ok (.aload_n 0, 1) := by decide +kernel
theorem dX4_wantedByToken_30 : decode cX4_wantedByToken 30 = .ok (.getfield 9, 3) := by decide +kernel
theorem dX4_wantedByToken_33 : decode cX4_wantedByToken 33 = .ok (.iload_n 1, 1) := by decide +kernel
theorem dX4_wantedByToken_34 : decode cX4_wantedByToken 34 = .ok (.iload_n 1, 1) := by decide +kernel
theorem dX4_wantedByToken_35 : decode cX4_wantedByToken 35 = .ok (.iload_n 2, 1) := by decide +kernel
theorem dX4_wantedByToken_36 : decode cX4_wantedByToken 36 = .ok (.invokevirtual 131, 3) := by decide +kernel
theorem dX4_wantedByToken_39 : decode cX4_wantedByToken 39 = .ok (.aload_n 0, 1) := by decide +kernel
theorem dX4_wantedByToken_40 : decode cX4_wantedByToken 40 = .ok (.getfield 9, 3) := by decide +kernel
theorem dX4_wantedByToken_43 : decode cX4_wantedByToken 43 = .ok (.iload_n 1, 1) := by decide +kernel
theorem dX4_wantedByToken_44 : decode cX4_wantedByToken 44 = .ok (.iconst 0, 1) := by decide +kernel
theorem dX4_wantedByToken_45 : decode cX4_wantedByToken 45 = .ok (.iload_n 2, 1) := by decide +kernel
theorem dX4_wantedByToken_46 : decode cX4_wantedByToken 46 = .ok (.invokevirtual 106, 3) := by decide +kernel
theorem dX4_wantedByToken_49 : decode cX4_wantedByToken 49 = .ok (.return_, 1) := by decide +kernel
theorem dX4_askedByToken_0 : decode cX4_askedByToken 0 = .ok (.aload_n 0, 1) := by decide +kernel
theorem dX4_askedByToken_1 : decode cX4_askedByToken 1 = .ok (.getfield 9, 3) := by decide +kernel
theorem dX4_askedByToken_4 : decode cX4_askedByToken 4 = .ok (.iload_n 1, 1) := by decide +kernel
theorem dX4_askedByToken_5 : decode cX4_askedByToken 5 = .ok (.iload_n 2, 1) := by decide +kernel
theorem dX4_askedByToken_6 : decode cX4_askedByToken 6 = .ok (.aload_n 0, 1) := by decide +kernel
theorem dX4_askedByToken_7 : decode cX4_askedByToken 7 = .ok (.getfield 9, 3) := by decide +kernel
theorem dX4_askedByToken_10 : decode cX4_askedByToken 10 = .ok (.iload_n 1, 1) := by decide +kernel
theorem dX4_askedByToken_11 : decode cX4_askedByToken 11 = .ok (.iload_n 2, 1) := by decide +kernel
theorem dX4_askedByToken_12 : decode cX4_askedByToken 12 = .ok (.invokevirtual 128, 3) := by decide +kernel
theorem dX4_askedByToken_15 : decode cX4_askedByToken 15 = .ok (.iload_n 3, 1) := by decide +kernel
theorem dX4_askedByToken_16 : decode cX4_askedByToken 16 = .ok (.invokestatic 109, 3) := by decide +kernel
theorem dX4_askedByToken_19 : decode cX4_askedByToken 19 = .ok (.invokevirtual 131, 3) := by decide +kernel
theorem dX4_askedByToken_22 : decode cX4_askedByToken 22 = .ok (.aload_n 0, 1) := by decide +kernel
theorem dX4_askedByToken_23 : decode cX4_askedByToken 23 = .ok (.getfield 9, 3) := by decide +kernel
theorem dX4_askedByToken_26 : decode cX4_askedByToken 26 = .ok (.iload_n 1, 1) := by decide +kernel
theorem dX4_askedByToken_27 : decode cX4_askedByToken 27 = .ok (.invokevirtual 124, 3) := by decide +kernel
theorem dX4_askedByToken_30 : decode cX4_askedByToken 30 = .ok (.ifCond .eq 30, 3) := by decide +kernel
theorem dX4_askedByToken_33 : decode cX4_askedByToken 33 = .ok (.aload_n 0, 1) := by decide +kernel
theorem dX4_askedByToken_34 : decode cX4_askedByToken 34 = .ok (.getfield 9, 3) := by decide +kernel
theorem dX4_askedByToken_37 : decode cX4_askedByToken 37 = .ok (.iload_n 1, 1) := by decide +kernel
theorem dX4_askedByToken_38 : decode cX4_askedByToken 38 = .ok (.iconst 0, 1) := by decide +kernel
theorem dX4_askedByToken_39 : decode cX4_askedByToken 39 = .ok (.invokevirtual 85, 3) := by decide +kernel
theorem dX4_askedByToken_42 : decode cX4_askedByToken 42 = .ok (.ifCond .ne 18, 3) := by decide +kernel
theorem dX4_askedByToken_45 : decode cX4_askedByToken 45 = .ok (.aload_n 0, 1) := by decide +kernel
theorem dX4_askedByToken_46 : decode cX4_askedByToken 46 = .ok (.iload_n 1, 1) := by decide +kernel
theorem dX4_askedByToken_47 : decode cX4_askedByToken 47 = .ok (.iload_n 2, 1) := by decide +kernel
theorem dX4_askedByToken_48 : decode cX4_askedByToken 48 = .ok (.invokevirtual 134, 3) := by decide +kernel
theorem dX4_askedByToken_51 : decode cX4_askedByToken 51 = .ok (.ifCond .eq 9, 3) := by decide +kernel
theorem dX4_askedByToken_54 : decode cX4_askedByToken 54 = .ok (.aload_n 0, 1) := by decide +kernel
theorem dX4_askedByToken_55 : decode cX4_askedByToken 55 = .ok (.iload_n 1, 1) := by decide +kernel
theorem dX4_askedByToken_56 : decode cX4_askedByToken 56 = .ok (.iload_n 2, 1) := by decide +kernel
theorem dX4_askedByToken_57 : decode cX4_askedByToken 57 = .ok (.invokevirtual 138, 3) := by decide +kernel
theorem dX4_askedByToken_60 : decode cX4_askedByToken 60 = .ok (.return_, 1) := by decide +kernel
theorem dX4_isDue_0 : decode cX4_isDue 0 = .ok (.aload_n 0, 1) := by decide +kernel
theorem dX4_isDue_1 : decode cX4_isDue 1 = .ok (.getfield 9, 3) := by decide +kernel
theorem dX4_isDue_4 : decode cX4_isDue 4 = .ok (.iload_n 1, 1) := by decide +kernel
theorem dX4_isDue_5 : decode cX4_isDue 5 = .ok (.iload_n 2, 1) := by decide +kernel
theorem dX4_isDue_6 : decode cX4_isDue 6 = .ok (.invokevirtual 128, 3) := by decide +kernel
theorem dX4_isDue_9 : decode cX4_isDue 9 = .ok (.aload_n 0, 1) := by decide +kernel
theorem dX4_isDue_10 : decode cX4_isDue 10 = .ok (.getfield 9, 3) := by decide +kernel
theorem dX4_isDue_13 : decode cX4_isDue 13 = .ok (.bipush 31, 2) := by decide +kernel
theorem dX4_isDue_15 : decode cX4_isDue 15 = .ok (.iload_n 2, 1) := by decide +kernel
theorem dX4_isDue_16 : decode cX4_isDue 16 = .ok (.iadd, 1) := by decide +kernel
theorem dX4_isDue_17 : decode cX4_isDue 17 = .ok (.invokevirtual 32, 3) := by decide +kernel
theorem dX4_isDue_20 : decode cX4_isDue 20 = .ok (.iconst 1, 1) := by decide +kernel
theorem dX4_isDue_21 : decode cX4_isDue 21 = .ok (.iadd, 1) := by decide +kernel
theorem dX4_isDue_22 : decode cX4_isDue 22 = .ok (.if_icmp .ne 7, 3) := by decide +kernel
theorem dX4_isDue_25 : decode cX4_isDue 25 = .ok (.iconst 1, 1) := by decide +kernel
theorem dX4_isDue_26 : decode cX4_isDue 26 = .ok (.goto 4, 3) := by decide +kernel
theorem dX4_isDue_29 : decode cX4_isDue 29 = .ok (.iconst 0, 1) := by decide +kernel
theorem dX4_isDue_30 : decode cX4_isDue 30 = .ok (.ireturn, 1) := by decide +kernel
theorem dX4_passToken_0 : decode cX4_passToken 0 = .ok (.aload_n 0, 1) := by decide +kernel
theorem dX4_passToken_1 : decode cX4_passToken 1 = .ok (.getfield 9, 3) := by decide +kernel
theorem dX4_passToken_4 : decode cX4_passToken 4 = .ok (.bipush 30, 2) := by decide +kernel
theorem dX4_passToken_6 : decode cX4_passToken 6 = .ok (.iconst (-1), 1) := by decide +kernel
theorem dX4_passToken_7 : decode cX4_passToken 7 = .ok (.invokevirtual 36, 3) := by decide +kernel
theorem dX4_passToken_10 : decode cX4_passToken 10 = .ok (.aload_n 0, 1) := by decide +kernel
theorem dX4_passToken_11 : decode cX4_passToken 11 = .ok (.getfield 9, 3) := by decide +kernel
theorem dX4_passToken_14 : decode cX4_passToken 14 = .ok (.iload_n 1, 1) := by decide +kernel
theorem dX4_passToken_15 : decode cX4_passToken 15 = .ok (.iload_n 2, 1) := by decide +kernel
theorem dX4_passToken_16 : decode cX4_passToken 16 = .ok (.iconst 2, 1) := by decide +kernel
theorem dX4_passToken_17 : decode cX4_passToken 17 = .ok (.iconst 0, 1) := by decide +kernel
theorem dX4_passToken_18 : decode cX4_passToken 18 = .ok (.invokevirtual 118, 3) := by decide +kernel
theorem dX4_passToken_21 : decode cX4_passToken 21 = .ok (.return_, 1) := by decide +kernel
theorem dX4_leftByToken_0 : decode cX4_leftByToken 0 = .ok (.aload_n 0, 1) := by decide +kernel
theorem dX4_leftByToken_1 : decode cX4_leftByToken 1 = .ok (.getfield 9, 3) := by decide +kernel
theorem dX4_leftByToken_4 : decode cX4_leftByToken 4 = .ok (.bipush 31, 2) := by decide +kernel
theorem dX4_leftByToken_6 : decode cX4_leftByToken 6 = .ok (.iload_n 1, 1) := by decide +kernel
theorem dX4_leftByToken_7 : decode cX4_leftByToken 7 = .ok (.iadd, 1) := by decide +kernel
theorem dX4_leftByToken_8 : decode cX4_leftByToken 8 = .ok (.aload_n 0, 1) := by decide +kernel
theorem dX4_leftByToken_9 : decode cX4_leftByToken 9 = .ok (.getfield 9, 3) := by decide +kernel
theorem dX4_leftByToken_12 : decode cX4_leftByToken 12 = .ok (.iload_n 1, 1) := by decide +kernel
theorem dX4_leftByToken_13 : decode cX4_leftByToken 13 = .ok (.iload_n 1, 1) := by decide +kernel
theorem dX4_leftByToken_14 : decode cX4_leftByToken 14 = .ok (.invokevirtual 128, 3) := by decide +kernel
theorem dX4_leftByToken_17 : decode cX4_leftByToken 17 = .ok (.invokevirtual 36, 3) := by decide +kernel
theorem dX4_leftByToken_20 : decode cX4_leftByToken 20 = .ok (.iconst 0, 1) := by decide +kernel
theorem dX4_leftByToken_21 : decode cX4_leftByToken 21 = .ok (.istore_n 2, 1) := by decide +kernel
theorem dX4_leftByToken_22 : decode cX4_leftByToken 22 = .ok (.iload_n 2, 1) := by decide +kernel
theorem dX4_leftByToken_23 : decode cX4_leftByToken 23 = .ok (.aload_n 0, 1) := by decide +kernel
theorem dX4_leftByToken_24 : decode cX4_leftByToken 24 = .ok (.getfield 9, 3) := by decide +kernel
theorem dX4_leftByToken_27 : decode cX4_leftByToken 27 = .ok (.getfield 88, 3) := by decide +kernel
theorem dX4_leftByToken_30 : decode cX4_leftByToken 30 = .ok (.if_icmp .ge 42, 3) := by decide +kernel
theorem dX4_leftByToken_33 : decode cX4_leftByToken 33 = .ok (.aload_n 0, 1) := by decide +kernel
theorem dX4_leftByToken_34 : decode cX4_leftByToken 34 = .ok (.getfield 9, 3) := by decide +kernel
theorem dX4_leftByToken_37 : decode cX4_leftByToken 37 = .ok (.iload_n 2, 1) := by decide +kernel
theorem dX4_leftByToken_38 : decode cX4_leftByToken 38 = .ok (.invokevirtual 141, 3) := by decide +kernel
theorem dX4_leftByToken_41 : decode cX4_leftByToken 41 = .ok (.ifCond .ne 25, 3) := by decide +kernel
theorem dX4_leftByToken_44 : decode cX4_leftByToken 44 = .ok (.aload_n 0, 1) := by decide +kernel
theorem dX4_leftByToken_45 : decode cX4_leftByToken 45 = .ok (.iload_n 1, 1) := by decide +kernel
theorem dX4_leftByToken_46 : decode cX4_leftByToken 46 = .ok (.iload_n 2, 1) := by decide +kernel
theorem dX4_leftByToken_47 : decode cX4_leftByToken 47 = .ok (.invokevirtual 134, 3) := by decide +kernel
theorem dX4_leftByToken_50 : decode cX4_leftByToken 50 = .ok (.ifCond .eq 16, 3) := by decide +kernel
theorem dX4_leftByToken_53 : decode cX4_leftByToken 53 = .ok (.aload_n 0, 1) := by decide +kernel
theorem dX4_leftByToken_54 : decode cX4_leftByToken 54 = .ok (.getfield 9, 3) := by decide +kernel
theorem dX4_leftByToken_57 : decode cX4_leftByToken 57 = .ok (.bipush 37, 2) := by decide +kernel
theorem dX4_leftByToken_59 : decode cX4_leftByToken 59 = .ok (.bipush 6, 2) := by decide +kernel
theorem dX4_leftByToken_61 : decode cX4_leftByToken 61 = .ok (.iload_n 2, 1) := by decide +kernel
theorem dX4_leftByToken_62 : decode cX4_leftByToken 62 = .ok (.invokevirtual 144, 3) := by decide +kernel
theorem dX4_leftByToken_65 : decode cX4_leftByToken 65 = .ok (.pop, 1) := by decide +kernel
theorem dX4_leftByToken_66 : decode cX4_leftByToken 66 = .ok (.iinc 2 1, 3) := by decide +kernel
theorem dX4_leftByToken_69 : decode cX4_leftByToken 69 = .ok (.goto (-47), 3) := by decide +kernel
theorem dX4_leftByToken_72 : decode cX4_leftByToken 72 = .ok (.aload_n 0, 1) := by decide +kernel
theorem dX4_leftByToken_73 : decode cX4_leftByToken 73 = .ok (.getfield 9, 3) := by decide +kernel
theorem dX4_leftByToken_76 : decode cX4_leftByToken 76 = .ok (.bipush 37, 2) := by decide +kernel
theorem dX4_leftByToken_78 : decode cX4_leftByToken 78 = .ok (.invokevirtual 32, 3) := by decide +kernel
theorem dX4_leftByToken_81 : decode cX4_leftByToken 81 = .ok (.ifCond .le 19, 3) := by decide +kernel
theorem dX4_leftByToken_84 : decode cX4_leftByToken 84 = .ok (.aload_n 0, 1) := by decide +kernel
theorem dX4_leftByToken_85 : decode cX4_leftByToken 85 = .ok (.iload_n 1, 1) := by decide +kernel
theorem dX4_leftByToken_86 : decode cX4_leftByToken 86 = .ok (.aload_n 0, 1) := by decide +kernel
theorem dX4_leftByToken_87 : decode cX4_leftByToken 87 = .ok (.getfield 9, 3) := by decide +kernel
theorem dX4_leftByToken_90 : decode cX4_leftByToken 90 = .ok (.bipush 37, 2) := by decide +kernel
theorem dX4_leftByToken_92 : decode cX4_leftByToken 92 = .ok (.bipush 6, 2) := by decide +kernel
theorem dX4_leftByToken_94 : decode cX4_leftByToken 94 = .ok (.invokevirtual 147, 3) := by decide +kernel
theorem dX4_leftByToken_97 : decode cX4_leftByToken 97 = .ok (.invokevirtual 138, 3) := by decide +kernel
theorem dX4_leftByToken_100 : decode cX4_leftByToken 100 = .ok (.return_, 1) := by decide +kernel
theorem dX4_queue_0 : decode cX4_queue 0 = .ok (.aload_n 0, 1) := by decide +kernel
theorem dX4_queue_1 : decode cX4_queue 1 = .ok (.getfield 9, 3) := by decide +kernel
theorem dX4_queue_4 : decode cX4_queue 4 = .ok (.iload_n 1, 1) := by decide +kernel
theorem dX4_queue_5 : decode cX4_queue 5 = .ok (.invokestatic 150, 3) := by decide +kernel
theorem dX4_queue_8 : decode cX4_queue 8 = .ok (.bipush 6, 2) := by decide +kernel
theorem dX4_queue_10 : decode cX4_queue 10 = .ok (.iload_n 2, 1) := by decide +kernel
theorem dX4_queue_11 : decode cX4_queue 11 = .ok (.invokevirtual 144, 3) := by decide +kernel
theorem dX4_queue_14 : decode cX4_queue 14 = .ok (.pop, 1) := by decide +kernel
theorem dX4_queue_15 : decode cX4_queue 15 = .ok (.return_, 1) := by decide +kernel
theorem dX4_followRules_0 : decode cX4_followRules 0 = .ok (.aload_n 0, 1) := by decide +kernel
theorem dX4_followRules_1 : decode cX4_followRules 1 = .ok (.getfield 9, 3) := by decide +kernel
theorem dX4_followRules_4 : decode cX4_followRules 4 = .ok (.iload_n 1, 1) := by decide +kernel
theorem dX4_followRules_5 : decode cX4_followRules 5 = .ok (.iconst 0, 1) := by decide +kernel
theorem dX4_followRules_6 : decode cX4_followRules 6 = .ok (.invokevirtual 85, 3) := by decide +kernel
theorem dX4_followRules_9 : decode cX4_followRules 9 = .ok (.iconst 2, 1) := by decide +kernel
theorem dX4_followRules_10 : decode cX4_followRules 10 = .ok (.if_icmp .ne 7, 3) := by decide +kernel
theorem dX4_followRules_13 : decode cX4_followRules 13 = .ok (.iconst 1, 1) := by decide +kernel
theorem dX4_followRules_14 : decode cX4_followRules 14 = .ok (.goto 4, 3) := by decide +kernel
theorem dX4_followRules_17 : decode cX4_followRules 17 = .ok (.iconst 0, 1) := by decide +kernel
theorem dX4_followRules_18 : decode cX4_followRules 18 = .ok (.istore_n 2, 1) := by decide +kernel
theorem dX4_followRules_19 : decode cX4_followRules 19 = .ok (.aload_n 0, 1) := by decide +kernel
theorem dX4_followRules_20 : decode cX4_followRules 20 = .ok (.getfield 9, 3) := by decide +kernel
theorem dX4_followRules_23 : decode cX4_followRules 23 = .ok (.iload_n 1, 1) := by decide +kernel
theorem dX4_followRules_24 : decode cX4_followRules 24 = .ok (.invokevirtual 124, 3) := by decide +kernel
theorem dX4_followRules_27 : decode cX4_followRules 27 = .ok (.ifCond .eq 81, 3) := by decide +kernel
theorem dX4_followRules_30 : decode cX4_followRules 30 = .ok (.iload_n 2, 1) := by decide +kernel
theorem dX4_followRules_31 : decode cX4_followRules 31 = .ok (.ifCond .ne 77, 3) := by decide +kernel
theorem dX4_followRules_34 : decode cX4_followRules 34 = .ok (.aload_n 0, 1) := by decide +kernel
theorem dX4_followRules_35 : decode cX4_followRules 35 = .ok (.getfield 9, 3) := by decide +kernel
theorem dX4_followRules_38 : decode cX4_followRules 38 = .ok (.iload_n 1, 1) := by decide +kernel
theorem dX4_followRules_39 : decode cX4_followRules 39 = .ok (.invokestatic 150, 3) := by decide +kernel
theorem dX4_followRules_42 : decode cX4_followRules 42 = .ok (.invokevirtual 32, 3) := by decide +kernel
theorem dX4_followRules_45 : decode cX4_followRules 45 = .ok (.ifCond .le 63, 3) := by decide +kernel
theorem dX4_followRules_48 : decode cX4_followRules 48 = .ok (.aload_n 0, 1) := by decide +kernel
theorem dX4_followRules_49 : decode cX4_followRules 49 = .ok (.getfield 9, 3) := by decide +kernel
theorem dX4_followRules_52 : decode cX4_followRules 52 = .ok (.iload_n 1, 1) := by decide +kernel
theorem dX4_followRules_53 : decode cX4_followRules 53 = .ok (.invokestatic 150, 3) := by decide +kernel
theorem dX4_followRules_56 : decode cX4_followRules 56 = .ok (.bipush 6, 2) := by decide +kernel
theorem dX4_followRules_58 : decode cX4_followRules 58 = .ok (.invokevirtual 147, 3) := by decide +kernel
theorem dX4_followRules_61 : decode cX4_followRules 61 = .ok (.istore_n 3, 1) := by decide +kernel
theorem dX4_followRules_62 : decode cX4_followRules 62 = .ok (.aload_n 0, 1) := by decide +kernel
theorem dX4_followRules_63 : decode cX4_followRules 63 = .ok (.getfield 9, 3) := by decide +kernel
theorem dX4_followRules_66 : decode cX4_followRules 66 = .ok (.iload_n 1, 1) := by decide +kernel
theorem dX4_followRules_67 : decode cX4_followRules 67 = .ok (.bipush 86, 2) := by decide +kernel
theorem dX4_followRules_69 : decode cX4_followRules 69 = .ok (.iload_n 3, 1) := by decide +kernel
theorem dX4_followRules_70 : decode cX4_followRules 70 = .ok (.invokevirtual 28, 3) := by decide +kernel
theorem dX4_followRules_73 : decode cX4_followRules 73 = .ok (.aload_n 0, 1) := by decide +kernel
theorem dX4_followRules_74 : decode cX4_followRules 74 = .ok (.getfield 9, 3) := by decide +kernel
theorem dX4_followRules_77 : decode cX4_followRules 77 = .ok (.iload_n 1, 1) := by decide +kernel
theorem dX4_followRules_78 : decode cX4_followRules 78 = .ok (.bipush 92, 2) := by decide +kernel
theorem dX4_followRules_80 : decode cX4_followRules 80 = .ok (.iconst 0, 1) := by decide +kernel
theorem dX4_followRules_81 : decode cX4_followRules 81 = .ok (.invokevirtual 28, 3) := by decide +kernel
theorem dX4_followRules_84 : decode cX4_followRules 84 = .ok (.iload_n 3, 1) := by decide +kernel
theorem dX4_followRules_85 : decode cX4_followRules 85 = .ok (.iload_n 1, 1) := by decide +kernel
theorem dX4_followRules_86 : decode cX4_followRules 86 = .ok (.if_icmp .ne 11, 3) := by decide +kernel
theorem dX4_followRules_89 : decode cX4_followRules 89 = .ok (.aload_n 0, 1) := by decide +kernel
theorem dX4_followRules_90 : decode cX4_followRules 90 = .ok (.iload_n 1, 1) := by decide +kernel
theorem dX4_followRules_91 : decode cX4_followRules 91 = .ok (.invokevirtual 82, 3) := by decide +kernel
theorem dX4_followRules_94 : decode cX4_followRules 94 = .ok (.goto 14, 3) := by decide +kernel
theorem dX4_followRules_97 : decode cX4_followRules 97 = .ok (.aload_n 0, 1) := by decide +kernel
theorem dX4_followRules_98 : decode cX4_followRules 98 = .ok (.getfield 9, 3) := by decide +kernel
theorem dX4_followRules_101 : decode cX4_followRules 101 = .ok (.iload_n 1, 1) := by decide +kernel
theorem dX4_followRules_102 : decode cX4_followRules 102 = .ok (.iload_n 3, 1) := by decide +kernel
theorem dX4_followRules_103 : decode cX4_followRules 103 = .ok (.iconst 2, 1) := by decide +kernel
theorem dX4_followRules_104 : decode cX4_followRules 104 = .ok (.iconst 0, 1) := by decide +kernel
theorem dX4_followRules_105 : decode cX4_followRules 105 = .ok (.invokevirtual 118, 3) := by decide +kernel
theorem dX4_followRules_108 : decode cX4_followRules 108 = .ok (.aload_n 0, 1) := by decide +kernel
theorem dX4_followRules_109 : decode cX4_followRules 109 = .ok (.getfield 9, 3) := by decide +kernel
theorem dX4_followRules_112 : decode cX4_followRules 112 = .ok (.iload_n 1, 1) := by decide +kernel
theorem dX4_followRules_113 : decode cX4_followRules 113 = .ok (.bipush 92, 2) := by decide +kernel
theorem dX4_followRules_115 : decode cX4_followRules 115 = .ok (.invokevirtual 85, 3) := by decide +kernel
theorem dX4_followRules_118 : decode cX4_followRules 118 = .ok (.ifCond .eq 7, 3) := by decide +kernel
theorem dX4_followRules_121 : decode cX4_followRules 121 = .ok (.iconst 1, 1) := by decide +kernel
theorem dX4_followRules_122 : decode cX4_followRules 122 = .ok (.goto 4, 3) := by decide +kernel
theorem dX4_followRules_125 : decode cX4_followRules 125 = .ok (.iconst 0, 1) := by decide +kernel
theorem dX4_followRules_126 : decode cX4_followRules 126 = .ok (.istore_n 3, 1) := by decide +kernel
theorem dX4_followRules_127 : decode cX4_followRules 127 = .ok (.aload_n 0, 1) := by decide +kernel
theorem dX4_followRules_128 : decode cX4_followRules 128 = .ok (.getfield 9, 3) := by decide +kernel
theorem dX4_followRules_131 : decode cX4_followRules 131 = .ok (.iload_n 1, 1) := by decide +kernel
theorem dX4_followRules_132 : decode cX4_followRules 132 = .ok (.invokevirtual 124, 3) := by decide +kernel
theorem dX4_followRules_135 : decode cX4_followRules 135 = .ok (.ifCond .ne 52, 3) := by decide +kernel
theorem dX4_followRules_138 : decode cX4_followRules 138 = .ok (.aload_n 0, 1) := by decide +kernel
theorem dX4_followRules_139 : decode cX4_followRules 139 = .ok (.getfield 9, 3) := by decide +kernel
theorem dX4_followRules_142 : decode cX4_followRules 142 = .ok (.iload_n 1, 1) := by decide +kernel
theorem dX4_followRules_143 : decode cX4_followRules 143 = .ok (.invokestatic 150, 3) := by decide +kernel
theorem dX4_followRules_146 : decode cX4_followRules 146 = .ok (.invokevirtual 32, 3) := by decide +kernel
theorem dX4_followRules_149 : decode cX4_followRules 149 = .ok (.ifCond .le 38, 3) := by decide +kernel
theorem dX4_followRules_152 : decode cX4_followRules 152 = .ok (.iload_n 3, 1) := by decide +kernel
theorem dX4_followRules_153 : decode cX4_followRules 153 = .ok (.ifCond .ne 34, 3) := by decide +kernel
theorem dX4_followRules_156 : decode cX4_followRules 156 = .ok (.aload_n 0, 1) := by decide +kernel
theorem dX4_followRules_157 : decode cX4_followRules 157 = .ok (.getfield 9, 3) := by decide +kernel
theorem dX4_followRules_160 : decode cX4_followRules 160 = .ok (.iload_n 1, 1) := by decide +kernel
theorem dX4_followRules_161 : decode cX4_followRules 161 = .ok (.aload_n 0, 1) := by decide +kernel
theorem dX4_followRules_162 : decode cX4_followRules 162 = .ok (.getfield 9, 3) := by decide +kernel
theorem dX4_followRules_165 : decode cX4_followRules 165 = .ok (.iload_n 1, 1) := by decide +kernel
theorem dX4_followRules_166 : decode cX4_followRules 166 = .ok (.bipush 86, 2) := by decide +kernel
theorem dX4_followRules_168 : decode cX4_followRules 168 = .ok (.invokevirtual 85, 3) := by decide +kernel
theorem dX4_followRules_171 : decode cX4_followRules 171 = .ok (.iconst 0, 1) := by decide +kernel
theorem dX4_followRules_172 : decode cX4_followRules 172 = .ok (.iconst 0, 1) := by decide +kernel
theorem dX4_followRules_173 : decode cX4_followRules 173 = .ok (.invokevirtual 118, 3) := by decide +kernel
theorem dX4_followRules_176 : decode cX4_followRules 176 = .ok (.aload_n 0, 1) := by decide +kernel
theorem dX4_followRules_177 : decode cX4_followRules 177 = .ok (.getfield 9, 3) := by decide +kernel
theorem dX4_followRules_180 : decode cX4_followRules 180 = .ok (.iload_n 1, 1) := by decide +kernel
theorem dX4_followRules_181 : decode cX4_followRules 181 = .ok (.bipush 92, 2) := by decide +kernel
theorem dX4_followRules_183 : decode cX4_followRules 183 = .ok (.iconst 1, 1) := by decide +kernel
theorem dX4_followRules_184 : decode cX4_followRules 184 = .ok (.invokevirtual 28, 3) := by decide +kernel
theorem dX4_followRules_187 : decode cX4_followRules 187 = .ok (.return_, 1) := by decide +kernel
theorem dX5_init_0 : decode cX5_init 0 = .ok (.aload_n 0, 1) := by decide +kernel
theorem dX5_init_1 : decode cX5_init 1 = .ok (.invokespecial 1, 3) := by decide +kernel
theorem dX5_init_4 : decode cX5_init 4 = .ok (.aload_n 0, 1) := by decide +kernel
theorem dX5_init_5 : decode cX5_init 5 = .ok (.new 7, 3) := by decide +kernel
theorem dX5_init_8 : decode cX5_init 8 = .ok (.dup, 1) := by decide +kernel
theorem dX5_init_9 : decode cX5_init 9 = .ok (.invokespecial 9, 3) := by decide +kernel
theorem dX5_init_12 : decode cX5_init 12 = .ok (.putfield 10, 3) := by decide +kernel
theorem dX5_init_15 : decode cX5_init 15 = .ok (.aload_n 0, 1) := by decide +kernel
theorem dX5_init_16 : decode cX5_init 16 = .ok (.new 16, 3) := by decide +kernel
theorem dX5_init_19 : decode cX5_init 19 = .ok (.dup, 1) := by decide +kernel
theorem dX5_init_20 : decode cX5_init 20 = .ok (.invokespecial 18, 3) := by decide +kernel
theorem dX5_init_23 : decode cX5_init 23 = .ok (.putfield 19, 3) := by decide +kernel
theorem dX5_init_26 : decode cX5_init 26 = .ok (.aload_n 0, 1) := by decide +kernel
theorem dX5_init_27 : decode cX5_init 27 = .ok (.new 23, 3) := by decide +kernel
theorem dX5_init_30 : decode cX5_init 30 = .ok (.dup, 1) := by decide +kernel
theorem dX5_init_31 : decode cX5_init 31 = .ok (.aload_n 0, 1) := by decide +kernel
theorem dX5_init_32 : decode cX5_init 32 = .ok (.getfield 10, 3) := by decide +kernel
theorem dX5_init_35 : decode cX5_init 35 = .ok (.aload_n 0, 1) := by decide +kernel
theorem dX5_init_36 : decode cX5_init 36 = .ok (.getfield 19, 3) := by decide +kernel
theorem dX5_init_39 : decode cX5_init 39 = .ok (.invokespecial 25, 3) := by decide +kernel
theorem dX5_init_42 : decode cX5_init 42 = .ok (.putfield 28, 3) := by decide +kernel
theorem dX5_init_45 : decode cX5_init 45 = .ok (.aload_n 0, 1) := by decide +kernel
theorem dX5_init_46 : decode cX5_init 46 = .ok (.new 32, 3) := by decide +kernel
theorem dX5_init_49 : decode cX5_init 49 = .ok (.dup, 1) := by decide +kernel
theorem dX5_init_50 : decode cX5_init 50 = .ok (.aload_n 0, 1) := by decide +kernel
theorem dX5_init_51 : decode cX5_init 51 = .ok (.getfield 10, 3) := by decide +kernel
theorem dX5_init_54 : decode cX5_init 54 = .ok (.invokespecial 34, 3) := by decide +kernel
theorem dX5_init_57 : decode cX5_init 57 = .ok (.putfield 37, 3) := by decide +kernel
theorem dX5_init_60 : decode cX5_init 60 = .ok (.aload_n 0, 1) := by decide +kernel
theorem dX5_init_61 : decode cX5_init 61 = .ok (.new 41, 3) := by decide +kernel
theorem dX5_init_64 : decode cX5_init 64 = .ok (.dup, 1) := by decide +kernel
theorem dX5_init_65 : decode cX5_init 65 = .ok (.aload_n 0, 1) := by decide +kernel
theorem dX5_init_66 : decode cX5_init 66 = .ok (.getfield 10, 3) := by decide +kernel
theorem dX5_init_69 : decode cX5_init 69 = .ok (.aload_n 0, 1) := by decide +kernel
theorem dX5_init_70 : decode cX5_init 70 = .ok (.getfield 28, 3) := by decide +kernel
theorem dX5_init_73 : decode cX5_init 73 = .ok (.invokespecial 43, 3) := by decide +kernel
theorem dX5_init_76 : decode cX5_init 76 = .ok (.putfield 46, 3) := by decide +kernel
theorem dX5_init_79 : decode cX5_init 79 = .ok (.aload_n 0, 1) := by decide +kernel
theorem dX5_init_80 : decode cX5_init 80 = .ok (.getfield 10, 3) := by decide +kernel
theorem dX5_init_83 : decode cX5_init 83 = .ok (.iconst 0, 1) := by decide +kernel
theorem dX5_init_84 : decode cX5_init 84 = .ok (.iconst 2, 1) := by decide +kernel
theorem dX5_init_85 : decode cX5_init 85 = .ok (.invokevirtual 50, 3) := by decide +kernel
theorem dX5_init_88 : decode cX5_init 88 = .ok (.return_, 1) := by decide +kernel
theorem dX5_begin_0 : decode cX5_begin 0 = .ok (.iload_n 1, 1) := by decide +kernel
theorem dX5_begin_1 : decode cX5_begin 1 = .ok (.ifCond .lt 19, 3) := by decide +kernel
theorem dX5_begin_4 : decode cX5_begin 4 = .ok (.iload_n 1, 1) := by decide +kernel
theorem dX5_begin_5 : decode cX5_begin 5 = .ok (.iconst 2, 1) := by decide +kernel
theorem dX5_begin_6 : decode cX5_begin 6 = .ok (.if_icmp .gt 14, 3) := by decide +kernel
theorem dX5_begin_9 : decode cX5_begin 9 = .ok (.iload_n 2, 1) := by decide +kernel
theorem dX5_begin_10 : decode cX5_begin 10 = .ok (.iconst 2, 1) := by decide +kernel
theorem dX5_begin_11 : decode cX5_begin 11 = .ok (.if_icmp .lt 9, 3) := by decide +kernel
theorem dX5_begin_14 : decode cX5_begin 14 = .ok (.iload_n 2, 1) := by decide +kernel
theorem dX5_begin_15 : decode cX5_begin 15 = .ok (.bipush 6, 2) := by decide +kernel
theorem dX5_begin_17 : decode cX5_begin 17 = .ok (.if_icmp .le 5, 3) := by decide +kernel
theorem dX5_begin_20 : decode cX5_begin 20 = .ok (.iconst (-1), 1) := by decide +kernel
theorem dX5_begin_21 : decode cX5_begin 21 = .ok (.ireturn, 1) := by decide +kernel
theorem dX5_begin_22 : decode cX5_begin 22 = .ok (.aload_n 0, 1) := by decide +kernel
theorem dX5_begin_23 : decode cX5_begin 23 = .ok (.getfield 54, 3) := by decide +kernel
theorem dX5_begin_26 : decode cX5_begin 26 = .ok (.bipush 10, 2) := by decide +kernel
theorem dX5_begin_28 : decode cX5_begin 28 = .ok (.if_icmp .lt 6, 3) := by decide +kernel
theorem dX5_begin_31 : decode cX5_begin 31 = .ok (.bipush (-3), 2) := by decide +kernel
theorem dX5_begin_33 : decode cX5_begin 33 = .ok (.ireturn, 1) := by decide +kernel
theorem dX5_begin_34 : decode cX5_begin 34 = .ok (.aload_n 0, 1) := by decide +kernel
theorem dX5_begin_35 : decode cX5_begin 35 = .ok (.dup, 1) := by decide +kernel
theorem dX5_begin_36 : decode cX5_begin 36 = .ok (.getfield 54, 3) := by decide +kernel
theorem dX5_begin_39 : decode cX5_begin 39 = .ok (.iconst 1, 1) := by decide +kernel
theorem dX5_begin_40 : decode cX5_begin 40 = .ok (.iadd, 1) := by decide +kernel
theorem dX5_begin_41 : decode cX5_begin 41 = .ok (.putfield 54, 3) := by decide +kernel
theorem dX5_begin_44 : decode cX5_begin 44 = .ok (.aload_n 0, 1) := by decide +kernel
theorem dX5_begin_45 : decode cX5_begin 45 = .ok (.iconst 0, 1) := by decide +kernel
theorem dX5_begin_46 : decode cX5_begin 46 = .ok (.putfield 58, 3) := by decide +kernel
theorem dX5_begin_49 : decode cX5_begin 49 = .ok (.aload_n 0, 1) := by decide +kernel
theorem dX5_begin_50 : decode cX5_begin 50 = .ok (.iconst 0, 1) := by decide +kernel
theorem dX5_begin_51 : decode cX5_begin 51 = .ok (.putfield 61, 3) := by decide +kernel
theorem dX5_begin_54 : decode cX5_begin 54 = .ok (.aload_n 0, 1) := by decide +kernel
theorem dX5_begin_55 : decode cX5_begin 55 = .ok (.getfield 37, 3) := by decide +kernel
theorem dX5_begin_58 : decode cX5_begin 58 = .ok (.invokevirtual 65, 3) := by decide +kernel
theorem dX5_begin_61 : decode cX5_begin 61 = .ok (.aload_n 0, 1) := by decide +kernel
theorem dX5_begin_62 : decode cX5_begin 62 = .ok (.getfield 10, 3) := by decide +kernel
theorem dX5_begin_65 : decode cX5_begin 65 = .ok (.iload_n 1, 1) := by decide +kernel
theorem dX5_begin_66 : decode cX5_begin 66 = .ok (.iload_n 2, 1) := by decide +kernel
theorem dX5_begin_67 : decode cX5_begin 67 = .ok (.invokevirtual 50, 3) := by decide +kernel
theorem dX5_begin_70 : decode cX5_begin 70 = .ok (.iload_n 2, 1) := by decide +kernel
theorem dX5_begin_71 : decode cX5_begin 71 = .ok (.ireturn, 1) := by decide +kernel
theorem dX5_parent_0 : decode cX5_parent 0 = .ok (.iload_n 1, 1) := by decide +kernel
theorem dX5_parent_1 : decode cX5_parent 1 = .ok (.iconst 1, 1) := by decide +kernel
theorem dX5_parent_2 : decode cX5_parent 2 = .ok (.if_icmp .lt 23, 3) := by decide +kernel
theorem dX5_parent_5 : decode cX5_parent 5 = .ok (.iload_n 1, 1) := by decide +kernel
theorem dX5_parent_6 : decode cX5_parent 6 = .ok (.aload_n 0, 1) := by decide +kernel
theorem dX5_parent_7 : decode cX5_parent 7 = .ok (.getfield 10, 3) := by decide +kernel
theorem dX5_parent_10 : decode cX5_parent 10 = .ok (.getfield 68, 3) := by decide +kernel
theorem dX5_parent_13 : decode cX5_parent 13 = .ok (.if_icmp .ge 12, 3) := by decide +kernel
theorem dX5_parent_16 : decode cX5_parent 16 = .ok (.iload_n 2, 1) := by decide +kernel
theorem dX5_parent_17 : decode cX5_parent 17 = .ok (.ifCond .lt 8, 3) := by decide +kernel
theorem dX5_parent_20 : decode cX5_parent 20 = .ok (.iload_n 2, 1) := by decide +kernel
theorem dX5_parent_21 : decode cX5_parent 21 = .ok (.iload_n 1, 1) := by decide +kernel
theorem dX5_parent_22 : decode cX5_parent 22 = .ok (.if_icmp .lt 5, 3) := by decide +kernel
theorem dX5_parent_25 : decode cX5_parent 25 = .ok (.iconst (-1), 1) := by decide +kernel
theorem dX5_parent_26 : decode cX5_parent 26 = .ok (.ireturn, 1) := by decide +kernel
theorem dX5_parent_27 : decode cX5_parent 27 = .ok (.aload_n 0, 1) := by decide +kernel
theorem dX5_parent_28 : decode cX5_parent 28 = .ok (.getfield 10, 3) := by decide +kernel
theorem dX5_parent_31 : decode cX5_parent 31 = .ok (.getfield 71, 3) := by decide +kernel
theorem dX5_parent_34 : decode cX5_parent 34 = .ok (.iconst 2, 1) := by decide +kernel
theorem dX5_parent_35 : decode cX5_parent 35 = .ok (.if_icmp .ne 10, 3) := by decide +kernel
theorem dX5_parent_38 : decode cX5_parent 38 = .ok (.aload_n 0, 1) := by decide +kernel
theorem dX5_parent_39 : decode cX5_parent 39 = .ok (.getfield 61, 3) := by decide +kernel
theorem dX5_parent_42 : decode cX5_parent 42 = .ok (.ifCond .eq 6, 3) := by decide +kernel
theorem dX5_parent_45 : decode cX5_parent 45 = .ok (.bipush (-2), 2) := by decide +kernel
theorem dX5_parent_47 : decode cX5_parent 47 = .ok (.ireturn, 1) := by decide +kernel
theorem dX5_parent_48 : decode cX5_parent 48 = .ok (.aload_n 0, 1) := by decide +kernel
theorem dX5_parent_49 : decode cX5_parent 49 = .ok (.getfield 10, 3) := by decide +kernel
theorem dX5_parent_52 : decode cX5_parent 52 = .ok (.iload_n 1, 1) := by decide +kernel
theorem dX5_parent_53 : decode cX5_parent 53 = .ok (.bipush 80, 2) := by decide +kernel
theorem dX5_parent_55 : decode cX5_parent 55 = .ok (.invokevirtual 74, 3) := by decide +kernel
theorem dX5_parent_58 : decode cX5_parent 58 = .ok (.istore_n 3, 1) := by decide +kernel
theorem dX5_parent_59 : decode cX5_parent 59 = .ok (.aload_n 0, 1) := by decide +kernel
theorem dX5_parent_60 : decode cX5_parent 60 = .ok (.getfield 10, 3) := by decide +kernel
theorem dX5_parent_63 : decode cX5_parent 63 = .ok (.iload_n 1, 1) := by decide +kernel
theorem dX5_parent_64 : decode cX5_parent 64 = .ok (.bipush 80, 2) := by decide +kernel
theorem dX5_parent_66 : decode cX5_parent 66 = .ok (.iload_n 2, 1) := by decide +kernel
theorem dX5_parent_67 : decode cX5_parent 67 = .ok (.invokevirtual 78, 3) := by decide +kernel
theorem dX5_parent_70 : decode cX5_parent 70 = .ok (.aload_n 0, 1) := by decide +kernel
theorem dX5_parent_71 : decode cX5_parent 71 = .ok (.getfield 10, 3) := by decide +kernel
theorem dX5_parent_74 : decode cX5_parent 74 = .ok (.iload_n 1, 1) := by decide +kernel
theorem dX5_parent_75 : decode cX5_parent 75 = .ok (.bipush 86, 2) := by decide +kernel
theorem dX5_parent_77 : decode cX5_parent 77 = .ok (.iload_n 2, 1) := by decide +kernel
theorem dX5_parent_78 : decode cX5_parent 78 = .ok (.invokevirtual 78, 3) := by decide +kernel
theorem dX5_parent_81 : decode cX5_parent 81 = .ok (.iload_n 3, 1) := by decide +kernel
theorem dX5_parent_82 : decode cX5_parent 82 = .ok (.ireturn, 1) := by decide +kernel
theorem dX5_want_0 : decode cX5_want 0 = .ok (.aload_n 0, 1) := by decide +kernel
theorem dX5_want_1 : decode cX5_want 1 = .ok (.getfield 10, 3) := by decide +kernel
theorem dX5_want_4 : decode cX5_want 4 = .ok (.iload_n 1, 1) := by decide +kernel
theorem dX5_want_5 : decode cX5_want 5 = .ok (.invokevirtual 82, 3) := by decide +kernel
theorem dX5_want_8 : decode cX5_want 8 = .ok (.ifCond .ne 5, 3) := by decide +kernel
theorem dX5_want_11 : decode cX5_want 11 = .ok (.iconst (-1), 1) := by decide +kernel
theorem dX5_want_12 : decode cX5_want 12 = .ok (.ireturn, 1) := by decide +kernel
theorem dX5_want_13 : decode cX5_want 13 = .ok (.aload_n 0, 1) := by decide +kernel
theorem dX5_want_14 : decode cX5_want 14 = .ok (.getfield 10, 3) := by decide +kernel
theorem dX5_want_17 : decode cX5_want 17 = .ok (.iload_n 1, 1) := by decide +kernel
theorem dX5_want_18 : decode cX5_want 18 = .ok (.iconst 0, 1) := by decide +kernel
theorem dX5_want_19 : decode cX5_want 19 = .ok (.invokevirtual 74, 3) := by decide +kernel
theorem dX5_want_22 : decode cX5_want 22 = .ok (.ifCond .eq 6, 3) := by decide +kernel
theorem dX5_want_25 : decode cX5_want 25 = .ok (.bipush (-2), 2) := by decide +kernel
theorem dX5_want_27 : decode cX5_want 27 = .ok (.ireturn, 1) := by decide +kernel
theorem dX5_want_28 : decode cX5_want 28 = .ok (.aload_n 0, 1) := by decide +kernel
theorem dX5_want_29 : decode cX5_want 29 = .ok (.getfield 37, 3) := by decide +kernel
theorem dX5_want_32 : decode cX5_want 32 = .ok (.invokevirtual 86, 3) := by decide +kernel
theorem dX5_want_35 : decode cX5_want 35 = .ok (.aload_n 0, 1) := by decide +kernel
theorem dX5_want_36 : decode cX5_want 36 = .ok (.getfield 28, 3) := by decide +kernel
theorem dX5_want_39 : decode cX5_want 39 = .ok (.iload_n 1, 1) := by decide +kernel
theorem dX5_want_40 : decode cX5_want 40 = .ok (.invokevirtual 89, 3) := by decide +kernel
theorem dX5_want_43 : decode cX5_want 43 = .ok (.aload_n 0, 1) := by decide +kernel
theorem dX5_want_44 : decode cX5_want 44 = .ok (.invokevirtual 93, 3) := by decide +kernel
theorem dX5_want_47 : decode cX5_want 47 = .ok (.ifCond .ne 6, 3) := by decide +kernel
theorem dX5_want_50 : decode cX5_want 50 = .ok (.bipush (-3), 2) := by decide +kernel
theorem dX5_want_52 : decode cX5_want 52 = .ok (.ireturn, 1) := by decide +kernel
theorem dX5_want_53 : decode cX5_want 53 = .ok (.aload_n 0, 1) := by decide +kernel
theorem dX5_want_54 : decode cX5_want 54 = .ok (.getfield 10, 3) := by decide +kernel
theorem dX5_want_57 : decode cX5_want 57 = .ok (.iload_n 1, 1) := by decide +kernel
theorem dX5_want_58 : decode cX5_want 58 = .ok (.iconst 0, 1) := by decide +kernel
theorem dX5_want_59 : decode cX5_want 59 = .ok (.invokevirtual 74, 3) := by decide +kernel
theorem dX5_want_62 : decode cX5_want 62 = .ok (.iconst 2, 1) := by decide +kernel
theorem dX5_want_63 : decode cX5_want 63 = .ok (.if_icmp .ne 7, 3) := by decide +kernel
theorem dX5_want_66 : decode cX5_want 66 = .ok (.iconst 1, 1) := by decide +kernel
theorem dX5_want_67 : decode cX5_want 67 = .ok (.goto 4, 3) := by decide +kernel
theorem dX5_want_70 : decode cX5_want 70 = .ok (.iconst 0, 1) := by decide +kernel
theorem dX5_want_71 : decode cX5_want 71 = .ok (.ireturn, 1) := by decide +kernel
theorem dX5_leave_0 : decode cX5_leave 0 = .ok (.aload_n 0, 1) := by decide +kernel
theorem dX5_leave_1 : decode cX5_leave 1 = .ok (.getfield 10, 3) := by decide +kernel
theorem dX5_leave_4 : decode cX5_leave 4 = .ok (.iload_n 1, 1) := by decide +kernel
theorem dX5_leave_5 : decode cX5_leave 5 = .ok (.invokevirtual 82, 3) := by decide +kernel
theorem dX5_leave_8 : decode cX5_leave 8 = .ok (.ifCond .ne 5, 3) := by decide +kernel
theorem dX5_leave_11 : decode cX5_leave 11 = .ok (.iconst (-1), 1) := by decide +kernel
theorem dX5_leave_12 : decode cX5_leave 12 = .ok (.ireturn, 1) := by decide +kernel
theorem dX5_leave_13 : decode cX5_leave 13 = .ok (.aload_n 0, 1) := by decide +kernel
theorem dX5_leave_14 : decode cX5_leave 14 = .ok (.getfield 10, 3) := by decide +kernel
theorem dX5_leave_17 : decode cX5_leave 17 = .ok (.iload_n 1, 1) := by decide +kernel
theorem dX5_leave_18 : decode cX5_leave 18 = .ok (.iconst 0, 1) := by decide +kernel
theorem dX5_leave_19 : decode cX5_leave 19 = .ok (.invokevirtual 74, 3) := by decide +kernel
theorem dX5_leave_22 : decode cX5_leave 22 = .ok (.iconst 2, 1) := by decide +kernel
theorem dX5_leave_23 : decode cX5_leave 23 = .ok (.if_icmp .eq 6, 3) := by decide +kernel
theorem dX5_leave_26 : decode cX5_leave 26 = .ok (.bipush (-2), 2) := by decide +kernel
theorem dX5_leave_28 : decode cX5_leave 28 = .ok (.ireturn, 1) := by decide +kernel
theorem dX5_leave_29 : decode cX5_leave 29 = .ok (.aload_n 0, 1) := by decide +kernel
theorem dX5_leave_30 : decode cX5_leave 30 = .ok (.getfield 10, 3) := by decide +kernel
theorem dX5_leave_33 : decode cX5_leave 33 = .ok (.invokevirtual 97, 3) := by decide +kernel
theorem dX5_leave_36 : decode cX5_leave 36 = .ok (.istore_n 2, 1) := by decide +kernel
theorem dX5_leave_37 : decode cX5_leave 37 = .ok (.aload_n 0, 1) := by decide +kernel
theorem dX5_leave_38 : decode cX5_leave 38 = .ok (.getfield 37, 3) := by decide +kernel
theorem dX5_leave_41 : decode cX5_leave 41 = .ok (.invokevirtual 86, 3) := by decide +kernel
theorem dX5_leave_44 : decode cX5_leave 44 = .ok (.aload_n 0, 1) := by decide +kernel
theorem dX5_leave_45 : decode cX5_leave 45 = .ok (.getfield 28, 3) := by decide +kernel
theorem dX5_leave_48 : decode cX5_leave 48 = .ok (.iload_n 1, 1) := by decide +kernel
theorem dX5_leave_49 : decode cX5_leave 49 = .ok (.invokevirtual 101, 3) := by decide +kernel
theorem dX5_leave_52 : decode cX5_leave 52 = .ok (.aload_n 0, 1) := by decide +kernel
theorem dX5_leave_53 : decode cX5_leave 53 = .ok (.invokevirtual 93, 3) := by decide +kernel
theorem dX5_leave_56 : decode cX5_leave 56 = .ok (.ifCond .ne 6, 3) := by decide +kernel
theorem dX5_leave_59 : decode cX5_leave 59 = .ok (.bipush (-3), 2) := by decide +kernel
theorem dX5_leave_61 : decode cX5_leave 61 = .ok (.ireturn, 1) := by decide +kernel
theorem dX5_leave_62 : decode cX5_leave 62 = .ok (.aload_n 0, 1) := by decide +kernel
theorem dX5_leave_63 : decode cX5_leave 63 = .ok (.getfield 10, 3) := by decide +kernel
theorem dX5_leave_66 : decode cX5_leave 66 = .ok (.invokevirtual 97, 3) := by decide +kernel
theorem dX5_leave_69 : decode cX5_leave 69 = .ok (.iload_n 2, 1) := by decide +kernel
theorem dX5_leave_70 : decode cX5_leave 70 = .ok (.isub, 1) := by decide +kernel
theorem dX5_leave_71 : decode cX5_leave 71 = .ok (.ireturn, 1) := by decide +kernel
theorem dX5_come_0 : decode cX5_come 0 = .ok (.aload_n 0, 1) := by decide +kernel
theorem dX5_come_1 : decode cX5_come 1 = .ok (.getfield 10, 3) := by decide +kernel
theorem dX5_come_4 : decode cX5_come 4 = .ok (.iload_n 1, 1) := by decide +kernel
theorem dX5_come_5 : decode cX5_come 5 = .ok (.iload_n 2, 1) := by decide +kernel
theorem dX5_come_6 : decode cX5_come 6 = .ok (.invokevirtual 104, 3) := by decide +kernel
theorem dX5_come_9 : decode cX5_come 9 = .ok (.ifCond .ne 5, 3) := by decide +kernel
theorem dX5_come_12 : decode cX5_come 12 = .ok (.iconst (-1), 1) := by decide +kernel
theorem dX5_come_13 : decode cX5_come 13 = .ok (.ireturn, 1) := by decide +kernel
theorem dX5_come_14 : decode cX5_come 14 = .ok (.aload_n 0, 1) := by decide +kernel
theorem dX5_come_15 : decode cX5_come 15 = .ok (.getfield 10, 3) := by decide +kernel
theorem dX5_come_18 : decode cX5_come 18 = .ok (.iload_n 1, 1) := by decide +kernel
theorem dX5_come_19 : decode cX5_come 19 = .ok (.iload_n 2, 1) := by decide +kernel
theorem dX5_come_20 : decode cX5_come 20 = .ok (.invokevirtual 108, 3) := by decide +kernel
theorem dX5_come_23 : decode cX5_come 23 = .ok (.ifCond .ne 6, 3) := by decide +kernel
theorem dX5_come_26 : decode cX5_come 26 = .ok (.bipush (-2), 2) := by decide +kernel
theorem dX5_come_28 : decode cX5_come 28 = .ok (.ireturn, 1) := by decide +kernel
theorem dX5_come_29 : decode cX5_come 29 = .ok (.aload_n 0, 1) := by decide +kernel
theorem dX5_come_30 : decode cX5_come 30 = .ok (.iload_n 1, 1) := by decide +kernel
theorem dX5_come_31 : decode cX5_come 31 = .ok (.iload_n 2, 1) := by decide +kernel
theorem dX5_come_32 : decode cX5_come 32 = .ok (.invokevirtual 111, 3) := by decide +kernel
theorem dX5_come_35 : decode cX5_come 35 = .ok (.ireturn, 1) := by decide +kernel
theorem dX5_run_0 : decode cX5_run 0 = .ok (.iload_n 1, 1) := by decide +kernel
theorem dX5_run_1 : decode cX5_run 1 = .ok (.iconst 1, 1) := by decide +kernel
theorem dX5_run_2 : decode cX5_run 2 = .ok (.if_icmp .lt 13, 3) := by decide +kernel
theorem dX5_run_5 : decode cX5_run 5 = .ok (.iload_n 1, 1) := by decide +kernel
theorem dX5_run_6 : decode cX5_run 6 = .ok (.bipush 100, 2) := by decide +kernel
theorem dX5_run_8 : decode cX5_run 8 = .ok (.if_icmp .gt 7, 3) := by decide +kernel
theorem dX5_run_11 : decode cX5_run 11 = .ok (.iload_n 2, 1) := by decide +kernel
theorem dX5_run_12 : decode cX5_run 12 = .ok (.ifCond .ge 5, 3) := by decide +kernel
theorem dX5_run_15 : decode cX5_run 15 = .ok (.iconst (-1), 1) := by decide +kernel
theorem dX5_run_16 : decode cX5_run 16 = .ok (.ireturn, 1) := by decide +kernel
theorem dX5_run_17 : decode cX5_run 17 = .ok (.iload_n 2, 1) := by decide +kernel
theorem dX5_run_18 : decode cX5_run 18 = .ok (.i2l, 1) := by decide +kernel
theorem dX5_run_19 : decode cX5_run 19 = .ok (.lstore_n 3, 1) := by decide +kernel
theorem dX5_run_20 : decode cX5_run 20 = .ok (.iconst 0, 1) := by decide +kernel
theorem dX5_run_21 : decode cX5_run 21 = .ok (.istore 5, 2) := by decide +kernel
theorem dX5_run_23 : decode cX5_run 23 = .ok (.iload 5, 2) := by decide +kernel
theorem dX5_run_25 : decode cX5_run 25 = .ok (.iload_n 1, 1) := by decide +kernel
theorem dX5_run_26 : decode cX5_run 26 = .ok (.if_icmp .ge 81, 3) := by decide +kernel
theorem dX5_run_29 : decode cX5_run 29 = .ok (.aload_n 0, 1) := by decide +kernel
theorem dX5_run_30 : decode cX5_run 30 = .ok (.getfield 10, 3) := by decide +kernel
theorem dX5_run_33 : decode cX5_run 33 = .ok (.invokevirtual 114, 3) := by decide +kernel
theorem dX5_run_36 : decode cX5_run 36 = .ok (.istore 6, 2) := by decide +kernel
theorem dX5_run_38 : decode cX5_run 38 = .ok (.iload 6, 2) := by decide +kernel
theorem dX5_run_40 : decode cX5_run 40 = .ok (.ifCond .gt 6, 3) := by decide +kernel
theorem dX5_run_43 : decode cX5_run 43 = .ok (.iload 5, 2) := by decide +kernel
theorem dX5_run_45 : decode cX5_run 45 = .ok (.ireturn, 1) := by decide +kernel
theorem dX5_run_46 : decode cX5_run 46 = .ok (.aload_n 0, 1) := by decide +kernel
theorem dX5_run_47 : decode cX5_run 47 = .ok (.getfield 10, 3) := by decide +kernel
theorem dX5_run_50 : decode cX5_run 50 = .ok (.lload_n 3, 1) := by decide +kernel
theorem dX5_run_51 : decode cX5_run 51 = .ok (.iload 6, 2) := by decide +kernel
theorem dX5_run_53 : decode cX5_run 53 = .ok (.i2l, 1) := by decide +kernel
theorem dX5_run_54 : decode cX5_run 54 = .ok (.lrem, 1) := by decide +kernel
theorem dX5_run_55 : decode cX5_run 55 = .ok (.l2i, 1) := by decide +kernel
theorem dX5_run_56 : decode cX5_run 56 = .ok (.invokevirtual 117, 3) := by decide +kernel
theorem dX5_run_59 : decode cX5_run 59 = .ok (.istore 7, 2) := by decide +kernel
theorem dX5_run_61 : decode cX5_run 61 = .ok (.aload_n 0, 1) := by decide +kernel
theorem dX5_run_62 : decode cX5_run 62 = .ok (.iload 7, 2) := by decide +kernel
theorem dX5_run_64 : decode cX5_run 64 = .ok (.bipush 6, 2) := by decide +kernel
theorem dX5_run_66 : decode cX5_run 66 = .ok (.idiv, 1) := by decide +kernel
theorem dX5_run_67 : decode cX5_run 67 = .ok (.iload 7, 2) := by decide +kernel
theorem dX5_run_69 : decode cX5_run 69 = .ok (.bipush 6, 2) := by decide +kernel
theorem dX5_run_71 : decode cX5_run 71 = .ok (.irem, 1) := by decide +kernel
theorem dX5_run_72 : decode cX5_run 72 = .ok (.invokevirtual 111, 3) := by decide +kernel
theorem dX5_run_75 : decode cX5_run 75 = .ok (.bipush (-3), 2) := by decide +kernel
theorem dX5_run_77 : decode cX5_run 77 = .ok (.if_icmp .ne 6, 3) := by decide +kernel
theorem dX5_run_80 : decode cX5_run 80 = .ok (.iload 5, 2) := by decide +kernel
theorem dX5_run_82 : decode cX5_run 82 = .ok (.ireturn, 1) := by decide +kernel
theorem dX5_run_83 : decode cX5_run 83 = .ok (.lload_n 3, 1) := by decide +kernel
theorem dX5_run_84 : decode cX5_run 84 = .ok (.ldc2_w 121, 3) := by decide +kernel
theorem dX5_run_87 : decode cX5_run 87 = .ok (.lmul, 1) := by decide +kernel
theorem dX5_run_88 : decode cX5_run 88 = .ok (.ldc2_w 123, 3) := by decide +kernel
theorem dX5_run_91 : decode cX5_run 91 = .ok (.ladd, 1) := by decide +kernel
theorem dX5_run_92 : decode cX5_run 92 = .ok (.ldc2_w 125, 3) := by decide +kernel
theorem dX5_run_95 : decode cX5_run 95 = .ok (.lrem, 1) := by decide +kernel
theorem dX5_run_96 : decode cX5_run 96 = .ok (.ldc2_w 127, 3) := by decide +kernel
theorem dX5_run_99 : decode cX5_run 99 = .ok (.ldiv, 1) := by decide +kernel
theorem dX5_run_100 : decode cX5_run 100 = .ok (.lstore_n 3, 1) := by decide +kernel
theorem dX5_run_101 : decode cX5_run 101 = .ok (.iinc 5 1, 3) := by decide +kernel
theorem dX5_run_104 : decode cX5_run 104 = .ok (.goto (-81), 3) := by decide +kernel
theorem dX5_run_107 : decode cX5_run 107 = .ok (.iload_n 1, 1) := by decide +kernel
theorem dX5_run_108 : decode cX5_run 108 = .ok (.ireturn, 1) := by decide +kernel
theorem dX5_keeper_0 : decode cX5_keeper 0 = .ok (.aload_n 0, 1) := by decide +kernel
theorem dX5_keeper_1 : decode cX5_keeper 1 = .ok (.getfield 10, 3) := by decide +kernel
theorem dX5_keeper_4 : decode cX5_keeper 4 = .ok (.iload_n 1, 1) := by decide +kernel
theorem dX5_keeper_5 : decode cX5_keeper 5 = .ok (.invokevirtual 82, 3) := by decide +kernel
theorem dX5_keeper_8 : decode cX5_keeper 8 = .ok (.ifCond .ne 5, 3) := by decide +kernel
theorem dX5_keeper_11 : decode cX5_keeper 11 = .ok (.iconst (-1), 1) := by decide +kernel
theorem dX5_keeper_12 : decode cX5_keeper 12 = .ok (.ireturn, 1) := by decide +kernel
theorem dX5_keeper_13 : decode cX5_keeper 13 = .ok (.aload_n 0, 1) := by decide +kernel
theorem dX5_keeper_14 : decode cX5_keeper 14 = .ok (.getfield 10, 3) := by decide +kernel
theorem dX5_keeper_17 : decode cX5_keeper 17 = .ok (.getfield 71, 3) := by decide +kernel
theorem dX5_keeper_20 : decode cX5_keeper 20 = .ok (.ifCond .ne 7, 3) := by decide +kernel
theorem dX5_keeper_23 : decode cX5_keeper 23 = .ok (.iconst 1, 1) := by decide +kernel
theorem dX5_keeper_24 : decode cX5_keeper 24 = .ok (.goto 4, 3) := by decide +kernel
theorem dX5_keeper_27 : decode cX5_keeper 27 = .ok (.iconst 0, 1) := by decide +kernel
theorem dX5_keeper_28 : decode cX5_keeper 28 = .ok (.istore_n 3, 1) := by decide +kernel
theorem dX5_keeper_29 : decode cX5_keeper 29 = .ok (.aload_n 0, 1) := by decide +kernel
theorem dX5_keeper_30 : decode cX5_keeper 30 = .ok (.getfield 10, 3) := by decide +kernel
theorem dX5_keeper_33 : decode cX5_keeper 33 = .ok (.getfield 71, 3) := by decide +kernel
theorem dX5_keeper_36 : decode cX5_keeper 36 = .ok (.iconst 2, 1) := by decide +kernel
theorem dX5_keeper_37 : decode cX5_keeper 37 = .ok (.if_icmp .ne 7, 3) := by decide +kernel
theorem dX5_keeper_40 : decode cX5_keeper 40 = .ok (.iconst 1, 1) := by decide +kernel
theorem dX5_keeper_41 : decode cX5_keeper 41 = .ok (.goto 4, 3) := by decide +kernel
theorem dX5_keeper_44 : decode cX5_keeper 44 = .ok (.iconst 0, 1) := by decide +kernel
theorem dX5_keeper_45 : decode cX5_keeper 45 = .ok (.istore 4, 2) := by decide +kernel
theorem dX5_keeper_47 : decode cX5_keeper 47 = .ok (.iload_n 2, 1) := by decide +kernel
theorem dX5_keeper_48 : decode cX5_keeper 48 = .ok (.tableswitch 231 0 9 #[56, 66, 85, 91, 108, 127, 144, 165, 185, 206], 56) := by decide +kernel
theorem dX5_keeper_104 : decode cX5_keeper 104 = .ok (.aload_n 0, 1) := by decide +kernel
theorem dX5_keeper_105 : decode cX5_keeper 105 = .ok (.getfield 10, 3) := by decide +kernel
theorem dX5_keeper_108 : decode cX5_keeper 108 = .ok (.iload_n 1, 1) := by decide +kernel
theorem dX5_keeper_109 : decode cX5_keeper 109 = .ok (.iconst 0, 1) := by decide +kernel
theorem dX5_keeper_110 : decode cX5_keeper 110 = .ok (.invokevirtual 74, 3) := by decide +kernel
theorem dX5_keeper_113 : decode cX5_keeper 113 = .ok (.ireturn, 1) := by decide +kernel
theorem dX5_keeper_114 : decode cX5_keeper 114 = .ok (.iload_n 3, 1) := by decide +kernel
theorem dX5_keeper_115 : decode cX5_keeper 115 = .ok (.ifCond .eq 16, 3) := by decide +kernel
theorem dX5_keeper_118 : decode cX5_keeper 118 = .ok (.aload_n 0, 1) := by decide +kernel
theorem dX5_keeper_119 : decode cX5_keeper 119 = .ok (.getfield 10, 3) := by decide +kernel
theorem dX5_keeper_122 : decode cX5_keeper 122 = .ok (.iload_n 1, 1) := by decide +kernel
theorem dX5_keeper_123 : decode cX5_keeper 123 = .ok (.bipush 6, 2) := by decide +kernel
theorem dX5_keeper_125 : decode cX5_keeper 125 = .ok (.invokevirtual 74, 3) := by decide +kernel
theorem dX5_keeper_128 : decode cX5_keeper 128 = .ok (.goto 4, 3) := by decide +kernel
theorem dX5_keeper_131 : decode cX5_keeper 131 = .ok (.iconst 0, 1) := by decide +kernel
theorem dX5_keeper_132 : decode cX5_keeper 132 = .ok (.ireturn, 1) := by decide +kernel
theorem dX5_keeper_133 : decode cX5_keeper 133 = .ok (.aload_n 0, 1) := by decide +kernel
theorem dX5_keeper_134 : decode cX5_keeper 134 = .ok (.iload_n 1, 1) := by decide +kernel
theorem dX5_keeper_135 : decode cX5_keeper 135 = .ok (.invokevirtual 129, 3) := by decide +kernel
theorem dX5_keeper_138 : decode cX5_keeper 138 = .ok (.ireturn, 1) := by decide +kernel
theorem dX5_keeper_139 : decode cX5_keeper 139 = .ok (.iload_n 3, 1) := by decide +kernel
theorem dX5_keeper_140 : decode cX5_keeper 140 = .ok (.ifCond .eq 14, 3) := by decide +kernel
theorem dX5_keeper_143 : decode cX5_keeper 143 = .ok (.aload_n 0, 1) := by decide +kernel
theorem dX5_keeper_144 : decode cX5_keeper 144 = .ok (.getfield 28, 3) := by decide +kernel
theorem dX5_keeper_147 : decode cX5_keeper 147 = .ok (.iload_n 1, 1) := by decide +kernel
theorem dX5_keeper_148 : decode cX5_keeper 148 = .ok (.invokevirtual 132, 3) := by decide +kernel
theorem dX5_keeper_151 : decode cX5_keeper 151 = .ok (.goto 4, 3) := by decide +kernel
theorem dX5_keeper_154 : decode cX5_keeper 154 = .ok (.iconst 0, 1) := by decide +kernel
theorem dX5_keeper_155 : decode cX5_keeper 155 = .ok (.ireturn, 1) := by decide +kernel
theorem dX5_keeper_156 : decode cX5_keeper 156 = .ok (.iload_n 3, 1) := by decide +kernel
theorem dX5_keeper_157 : decode cX5_keeper 157 = .ok (.ifCond .eq 16, 3) := by decide +kernel
theorem dX5_keeper_160 : decode cX5_keeper 160 = .ok (.aload_n 0, 1) := by decide +kernel
theorem dX5_keeper_161 : decode cX5_keeper 161 = .ok (.getfield 10, 3) := by decide +kernel
theorem dX5_keeper_164 : decode cX5_keeper 164 = .ok (.iload_n 1, 1) := by decide +kernel
theorem dX5_keeper_165 : decode cX5_keeper 165 = .ok (.bipush 24, 2) := by decide +kernel
theorem dX5_keeper_167 : decode cX5_keeper 167 = .ok (.invokevirtual 74, 3) := by decide +kernel
theorem dX5_keeper_170 : decode cX5_keeper 170 = .ok (.goto 4, 3) := by decide +kernel
theorem dX5_keeper_173 : decode cX5_keeper 173 = .ok (.iconst 0, 1) := by decide +kernel
theorem dX5_keeper_174 : decode cX5_keeper 174 = .ok (.ireturn, 1) := by decide +kernel
theorem dX5_keeper_175 : decode cX5_keeper 175 = .ok (.aload_n 0, 1) := by decide +kernel
theorem dX5_keeper_176 : decode cX5_keeper 176 = .ok (.getfield 10, 3) := by decide +kernel
theorem dX5_keeper_179 : decode cX5_keeper 179 = .ok (.iload_n 1, 1) := by decide +kernel
theorem dX5_keeper_180 : decode cX5_keeper 180 = .ok (.invokevirtual 135, 3) := by decide +kernel
theorem dX5_keeper_183 : decode cX5_keeper 183 = .ok (.ifCond .eq 7, 3) := by decide +kernel
theorem dX5_keeper_186 : decode cX5_keeper 186 = .ok (.iconst 1, 1) := by decide +kernel
theorem dX5_keeper_187 : decode cX5_keeper 187 = .ok (.goto 4, 3) := by decide +kernel
theorem dX5_keeper_190 : decode cX5_keeper 190 = .ok (.iconst 0, 1) := by decide +kernel
theorem dX5_keeper_191 : decode cX5_keeper 191 = .ok (.ireturn, 1) := by decide +kernel
theorem dX5_keeper_192 : decode cX5_keeper 192 = .ok (.iload 4, 2) := by decide +kernel
theorem dX5_keeper_194 : decode cX5_keeper 194 = .ok (.ifCond .eq 16, 3) := by decide +kernel
theorem dX5_keeper_197 : decode cX5_keeper 197 = .ok (.aload_n 0, 1) := by decide +kernel
theorem dX5_keeper_198 : decode cX5_keeper 198 = .ok (.getfield 10, 3) := by decide +kernel
theorem dX5_keeper_201 : decode cX5_keeper 201 = .ok (.iload_n 1, 1) := by decide +kernel
theorem dX5_keeper_202 : decode cX5_keeper 202 = .ok (.bipush 86, 2) := by decide +kernel
theorem dX5_keeper_204 : decode cX5_keeper 204 = .ok (.invokevirtual 74, 3) := by decide +kernel
theorem dX5_keeper_207 : decode cX5_keeper 207 = .ok (.goto 5, 3) := by decide +kernel
theorem dX5_keeper_210 : decode cX5_keeper 210 = .ok (.bipush (-4), 2) := by decide +kernel
theorem dX5_keeper_212 : decode cX5_keeper 212 = .ok (.ireturn, 1) := by decide +kernel
theorem dX5_keeper_213 : decode cX5_keeper 213 = .ok (.iload 4, 2) := by decide +kernel
theorem dX5_keeper_215 : decode cX5_keeper 215 = .ok (.ifCond .eq 16, 3) := by decide +kernel
theorem dX5_keeper_218 : decode cX5_keeper 218 = .ok (.aload_n 0, 1) := by decide +kernel
theorem dX5_keeper_219 : decode cX5_keeper 219 = .ok (.getfield 10, 3) := by decide +kernel
theorem dX5_keeper_222 : decode cX5_keeper 222 = .ok (.iload_n 1, 1) := by decide +kernel
theorem dX5_keeper_223 : decode cX5_keeper 223 = .ok (.bipush 92, 2) := by decide +kernel
theorem dX5_keeper_225 : decode cX5_keeper 225 = .ok (.invokevirtual 74, 3) := by decide +kernel
theorem dX5_keeper_228 : decode cX5_keeper 228 = .ok (.goto 4, 3) := by decide +kernel
theorem dX5_keeper_231 : decode cX5_keeper 231 = .ok (.iconst 0, 1) := by decide +kernel
theorem dX5_keeper_232 : decode cX5_keeper 232 = .ok (.ireturn, 1) := by decide +kernel
theorem dX5_keeper_233 : decode cX5_keeper 233 = .ok (.iload 4, 2) := by decide +kernel
theorem dX5_keeper_235 : decode cX5_keeper 235 = .ok (.ifCond .eq 17, 3) := by decide +kernel
theorem dX5_keeper_238 : decode cX5_keeper 238 = .ok (.aload_n 0, 1) := by decide +kernel
theorem dX5_keeper_239 : decode cX5_keeper 239 = .ok (.getfield 10, 3) := by decide +kernel
theorem dX5_keeper_242 : decode cX5_keeper 242 = .ok (.iload_n 1, 1) := by decide +kernel
theorem dX5_keeper_243 : decode cX5_keeper 243 = .ok (.invokestatic 138, 3) := by decide +kernel
theorem dX5_keeper_246 : decode cX5_keeper 246 = .ok (.invokevirtual 141, 3) := by decide +kernel
theorem dX5_keeper_249 : decode cX5_keeper 249 = .ok (.goto 4, 3) := by decide +kernel
theorem dX5_keeper_252 : decode cX5_keeper 252 = .ok (.iconst 0, 1) := by decide +kernel
theorem dX5_keeper_253 : decode cX5_keeper 253 = .ok (.ireturn, 1) := by decide +kernel
theorem dX5_keeper_254 : decode cX5_keeper 254 = .ok (.iload 4, 2) := by decide +kernel
theorem dX5_keeper_256 : decode cX5_keeper 256 = .ok (.ifCond .eq 20, 3) := by decide +kernel
theorem dX5_keeper_259 : decode cX5_keeper 259 = .ok (.iload_n 1, 1) := by decide +kernel
theorem dX5_keeper_260 : decode cX5_keeper 260 = .ok (.ifCond .le 16, 3) := by decide +kernel
theorem dX5_keeper_263 : decode cX5_keeper 263 = .ok (.aload_n 0, 1) := by decide +kernel
theorem dX5_keeper_264 : decode cX5_keeper 264 = .ok (.getfield 10, 3) := by decide +kernel
theorem dX5_keeper_267 : decode cX5_keeper 267 = .ok (.iload_n 1, 1) := by decide +kernel
theorem dX5_keeper_268 : decode cX5_keeper 268 = .ok (.bipush 80, 2) := by decide +kernel
theorem dX5_keeper_270 : decode cX5_keeper 270 = .ok (.invokevirtual 74, 3) := by decide +kernel
theorem dX5_keeper_273 : decode cX5_keeper 273 = .ok (.goto 5, 3) := by decide +kernel
theorem dX5_keeper_276 : decode cX5_keeper 276 = .ok (.bipush (-4), 2) := by decide +kernel
theorem dX5_keeper_278 : decode cX5_keeper 278 = .ok (.ireturn, 1) := by decide +kernel
theorem dX5_keeper_279 : decode cX5_keeper 279 = .ok (.iconst (-1), 1) := by decide +kernel
theorem dX5_keeper_280 : decode cX5_keeper 280 = .ok (.ireturn, 1) := by decide +kernel
theorem dX5_knows_0 : decode cX5_knows 0 = .ok (.aload_n 0, 1) := by decide +kernel
theorem dX5_knows_1 : decode cX5_knows 1 = .ok (.getfield 10, 3) := by decide +kernel
theorem dX5_knows_4 : decode cX5_knows 4 = .ok (.getfield 71, 3) := by decide +kernel
theorem dX5_knows_7 : decode cX5_knows 7 = .ok (.ifCond .eq 14, 3) := by decide +kernel
theorem dX5_knows_10 : decode cX5_knows 10 = .ok (.aload_n 0, 1) := by decide +kernel
theorem dX5_knows_11 : decode cX5_knows 11 = .ok (.getfield 10, 3) := by decide +kernel
theorem dX5_knows_14 : decode cX5_knows 14 = .ok (.iload_n 1, 1) := by decide +kernel
theorem dX5_knows_15 : decode cX5_knows 15 = .ok (.invokevirtual 82, 3) := by decide +kernel
theorem dX5_knows_18 : decode cX5_knows 18 = .ok (.ifCond .ne 6, 3) := by decide +kernel
theorem dX5_knows_21 : decode cX5_knows 21 = .ok (.bipush (-4), 2) := by decide +kernel
theorem dX5_knows_23 : decode cX5_knows 23 = .ok (.ireturn, 1) := by decide +kernel
theorem dX5_knows_24 : decode cX5_knows 24 = .ok (.aload_n 0, 1) := by decide +kernel
theorem dX5_knows_25 : decode cX5_knows 25 = .ok (.getfield 10, 3) := by decide +kernel
theorem dX5_knows_28 : decode cX5_knows 28 = .ok (.getfield 71, 3) := by decide +kernel
theorem dX5_knows_31 : decode cX5_knows 31 = .ok (.iconst 1, 1) := by decide +kernel
theorem dX5_knows_32 : decode cX5_knows 32 = .ok (.if_icmp .ne 29, 3) := by decide +kernel
theorem dX5_knows_35 : decode cX5_knows 35 = .ok (.aload_n 0, 1) := by decide +kernel
theorem dX5_knows_36 : decode cX5_knows 36 = .ok (.getfield 10, 3) := by decide +kernel
theorem dX5_knows_39 : decode cX5_knows 39 = .ok (.iload_n 2, 1) := by decide +kernel
theorem dX5_knows_40 : decode cX5_knows 40 = .ok (.invokevirtual 82, 3) := by decide +kernel
theorem dX5_knows_43 : decode cX5_knows 43 = .ok (.ifCond .eq 15, 3) := by decide +kernel
theorem dX5_knows_46 : decode cX5_knows 46 = .ok (.aload_n 0, 1) := by decide +kernel
theorem dX5_knows_47 : decode cX5_knows 47 = .ok (.getfield 10, 3) := by decide +kernel
theorem dX5_knows_50 : decode cX5_knows 50 = .ok (.iload_n 1, 1) := by decide +kernel
theorem dX5_knows_51 : decode cX5_knows 51 = .ok (.iload_n 2, 1) := by decide +kernel
theorem dX5_knows_52 : decode cX5_knows 52 = .ok (.invokevirtual 144, 3) := by decide +kernel
theorem dX5_knows_55 : decode cX5_knows 55 = .ok (.goto 5, 3) := by decide +kernel
theorem dX5_knows_58 : decode cX5_knows 58 = .ok (.bipush (-4), 2) := by decide +kernel
theorem dX5_knows_60 : decode cX5_knows 60 = .ok (.ireturn, 1) := by decide +kernel
theorem dX5_knows_61 : decode cX5_knows 61 = .ok (.iload_n 1, 1) := by decide +kernel
theorem dX5_knows_62 : decode cX5_knows 62 = .ok (.invokestatic 138, 3) := by decide +kernel
theorem dX5_knows_65 : decode cX5_knows 65 = .ok (.istore_n 3, 1) := by decide +kernel
theorem dX5_knows_66 : decode cX5_knows 66 = .ok (.iload_n 2, 1) := by decide +kernel
theorem dX5_knows_67 : decode cX5_knows 67 = .ok (.ifCond .lt 30, 3) := by decide +kernel
theorem dX5_knows_70 : decode cX5_knows 70 = .ok (.iload_n 2, 1) := by decide +kernel
theorem dX5_knows_71 : decode cX5_knows 71 = .ok (.aload_n 0, 1) := by decide +kernel
theorem dX5_knows_72 : decode cX5_knows 72 = .ok (.getfield 10, 3) := by decide +kernel
theorem dX5_knows_75 : decode cX5_knows 75 = .ok (.iload_n 3, 1) := by decide +kernel
theorem dX5_knows_76 : decode cX5_knows 76 = .ok (.invokevirtual 141, 3) := by decide +kernel
theorem dX5_knows_79 : decode cX5_knows 79 = .ok (.if_icmp .ge 18, 3) := by decide +kernel
theorem dX5_knows_82 : decode cX5_knows 82 = .ok (.aload_n 0, 1) := by decide +kernel
theorem dX5_knows_83 : decode cX5_knows 83 = .ok (.getfield 10, 3) := by decide +kernel
theorem dX5_knows_86 : decode cX5_knows 86 = .ok (.iload_n 3, 1) := by decide +kernel
theorem dX5_knows_87 : decode cX5_knows 87 = .ok (.iconst 1, 1) := by decide +kernel
theorem dX5_knows_88 : decode cX5_knows 88 = .ok (.iadd, 1) := by decide +kernel
theorem dX5_knows_89 : decode cX5_knows 89 = .ok (.iload_n 2, 1) := by decide +kernel
theorem dX5_knows_90 : decode cX5_knows 90 = .ok (.iadd, 1) := by decide +kernel
theorem dX5_knows_91 : decode cX5_knows 91 = .ok (.invokevirtual 141, 3) := by decide +kernel
theorem dX5_knows_94 : decode cX5_knows 94 = .ok (.goto 5, 3) := by decide +kernel
theorem dX5_knows_97 : decode cX5_knows 97 = .ok (.bipush (-4), 2) := by decide +kernel
theorem dX5_knows_99 : decode cX5_knows 99 = .ok (.ireturn, 1) := by decide +kernel
theorem dX5_token_0 : decode cX5_token 0 = .ok (.iload_n 1, 1) := by decide +kernel
theorem dX5_token_1 : decode cX5_token 1 = .ok (.ifCond .lt 19, 3) := by decide +kernel
theorem dX5_token_4 : decode cX5_token 4 = .ok (.iload_n 1, 1) := by decide +kernel
theorem dX5_token_5 : decode cX5_token 5 = .ok (.iconst 1, 1) := by decide +kernel
theorem dX5_token_6 : decode cX5_token 6 = .ok (.if_icmp .gt 14, 3) := by decide +kernel
theorem dX5_token_9 : decode cX5_token 9 = .ok (.aload_n 0, 1) := by decide +kernel
theorem dX5_token_10 : decode cX5_token 10 = .ok (.getfield 10, 3) := by decide +kernel
theorem dX5_token_13 : decode cX5_token 13 = .ok (.iload_n 2, 1) := by decide +kernel
theorem dX5_token_14 : decode cX5_token 14 = .ok (.invokevirtual 82, 3) := by decide +kernel
theorem dX5_token_17 : decode cX5_token 17 = .ok (.ifCond .ne 5, 3) := by decide +kernel
theorem dX5_token_20 : decode cX5_token 20 = .ok (.iconst (-1), 1) := by decide +kernel
theorem dX5_token_21 : decode cX5_token 21 = .ok (.ireturn, 1) := by decide +kernel
theorem dX5_token_22 : decode cX5_token 22 = .ok (.aload_n 0, 1) := by decide +kernel
theorem dX5_token_23 : decode cX5_token 23 = .ok (.getfield 10, 3) := by decide +kernel
theorem dX5_token_26 : decode cX5_token 26 = .ok (.getfield 71, 3) := by decide +kernel
theorem dX5_token_29 : decode cX5_token 29 = .ok (.iconst 1, 1) := by decide +kernel
theorem dX5_token_30 : decode cX5_token 30 = .ok (.if_icmp .eq 6, 3) := by decide +kernel
theorem dX5_token_33 : decode cX5_token 33 = .ok (.bipush (-2), 2) := by decide +kernel
theorem dX5_token_35 : decode cX5_token 35 = .ok (.ireturn, 1) := by decide +kernel
theorem dX5_token_36 : decode cX5_token 36 = .ok (.iload_n 1, 1) := by decide +kernel
theorem dX5_token_37 : decode cX5_token 37 = .ok (.ifCond .ne 15, 3) := by decide +kernel
theorem dX5_token_40 : decode cX5_token 40 = .ok (.aload_n 0, 1) := by decide +kernel
theorem dX5_token_41 : decode cX5_token 41 = .ok (.getfield 10, 3) := by decide +kernel
theorem dX5_token_44 : decode cX5_token 44 = .ok (.bipush 31, 2) := by decide +kernel
theorem dX5_token_46 : decode cX5_token 46 = .ok (.iload_n 2, 1) := by decide +kernel
theorem dX5_token_47 : decode cX5_token 47 = .ok (.iadd, 1) := by decide +kernel
theorem dX5_token_48 : decode cX5_token 48 = .ok (.invokevirtual 141, 3) := by decide +kernel
theorem dX5_token_51 : decode cX5_token 51 = .ok (.ireturn, 1) := by decide +kernel
theorem dX5_token_52 : decode cX5_token 52 = .ok (.iload_n 2, 1) := by decide +kernel
theorem dX5_token_53 : decode cX5_token 53 = .ok (.aload_n 0, 1) := by decide +kernel
theorem dX5_token_54 : decode cX5_token 54 = .ok (.getfield 10, 3) := by decide +kernel
theorem dX5_token_57 : decode cX5_token 57 = .ok (.bipush 37, 2) := by decide +kernel
theorem dX5_token_59 : decode cX5_token 59 = .ok (.invokevirtual 141, 3) := by decide +kernel
theorem dX5_token_62 : decode cX5_token 62 = .ok (.if_icmp .ge 17, 3) := by decide +kernel
theorem dX5_token_65 : decode cX5_token 65 = .ok (.aload_n 0, 1) := by decide +kernel
theorem dX5_token_66 : decode cX5_token 66 = .ok (.getfield 10, 3) := by decide +kernel
theorem dX5_token_69 : decode cX5_token 69 = .ok (.bipush 38, 2) := by decide +kernel
theorem dX5_token_71 : decode cX5_token 71 = .ok (.iload_n 2, 1) := by decide +kernel
theorem dX5_token_72 : decode cX5_token 72 = .ok (.iadd, 1) := by decide +kernel
theorem dX5_token_73 : decode cX5_token 73 = .ok (.invokevirtual 141, 3) := by decide +kernel
theorem dX5_token_76 : decode cX5_token 76 = .ok (.goto 5, 3) := by decide +kernel
theorem dX5_token_79 : decode cX5_token 79 = .ok (.bipush (-4), 2) := by decide +kernel
theorem dX5_token_81 : decode cX5_token 81 = .ok (.ireturn, 1) := by decide +kernel
theorem dX5_letter_0 : decode cX5_letter 0 = .ok (.aload_n 0, 1) := by decide +kernel
theorem dX5_letter_1 : decode cX5_letter 1 = .ok (.getfield 10, 3) := by decide +kernel
theorem dX5_letter_4 : decode cX5_letter 4 = .ok (.iload_n 1, 1) := by decide +kernel
theorem dX5_letter_5 : decode cX5_letter 5 = .ok (.iload_n 2, 1) := by decide +kernel
theorem dX5_letter_6 : decode cX5_letter 6 = .ok (.invokevirtual 104, 3) := by decide +kernel
theorem dX5_letter_9 : decode cX5_letter 9 = .ok (.ifCond .eq 19, 3) := by decide +kernel
theorem dX5_letter_12 : decode cX5_letter 12 = .ok (.iload_n 3, 1) := by decide +kernel
theorem dX5_letter_13 : decode cX5_letter 13 = .ok (.iconst (-1), 1) := by decide +kernel
theorem dX5_letter_14 : decode cX5_letter 14 = .ok (.if_icmp .lt 14, 3) := by decide +kernel
theorem dX5_letter_17 : decode cX5_letter 17 = .ok (.iload 4, 2) := by decide +kernel
theorem dX5_letter_19 : decode cX5_letter 19 = .ok (.ifCond .lt 9, 3) := by decide +kernel
theorem dX5_letter_22 : decode cX5_letter 22 = .ok (.iload 4, 2) := by decide +kernel
theorem dX5_letter_24 : decode cX5_letter 24 = .ok (.iconst 1, 1) := by decide +kernel
theorem dX5_letter_25 : decode cX5_letter 25 = .ok (.if_icmp .le 5, 3) := by decide +kernel
theorem dX5_letter_28 : decode cX5_letter 28 = .ok (.iconst (-1), 1) := by decide +kernel
theorem dX5_letter_29 : decode cX5_letter 29 = .ok (.ireturn, 1) := by decide +kernel
theorem dX5_letter_30 : decode cX5_letter 30 = .ok (.aload_n 0, 1) := by decide +kernel
theorem dX5_letter_31 : decode cX5_letter 31 = .ok (.getfield 10, 3) := by decide +kernel
theorem dX5_letter_34 : decode cX5_letter 34 = .ok (.iload_n 1, 1) := by decide +kernel
theorem dX5_letter_35 : decode cX5_letter 35 = .ok (.iload_n 2, 1) := by decide +kernel
theorem dX5_letter_36 : decode cX5_letter 36 = .ok (.invokevirtual 108, 3) := by decide +kernel
theorem dX5_letter_39 : decode cX5_letter 39 = .ok (.istore 5, 2) := by decide +kernel
theorem dX5_letter_41 : decode cX5_letter 41 = .ok (.iload_n 3, 1) := by decide +kernel
theorem dX5_letter_42 : decode cX5_letter 42 = .ok (.iconst (-1), 1) := by decide +kernel
theorem dX5_letter_43 : decode cX5_letter 43 = .ok (.if_icmp .ne 6, 3) := by decide +kernel
theorem dX5_letter_46 : decode cX5_letter 46 = .ok (.iload 5, 2) := by decide +kernel
theorem dX5_letter_48 : decode cX5_letter 48 = .ok (.ireturn, 1) := by decide +kernel
theorem dX5_letter_49 : decode cX5_letter 49 = .ok (.iload_n 3, 1) := by decide +kernel
theorem dX5_letter_50 : decode cX5_letter 50 = .ok (.iload 5, 2) := by decide +kernel
theorem dX5_letter_52 : decode cX5_letter 52 = .ok (.if_icmp .lt 6, 3) := by decide +kernel
theorem dX5_letter_55 : decode cX5_letter 55 = .ok (.bipush (-4), 2) := by decide +kernel
theorem dX5_letter_57 : decode cX5_letter 57 = .ok (.ireturn, 1) := by decide +kernel
theorem dX5_letter_58 : decode cX5_letter 58 = .ok (.aload_n 0, 1) := by decide +kernel
theorem dX5_letter_59 : decode cX5_letter 59 = .ok (.getfield 10, 3) := by decide +kernel
theorem dX5_letter_62 : decode cX5_letter 62 = .ok (.iload_n 1, 1) := by decide +kernel
theorem dX5_letter_63 : decode cX5_letter 63 = .ok (.iload_n 2, 1) := by decide +kernel
theorem dX5_letter_64 : decode cX5_letter 64 = .ok (.iload_n 3, 1) := by decide +kernel
theorem dX5_letter_65 : decode cX5_letter 65 = .ok (.invokevirtual 147, 3) := by decide +kernel
theorem dX5_letter_68 : decode cX5_letter 68 = .ok (.istore 6, 2) := by decide +kernel
theorem dX5_letter_70 : decode cX5_letter 70 = .ok (.iload 4, 2) := by decide +kernel
theorem dX5_letter_72 : decode cX5_letter 72 = .ok (.ifCond .ne 11, 3) := by decide +kernel
theorem dX5_letter_75 : decode cX5_letter 75 = .ok (.iload 6, 2) := by decide +kernel
theorem dX5_letter_77 : decode cX5_letter 77 = .ok (.invokestatic 151, 3) := by decide +kernel
theorem dX5_letter_80 : decode cX5_letter 80 = .ok (.goto 8, 3) := by decide +kernel
theorem dX5_letter_83 : decode cX5_letter 83 = .ok (.iload 6, 2) := by decide +kernel
theorem dX5_letter_85 : decode cX5_letter 85 = .ok (.invokestatic 154, 3) := by decide +kernel
theorem dX5_letter_88 : decode cX5_letter 88 = .ok (.ireturn, 1) := by decide +kernel
theorem dX5_entry_0 : decode cX5_entry 0 = .ok (.iload_n 1, 1) := by decide +kernel
theorem dX5_entry_1 : decode cX5_entry 1 = .ok (.ifCond .lt 12, 3) := by decide +kernel
theorem dX5_entry_4 : decode cX5_entry 4 = .ok (.iload_n 2, 1) := by decide +kernel
theorem dX5_entry_5 : decode cX5_entry 5 = .ok (.ifCond .lt 8, 3) := by decide +kernel
theorem dX5_entry_8 : decode cX5_entry 8 = .ok (.iload_n 2, 1) := by decide +kernel
theorem dX5_entry_9 : decode cX5_entry 9 = .ok (.iconst 3, 1) := by decide +kernel
theorem dX5_entry_10 : decode cX5_entry 10 = .ok (.if_icmp .lt 5, 3) := by decide +kernel
theorem dX5_entry_13 : decode cX5_entry 13 = .ok (.iconst (-1), 1) := by decide +kernel
theorem dX5_entry_14 : decode cX5_entry 14 = .ok (.ireturn, 1) := by decide +kernel
theorem dX5_entry_15 : decode cX5_entry 15 = .ok (.aload_n 0, 1) := by decide +kernel
theorem dX5_entry_16 : decode cX5_entry 16 = .ok (.getfield 10, 3) := by decide +kernel
theorem dX5_entry_19 : decode cX5_entry 19 = .ok (.sipush 611, 3) := by decide +kernel
theorem dX5_entry_22 : decode cX5_entry 22 = .ok (.invokevirtual 141, 3) := by decide +kernel
theorem dX5_entry_25 : decode cX5_entry 25 = .ok (.istore_n 3, 1) := by decide +kernel
theorem dX5_entry_26 : decode cX5_entry 26 = .ok (.iload_n 1, 1) := by decide +kernel
theorem dX5_entry_27 : decode cX5_entry 27 = .ok (.iload_n 3, 1) := by decide +kernel
theorem dX5_entry_28 : decode cX5_entry 28 = .ok (.if_icmp .ge 9, 3) := by decide +kernel
theorem dX5_entry_31 : decode cX5_entry 31 = .ok (.iload_n 1, 1) := by decide +kernel
theorem dX5_entry_32 : decode cX5_entry 32 = .ok (.bipush 60, 2) := by decide +kernel
theorem dX5_entry_34 : decode cX5_entry 34 = .ok (.if_icmp .lt 6, 3) := by decide +kernel
theorem dX5_entry_37 : decode cX5_entry 37 = .ok (.bipush (-4), 2) := by decide +kernel
theorem dX5_entry_39 : decode cX5_entry 39 = .ok (.ireturn, 1) := by decide +kernel
theorem dX5_entry_40 : decode cX5_entry 40 = .ok (.aload_n 0, 1) := by decide +kernel
theorem dX5_entry_41 : decode cX5_entry 41 = .ok (.getfield 19, 3) := by decide +kernel
theorem dX5_entry_44 : decode cX5_entry 44 = .ok (.iload_n 3, 1) := by decide +kernel
theorem dX5_entry_45 : decode cX5_entry 45 = .ok (.iconst 1, 1) := by decide +kernel
theorem dX5_entry_46 : decode cX5_entry 46 = .ok (.isub, 1) := by decide +kernel
theorem dX5_entry_47 : decode cX5_entry 47 = .ok (.iload_n 1, 1) := by decide +kernel
theorem dX5_entry_48 : decode cX5_entry 48 = .ok (.isub, 1) := by decide +kernel
theorem dX5_entry_49 : decode cX5_entry 49 = .ok (.iload_n 2, 1) := by decide +kernel
theorem dX5_entry_50 : decode cX5_entry 50 = .ok (.invokevirtual 157, 3) := by decide +kernel
theorem dX5_entry_53 : decode cX5_entry 53 = .ok (.ireturn, 1) := by decide +kernel
theorem dX5_undo_0 : decode cX5_undo 0 = .ok (.aload_n 0, 1) := by decide +kernel
theorem dX5_undo_1 : decode cX5_undo 1 = .ok (.getfield 37, 3) := by decide +kernel
theorem dX5_undo_4 : decode cX5_undo 4 = .ok (.invokevirtual 160, 3) := by decide +kernel
theorem dX5_undo_7 : decode cX5_undo 7 = .ok (.ifCond .eq 7, 3) := by decide +kernel
theorem dX5_undo_10 : decode cX5_undo 10 = .ok (.iconst 1, 1) := by decide +kernel
theorem dX5_undo_11 : decode cX5_undo 11 = .ok (.goto 5, 3) := by decide +kernel
theorem dX5_undo_14 : decode cX5_undo 14 = .ok (.bipush (-2), 2) := by decide +kernel
theorem dX5_undo_16 : decode cX5_undo 16 = .ok (.ireturn, 1) := by decide +kernel
theorem dX5_pass_0 : decode cX5_pass 0 = .ok (.aload_n 0, 1) := by decide +kernel
theorem dX5_pass_1 : decode cX5_pass 1 = .ok (.getfield 58, 3) := by decide +kernel
theorem dX5_pass_4 : decode cX5_pass 4 = .ok (.bipush 15, 2) := by decide +kernel
theorem dX5_pass_6 : decode cX5_pass 6 = .ok (.if_icmp .lt 6, 3) := by decide +kernel
theorem dX5_pass_9 : decode cX5_pass 9 = .ok (.bipush (-3), 2) := by decide +kernel
theorem dX5_pass_11 : decode cX5_pass 11 = .ok (.ireturn, 1) := by decide +kernel
theorem dX5_pass_12 : decode cX5_pass 12 = .ok (.aload_n 0, 1) := by decide +kernel
theorem dX5_pass_13 : decode cX5_pass 13 = .ok (.dup, 1) := by decide +kernel
theorem dX5_pass_14 : decode cX5_pass 14 = .ok (.getfield 58, 3) := by decide +kernel
theorem dX5_pass_17 : decode cX5_pass 17 = .ok (.iconst 1, 1) := by decide +kernel
theorem dX5_pass_18 : decode cX5_pass 18 = .ok (.iadd, 1) := by decide +kernel
theorem dX5_pass_19 : decode cX5_pass 19 = .ok (.putfield 58, 3) := by decide +kernel
theorem dX5_pass_22 : decode cX5_pass 22 = .ok (.aload_n 0, 1) := by decide +kernel
theorem dX5_pass_23 : decode cX5_pass 23 = .ok (.getfield 46, 3) := by decide +kernel
theorem dX5_pass_26 : decode cX5_pass 26 = .ok (.invokevirtual 163, 3) := by decide +kernel
theorem dX5_pass_29 : decode cX5_pass 29 = .ok (.ireturn, 1) := by decide +kernel
theorem dX5_passed_0 : decode cX5_passed 0 = .ok (.iload_n 1, 1) := by decide +kernel
theorem dX5_passed_1 : decode cX5_passed 1 = .ok (.ifCond .lt 15, 3) := by decide +kernel
theorem dX5_passed_4 : decode cX5_passed 4 = .ok (.iload_n 1, 1) := by decide +kernel
theorem dX5_passed_5 : decode cX5_passed 5 = .ok (.aload_n 0, 1) := by decide +kernel
theorem dX5_passed_6 : decode cX5_passed 6 = .ok (.getfield 46, 3) := by decide +kernel
theorem dX5_passed_9 : decode cX5_passed 9 = .ok (.getfield 166, 3) := by decide +kernel
theorem dX5_passed_12 : decode cX5_passed 12 = .ok (.arraylength, 1) := by decide +kernel
theorem dX5_passed_13 : decode cX5_passed 13 = .ok (.if_icmp .lt 5, 3) := by decide +kernel
theorem dX5_passed_16 : decode cX5_passed 16 = .ok (.iconst (-1), 1) := by decide +kernel
theorem dX5_passed_17 : decode cX5_passed 17 = .ok (.ireturn, 1) := by decide +kernel
theorem dX5_passed_18 : decode cX5_passed 18 = .ok (.aload_n 0, 1) := by decide +kernel
theorem dX5_passed_19 : decode cX5_passed 19 = .ok (.getfield 46, 3) := by decide +kernel
theorem dX5_passed_22 : decode cX5_passed 22 = .ok (.getfield 166, 3) := by decide +kernel
theorem dX5_passed_25 : decode cX5_passed 25 = .ok (.iload_n 1, 1) := by decide +kernel
theorem dX5_passed_26 : decode cX5_passed 26 = .ok (.iaload, 1) := by decide +kernel
theorem dX5_passed_27 : decode cX5_passed 27 = .ok (.ireturn, 1) := by decide +kernel
theorem dX5_count_0 : decode cX5_count 0 = .ok (.iload_n 1, 1) := by decide +kernel
theorem dX5_count_1 : decode cX5_count 1 = .ok (.tableswitch 149 0 9 #[55, 63, 71, 82, 93, 104, 115, 123, 132, 141], 55) := by decide +kernel
theorem dX5_count_56 : decode cX5_count 56 = .ok (.aload_n 0, 1) := by decide +kernel
theorem dX5_count_57 : decode cX5_count 57 = .ok (.getfield 10, 3) := by decide +kernel
theorem dX5_count_60 : decode cX5_count 60 = .ok (.getfield 68, 3) := by decide +kernel
theorem dX5_count_63 : decode cX5_count 63 = .ok (.ireturn, 1) := by decide +kernel
theorem dX5_count_64 : decode cX5_count 64 = .ok (.aload_n 0, 1) := by decide +kernel
theorem dX5_count_65 : decode cX5_count 65 = .ok (.getfield 10, 3) := by decide +kernel
theorem dX5_count_68 : decode cX5_count 68 = .ok (.getfield 71, 3) := by decide +kernel
theorem dX5_count_71 : decode cX5_count 71 = .ok (.ireturn, 1) := by decide +kernel
theorem dX5_count_72 : decode cX5_count 72 = .ok (.aload_n 0, 1) := by decide +kernel
theorem dX5_count_73 : decode cX5_count 73 = .ok (.getfield 10, 3) := by decide +kernel
theorem dX5_count_76 : decode cX5_count 76 = .ok (.sipush 611, 3) := by decide +kernel
theorem dX5_count_79 : decode cX5_count 79 = .ok (.invokevirtual 141, 3) := by decide +kernel
theorem dX5_count_82 : decode cX5_count 82 = .ok (.ireturn, 1) := by decide +kernel
theorem dX5_count_83 : decode cX5_count 83 = .ok (.aload_n 0, 1) := by decide +kernel
theorem dX5_count_84 : decode cX5_count 84 = .ok (.getfield 10, 3) := by decide +kernel
theorem dX5_count_87 : decode cX5_count 87 = .ok (.sipush 608, 3) := by decide +kernel
theorem dX5_count_90 : decode cX5_count 90 = .ok (.invokevirtual 141, 3) := by decide +kernel
theorem dX5_count_93 : decode cX5_count 93 = .ok (.ireturn, 1) := by decide +kernel
theorem dX5_count_94 : decode cX5_count 94 = .ok (.aload_n 0, 1) := by decide +kernel
theorem dX5_count_95 : decode cX5_count 95 = .ok (.getfield 10, 3) := by decide +kernel
theorem dX5_count_98 : decode cX5_count 98 = .ok (.sipush 609, 3) := by decide +kernel
theorem dX5_count_101 : decode cX5_count 101 = .ok (.invokevirtual 141, 3) := by decide +kernel
theorem dX5_count_104 : decode cX5_count 104 = .ok (.ireturn, 1) := by decide +kernel
theorem dX5_count_105 : decode cX5_count 105 = .ok (.aload_n 0, 1) := by decide +kernel
theorem dX5_count_106 : decode cX5_count 106 = .ok (.getfield 10, 3) := by decide +kernel
theorem dX5_count_109 : decode cX5_count 109 = .ok (.sipush 610, 3) := by decide +kernel
theorem dX5_count_112 : decode cX5_count 112 = .ok (.invokevirtual 141, 3) := by decide +kernel
theorem dX5_count_115 : decode cX5_count 115 = .ok (.ireturn, 1) := by decide +kernel
theorem dX5_count_116 : decode cX5_count 116 = .ok (.aload_n 0, 1) := by decide +kernel
theorem dX5_count_117 : decode cX5_count 117 = .ok (.getfield 10, 3) := by decide +kernel
theorem dX5_count_120 : decode cX5_count 120 = .ok (.invokevirtual 170, 3) := by decide +kernel
theorem dX5_count_123 : decode cX5_count 123 = .ok (.ireturn, 1) := by decide +kernel
theorem dX5_count_124 : decode cX5_count 124 = .ok (.aload_n 0, 1) := by decide +kernel
theorem dX5_count_125 : decode cX5_count 125 = .ok (.getfield 10, 3) := by decide +kernel
theorem dX5_count_128 : decode cX5_count 128 = .ok (.iconst 2, 1) := by decide +kernel
theorem dX5_count_129 : decode cX5_count 129 = .ok (.invokevirtual 173, 3) := by decide +kernel
theorem dX5_count_132 : decode cX5_count 132 = .ok (.ireturn, 1) := by decide +kernel
theorem dX5_count_133 : decode cX5_count 133 = .ok (.aload_n 0, 1) := by decide +kernel
theorem dX5_count_134 : decode cX5_count 134 = .ok (.getfield 10, 3) := by decide +kernel
theorem dX5_count_137 : decode cX5_count 137 = .ok (.iconst 1, 1) := by decide +kernel
theorem dX5_count_138 : decode cX5_count 138 = .ok (.invokevirtual 173, 3) := by decide +kernel
theorem dX5_count_141 : decode cX5_count 141 = .ok (.ireturn, 1) := by decide +kernel
theorem dX5_count_142 : decode cX5_count 142 = .ok (.aload_n 0, 1) := by decide +kernel
theorem dX5_count_143 : decode cX5_count 143 = .ok (.getfield 37, 3) := by decide +kernel
theorem dX5_count_146 : decode cX5_count 146 = .ok (.getfield 176, 3) := by decide +kernel
theorem dX5_count_149 : decode cX5_count 149 = .ok (.ireturn, 1) := by decide +kernel
theorem dX5_count_150 : decode cX5_count 150 = .ok (.iconst (-1), 1) := by decide +kernel
theorem dX5_count_151 : decode cX5_count 151 = .ok (.ireturn, 1) := by decide +kernel
theorem dX5_timeOf_0 : decode cX5_timeOf 0 = .ok (.aload_n 0, 1) := by decide +kernel
theorem dX5_timeOf_1 : decode cX5_timeOf 1 = .ok (.getfield 10, 3) := by decide +kernel
theorem dX5_timeOf_4 : decode cX5_timeOf 4 = .ok (.getfield 71, 3) := by decide +kernel
theorem dX5_timeOf_7 : decode cX5_timeOf 7 = .ok (.ifCond .ne 14, 3) := by decide +kernel
theorem dX5_timeOf_10 : decode cX5_timeOf 10 = .ok (.aload_n 0, 1) := by decide +kernel
theorem dX5_timeOf_11 : decode cX5_timeOf 11 = .ok (.getfield 10, 3) := by decide +kernel
theorem dX5_timeOf_14 : decode cX5_timeOf 14 = .ok (.iload_n 1, 1) := by decide +kernel
theorem dX5_timeOf_15 : decode cX5_timeOf 15 = .ok (.bipush 12, 2) := by decide +kernel
theorem dX5_timeOf_17 : decode cX5_timeOf 17 = .ok (.invokevirtual 74, 3) := by decide +kernel
theorem dX5_timeOf_20 : decode cX5_timeOf 20 = .ok (.ireturn, 1) := by decide +kernel
theorem dX5_timeOf_21 : decode cX5_timeOf 21 = .ok (.aload_n 0, 1) := by decide +kernel
theorem dX5_timeOf_22 : decode cX5_timeOf 22 = .ok (.getfield 10, 3) := by decide +kernel
theorem dX5_timeOf_25 : decode cX5_timeOf 25 = .ok (.getfield 71, 3) := by decide +kernel
theorem dX5_timeOf_28 : decode cX5_timeOf 28 = .ok (.iconst 1, 1) := by decide +kernel
theorem dX5_timeOf_29 : decode cX5_timeOf 29 = .ok (.if_icmp .ne 15, 3) := by decide +kernel
theorem dX5_timeOf_32 : decode cX5_timeOf 32 = .ok (.aload_n 0, 1) := by decide +kernel
theorem dX5_timeOf_33 : decode cX5_timeOf 33 = .ok (.getfield 10, 3) := by decide +kernel
theorem dX5_timeOf_36 : decode cX5_timeOf 36 = .ok (.iload_n 1, 1) := by decide +kernel
theorem dX5_timeOf_37 : decode cX5_timeOf 37 = .ok (.iload_n 1, 1) := by decide +kernel
theorem dX5_timeOf_38 : decode cX5_timeOf 38 = .ok (.invokevirtual 144, 3) := by decide +kernel
theorem dX5_timeOf_41 : decode cX5_timeOf 41 = .ok (.goto 4, 3) := by decide +kernel
theorem dX5_timeOf_44 : decode cX5_timeOf 44 = .ok (.iconst 0, 1) := by decide +kernel
theorem dX5_timeOf_45 : decode cX5_timeOf 45 = .ok (.ireturn, 1) := by decide +kernel
theorem dX5_bring_0 : decode cX5_bring 0 = .ok (.aload_n 0, 1) := by decide +kernel
theorem dX5_bring_1 : decode cX5_bring 1 = .ok (.getfield 10, 3) := by decide +kernel
theorem dX5_bring_4 : decode cX5_bring 4 = .ok (.iload_n 1, 1) := by decide +kernel
theorem dX5_bring_5 : decode cX5_bring 5 = .ok (.iload_n 2, 1) := by decide +kernel
theorem dX5_bring_6 : decode cX5_bring 6 = .ok (.iconst 0, 1) := by decide +kernel
theorem dX5_bring_7 : decode cX5_bring 7 = .ok (.invokevirtual 147, 3) := by decide +kernel
theorem dX5_bring_10 : decode cX5_bring 10 = .ok (.invokestatic 151, 3) := by decide +kernel
theorem dX5_bring_13 : decode cX5_bring 13 = .ok (.istore_n 3, 1) := by decide +kernel
theorem dX5_bring_14 : decode cX5_bring 14 = .ok (.aload_n 0, 1) := by decide +kernel
theorem dX5_bring_15 : decode cX5_bring 15 = .ok (.getfield 37, 3) := by decide +kernel
theorem dX5_bring_18 : decode cX5_bring 18 = .ok (.invokevirtual 86, 3) := by decide +kernel
theorem dX5_bring_21 : decode cX5_bring 21 = .ok (.aload_n 0, 1) := by decide +kernel
theorem dX5_bring_22 : decode cX5_bring 22 = .ok (.getfield 28, 3) := by decide +kernel
theorem dX5_bring_25 : decode cX5_bring 25 = .ok (.iload_n 1, 1) := by decide +kernel
theorem dX5_bring_26 : decode cX5_bring 26 = .ok (.iload_n 2, 1) := by decide +kernel
theorem dX5_bring_27 : decode cX5_bring 27 = .ok (.invokevirtual 179, 3) := by decide +kernel
theorem dX5_bring_30 : decode cX5_bring 30 = .ok (.aload_n 0, 1) := by decide +kernel
theorem dX5_bring_31 : decode cX5_bring 31 = .ok (.invokevirtual 93, 3) := by decide +kernel
theorem dX5_bring_34 : decode cX5_bring 34 = .ok (.ifCond .eq 7, 3) := by decide +kernel
theorem dX5_bring_37 : decode cX5_bring 37 = .ok (.iload_n 3, 1) := by decide +kernel
theorem dX5_bring_38 : decode cX5_bring 38 = .ok (.goto 5, 3) := by decide +kernel
theorem dX5_bring_41 : decode cX5_bring 41 = .ok (.bipush (-3), 2) := by decide +kernel
theorem dX5_bring_43 : decode cX5_bring 43 = .ok (.ireturn, 1) := by decide +kernel
theorem dX5_settled_0 : decode cX5_settled 0 = .ok (.aload_n 0, 1) := by decide +kernel
theorem dX5_settled_1 : decode cX5_settled 1 = .ok (.getfield 10, 3) := by decide +kernel
theorem dX5_settled_4 : decode cX5_settled 4 = .ok (.getfield 182, 3) := by decide +kernel
theorem dX5_settled_7 : decode cX5_settled 7 = .ok (.ifCond .eq 12, 3) := by decide +kernel
theorem dX5_settled_10 : decode cX5_settled 10 = .ok (.aload_n 0, 1) := by decide +kernel
theorem dX5_settled_11 : decode cX5_settled 11 = .ok (.getfield 37, 3) := by decide +kernel
theorem dX5_settled_14 : decode cX5_settled 14 = .ok (.invokevirtual 185, 3) := by decide +kernel
theorem dX5_settled_17 : decode cX5_settled 17 = .ok (.iconst 0, 1) := by decide +kernel
theorem dX5_settled_18 : decode cX5_settled 18 = .ok (.ireturn, 1) := by decide +kernel
theorem dX5_settled_19 : decode cX5_settled 19 = .ok (.aload_n 0, 1) := by decide +kernel
theorem dX5_settled_20 : decode cX5_settled 20 = .ok (.getfield 37, 3) := by decide +kernel
theorem dX5_settled_23 : decode cX5_settled 23 = .ok (.invokevirtual 188, 3) := by decide +kernel
theorem dX5_settled_26 : decode cX5_settled 26 = .ok (.aload_n 0, 1) := by decide +kernel
theorem dX5_settled_27 : decode cX5_settled 27 = .ok (.iconst 1, 1) := by decide +kernel
theorem dX5_settled_28 : decode cX5_settled 28 = .ok (.putfield 61, 3) := by decide +kernel
theorem dX5_settled_31 : decode cX5_settled 31 = .ok (.iconst 1, 1) := by decide +kernel
theorem dX5_settled_32 : decode cX5_settled 32 = .ok (.ireturn, 1) := by decide +kernel
theorem dX6_init_0 : decode cX6_init 0 = .ok (.aload_n 0, 1) := by decide +kernel
theorem dX6_init_1 : decode cX6_init 1 = .ok (.invokespecial 1, 3) := by decide +kernel
theorem dX6_init_4 : decode cX6_init 4 = .ok (.aload_n 0, 1) := by decide +kernel
theorem dX6_init_5 : decode cX6_init 5 = .ok (.iconst 2, 1) := by decide +kernel
theorem dX6_init_6 : decode cX6_init 6 = .ok (.putfield 7, 3) := by decide +kernel
theorem dX6_init_9 : decode cX6_init 9 = .ok (.aload_n 0, 1) := by decide +kernel
theorem dX6_init_10 : decode cX6_init 10 = .ok (.bipush 6, 2) := by decide +kernel
theorem dX6_init_12 : decode cX6_init 12 = .ok (.newarray .int, 2) := by decide +kernel
theorem dX6_init_14 : decode cX6_init 14 = .ok (.putfield 13, 3) := by decide +kernel
theorem dX6_init_17 : decode cX6_init 17 = .ok (.aload_n 0, 1) := by decide +kernel
theorem dX6_init_18 : decode cX6_init 18 = .ok (.sipush 1040, 3) := by decide +kernel
theorem dX6_init_21 : decode cX6_init 21 = .ok (.newarray .int, 2) := by decide +kernel
theorem dX6_init_23 : decode cX6_init 23 = .ok (.putfield 17, 3) := by decide +kernel
theorem dX6_init_26 : decode cX6_init 26 = .ok (.aload_n 0, 1) := by decide +kernel
theorem dX6_init_27 : decode cX6_init 27 = .ok (.sipush 190, 3) := by decide +kernel
theorem dX6_init_30 : decode cX6_init 30 = .ok (.newarray .int, 2) := by decide +kernel
theorem dX6_init_32 : decode cX6_init 32 = .ok (.putfield 20, 3) := by decide +kernel
theorem dX6_init_35 : decode cX6_init 35 = .ok (.aload_n 0, 1) := by decide +kernel
theorem dX6_init_36 : decode cX6_init 36 = .ok (.iconst 1, 1) := by decide +kernel
theorem dX6_init_37 : decode cX6_init 37 = .ok (.putfield 23, 3) := by decide +kernel
theorem dX6_init_40 : decode cX6_init 40 = .ok (.aload_n 0, 1) := by decide +kernel
theorem dX6_init_41 : decode cX6_init 41 = .ok (.ldc 27, 2) := by decide +kernel
theorem dX6_init_43 : decode cX6_init 43 = .ok (.newarray .int, 2) := by decide +kernel
theorem dX6_init_45 : decode cX6_init 45 = .ok (.putfield 28, 3) := by decide +kernel
theorem dX6_init_48 : decode cX6_init 48 = .ok (.aload_n 0, 1) := by decide +kernel
theorem dX6_init_49 : decode cX6_init 49 = .ok (.sipush 1230, 3) := by decide +kernel
theorem dX6_init_52 : decode cX6_init 52 = .ok (.newarray .int, 2) := by decide +kernel
theorem dX6_init_54 : decode cX6_init 54 = .ok (.putfield 31, 3) := by decide +kernel
theorem dX6_init_57 : decode cX6_init 57 = .ok (.aload_n 0, 1) := by decide +kernel
theorem dX6_init_58 : decode cX6_init 58 = .ok (.ldc 34, 2) := by decide +kernel
theorem dX6_init_60 : decode cX6_init 60 = .ok (.newarray .int, 2) := by decide +kernel
theorem dX6_init_62 : decode cX6_init 62 = .ok (.putfield 35, 3) := by decide +kernel
theorem dX6_init_65 : decode cX6_init 65 = .ok (.aload_n 0, 1) := by decide +kernel
theorem dX6_init_66 : decode cX6_init 66 = .ok (.sipush 1024, 3) := by decide +kernel
theorem dX6_init_69 : decode cX6_init 69 = .ok (.newarray .int, 2) := by decide +kernel
theorem dX6_init_71 : decode cX6_init 71 = .ok (.putfield 38, 3) := by decide +kernel
theorem dX6_init_74 : decode cX6_init 74 = .ok (.aload_n 0, 1) := by decide +kernel
theorem dX6_init_75 : decode cX6_init 75 = .ok (.bipush 7, 2) := by decide +kernel
theorem dX6_init_77 : decode cX6_init 77 = .ok (.newarray .int, 2) := by decide +kernel
theorem dX6_init_79 : decode cX6_init 79 = .ok (.putfield 41, 3) := by decide +kernel
theorem dX6_init_82 : decode cX6_init 82 = .ok (.aload_n 0, 1) := by decide +kernel
theorem dX6_init_83 : decode cX6_init 83 = .ok (.invokevirtual 44, 3) := by decide +kernel
theorem dX6_init_86 : decode cX6_init 86 = .ok (.return_, 1) := by decide +kernel
theorem dX6_in_0 : decode cX6_in 0 = .ok (.iload_n 0, 1) := by decide +kernel
theorem dX6_in_1 : decode cX6_in 1 = .ok (.iload_n 1, 1) := by decide +kernel
theorem dX6_in_2 : decode cX6_in 2 = .ok (.if_icmp .lt 12, 3) := by decide +kernel
theorem dX6_in_5 : decode cX6_in 5 = .ok (.iload_n 0, 1) := by decide +kernel
theorem dX6_in_6 : decode cX6_in 6 = .ok (.iload_n 2, 1) := by decide +kernel
theorem dX6_in_7 : decode cX6_in 7 = .ok (.if_icmp .gt 7, 3) := by decide +kernel
theorem dX6_in_10 : decode cX6_in 10 = .ok (.iconst 1, 1) := by decide +kernel
theorem dX6_in_11 : decode cX6_in 11 = .ok (.goto 4, 3) := by decide +kernel
theorem dX6_in_14 : decode cX6_in 14 = .ok (.iconst 0, 1) := by decide +kernel
theorem dX6_in_15 : decode cX6_in 15 = .ok (.ireturn, 1) := by decide +kernel
theorem dX6_isKeeper_0 : decode cX6_isKeeper 0 = .ok (.iload_n 1, 1) := by decide +kernel
theorem dX6_isKeeper_1 : decode cX6_isKeeper 1 = .ok (.iconst 0, 1) := by decide +kernel
theorem dX6_isKeeper_2 : decode cX6_isKeeper 2 = .ok (.aload_n 0, 1) := by decide +kernel
theorem dX6_isKeeper_3 : decode cX6_isKeeper 3 = .ok (.getfield 7, 3) := by decide +kernel
theorem dX6_isKeeper_6 : decode cX6_isKeeper 6 = .ok (.iconst 1, 1) := by decide +kernel
theorem dX6_isKeeper_7 : decode cX6_isKeeper 7 = .ok (.isub, 1) := by decide +kernel
theorem dX6_isKeeper_8 : decode cX6_isKeeper 8 = .ok (.invokestatic 47, 3) := by decide +kernel
theorem dX6_isKeeper_11 : decode cX6_isKeeper 11 = .ok (.ireturn, 1) := by decide +kernel
theorem dX6_clear_0 : decode cX6_clear 0 = .ok (.iconst 0, 1) := by decide +kernel
theorem dX6_clear_1 : decode cX6_clear 1 = .ok (.istore_n 1, 1) := by decide +kernel
theorem dX6_clear_2 : decode cX6_clear 2 = .ok (.iload_n 1, 1) := by decide +kernel
theorem dX6_clear_3 : decode cX6_clear 3 = .ok (.sipush 1040, 3) := by decide +kernel
theorem dX6_clear_6 : decode cX6_clear 6 = .ok (.if_icmp .ge 16, 3) := by decide +kernel
theorem dX6_clear_9 : decode cX6_clear 9 = .ok (.aload_n 0, 1) := by decide +kernel
theorem dX6_clear_10 : decode cX6_clear 10 = .ok (.getfield 17, 3) := by decide +kernel
theorem dX6_clear_13 : decode cX6_clear 13 = .ok (.iload_n 1, 1) := by decide +kernel
theorem dX6_clear_14 : decode cX6_clear 14 = .ok (.iconst 0, 1) := by decide +kernel
theorem dX6_clear_15 : decode cX6_clear 15 = .ok (.iastore, 1) := by decide +kernel
theorem dX6_clear_16 : decode cX6_clear 16 = .ok (.iinc 1 1, 3) := by decide +kernel
theorem dX6_clear_19 : decode cX6_clear 19 = .ok (.goto (-17), 3) := by decide +kernel
theorem dX6_clear_22 : decode cX6_clear 22 = .ok (.iconst 0, 1) := by decide +kernel
theorem dX6_clear_23 : decode cX6_clear 23 = .ok (.istore_n 1, 1) := by decide +kernel
theorem dX6_clear_24 : decode cX6_clear 24 = .ok (.iload_n 1, 1) := by decide +kernel
theorem dX6_clear_25 : decode cX6_clear 25 = .ok (.sipush 190, 3) := by decide +kernel
theorem dX6_clear_28 : decode cX6_clear 28 = .ok (.if_icmp .ge 16, 3) := by decide +kernel
theorem dX6_clear_31 : decode cX6_clear 31 = .ok (.aload_n 0, 1) := by decide +kernel
theorem dX6_clear_32 : decode cX6_clear 32 = .ok (.getfield 20, 3) := by decide +kernel
theorem dX6_clear_35 : decode cX6_clear 35 = .ok (.iload_n 1, 1) := by decide +kernel
theorem dX6_clear_36 : decode cX6_clear 36 = .ok (.iconst 0, 1) := by decide +kernel
theorem dX6_clear_37 : decode cX6_clear 37 = .ok (.iastore, 1) := by decide +kernel
theorem dX6_clear_38 : decode cX6_clear 38 = .ok (.iinc 1 1, 3) := by decide +kernel
theorem dX6_clear_41 : decode cX6_clear 41 = .ok (.goto (-17), 3) := by decide +kernel
theorem dX6_clear_44 : decode cX6_clear 44 = .ok (.iconst 0, 1) := by decide +kernel
theorem dX6_clear_45 : decode cX6_clear 45 = .ok (.istore_n 1, 1) := by decide +kernel
theorem dX6_clear_46 : decode cX6_clear 46 = .ok (.iload_n 1, 1) := by decide +kernel
theorem dX6_clear_47 : decode cX6_clear 47 = .ok (.bipush 6, 2) := by decide +kernel
theorem dX6_clear_49 : decode cX6_clear 49 = .ok (.if_icmp .ge 29, 3) := by decide +kernel
theorem dX6_clear_52 : decode cX6_clear 52 = .ok (.aload_n 0, 1) := by decide +kernel
theorem dX6_clear_53 : decode cX6_clear 53 = .ok (.getfield 13, 3) := by decide +kernel
theorem dX6_clear_56 : decode cX6_clear 56 = .ok (.iload_n 1, 1) := by decide +kernel
theorem dX6_clear_57 : decode cX6_clear 57 = .ok (.iload_n 1, 1) := by decide +kernel
theorem dX6_clear_58 : decode cX6_clear 58 = .ok (.ifCond .ne 8, 3) := by decide +kernel
theorem dX6_clear_61 : decode cX6_clear 61 = .ok (.bipush (-4), 2) := by decide +kernel
theorem dX6_clear_63 : decode cX6_clear 63 = .ok (.goto 8, 3) := by decide +kernel
theorem dX6_clear_66 : decode cX6_clear 66 = .ok (.iload_n 1, 1) := by decide +kernel
theorem dX6_clear_67 : decode cX6_clear 67 = .ok (.iconst 1, 1) := by decide +kernel
theorem dX6_clear_68 : decode cX6_clear 68 = .ok (.isub, 1) := by decide +kernel
theorem dX6_clear_69 : decode cX6_clear 69 = .ok (.iconst 2, 1) := by decide +kernel
theorem dX6_clear_70 : decode cX6_clear 70 = .ok (.idiv, 1) := by decide +kernel
theorem dX6_clear_71 : decode cX6_clear 71 = .ok (.iastore, 1) := by decide +kernel
theorem dX6_clear_72 : decode cX6_clear 72 = .ok (.iinc 1 1, 3) := by decide +kernel
theorem dX6_clear_75 : decode cX6_clear 75 = .ok (.goto (-29), 3) := by decide +kernel
theorem dX6_clear_78 : decode cX6_clear 78 = .ok (.aload_n 0, 1) := by decide +kernel
theorem dX6_clear_79 : decode cX6_clear 79 = .ok (.invokevirtual 51, 3) := by decide +kernel
theorem dX6_clear_82 : decode cX6_clear 82 = .ok (.aload_n 0, 1) := by decide +kernel
theorem dX6_clear_83 : decode cX6_clear 83 = .ok (.iconst 0, 1) := by decide +kernel
theorem dX6_clear_84 : decode cX6_clear 84 = .ok (.putfield 54, 3) := by decide +kernel
theorem dX6_clear_87 : decode cX6_clear 87 = .ok (.aload_n 0, 1) := by decide +kernel
theorem dX6_clear_88 : decode cX6_clear 88 = .ok (.iconst 0, 1) := by decide +kernel
theorem dX6_clear_89 : decode cX6_clear 89 = .ok (.putfield 57, 3) := by decide +kernel
theorem dX6_clear_92 : decode cX6_clear 92 = .ok (.aload_n 0, 1) := by decide +kernel
theorem dX6_clear_93 : decode cX6_clear 93 = .ok (.iconst 0, 1) := by decide +kernel
theorem dX6_clear_94 : decode cX6_clear 94 = .ok (.putfield 60, 3) := by decide +kernel
theorem dX6_clear_97 : decode cX6_clear 97 = .ok (.return_, 1) := by decide +kernel
theorem dX6_layHolders_0 : decode cX6_layHolders 0 = .ok (.iconst 0, 1) := by decide +kernel
theorem dX6_layHolders_1 : decode cX6_layHolders 1 = .ok (.istore_n 1, 1) := by decide +kernel
theorem dX6_layHolders_2 : decode cX6_layHolders 2 = .ok (.iload_n 1, 1) := by decide +kernel
end
section
theorem dX6_layHolders_3 : decode cX6_layHolders 3 = .ok (.aload_n 0, 1) := by decide +kernel
theorem dX6_layHolders_4 : decode cX6_layHolders 4 = .ok (.getfield 7, 3) := by decide +kernel
theorem dX6_layHolders_7 : decode cX6_layHolders 7 = .ok (.if_icmp .ge 34, 3) := by decide +kernel
theorem dX6_layHolders_10 : decode cX6_layHolders 10 = .ok (.aload_n 0, 1) := by decide +kernel
theorem dX6_layHolders_11 : decode cX6_layHolders 11 = .ok (.getfield 17, 3) := by decide +kernel
theorem dX6_layHolders_14 : decode cX6_layHolders 14 = .ok (.bipush 21, 2) := by decide +kernel
theorem dX6_layHolders_16 : decode cX6_layHolders 16 = .ok (.iload_n 1, 1) := by decide +kernel
theorem dX6_layHolders_17 : decode cX6_layHolders 17 = .ok (.imul, 1) := by decide +kernel
theorem dX6_layHolders_18 : decode cX6_layHolders 18 = .ok (.iconst 5, 1) := by decide +kernel
theorem dX6_layHolders_19 : decode cX6_layHolders 19 = .ok (.iadd, 1) := by decide +kernel
theorem dX6_layHolders_20 : decode cX6_layHolders 20 = .ok (.iload_n 1, 1) := by decide +kernel
theorem dX6_layHolders_21 : decode cX6_layHolders 21 = .ok (.ifCond .ne 7, 3) := by decide +kernel
theorem dX6_layHolders_24 : decode cX6_layHolders 24 = .ok (.iconst 0, 1) := by decide +kernel
theorem dX6_layHolders_25 : decode cX6_layHolders 25 = .ok (.goto 9, 3) := by decide +kernel
theorem dX6_layHolders_28 : decode cX6_layHolders 28 = .ok (.aload_n 0, 1) := by decide +kernel
theorem dX6_layHolders_29 : decode cX6_layHolders 29 = .ok (.getfield 13, 3) := by decide +kernel
theorem dX6_layHolders_32 : decode cX6_layHolders 32 = .ok (.iload_n 1, 1) := by decide +kernel
theorem dX6_layHolders_33 : decode cX6_layHolders 33 = .ok (.iaload, 1) := by decide +kernel
theorem dX6_layHolders_34 : decode cX6_layHolders 34 = .ok (.iastore, 1) := by decide +kernel
theorem dX6_layHolders_35 : decode cX6_layHolders 35 = .ok (.iinc 1 1, 3) := by decide +kernel
theorem dX6_layHolders_38 : decode cX6_layHolders 38 = .ok (.goto (-36), 3) := by decide +kernel
theorem dX6_layHolders_41 : decode cX6_layHolders 41 = .ok (.return_, 1) := by decide +kernel
theorem dX6_begin_0 : decode cX6_begin 0 = .ok (.iload_n 1, 1) := by decide +kernel
theorem dX6_begin_1 : decode cX6_begin 1 = .ok (.iconst 0, 1) := by decide +kernel
theorem dX6_begin_2 : decode cX6_begin 2 = .ok (.iconst 2, 1) := by decide +kernel
theorem dX6_begin_3 : decode cX6_begin 3 = .ok (.invokestatic 47, 3) := by decide +kernel
theorem dX6_begin_6 : decode cX6_begin 6 = .ok (.ifCond .eq 13, 3) := by decide +kernel
theorem dX6_begin_9 : decode cX6_begin 9 = .ok (.iload_n 2, 1) := by decide +kernel
theorem dX6_begin_10 : decode cX6_begin 10 = .ok (.iconst 2, 1) := by decide +kernel
theorem dX6_begin_11 : decode cX6_begin 11 = .ok (.bipush 6, 2) := by decide +kernel
theorem dX6_begin_13 : decode cX6_begin 13 = .ok (.invokestatic 47, 3) := by decide +kernel
theorem dX6_begin_16 : decode cX6_begin 16 = .ok (.ifCond .ne 5, 3) := by decide +kernel
theorem dX6_begin_19 : decode cX6_begin 19 = .ok (.iconst (-1), 1) := by decide +kernel
theorem dX6_begin_20 : decode cX6_begin 20 = .ok (.ireturn, 1) := by decide +kernel
theorem dX6_begin_21 : decode cX6_begin 21 = .ok (.aload_n 0, 1) := by decide +kernel
theorem dX6_begin_22 : decode cX6_begin 22 = .ok (.getfield 63, 3) := by decide +kernel
theorem dX6_begin_25 : decode cX6_begin 25 = .ok (.bipush 10, 2) := by decide +kernel
theorem dX6_begin_27 : decode cX6_begin 27 = .ok (.if_icmp .ne 6, 3) := by decide +kernel
theorem dX6_begin_30 : decode cX6_begin 30 = .ok (.bipush (-3), 2) := by decide +kernel
theorem dX6_begin_32 : decode cX6_begin 32 = .ok (.ireturn, 1) := by decide +kernel
theorem dX6_begin_33 : decode cX6_begin 33 = .ok (.aload_n 0, 1) := by decide +kernel
theorem dX6_begin_34 : decode cX6_begin 34 = .ok (.dup, 1) := by decide +kernel
theorem dX6_begin_35 : decode cX6_begin 35 = .ok (.getfield 63, 3) := by decide +kernel
theorem dX6_begin_38 : decode cX6_begin 38 = .ok (.iconst 1, 1) := by decide +kernel
theorem dX6_begin_39 : decode cX6_begin 39 = .ok (.iadd, 1) := by decide +kernel
theorem dX6_begin_40 : decode cX6_begin 40 = .ok (.putfield 63, 3) := by decide +kernel
theorem dX6_begin_43 : decode cX6_begin 43 = .ok (.aload_n 0, 1) := by decide +kernel
theorem dX6_begin_44 : decode cX6_begin 44 = .ok (.iload_n 1, 1) := by decide +kernel
theorem dX6_begin_45 : decode cX6_begin 45 = .ok (.putfield 66, 3) := by decide +kernel
theorem dX6_begin_48 : decode cX6_begin 48 = .ok (.aload_n 0, 1) := by decide +kernel
theorem dX6_begin_49 : decode cX6_begin 49 = .ok (.iload_n 2, 1) := by decide +kernel
theorem dX6_begin_50 : decode cX6_begin 50 = .ok (.putfield 7, 3) := by decide +kernel
theorem dX6_begin_53 : decode cX6_begin 53 = .ok (.aload_n 0, 1) := by decide +kernel
theorem dX6_begin_54 : decode cX6_begin 54 = .ok (.invokevirtual 44, 3) := by decide +kernel
theorem dX6_begin_57 : decode cX6_begin 57 = .ok (.aload_n 0, 1) := by decide +kernel
theorem dX6_begin_58 : decode cX6_begin 58 = .ok (.getfield 7, 3) := by decide +kernel
theorem dX6_begin_61 : decode cX6_begin 61 = .ok (.ireturn, 1) := by decide +kernel
theorem dX6_parent_0 : decode cX6_parent 0 = .ok (.iload_n 1, 1) := by decide +kernel
theorem dX6_parent_1 : decode cX6_parent 1 = .ok (.iconst 1, 1) := by decide +kernel
theorem dX6_parent_2 : decode cX6_parent 2 = .ok (.aload_n 0, 1) := by decide +kernel
theorem dX6_parent_3 : decode cX6_parent 3 = .ok (.getfield 7, 3) := by decide +kernel
theorem dX6_parent_6 : decode cX6_parent 6 = .ok (.iconst 1, 1) := by decide +kernel
theorem dX6_parent_7 : decode cX6_parent 7 = .ok (.isub, 1) := by decide +kernel
theorem dX6_parent_8 : decode cX6_parent 8 = .ok (.invokestatic 47, 3) := by decide +kernel
theorem dX6_parent_11 : decode cX6_parent 11 = .ok (.ifCond .eq 14, 3) := by decide +kernel
theorem dX6_parent_14 : decode cX6_parent 14 = .ok (.iload_n 2, 1) := by decide +kernel
theorem dX6_parent_15 : decode cX6_parent 15 = .ok (.iconst 0, 1) := by decide +kernel
theorem dX6_parent_16 : decode cX6_parent 16 = .ok (.iload_n 1, 1) := by decide +kernel
theorem dX6_parent_17 : decode cX6_parent 17 = .ok (.iconst 1, 1) := by decide +kernel
theorem dX6_parent_18 : decode cX6_parent 18 = .ok (.isub, 1) := by decide +kernel
theorem dX6_parent_19 : decode cX6_parent 19 = .ok (.invokestatic 47, 3) := by decide +kernel
theorem dX6_parent_22 : decode cX6_parent 22 = .ok (.ifCond .ne 5, 3) := by decide +kernel
theorem dX6_parent_25 : decode cX6_parent 25 = .ok (.iconst (-1), 1) := by decide +kernel
theorem dX6_parent_26 : decode cX6_parent 26 = .ok (.ireturn, 1) := by decide +kernel
theorem dX6_parent_27 : decode cX6_parent 27 = .ok (.aload_n 0, 1) := by decide +kernel
theorem dX6_parent_28 : decode cX6_parent 28 = .ok (.getfield 66, 3) := by decide +kernel
theorem dX6_parent_31 : decode cX6_parent 31 = .ok (.iconst 2, 1) := by decide +kernel
theorem dX6_parent_32 : decode cX6_parent 32 = .ok (.if_icmp .ne 10, 3) := by decide +kernel
theorem dX6_parent_35 : decode cX6_parent 35 = .ok (.aload_n 0, 1) := by decide +kernel
theorem dX6_parent_36 : decode cX6_parent 36 = .ok (.getfield 57, 3) := by decide +kernel
theorem dX6_parent_39 : decode cX6_parent 39 = .ok (.ifCond .eq 6, 3) := by decide +kernel
theorem dX6_parent_42 : decode cX6_parent 42 = .ok (.bipush (-2), 2) := by decide +kernel
theorem dX6_parent_44 : decode cX6_parent 44 = .ok (.ireturn, 1) := by decide +kernel
theorem dX6_parent_45 : decode cX6_parent 45 = .ok (.aload_n 0, 1) := by decide +kernel
theorem dX6_parent_46 : decode cX6_parent 46 = .ok (.getfield 13, 3) := by decide +kernel
theorem dX6_parent_49 : decode cX6_parent 49 = .ok (.iload_n 1, 1) := by decide +kernel
theorem dX6_parent_50 : decode cX6_parent 50 = .ok (.iaload, 1) := by decide +kernel
theorem dX6_parent_51 : decode cX6_parent 51 = .ok (.istore_n 3, 1) := by decide +kernel
theorem dX6_parent_52 : decode cX6_parent 52 = .ok (.aload_n 0, 1) := by decide +kernel
theorem dX6_parent_53 : decode cX6_parent 53 = .ok (.getfield 13, 3) := by decide +kernel
theorem dX6_parent_56 : decode cX6_parent 56 = .ok (.iload_n 1, 1) := by decide +kernel
theorem dX6_parent_57 : decode cX6_parent 57 = .ok (.iload_n 2, 1) := by decide +kernel
theorem dX6_parent_58 : decode cX6_parent 58 = .ok (.iastore, 1) := by decide +kernel
theorem dX6_parent_59 : decode cX6_parent 59 = .ok (.aload_n 0, 1) := by decide +kernel
theorem dX6_parent_60 : decode cX6_parent 60 = .ok (.invokevirtual 51, 3) := by decide +kernel
theorem dX6_parent_63 : decode cX6_parent 63 = .ok (.iload_n 3, 1) := by decide +kernel
theorem dX6_parent_64 : decode cX6_parent 64 = .ok (.ireturn, 1) := by decide +kernel
theorem dX6_pairAt_0 : decode cX6_pairAt 0 = .ok (.sipush 140, 3) := by decide +kernel
theorem dX6_pairAt_3 : decode cX6_pairAt 3 = .ok (.bipush 25, 2) := by decide +kernel
theorem dX6_pairAt_5 : decode cX6_pairAt 5 = .ok (.bipush 6, 2) := by decide +kernel
theorem dX6_pairAt_7 : decode cX6_pairAt 7 = .ok (.iload_n 1, 1) := by decide +kernel
theorem dX6_pairAt_8 : decode cX6_pairAt 8 = .ok (.imul, 1) := by decide +kernel
theorem dX6_pairAt_9 : decode cX6_pairAt 9 = .ok (.iload_n 2, 1) := by decide +kernel
theorem dX6_pairAt_10 : decode cX6_pairAt 10 = .ok (.iadd, 1) := by decide +kernel
theorem dX6_pairAt_11 : decode cX6_pairAt 11 = .ok (.imul, 1) := by decide +kernel
theorem dX6_pairAt_12 : decode cX6_pairAt 12 = .ok (.iadd, 1) := by decide +kernel
theorem dX6_pairAt_13 : decode cX6_pairAt 13 = .ok (.ireturn, 1) := by decide +kernel
theorem dX6_send_0 : decode cX6_send 0 = .ok (.aload_n 0, 1) := by decide +kernel
theorem dX6_send_1 : decode cX6_send 1 = .ok (.iload_n 1, 1) := by decide +kernel
theorem dX6_send_2 : decode cX6_send 2 = .ok (.iload_n 2, 1) := by decide +kernel
theorem dX6_send_3 : decode cX6_send 3 = .ok (.invokevirtual 69, 3) := by decide +kernel
theorem dX6_send_6 : decode cX6_send 6 = .ok (.istore 5, 2) := by decide +kernel
theorem dX6_send_8 : decode cX6_send 8 = .ok (.aload_n 0, 1) := by decide +kernel
theorem dX6_send_9 : decode cX6_send 9 = .ok (.getfield 17, 3) := by decide +kernel
theorem dX6_send_12 : decode cX6_send 12 = .ok (.iload 5, 2) := by decide +kernel
theorem dX6_send_14 : decode cX6_send 14 = .ok (.iaload, 1) := by decide +kernel
theorem dX6_send_15 : decode cX6_send 15 = .ok (.istore 6, 2) := by decide +kernel
theorem dX6_send_17 : decode cX6_send 17 = .ok (.iload 6, 2) := by decide +kernel
theorem dX6_send_19 : decode cX6_send 19 = .ok (.bipush 12, 2) := by decide +kernel
theorem dX6_send_21 : decode cX6_send 21 = .ok (.if_icmp .ne 9, 3) := by decide +kernel
theorem dX6_send_24 : decode cX6_send 24 = .ok (.aload_n 0, 1) := by decide +kernel
theorem dX6_send_25 : decode cX6_send 25 = .ok (.iconst 1, 1) := by decide +kernel
theorem dX6_send_26 : decode cX6_send 26 = .ok (.putfield 73, 3) := by decide +kernel
theorem dX6_send_29 : decode cX6_send 29 = .ok (.return_, 1) := by decide +kernel
theorem dX6_send_30 : decode cX6_send 30 = .ok (.aload_n 0, 1) := by decide +kernel
theorem dX6_send_31 : decode cX6_send 31 = .ok (.getfield 17, 3) := by decide +kernel
theorem dX6_send_34 : decode cX6_send 34 = .ok (.iload 5, 2) := by decide +kernel
theorem dX6_send_36 : decode cX6_send 36 = .ok (.iconst 1, 1) := by decide +kernel
theorem dX6_send_37 : decode cX6_send 37 = .ok (.iadd, 1) := by decide +kernel
theorem dX6_send_38 : decode cX6_send 38 = .ok (.iconst 2, 1) := by decide +kernel
theorem dX6_send_39 : decode cX6_send 39 = .ok (.iload 6, 2) := by decide +kernel
theorem dX6_send_41 : decode cX6_send 41 = .ok (.imul, 1) := by decide +kernel
theorem dX6_send_42 : decode cX6_send 42 = .ok (.iadd, 1) := by decide +kernel
theorem dX6_send_43 : decode cX6_send 43 = .ok (.iload_n 3, 1) := by decide +kernel
theorem dX6_send_44 : decode cX6_send 44 = .ok (.iastore, 1) := by decide +kernel
theorem dX6_send_45 : decode cX6_send 45 = .ok (.aload_n 0, 1) := by decide +kernel
theorem dX6_send_46 : decode cX6_send 46 = .ok (.getfield 17, 3) := by decide +kernel
theorem dX6_send_49 : decode cX6_send 49 = .ok (.iload 5, 2) := by decide +kernel
theorem dX6_send_51 : decode cX6_send 51 = .ok (.iconst 2, 1) := by decide +kernel
theorem dX6_send_52 : decode cX6_send 52 = .ok (.iadd, 1) := by decide +kernel
theorem dX6_send_53 : decode cX6_send 53 = .ok (.iconst 2, 1) := by decide +kernel
theorem dX6_send_54 : decode cX6_send 54 = .ok (.iload 6, 2) := by decide +kernel
theorem dX6_send_56 : decode cX6_send 56 = .ok (.imul, 1) := by decide +kernel
theorem dX6_send_57 : decode cX6_send 57 = .ok (.iadd, 1) := by decide +kernel
theorem dX6_send_58 : decode cX6_send 58 = .ok (.iload 4, 2) := by decide +kernel
theorem dX6_send_60 : decode cX6_send 60 = .ok (.iastore, 1) := by decide +kernel
theorem dX6_send_61 : decode cX6_send 61 = .ok (.aload_n 0, 1) := by decide +kernel
theorem dX6_send_62 : decode cX6_send 62 = .ok (.getfield 17, 3) := by decide +kernel
theorem dX6_send_65 : decode cX6_send 65 = .ok (.iload 5, 2) := by decide +kernel
theorem dX6_send_67 : decode cX6_send 67 = .ok (.dup2, 1) := by decide +kernel
theorem dX6_send_68 : decode cX6_send 68 = .ok (.iaload, 1) := by decide +kernel
theorem dX6_send_69 : decode cX6_send 69 = .ok (.iconst 1, 1) := by decide +kernel
theorem dX6_send_70 : decode cX6_send 70 = .ok (.iadd, 1) := by decide +kernel
theorem dX6_send_71 : decode cX6_send 71 = .ok (.iastore, 1) := by decide +kernel
theorem dX6_send_72 : decode cX6_send 72 = .ok (.aload_n 0, 1) := by decide +kernel
theorem dX6_send_73 : decode cX6_send 73 = .ok (.getfield 23, 3) := by decide +kernel
theorem dX6_send_76 : decode cX6_send 76 = .ok (.ifCond .eq 16, 3) := by decide +kernel
theorem dX6_send_79 : decode cX6_send 79 = .ok (.aload_n 0, 1) := by decide +kernel
theorem dX6_send_80 : decode cX6_send 80 = .ok (.getfield 20, 3) := by decide +kernel
theorem dX6_send_83 : decode cX6_send 83 = .ok (.bipush 7, 2) := by decide +kernel
theorem dX6_send_85 : decode cX6_send 85 = .ok (.iload_n 3, 1) := by decide +kernel
theorem dX6_send_86 : decode cX6_send 86 = .ok (.iadd, 1) := by decide +kernel
theorem dX6_send_87 : decode cX6_send 87 = .ok (.dup2, 1) := by decide +kernel
theorem dX6_send_88 : decode cX6_send 88 = .ok (.iaload, 1) := by decide +kernel
theorem dX6_send_89 : decode cX6_send 89 = .ok (.iconst 1, 1) := by decide +kernel
theorem dX6_send_90 : decode cX6_send 90 = .ok (.iadd, 1) := by decide +kernel
theorem dX6_send_91 : decode cX6_send 91 = .ok (.iastore, 1) := by decide +kernel
theorem dX6_send_92 : decode cX6_send 92 = .ok (.return_, 1) := by decide +kernel
theorem dX6_dropEldest_0 : decode cX6_dropEldest 0 = .ok (.iconst 1, 1) := by decide +kernel
theorem dX6_dropEldest_1 : decode cX6_dropEldest 1 = .ok (.istore_n 2, 1) := by decide +kernel
theorem dX6_dropEldest_2 : decode cX6_dropEldest 2 = .ok (.iload_n 2, 1) := by decide +kernel
theorem dX6_dropEldest_3 : decode cX6_dropEldest 3 = .ok (.bipush 23, 2) := by decide +kernel
theorem dX6_dropEldest_5 : decode cX6_dropEldest 5 = .ok (.if_icmp .ge 27, 3) := by decide +kernel
theorem dX6_dropEldest_8 : decode cX6_dropEldest 8 = .ok (.aload_n 0, 1) := by decide +kernel
theorem dX6_dropEldest_9 : decode cX6_dropEldest 9 = .ok (.getfield 17, 3) := by decide +kernel
theorem dX6_dropEldest_12 : decode cX6_dropEldest 12 = .ok (.iload_n 1, 1) := by decide +kernel
theorem dX6_dropEldest_13 : decode cX6_dropEldest 13 = .ok (.iload_n 2, 1) := by decide +kernel
theorem dX6_dropEldest_14 : decode cX6_dropEldest 14 = .ok (.iadd, 1) := by decide +kernel
theorem dX6_dropEldest_15 : decode cX6_dropEldest 15 = .ok (.aload_n 0, 1) := by decide +kernel
theorem dX6_dropEldest_16 : decode cX6_dropEldest 16 = .ok (.getfield 17, 3) := by decide +kernel
theorem dX6_dropEldest_19 : decode cX6_dropEldest 19 = .ok (.iload_n 1, 1) := by decide +kernel
theorem dX6_dropEldest_20 : decode cX6_dropEldest 20 = .ok (.iload_n 2, 1) := by decide +kernel
theorem dX6_dropEldest_21 : decode cX6_dropEldest 21 = .ok (.iadd, 1) := by decide +kernel
theorem dX6_dropEldest_22 : decode cX6_dropEldest 22 = .ok (.iconst 2, 1) := by decide +kernel
theorem dX6_dropEldest_23 : decode cX6_dropEldest 23 = .ok (.iadd, 1) := by decide +kernel
theorem dX6_dropEldest_24 : decode cX6_dropEldest 24 = .ok (.iaload, 1) := by decide +kernel
theorem dX6_dropEldest_25 : decode cX6_dropEldest 25 = .ok (.iastore, 1) := by decide +kernel
theorem dX6_dropEldest_26 : decode cX6_dropEldest 26 = .ok (.iinc 2 1, 3) := by decide +kernel
theorem dX6_dropEldest_29 : decode cX6_dropEldest 29 = .ok (.goto (-27), 3) := by decide +kernel
theorem dX6_dropEldest_32 : decode cX6_dropEldest 32 = .ok (.aload_n 0, 1) := by decide +kernel
theorem dX6_dropEldest_33 : decode cX6_dropEldest 33 = .ok (.getfield 17, 3) := by decide +kernel
theorem dX6_dropEldest_36 : decode cX6_dropEldest 36 = .ok (.iload_n 1, 1) := by decide +kernel
theorem dX6_dropEldest_37 : decode cX6_dropEldest 37 = .ok (.bipush 23, 2) := by decide +kernel
theorem dX6_dropEldest_39 : decode cX6_dropEldest 39 = .ok (.iadd, 1) := by decide +kernel
theorem dX6_dropEldest_40 : decode cX6_dropEldest 40 = .ok (.iconst 0, 1) := by decide +kernel
theorem dX6_dropEldest_41 : decode cX6_dropEldest 41 = .ok (.iastore, 1) := by decide +kernel
theorem dX6_dropEldest_42 : decode cX6_dropEldest 42 = .ok (.aload_n 0, 1) := by decide +kernel
theorem dX6_dropEldest_43 : decode cX6_dropEldest 43 = .ok (.getfield 17, 3) := by decide +kernel
theorem dX6_dropEldest_46 : decode cX6_dropEldest 46 = .ok (.iload_n 1, 1) := by decide +kernel
theorem dX6_dropEldest_47 : decode cX6_dropEldest 47 = .ok (.bipush 24, 2) := by decide +kernel
theorem dX6_dropEldest_49 : decode cX6_dropEldest 49 = .ok (.iadd, 1) := by decide +kernel
theorem dX6_dropEldest_50 : decode cX6_dropEldest 50 = .ok (.iconst 0, 1) := by decide +kernel
theorem dX6_dropEldest_51 : decode cX6_dropEldest 51 = .ok (.iastore, 1) := by decide +kernel
theorem dX6_dropEldest_52 : decode cX6_dropEldest 52 = .ok (.aload_n 0, 1) := by decide +kernel
theorem dX6_dropEldest_53 : decode cX6_dropEldest 53 = .ok (.getfield 17, 3) := by decide +kernel
theorem dX6_dropEldest_56 : decode cX6_dropEldest 56 = .ok (.iload_n 1, 1) := by decide +kernel
theorem dX6_dropEldest_57 : decode cX6_dropEldest 57 = .ok (.dup2, 1) := by decide +kernel
theorem dX6_dropEldest_58 : decode cX6_dropEldest 58 = .ok (.iaload, 1) := by decide +kernel
theorem dX6_dropEldest_59 : decode cX6_dropEldest 59 = .ok (.iconst 1, 1) := by decide +kernel
theorem dX6_dropEldest_60 : decode cX6_dropEldest 60 = .ok (.isub, 1) := by decide +kernel
theorem dX6_dropEldest_61 : decode cX6_dropEldest 61 = .ok (.iastore, 1) := by decide +kernel
theorem dX6_dropEldest_62 : decode cX6_dropEldest 62 = .ok (.return_, 1) := by decide +kernel
theorem dX6_askAll_0 : decode cX6_askAll 0 = .ok (.iconst 0, 1) := by decide +kernel
theorem dX6_askAll_1 : decode cX6_askAll 1 = .ok (.istore_n 3, 1) := by decide +kernel
theorem dX6_askAll_2 : decode cX6_askAll 2 = .ok (.iload_n 3, 1) := by decide +kernel
theorem dX6_askAll_3 : decode cX6_askAll 3 = .ok (.aload_n 0, 1) := by decide +kernel
theorem dX6_askAll_4 : decode cX6_askAll 4 = .ok (.getfield 7, 3) := by decide +kernel
theorem dX6_askAll_7 : decode cX6_askAll 7 = .ok (.if_icmp .ge 22, 3) := by decide +kernel
theorem dX6_askAll_10 : decode cX6_askAll 10 = .ok (.iload_n 3, 1) := by decide +kernel
theorem dX6_askAll_11 : decode cX6_askAll 11 = .ok (.iload_n 1, 1) := by decide +kernel
theorem dX6_askAll_12 : decode cX6_askAll 12 = .ok (.if_icmp .eq 11, 3) := by decide +kernel
theorem dX6_askAll_15 : decode cX6_askAll 15 = .ok (.aload_n 0, 1) := by decide +kernel
theorem dX6_askAll_16 : decode cX6_askAll 16 = .ok (.iload_n 1, 1) := by decide +kernel
theorem dX6_askAll_17 : decode cX6_askAll 17 = .ok (.iload_n 3, 1) := by decide +kernel
theorem dX6_askAll_18 : decode cX6_askAll 18 = .ok (.iconst 0, 1) := by decide +kernel
theorem dX6_askAll_19 : decode cX6_askAll 19 = .ok (.iload_n 2, 1) := by decide +kernel
theorem dX6_askAll_20 : decode cX6_askAll 20 = .ok (.invokevirtual 76, 3) := by decide +kernel
theorem dX6_askAll_23 : decode cX6_askAll 23 = .ok (.iinc 3 1, 3) := by decide +kernel
theorem dX6_askAll_26 : decode cX6_askAll 26 = .ok (.goto (-24), 3) := by decide +kernel
theorem dX6_askAll_29 : decode cX6_askAll 29 = .ok (.return_, 1) := by decide +kernel
theorem dX6_sent_0 : decode cX6_sent 0 = .ok (.aload_n 0, 1) := by decide +kernel
theorem dX6_sent_1 : decode cX6_sent 1 = .ok (.getfield 20, 3) := by decide +kernel
theorem dX6_sent_4 : decode cX6_sent 4 = .ok (.bipush 7, 2) := by decide +kernel
theorem dX6_sent_6 : decode cX6_sent 6 = .ok (.iaload, 1) := by decide +kernel
theorem dX6_sent_7 : decode cX6_sent 7 = .ok (.aload_n 0, 1) := by decide +kernel
theorem dX6_sent_8 : decode cX6_sent 8 = .ok (.getfield 20, 3) := by decide +kernel
theorem dX6_sent_11 : decode cX6_sent 11 = .ok (.bipush 8, 2) := by decide +kernel
theorem dX6_sent_13 : decode cX6_sent 13 = .ok (.iaload, 1) := by decide +kernel
theorem dX6_sent_14 : decode cX6_sent 14 = .ok (.iadd, 1) := by decide +kernel
theorem dX6_sent_15 : decode cX6_sent 15 = .ok (.aload_n 0, 1) := by decide +kernel
theorem dX6_sent_16 : decode cX6_sent 16 = .ok (.getfield 20, 3) := by decide +kernel
theorem dX6_sent_19 : decode cX6_sent 19 = .ok (.bipush 9, 2) := by decide +kernel
theorem dX6_sent_21 : decode cX6_sent 21 = .ok (.iaload, 1) := by decide +kernel
theorem dX6_sent_22 : decode cX6_sent 22 = .ok (.iadd, 1) := by decide +kernel
theorem dX6_sent_23 : decode cX6_sent 23 = .ok (.ireturn, 1) := by decide +kernel
theorem dX6_comesIn_0 : decode cX6_comesIn 0 = .ok (.aload_n 0, 1) := by decide +kernel
theorem dX6_comesIn_1 : decode cX6_comesIn 1 = .ok (.getfield 17, 3) := by decide +kernel
theorem dX6_comesIn_4 : decode cX6_comesIn 4 = .ok (.bipush 21, 2) := by decide +kernel
theorem dX6_comesIn_6 : decode cX6_comesIn 6 = .ok (.iload_n 1, 1) := by decide +kernel
theorem dX6_comesIn_7 : decode cX6_comesIn 7 = .ok (.imul, 1) := by decide +kernel
theorem dX6_comesIn_8 : decode cX6_comesIn 8 = .ok (.iconst 0, 1) := by decide +kernel
theorem dX6_comesIn_9 : decode cX6_comesIn 9 = .ok (.iadd, 1) := by decide +kernel
theorem dX6_comesIn_10 : decode cX6_comesIn 10 = .ok (.iconst 2, 1) := by decide +kernel
theorem dX6_comesIn_11 : decode cX6_comesIn 11 = .ok (.iastore, 1) := by decide +kernel
theorem dX6_comesIn_12 : decode cX6_comesIn 12 = .ok (.aload_n 0, 1) := by decide +kernel
theorem dX6_comesIn_13 : decode cX6_comesIn 13 = .ok (.getfield 23, 3) := by decide +kernel
theorem dX6_comesIn_16 : decode cX6_comesIn 16 = .ok (.ifCond .ne 4, 3) := by decide +kernel
theorem dX6_comesIn_19 : decode cX6_comesIn 19 = .ok (.return_, 1) := by decide +kernel
theorem dX6_comesIn_20 : decode cX6_comesIn 20 = .ok (.bipush 59, 2) := by decide +kernel
theorem dX6_comesIn_22 : decode cX6_comesIn 22 = .ok (.istore_n 2, 1) := by decide +kernel
theorem dX6_comesIn_23 : decode cX6_comesIn 23 = .ok (.iload_n 2, 1) := by decide +kernel
theorem dX6_comesIn_24 : decode cX6_comesIn 24 = .ok (.ifCond .le 50, 3) := by decide +kernel
theorem dX6_comesIn_27 : decode cX6_comesIn 27 = .ok (.iconst 0, 1) := by decide +kernel
theorem dX6_comesIn_28 : decode cX6_comesIn 28 = .ok (.istore_n 3, 1) := by decide +kernel
theorem dX6_comesIn_29 : decode cX6_comesIn 29 = .ok (.iload_n 3, 1) := by decide +kernel
theorem dX6_comesIn_30 : decode cX6_comesIn 30 = .ok (.iconst 3, 1) := by decide +kernel
theorem dX6_comesIn_31 : decode cX6_comesIn 31 = .ok (.if_icmp .ge 37, 3) := by decide +kernel
theorem dX6_comesIn_34 : decode cX6_comesIn 34 = .ok (.aload_n 0, 1) := by decide +kernel
theorem dX6_comesIn_35 : decode cX6_comesIn 35 = .ok (.getfield 20, 3) := by decide +kernel
theorem dX6_comesIn_38 : decode cX6_comesIn 38 = .ok (.bipush 10, 2) := by decide +kernel
theorem dX6_comesIn_40 : decode cX6_comesIn 40 = .ok (.iconst 3, 1) := by decide +kernel
theorem dX6_comesIn_41 : decode cX6_comesIn 41 = .ok (.iload_n 2, 1) := by decide +kernel
theorem dX6_comesIn_42 : decode cX6_comesIn 42 = .ok (.imul, 1) := by decide +kernel
theorem dX6_comesIn_43 : decode cX6_comesIn 43 = .ok (.iadd, 1) := by decide +kernel
theorem dX6_comesIn_44 : decode cX6_comesIn 44 = .ok (.iload_n 3, 1) := by decide +kernel
theorem dX6_comesIn_45 : decode cX6_comesIn 45 = .ok (.iadd, 1) := by decide +kernel
theorem dX6_comesIn_46 : decode cX6_comesIn 46 = .ok (.aload_n 0, 1) := by decide +kernel
theorem dX6_comesIn_47 : decode cX6_comesIn 47 = .ok (.getfield 20, 3) := by decide +kernel
theorem dX6_comesIn_50 : decode cX6_comesIn 50 = .ok (.bipush 10, 2) := by decide +kernel
theorem dX6_comesIn_52 : decode cX6_comesIn 52 = .ok (.iconst 3, 1) := by decide +kernel
theorem dX6_comesIn_53 : decode cX6_comesIn 53 = .ok (.iload_n 2, 1) := by decide +kernel
theorem dX6_comesIn_54 : decode cX6_comesIn 54 = .ok (.imul, 1) := by decide +kernel
theorem dX6_comesIn_55 : decode cX6_comesIn 55 = .ok (.iadd, 1) := by decide +kernel
theorem dX6_comesIn_56 : decode cX6_comesIn 56 = .ok (.iconst 3, 1) := by decide +kernel
theorem dX6_comesIn_57 : decode cX6_comesIn 57 = .ok (.isub, 1) := by decide +kernel
theorem dX6_comesIn_58 : decode cX6_comesIn 58 = .ok (.iload_n 3, 1) := by decide +kernel
theorem dX6_comesIn_59 : decode cX6_comesIn 59 = .ok (.iadd, 1) := by decide +kernel
theorem dX6_comesIn_60 : decode cX6_comesIn 60 = .ok (.iaload, 1) := by decide +kernel
theorem dX6_comesIn_61 : decode cX6_comesIn 61 = .ok (.iastore, 1) := by decide +kernel
theorem dX6_comesIn_62 : decode cX6_comesIn 62 = .ok (.iinc 3 1, 3) := by decide +kernel
theorem dX6_comesIn_65 : decode cX6_comesIn 65 = .ok (.goto (-36), 3) := by decide +kernel
theorem dX6_comesIn_68 : decode cX6_comesIn 68 = .ok (.iinc 2 (-1), 3) := by decide +kernel
theorem dX6_comesIn_71 : decode cX6_comesIn 71 = .ok (.goto (-48), 3) := by decide +kernel
theorem dX6_comesIn_74 : decode cX6_comesIn 74 = .ok (.aload_n 0, 1) := by decide +kernel
theorem dX6_comesIn_75 : decode cX6_comesIn 75 = .ok (.getfield 20, 3) := by decide +kernel
theorem dX6_comesIn_78 : decode cX6_comesIn 78 = .ok (.bipush 10, 2) := by decide +kernel
theorem dX6_comesIn_80 : decode cX6_comesIn 80 = .ok (.iload_n 1, 1) := by decide +kernel
theorem dX6_comesIn_81 : decode cX6_comesIn 81 = .ok (.iastore, 1) := by decide +kernel
theorem dX6_comesIn_82 : decode cX6_comesIn 82 = .ok (.aload_n 0, 1) := by decide +kernel
theorem dX6_comesIn_83 : decode cX6_comesIn 83 = .ok (.getfield 20, 3) := by decide +kernel
theorem dX6_comesIn_86 : decode cX6_comesIn 86 = .ok (.bipush 11, 2) := by decide +kernel
theorem dX6_comesIn_88 : decode cX6_comesIn 88 = .ok (.aload_n 0, 1) := by decide +kernel
theorem dX6_comesIn_89 : decode cX6_comesIn 89 = .ok (.getfield 20, 3) := by decide +kernel
theorem dX6_comesIn_92 : decode cX6_comesIn 92 = .ok (.iconst 0, 1) := by decide +kernel
theorem dX6_comesIn_93 : decode cX6_comesIn 93 = .ok (.iaload, 1) := by decide +kernel
theorem dX6_comesIn_94 : decode cX6_comesIn 94 = .ok (.aload_n 0, 1) := by decide +kernel
theorem dX6_comesIn_95 : decode cX6_comesIn 95 = .ok (.getfield 20, 3) := by decide +kernel
theorem dX6_comesIn_98 : decode cX6_comesIn 98 = .ok (.iconst 1, 1) := by decide +kernel
theorem dX6_comesIn_99 : decode cX6_comesIn 99 = .ok (.iload_n 1, 1) := by decide +kernel
theorem dX6_comesIn_100 : decode cX6_comesIn 100 = .ok (.iadd, 1) := by decide +kernel
theorem dX6_comesIn_101 : decode cX6_comesIn 101 = .ok (.iaload, 1) := by decide +kernel
theorem dX6_comesIn_102 : decode cX6_comesIn 102 = .ok (.isub, 1) := by decide +kernel
theorem dX6_comesIn_103 : decode cX6_comesIn 103 = .ok (.iastore, 1) := by decide +kernel
theorem dX6_comesIn_104 : decode cX6_comesIn 104 = .ok (.aload_n 0, 1) := by decide +kernel
theorem dX6_comesIn_105 : decode cX6_comesIn 105 = .ok (.getfield 20, 3) := by decide +kernel
theorem dX6_comesIn_108 : decode cX6_comesIn 108 = .ok (.bipush 12, 2) := by decide +kernel
theorem dX6_comesIn_110 : decode cX6_comesIn 110 = .ok (.aload_n 0, 1) := by decide +kernel
theorem dX6_comesIn_111 : decode cX6_comesIn 111 = .ok (.invokevirtual 80, 3) := by decide +kernel
theorem dX6_comesIn_114 : decode cX6_comesIn 114 = .ok (.iastore, 1) := by decide +kernel
theorem dX6_comesIn_115 : decode cX6_comesIn 115 = .ok (.aload_n 0, 1) := by decide +kernel
theorem dX6_comesIn_116 : decode cX6_comesIn 116 = .ok (.getfield 20, 3) := by decide +kernel
theorem dX6_comesIn_119 : decode cX6_comesIn 119 = .ok (.iconst 0, 1) := by decide +kernel
theorem dX6_comesIn_120 : decode cX6_comesIn 120 = .ok (.dup2, 1) := by decide +kernel
theorem dX6_comesIn_121 : decode cX6_comesIn 121 = .ok (.iaload, 1) := by decide +kernel
theorem dX6_comesIn_122 : decode cX6_comesIn 122 = .ok (.iconst 1, 1) := by decide +kernel
theorem dX6_comesIn_123 : decode cX6_comesIn 123 = .ok (.iadd, 1) := by decide +kernel
theorem dX6_comesIn_124 : decode cX6_comesIn 124 = .ok (.iastore, 1) := by decide +kernel
theorem dX6_comesIn_125 : decode cX6_comesIn 125 = .ok (.return_, 1) := by decide +kernel
theorem dX6_rules_0 : decode cX6_rules 0 = .ok (.bipush 21, 2) := by decide +kernel
theorem dX6_rules_2 : decode cX6_rules 2 = .ok (.iload_n 1, 1) := by decide +kernel
theorem dX6_rules_3 : decode cX6_rules 3 = .ok (.imul, 1) := by decide +kernel
theorem dX6_rules_4 : decode cX6_rules 4 = .ok (.istore_n 2, 1) := by decide +kernel
theorem dX6_rules_5 : decode cX6_rules 5 = .ok (.aload_n 0, 1) := by decide +kernel
theorem dX6_rules_6 : decode cX6_rules 6 = .ok (.getfield 17, 3) := by decide +kernel
theorem dX6_rules_9 : decode cX6_rules 9 = .ok (.iload_n 2, 1) := by decide +kernel
theorem dX6_rules_10 : decode cX6_rules 10 = .ok (.iconst 5, 1) := by decide +kernel
theorem dX6_rules_11 : decode cX6_rules 11 = .ok (.iadd, 1) := by decide +kernel
theorem dX6_rules_12 : decode cX6_rules 12 = .ok (.iaload, 1) := by decide +kernel
theorem dX6_rules_13 : decode cX6_rules 13 = .ok (.iload_n 1, 1) := by decide +kernel
theorem dX6_rules_14 : decode cX6_rules 14 = .ok (.if_icmp .ne 143, 3) := by decide +kernel
theorem dX6_rules_17 : decode cX6_rules 17 = .ok (.aload_n 0, 1) := by decide +kernel
theorem dX6_rules_18 : decode cX6_rules 18 = .ok (.getfield 17, 3) := by decide +kernel
theorem dX6_rules_21 : decode cX6_rules 21 = .ok (.iload_n 2, 1) := by decide +kernel
theorem dX6_rules_22 : decode cX6_rules 22 = .ok (.iconst 0, 1) := by decide +kernel
theorem dX6_rules_23 : decode cX6_rules 23 = .ok (.iadd, 1) := by decide +kernel
theorem dX6_rules_24 : decode cX6_rules 24 = .ok (.iaload, 1) := by decide +kernel
theorem dX6_rules_25 : decode cX6_rules 25 = .ok (.iconst 2, 1) := by decide +kernel
theorem dX6_rules_26 : decode cX6_rules 26 = .ok (.if_icmp .eq 131, 3) := by decide +kernel
theorem dX6_rules_29 : decode cX6_rules 29 = .ok (.aload_n 0, 1) := by decide +kernel
theorem dX6_rules_30 : decode cX6_rules 30 = .ok (.getfield 17, 3) := by decide +kernel
theorem dX6_rules_33 : decode cX6_rules 33 = .ok (.iload_n 2, 1) := by decide +kernel
theorem dX6_rules_34 : decode cX6_rules 34 = .ok (.bipush 7, 2) := by decide +kernel
theorem dX6_rules_36 : decode cX6_rules 36 = .ok (.iadd, 1) := by decide +kernel
theorem dX6_rules_37 : decode cX6_rules 37 = .ok (.iaload, 1) := by decide +kernel
theorem dX6_rules_38 : decode cX6_rules 38 = .ok (.ifCond .le 119, 3) := by decide +kernel
theorem dX6_rules_41 : decode cX6_rules 41 = .ok (.aload_n 0, 1) := by decide +kernel
theorem dX6_rules_42 : decode cX6_rules 42 = .ok (.getfield 17, 3) := by decide +kernel
theorem dX6_rules_45 : decode cX6_rules 45 = .ok (.iload_n 2, 1) := by decide +kernel
theorem dX6_rules_46 : decode cX6_rules 46 = .ok (.bipush 8, 2) := by decide +kernel
theorem dX6_rules_48 : decode cX6_rules 48 = .ok (.iadd, 1) := by decide +kernel
theorem dX6_rules_49 : decode cX6_rules 49 = .ok (.iaload, 1) := by decide +kernel
theorem dX6_rules_50 : decode cX6_rules 50 = .ok (.istore_n 3, 1) := by decide +kernel
theorem dX6_rules_51 : decode cX6_rules 51 = .ok (.iconst 0, 1) := by decide +kernel
theorem dX6_rules_52 : decode cX6_rules 52 = .ok (.istore 4, 2) := by decide +kernel
theorem dX6_rules_54 : decode cX6_rules 54 = .ok (.iload 4, 2) := by decide +kernel
theorem dX6_rules_56 : decode cX6_rules 56 = .ok (.iconst 5, 1) := by decide +kernel
theorem dX6_rules_57 : decode cX6_rules 57 = .ok (.if_icmp .ge 35, 3) := by decide +kernel
theorem dX6_rules_60 : decode cX6_rules 60 = .ok (.aload_n 0, 1) := by decide +kernel
theorem dX6_rules_61 : decode cX6_rules 61 = .ok (.getfield 17, 3) := by decide +kernel
theorem dX6_rules_64 : decode cX6_rules 64 = .ok (.iload_n 2, 1) := by decide +kernel
theorem dX6_rules_65 : decode cX6_rules 65 = .ok (.bipush 8, 2) := by decide +kernel
theorem dX6_rules_67 : decode cX6_rules 67 = .ok (.iadd, 1) := by decide +kernel
theorem dX6_rules_68 : decode cX6_rules 68 = .ok (.iload 4, 2) := by decide +kernel
theorem dX6_rules_70 : decode cX6_rules 70 = .ok (.iadd, 1) := by decide +kernel
theorem dX6_rules_71 : decode cX6_rules 71 = .ok (.aload_n 0, 1) := by decide +kernel
theorem dX6_rules_72 : decode cX6_rules 72 = .ok (.getfield 17, 3) := by decide +kernel
theorem dX6_rules_75 : decode cX6_rules 75 = .ok (.iload_n 2, 1) := by decide +kernel
theorem dX6_rules_76 : decode cX6_rules 76 = .ok (.bipush 8, 2) := by decide +kernel
theorem dX6_rules_78 : decode cX6_rules 78 = .ok (.iadd, 1) := by decide +kernel
theorem dX6_rules_79 : decode cX6_rules 79 = .ok (.iload 4, 2) := by decide +kernel
theorem dX6_rules_81 : decode cX6_rules 81 = .ok (.iadd, 1) := by decide +kernel
theorem dX6_rules_82 : decode cX6_rules 82 = .ok (.iconst 1, 1) := by decide +kernel
theorem dX6_rules_83 : decode cX6_rules 83 = .ok (.iadd, 1) := by decide +kernel
theorem dX6_rules_84 : decode cX6_rules 84 = .ok (.iaload, 1) := by decide +kernel
theorem dX6_rules_85 : decode cX6_rules 85 = .ok (.iastore, 1) := by decide +kernel
theorem dX6_rules_86 : decode cX6_rules 86 = .ok (.iinc 4 1, 3) := by decide +kernel
theorem dX6_rules_89 : decode cX6_rules 89 = .ok (.goto (-35), 3) := by decide +kernel
theorem dX6_rules_92 : decode cX6_rules 92 = .ok (.aload_n 0, 1) := by decide +kernel
theorem dX6_rules_93 : decode cX6_rules 93 = .ok (.getfield 17, 3) := by decide +kernel
theorem dX6_rules_96 : decode cX6_rules 96 = .ok (.iload_n 2, 1) := by decide +kernel
theorem dX6_rules_97 : decode cX6_rules 97 = .ok (.bipush 8, 2) := by decide +kernel
theorem dX6_rules_99 : decode cX6_rules 99 = .ok (.iadd, 1) := by decide +kernel
theorem dX6_rules_100 : decode cX6_rules 100 = .ok (.iconst 5, 1) := by decide +kernel
theorem dX6_rules_101 : decode cX6_rules 101 = .ok (.iadd, 1) := by decide +kernel
theorem dX6_rules_102 : decode cX6_rules 102 = .ok (.iconst 0, 1) := by decide +kernel
theorem dX6_rules_103 : decode cX6_rules 103 = .ok (.iastore, 1) := by decide +kernel
theorem dX6_rules_104 : decode cX6_rules 104 = .ok (.aload_n 0, 1) := by decide +kernel
theorem dX6_rules_105 : decode cX6_rules 105 = .ok (.getfield 17, 3) := by decide +kernel
theorem dX6_rules_108 : decode cX6_rules 108 = .ok (.iload_n 2, 1) := by decide +kernel
theorem dX6_rules_109 : decode cX6_rules 109 = .ok (.bipush 7, 2) := by decide +kernel
theorem dX6_rules_111 : decode cX6_rules 111 = .ok (.iadd, 1) := by decide +kernel
theorem dX6_rules_112 : decode cX6_rules 112 = .ok (.dup2, 1) := by decide +kernel
theorem dX6_rules_113 : decode cX6_rules 113 = .ok (.iaload, 1) := by decide +kernel
theorem dX6_rules_114 : decode cX6_rules 114 = .ok (.iconst 1, 1) := by decide +kernel
theorem dX6_rules_115 : decode cX6_rules 115 = .ok (.isub, 1) := by decide +kernel
theorem dX6_rules_116 : decode cX6_rules 116 = .ok (.iastore, 1) := by decide +kernel
theorem dX6_rules_117 : decode cX6_rules 117 = .ok (.aload_n 0, 1) := by decide +kernel
theorem dX6_rules_118 : decode cX6_rules 118 = .ok (.getfield 17, 3) := by decide +kernel
theorem dX6_rules_121 : decode cX6_rules 121 = .ok (.iload_n 2, 1) := by decide +kernel
theorem dX6_rules_122 : decode cX6_rules 122 = .ok (.iconst 5, 1) := by decide +kernel
theorem dX6_rules_123 : decode cX6_rules 123 = .ok (.iadd, 1) := by decide +kernel
theorem dX6_rules_124 : decode cX6_rules 124 = .ok (.iload_n 3, 1) := by decide +kernel
theorem dX6_rules_125 : decode cX6_rules 125 = .ok (.iastore, 1) := by decide +kernel
theorem dX6_rules_126 : decode cX6_rules 126 = .ok (.aload_n 0, 1) := by decide +kernel
theorem dX6_rules_127 : decode cX6_rules 127 = .ok (.getfield 17, 3) := by decide +kernel
theorem dX6_rules_130 : decode cX6_rules 130 = .ok (.iload_n 2, 1) := by decide +kernel
theorem dX6_rules_131 : decode cX6_rules 131 = .ok (.bipush 6, 2) := by decide +kernel
theorem dX6_rules_133 : decode cX6_rules 133 = .ok (.iadd, 1) := by decide +kernel
theorem dX6_rules_134 : decode cX6_rules 134 = .ok (.iconst 0, 1) := by decide +kernel
theorem dX6_rules_135 : decode cX6_rules 135 = .ok (.iastore, 1) := by decide +kernel
theorem dX6_rules_136 : decode cX6_rules 136 = .ok (.iload_n 3, 1) := by decide +kernel
theorem dX6_rules_137 : decode cX6_rules 137 = .ok (.iload_n 1, 1) := by decide +kernel
theorem dX6_rules_138 : decode cX6_rules 138 = .ok (.if_icmp .ne 11, 3) := by decide +kernel
theorem dX6_rules_141 : decode cX6_rules 141 = .ok (.aload_n 0, 1) := by decide +kernel
theorem dX6_rules_142 : decode cX6_rules 142 = .ok (.iload_n 1, 1) := by decide +kernel
theorem dX6_rules_143 : decode cX6_rules 143 = .ok (.invokevirtual 84, 3) := by decide +kernel
theorem dX6_rules_146 : decode cX6_rules 146 = .ok (.goto 11, 3) := by decide +kernel
theorem dX6_rules_149 : decode cX6_rules 149 = .ok (.aload_n 0, 1) := by decide +kernel
theorem dX6_rules_150 : decode cX6_rules 150 = .ok (.iload_n 1, 1) := by decide +kernel
theorem dX6_rules_151 : decode cX6_rules 151 = .ok (.iload_n 3, 1) := by decide +kernel
theorem dX6_rules_152 : decode cX6_rules 152 = .ok (.iconst 2, 1) := by decide +kernel
theorem dX6_rules_153 : decode cX6_rules 153 = .ok (.iconst 0, 1) := by decide +kernel
theorem dX6_rules_154 : decode cX6_rules 154 = .ok (.invokevirtual 76, 3) := by decide +kernel
theorem dX6_rules_157 : decode cX6_rules 157 = .ok (.aload_n 0, 1) := by decide +kernel
theorem dX6_rules_158 : decode cX6_rules 158 = .ok (.getfield 17, 3) := by decide +kernel
theorem dX6_rules_161 : decode cX6_rules 161 = .ok (.iload_n 2, 1) := by decide +kernel
theorem dX6_rules_162 : decode cX6_rules 162 = .ok (.iconst 5, 1) := by decide +kernel
theorem dX6_rules_163 : decode cX6_rules 163 = .ok (.iadd, 1) := by decide +kernel
theorem dX6_rules_164 : decode cX6_rules 164 = .ok (.iaload, 1) := by decide +kernel
theorem dX6_rules_165 : decode cX6_rules 165 = .ok (.iload_n 1, 1) := by decide +kernel
theorem dX6_rules_166 : decode cX6_rules 166 = .ok (.if_icmp .eq 52, 3) := by decide +kernel
theorem dX6_rules_169 : decode cX6_rules 169 = .ok (.aload_n 0, 1) := by decide +kernel
theorem dX6_rules_170 : decode cX6_rules 170 = .ok (.getfield 17, 3) := by decide +kernel
theorem dX6_rules_173 : decode cX6_rules 173 = .ok (.iload_n 2, 1) := by decide +kernel
theorem dX6_rules_174 : decode cX6_rules 174 = .ok (.bipush 7, 2) := by decide +kernel
theorem dX6_rules_176 : decode cX6_rules 176 = .ok (.iadd, 1) := by decide +kernel
theorem dX6_rules_177 : decode cX6_rules 177 = .ok (.iaload, 1) := by decide +kernel
theorem dX6_rules_178 : decode cX6_rules 178 = .ok (.ifCond .le 40, 3) := by decide +kernel
theorem dX6_rules_181 : decode cX6_rules 181 = .ok (.aload_n 0, 1) := by decide +kernel
theorem dX6_rules_182 : decode cX6_rules 182 = .ok (.getfield 17, 3) := by decide +kernel
theorem dX6_rules_185 : decode cX6_rules 185 = .ok (.iload_n 2, 1) := by decide +kernel
theorem dX6_rules_186 : decode cX6_rules 186 = .ok (.bipush 6, 2) := by decide +kernel
theorem dX6_rules_188 : decode cX6_rules 188 = .ok (.iadd, 1) := by decide +kernel
theorem dX6_rules_189 : decode cX6_rules 189 = .ok (.iaload, 1) := by decide +kernel
theorem dX6_rules_190 : decode cX6_rules 190 = .ok (.ifCond .ne 28, 3) := by decide +kernel
theorem dX6_rules_193 : decode cX6_rules 193 = .ok (.aload_n 0, 1) := by decide +kernel
theorem dX6_rules_194 : decode cX6_rules 194 = .ok (.iload_n 1, 1) := by decide +kernel
theorem dX6_rules_195 : decode cX6_rules 195 = .ok (.aload_n 0, 1) := by decide +kernel
theorem dX6_rules_196 : decode cX6_rules 196 = .ok (.getfield 17, 3) := by decide +kernel
theorem dX6_rules_199 : decode cX6_rules 199 = .ok (.iload_n 2, 1) := by decide +kernel
theorem dX6_rules_200 : decode cX6_rules 200 = .ok (.iconst 5, 1) := by decide +kernel
theorem dX6_rules_201 : decode cX6_rules 201 = .ok (.iadd, 1) := by decide +kernel
theorem dX6_rules_202 : decode cX6_rules 202 = .ok (.iaload, 1) := by decide +kernel
theorem dX6_rules_203 : decode cX6_rules 203 = .ok (.iconst 0, 1) := by decide +kernel
theorem dX6_rules_204 : decode cX6_rules 204 = .ok (.iconst 0, 1) := by decide +kernel
theorem dX6_rules_205 : decode cX6_rules 205 = .ok (.invokevirtual 76, 3) := by decide +kernel
theorem dX6_rules_208 : decode cX6_rules 208 = .ok (.aload_n 0, 1) := by decide +kernel
theorem dX6_rules_209 : decode cX6_rules 209 = .ok (.getfield 17, 3) := by decide +kernel
theorem dX6_rules_212 : decode cX6_rules 212 = .ok (.iload_n 2, 1) := by decide +kernel
theorem dX6_rules_213 : decode cX6_rules 213 = .ok (.bipush 6, 2) := by decide +kernel
theorem dX6_rules_215 : decode cX6_rules 215 = .ok (.iadd, 1) := by decide +kernel
theorem dX6_rules_216 : decode cX6_rules 216 = .ok (.iconst 1, 1) := by decide +kernel
theorem dX6_rules_217 : decode cX6_rules 217 = .ok (.iastore, 1) := by decide +kernel
theorem dX6_rules_218 : decode cX6_rules 218 = .ok (.return_, 1) := by decide +kernel
theorem dX6_queue_0 : decode cX6_queue 0 = .ok (.bipush 21, 2) := by decide +kernel
theorem dX6_queue_2 : decode cX6_queue 2 = .ok (.iload_n 1, 1) := by decide +kernel
theorem dX6_queue_3 : decode cX6_queue 3 = .ok (.imul, 1) := by decide +kernel
theorem dX6_queue_4 : decode cX6_queue 4 = .ok (.istore_n 3, 1) := by decide +kernel
theorem dX6_queue_5 : decode cX6_queue 5 = .ok (.aload_n 0, 1) := by decide +kernel
theorem dX6_queue_6 : decode cX6_queue 6 = .ok (.getfield 17, 3) := by decide +kernel
theorem dX6_queue_9 : decode cX6_queue 9 = .ok (.iload_n 3, 1) := by decide +kernel
theorem dX6_queue_10 : decode cX6_queue 10 = .ok (.bipush 8, 2) := by decide +kernel
theorem dX6_queue_12 : decode cX6_queue 12 = .ok (.iadd, 1) := by decide +kernel
theorem dX6_queue_13 : decode cX6_queue 13 = .ok (.aload_n 0, 1) := by decide +kernel
theorem dX6_queue_14 : decode cX6_queue 14 = .ok (.getfield 17, 3) := by decide +kernel
theorem dX6_queue_17 : decode cX6_queue 17 = .ok (.iload_n 3, 1) := by decide +kernel
theorem dX6_queue_18 : decode cX6_queue 18 = .ok (.bipush 7, 2) := by decide +kernel
theorem dX6_queue_20 : decode cX6_queue 20 = .ok (.iadd, 1) := by decide +kernel
theorem dX6_queue_21 : decode cX6_queue 21 = .ok (.iaload, 1) := by decide +kernel
theorem dX6_queue_22 : decode cX6_queue 22 = .ok (.iadd, 1) := by decide +kernel
theorem dX6_queue_23 : decode cX6_queue 23 = .ok (.iload_n 2, 1) := by decide +kernel
theorem dX6_queue_24 : decode cX6_queue 24 = .ok (.iastore, 1) := by decide +kernel
theorem dX6_queue_25 : decode cX6_queue 25 = .ok (.aload_n 0, 1) := by decide +kernel
theorem dX6_queue_26 : decode cX6_queue 26 = .ok (.getfield 17, 3) := by decide +kernel
theorem dX6_queue_29 : decode cX6_queue 29 = .ok (.iload_n 3, 1) := by decide +kernel
theorem dX6_queue_30 : decode cX6_queue 30 = .ok (.bipush 7, 2) := by decide +kernel
theorem dX6_queue_32 : decode cX6_queue 32 = .ok (.iadd, 1) := by decide +kernel
theorem dX6_queue_33 : decode cX6_queue 33 = .ok (.dup2, 1) := by decide +kernel
theorem dX6_queue_34 : decode cX6_queue 34 = .ok (.iaload, 1) := by decide +kernel
theorem dX6_queue_35 : decode cX6_queue 35 = .ok (.iconst 1, 1) := by decide +kernel
theorem dX6_queue_36 : decode cX6_queue 36 = .ok (.iadd, 1) := by decide +kernel
theorem dX6_queue_37 : decode cX6_queue 37 = .ok (.iastore, 1) := by decide +kernel
theorem dX6_queue_38 : decode cX6_queue 38 = .ok (.return_, 1) := by decide +kernel
theorem dX6_wants_0 : decode cX6_wants 0 = .ok (.bipush 21, 2) := by decide +kernel
theorem dX6_wants_2 : decode cX6_wants 2 = .ok (.iload_n 1, 1) := by decide +kernel
theorem dX6_wants_3 : decode cX6_wants 3 = .ok (.imul, 1) := by decide +kernel
theorem dX6_wants_4 : decode cX6_wants 4 = .ok (.istore_n 2, 1) := by decide +kernel
theorem dX6_wants_5 : decode cX6_wants 5 = .ok (.aload_n 0, 1) := by decide +kernel
theorem dX6_wants_6 : decode cX6_wants 6 = .ok (.getfield 17, 3) := by decide +kernel
theorem dX6_wants_9 : decode cX6_wants 9 = .ok (.iload_n 2, 1) := by decide +kernel
theorem dX6_wants_10 : decode cX6_wants 10 = .ok (.iconst 0, 1) := by decide +kernel
theorem dX6_wants_11 : decode cX6_wants 11 = .ok (.iadd, 1) := by decide +kernel
theorem dX6_wants_12 : decode cX6_wants 12 = .ok (.iconst 1, 1) := by decide +kernel
theorem dX6_wants_13 : decode cX6_wants 13 = .ok (.iastore, 1) := by decide +kernel
theorem dX6_wants_14 : decode cX6_wants 14 = .ok (.aload_n 0, 1) := by decide +kernel
theorem dX6_wants_15 : decode cX6_wants 15 = .ok (.getfield 20, 3) := by decide +kernel
theorem dX6_wants_18 : decode cX6_wants 18 = .ok (.iconst 1, 1) := by decide +kernel
theorem dX6_wants_19 : decode cX6_wants 19 = .ok (.iload_n 1, 1) := by decide +kernel
theorem dX6_wants_20 : decode cX6_wants 20 = .ok (.iadd, 1) := by decide +kernel
theorem dX6_wants_21 : decode cX6_wants 21 = .ok (.aload_n 0, 1) := by decide +kernel
theorem dX6_wants_22 : decode cX6_wants 22 = .ok (.getfield 20, 3) := by decide +kernel
theorem dX6_wants_25 : decode cX6_wants 25 = .ok (.iconst 0, 1) := by decide +kernel
theorem dX6_wants_26 : decode cX6_wants 26 = .ok (.iaload, 1) := by decide +kernel
theorem dX6_wants_27 : decode cX6_wants 27 = .ok (.iastore, 1) := by decide +kernel
theorem dX6_wants_28 : decode cX6_wants 28 = .ok (.aload_n 0, 1) := by decide +kernel
theorem dX6_wants_29 : decode cX6_wants 29 = .ok (.getfield 66, 3) := by decide +kernel
theorem dX6_wants_32 : decode cX6_wants 32 = .ok (.ifCond .ne 61, 3) := by decide +kernel
theorem dX6_wants_35 : decode cX6_wants 35 = .ok (.aload_n 0, 1) := by decide +kernel
theorem dX6_wants_36 : decode cX6_wants 36 = .ok (.getfield 17, 3) := by decide +kernel
theorem dX6_wants_39 : decode cX6_wants 39 = .ok (.iload_n 2, 1) := by decide +kernel
theorem dX6_wants_40 : decode cX6_wants 40 = .ok (.iconst 1, 1) := by decide +kernel
theorem dX6_wants_41 : decode cX6_wants 41 = .ok (.iadd, 1) := by decide +kernel
theorem dX6_wants_42 : decode cX6_wants 42 = .ok (.dup2, 1) := by decide +kernel
theorem dX6_wants_43 : decode cX6_wants 43 = .ok (.iaload, 1) := by decide +kernel
theorem dX6_wants_44 : decode cX6_wants 44 = .ok (.iconst 1, 1) := by decide +kernel
theorem dX6_wants_45 : decode cX6_wants 45 = .ok (.iadd, 1) := by decide +kernel
theorem dX6_wants_46 : decode cX6_wants 46 = .ok (.iastore, 1) := by decide +kernel
theorem dX6_wants_47 : decode cX6_wants 47 = .ok (.aload_n 0, 1) := by decide +kernel
theorem dX6_wants_48 : decode cX6_wants 48 = .ok (.getfield 17, 3) := by decide +kernel
theorem dX6_wants_51 : decode cX6_wants 51 = .ok (.iload_n 2, 1) := by decide +kernel
theorem dX6_wants_52 : decode cX6_wants 52 = .ok (.iconst 2, 1) := by decide +kernel
theorem dX6_wants_53 : decode cX6_wants 53 = .ok (.iadd, 1) := by decide +kernel
theorem dX6_wants_54 : decode cX6_wants 54 = .ok (.aload_n 0, 1) := by decide +kernel
theorem dX6_wants_55 : decode cX6_wants 55 = .ok (.getfield 17, 3) := by decide +kernel
theorem dX6_wants_58 : decode cX6_wants 58 = .ok (.iload_n 2, 1) := by decide +kernel
theorem dX6_wants_59 : decode cX6_wants 59 = .ok (.iconst 1, 1) := by decide +kernel
theorem dX6_wants_60 : decode cX6_wants 60 = .ok (.iadd, 1) := by decide +kernel
theorem dX6_wants_61 : decode cX6_wants 61 = .ok (.iaload, 1) := by decide +kernel
theorem dX6_wants_62 : decode cX6_wants 62 = .ok (.iastore, 1) := by decide +kernel
theorem dX6_wants_63 : decode cX6_wants 63 = .ok (.aload_n 0, 1) := by decide +kernel
theorem dX6_wants_64 : decode cX6_wants 64 = .ok (.getfield 17, 3) := by decide +kernel
theorem dX6_wants_67 : decode cX6_wants 67 = .ok (.iload_n 2, 1) := by decide +kernel
theorem dX6_wants_68 : decode cX6_wants 68 = .ok (.iconst 3, 1) := by decide +kernel
theorem dX6_wants_69 : decode cX6_wants 69 = .ok (.iadd, 1) := by decide +kernel
theorem dX6_wants_70 : decode cX6_wants 70 = .ok (.aload_n 0, 1) := by decide +kernel
theorem dX6_wants_71 : decode cX6_wants 71 = .ok (.getfield 7, 3) := by decide +kernel
theorem dX6_wants_74 : decode cX6_wants 74 = .ok (.iconst 1, 1) := by decide +kernel
theorem dX6_wants_75 : decode cX6_wants 75 = .ok (.isub, 1) := by decide +kernel
theorem dX6_wants_76 : decode cX6_wants 76 = .ok (.iastore, 1) := by decide +kernel
theorem dX6_wants_77 : decode cX6_wants 77 = .ok (.aload_n 0, 1) := by decide +kernel
theorem dX6_wants_78 : decode cX6_wants 78 = .ok (.iload_n 1, 1) := by decide +kernel
theorem dX6_wants_79 : decode cX6_wants 79 = .ok (.aload_n 0, 1) := by decide +kernel
theorem dX6_wants_80 : decode cX6_wants 80 = .ok (.getfield 17, 3) := by decide +kernel
theorem dX6_wants_83 : decode cX6_wants 83 = .ok (.iload_n 2, 1) := by decide +kernel
theorem dX6_wants_84 : decode cX6_wants 84 = .ok (.iconst 2, 1) := by decide +kernel
theorem dX6_wants_85 : decode cX6_wants 85 = .ok (.iadd, 1) := by decide +kernel
theorem dX6_wants_86 : decode cX6_wants 86 = .ok (.iaload, 1) := by decide +kernel
theorem dX6_wants_87 : decode cX6_wants 87 = .ok (.invokevirtual 88, 3) := by decide +kernel
theorem dX6_wants_90 : decode cX6_wants 90 = .ok (.goto 75, 3) := by decide +kernel
theorem dX6_wants_93 : decode cX6_wants 93 = .ok (.aload_n 0, 1) := by decide +kernel
theorem dX6_wants_94 : decode cX6_wants 94 = .ok (.getfield 66, 3) := by decide +kernel
theorem dX6_wants_97 : decode cX6_wants 97 = .ok (.iconst 1, 1) := by decide +kernel
theorem dX6_wants_98 : decode cX6_wants 98 = .ok (.if_icmp .ne 56, 3) := by decide +kernel
theorem dX6_wants_101 : decode cX6_wants 101 = .ok (.aload_n 0, 1) := by decide +kernel
theorem dX6_wants_102 : decode cX6_wants 102 = .ok (.getfield 17, 3) := by decide +kernel
theorem dX6_wants_105 : decode cX6_wants 105 = .ok (.bipush 126, 2) := by decide +kernel
theorem dX6_wants_107 : decode cX6_wants 107 = .ok (.iaload, 1) := by decide +kernel
theorem dX6_wants_108 : decode cX6_wants 108 = .ok (.iload_n 1, 1) := by decide +kernel
theorem dX6_wants_109 : decode cX6_wants 109 = .ok (.if_icmp .ne 11, 3) := by decide +kernel
theorem dX6_wants_112 : decode cX6_wants 112 = .ok (.aload_n 0, 1) := by decide +kernel
theorem dX6_wants_113 : decode cX6_wants 113 = .ok (.iload_n 1, 1) := by decide +kernel
theorem dX6_wants_114 : decode cX6_wants 114 = .ok (.invokevirtual 84, 3) := by decide +kernel
theorem dX6_wants_117 : decode cX6_wants 117 = .ok (.goto 48, 3) := by decide +kernel
theorem dX6_wants_120 : decode cX6_wants 120 = .ok (.aload_n 0, 1) := by decide +kernel
theorem dX6_wants_121 : decode cX6_wants 121 = .ok (.getfield 17, 3) := by decide +kernel
theorem dX6_wants_124 : decode cX6_wants 124 = .ok (.iload_n 2, 1) := by decide +kernel
theorem dX6_wants_125 : decode cX6_wants 125 = .ok (.bipush 14, 2) := by decide +kernel
theorem dX6_wants_127 : decode cX6_wants 127 = .ok (.iadd, 1) := by decide +kernel
theorem dX6_wants_128 : decode cX6_wants 128 = .ok (.iload_n 1, 1) := by decide +kernel
theorem dX6_wants_129 : decode cX6_wants 129 = .ok (.iadd, 1) := by decide +kernel
theorem dX6_wants_130 : decode cX6_wants 130 = .ok (.dup2, 1) := by decide +kernel
theorem dX6_wants_131 : decode cX6_wants 131 = .ok (.iaload, 1) := by decide +kernel
theorem dX6_wants_132 : decode cX6_wants 132 = .ok (.iconst 1, 1) := by decide +kernel
theorem dX6_wants_133 : decode cX6_wants 133 = .ok (.iadd, 1) := by decide +kernel
theorem dX6_wants_134 : decode cX6_wants 134 = .ok (.iastore, 1) := by decide +kernel
theorem dX6_wants_135 : decode cX6_wants 135 = .ok (.aload_n 0, 1) := by decide +kernel
theorem dX6_wants_136 : decode cX6_wants 136 = .ok (.iload_n 1, 1) := by decide +kernel
theorem dX6_wants_137 : decode cX6_wants 137 = .ok (.aload_n 0, 1) := by decide +kernel
theorem dX6_wants_138 : decode cX6_wants 138 = .ok (.getfield 17, 3) := by decide +kernel
theorem dX6_wants_141 : decode cX6_wants 141 = .ok (.iload_n 2, 1) := by decide +kernel
theorem dX6_wants_142 : decode cX6_wants 142 = .ok (.bipush 14, 2) := by decide +kernel
theorem dX6_wants_144 : decode cX6_wants 144 = .ok (.iadd, 1) := by decide +kernel
theorem dX6_wants_145 : decode cX6_wants 145 = .ok (.iload_n 1, 1) := by decide +kernel
theorem dX6_wants_146 : decode cX6_wants 146 = .ok (.iadd, 1) := by decide +kernel
theorem dX6_wants_147 : decode cX6_wants 147 = .ok (.iaload, 1) := by decide +kernel
theorem dX6_wants_148 : decode cX6_wants 148 = .ok (.invokevirtual 88, 3) := by decide +kernel
theorem dX6_wants_151 : decode cX6_wants 151 = .ok (.goto 14, 3) := by decide +kernel
theorem dX6_wants_154 : decode cX6_wants 154 = .ok (.aload_n 0, 1) := by decide +kernel
theorem dX6_wants_155 : decode cX6_wants 155 = .ok (.iload_n 1, 1) := by decide +kernel
theorem dX6_wants_156 : decode cX6_wants 156 = .ok (.iload_n 1, 1) := by decide +kernel
theorem dX6_wants_157 : decode cX6_wants 157 = .ok (.invokevirtual 92, 3) := by decide +kernel
theorem dX6_wants_160 : decode cX6_wants 160 = .ok (.aload_n 0, 1) := by decide +kernel
theorem dX6_wants_161 : decode cX6_wants 161 = .ok (.iload_n 1, 1) := by decide +kernel
theorem dX6_wants_162 : decode cX6_wants 162 = .ok (.invokevirtual 95, 3) := by decide +kernel
theorem dX6_wants_165 : decode cX6_wants 165 = .ok (.return_, 1) := by decide +kernel
theorem dX6_isRowed_0 : decode cX6_isRowed 0 = .ok (.iconst 0, 1) := by decide +kernel
theorem dX6_isRowed_1 : decode cX6_isRowed 1 = .ok (.istore_n 2, 1) := by decide +kernel
theorem dX6_isRowed_2 : decode cX6_isRowed 2 = .ok (.iconst 0, 1) := by decide +kernel
theorem dX6_isRowed_3 : decode cX6_isRowed 3 = .ok (.istore_n 3, 1) := by decide +kernel
theorem dX6_isRowed_4 : decode cX6_isRowed 4 = .ok (.iload_n 3, 1) := by decide +kernel
theorem dX6_isRowed_5 : decode cX6_isRowed 5 = .ok (.aload_n 0, 1) := by decide +kernel
theorem dX6_isRowed_6 : decode cX6_isRowed 6 = .ok (.getfield 17, 3) := by decide +kernel
theorem dX6_isRowed_9 : decode cX6_isRowed 9 = .ok (.sipush 133, 3) := by decide +kernel
theorem dX6_isRowed_12 : decode cX6_isRowed 12 = .ok (.iaload, 1) := by decide +kernel
theorem dX6_isRowed_13 : decode cX6_isRowed 13 = .ok (.if_icmp .ge 33, 3) := by decide +kernel
theorem dX6_isRowed_16 : decode cX6_isRowed 16 = .ok (.iload_n 2, 1) := by decide +kernel
theorem dX6_isRowed_17 : decode cX6_isRowed 17 = .ok (.ifCond .ne 17, 3) := by decide +kernel
theorem dX6_isRowed_20 : decode cX6_isRowed 20 = .ok (.aload_n 0, 1) := by decide +kernel
theorem dX6_isRowed_21 : decode cX6_isRowed 21 = .ok (.getfield 17, 3) := by decide +kernel
theorem dX6_isRowed_24 : decode cX6_isRowed 24 = .ok (.sipush 134, 3) := by decide +kernel
theorem dX6_isRowed_27 : decode cX6_isRowed 27 = .ok (.iload_n 3, 1) := by decide +kernel
theorem dX6_isRowed_28 : decode cX6_isRowed 28 = .ok (.iadd, 1) := by decide +kernel
theorem dX6_isRowed_29 : decode cX6_isRowed 29 = .ok (.iaload, 1) := by decide +kernel
theorem dX6_isRowed_30 : decode cX6_isRowed 30 = .ok (.iload_n 1, 1) := by decide +kernel
theorem dX6_isRowed_31 : decode cX6_isRowed 31 = .ok (.if_icmp .ne 7, 3) := by decide +kernel
theorem dX6_isRowed_34 : decode cX6_isRowed 34 = .ok (.iconst 1, 1) := by decide +kernel
theorem dX6_isRowed_35 : decode cX6_isRowed 35 = .ok (.goto 4, 3) := by decide +kernel
theorem dX6_isRowed_38 : decode cX6_isRowed 38 = .ok (.iconst 0, 1) := by decide +kernel
theorem dX6_isRowed_39 : decode cX6_isRowed 39 = .ok (.istore_n 2, 1) := by decide +kernel
theorem dX6_isRowed_40 : decode cX6_isRowed 40 = .ok (.iinc 3 1, 3) := by decide +kernel
theorem dX6_isRowed_43 : decode cX6_isRowed 43 = .ok (.goto (-39), 3) := by decide +kernel
theorem dX6_isRowed_46 : decode cX6_isRowed 46 = .ok (.iload_n 2, 1) := by decide +kernel
theorem dX6_isRowed_47 : decode cX6_isRowed 47 = .ok (.ireturn, 1) := by decide +kernel
theorem dX6_passToken_0 : decode cX6_passToken 0 = .ok (.aload_n 0, 1) := by decide +kernel
theorem dX6_passToken_1 : decode cX6_passToken 1 = .ok (.getfield 17, 3) := by decide +kernel
theorem dX6_passToken_4 : decode cX6_passToken 4 = .ok (.bipush 126, 2) := by decide +kernel
theorem dX6_passToken_6 : decode cX6_passToken 6 = .ok (.bipush (-4), 2) := by decide +kernel
theorem dX6_passToken_8 : decode cX6_passToken 8 = .ok (.iastore, 1) := by decide +kernel
theorem dX6_passToken_9 : decode cX6_passToken 9 = .ok (.aload_n 0, 1) := by decide +kernel
theorem dX6_passToken_10 : decode cX6_passToken 10 = .ok (.iload_n 1, 1) := by decide +kernel
theorem dX6_passToken_11 : decode cX6_passToken 11 = .ok (.iload_n 2, 1) := by decide +kernel
theorem dX6_passToken_12 : decode cX6_passToken 12 = .ok (.iconst 2, 1) := by decide +kernel
theorem dX6_passToken_13 : decode cX6_passToken 13 = .ok (.iconst 0, 1) := by decide +kernel
theorem dX6_passToken_14 : decode cX6_passToken 14 = .ok (.invokevirtual 76, 3) := by decide +kernel
theorem dX6_passToken_17 : decode cX6_passToken 17 = .ok (.return_, 1) := by decide +kernel
theorem dX6_leaves_0 : decode cX6_leaves 0 = .ok (.bipush 21, 2) := by decide +kernel
theorem dX6_leaves_2 : decode cX6_leaves 2 = .ok (.iload_n 1, 1) := by decide +kernel
theorem dX6_leaves_3 : decode cX6_leaves 3 = .ok (.imul, 1) := by decide +kernel
theorem dX6_leaves_4 : decode cX6_leaves 4 = .ok (.istore_n 2, 1) := by decide +kernel
theorem dX6_leaves_5 : decode cX6_leaves 5 = .ok (.aload_n 0, 1) := by decide +kernel
theorem dX6_leaves_6 : decode cX6_leaves 6 = .ok (.getfield 17, 3) := by decide +kernel
theorem dX6_leaves_9 : decode cX6_leaves 9 = .ok (.iload_n 2, 1) := by decide +kernel
theorem dX6_leaves_10 : decode cX6_leaves 10 = .ok (.iconst 0, 1) := by decide +kernel
theorem dX6_leaves_11 : decode cX6_leaves 11 = .ok (.iadd, 1) := by decide +kernel
theorem dX6_leaves_12 : decode cX6_leaves 12 = .ok (.iconst 0, 1) := by decide +kernel
theorem dX6_leaves_13 : decode cX6_leaves 13 = .ok (.iastore, 1) := by decide +kernel
theorem dX6_leaves_14 : decode cX6_leaves 14 = .ok (.aload_n 0, 1) := by decide +kernel
theorem dX6_leaves_15 : decode cX6_leaves 15 = .ok (.getfield 66, 3) := by decide +kernel
theorem dX6_leaves_18 : decode cX6_leaves 18 = .ok (.ifCond .ne 61, 3) := by decide +kernel
theorem dX6_leaves_21 : decode cX6_leaves 21 = .ok (.aload_n 0, 1) := by decide +kernel
theorem dX6_leaves_22 : decode cX6_leaves 22 = .ok (.getfield 17, 3) := by decide +kernel
theorem dX6_leaves_25 : decode cX6_leaves 25 = .ok (.iload_n 2, 1) := by decide +kernel
theorem dX6_leaves_26 : decode cX6_leaves 26 = .ok (.iconst 4, 1) := by decide +kernel
theorem dX6_leaves_27 : decode cX6_leaves 27 = .ok (.iadd, 1) := by decide +kernel
theorem dX6_leaves_28 : decode cX6_leaves 28 = .ok (.iaload, 1) := by decide +kernel
theorem dX6_leaves_29 : decode cX6_leaves 29 = .ok (.istore_n 3, 1) := by decide +kernel
theorem dX6_leaves_30 : decode cX6_leaves 30 = .ok (.aload_n 0, 1) := by decide +kernel
theorem dX6_leaves_31 : decode cX6_leaves 31 = .ok (.getfield 17, 3) := by decide +kernel
theorem dX6_leaves_34 : decode cX6_leaves 34 = .ok (.iload_n 2, 1) := by decide +kernel
theorem dX6_leaves_35 : decode cX6_leaves 35 = .ok (.iconst 4, 1) := by decide +kernel
theorem dX6_leaves_36 : decode cX6_leaves 36 = .ok (.iadd, 1) := by decide +kernel
theorem dX6_leaves_37 : decode cX6_leaves 37 = .ok (.iconst 0, 1) := by decide +kernel
theorem dX6_leaves_38 : decode cX6_leaves 38 = .ok (.iastore, 1) := by decide +kernel
theorem dX6_leaves_39 : decode cX6_leaves 39 = .ok (.iconst 0, 1) := by decide +kernel
theorem dX6_leaves_40 : decode cX6_leaves 40 = .ok (.istore 4, 2) := by decide +kernel
theorem dX6_leaves_42 : decode cX6_leaves 42 = .ok (.iload 4, 2) := by decide +kernel
theorem dX6_leaves_44 : decode cX6_leaves 44 = .ok (.aload_n 0, 1) := by decide +kernel
theorem dX6_leaves_45 : decode cX6_leaves 45 = .ok (.getfield 7, 3) := by decide +kernel
theorem dX6_leaves_48 : decode cX6_leaves 48 = .ok (.if_icmp .ge 28, 3) := by decide +kernel
theorem dX6_leaves_51 : decode cX6_leaves 51 = .ok (.iload_n 3, 1) := by decide +kernel
theorem dX6_leaves_52 : decode cX6_leaves 52 = .ok (.iload 4, 2) := by decide +kernel
theorem dX6_leaves_54 : decode cX6_leaves 54 = .ok (.ishr, 1) := by decide +kernel
theorem dX6_leaves_55 : decode cX6_leaves 55 = .ok (.iconst 1, 1) := by decide +kernel
theorem dX6_leaves_56 : decode cX6_leaves 56 = .ok (.iand, 1) := by decide +kernel
theorem dX6_leaves_57 : decode cX6_leaves 57 = .ok (.iconst 1, 1) := by decide +kernel
theorem dX6_leaves_58 : decode cX6_leaves 58 = .ok (.if_icmp .ne 12, 3) := by decide +kernel
theorem dX6_leaves_61 : decode cX6_leaves 61 = .ok (.aload_n 0, 1) := by decide +kernel
theorem dX6_leaves_62 : decode cX6_leaves 62 = .ok (.iload_n 1, 1) := by decide +kernel
theorem dX6_leaves_63 : decode cX6_leaves 63 = .ok (.iload 4, 2) := by decide +kernel
theorem dX6_leaves_65 : decode cX6_leaves 65 = .ok (.iconst 1, 1) := by decide +kernel
theorem dX6_leaves_66 : decode cX6_leaves 66 = .ok (.iconst 0, 1) := by decide +kernel
theorem dX6_leaves_67 : decode cX6_leaves 67 = .ok (.invokevirtual 76, 3) := by decide +kernel
theorem dX6_leaves_70 : decode cX6_leaves 70 = .ok (.iinc 4 1, 3) := by decide +kernel
theorem dX6_leaves_73 : decode cX6_leaves 73 = .ok (.goto (-31), 3) := by decide +kernel
theorem dX6_leaves_76 : decode cX6_leaves 76 = .ok (.goto 204, 3) := by decide +kernel
theorem dX6_leaves_79 : decode cX6_leaves 79 = .ok (.aload_n 0, 1) := by decide +kernel
theorem dX6_leaves_80 : decode cX6_leaves 80 = .ok (.getfield 66, 3) := by decide +kernel
theorem dX6_leaves_83 : decode cX6_leaves 83 = .ok (.iconst 1, 1) := by decide +kernel
theorem dX6_leaves_84 : decode cX6_leaves 84 = .ok (.if_icmp .ne 191, 3) := by decide +kernel
theorem dX6_leaves_87 : decode cX6_leaves 87 = .ok (.aload_n 0, 1) := by decide +kernel
theorem dX6_leaves_88 : decode cX6_leaves 88 = .ok (.getfield 17, 3) := by decide +kernel
theorem dX6_leaves_91 : decode cX6_leaves 91 = .ok (.bipush 127, 2) := by decide +kernel
theorem dX6_leaves_93 : decode cX6_leaves 93 = .ok (.iload_n 1, 1) := by decide +kernel
theorem dX6_leaves_94 : decode cX6_leaves 94 = .ok (.iadd, 1) := by decide +kernel
theorem dX6_leaves_95 : decode cX6_leaves 95 = .ok (.aload_n 0, 1) := by decide +kernel
theorem dX6_leaves_96 : decode cX6_leaves 96 = .ok (.getfield 17, 3) := by decide +kernel
theorem dX6_leaves_99 : decode cX6_leaves 99 = .ok (.iload_n 2, 1) := by decide +kernel
theorem dX6_leaves_100 : decode cX6_leaves 100 = .ok (.bipush 14, 2) := by decide +kernel
theorem dX6_leaves_102 : decode cX6_leaves 102 = .ok (.iadd, 1) := by decide +kernel
theorem dX6_leaves_103 : decode cX6_leaves 103 = .ok (.iload_n 1, 1) := by decide +kernel
theorem dX6_leaves_104 : decode cX6_leaves 104 = .ok (.iadd, 1) := by decide +kernel
theorem dX6_leaves_105 : decode cX6_leaves 105 = .ok (.iaload, 1) := by decide +kernel
theorem dX6_leaves_106 : decode cX6_leaves 106 = .ok (.iastore, 1) := by decide +kernel
theorem dX6_leaves_107 : decode cX6_leaves 107 = .ok (.iconst 0, 1) := by decide +kernel
theorem dX6_leaves_108 : decode cX6_leaves 108 = .ok (.istore_n 3, 1) := by decide +kernel
theorem dX6_leaves_109 : decode cX6_leaves 109 = .ok (.iload_n 3, 1) := by decide +kernel
theorem dX6_leaves_110 : decode cX6_leaves 110 = .ok (.aload_n 0, 1) := by decide +kernel
theorem dX6_leaves_111 : decode cX6_leaves 111 = .ok (.getfield 7, 3) := by decide +kernel
theorem dX6_leaves_114 : decode cX6_leaves 114 = .ok (.if_icmp .ge 72, 3) := by decide +kernel
theorem dX6_leaves_117 : decode cX6_leaves 117 = .ok (.aload_n 0, 1) := by decide +kernel
theorem dX6_leaves_118 : decode cX6_leaves 118 = .ok (.iload_n 3, 1) := by decide +kernel
theorem dX6_leaves_119 : decode cX6_leaves 119 = .ok (.invokevirtual 98, 3) := by decide +kernel
theorem dX6_leaves_122 : decode cX6_leaves 122 = .ok (.ifCond .ne 58, 3) := by decide +kernel
theorem dX6_leaves_125 : decode cX6_leaves 125 = .ok (.aload_n 0, 1) := by decide +kernel
theorem dX6_leaves_126 : decode cX6_leaves 126 = .ok (.getfield 17, 3) := by decide +kernel
theorem dX6_leaves_129 : decode cX6_leaves 129 = .ok (.iload_n 2, 1) := by decide +kernel
theorem dX6_leaves_130 : decode cX6_leaves 130 = .ok (.bipush 14, 2) := by decide +kernel
theorem dX6_leaves_132 : decode cX6_leaves 132 = .ok (.iadd, 1) := by decide +kernel
theorem dX6_leaves_133 : decode cX6_leaves 133 = .ok (.iload_n 3, 1) := by decide +kernel
theorem dX6_leaves_134 : decode cX6_leaves 134 = .ok (.iadd, 1) := by decide +kernel
theorem dX6_leaves_135 : decode cX6_leaves 135 = .ok (.iaload, 1) := by decide +kernel
theorem dX6_leaves_136 : decode cX6_leaves 136 = .ok (.aload_n 0, 1) := by decide +kernel
theorem dX6_leaves_137 : decode cX6_leaves 137 = .ok (.getfield 17, 3) := by decide +kernel
theorem dX6_leaves_140 : decode cX6_leaves 140 = .ok (.bipush 127, 2) := by decide +kernel
theorem dX6_leaves_142 : decode cX6_leaves 142 = .ok (.iload_n 3, 1) := by decide +kernel
theorem dX6_leaves_143 : decode cX6_leaves 143 = .ok (.iadd, 1) := by decide +kernel
theorem dX6_leaves_144 : decode cX6_leaves 144 = .ok (.iaload, 1) := by decide +kernel
theorem dX6_leaves_145 : decode cX6_leaves 145 = .ok (.iconst 1, 1) := by decide +kernel
theorem dX6_leaves_146 : decode cX6_leaves 146 = .ok (.iadd, 1) := by decide +kernel
theorem dX6_leaves_147 : decode cX6_leaves 147 = .ok (.if_icmp .ne 33, 3) := by decide +kernel
theorem dX6_leaves_150 : decode cX6_leaves 150 = .ok (.aload_n 0, 1) := by decide +kernel
theorem dX6_leaves_151 : decode cX6_leaves 151 = .ok (.getfield 17, 3) := by decide +kernel
theorem dX6_leaves_154 : decode cX6_leaves 154 = .ok (.sipush 134, 3) := by decide +kernel
theorem dX6_leaves_157 : decode cX6_leaves 157 = .ok (.aload_n 0, 1) := by decide +kernel
theorem dX6_leaves_158 : decode cX6_leaves 158 = .ok (.getfield 17, 3) := by decide +kernel
theorem dX6_leaves_161 : decode cX6_leaves 161 = .ok (.sipush 133, 3) := by decide +kernel
theorem dX6_leaves_164 : decode cX6_leaves 164 = .ok (.iaload, 1) := by decide +kernel
theorem dX6_leaves_165 : decode cX6_leaves 165 = .ok (.iadd, 1) := by decide +kernel
theorem dX6_leaves_166 : decode cX6_leaves 166 = .ok (.iload_n 3, 1) := by decide +kernel
theorem dX6_leaves_167 : decode cX6_leaves 167 = .ok (.iastore, 1) := by decide +kernel
theorem dX6_leaves_168 : decode cX6_leaves 168 = .ok (.aload_n 0, 1) := by decide +kernel
theorem dX6_leaves_169 : decode cX6_leaves 169 = .ok (.getfield 17, 3) := by decide +kernel
theorem dX6_leaves_172 : decode cX6_leaves 172 = .ok (.sipush 133, 3) := by decide +kernel
theorem dX6_leaves_175 : decode cX6_leaves 175 = .ok (.dup2, 1) := by decide +kernel
theorem dX6_leaves_176 : decode cX6_leaves 176 = .ok (.iaload, 1) := by decide +kernel
theorem dX6_leaves_177 : decode cX6_leaves 177 = .ok (.iconst 1, 1) := by decide +kernel
theorem dX6_leaves_178 : decode cX6_leaves 178 = .ok (.iadd, 1) := by decide +kernel
theorem dX6_leaves_179 : decode cX6_leaves 179 = .ok (.iastore, 1) := by decide +kernel
theorem dX6_leaves_180 : decode cX6_leaves 180 = .ok (.iinc 3 1, 3) := by decide +kernel
theorem dX6_leaves_183 : decode cX6_leaves 183 = .ok (.goto (-74), 3) := by decide +kernel
theorem dX6_leaves_186 : decode cX6_leaves 186 = .ok (.aload_n 0, 1) := by decide +kernel
theorem dX6_leaves_187 : decode cX6_leaves 187 = .ok (.getfield 17, 3) := by decide +kernel
theorem dX6_leaves_190 : decode cX6_leaves 190 = .ok (.sipush 133, 3) := by decide +kernel
theorem dX6_leaves_193 : decode cX6_leaves 193 = .ok (.iaload, 1) := by decide +kernel
theorem dX6_leaves_194 : decode cX6_leaves 194 = .ok (.ifCond .le 86, 3) := by decide +kernel
theorem dX6_leaves_197 : decode cX6_leaves 197 = .ok (.aload_n 0, 1) := by decide +kernel
theorem dX6_leaves_198 : decode cX6_leaves 198 = .ok (.getfield 17, 3) := by decide +kernel
theorem dX6_leaves_201 : decode cX6_leaves 201 = .ok (.sipush 134, 3) := by decide +kernel
theorem dX6_leaves_204 : decode cX6_leaves 204 = .ok (.iaload, 1) := by decide +kernel
theorem dX6_leaves_205 : decode cX6_leaves 205 = .ok (.istore_n 3, 1) := by decide +kernel
theorem dX6_leaves_206 : decode cX6_leaves 206 = .ok (.iconst 0, 1) := by decide +kernel
theorem dX6_leaves_207 : decode cX6_leaves 207 = .ok (.istore 4, 2) := by decide +kernel
theorem dX6_leaves_209 : decode cX6_leaves 209 = .ok (.iload 4, 2) := by decide +kernel
theorem dX6_leaves_211 : decode cX6_leaves 211 = .ok (.iconst 5, 1) := by decide +kernel
theorem dX6_leaves_212 : decode cX6_leaves 212 = .ok (.if_icmp .ge 33, 3) := by decide +kernel
theorem dX6_leaves_215 : decode cX6_leaves 215 = .ok (.aload_n 0, 1) := by decide +kernel
theorem dX6_leaves_216 : decode cX6_leaves 216 = .ok (.getfield 17, 3) := by decide +kernel
theorem dX6_leaves_219 : decode cX6_leaves 219 = .ok (.sipush 134, 3) := by decide +kernel
theorem dX6_leaves_222 : decode cX6_leaves 222 = .ok (.iload 4, 2) := by decide +kernel
theorem dX6_leaves_224 : decode cX6_leaves 224 = .ok (.iadd, 1) := by decide +kernel
theorem dX6_leaves_225 : decode cX6_leaves 225 = .ok (.aload_n 0, 1) := by decide +kernel
theorem dX6_leaves_226 : decode cX6_leaves 226 = .ok (.getfield 17, 3) := by decide +kernel
theorem dX6_leaves_229 : decode cX6_leaves 229 = .ok (.sipush 134, 3) := by decide +kernel
theorem dX6_leaves_232 : decode cX6_leaves 232 = .ok (.iload 4, 2) := by decide +kernel
theorem dX6_leaves_234 : decode cX6_leaves 234 = .ok (.iadd, 1) := by decide +kernel
theorem dX6_leaves_235 : decode cX6_leaves 235 = .ok (.iconst 1, 1) := by decide +kernel
theorem dX6_leaves_236 : decode cX6_leaves 236 = .ok (.iadd, 1) := by decide +kernel
theorem dX6_leaves_237 : decode cX6_leaves 237 = .ok (.iaload, 1) := by decide +kernel
theorem dX6_leaves_238 : decode cX6_leaves 238 = .ok (.iastore, 1) := by decide +kernel
theorem dX6_leaves_239 : decode cX6_leaves 239 = .ok (.iinc 4 1, 3) := by decide +kernel
theorem dX6_leaves_242 : decode cX6_leaves 242 = .ok (.goto (-33), 3) := by decide +kernel
theorem dX6_leaves_245 : decode cX6_leaves 245 = .ok (.aload_n 0, 1) := by decide +kernel
theorem dX6_leaves_246 : decode cX6_leaves 246 = .ok (.getfield 17, 3) := by decide +kernel
theorem dX6_leaves_249 : decode cX6_leaves 249 = .ok (.sipush 139, 3) := by decide +kernel
theorem dX6_leaves_252 : decode cX6_leaves 252 = .ok (.iconst 0, 1) := by decide +kernel
theorem dX6_leaves_253 : decode cX6_leaves 253 = .ok (.iastore, 1) := by decide +kernel
theorem dX6_leaves_254 : decode cX6_leaves 254 = .ok (.aload_n 0, 1) := by decide +kernel
theorem dX6_leaves_255 : decode cX6_leaves 255 = .ok (.getfield 17, 3) := by decide +kernel
theorem dX6_leaves_258 : decode cX6_leaves 258 = .ok (.sipush 133, 3) := by decide +kernel
theorem dX6_leaves_261 : decode cX6_leaves 261 = .ok (.dup2, 1) := by decide +kernel
theorem dX6_leaves_262 : decode cX6_leaves 262 = .ok (.iaload, 1) := by decide +kernel
theorem dX6_leaves_263 : decode cX6_leaves 263 = .ok (.iconst 1, 1) := by decide +kernel
theorem dX6_leaves_264 : decode cX6_leaves 264 = .ok (.isub, 1) := by decide +kernel
theorem dX6_leaves_265 : decode cX6_leaves 265 = .ok (.iastore, 1) := by decide +kernel
theorem dX6_leaves_266 : decode cX6_leaves 266 = .ok (.aload_n 0, 1) := by decide +kernel
theorem dX6_leaves_267 : decode cX6_leaves 267 = .ok (.iload_n 1, 1) := by decide +kernel
theorem dX6_leaves_268 : decode cX6_leaves 268 = .ok (.iload_n 3, 1) := by decide +kernel
theorem dX6_leaves_269 : decode cX6_leaves 269 = .ok (.invokevirtual 102, 3) := by decide +kernel
theorem dX6_leaves_272 : decode cX6_leaves 272 = .ok (.goto 8, 3) := by decide +kernel
theorem dX6_leaves_275 : decode cX6_leaves 275 = .ok (.aload_n 0, 1) := by decide +kernel
theorem dX6_leaves_276 : decode cX6_leaves 276 = .ok (.iload_n 1, 1) := by decide +kernel
theorem dX6_leaves_277 : decode cX6_leaves 277 = .ok (.invokevirtual 95, 3) := by decide +kernel
theorem dX6_leaves_280 : decode cX6_leaves 280 = .ok (.return_, 1) := by decide +kernel
theorem dX6_askedComes_0 : decode cX6_askedComes 0 = .ok (.bipush 21, 2) := by decide +kernel
theorem dX6_askedComes_2 : decode cX6_askedComes 2 = .ok (.iload_n 1, 1) := by decide +kernel
theorem dX6_askedComes_3 : decode cX6_askedComes 3 = .ok (.imul, 1) := by decide +kernel
theorem dX6_askedComes_4 : decode cX6_askedComes 4 = .ok (.istore 4, 2) := by decide +kernel
theorem dX6_askedComes_6 : decode cX6_askedComes 6 = .ok (.aload_n 0, 1) := by decide +kernel
theorem dX6_askedComes_7 : decode cX6_askedComes 7 = .ok (.getfield 66, 3) := by decide +kernel
theorem dX6_askedComes_10 : decode cX6_askedComes 10 = .ok (.ifCond .ne 135, 3) := by decide +kernel
theorem dX6_askedComes_13 : decode cX6_askedComes 13 = .ok (.aload_n 0, 1) := by decide +kernel
theorem dX6_askedComes_14 : decode cX6_askedComes 14 = .ok (.getfield 17, 3) := by decide +kernel
theorem dX6_askedComes_17 : decode cX6_askedComes 17 = .ok (.iload 4, 2) := by decide +kernel
theorem dX6_askedComes_19 : decode cX6_askedComes 19 = .ok (.iconst 2, 1) := by decide +kernel
theorem dX6_askedComes_20 : decode cX6_askedComes 20 = .ok (.iadd, 1) := by decide +kernel
theorem dX6_askedComes_21 : decode cX6_askedComes 21 = .ok (.iaload, 1) := by decide +kernel
theorem dX6_askedComes_22 : decode cX6_askedComes 22 = .ok (.istore 5, 2) := by decide +kernel
theorem dX6_askedComes_24 : decode cX6_askedComes 24 = .ok (.aload_n 0, 1) := by decide +kernel
theorem dX6_askedComes_25 : decode cX6_askedComes 25 = .ok (.getfield 17, 3) := by decide +kernel
theorem dX6_askedComes_28 : decode cX6_askedComes 28 = .ok (.iload 4, 2) := by decide +kernel
theorem dX6_askedComes_30 : decode cX6_askedComes 30 = .ok (.iconst 1, 1) := by decide +kernel
theorem dX6_askedComes_31 : decode cX6_askedComes 31 = .ok (.iadd, 1) := by decide +kernel
theorem dX6_askedComes_32 : decode cX6_askedComes 32 = .ok (.aload_n 0, 1) := by decide +kernel
theorem dX6_askedComes_33 : decode cX6_askedComes 33 = .ok (.getfield 17, 3) := by decide +kernel
theorem dX6_askedComes_36 : decode cX6_askedComes 36 = .ok (.iload 4, 2) := by decide +kernel
theorem dX6_askedComes_38 : decode cX6_askedComes 38 = .ok (.iconst 1, 1) := by decide +kernel
theorem dX6_askedComes_39 : decode cX6_askedComes 39 = .ok (.iadd, 1) := by decide +kernel
theorem dX6_askedComes_40 : decode cX6_askedComes 40 = .ok (.iaload, 1) := by decide +kernel
theorem dX6_askedComes_41 : decode cX6_askedComes 41 = .ok (.iload_n 3, 1) := by decide +kernel
theorem dX6_askedComes_42 : decode cX6_askedComes 42 = .ok (.if_icmp .le 15, 3) := by decide +kernel
theorem dX6_askedComes_45 : decode cX6_askedComes 45 = .ok (.aload_n 0, 1) := by decide +kernel
theorem dX6_askedComes_46 : decode cX6_askedComes 46 = .ok (.getfield 17, 3) := by decide +kernel
theorem dX6_askedComes_49 : decode cX6_askedComes 49 = .ok (.iload 4, 2) := by decide +kernel
theorem dX6_askedComes_51 : decode cX6_askedComes 51 = .ok (.iconst 1, 1) := by decide +kernel
theorem dX6_askedComes_52 : decode cX6_askedComes 52 = .ok (.iadd, 1) := by decide +kernel
theorem dX6_askedComes_53 : decode cX6_askedComes 53 = .ok (.iaload, 1) := by decide +kernel
theorem dX6_askedComes_54 : decode cX6_askedComes 54 = .ok (.goto 4, 3) := by decide +kernel
theorem dX6_askedComes_57 : decode cX6_askedComes 57 = .ok (.iload_n 3, 1) := by decide +kernel
theorem dX6_askedComes_58 : decode cX6_askedComes 58 = .ok (.iconst 1, 1) := by decide +kernel
theorem dX6_askedComes_59 : decode cX6_askedComes 59 = .ok (.iadd, 1) := by decide +kernel
theorem dX6_askedComes_60 : decode cX6_askedComes 60 = .ok (.iastore, 1) := by decide +kernel
theorem dX6_askedComes_61 : decode cX6_askedComes 61 = .ok (.aload_n 0, 1) := by decide +kernel
theorem dX6_askedComes_62 : decode cX6_askedComes 62 = .ok (.getfield 17, 3) := by decide +kernel
theorem dX6_askedComes_65 : decode cX6_askedComes 65 = .ok (.iload 4, 2) := by decide +kernel
theorem dX6_askedComes_67 : decode cX6_askedComes 67 = .ok (.iconst 0, 1) := by decide +kernel
theorem dX6_askedComes_68 : decode cX6_askedComes 68 = .ok (.iadd, 1) := by decide +kernel
theorem dX6_askedComes_69 : decode cX6_askedComes 69 = .ok (.iaload, 1) := by decide +kernel
theorem dX6_askedComes_70 : decode cX6_askedComes 70 = .ok (.iconst 1, 1) := by decide +kernel
theorem dX6_askedComes_71 : decode cX6_askedComes 71 = .ok (.if_icmp .ne 24, 3) := by decide +kernel
theorem dX6_askedComes_74 : decode cX6_askedComes 74 = .ok (.iload 5, 2) := by decide +kernel
theorem dX6_askedComes_76 : decode cX6_askedComes 76 = .ok (.iload_n 3, 1) := by decide +kernel
theorem dX6_askedComes_77 : decode cX6_askedComes 77 = .ok (.if_icmp .lt 14, 3) := by decide +kernel
theorem dX6_askedComes_80 : decode cX6_askedComes 80 = .ok (.iload 5, 2) := by decide +kernel
theorem dX6_askedComes_82 : decode cX6_askedComes 82 = .ok (.iload_n 3, 1) := by decide +kernel
theorem dX6_askedComes_83 : decode cX6_askedComes 83 = .ok (.if_icmp .ne 12, 3) := by decide +kernel
theorem dX6_askedComes_86 : decode cX6_askedComes 86 = .ok (.iload_n 1, 1) := by decide +kernel
theorem dX6_askedComes_87 : decode cX6_askedComes 87 = .ok (.iload_n 2, 1) := by decide +kernel
theorem dX6_askedComes_88 : decode cX6_askedComes 88 = .ok (.if_icmp .ge 7, 3) := by decide +kernel
theorem dX6_askedComes_91 : decode cX6_askedComes 91 = .ok (.iconst 1, 1) := by decide +kernel
theorem dX6_askedComes_92 : decode cX6_askedComes 92 = .ok (.goto 4, 3) := by decide +kernel
theorem dX6_askedComes_95 : decode cX6_askedComes 95 = .ok (.iconst 0, 1) := by decide +kernel
theorem dX6_askedComes_96 : decode cX6_askedComes 96 = .ok (.istore 6, 2) := by decide +kernel
theorem dX6_askedComes_98 : decode cX6_askedComes 98 = .ok (.aload_n 0, 1) := by decide +kernel
theorem dX6_askedComes_99 : decode cX6_askedComes 99 = .ok (.getfield 17, 3) := by decide +kernel
theorem dX6_askedComes_102 : decode cX6_askedComes 102 = .ok (.iload 4, 2) := by decide +kernel
theorem dX6_askedComes_104 : decode cX6_askedComes 104 = .ok (.iconst 0, 1) := by decide +kernel
theorem dX6_askedComes_105 : decode cX6_askedComes 105 = .ok (.iadd, 1) := by decide +kernel
theorem dX6_askedComes_106 : decode cX6_askedComes 106 = .ok (.iaload, 1) := by decide +kernel
theorem dX6_askedComes_107 : decode cX6_askedComes 107 = .ok (.iconst 2, 1) := by decide +kernel
theorem dX6_askedComes_108 : decode cX6_askedComes 108 = .ok (.if_icmp .eq 8, 3) := by decide +kernel
theorem dX6_askedComes_111 : decode cX6_askedComes 111 = .ok (.iload 6, 2) := by decide +kernel
theorem dX6_askedComes_113 : decode cX6_askedComes 113 = .ok (.ifCond .eq 21, 3) := by decide +kernel
theorem dX6_askedComes_116 : decode cX6_askedComes 116 = .ok (.aload_n 0, 1) := by decide +kernel
theorem dX6_askedComes_117 : decode cX6_askedComes 117 = .ok (.getfield 17, 3) := by decide +kernel
theorem dX6_askedComes_120 : decode cX6_askedComes 120 = .ok (.iload 4, 2) := by decide +kernel
theorem dX6_askedComes_122 : decode cX6_askedComes 122 = .ok (.iconst 4, 1) := by decide +kernel
theorem dX6_askedComes_123 : decode cX6_askedComes 123 = .ok (.iadd, 1) := by decide +kernel
theorem dX6_askedComes_124 : decode cX6_askedComes 124 = .ok (.dup2, 1) := by decide +kernel
theorem dX6_askedComes_125 : decode cX6_askedComes 125 = .ok (.iaload, 1) := by decide +kernel
theorem dX6_askedComes_126 : decode cX6_askedComes 126 = .ok (.iconst 1, 1) := by decide +kernel
theorem dX6_askedComes_127 : decode cX6_askedComes 127 = .ok (.iload_n 2, 1) := by decide +kernel
theorem dX6_askedComes_128 : decode cX6_askedComes 128 = .ok (.ishl, 1) := by decide +kernel
theorem dX6_askedComes_129 : decode cX6_askedComes 129 = .ok (.ior, 1) := by decide +kernel
theorem dX6_askedComes_130 : decode cX6_askedComes 130 = .ok (.iastore, 1) := by decide +kernel
theorem dX6_askedComes_131 : decode cX6_askedComes 131 = .ok (.goto 11, 3) := by decide +kernel
theorem dX6_askedComes_134 : decode cX6_askedComes 134 = .ok (.aload_n 0, 1) := by decide +kernel
theorem dX6_askedComes_135 : decode cX6_askedComes 135 = .ok (.iload_n 1, 1) := by decide +kernel
theorem dX6_askedComes_136 : decode cX6_askedComes 136 = .ok (.iload_n 2, 1) := by decide +kernel
theorem dX6_askedComes_137 : decode cX6_askedComes 137 = .ok (.iconst 1, 1) := by decide +kernel
theorem dX6_askedComes_138 : decode cX6_askedComes 138 = .ok (.iconst 0, 1) := by decide +kernel
theorem dX6_askedComes_139 : decode cX6_askedComes 139 = .ok (.invokevirtual 76, 3) := by decide +kernel
theorem dX6_askedComes_142 : decode cX6_askedComes 142 = .ok (.goto 113, 3) := by decide +kernel
theorem dX6_askedComes_145 : decode cX6_askedComes 145 = .ok (.aload_n 0, 1) := by decide +kernel
theorem dX6_askedComes_146 : decode cX6_askedComes 146 = .ok (.getfield 66, 3) := by decide +kernel
theorem dX6_askedComes_149 : decode cX6_askedComes 149 = .ok (.iconst 1, 1) := by decide +kernel
theorem dX6_askedComes_150 : decode cX6_askedComes 150 = .ok (.if_icmp .ne 94, 3) := by decide +kernel
theorem dX6_askedComes_153 : decode cX6_askedComes 153 = .ok (.iload 4, 2) := by decide +kernel
theorem dX6_askedComes_155 : decode cX6_askedComes 155 = .ok (.bipush 14, 2) := by decide +kernel
theorem dX6_askedComes_157 : decode cX6_askedComes 157 = .ok (.iadd, 1) := by decide +kernel
theorem dX6_askedComes_158 : decode cX6_askedComes 158 = .ok (.iload_n 2, 1) := by decide +kernel
theorem dX6_askedComes_159 : decode cX6_askedComes 159 = .ok (.iadd, 1) := by decide +kernel
theorem dX6_askedComes_160 : decode cX6_askedComes 160 = .ok (.istore 5, 2) := by decide +kernel
theorem dX6_askedComes_162 : decode cX6_askedComes 162 = .ok (.aload_n 0, 1) := by decide +kernel
theorem dX6_askedComes_163 : decode cX6_askedComes 163 = .ok (.getfield 17, 3) := by decide +kernel
theorem dX6_askedComes_166 : decode cX6_askedComes 166 = .ok (.iload 5, 2) := by decide +kernel
theorem dX6_askedComes_168 : decode cX6_askedComes 168 = .ok (.aload_n 0, 1) := by decide +kernel
theorem dX6_askedComes_169 : decode cX6_askedComes 169 = .ok (.getfield 17, 3) := by decide +kernel
theorem dX6_askedComes_172 : decode cX6_askedComes 172 = .ok (.iload 5, 2) := by decide +kernel
theorem dX6_askedComes_174 : decode cX6_askedComes 174 = .ok (.iaload, 1) := by decide +kernel
theorem dX6_askedComes_175 : decode cX6_askedComes 175 = .ok (.iload_n 3, 1) := by decide +kernel
theorem dX6_askedComes_176 : decode cX6_askedComes 176 = .ok (.if_icmp .le 13, 3) := by decide +kernel
theorem dX6_askedComes_179 : decode cX6_askedComes 179 = .ok (.aload_n 0, 1) := by decide +kernel
theorem dX6_askedComes_180 : decode cX6_askedComes 180 = .ok (.getfield 17, 3) := by decide +kernel
theorem dX6_askedComes_183 : decode cX6_askedComes 183 = .ok (.iload 5, 2) := by decide +kernel
theorem dX6_askedComes_185 : decode cX6_askedComes 185 = .ok (.iaload, 1) := by decide +kernel
theorem dX6_askedComes_186 : decode cX6_askedComes 186 = .ok (.goto 4, 3) := by decide +kernel
theorem dX6_askedComes_189 : decode cX6_askedComes 189 = .ok (.iload_n 3, 1) := by decide +kernel
theorem dX6_askedComes_190 : decode cX6_askedComes 190 = .ok (.iastore, 1) := by decide +kernel
theorem dX6_askedComes_191 : decode cX6_askedComes 191 = .ok (.aload_n 0, 1) := by decide +kernel
theorem dX6_askedComes_192 : decode cX6_askedComes 192 = .ok (.getfield 17, 3) := by decide +kernel
theorem dX6_askedComes_195 : decode cX6_askedComes 195 = .ok (.bipush 126, 2) := by decide +kernel
theorem dX6_askedComes_197 : decode cX6_askedComes 197 = .ok (.iaload, 1) := by decide +kernel
theorem dX6_askedComes_198 : decode cX6_askedComes 198 = .ok (.iload_n 1, 1) := by decide +kernel
theorem dX6_askedComes_199 : decode cX6_askedComes 199 = .ok (.if_icmp .ne 42, 3) := by decide +kernel
theorem dX6_askedComes_202 : decode cX6_askedComes 202 = .ok (.aload_n 0, 1) := by decide +kernel
theorem dX6_askedComes_203 : decode cX6_askedComes 203 = .ok (.getfield 17, 3) := by decide +kernel
theorem dX6_askedComes_206 : decode cX6_askedComes 206 = .ok (.iload 4, 2) := by decide +kernel
theorem dX6_askedComes_208 : decode cX6_askedComes 208 = .ok (.iconst 0, 1) := by decide +kernel
theorem dX6_askedComes_209 : decode cX6_askedComes 209 = .ok (.iadd, 1) := by decide +kernel
theorem dX6_askedComes_210 : decode cX6_askedComes 210 = .ok (.iaload, 1) := by decide +kernel
theorem dX6_askedComes_211 : decode cX6_askedComes 211 = .ok (.ifCond .ne 30, 3) := by decide +kernel
theorem dX6_askedComes_214 : decode cX6_askedComes 214 = .ok (.aload_n 0, 1) := by decide +kernel
theorem dX6_askedComes_215 : decode cX6_askedComes 215 = .ok (.getfield 17, 3) := by decide +kernel
theorem dX6_askedComes_218 : decode cX6_askedComes 218 = .ok (.iload 5, 2) := by decide +kernel
theorem dX6_askedComes_220 : decode cX6_askedComes 220 = .ok (.iaload, 1) := by decide +kernel
theorem dX6_askedComes_221 : decode cX6_askedComes 221 = .ok (.aload_n 0, 1) := by decide +kernel
theorem dX6_askedComes_222 : decode cX6_askedComes 222 = .ok (.getfield 17, 3) := by decide +kernel
theorem dX6_askedComes_225 : decode cX6_askedComes 225 = .ok (.bipush 127, 2) := by decide +kernel
theorem dX6_askedComes_227 : decode cX6_askedComes 227 = .ok (.iload_n 2, 1) := by decide +kernel
theorem dX6_askedComes_228 : decode cX6_askedComes 228 = .ok (.iadd, 1) := by decide +kernel
theorem dX6_askedComes_229 : decode cX6_askedComes 229 = .ok (.iaload, 1) := by decide +kernel
theorem dX6_askedComes_230 : decode cX6_askedComes 230 = .ok (.iconst 1, 1) := by decide +kernel
theorem dX6_askedComes_231 : decode cX6_askedComes 231 = .ok (.iadd, 1) := by decide +kernel
theorem dX6_askedComes_232 : decode cX6_askedComes 232 = .ok (.if_icmp .ne 9, 3) := by decide +kernel
theorem dX6_askedComes_235 : decode cX6_askedComes 235 = .ok (.aload_n 0, 1) := by decide +kernel
theorem dX6_askedComes_236 : decode cX6_askedComes 236 = .ok (.iload_n 1, 1) := by decide +kernel
theorem dX6_askedComes_237 : decode cX6_askedComes 237 = .ok (.iload_n 2, 1) := by decide +kernel
theorem dX6_askedComes_238 : decode cX6_askedComes 238 = .ok (.invokevirtual 102, 3) := by decide +kernel
theorem dX6_askedComes_241 : decode cX6_askedComes 241 = .ok (.goto 14, 3) := by decide +kernel
theorem dX6_askedComes_244 : decode cX6_askedComes 244 = .ok (.aload_n 0, 1) := by decide +kernel
theorem dX6_askedComes_245 : decode cX6_askedComes 245 = .ok (.iload_n 1, 1) := by decide +kernel
theorem dX6_askedComes_246 : decode cX6_askedComes 246 = .ok (.iload_n 2, 1) := by decide +kernel
theorem dX6_askedComes_247 : decode cX6_askedComes 247 = .ok (.invokevirtual 92, 3) := by decide +kernel
theorem dX6_askedComes_250 : decode cX6_askedComes 250 = .ok (.aload_n 0, 1) := by decide +kernel
theorem dX6_askedComes_251 : decode cX6_askedComes 251 = .ok (.iload_n 1, 1) := by decide +kernel
theorem dX6_askedComes_252 : decode cX6_askedComes 252 = .ok (.invokevirtual 95, 3) := by decide +kernel
theorem dX6_askedComes_255 : decode cX6_askedComes 255 = .ok (.return_, 1) := by decide +kernel
theorem dX6_comes_0 : decode cX6_comes 0 = .ok (.aload_n 0, 1) := by decide +kernel
theorem dX6_comes_1 : decode cX6_comes 1 = .ok (.iload_n 1, 1) := by decide +kernel
theorem dX6_comes_2 : decode cX6_comes 2 = .ok (.iload_n 2, 1) := by decide +kernel
theorem dX6_comes_3 : decode cX6_comes 3 = .ok (.invokevirtual 69, 3) := by decide +kernel
theorem dX6_comes_6 : decode cX6_comes 6 = .ok (.istore_n 3, 1) := by decide +kernel
theorem dX6_comes_7 : decode cX6_comes 7 = .ok (.aload_n 0, 1) := by decide +kernel
theorem dX6_comes_8 : decode cX6_comes 8 = .ok (.getfield 17, 3) := by decide +kernel
theorem dX6_comes_11 : decode cX6_comes 11 = .ok (.iload_n 3, 1) := by decide +kernel
theorem dX6_comes_12 : decode cX6_comes 12 = .ok (.iconst 1, 1) := by decide +kernel
theorem dX6_comes_13 : decode cX6_comes 13 = .ok (.iadd, 1) := by decide +kernel
theorem dX6_comes_14 : decode cX6_comes 14 = .ok (.iaload, 1) := by decide +kernel
theorem dX6_comes_15 : decode cX6_comes 15 = .ok (.istore 4, 2) := by decide +kernel
theorem dX6_comes_17 : decode cX6_comes 17 = .ok (.aload_n 0, 1) := by decide +kernel
theorem dX6_comes_18 : decode cX6_comes 18 = .ok (.getfield 17, 3) := by decide +kernel
theorem dX6_comes_21 : decode cX6_comes 21 = .ok (.iload_n 3, 1) := by decide +kernel
theorem dX6_comes_22 : decode cX6_comes 22 = .ok (.iconst 2, 1) := by decide +kernel
theorem dX6_comes_23 : decode cX6_comes 23 = .ok (.iadd, 1) := by decide +kernel
theorem dX6_comes_24 : decode cX6_comes 24 = .ok (.iaload, 1) := by decide +kernel
theorem dX6_comes_25 : decode cX6_comes 25 = .ok (.istore 5, 2) := by decide +kernel
theorem dX6_comes_27 : decode cX6_comes 27 = .ok (.aload_n 0, 1) := by decide +kernel
theorem dX6_comes_28 : decode cX6_comes 28 = .ok (.iload_n 3, 1) := by decide +kernel
theorem dX6_comes_29 : decode cX6_comes 29 = .ok (.invokevirtual 105, 3) := by decide +kernel
theorem dX6_comes_32 : decode cX6_comes 32 = .ok (.bipush 21, 2) := by decide +kernel
theorem dX6_comes_34 : decode cX6_comes 34 = .ok (.iload_n 2, 1) := by decide +kernel
theorem dX6_comes_35 : decode cX6_comes 35 = .ok (.imul, 1) := by decide +kernel
theorem dX6_comes_36 : decode cX6_comes 36 = .ok (.istore 6, 2) := by decide +kernel
theorem dX6_comes_38 : decode cX6_comes 38 = .ok (.iload 4, 2) := by decide +kernel
theorem dX6_comes_40 : decode cX6_comes 40 = .ok (.ifCond .ne 14, 3) := by decide +kernel
theorem dX6_comes_43 : decode cX6_comes 43 = .ok (.aload_n 0, 1) := by decide +kernel
theorem dX6_comes_44 : decode cX6_comes 44 = .ok (.iload_n 2, 1) := by decide +kernel
theorem dX6_comes_45 : decode cX6_comes 45 = .ok (.iload_n 1, 1) := by decide +kernel
theorem dX6_comes_46 : decode cX6_comes 46 = .ok (.iload 5, 2) := by decide +kernel
theorem dX6_comes_48 : decode cX6_comes 48 = .ok (.invokevirtual 108, 3) := by decide +kernel
theorem dX6_comes_51 : decode cX6_comes 51 = .ok (.goto 81, 3) := by decide +kernel
theorem dX6_comes_54 : decode cX6_comes 54 = .ok (.iload 4, 2) := by decide +kernel
theorem dX6_comes_56 : decode cX6_comes 56 = .ok (.iconst 1, 1) := by decide +kernel
theorem dX6_comes_57 : decode cX6_comes 57 = .ok (.if_icmp .ne 36, 3) := by decide +kernel
theorem dX6_comes_60 : decode cX6_comes 60 = .ok (.aload_n 0, 1) := by decide +kernel
theorem dX6_comes_61 : decode cX6_comes 61 = .ok (.getfield 17, 3) := by decide +kernel
theorem dX6_comes_64 : decode cX6_comes 64 = .ok (.iload 6, 2) := by decide +kernel
theorem dX6_comes_66 : decode cX6_comes 66 = .ok (.iconst 3, 1) := by decide +kernel
theorem dX6_comes_67 : decode cX6_comes 67 = .ok (.iadd, 1) := by decide +kernel
theorem dX6_comes_68 : decode cX6_comes 68 = .ok (.dup2, 1) := by decide +kernel
theorem dX6_comes_69 : decode cX6_comes 69 = .ok (.iaload, 1) := by decide +kernel
theorem dX6_comes_70 : decode cX6_comes 70 = .ok (.iconst 1, 1) := by decide +kernel
theorem dX6_comes_71 : decode cX6_comes 71 = .ok (.isub, 1) := by decide +kernel
theorem dX6_comes_72 : decode cX6_comes 72 = .ok (.iastore, 1) := by decide +kernel
theorem dX6_comes_73 : decode cX6_comes 73 = .ok (.aload_n 0, 1) := by decide +kernel
theorem dX6_comes_74 : decode cX6_comes 74 = .ok (.getfield 17, 3) := by decide +kernel
theorem dX6_comes_77 : decode cX6_comes 77 = .ok (.iload 6, 2) := by decide +kernel
theorem dX6_comes_79 : decode cX6_comes 79 = .ok (.iconst 3, 1) := by decide +kernel
theorem dX6_comes_80 : decode cX6_comes 80 = .ok (.iadd, 1) := by decide +kernel
theorem dX6_comes_81 : decode cX6_comes 81 = .ok (.iaload, 1) := by decide +kernel
theorem dX6_comes_82 : decode cX6_comes 82 = .ok (.ifCond .ne 50, 3) := by decide +kernel
theorem dX6_comes_85 : decode cX6_comes 85 = .ok (.aload_n 0, 1) := by decide +kernel
theorem dX6_comes_86 : decode cX6_comes 86 = .ok (.iload_n 2, 1) := by decide +kernel
theorem dX6_comes_87 : decode cX6_comes 87 = .ok (.invokevirtual 84, 3) := by decide +kernel
theorem dX6_comes_90 : decode cX6_comes 90 = .ok (.goto 42, 3) := by decide +kernel
theorem dX6_comes_93 : decode cX6_comes 93 = .ok (.aload_n 0, 1) := by decide +kernel
theorem dX6_comes_94 : decode cX6_comes 94 = .ok (.getfield 66, 3) := by decide +kernel
theorem dX6_comes_97 : decode cX6_comes 97 = .ok (.iconst 1, 1) := by decide +kernel
theorem dX6_comes_98 : decode cX6_comes 98 = .ok (.if_icmp .ne 19, 3) := by decide +kernel
theorem dX6_comes_101 : decode cX6_comes 101 = .ok (.aload_n 0, 1) := by decide +kernel
theorem dX6_comes_102 : decode cX6_comes 102 = .ok (.getfield 17, 3) := by decide +kernel
theorem dX6_comes_105 : decode cX6_comes 105 = .ok (.bipush 126, 2) := by decide +kernel
theorem dX6_comes_107 : decode cX6_comes 107 = .ok (.iload_n 2, 1) := by decide +kernel
theorem dX6_comes_108 : decode cX6_comes 108 = .ok (.iastore, 1) := by decide +kernel
theorem dX6_comes_109 : decode cX6_comes 109 = .ok (.aload_n 0, 1) := by decide +kernel
theorem dX6_comes_110 : decode cX6_comes 110 = .ok (.iload_n 2, 1) := by decide +kernel
theorem dX6_comes_111 : decode cX6_comes 111 = .ok (.invokevirtual 84, 3) := by decide +kernel
theorem dX6_comes_114 : decode cX6_comes 114 = .ok (.goto 18, 3) := by decide +kernel
theorem dX6_comes_117 : decode cX6_comes 117 = .ok (.aload_n 0, 1) := by decide +kernel
theorem dX6_comes_118 : decode cX6_comes 118 = .ok (.getfield 17, 3) := by decide +kernel
theorem dX6_comes_121 : decode cX6_comes 121 = .ok (.iload 6, 2) := by decide +kernel
theorem dX6_comes_123 : decode cX6_comes 123 = .ok (.iconst 5, 1) := by decide +kernel
theorem dX6_comes_124 : decode cX6_comes 124 = .ok (.iadd, 1) := by decide +kernel
theorem dX6_comes_125 : decode cX6_comes 125 = .ok (.iload_n 2, 1) := by decide +kernel
theorem dX6_comes_126 : decode cX6_comes 126 = .ok (.iastore, 1) := by decide +kernel
theorem dX6_comes_127 : decode cX6_comes 127 = .ok (.aload_n 0, 1) := by decide +kernel
theorem dX6_comes_128 : decode cX6_comes 128 = .ok (.iload_n 2, 1) := by decide +kernel
theorem dX6_comes_129 : decode cX6_comes 129 = .ok (.invokevirtual 95, 3) := by decide +kernel
theorem dX6_comes_132 : decode cX6_comes 132 = .ok (.iload 4, 2) := by decide +kernel
theorem dX6_comes_134 : decode cX6_comes 134 = .ok (.ireturn, 1) := by decide +kernel
theorem dX6_store_0 : decode cX6_store 0 = .ok (.iconst 0, 1) := by decide +kernel
theorem dX6_store_1 : decode cX6_store 1 = .ok (.istore_n 1, 1) := by decide +kernel
theorem dX6_store_2 : decode cX6_store 2 = .ok (.iload_n 1, 1) := by decide +kernel
theorem dX6_store_3 : decode cX6_store 3 = .ok (.sipush 1040, 3) := by decide +kernel
theorem dX6_store_6 : decode cX6_store 6 = .ok (.if_icmp .ge 21, 3) := by decide +kernel
theorem dX6_store_9 : decode cX6_store 9 = .ok (.aload_n 0, 1) := by decide +kernel
theorem dX6_store_10 : decode cX6_store 10 = .ok (.getfield 31, 3) := by decide +kernel
theorem dX6_store_13 : decode cX6_store 13 = .ok (.iload_n 1, 1) := by decide +kernel
theorem dX6_store_14 : decode cX6_store 14 = .ok (.aload_n 0, 1) := by decide +kernel
theorem dX6_store_15 : decode cX6_store 15 = .ok (.getfield 17, 3) := by decide +kernel
theorem dX6_store_18 : decode cX6_store 18 = .ok (.iload_n 1, 1) := by decide +kernel
theorem dX6_store_19 : decode cX6_store 19 = .ok (.iaload, 1) := by decide +kernel
theorem dX6_store_20 : decode cX6_store 20 = .ok (.iastore, 1) := by decide +kernel
theorem dX6_store_21 : decode cX6_store 21 = .ok (.iinc 1 1, 3) := by decide +kernel
theorem dX6_store_24 : decode cX6_store 24 = .ok (.goto (-22), 3) := by decide +kernel
theorem dX6_store_27 : decode cX6_store 27 = .ok (.iconst 0, 1) := by decide +kernel
theorem dX6_store_28 : decode cX6_store 28 = .ok (.istore_n 1, 1) := by decide +kernel
theorem dX6_store_29 : decode cX6_store 29 = .ok (.iload_n 1, 1) := by decide +kernel
theorem dX6_store_30 : decode cX6_store 30 = .ok (.sipush 190, 3) := by decide +kernel
theorem dX6_store_33 : decode cX6_store 33 = .ok (.if_icmp .ge 25, 3) := by decide +kernel
theorem dX6_store_36 : decode cX6_store 36 = .ok (.aload_n 0, 1) := by decide +kernel
theorem dX6_store_37 : decode cX6_store 37 = .ok (.getfield 31, 3) := by decide +kernel
theorem dX6_store_40 : decode cX6_store 40 = .ok (.sipush 1040, 3) := by decide +kernel
theorem dX6_store_43 : decode cX6_store 43 = .ok (.iload_n 1, 1) := by decide +kernel
theorem dX6_store_44 : decode cX6_store 44 = .ok (.iadd, 1) := by decide +kernel
theorem dX6_store_45 : decode cX6_store 45 = .ok (.aload_n 0, 1) := by decide +kernel
theorem dX6_store_46 : decode cX6_store 46 = .ok (.getfield 20, 3) := by decide +kernel
theorem dX6_store_49 : decode cX6_store 49 = .ok (.iload_n 1, 1) := by decide +kernel
theorem dX6_store_50 : decode cX6_store 50 = .ok (.iaload, 1) := by decide +kernel
theorem dX6_store_51 : decode cX6_store 51 = .ok (.iastore, 1) := by decide +kernel
theorem dX6_store_52 : decode cX6_store 52 = .ok (.iinc 1 1, 3) := by decide +kernel
theorem dX6_store_55 : decode cX6_store 55 = .ok (.goto (-26), 3) := by decide +kernel
theorem dX6_store_58 : decode cX6_store 58 = .ok (.aload_n 0, 1) := by decide +kernel
theorem dX6_store_59 : decode cX6_store 59 = .ok (.iconst 0, 1) := by decide +kernel
theorem dX6_store_60 : decode cX6_store 60 = .ok (.putfield 73, 3) := by decide +kernel
theorem dX6_store_63 : decode cX6_store 63 = .ok (.return_, 1) := by decide +kernel
theorem dX6_stands_0 : decode cX6_stands 0 = .ok (.aload_n 0, 1) := by decide +kernel
theorem dX6_stands_1 : decode cX6_stands 1 = .ok (.getfield 73, 3) := by decide +kernel
theorem dX6_stands_4 : decode cX6_stands 4 = .ok (.ifCond .eq 63, 3) := by decide +kernel
theorem dX6_stands_7 : decode cX6_stands 7 = .ok (.iconst 0, 1) := by decide +kernel
theorem dX6_stands_8 : decode cX6_stands 8 = .ok (.istore_n 1, 1) := by decide +kernel
theorem dX6_stands_9 : decode cX6_stands 9 = .ok (.iload_n 1, 1) := by decide +kernel
theorem dX6_stands_10 : decode cX6_stands 10 = .ok (.sipush 1040, 3) := by decide +kernel
theorem dX6_stands_13 : decode cX6_stands 13 = .ok (.if_icmp .ge 21, 3) := by decide +kernel
theorem dX6_stands_16 : decode cX6_stands 16 = .ok (.aload_n 0, 1) := by decide +kernel
theorem dX6_stands_17 : decode cX6_stands 17 = .ok (.getfield 17, 3) := by decide +kernel
theorem dX6_stands_20 : decode cX6_stands 20 = .ok (.iload_n 1, 1) := by decide +kernel
theorem dX6_stands_21 : decode cX6_stands 21 = .ok (.aload_n 0, 1) := by decide +kernel
theorem dX6_stands_22 : decode cX6_stands 22 = .ok (.getfield 31, 3) := by decide +kernel
theorem dX6_stands_25 : decode cX6_stands 25 = .ok (.iload_n 1, 1) := by decide +kernel
theorem dX6_stands_26 : decode cX6_stands 26 = .ok (.iaload, 1) := by decide +kernel
theorem dX6_stands_27 : decode cX6_stands 27 = .ok (.iastore, 1) := by decide +kernel
theorem dX6_stands_28 : decode cX6_stands 28 = .ok (.iinc 1 1, 3) := by decide +kernel
theorem dX6_stands_31 : decode cX6_stands 31 = .ok (.goto (-22), 3) := by decide +kernel
theorem dX6_stands_34 : decode cX6_stands 34 = .ok (.iconst 0, 1) := by decide +kernel
theorem dX6_stands_35 : decode cX6_stands 35 = .ok (.istore_n 1, 1) := by decide +kernel
theorem dX6_stands_36 : decode cX6_stands 36 = .ok (.iload_n 1, 1) := by decide +kernel
theorem dX6_stands_37 : decode cX6_stands 37 = .ok (.sipush 190, 3) := by decide +kernel
theorem dX6_stands_40 : decode cX6_stands 40 = .ok (.if_icmp .ge 25, 3) := by decide +kernel
theorem dX6_stands_43 : decode cX6_stands 43 = .ok (.aload_n 0, 1) := by decide +kernel
theorem dX6_stands_44 : decode cX6_stands 44 = .ok (.getfield 20, 3) := by decide +kernel
theorem dX6_stands_47 : decode cX6_stands 47 = .ok (.iload_n 1, 1) := by decide +kernel
theorem dX6_stands_48 : decode cX6_stands 48 = .ok (.aload_n 0, 1) := by decide +kernel
theorem dX6_stands_49 : decode cX6_stands 49 = .ok (.getfield 31, 3) := by decide +kernel
theorem dX6_stands_52 : decode cX6_stands 52 = .ok (.sipush 1040, 3) := by decide +kernel
theorem dX6_stands_55 : decode cX6_stands 55 = .ok (.iload_n 1, 1) := by decide +kernel
theorem dX6_stands_56 : decode cX6_stands 56 = .ok (.iadd, 1) := by decide +kernel
theorem dX6_stands_57 : decode cX6_stands 57 = .ok (.iaload, 1) := by decide +kernel
theorem dX6_stands_58 : decode cX6_stands 58 = .ok (.iastore, 1) := by decide +kernel
theorem dX6_stands_59 : decode cX6_stands 59 = .ok (.iinc 1 1, 3) := by decide +kernel
theorem dX6_stands_62 : decode cX6_stands 62 = .ok (.goto (-26), 3) := by decide +kernel
theorem dX6_stands_65 : decode cX6_stands 65 = .ok (.iconst 0, 1) := by decide +kernel
theorem dX6_stands_66 : decode cX6_stands 66 = .ok (.ireturn, 1) := by decide +kernel
theorem dX6_stands_67 : decode cX6_stands 67 = .ok (.aload_n 0, 1) := by decide +kernel
theorem dX6_stands_68 : decode cX6_stands 68 = .ok (.getfield 54, 3) := by decide +kernel
theorem dX6_stands_71 : decode cX6_stands 71 = .ok (.bipush 30, 2) := by decide +kernel
theorem dX6_stands_73 : decode cX6_stands 73 = .ok (.if_icmp .ne 43, 3) := by decide +kernel
theorem dX6_stands_76 : decode cX6_stands 76 = .ok (.iconst 0, 1) := by decide +kernel
theorem dX6_stands_77 : decode cX6_stands 77 = .ok (.istore_n 1, 1) := by decide +kernel
theorem dX6_stands_78 : decode cX6_stands 78 = .ok (.iload_n 1, 1) := by decide +kernel
theorem dX6_stands_79 : decode cX6_stands 79 = .ok (.ldc 112, 2) := by decide +kernel
theorem dX6_stands_81 : decode cX6_stands 81 = .ok (.if_icmp .ge 25, 3) := by decide +kernel
theorem dX6_stands_84 : decode cX6_stands 84 = .ok (.aload_n 0, 1) := by decide +kernel
theorem dX6_stands_85 : decode cX6_stands 85 = .ok (.getfield 28, 3) := by decide +kernel
theorem dX6_stands_88 : decode cX6_stands 88 = .ok (.iload_n 1, 1) := by decide +kernel
theorem dX6_stands_89 : decode cX6_stands 89 = .ok (.aload_n 0, 1) := by decide +kernel
theorem dX6_stands_90 : decode cX6_stands 90 = .ok (.getfield 28, 3) := by decide +kernel
theorem dX6_stands_93 : decode cX6_stands 93 = .ok (.iload_n 1, 1) := by decide +kernel
theorem dX6_stands_94 : decode cX6_stands 94 = .ok (.sipush 1230, 3) := by decide +kernel
theorem dX6_stands_97 : decode cX6_stands 97 = .ok (.iadd, 1) := by decide +kernel
theorem dX6_stands_98 : decode cX6_stands 98 = .ok (.iaload, 1) := by decide +kernel
theorem dX6_stands_99 : decode cX6_stands 99 = .ok (.iastore, 1) := by decide +kernel
theorem dX6_stands_100 : decode cX6_stands 100 = .ok (.iinc 1 1, 3) := by decide +kernel
theorem dX6_stands_103 : decode cX6_stands 103 = .ok (.goto (-25), 3) := by decide +kernel
theorem dX6_stands_106 : decode cX6_stands 106 = .ok (.aload_n 0, 1) := by decide +kernel
theorem dX6_stands_107 : decode cX6_stands 107 = .ok (.dup, 1) := by decide +kernel
theorem dX6_stands_108 : decode cX6_stands 108 = .ok (.getfield 54, 3) := by decide +kernel
theorem dX6_stands_111 : decode cX6_stands 111 = .ok (.iconst 1, 1) := by decide +kernel
theorem dX6_stands_112 : decode cX6_stands 112 = .ok (.isub, 1) := by decide +kernel
theorem dX6_stands_113 : decode cX6_stands 113 = .ok (.putfield 54, 3) := by decide +kernel
theorem dX6_stands_116 : decode cX6_stands 116 = .ok (.iconst 0, 1) := by decide +kernel
theorem dX6_stands_117 : decode cX6_stands 117 = .ok (.istore_n 1, 1) := by decide +kernel
theorem dX6_stands_118 : decode cX6_stands 118 = .ok (.iload_n 1, 1) := by decide +kernel
theorem dX6_stands_119 : decode cX6_stands 119 = .ok (.sipush 1230, 3) := by decide +kernel
theorem dX6_stands_122 : decode cX6_stands 122 = .ok (.if_icmp .ge 30, 3) := by decide +kernel
theorem dX6_stands_125 : decode cX6_stands 125 = .ok (.aload_n 0, 1) := by decide +kernel
theorem dX6_stands_126 : decode cX6_stands 126 = .ok (.getfield 28, 3) := by decide +kernel
theorem dX6_stands_129 : decode cX6_stands 129 = .ok (.sipush 1230, 3) := by decide +kernel
theorem dX6_stands_132 : decode cX6_stands 132 = .ok (.aload_n 0, 1) := by decide +kernel
theorem dX6_stands_133 : decode cX6_stands 133 = .ok (.getfield 54, 3) := by decide +kernel
theorem dX6_stands_136 : decode cX6_stands 136 = .ok (.imul, 1) := by decide +kernel
theorem dX6_stands_137 : decode cX6_stands 137 = .ok (.iload_n 1, 1) := by decide +kernel
theorem dX6_stands_138 : decode cX6_stands 138 = .ok (.iadd, 1) := by decide +kernel
theorem dX6_stands_139 : decode cX6_stands 139 = .ok (.aload_n 0, 1) := by decide +kernel
theorem dX6_stands_140 : decode cX6_stands 140 = .ok (.getfield 31, 3) := by decide +kernel
theorem dX6_stands_143 : decode cX6_stands 143 = .ok (.iload_n 1, 1) := by decide +kernel
theorem dX6_stands_144 : decode cX6_stands 144 = .ok (.iaload, 1) := by decide +kernel
theorem dX6_stands_145 : decode cX6_stands 145 = .ok (.iastore, 1) := by decide +kernel
theorem dX6_stands_146 : decode cX6_stands 146 = .ok (.iinc 1 1, 3) := by decide +kernel
theorem dX6_stands_149 : decode cX6_stands 149 = .ok (.goto (-31), 3) := by decide +kernel
theorem dX6_stands_152 : decode cX6_stands 152 = .ok (.aload_n 0, 1) := by decide +kernel
theorem dX6_stands_153 : decode cX6_stands 153 = .ok (.dup, 1) := by decide +kernel
theorem dX6_stands_154 : decode cX6_stands 154 = .ok (.getfield 54, 3) := by decide +kernel
theorem dX6_stands_157 : decode cX6_stands 157 = .ok (.iconst 1, 1) := by decide +kernel
theorem dX6_stands_158 : decode cX6_stands 158 = .ok (.iadd, 1) := by decide +kernel
theorem dX6_stands_159 : decode cX6_stands 159 = .ok (.putfield 54, 3) := by decide +kernel
theorem dX6_stands_162 : decode cX6_stands 162 = .ok (.aload_n 0, 1) := by decide +kernel
theorem dX6_stands_163 : decode cX6_stands 163 = .ok (.iconst 1, 1) := by decide +kernel
theorem dX6_stands_164 : decode cX6_stands 164 = .ok (.putfield 57, 3) := by decide +kernel
theorem dX6_stands_167 : decode cX6_stands 167 = .ok (.iconst 1, 1) := by decide +kernel
theorem dX6_stands_168 : decode cX6_stands 168 = .ok (.ireturn, 1) := by decide +kernel
theorem dX6_want_0 : decode cX6_want 0 = .ok (.aload_n 0, 1) := by decide +kernel
theorem dX6_want_1 : decode cX6_want 1 = .ok (.iload_n 1, 1) := by decide +kernel
theorem dX6_want_2 : decode cX6_want 2 = .ok (.invokevirtual 113, 3) := by decide +kernel
theorem dX6_want_5 : decode cX6_want 5 = .ok (.ifCond .ne 5, 3) := by decide +kernel
theorem dX6_want_8 : decode cX6_want 8 = .ok (.iconst (-1), 1) := by decide +kernel
theorem dX6_want_9 : decode cX6_want 9 = .ok (.ireturn, 1) := by decide +kernel
theorem dX6_want_10 : decode cX6_want 10 = .ok (.aload_n 0, 1) := by decide +kernel
theorem dX6_want_11 : decode cX6_want 11 = .ok (.getfield 17, 3) := by decide +kernel
theorem dX6_want_14 : decode cX6_want 14 = .ok (.bipush 21, 2) := by decide +kernel
theorem dX6_want_16 : decode cX6_want 16 = .ok (.iload_n 1, 1) := by decide +kernel
theorem dX6_want_17 : decode cX6_want 17 = .ok (.imul, 1) := by decide +kernel
theorem dX6_want_18 : decode cX6_want 18 = .ok (.iconst 0, 1) := by decide +kernel
theorem dX6_want_19 : decode cX6_want 19 = .ok (.iadd, 1) := by decide +kernel
theorem dX6_want_20 : decode cX6_want 20 = .ok (.iaload, 1) := by decide +kernel
theorem dX6_want_21 : decode cX6_want 21 = .ok (.ifCond .eq 6, 3) := by decide +kernel
theorem dX6_want_24 : decode cX6_want 24 = .ok (.bipush (-2), 2) := by decide +kernel
theorem dX6_want_26 : decode cX6_want 26 = .ok (.ireturn, 1) := by decide +kernel
theorem dX6_want_27 : decode cX6_want 27 = .ok (.aload_n 0, 1) := by decide +kernel
theorem dX6_want_28 : decode cX6_want 28 = .ok (.invokevirtual 116, 3) := by decide +kernel
theorem dX6_want_31 : decode cX6_want 31 = .ok (.aload_n 0, 1) := by decide +kernel
theorem dX6_want_32 : decode cX6_want 32 = .ok (.iload_n 1, 1) := by decide +kernel
theorem dX6_want_33 : decode cX6_want 33 = .ok (.invokevirtual 119, 3) := by decide +kernel
theorem dX6_want_36 : decode cX6_want 36 = .ok (.aload_n 0, 1) := by decide +kernel
theorem dX6_want_37 : decode cX6_want 37 = .ok (.invokevirtual 122, 3) := by decide +kernel
theorem dX6_want_40 : decode cX6_want 40 = .ok (.ifCond .ne 8, 3) := by decide +kernel
theorem dX6_want_43 : decode cX6_want 43 = .ok (.bipush (-3), 2) := by decide +kernel
theorem dX6_want_45 : decode cX6_want 45 = .ok (.goto 23, 3) := by decide +kernel
theorem dX6_want_48 : decode cX6_want 48 = .ok (.aload_n 0, 1) := by decide +kernel
theorem dX6_want_49 : decode cX6_want 49 = .ok (.getfield 17, 3) := by decide +kernel
theorem dX6_want_52 : decode cX6_want 52 = .ok (.bipush 21, 2) := by decide +kernel
theorem dX6_want_54 : decode cX6_want 54 = .ok (.iload_n 1, 1) := by decide +kernel
theorem dX6_want_55 : decode cX6_want 55 = .ok (.imul, 1) := by decide +kernel
theorem dX6_want_56 : decode cX6_want 56 = .ok (.iconst 0, 1) := by decide +kernel
theorem dX6_want_57 : decode cX6_want 57 = .ok (.iadd, 1) := by decide +kernel
theorem dX6_want_58 : decode cX6_want 58 = .ok (.iaload, 1) := by decide +kernel
theorem dX6_want_59 : decode cX6_want 59 = .ok (.iconst 2, 1) := by decide +kernel
theorem dX6_want_60 : decode cX6_want 60 = .ok (.if_icmp .ne 7, 3) := by decide +kernel
theorem dX6_want_63 : decode cX6_want 63 = .ok (.iconst 1, 1) := by decide +kernel
theorem dX6_want_64 : decode cX6_want 64 = .ok (.goto 4, 3) := by decide +kernel
theorem dX6_want_67 : decode cX6_want 67 = .ok (.iconst 0, 1) := by decide +kernel
theorem dX6_want_68 : decode cX6_want 68 = .ok (.ireturn, 1) := by decide +kernel
theorem dX6_leave_0 : decode cX6_leave 0 = .ok (.aload_n 0, 1) := by decide +kernel
theorem dX6_leave_1 : decode cX6_leave 1 = .ok (.iload_n 1, 1) := by decide +kernel
theorem dX6_leave_2 : decode cX6_leave 2 = .ok (.invokevirtual 113, 3) := by decide +kernel
theorem dX6_leave_5 : decode cX6_leave 5 = .ok (.ifCond .ne 5, 3) := by decide +kernel
theorem dX6_leave_8 : decode cX6_leave 8 = .ok (.iconst (-1), 1) := by decide +kernel
theorem dX6_leave_9 : decode cX6_leave 9 = .ok (.ireturn, 1) := by decide +kernel
theorem dX6_leave_10 : decode cX6_leave 10 = .ok (.aload_n 0, 1) := by decide +kernel
theorem dX6_leave_11 : decode cX6_leave 11 = .ok (.getfield 17, 3) := by decide +kernel
theorem dX6_leave_14 : decode cX6_leave 14 = .ok (.bipush 21, 2) := by decide +kernel
theorem dX6_leave_16 : decode cX6_leave 16 = .ok (.iload_n 1, 1) := by decide +kernel
theorem dX6_leave_17 : decode cX6_leave 17 = .ok (.imul, 1) := by decide +kernel
theorem dX6_leave_18 : decode cX6_leave 18 = .ok (.iconst 0, 1) := by decide +kernel
theorem dX6_leave_19 : decode cX6_leave 19 = .ok (.iadd, 1) := by decide +kernel
theorem dX6_leave_20 : decode cX6_leave 20 = .ok (.iaload, 1) := by decide +kernel
theorem dX6_leave_21 : decode cX6_leave 21 = .ok (.iconst 2, 1) := by decide +kernel
theorem dX6_leave_22 : decode cX6_leave 22 = .ok (.if_icmp .eq 6, 3) := by decide +kernel
theorem dX6_leave_25 : decode cX6_leave 25 = .ok (.bipush (-2), 2) := by decide +kernel
theorem dX6_leave_27 : decode cX6_leave 27 = .ok (.ireturn, 1) := by decide +kernel
theorem dX6_leave_28 : decode cX6_leave 28 = .ok (.aload_n 0, 1) := by decide +kernel
theorem dX6_leave_29 : decode cX6_leave 29 = .ok (.invokevirtual 116, 3) := by decide +kernel
theorem dX6_leave_32 : decode cX6_leave 32 = .ok (.aload_n 0, 1) := by decide +kernel
theorem dX6_leave_33 : decode cX6_leave 33 = .ok (.invokevirtual 80, 3) := by decide +kernel
theorem dX6_leave_36 : decode cX6_leave 36 = .ok (.istore_n 2, 1) := by decide +kernel
theorem dX6_leave_37 : decode cX6_leave 37 = .ok (.aload_n 0, 1) := by decide +kernel
theorem dX6_leave_38 : decode cX6_leave 38 = .ok (.iload_n 1, 1) := by decide +kernel
theorem dX6_leave_39 : decode cX6_leave 39 = .ok (.invokevirtual 126, 3) := by decide +kernel
theorem dX6_leave_42 : decode cX6_leave 42 = .ok (.aload_n 0, 1) := by decide +kernel
theorem dX6_leave_43 : decode cX6_leave 43 = .ok (.invokevirtual 122, 3) := by decide +kernel
theorem dX6_leave_46 : decode cX6_leave 46 = .ok (.ifCond .ne 8, 3) := by decide +kernel
theorem dX6_leave_49 : decode cX6_leave 49 = .ok (.bipush (-3), 2) := by decide +kernel
theorem dX6_leave_51 : decode cX6_leave 51 = .ok (.goto 9, 3) := by decide +kernel
theorem dX6_leave_54 : decode cX6_leave 54 = .ok (.aload_n 0, 1) := by decide +kernel
theorem dX6_leave_55 : decode cX6_leave 55 = .ok (.invokevirtual 80, 3) := by decide +kernel
theorem dX6_leave_58 : decode cX6_leave 58 = .ok (.iload_n 2, 1) := by decide +kernel
theorem dX6_leave_59 : decode cX6_leave 59 = .ok (.isub, 1) := by decide +kernel
theorem dX6_leave_60 : decode cX6_leave 60 = .ok (.ireturn, 1) := by decide +kernel
theorem dX6_come_0 : decode cX6_come 0 = .ok (.aload_n 0, 1) := by decide +kernel
theorem dX6_come_1 : decode cX6_come 1 = .ok (.iload_n 1, 1) := by decide +kernel
theorem dX6_come_2 : decode cX6_come 2 = .ok (.invokevirtual 113, 3) := by decide +kernel
theorem dX6_come_5 : decode cX6_come 5 = .ok (.ifCond .eq 16, 3) := by decide +kernel
theorem dX6_come_8 : decode cX6_come 8 = .ok (.aload_n 0, 1) := by decide +kernel
theorem dX6_come_9 : decode cX6_come 9 = .ok (.iload_n 2, 1) := by decide +kernel
theorem dX6_come_10 : decode cX6_come 10 = .ok (.invokevirtual 113, 3) := by decide +kernel
theorem dX6_come_13 : decode cX6_come 13 = .ok (.ifCond .eq 8, 3) := by decide +kernel
theorem dX6_come_16 : decode cX6_come 16 = .ok (.iload_n 1, 1) := by decide +kernel
theorem dX6_come_17 : decode cX6_come 17 = .ok (.iload_n 2, 1) := by decide +kernel
theorem dX6_come_18 : decode cX6_come 18 = .ok (.if_icmp .ne 5, 3) := by decide +kernel
theorem dX6_come_21 : decode cX6_come 21 = .ok (.iconst (-1), 1) := by decide +kernel
theorem dX6_come_22 : decode cX6_come 22 = .ok (.ireturn, 1) := by decide +kernel
theorem dX6_come_23 : decode cX6_come 23 = .ok (.aload_n 0, 1) := by decide +kernel
theorem dX6_come_24 : decode cX6_come 24 = .ok (.getfield 17, 3) := by decide +kernel
theorem dX6_come_27 : decode cX6_come 27 = .ok (.aload_n 0, 1) := by decide +kernel
theorem dX6_come_28 : decode cX6_come 28 = .ok (.iload_n 1, 1) := by decide +kernel
theorem dX6_come_29 : decode cX6_come 29 = .ok (.iload_n 2, 1) := by decide +kernel
theorem dX6_come_30 : decode cX6_come 30 = .ok (.invokevirtual 69, 3) := by decide +kernel
theorem dX6_come_33 : decode cX6_come 33 = .ok (.iaload, 1) := by decide +kernel
theorem dX6_come_34 : decode cX6_come 34 = .ok (.ifCond .ne 6, 3) := by decide +kernel
theorem dX6_come_37 : decode cX6_come 37 = .ok (.bipush (-2), 2) := by decide +kernel
theorem dX6_come_39 : decode cX6_come 39 = .ok (.ireturn, 1) := by decide +kernel
theorem dX6_come_40 : decode cX6_come 40 = .ok (.aload_n 0, 1) := by decide +kernel
theorem dX6_come_41 : decode cX6_come 41 = .ok (.invokevirtual 116, 3) := by decide +kernel
theorem dX6_come_44 : decode cX6_come 44 = .ok (.aload_n 0, 1) := by decide +kernel
theorem dX6_come_45 : decode cX6_come 45 = .ok (.iload_n 1, 1) := by decide +kernel
theorem dX6_come_46 : decode cX6_come 46 = .ok (.iload_n 2, 1) := by decide +kernel
theorem dX6_come_47 : decode cX6_come 47 = .ok (.invokevirtual 129, 3) := by decide +kernel
theorem dX6_come_50 : decode cX6_come 50 = .ok (.istore_n 3, 1) := by decide +kernel
theorem dX6_come_51 : decode cX6_come 51 = .ok (.aload_n 0, 1) := by decide +kernel
theorem dX6_come_52 : decode cX6_come 52 = .ok (.invokevirtual 122, 3) := by decide +kernel
theorem dX6_come_55 : decode cX6_come 55 = .ok (.ifCond .eq 7, 3) := by decide +kernel
theorem dX6_come_58 : decode cX6_come 58 = .ok (.iload_n 3, 1) := by decide +kernel
theorem dX6_come_59 : decode cX6_come 59 = .ok (.goto 5, 3) := by decide +kernel
theorem dX6_come_62 : decode cX6_come 62 = .ok (.bipush (-3), 2) := by decide +kernel
theorem dX6_come_64 : decode cX6_come 64 = .ok (.ireturn, 1) := by decide +kernel
theorem dX6_pairOf_0 : decode cX6_pairOf 0 = .ok (.iconst 0, 1) := by decide +kernel
theorem dX6_pairOf_1 : decode cX6_pairOf 1 = .ok (.istore_n 2, 1) := by decide +kernel
theorem dX6_pairOf_2 : decode cX6_pairOf 2 = .ok (.iconst 0, 1) := by decide +kernel
theorem dX6_pairOf_3 : decode cX6_pairOf 3 = .ok (.istore_n 3, 1) := by decide +kernel
theorem dX6_pairOf_4 : decode cX6_pairOf 4 = .ok (.iload_n 3, 1) := by decide +kernel
theorem dX6_pairOf_5 : decode cX6_pairOf 5 = .ok (.aload_n 0, 1) := by decide +kernel
theorem dX6_pairOf_6 : decode cX6_pairOf 6 = .ok (.getfield 7, 3) := by decide +kernel
theorem dX6_pairOf_9 : decode cX6_pairOf 9 = .ok (.if_icmp .ge 58, 3) := by decide +kernel
theorem dX6_pairOf_12 : decode cX6_pairOf 12 = .ok (.iconst 0, 1) := by decide +kernel
theorem dX6_pairOf_13 : decode cX6_pairOf 13 = .ok (.istore 4, 2) := by decide +kernel
theorem dX6_pairOf_15 : decode cX6_pairOf 15 = .ok (.iload 4, 2) := by decide +kernel
theorem dX6_pairOf_17 : decode cX6_pairOf 17 = .ok (.aload_n 0, 1) := by decide +kernel
theorem dX6_pairOf_18 : decode cX6_pairOf 18 = .ok (.getfield 7, 3) := by decide +kernel
theorem dX6_pairOf_21 : decode cX6_pairOf 21 = .ok (.if_icmp .ge 40, 3) := by decide +kernel
theorem dX6_pairOf_24 : decode cX6_pairOf 24 = .ok (.aload_n 0, 1) := by decide +kernel
theorem dX6_pairOf_25 : decode cX6_pairOf 25 = .ok (.getfield 17, 3) := by decide +kernel
theorem dX6_pairOf_28 : decode cX6_pairOf 28 = .ok (.aload_n 0, 1) := by decide +kernel
theorem dX6_pairOf_29 : decode cX6_pairOf 29 = .ok (.iload_n 3, 1) := by decide +kernel
theorem dX6_pairOf_30 : decode cX6_pairOf 30 = .ok (.iload 4, 2) := by decide +kernel
theorem dX6_pairOf_32 : decode cX6_pairOf 32 = .ok (.invokevirtual 69, 3) := by decide +kernel
theorem dX6_pairOf_35 : decode cX6_pairOf 35 = .ok (.iaload, 1) := by decide +kernel
theorem dX6_pairOf_36 : decode cX6_pairOf 36 = .ok (.ifCond .le 19, 3) := by decide +kernel
theorem dX6_pairOf_39 : decode cX6_pairOf 39 = .ok (.iload_n 2, 1) := by decide +kernel
theorem dX6_pairOf_40 : decode cX6_pairOf 40 = .ok (.iload_n 1, 1) := by decide +kernel
theorem dX6_pairOf_41 : decode cX6_pairOf 41 = .ok (.if_icmp .ne 11, 3) := by decide +kernel
theorem dX6_pairOf_44 : decode cX6_pairOf 44 = .ok (.bipush 6, 2) := by decide +kernel
theorem dX6_pairOf_46 : decode cX6_pairOf 46 = .ok (.iload_n 3, 1) := by decide +kernel
theorem dX6_pairOf_47 : decode cX6_pairOf 47 = .ok (.imul, 1) := by decide +kernel
theorem dX6_pairOf_48 : decode cX6_pairOf 48 = .ok (.iload 4, 2) := by decide +kernel
theorem dX6_pairOf_50 : decode cX6_pairOf 50 = .ok (.iadd, 1) := by decide +kernel
theorem dX6_pairOf_51 : decode cX6_pairOf 51 = .ok (.ireturn, 1) := by decide +kernel
theorem dX6_pairOf_52 : decode cX6_pairOf 52 = .ok (.iinc 2 1, 3) := by decide +kernel
theorem dX6_pairOf_55 : decode cX6_pairOf 55 = .ok (.iinc 4 1, 3) := by decide +kernel
theorem dX6_pairOf_58 : decode cX6_pairOf 58 = .ok (.goto (-43), 3) := by decide +kernel
theorem dX6_pairOf_61 : decode cX6_pairOf 61 = .ok (.iinc 3 1, 3) := by decide +kernel
theorem dX6_pairOf_64 : decode cX6_pairOf 64 = .ok (.goto (-60), 3) := by decide +kernel
theorem dX6_pairOf_67 : decode cX6_pairOf 67 = .ok (.iload_n 2, 1) := by decide +kernel
theorem dX6_pairOf_68 : decode cX6_pairOf 68 = .ok (.ireturn, 1) := by decide +kernel
theorem dX6_run_0 : decode cX6_run 0 = .ok (.iload_n 1, 1) := by decide +kernel
theorem dX6_run_1 : decode cX6_run 1 = .ok (.iconst 1, 1) := by decide +kernel
theorem dX6_run_2 : decode cX6_run 2 = .ok (.bipush 100, 2) := by decide +kernel
theorem dX6_run_4 : decode cX6_run 4 = .ok (.invokestatic 47, 3) := by decide +kernel
theorem dX6_run_7 : decode cX6_run 7 = .ok (.ifCond .eq 7, 3) := by decide +kernel
theorem dX6_run_10 : decode cX6_run 10 = .ok (.iload_n 2, 1) := by decide +kernel
theorem dX6_run_11 : decode cX6_run 11 = .ok (.ifCond .ge 5, 3) := by decide +kernel
theorem dX6_run_14 : decode cX6_run 14 = .ok (.iconst (-1), 1) := by decide +kernel
theorem dX6_run_15 : decode cX6_run 15 = .ok (.ireturn, 1) := by decide +kernel
theorem dX6_run_16 : decode cX6_run 16 = .ok (.iload_n 2, 1) := by decide +kernel
theorem dX6_run_17 : decode cX6_run 17 = .ok (.i2l, 1) := by decide +kernel
theorem dX6_run_18 : decode cX6_run 18 = .ok (.lstore_n 3, 1) := by decide +kernel
theorem dX6_run_19 : decode cX6_run 19 = .ok (.iconst 0, 1) := by decide +kernel
theorem dX6_run_20 : decode cX6_run 20 = .ok (.istore 5, 2) := by decide +kernel
theorem dX6_run_22 : decode cX6_run 22 = .ok (.iconst 1, 1) := by decide +kernel
theorem dX6_run_23 : decode cX6_run 23 = .ok (.istore 6, 2) := by decide +kernel
theorem dX6_run_25 : decode cX6_run 25 = .ok (.iload 5, 2) := by decide +kernel
theorem dX6_run_27 : decode cX6_run 27 = .ok (.iload_n 1, 1) := by decide +kernel
theorem dX6_run_28 : decode cX6_run 28 = .ok (.if_icmp .ge 104, 3) := by decide +kernel
theorem dX6_run_31 : decode cX6_run 31 = .ok (.iload 6, 2) := by decide +kernel
theorem dX6_run_33 : decode cX6_run 33 = .ok (.ifCond .eq 99, 3) := by decide +kernel
theorem dX6_run_36 : decode cX6_run 36 = .ok (.aload_n 0, 1) := by decide +kernel
theorem dX6_run_37 : decode cX6_run 37 = .ok (.iconst (-1), 1) := by decide +kernel
theorem dX6_run_38 : decode cX6_run 38 = .ok (.invokevirtual 132, 3) := by decide +kernel
theorem dX6_run_41 : decode cX6_run 41 = .ok (.istore 7, 2) := by decide +kernel
theorem dX6_run_43 : decode cX6_run 43 = .ok (.iload 7, 2) := by decide +kernel
theorem dX6_run_45 : decode cX6_run 45 = .ok (.ifCond .le 7, 3) := by decide +kernel
theorem dX6_run_48 : decode cX6_run 48 = .ok (.iconst 1, 1) := by decide +kernel
theorem dX6_run_49 : decode cX6_run 49 = .ok (.goto 4, 3) := by decide +kernel
theorem dX6_run_52 : decode cX6_run 52 = .ok (.iconst 0, 1) := by decide +kernel
theorem dX6_run_53 : decode cX6_run 53 = .ok (.istore 6, 2) := by decide +kernel
theorem dX6_run_55 : decode cX6_run 55 = .ok (.iload 6, 2) := by decide +kernel
theorem dX6_run_57 : decode cX6_run 57 = .ok (.ifCond .eq 72, 3) := by decide +kernel
theorem dX6_run_60 : decode cX6_run 60 = .ok (.aload_n 0, 1) := by decide +kernel
theorem dX6_run_61 : decode cX6_run 61 = .ok (.lload_n 3, 1) := by decide +kernel
theorem dX6_run_62 : decode cX6_run 62 = .ok (.iload 7, 2) := by decide +kernel
theorem dX6_run_64 : decode cX6_run 64 = .ok (.i2l, 1) := by decide +kernel
theorem dX6_run_65 : decode cX6_run 65 = .ok (.lrem, 1) := by decide +kernel
theorem dX6_run_66 : decode cX6_run 66 = .ok (.l2i, 1) := by decide +kernel
theorem dX6_run_67 : decode cX6_run 67 = .ok (.invokevirtual 132, 3) := by decide +kernel
theorem dX6_run_70 : decode cX6_run 70 = .ok (.istore 8, 2) := by decide +kernel
theorem dX6_run_72 : decode cX6_run 72 = .ok (.aload_n 0, 1) := by decide +kernel
theorem dX6_run_73 : decode cX6_run 73 = .ok (.iload 8, 2) := by decide +kernel
theorem dX6_run_75 : decode cX6_run 75 = .ok (.bipush 6, 2) := by decide +kernel
theorem dX6_run_77 : decode cX6_run 77 = .ok (.idiv, 1) := by decide +kernel
theorem dX6_run_78 : decode cX6_run 78 = .ok (.iload 8, 2) := by decide +kernel
theorem dX6_run_80 : decode cX6_run 80 = .ok (.bipush 6, 2) := by decide +kernel
theorem dX6_run_82 : decode cX6_run 82 = .ok (.irem, 1) := by decide +kernel
theorem dX6_run_83 : decode cX6_run 83 = .ok (.invokevirtual 136, 3) := by decide +kernel
theorem dX6_run_86 : decode cX6_run 86 = .ok (.ifCond .lt 7, 3) := by decide +kernel
theorem dX6_run_89 : decode cX6_run 89 = .ok (.iconst 1, 1) := by decide +kernel
theorem dX6_run_90 : decode cX6_run 90 = .ok (.goto 4, 3) := by decide +kernel
theorem dX6_run_93 : decode cX6_run 93 = .ok (.iconst 0, 1) := by decide +kernel
theorem dX6_run_94 : decode cX6_run 94 = .ok (.istore 6, 2) := by decide +kernel
theorem dX6_run_96 : decode cX6_run 96 = .ok (.iload 5, 2) := by decide +kernel
theorem dX6_run_98 : decode cX6_run 98 = .ok (.iload 6, 2) := by decide +kernel
theorem dX6_run_100 : decode cX6_run 100 = .ok (.ifCond .eq 7, 3) := by decide +kernel
theorem dX6_run_103 : decode cX6_run 103 = .ok (.iconst 1, 1) := by decide +kernel
theorem dX6_run_104 : decode cX6_run 104 = .ok (.goto 4, 3) := by decide +kernel
theorem dX6_run_107 : decode cX6_run 107 = .ok (.iconst 0, 1) := by decide +kernel
theorem dX6_run_108 : decode cX6_run 108 = .ok (.iadd, 1) := by decide +kernel
theorem dX6_run_109 : decode cX6_run 109 = .ok (.istore 5, 2) := by decide +kernel
theorem dX6_run_111 : decode cX6_run 111 = .ok (.lload_n 3, 1) := by decide +kernel
theorem dX6_run_112 : decode cX6_run 112 = .ok (.ldc2_w 139, 3) := by decide +kernel
theorem dX6_run_115 : decode cX6_run 115 = .ok (.lmul, 1) := by decide +kernel
theorem dX6_run_116 : decode cX6_run 116 = .ok (.ldc2_w 141, 3) := by decide +kernel
theorem dX6_run_119 : decode cX6_run 119 = .ok (.ladd, 1) := by decide +kernel
theorem dX6_run_120 : decode cX6_run 120 = .ok (.ldc2_w 143, 3) := by decide +kernel
theorem dX6_run_123 : decode cX6_run 123 = .ok (.lrem, 1) := by decide +kernel
theorem dX6_run_124 : decode cX6_run 124 = .ok (.ldc2_w 145, 3) := by decide +kernel
theorem dX6_run_127 : decode cX6_run 127 = .ok (.ldiv, 1) := by decide +kernel
theorem dX6_run_128 : decode cX6_run 128 = .ok (.lstore_n 3, 1) := by decide +kernel
theorem dX6_run_129 : decode cX6_run 129 = .ok (.goto (-104), 3) := by decide +kernel
theorem dX6_run_132 : decode cX6_run 132 = .ok (.iload 5, 2) := by decide +kernel
theorem dX6_run_134 : decode cX6_run 134 = .ok (.ireturn, 1) := by decide +kernel
theorem dX6_hasToken_0 : decode cX6_hasToken 0 = .ok (.aload_n 0, 1) := by decide +kernel
theorem dX6_hasToken_1 : decode cX6_hasToken 1 = .ok (.getfield 66, 3) := by decide +kernel
theorem dX6_hasToken_4 : decode cX6_hasToken 4 = .ok (.iconst 1, 1) := by decide +kernel
theorem dX6_hasToken_5 : decode cX6_hasToken 5 = .ok (.if_icmp .ne 22, 3) := by decide +kernel
theorem dX6_hasToken_8 : decode cX6_hasToken 8 = .ok (.aload_n 0, 1) := by decide +kernel
theorem dX6_hasToken_9 : decode cX6_hasToken 9 = .ok (.getfield 17, 3) := by decide +kernel
theorem dX6_hasToken_12 : decode cX6_hasToken 12 = .ok (.bipush 126, 2) := by decide +kernel
theorem dX6_hasToken_14 : decode cX6_hasToken 14 = .ok (.iaload, 1) := by decide +kernel
theorem dX6_hasToken_15 : decode cX6_hasToken 15 = .ok (.iload_n 1, 1) := by decide +kernel
theorem dX6_hasToken_16 : decode cX6_hasToken 16 = .ok (.if_icmp .ne 7, 3) := by decide +kernel
theorem dX6_hasToken_19 : decode cX6_hasToken 19 = .ok (.iconst 1, 1) := by decide +kernel
theorem dX6_hasToken_20 : decode cX6_hasToken 20 = .ok (.goto 35, 3) := by decide +kernel
theorem dX6_hasToken_23 : decode cX6_hasToken 23 = .ok (.iconst 0, 1) := by decide +kernel
theorem dX6_hasToken_24 : decode cX6_hasToken 24 = .ok (.goto 31, 3) := by decide +kernel
theorem dX6_hasToken_27 : decode cX6_hasToken 27 = .ok (.aload_n 0, 1) := by decide +kernel
theorem dX6_hasToken_28 : decode cX6_hasToken 28 = .ok (.getfield 66, 3) := by decide +kernel
theorem dX6_hasToken_31 : decode cX6_hasToken 31 = .ok (.iconst 2, 1) := by decide +kernel
theorem dX6_hasToken_32 : decode cX6_hasToken 32 = .ok (.if_icmp .ne 22, 3) := by decide +kernel
theorem dX6_hasToken_35 : decode cX6_hasToken 35 = .ok (.aload_n 0, 1) := by decide +kernel
theorem dX6_hasToken_36 : decode cX6_hasToken 36 = .ok (.getfield 17, 3) := by decide +kernel
theorem dX6_hasToken_39 : decode cX6_hasToken 39 = .ok (.bipush 21, 2) := by decide +kernel
theorem dX6_hasToken_41 : decode cX6_hasToken 41 = .ok (.iload_n 1, 1) := by decide +kernel
theorem dX6_hasToken_42 : decode cX6_hasToken 42 = .ok (.imul, 1) := by decide +kernel
theorem dX6_hasToken_43 : decode cX6_hasToken 43 = .ok (.iconst 5, 1) := by decide +kernel
theorem dX6_hasToken_44 : decode cX6_hasToken 44 = .ok (.iadd, 1) := by decide +kernel
theorem dX6_hasToken_45 : decode cX6_hasToken 45 = .ok (.iaload, 1) := by decide +kernel
theorem dX6_hasToken_46 : decode cX6_hasToken 46 = .ok (.iload_n 1, 1) := by decide +kernel
theorem dX6_hasToken_47 : decode cX6_hasToken 47 = .ok (.if_icmp .ne 7, 3) := by decide +kernel
theorem dX6_hasToken_50 : decode cX6_hasToken 50 = .ok (.iconst 1, 1) := by decide +kernel
theorem dX6_hasToken_51 : decode cX6_hasToken 51 = .ok (.goto 4, 3) := by decide +kernel
theorem dX6_hasToken_54 : decode cX6_hasToken 54 = .ok (.iconst 0, 1) := by decide +kernel
theorem dX6_hasToken_55 : decode cX6_hasToken 55 = .ok (.ireturn, 1) := by decide +kernel
theorem dX6_keeper_0 : decode cX6_keeper 0 = .ok (.aload_n 0, 1) := by decide +kernel
theorem dX6_keeper_1 : decode cX6_keeper 1 = .ok (.iload_n 1, 1) := by decide +kernel
theorem dX6_keeper_2 : decode cX6_keeper 2 = .ok (.invokevirtual 113, 3) := by decide +kernel
theorem dX6_keeper_5 : decode cX6_keeper 5 = .ok (.ifCond .eq 13, 3) := by decide +kernel
theorem dX6_keeper_8 : decode cX6_keeper 8 = .ok (.iload_n 2, 1) := by decide +kernel
theorem dX6_keeper_9 : decode cX6_keeper 9 = .ok (.iconst 0, 1) := by decide +kernel
theorem dX6_keeper_10 : decode cX6_keeper 10 = .ok (.bipush 9, 2) := by decide +kernel
theorem dX6_keeper_12 : decode cX6_keeper 12 = .ok (.invokestatic 47, 3) := by decide +kernel
theorem dX6_keeper_15 : decode cX6_keeper 15 = .ok (.ifCond .ne 5, 3) := by decide +kernel
theorem dX6_keeper_18 : decode cX6_keeper 18 = .ok (.iconst (-1), 1) := by decide +kernel
theorem dX6_keeper_19 : decode cX6_keeper 19 = .ok (.ireturn, 1) := by decide +kernel
theorem dX6_keeper_20 : decode cX6_keeper 20 = .ok (.bipush 21, 2) := by decide +kernel
theorem dX6_keeper_22 : decode cX6_keeper 22 = .ok (.iload_n 1, 1) := by decide +kernel
theorem dX6_keeper_23 : decode cX6_keeper 23 = .ok (.imul, 1) := by decide +kernel
theorem dX6_keeper_24 : decode cX6_keeper 24 = .ok (.istore_n 3, 1) := by decide +kernel
theorem dX6_keeper_25 : decode cX6_keeper 25 = .ok (.iload_n 2, 1) := by decide +kernel
theorem dX6_keeper_26 : decode cX6_keeper 26 = .ok (.tableswitch 218 0 8 #[50, 59, 79, 121, 153, 162, 176, 198, 208], 50) := by decide +kernel
theorem dX6_keeper_76 : decode cX6_keeper 76 = .ok (.aload_n 0, 1) := by decide +kernel
theorem dX6_keeper_77 : decode cX6_keeper 77 = .ok (.getfield 17, 3) := by decide +kernel
theorem dX6_keeper_80 : decode cX6_keeper 80 = .ok (.iload_n 3, 1) := by decide +kernel
theorem dX6_keeper_81 : decode cX6_keeper 81 = .ok (.iconst 0, 1) := by decide +kernel
theorem dX6_keeper_82 : decode cX6_keeper 82 = .ok (.iadd, 1) := by decide +kernel
theorem dX6_keeper_83 : decode cX6_keeper 83 = .ok (.iaload, 1) := by decide +kernel
theorem dX6_keeper_84 : decode cX6_keeper 84 = .ok (.ireturn, 1) := by decide +kernel
theorem dX6_keeper_85 : decode cX6_keeper 85 = .ok (.aload_n 0, 1) := by decide +kernel
theorem dX6_keeper_86 : decode cX6_keeper 86 = .ok (.getfield 66, 3) := by decide +kernel
theorem dX6_keeper_89 : decode cX6_keeper 89 = .ok (.ifCond .ne 14, 3) := by decide +kernel
theorem dX6_keeper_92 : decode cX6_keeper 92 = .ok (.aload_n 0, 1) := by decide +kernel
theorem dX6_keeper_93 : decode cX6_keeper 93 = .ok (.getfield 17, 3) := by decide +kernel
theorem dX6_keeper_96 : decode cX6_keeper 96 = .ok (.iload_n 3, 1) := by decide +kernel
theorem dX6_keeper_97 : decode cX6_keeper 97 = .ok (.iconst 1, 1) := by decide +kernel
theorem dX6_keeper_98 : decode cX6_keeper 98 = .ok (.iadd, 1) := by decide +kernel
theorem dX6_keeper_99 : decode cX6_keeper 99 = .ok (.iaload, 1) := by decide +kernel
theorem dX6_keeper_100 : decode cX6_keeper 100 = .ok (.goto 4, 3) := by decide +kernel
theorem dX6_keeper_103 : decode cX6_keeper 103 = .ok (.iconst 0, 1) := by decide +kernel
theorem dX6_keeper_104 : decode cX6_keeper 104 = .ok (.ireturn, 1) := by decide +kernel
theorem dX6_keeper_105 : decode cX6_keeper 105 = .ok (.aload_n 0, 1) := by decide +kernel
theorem dX6_keeper_106 : decode cX6_keeper 106 = .ok (.getfield 66, 3) := by decide +kernel
theorem dX6_keeper_109 : decode cX6_keeper 109 = .ok (.ifCond .ne 14, 3) := by decide +kernel
theorem dX6_keeper_112 : decode cX6_keeper 112 = .ok (.aload_n 0, 1) := by decide +kernel
theorem dX6_keeper_113 : decode cX6_keeper 113 = .ok (.getfield 17, 3) := by decide +kernel
theorem dX6_keeper_116 : decode cX6_keeper 116 = .ok (.iload_n 3, 1) := by decide +kernel
theorem dX6_keeper_117 : decode cX6_keeper 117 = .ok (.iconst 2, 1) := by decide +kernel
theorem dX6_keeper_118 : decode cX6_keeper 118 = .ok (.iadd, 1) := by decide +kernel
theorem dX6_keeper_119 : decode cX6_keeper 119 = .ok (.iaload, 1) := by decide +kernel
theorem dX6_keeper_120 : decode cX6_keeper 120 = .ok (.goto 26, 3) := by decide +kernel
theorem dX6_keeper_123 : decode cX6_keeper 123 = .ok (.aload_n 0, 1) := by decide +kernel
theorem dX6_keeper_124 : decode cX6_keeper 124 = .ok (.getfield 66, 3) := by decide +kernel
theorem dX6_keeper_127 : decode cX6_keeper 127 = .ok (.iconst 1, 1) := by decide +kernel
theorem dX6_keeper_128 : decode cX6_keeper 128 = .ok (.if_icmp .ne 17, 3) := by decide +kernel
theorem dX6_keeper_131 : decode cX6_keeper 131 = .ok (.aload_n 0, 1) := by decide +kernel
theorem dX6_keeper_132 : decode cX6_keeper 132 = .ok (.getfield 17, 3) := by decide +kernel
theorem dX6_keeper_135 : decode cX6_keeper 135 = .ok (.iload_n 3, 1) := by decide +kernel
theorem dX6_keeper_136 : decode cX6_keeper 136 = .ok (.bipush 14, 2) := by decide +kernel
theorem dX6_keeper_138 : decode cX6_keeper 138 = .ok (.iadd, 1) := by decide +kernel
theorem dX6_keeper_139 : decode cX6_keeper 139 = .ok (.iload_n 1, 1) := by decide +kernel
theorem dX6_keeper_140 : decode cX6_keeper 140 = .ok (.iadd, 1) := by decide +kernel
theorem dX6_keeper_141 : decode cX6_keeper 141 = .ok (.iaload, 1) := by decide +kernel
theorem dX6_keeper_142 : decode cX6_keeper 142 = .ok (.goto 4, 3) := by decide +kernel
theorem dX6_keeper_145 : decode cX6_keeper 145 = .ok (.iconst 0, 1) := by decide +kernel
theorem dX6_keeper_146 : decode cX6_keeper 146 = .ok (.ireturn, 1) := by decide +kernel
theorem dX6_keeper_147 : decode cX6_keeper 147 = .ok (.aload_n 0, 1) := by decide +kernel
theorem dX6_keeper_148 : decode cX6_keeper 148 = .ok (.getfield 66, 3) := by decide +kernel
theorem dX6_keeper_151 : decode cX6_keeper 151 = .ok (.ifCond .ne 26, 3) := by decide +kernel
theorem dX6_keeper_154 : decode cX6_keeper 154 = .ok (.aload_n 0, 1) := by decide +kernel
theorem dX6_keeper_155 : decode cX6_keeper 155 = .ok (.getfield 17, 3) := by decide +kernel
theorem dX6_keeper_158 : decode cX6_keeper 158 = .ok (.iload_n 3, 1) := by decide +kernel
theorem dX6_keeper_159 : decode cX6_keeper 159 = .ok (.iconst 0, 1) := by decide +kernel
theorem dX6_keeper_160 : decode cX6_keeper 160 = .ok (.iadd, 1) := by decide +kernel
theorem dX6_keeper_161 : decode cX6_keeper 161 = .ok (.iaload, 1) := by decide +kernel
theorem dX6_keeper_162 : decode cX6_keeper 162 = .ok (.iconst 1, 1) := by decide +kernel
theorem dX6_keeper_163 : decode cX6_keeper 163 = .ok (.if_icmp .ne 14, 3) := by decide +kernel
theorem dX6_keeper_166 : decode cX6_keeper 166 = .ok (.aload_n 0, 1) := by decide +kernel
theorem dX6_keeper_167 : decode cX6_keeper 167 = .ok (.getfield 17, 3) := by decide +kernel
theorem dX6_keeper_170 : decode cX6_keeper 170 = .ok (.iload_n 3, 1) := by decide +kernel
theorem dX6_keeper_171 : decode cX6_keeper 171 = .ok (.iconst 3, 1) := by decide +kernel
theorem dX6_keeper_172 : decode cX6_keeper 172 = .ok (.iadd, 1) := by decide +kernel
theorem dX6_keeper_173 : decode cX6_keeper 173 = .ok (.iaload, 1) := by decide +kernel
theorem dX6_keeper_174 : decode cX6_keeper 174 = .ok (.goto 4, 3) := by decide +kernel
theorem dX6_keeper_177 : decode cX6_keeper 177 = .ok (.iconst 0, 1) := by decide +kernel
theorem dX6_keeper_178 : decode cX6_keeper 178 = .ok (.ireturn, 1) := by decide +kernel
theorem dX6_keeper_179 : decode cX6_keeper 179 = .ok (.aload_n 0, 1) := by decide +kernel
theorem dX6_keeper_180 : decode cX6_keeper 180 = .ok (.getfield 17, 3) := by decide +kernel
theorem dX6_keeper_183 : decode cX6_keeper 183 = .ok (.iload_n 3, 1) := by decide +kernel
theorem dX6_keeper_184 : decode cX6_keeper 184 = .ok (.iconst 4, 1) := by decide +kernel
theorem dX6_keeper_185 : decode cX6_keeper 185 = .ok (.iadd, 1) := by decide +kernel
theorem dX6_keeper_186 : decode cX6_keeper 186 = .ok (.iaload, 1) := by decide +kernel
theorem dX6_keeper_187 : decode cX6_keeper 187 = .ok (.ireturn, 1) := by decide +kernel
theorem dX6_keeper_188 : decode cX6_keeper 188 = .ok (.aload_n 0, 1) := by decide +kernel
theorem dX6_keeper_189 : decode cX6_keeper 189 = .ok (.iload_n 1, 1) := by decide +kernel
theorem dX6_keeper_190 : decode cX6_keeper 190 = .ok (.invokevirtual 147, 3) := by decide +kernel
theorem dX6_keeper_193 : decode cX6_keeper 193 = .ok (.ifCond .eq 7, 3) := by decide +kernel
theorem dX6_keeper_196 : decode cX6_keeper 196 = .ok (.iconst 1, 1) := by decide +kernel
theorem dX6_keeper_197 : decode cX6_keeper 197 = .ok (.goto 4, 3) := by decide +kernel
theorem dX6_keeper_200 : decode cX6_keeper 200 = .ok (.iconst 0, 1) := by decide +kernel
theorem dX6_keeper_201 : decode cX6_keeper 201 = .ok (.ireturn, 1) := by decide +kernel
theorem dX6_keeper_202 : decode cX6_keeper 202 = .ok (.aload_n 0, 1) := by decide +kernel
theorem dX6_keeper_203 : decode cX6_keeper 203 = .ok (.getfield 66, 3) := by decide +kernel
theorem dX6_keeper_206 : decode cX6_keeper 206 = .ok (.iconst 2, 1) := by decide +kernel
theorem dX6_keeper_207 : decode cX6_keeper 207 = .ok (.if_icmp .ne 14, 3) := by decide +kernel
theorem dX6_keeper_210 : decode cX6_keeper 210 = .ok (.aload_n 0, 1) := by decide +kernel
theorem dX6_keeper_211 : decode cX6_keeper 211 = .ok (.getfield 17, 3) := by decide +kernel
theorem dX6_keeper_214 : decode cX6_keeper 214 = .ok (.iload_n 3, 1) := by decide +kernel
theorem dX6_keeper_215 : decode cX6_keeper 215 = .ok (.iconst 5, 1) := by decide +kernel
theorem dX6_keeper_216 : decode cX6_keeper 216 = .ok (.iadd, 1) := by decide +kernel
theorem dX6_keeper_217 : decode cX6_keeper 217 = .ok (.iaload, 1) := by decide +kernel
theorem dX6_keeper_218 : decode cX6_keeper 218 = .ok (.goto 5, 3) := by decide +kernel
theorem dX6_keeper_221 : decode cX6_keeper 221 = .ok (.bipush (-4), 2) := by decide +kernel
theorem dX6_keeper_223 : decode cX6_keeper 223 = .ok (.ireturn, 1) := by decide +kernel
theorem dX6_keeper_224 : decode cX6_keeper 224 = .ok (.aload_n 0, 1) := by decide +kernel
theorem dX6_keeper_225 : decode cX6_keeper 225 = .ok (.getfield 17, 3) := by decide +kernel
theorem dX6_keeper_228 : decode cX6_keeper 228 = .ok (.iload_n 3, 1) := by decide +kernel
theorem dX6_keeper_229 : decode cX6_keeper 229 = .ok (.bipush 6, 2) := by decide +kernel
theorem dX6_keeper_231 : decode cX6_keeper 231 = .ok (.iadd, 1) := by decide +kernel
theorem dX6_keeper_232 : decode cX6_keeper 232 = .ok (.iaload, 1) := by decide +kernel
theorem dX6_keeper_233 : decode cX6_keeper 233 = .ok (.ireturn, 1) := by decide +kernel
theorem dX6_keeper_234 : decode cX6_keeper 234 = .ok (.aload_n 0, 1) := by decide +kernel
theorem dX6_keeper_235 : decode cX6_keeper 235 = .ok (.getfield 17, 3) := by decide +kernel
theorem dX6_keeper_238 : decode cX6_keeper 238 = .ok (.iload_n 3, 1) := by decide +kernel
theorem dX6_keeper_239 : decode cX6_keeper 239 = .ok (.bipush 7, 2) := by decide +kernel
theorem dX6_keeper_241 : decode cX6_keeper 241 = .ok (.iadd, 1) := by decide +kernel
theorem dX6_keeper_242 : decode cX6_keeper 242 = .ok (.iaload, 1) := by decide +kernel
theorem dX6_keeper_243 : decode cX6_keeper 243 = .ok (.ireturn, 1) := by decide +kernel
theorem dX6_keeper_244 : decode cX6_keeper 244 = .ok (.aload_n 0, 1) := by decide +kernel
theorem dX6_keeper_245 : decode cX6_keeper 245 = .ok (.getfield 66, 3) := by decide +kernel
theorem dX6_keeper_248 : decode cX6_keeper 248 = .ok (.iconst 2, 1) := by decide +kernel
theorem dX6_keeper_249 : decode cX6_keeper 249 = .ok (.if_icmp .ne 12, 3) := by decide +kernel
theorem dX6_keeper_252 : decode cX6_keeper 252 = .ok (.aload_n 0, 1) := by decide +kernel
theorem dX6_keeper_253 : decode cX6_keeper 253 = .ok (.getfield 13, 3) := by decide +kernel
theorem dX6_keeper_256 : decode cX6_keeper 256 = .ok (.iload_n 1, 1) := by decide +kernel
theorem dX6_keeper_257 : decode cX6_keeper 257 = .ok (.iaload, 1) := by decide +kernel
theorem dX6_keeper_258 : decode cX6_keeper 258 = .ok (.goto 5, 3) := by decide +kernel
theorem dX6_keeper_261 : decode cX6_keeper 261 = .ok (.bipush (-4), 2) := by decide +kernel
theorem dX6_keeper_263 : decode cX6_keeper 263 = .ok (.ireturn, 1) := by decide +kernel
theorem dX6_knows_0 : decode cX6_knows 0 = .ok (.aload_n 0, 1) := by decide +kernel
theorem dX6_knows_1 : decode cX6_knows 1 = .ok (.iload_n 1, 1) := by decide +kernel
theorem dX6_knows_2 : decode cX6_knows 2 = .ok (.invokevirtual 113, 3) := by decide +kernel
theorem dX6_knows_5 : decode cX6_knows 5 = .ok (.ifCond .eq 14, 3) := by decide +kernel
theorem dX6_knows_8 : decode cX6_knows 8 = .ok (.iload_n 2, 1) := by decide +kernel
theorem dX6_knows_9 : decode cX6_knows 9 = .ok (.ifCond .lt 10, 3) := by decide +kernel
theorem dX6_knows_12 : decode cX6_knows 12 = .ok (.aload_n 0, 1) := by decide +kernel
theorem dX6_knows_13 : decode cX6_knows 13 = .ok (.getfield 66, 3) := by decide +kernel
theorem dX6_knows_16 : decode cX6_knows 16 = .ok (.ifCond .ne 6, 3) := by decide +kernel
theorem dX6_knows_19 : decode cX6_knows 19 = .ok (.bipush (-4), 2) := by decide +kernel
theorem dX6_knows_21 : decode cX6_knows 21 = .ok (.ireturn, 1) := by decide +kernel
theorem dX6_knows_22 : decode cX6_knows 22 = .ok (.aload_n 0, 1) := by decide +kernel
theorem dX6_knows_23 : decode cX6_knows 23 = .ok (.getfield 66, 3) := by decide +kernel
theorem dX6_knows_26 : decode cX6_knows 26 = .ok (.iconst 1, 1) := by decide +kernel
theorem dX6_knows_27 : decode cX6_knows 27 = .ok (.if_icmp .ne 31, 3) := by decide +kernel
theorem dX6_knows_30 : decode cX6_knows 30 = .ok (.iload_n 2, 1) := by decide +kernel
theorem dX6_knows_31 : decode cX6_knows 31 = .ok (.aload_n 0, 1) := by decide +kernel
theorem dX6_knows_32 : decode cX6_knows 32 = .ok (.getfield 7, 3) := by decide +kernel
theorem dX6_knows_35 : decode cX6_knows 35 = .ok (.if_icmp .ge 20, 3) := by decide +kernel
theorem dX6_knows_38 : decode cX6_knows 38 = .ok (.aload_n 0, 1) := by decide +kernel
theorem dX6_knows_39 : decode cX6_knows 39 = .ok (.getfield 17, 3) := by decide +kernel
theorem dX6_knows_42 : decode cX6_knows 42 = .ok (.bipush 21, 2) := by decide +kernel
theorem dX6_knows_44 : decode cX6_knows 44 = .ok (.iload_n 1, 1) := by decide +kernel
theorem dX6_knows_45 : decode cX6_knows 45 = .ok (.imul, 1) := by decide +kernel
theorem dX6_knows_46 : decode cX6_knows 46 = .ok (.bipush 14, 2) := by decide +kernel
theorem dX6_knows_48 : decode cX6_knows 48 = .ok (.iadd, 1) := by decide +kernel
theorem dX6_knows_49 : decode cX6_knows 49 = .ok (.iload_n 2, 1) := by decide +kernel
theorem dX6_knows_50 : decode cX6_knows 50 = .ok (.iadd, 1) := by decide +kernel
theorem dX6_knows_51 : decode cX6_knows 51 = .ok (.iaload, 1) := by decide +kernel
theorem dX6_knows_52 : decode cX6_knows 52 = .ok (.goto 5, 3) := by decide +kernel
theorem dX6_knows_55 : decode cX6_knows 55 = .ok (.bipush (-4), 2) := by decide +kernel
theorem dX6_knows_57 : decode cX6_knows 57 = .ok (.ireturn, 1) := by decide +kernel
theorem dX6_knows_58 : decode cX6_knows 58 = .ok (.iload_n 2, 1) := by decide +kernel
theorem dX6_knows_59 : decode cX6_knows 59 = .ok (.aload_n 0, 1) := by decide +kernel
theorem dX6_knows_60 : decode cX6_knows 60 = .ok (.getfield 17, 3) := by decide +kernel
theorem dX6_knows_63 : decode cX6_knows 63 = .ok (.bipush 21, 2) := by decide +kernel
theorem dX6_knows_65 : decode cX6_knows 65 = .ok (.iload_n 1, 1) := by decide +kernel
theorem dX6_knows_66 : decode cX6_knows 66 = .ok (.imul, 1) := by decide +kernel
theorem dX6_knows_67 : decode cX6_knows 67 = .ok (.bipush 7, 2) := by decide +kernel
theorem dX6_knows_69 : decode cX6_knows 69 = .ok (.iadd, 1) := by decide +kernel
theorem dX6_knows_70 : decode cX6_knows 70 = .ok (.iaload, 1) := by decide +kernel
theorem dX6_knows_71 : decode cX6_knows 71 = .ok (.if_icmp .ge 20, 3) := by decide +kernel
theorem dX6_knows_74 : decode cX6_knows 74 = .ok (.aload_n 0, 1) := by decide +kernel
theorem dX6_knows_75 : decode cX6_knows 75 = .ok (.getfield 17, 3) := by decide +kernel
theorem dX6_knows_78 : decode cX6_knows 78 = .ok (.bipush 21, 2) := by decide +kernel
theorem dX6_knows_80 : decode cX6_knows 80 = .ok (.iload_n 1, 1) := by decide +kernel
theorem dX6_knows_81 : decode cX6_knows 81 = .ok (.imul, 1) := by decide +kernel
theorem dX6_knows_82 : decode cX6_knows 82 = .ok (.bipush 8, 2) := by decide +kernel
theorem dX6_knows_84 : decode cX6_knows 84 = .ok (.iadd, 1) := by decide +kernel
theorem dX6_knows_85 : decode cX6_knows 85 = .ok (.iload_n 2, 1) := by decide +kernel
theorem dX6_knows_86 : decode cX6_knows 86 = .ok (.iadd, 1) := by decide +kernel
theorem dX6_knows_87 : decode cX6_knows 87 = .ok (.iaload, 1) := by decide +kernel
theorem dX6_knows_88 : decode cX6_knows 88 = .ok (.goto 5, 3) := by decide +kernel
theorem dX6_knows_91 : decode cX6_knows 91 = .ok (.bipush (-4), 2) := by decide +kernel
theorem dX6_knows_93 : decode cX6_knows 93 = .ok (.ireturn, 1) := by decide +kernel
theorem dX6_token_0 : decode cX6_token 0 = .ok (.iload_n 1, 1) := by decide +kernel
theorem dX6_token_1 : decode cX6_token 1 = .ok (.iconst 0, 1) := by decide +kernel
theorem dX6_token_2 : decode cX6_token 2 = .ok (.iconst 1, 1) := by decide +kernel
theorem dX6_token_3 : decode cX6_token 3 = .ok (.invokestatic 47, 3) := by decide +kernel
theorem dX6_token_6 : decode cX6_token 6 = .ok (.ifCond .eq 11, 3) := by decide +kernel
theorem dX6_token_9 : decode cX6_token 9 = .ok (.aload_n 0, 1) := by decide +kernel
theorem dX6_token_10 : decode cX6_token 10 = .ok (.iload_n 2, 1) := by decide +kernel
theorem dX6_token_11 : decode cX6_token 11 = .ok (.invokevirtual 113, 3) := by decide +kernel
theorem dX6_token_14 : decode cX6_token 14 = .ok (.ifCond .ne 5, 3) := by decide +kernel
theorem dX6_token_17 : decode cX6_token 17 = .ok (.iconst (-1), 1) := by decide +kernel
theorem dX6_token_18 : decode cX6_token 18 = .ok (.ireturn, 1) := by decide +kernel
theorem dX6_token_19 : decode cX6_token 19 = .ok (.aload_n 0, 1) := by decide +kernel
theorem dX6_token_20 : decode cX6_token 20 = .ok (.getfield 66, 3) := by decide +kernel
theorem dX6_token_23 : decode cX6_token 23 = .ok (.iconst 1, 1) := by decide +kernel
theorem dX6_token_24 : decode cX6_token 24 = .ok (.if_icmp .eq 6, 3) := by decide +kernel
theorem dX6_token_27 : decode cX6_token 27 = .ok (.bipush (-2), 2) := by decide +kernel
theorem dX6_token_29 : decode cX6_token 29 = .ok (.ireturn, 1) := by decide +kernel
theorem dX6_token_30 : decode cX6_token 30 = .ok (.iload_n 1, 1) := by decide +kernel
theorem dX6_token_31 : decode cX6_token 31 = .ok (.ifCond .ne 15, 3) := by decide +kernel
theorem dX6_token_34 : decode cX6_token 34 = .ok (.aload_n 0, 1) := by decide +kernel
theorem dX6_token_35 : decode cX6_token 35 = .ok (.getfield 17, 3) := by decide +kernel
theorem dX6_token_38 : decode cX6_token 38 = .ok (.bipush 127, 2) := by decide +kernel
theorem dX6_token_40 : decode cX6_token 40 = .ok (.iload_n 2, 1) := by decide +kernel
theorem dX6_token_41 : decode cX6_token 41 = .ok (.iadd, 1) := by decide +kernel
theorem dX6_token_42 : decode cX6_token 42 = .ok (.iaload, 1) := by decide +kernel
theorem dX6_token_43 : decode cX6_token 43 = .ok (.goto 30, 3) := by decide +kernel
theorem dX6_token_46 : decode cX6_token 46 = .ok (.iload_n 2, 1) := by decide +kernel
theorem dX6_token_47 : decode cX6_token 47 = .ok (.aload_n 0, 1) := by decide +kernel
theorem dX6_token_48 : decode cX6_token 48 = .ok (.getfield 17, 3) := by decide +kernel
theorem dX6_token_51 : decode cX6_token 51 = .ok (.sipush 133, 3) := by decide +kernel
theorem dX6_token_54 : decode cX6_token 54 = .ok (.iaload, 1) := by decide +kernel
theorem dX6_token_55 : decode cX6_token 55 = .ok (.if_icmp .ge 16, 3) := by decide +kernel
theorem dX6_token_58 : decode cX6_token 58 = .ok (.aload_n 0, 1) := by decide +kernel
theorem dX6_token_59 : decode cX6_token 59 = .ok (.getfield 17, 3) := by decide +kernel
theorem dX6_token_62 : decode cX6_token 62 = .ok (.sipush 134, 3) := by decide +kernel
theorem dX6_token_65 : decode cX6_token 65 = .ok (.iload_n 2, 1) := by decide +kernel
theorem dX6_token_66 : decode cX6_token 66 = .ok (.iadd, 1) := by decide +kernel
theorem dX6_token_67 : decode cX6_token 67 = .ok (.iaload, 1) := by decide +kernel
theorem dX6_token_68 : decode cX6_token 68 = .ok (.goto 5, 3) := by decide +kernel
theorem dX6_token_71 : decode cX6_token 71 = .ok (.bipush (-4), 2) := by decide +kernel
theorem dX6_token_73 : decode cX6_token 73 = .ok (.ireturn, 1) := by decide +kernel
theorem dX6_letter_0 : decode cX6_letter 0 = .ok (.aload_n 0, 1) := by decide +kernel
theorem dX6_letter_1 : decode cX6_letter 1 = .ok (.iload_n 1, 1) := by decide +kernel
theorem dX6_letter_2 : decode cX6_letter 2 = .ok (.invokevirtual 113, 3) := by decide +kernel
theorem dX6_letter_5 : decode cX6_letter 5 = .ok (.ifCond .eq 31, 3) := by decide +kernel
theorem dX6_letter_8 : decode cX6_letter 8 = .ok (.aload_n 0, 1) := by decide +kernel
theorem dX6_letter_9 : decode cX6_letter 9 = .ok (.iload_n 2, 1) := by decide +kernel
theorem dX6_letter_10 : decode cX6_letter 10 = .ok (.invokevirtual 113, 3) := by decide +kernel
theorem dX6_letter_13 : decode cX6_letter 13 = .ok (.ifCond .eq 23, 3) := by decide +kernel
theorem dX6_letter_16 : decode cX6_letter 16 = .ok (.iload_n 1, 1) := by decide +kernel
theorem dX6_letter_17 : decode cX6_letter 17 = .ok (.iload_n 2, 1) := by decide +kernel
theorem dX6_letter_18 : decode cX6_letter 18 = .ok (.if_icmp .eq 18, 3) := by decide +kernel
theorem dX6_letter_21 : decode cX6_letter 21 = .ok (.iload_n 3, 1) := by decide +kernel
theorem dX6_letter_22 : decode cX6_letter 22 = .ok (.iconst (-1), 1) := by decide +kernel
theorem dX6_letter_23 : decode cX6_letter 23 = .ok (.if_icmp .lt 13, 3) := by decide +kernel
theorem dX6_letter_26 : decode cX6_letter 26 = .ok (.iload 4, 2) := by decide +kernel
theorem dX6_letter_28 : decode cX6_letter 28 = .ok (.iconst 0, 1) := by decide +kernel
theorem dX6_letter_29 : decode cX6_letter 29 = .ok (.iconst 1, 1) := by decide +kernel
theorem dX6_letter_30 : decode cX6_letter 30 = .ok (.invokestatic 47, 3) := by decide +kernel
theorem dX6_letter_33 : decode cX6_letter 33 = .ok (.ifCond .ne 5, 3) := by decide +kernel
theorem dX6_letter_36 : decode cX6_letter 36 = .ok (.iconst (-1), 1) := by decide +kernel
theorem dX6_letter_37 : decode cX6_letter 37 = .ok (.ireturn, 1) := by decide +kernel
theorem dX6_letter_38 : decode cX6_letter 38 = .ok (.aload_n 0, 1) := by decide +kernel
theorem dX6_letter_39 : decode cX6_letter 39 = .ok (.iload_n 1, 1) := by decide +kernel
theorem dX6_letter_40 : decode cX6_letter 40 = .ok (.iload_n 2, 1) := by decide +kernel
theorem dX6_letter_41 : decode cX6_letter 41 = .ok (.invokevirtual 69, 3) := by decide +kernel
theorem dX6_letter_44 : decode cX6_letter 44 = .ok (.istore 5, 2) := by decide +kernel
theorem dX6_letter_46 : decode cX6_letter 46 = .ok (.iload_n 3, 1) := by decide +kernel
theorem dX6_letter_47 : decode cX6_letter 47 = .ok (.ifCond .ge 13, 3) := by decide +kernel
theorem dX6_letter_50 : decode cX6_letter 50 = .ok (.aload_n 0, 1) := by decide +kernel
theorem dX6_letter_51 : decode cX6_letter 51 = .ok (.getfield 17, 3) := by decide +kernel
theorem dX6_letter_54 : decode cX6_letter 54 = .ok (.iload 5, 2) := by decide +kernel
theorem dX6_letter_56 : decode cX6_letter 56 = .ok (.iaload, 1) := by decide +kernel
theorem dX6_letter_57 : decode cX6_letter 57 = .ok (.goto 35, 3) := by decide +kernel
theorem dX6_letter_60 : decode cX6_letter 60 = .ok (.iload_n 3, 1) := by decide +kernel
theorem dX6_letter_61 : decode cX6_letter 61 = .ok (.aload_n 0, 1) := by decide +kernel
theorem dX6_letter_62 : decode cX6_letter 62 = .ok (.getfield 17, 3) := by decide +kernel
theorem dX6_letter_65 : decode cX6_letter 65 = .ok (.iload 5, 2) := by decide +kernel
theorem dX6_letter_67 : decode cX6_letter 67 = .ok (.iaload, 1) := by decide +kernel
theorem dX6_letter_68 : decode cX6_letter 68 = .ok (.if_icmp .ge 22, 3) := by decide +kernel
theorem dX6_letter_71 : decode cX6_letter 71 = .ok (.aload_n 0, 1) := by decide +kernel
theorem dX6_letter_72 : decode cX6_letter 72 = .ok (.getfield 17, 3) := by decide +kernel
theorem dX6_letter_75 : decode cX6_letter 75 = .ok (.iload 5, 2) := by decide +kernel
theorem dX6_letter_77 : decode cX6_letter 77 = .ok (.iconst 1, 1) := by decide +kernel
theorem dX6_letter_78 : decode cX6_letter 78 = .ok (.iadd, 1) := by decide +kernel
theorem dX6_letter_79 : decode cX6_letter 79 = .ok (.iconst 2, 1) := by decide +kernel
theorem dX6_letter_80 : decode cX6_letter 80 = .ok (.iload_n 3, 1) := by decide +kernel
theorem dX6_letter_81 : decode cX6_letter 81 = .ok (.imul, 1) := by decide +kernel
theorem dX6_letter_82 : decode cX6_letter 82 = .ok (.iadd, 1) := by decide +kernel
theorem dX6_letter_83 : decode cX6_letter 83 = .ok (.iload 4, 2) := by decide +kernel
theorem dX6_letter_85 : decode cX6_letter 85 = .ok (.iadd, 1) := by decide +kernel
theorem dX6_letter_86 : decode cX6_letter 86 = .ok (.iaload, 1) := by decide +kernel
theorem dX6_letter_87 : decode cX6_letter 87 = .ok (.goto 5, 3) := by decide +kernel
theorem dX6_letter_90 : decode cX6_letter 90 = .ok (.bipush (-4), 2) := by decide +kernel
theorem dX6_letter_92 : decode cX6_letter 92 = .ok (.ireturn, 1) := by decide +kernel
theorem dX6_entry_0 : decode cX6_entry 0 = .ok (.iload_n 1, 1) := by decide +kernel
theorem dX6_entry_1 : decode cX6_entry 1 = .ok (.ifCond .lt 12, 3) := by decide +kernel
theorem dX6_entry_4 : decode cX6_entry 4 = .ok (.iload_n 2, 1) := by decide +kernel
theorem dX6_entry_5 : decode cX6_entry 5 = .ok (.iconst 0, 1) := by decide +kernel
theorem dX6_entry_6 : decode cX6_entry 6 = .ok (.iconst 2, 1) := by decide +kernel
theorem dX6_entry_7 : decode cX6_entry 7 = .ok (.invokestatic 47, 3) := by decide +kernel
theorem dX6_entry_10 : decode cX6_entry 10 = .ok (.ifCond .ne 5, 3) := by decide +kernel
theorem dX6_entry_13 : decode cX6_entry 13 = .ok (.iconst (-1), 1) := by decide +kernel
theorem dX6_entry_14 : decode cX6_entry 14 = .ok (.ireturn, 1) := by decide +kernel
theorem dX6_entry_15 : decode cX6_entry 15 = .ok (.iload_n 1, 1) := by decide +kernel
theorem dX6_entry_16 : decode cX6_entry 16 = .ok (.bipush 60, 2) := by decide +kernel
theorem dX6_entry_18 : decode cX6_entry 18 = .ok (.if_icmp .ge 29, 3) := by decide +kernel
theorem dX6_entry_21 : decode cX6_entry 21 = .ok (.iload_n 1, 1) := by decide +kernel
theorem dX6_entry_22 : decode cX6_entry 22 = .ok (.aload_n 0, 1) := by decide +kernel
theorem dX6_entry_23 : decode cX6_entry 23 = .ok (.getfield 20, 3) := by decide +kernel
theorem dX6_entry_26 : decode cX6_entry 26 = .ok (.iconst 0, 1) := by decide +kernel
theorem dX6_entry_27 : decode cX6_entry 27 = .ok (.iaload, 1) := by decide +kernel
theorem dX6_entry_28 : decode cX6_entry 28 = .ok (.if_icmp .ge 19, 3) := by decide +kernel
theorem dX6_entry_31 : decode cX6_entry 31 = .ok (.aload_n 0, 1) := by decide +kernel
theorem dX6_entry_32 : decode cX6_entry 32 = .ok (.getfield 20, 3) := by decide +kernel
theorem dX6_entry_35 : decode cX6_entry 35 = .ok (.bipush 10, 2) := by decide +kernel
theorem dX6_entry_37 : decode cX6_entry 37 = .ok (.iconst 3, 1) := by decide +kernel
theorem dX6_entry_38 : decode cX6_entry 38 = .ok (.iload_n 1, 1) := by decide +kernel
theorem dX6_entry_39 : decode cX6_entry 39 = .ok (.imul, 1) := by decide +kernel
theorem dX6_entry_40 : decode cX6_entry 40 = .ok (.iadd, 1) := by decide +kernel
theorem dX6_entry_41 : decode cX6_entry 41 = .ok (.iload_n 2, 1) := by decide +kernel
theorem dX6_entry_42 : decode cX6_entry 42 = .ok (.iadd, 1) := by decide +kernel
theorem dX6_entry_43 : decode cX6_entry 43 = .ok (.iaload, 1) := by decide +kernel
theorem dX6_entry_44 : decode cX6_entry 44 = .ok (.goto 5, 3) := by decide +kernel
theorem dX6_entry_47 : decode cX6_entry 47 = .ok (.bipush (-4), 2) := by decide +kernel
theorem dX6_entry_49 : decode cX6_entry 49 = .ok (.ireturn, 1) := by decide +kernel
theorem dX6_undo_0 : decode cX6_undo 0 = .ok (.aload_n 0, 1) := by decide +kernel
theorem dX6_undo_1 : decode cX6_undo 1 = .ok (.getfield 54, 3) := by decide +kernel
theorem dX6_undo_4 : decode cX6_undo 4 = .ok (.ifCond .ne 6, 3) := by decide +kernel
theorem dX6_undo_7 : decode cX6_undo 7 = .ok (.bipush (-2), 2) := by decide +kernel
theorem dX6_undo_9 : decode cX6_undo 9 = .ok (.ireturn, 1) := by decide +kernel
theorem dX6_undo_10 : decode cX6_undo 10 = .ok (.aload_n 0, 1) := by decide +kernel
theorem dX6_undo_11 : decode cX6_undo 11 = .ok (.dup, 1) := by decide +kernel
theorem dX6_undo_12 : decode cX6_undo 12 = .ok (.getfield 54, 3) := by decide +kernel
theorem dX6_undo_15 : decode cX6_undo 15 = .ok (.iconst 1, 1) := by decide +kernel
theorem dX6_undo_16 : decode cX6_undo 16 = .ok (.isub, 1) := by decide +kernel
theorem dX6_undo_17 : decode cX6_undo 17 = .ok (.putfield 54, 3) := by decide +kernel
theorem dX6_undo_20 : decode cX6_undo 20 = .ok (.iconst 0, 1) := by decide +kernel
theorem dX6_undo_21 : decode cX6_undo 21 = .ok (.istore_n 1, 1) := by decide +kernel
theorem dX6_undo_22 : decode cX6_undo 22 = .ok (.iload_n 1, 1) := by decide +kernel
theorem dX6_undo_23 : decode cX6_undo 23 = .ok (.sipush 1040, 3) := by decide +kernel
theorem dX6_undo_26 : decode cX6_undo 26 = .ok (.if_icmp .ge 30, 3) := by decide +kernel
theorem dX6_undo_29 : decode cX6_undo 29 = .ok (.aload_n 0, 1) := by decide +kernel
theorem dX6_undo_30 : decode cX6_undo 30 = .ok (.getfield 17, 3) := by decide +kernel
theorem dX6_undo_33 : decode cX6_undo 33 = .ok (.iload_n 1, 1) := by decide +kernel
theorem dX6_undo_34 : decode cX6_undo 34 = .ok (.aload_n 0, 1) := by decide +kernel
theorem dX6_undo_35 : decode cX6_undo 35 = .ok (.getfield 28, 3) := by decide +kernel
theorem dX6_undo_38 : decode cX6_undo 38 = .ok (.sipush 1230, 3) := by decide +kernel
theorem dX6_undo_41 : decode cX6_undo 41 = .ok (.aload_n 0, 1) := by decide +kernel
theorem dX6_undo_42 : decode cX6_undo 42 = .ok (.getfield 54, 3) := by decide +kernel
theorem dX6_undo_45 : decode cX6_undo 45 = .ok (.imul, 1) := by decide +kernel
theorem dX6_undo_46 : decode cX6_undo 46 = .ok (.iload_n 1, 1) := by decide +kernel
theorem dX6_undo_47 : decode cX6_undo 47 = .ok (.iadd, 1) := by decide +kernel
theorem dX6_undo_48 : decode cX6_undo 48 = .ok (.iaload, 1) := by decide +kernel
theorem dX6_undo_49 : decode cX6_undo 49 = .ok (.iastore, 1) := by decide +kernel
theorem dX6_undo_50 : decode cX6_undo 50 = .ok (.iinc 1 1, 3) := by decide +kernel
theorem dX6_undo_53 : decode cX6_undo 53 = .ok (.goto (-31), 3) := by decide +kernel
theorem dX6_undo_56 : decode cX6_undo 56 = .ok (.iconst 0, 1) := by decide +kernel
theorem dX6_undo_57 : decode cX6_undo 57 = .ok (.istore_n 1, 1) := by decide +kernel
theorem dX6_undo_58 : decode cX6_undo 58 = .ok (.iload_n 1, 1) := by decide +kernel
theorem dX6_undo_59 : decode cX6_undo 59 = .ok (.sipush 190, 3) := by decide +kernel
theorem dX6_undo_62 : decode cX6_undo 62 = .ok (.if_icmp .ge 34, 3) := by decide +kernel
theorem dX6_undo_65 : decode cX6_undo 65 = .ok (.aload_n 0, 1) := by decide +kernel
theorem dX6_undo_66 : decode cX6_undo 66 = .ok (.getfield 20, 3) := by decide +kernel
theorem dX6_undo_69 : decode cX6_undo 69 = .ok (.iload_n 1, 1) := by decide +kernel
theorem dX6_undo_70 : decode cX6_undo 70 = .ok (.aload_n 0, 1) := by decide +kernel
theorem dX6_undo_71 : decode cX6_undo 71 = .ok (.getfield 28, 3) := by decide +kernel
theorem dX6_undo_74 : decode cX6_undo 74 = .ok (.sipush 1230, 3) := by decide +kernel
theorem dX6_undo_77 : decode cX6_undo 77 = .ok (.aload_n 0, 1) := by decide +kernel
theorem dX6_undo_78 : decode cX6_undo 78 = .ok (.getfield 54, 3) := by decide +kernel
theorem dX6_undo_81 : decode cX6_undo 81 = .ok (.imul, 1) := by decide +kernel
theorem dX6_undo_82 : decode cX6_undo 82 = .ok (.sipush 1040, 3) := by decide +kernel
theorem dX6_undo_85 : decode cX6_undo 85 = .ok (.iadd, 1) := by decide +kernel
theorem dX6_undo_86 : decode cX6_undo 86 = .ok (.iload_n 1, 1) := by decide +kernel
theorem dX6_undo_87 : decode cX6_undo 87 = .ok (.iadd, 1) := by decide +kernel
theorem dX6_undo_88 : decode cX6_undo 88 = .ok (.iaload, 1) := by decide +kernel
theorem dX6_undo_89 : decode cX6_undo 89 = .ok (.iastore, 1) := by decide +kernel
theorem dX6_undo_90 : decode cX6_undo 90 = .ok (.iinc 1 1, 3) := by decide +kernel
theorem dX6_undo_93 : decode cX6_undo 93 = .ok (.goto (-35), 3) := by decide +kernel
theorem dX6_undo_96 : decode cX6_undo 96 = .ok (.iconst 1, 1) := by decide +kernel
theorem dX6_undo_97 : decode cX6_undo 97 = .ok (.ireturn, 1) := by decide +kernel
theorem dX6_slotOf_0 : decode cX6_slotOf 0 = .ok (.bipush 7, 2) := by decide +kernel
theorem dX6_slotOf_2 : decode cX6_slotOf 2 = .ok (.istore_n 1, 1) := by decide +kernel
theorem dX6_slotOf_3 : decode cX6_slotOf 3 = .ok (.iconst 0, 1) := by decide +kernel
theorem dX6_slotOf_4 : decode cX6_slotOf 4 = .ok (.istore_n 2, 1) := by decide +kernel
theorem dX6_slotOf_5 : decode cX6_slotOf 5 = .ok (.iload_n 2, 1) := by decide +kernel
theorem dX6_slotOf_6 : decode cX6_slotOf 6 = .ok (.sipush 1040, 3) := by decide +kernel
theorem dX6_slotOf_9 : decode cX6_slotOf 9 = .ok (.if_icmp .ge 21, 3) := by decide +kernel
theorem dX6_slotOf_12 : decode cX6_slotOf 12 = .ok (.bipush 31, 2) := by decide +kernel
theorem dX6_slotOf_14 : decode cX6_slotOf 14 = .ok (.iload_n 1, 1) := by decide +kernel
theorem dX6_slotOf_15 : decode cX6_slotOf 15 = .ok (.imul, 1) := by decide +kernel
theorem dX6_slotOf_16 : decode cX6_slotOf 16 = .ok (.aload_n 0, 1) := by decide +kernel
theorem dX6_slotOf_17 : decode cX6_slotOf 17 = .ok (.getfield 17, 3) := by decide +kernel
theorem dX6_slotOf_20 : decode cX6_slotOf 20 = .ok (.iload_n 2, 1) := by decide +kernel
theorem dX6_slotOf_21 : decode cX6_slotOf 21 = .ok (.iaload, 1) := by decide +kernel
theorem dX6_slotOf_22 : decode cX6_slotOf 22 = .ok (.iadd, 1) := by decide +kernel
theorem dX6_slotOf_23 : decode cX6_slotOf 23 = .ok (.istore_n 1, 1) := by decide +kernel
theorem dX6_slotOf_24 : decode cX6_slotOf 24 = .ok (.iinc 2 1, 3) := by decide +kernel
theorem dX6_slotOf_27 : decode cX6_slotOf 27 = .ok (.goto (-22), 3) := by decide +kernel
theorem dX6_slotOf_30 : decode cX6_slotOf 30 = .ok (.iload_n 1, 1) := by decide +kernel
theorem dX6_slotOf_31 : decode cX6_slotOf 31 = .ok (.iload_n 1, 1) := by decide +kernel
theorem dX6_slotOf_32 : decode cX6_slotOf 32 = .ok (.bipush 13, 2) := by decide +kernel
theorem dX6_slotOf_34 : decode cX6_slotOf 34 = .ok (.iushr, 1) := by decide +kernel
theorem dX6_slotOf_35 : decode cX6_slotOf 35 = .ok (.ixor, 1) := by decide +kernel
theorem dX6_slotOf_36 : decode cX6_slotOf 36 = .ok (.sipush 1023, 3) := by decide +kernel
theorem dX6_slotOf_39 : decode cX6_slotOf 39 = .ok (.iand, 1) := by decide +kernel
theorem dX6_slotOf_40 : decode cX6_slotOf 40 = .ok (.istore_n 2, 1) := by decide +kernel
theorem dX6_slotOf_41 : decode cX6_slotOf 41 = .ok (.aload_n 0, 1) := by decide +kernel
theorem dX6_slotOf_42 : decode cX6_slotOf 42 = .ok (.getfield 38, 3) := by decide +kernel
theorem dX6_slotOf_45 : decode cX6_slotOf 45 = .ok (.iload_n 2, 1) := by decide +kernel
theorem dX6_slotOf_46 : decode cX6_slotOf 46 = .ok (.iaload, 1) := by decide +kernel
theorem dX6_slotOf_47 : decode cX6_slotOf 47 = .ok (.ifCond .le 29, 3) := by decide +kernel
theorem dX6_slotOf_50 : decode cX6_slotOf 50 = .ok (.aload_n 0, 1) := by decide +kernel
theorem dX6_slotOf_51 : decode cX6_slotOf 51 = .ok (.aload_n 0, 1) := by decide +kernel
theorem dX6_slotOf_52 : decode cX6_slotOf 52 = .ok (.getfield 38, 3) := by decide +kernel
theorem dX6_slotOf_55 : decode cX6_slotOf 55 = .ok (.iload_n 2, 1) := by decide +kernel
theorem dX6_slotOf_56 : decode cX6_slotOf 56 = .ok (.iaload, 1) := by decide +kernel
theorem dX6_slotOf_57 : decode cX6_slotOf 57 = .ok (.iconst 1, 1) := by decide +kernel
theorem dX6_slotOf_58 : decode cX6_slotOf 58 = .ok (.isub, 1) := by decide +kernel
theorem dX6_slotOf_59 : decode cX6_slotOf 59 = .ok (.invokevirtual 150, 3) := by decide +kernel
theorem dX6_slotOf_62 : decode cX6_slotOf 62 = .ok (.ifCond .ne 14, 3) := by decide +kernel
theorem dX6_slotOf_65 : decode cX6_slotOf 65 = .ok (.iload_n 2, 1) := by decide +kernel
theorem dX6_slotOf_66 : decode cX6_slotOf 66 = .ok (.iconst 1, 1) := by decide +kernel
theorem dX6_slotOf_67 : decode cX6_slotOf 67 = .ok (.iadd, 1) := by decide +kernel
theorem dX6_slotOf_68 : decode cX6_slotOf 68 = .ok (.sipush 1023, 3) := by decide +kernel
theorem dX6_slotOf_71 : decode cX6_slotOf 71 = .ok (.iand, 1) := by decide +kernel
theorem dX6_slotOf_72 : decode cX6_slotOf 72 = .ok (.istore_n 2, 1) := by decide +kernel
theorem dX6_slotOf_73 : decode cX6_slotOf 73 = .ok (.goto (-32), 3) := by decide +kernel
theorem dX6_slotOf_76 : decode cX6_slotOf 76 = .ok (.iload_n 2, 1) := by decide +kernel
theorem dX6_slotOf_77 : decode cX6_slotOf 77 = .ok (.ireturn, 1) := by decide +kernel
theorem dX6_isState_0 : decode cX6_isState 0 = .ok (.iconst 1, 1) := by decide +kernel
theorem dX6_isState_1 : decode cX6_isState 1 = .ok (.istore_n 2, 1) := by decide +kernel
theorem dX6_isState_2 : decode cX6_isState 2 = .ok (.iconst 0, 1) := by decide +kernel
theorem dX6_isState_3 : decode cX6_isState 3 = .ok (.istore_n 3, 1) := by decide +kernel
theorem dX6_isState_4 : decode cX6_isState 4 = .ok (.iload_n 3, 1) := by decide +kernel
theorem dX6_isState_5 : decode cX6_isState 5 = .ok (.sipush 1040, 3) := by decide +kernel
theorem dX6_isState_8 : decode cX6_isState 8 = .ok (.if_icmp .ge 40, 3) := by decide +kernel
theorem dX6_isState_11 : decode cX6_isState 11 = .ok (.iload_n 2, 1) := by decide +kernel
theorem dX6_isState_12 : decode cX6_isState 12 = .ok (.ifCond .eq 36, 3) := by decide +kernel
theorem dX6_isState_15 : decode cX6_isState 15 = .ok (.aload_n 0, 1) := by decide +kernel
theorem dX6_isState_16 : decode cX6_isState 16 = .ok (.getfield 35, 3) := by decide +kernel
theorem dX6_isState_19 : decode cX6_isState 19 = .ok (.sipush 1040, 3) := by decide +kernel
theorem dX6_isState_22 : decode cX6_isState 22 = .ok (.iload_n 1, 1) := by decide +kernel
theorem dX6_isState_23 : decode cX6_isState 23 = .ok (.imul, 1) := by decide +kernel
theorem dX6_isState_24 : decode cX6_isState 24 = .ok (.iload_n 3, 1) := by decide +kernel
theorem dX6_isState_25 : decode cX6_isState 25 = .ok (.iadd, 1) := by decide +kernel
theorem dX6_isState_26 : decode cX6_isState 26 = .ok (.iaload, 1) := by decide +kernel
theorem dX6_isState_27 : decode cX6_isState 27 = .ok (.aload_n 0, 1) := by decide +kernel
theorem dX6_isState_28 : decode cX6_isState 28 = .ok (.getfield 17, 3) := by decide +kernel
theorem dX6_isState_31 : decode cX6_isState 31 = .ok (.iload_n 3, 1) := by decide +kernel
theorem dX6_isState_32 : decode cX6_isState 32 = .ok (.iaload, 1) := by decide +kernel
theorem dX6_isState_33 : decode cX6_isState 33 = .ok (.if_icmp .ne 7, 3) := by decide +kernel
theorem dX6_isState_36 : decode cX6_isState 36 = .ok (.iconst 1, 1) := by decide +kernel
theorem dX6_isState_37 : decode cX6_isState 37 = .ok (.goto 4, 3) := by decide +kernel
theorem dX6_isState_40 : decode cX6_isState 40 = .ok (.iconst 0, 1) := by decide +kernel
theorem dX6_isState_41 : decode cX6_isState 41 = .ok (.istore_n 2, 1) := by decide +kernel
theorem dX6_isState_42 : decode cX6_isState 42 = .ok (.iinc 3 1, 3) := by decide +kernel
theorem dX6_isState_45 : decode cX6_isState 45 = .ok (.goto (-41), 3) := by decide +kernel
theorem dX6_isState_48 : decode cX6_isState 48 = .ok (.iload_n 2, 1) := by decide +kernel
theorem dX6_isState_49 : decode cX6_isState 49 = .ok (.ireturn, 1) := by decide +kernel
theorem dX6_meets_0 : decode cX6_meets 0 = .ok (.aload_n 0, 1) := by decide +kernel
theorem dX6_meets_1 : decode cX6_meets 1 = .ok (.invokevirtual 153, 3) := by decide +kernel
theorem dX6_meets_4 : decode cX6_meets 4 = .ok (.istore_n 1, 1) := by decide +kernel
theorem dX6_meets_5 : decode cX6_meets 5 = .ok (.aload_n 0, 1) := by decide +kernel
theorem dX6_meets_6 : decode cX6_meets 6 = .ok (.getfield 38, 3) := by decide +kernel
theorem dX6_meets_9 : decode cX6_meets 9 = .ok (.iload_n 1, 1) := by decide +kernel
theorem dX6_meets_10 : decode cX6_meets 10 = .ok (.iaload, 1) := by decide +kernel
theorem dX6_meets_11 : decode cX6_meets 11 = .ok (.ifCond .le 4, 3) := by decide +kernel
theorem dX6_meets_14 : decode cX6_meets 14 = .ok (.return_, 1) := by decide +kernel
theorem dX6_meets_15 : decode cX6_meets 15 = .ok (.aload_n 0, 1) := by decide +kernel
theorem dX6_meets_16 : decode cX6_meets 16 = .ok (.getfield 156, 3) := by decide +kernel
theorem dX6_meets_19 : decode cX6_meets 19 = .ok (.sipush 300, 3) := by decide +kernel
theorem dX6_meets_22 : decode cX6_meets 22 = .ok (.if_icmp .ne 9, 3) := by decide +kernel
theorem dX6_meets_25 : decode cX6_meets 25 = .ok (.aload_n 0, 1) := by decide +kernel
theorem dX6_meets_26 : decode cX6_meets 26 = .ok (.iconst 1, 1) := by decide +kernel
theorem dX6_meets_27 : decode cX6_meets 27 = .ok (.putfield 159, 3) := by decide +kernel
theorem dX6_meets_30 : decode cX6_meets 30 = .ok (.return_, 1) := by decide +kernel
theorem dX6_meets_31 : decode cX6_meets 31 = .ok (.aload_n 0, 1) := by decide +kernel
theorem dX6_meets_32 : decode cX6_meets 32 = .ok (.getfield 38, 3) := by decide +kernel
theorem dX6_meets_35 : decode cX6_meets 35 = .ok (.iload_n 1, 1) := by decide +kernel
theorem dX6_meets_36 : decode cX6_meets 36 = .ok (.aload_n 0, 1) := by decide +kernel
theorem dX6_meets_37 : decode cX6_meets 37 = .ok (.getfield 156, 3) := by decide +kernel
theorem dX6_meets_40 : decode cX6_meets 40 = .ok (.iconst 1, 1) := by decide +kernel
theorem dX6_meets_41 : decode cX6_meets 41 = .ok (.iadd, 1) := by decide +kernel
theorem dX6_meets_42 : decode cX6_meets 42 = .ok (.iastore, 1) := by decide +kernel
theorem dX6_meets_43 : decode cX6_meets 43 = .ok (.iconst 0, 1) := by decide +kernel
theorem dX6_meets_44 : decode cX6_meets 44 = .ok (.istore_n 2, 1) := by decide +kernel
theorem dX6_meets_45 : decode cX6_meets 45 = .ok (.iload_n 2, 1) := by decide +kernel
theorem dX6_meets_46 : decode cX6_meets 46 = .ok (.sipush 1040, 3) := by decide +kernel
theorem dX6_meets_49 : decode cX6_meets 49 = .ok (.if_icmp .ge 30, 3) := by decide +kernel
theorem dX6_meets_52 : decode cX6_meets 52 = .ok (.aload_n 0, 1) := by decide +kernel
theorem dX6_meets_53 : decode cX6_meets 53 = .ok (.getfield 35, 3) := by decide +kernel
theorem dX6_meets_56 : decode cX6_meets 56 = .ok (.sipush 1040, 3) := by decide +kernel
theorem dX6_meets_59 : decode cX6_meets 59 = .ok (.aload_n 0, 1) := by decide +kernel
theorem dX6_meets_60 : decode cX6_meets 60 = .ok (.getfield 156, 3) := by decide +kernel
theorem dX6_meets_63 : decode cX6_meets 63 = .ok (.imul, 1) := by decide +kernel
theorem dX6_meets_64 : decode cX6_meets 64 = .ok (.iload_n 2, 1) := by decide +kernel
theorem dX6_meets_65 : decode cX6_meets 65 = .ok (.iadd, 1) := by decide +kernel
theorem dX6_meets_66 : decode cX6_meets 66 = .ok (.aload_n 0, 1) := by decide +kernel
theorem dX6_meets_67 : decode cX6_meets 67 = .ok (.getfield 17, 3) := by decide +kernel
theorem dX6_meets_70 : decode cX6_meets 70 = .ok (.iload_n 2, 1) := by decide +kernel
theorem dX6_meets_71 : decode cX6_meets 71 = .ok (.iaload, 1) := by decide +kernel
theorem dX6_meets_72 : decode cX6_meets 72 = .ok (.iastore, 1) := by decide +kernel
theorem dX6_meets_73 : decode cX6_meets 73 = .ok (.iinc 2 1, 3) := by decide +kernel
theorem dX6_meets_76 : decode cX6_meets 76 = .ok (.goto (-31), 3) := by decide +kernel
theorem dX6_meets_79 : decode cX6_meets 79 = .ok (.aload_n 0, 1) := by decide +kernel
theorem dX6_meets_80 : decode cX6_meets 80 = .ok (.dup, 1) := by decide +kernel
theorem dX6_meets_81 : decode cX6_meets 81 = .ok (.getfield 156, 3) := by decide +kernel
theorem dX6_meets_84 : decode cX6_meets 84 = .ok (.iconst 1, 1) := by decide +kernel
theorem dX6_meets_85 : decode cX6_meets 85 = .ok (.iadd, 1) := by decide +kernel
theorem dX6_meets_86 : decode cX6_meets 86 = .ok (.putfield 156, 3) := by decide +kernel
theorem dX6_meets_89 : decode cX6_meets 89 = .ok (.return_, 1) := by decide +kernel
theorem dX6_load_0 : decode cX6_load 0 = .ok (.iconst 0, 1) := by decide +kernel
theorem dX6_load_1 : decode cX6_load 1 = .ok (.istore_n 2, 1) := by decide +kernel
theorem dX6_load_2 : decode cX6_load 2 = .ok (.iload_n 2, 1) := by decide +kernel
theorem dX6_load_3 : decode cX6_load 3 = .ok (.sipush 1040, 3) := by decide +kernel
theorem dX6_load_6 : decode cX6_load 6 = .ok (.if_icmp .ge 27, 3) := by decide +kernel
theorem dX6_load_9 : decode cX6_load 9 = .ok (.aload_n 0, 1) := by decide +kernel
theorem dX6_load_10 : decode cX6_load 10 = .ok (.getfield 17, 3) := by decide +kernel
theorem dX6_load_13 : decode cX6_load 13 = .ok (.iload_n 2, 1) := by decide +kernel
theorem dX6_load_14 : decode cX6_load 14 = .ok (.aload_n 0, 1) := by decide +kernel
theorem dX6_load_15 : decode cX6_load 15 = .ok (.getfield 35, 3) := by decide +kernel
theorem dX6_load_18 : decode cX6_load 18 = .ok (.sipush 1040, 3) := by decide +kernel
theorem dX6_load_21 : decode cX6_load 21 = .ok (.iload_n 1, 1) := by decide +kernel
theorem dX6_load_22 : decode cX6_load 22 = .ok (.imul, 1) := by decide +kernel
theorem dX6_load_23 : decode cX6_load 23 = .ok (.iload_n 2, 1) := by decide +kernel
theorem dX6_load_24 : decode cX6_load 24 = .ok (.iadd, 1) := by decide +kernel
theorem dX6_load_25 : decode cX6_load 25 = .ok (.iaload, 1) := by decide +kernel
theorem dX6_load_26 : decode cX6_load 26 = .ok (.iastore, 1) := by decide +kernel
theorem dX6_load_27 : decode cX6_load 27 = .ok (.iinc 2 1, 3) := by decide +kernel
theorem dX6_load_30 : decode cX6_load 30 = .ok (.goto (-28), 3) := by decide +kernel
theorem dX6_load_33 : decode cX6_load 33 = .ok (.aload_n 0, 1) := by decide +kernel
theorem dX6_load_34 : decode cX6_load 34 = .ok (.iconst 0, 1) := by decide +kernel
theorem dX6_load_35 : decode cX6_load 35 = .ok (.putfield 73, 3) := by decide +kernel
theorem dX6_load_38 : decode cX6_load 38 = .ok (.return_, 1) := by decide +kernel
theorem dX6_underWay_0 : decode cX6_underWay 0 = .ok (.iconst 0, 1) := by decide +kernel
theorem dX6_underWay_1 : decode cX6_underWay 1 = .ok (.istore_n 1, 1) := by decide +kernel
theorem dX6_underWay_2 : decode cX6_underWay 2 = .ok (.iconst 0, 1) := by decide +kernel
theorem dX6_underWay_3 : decode cX6_underWay 3 = .ok (.istore_n 2, 1) := by decide +kernel
theorem dX6_underWay_4 : decode cX6_underWay 4 = .ok (.iload_n 2, 1) := by decide +kernel
theorem dX6_underWay_5 : decode cX6_underWay 5 = .ok (.bipush 36, 2) := by decide +kernel
theorem dX6_underWay_7 : decode cX6_underWay 7 = .ok (.if_icmp .ge 25, 3) := by decide +kernel
theorem dX6_underWay_10 : decode cX6_underWay 10 = .ok (.iload_n 1, 1) := by decide +kernel
theorem dX6_underWay_11 : decode cX6_underWay 11 = .ok (.aload_n 0, 1) := by decide +kernel
theorem dX6_underWay_12 : decode cX6_underWay 12 = .ok (.getfield 17, 3) := by decide +kernel
theorem dX6_underWay_15 : decode cX6_underWay 15 = .ok (.sipush 140, 3) := by decide +kernel
theorem dX6_underWay_18 : decode cX6_underWay 18 = .ok (.bipush 25, 2) := by decide +kernel
theorem dX6_underWay_20 : decode cX6_underWay 20 = .ok (.iload_n 2, 1) := by decide +kernel
theorem dX6_underWay_21 : decode cX6_underWay 21 = .ok (.imul, 1) := by decide +kernel
theorem dX6_underWay_22 : decode cX6_underWay 22 = .ok (.iadd, 1) := by decide +kernel
theorem dX6_underWay_23 : decode cX6_underWay 23 = .ok (.iaload, 1) := by decide +kernel
theorem dX6_underWay_24 : decode cX6_underWay 24 = .ok (.iadd, 1) := by decide +kernel
theorem dX6_underWay_25 : decode cX6_underWay 25 = .ok (.istore_n 1, 1) := by decide +kernel
theorem dX6_underWay_26 : decode cX6_underWay 26 = .ok (.iinc 2 1, 3) := by decide +kernel
theorem dX6_underWay_29 : decode cX6_underWay 29 = .ok (.goto (-25), 3) := by decide +kernel
theorem dX6_underWay_32 : decode cX6_underWay 32 = .ok (.iload_n 1, 1) := by decide +kernel
theorem dX6_underWay_33 : decode cX6_underWay 33 = .ok (.ireturn, 1) := by decide +kernel
theorem dX6_ofMode_0 : decode cX6_ofMode 0 = .ok (.iconst 0, 1) := by decide +kernel
theorem dX6_ofMode_1 : decode cX6_ofMode 1 = .ok (.istore_n 2, 1) := by decide +kernel
theorem dX6_ofMode_2 : decode cX6_ofMode 2 = .ok (.iconst 0, 1) := by decide +kernel
theorem dX6_ofMode_3 : decode cX6_ofMode 3 = .ok (.istore_n 3, 1) := by decide +kernel
theorem dX6_ofMode_4 : decode cX6_ofMode 4 = .ok (.iload_n 3, 1) := by decide +kernel
theorem dX6_ofMode_5 : decode cX6_ofMode 5 = .ok (.aload_n 0, 1) := by decide +kernel
theorem dX6_ofMode_6 : decode cX6_ofMode 6 = .ok (.getfield 7, 3) := by decide +kernel
theorem dX6_ofMode_9 : decode cX6_ofMode 9 = .ok (.if_icmp .ge 32, 3) := by decide +kernel
theorem dX6_ofMode_12 : decode cX6_ofMode 12 = .ok (.iload_n 2, 1) := by decide +kernel
theorem dX6_ofMode_13 : decode cX6_ofMode 13 = .ok (.aload_n 0, 1) := by decide +kernel
theorem dX6_ofMode_14 : decode cX6_ofMode 14 = .ok (.getfield 17, 3) := by decide +kernel
theorem dX6_ofMode_17 : decode cX6_ofMode 17 = .ok (.bipush 21, 2) := by decide +kernel
theorem dX6_ofMode_19 : decode cX6_ofMode 19 = .ok (.iload_n 3, 1) := by decide +kernel
theorem dX6_ofMode_20 : decode cX6_ofMode 20 = .ok (.imul, 1) := by decide +kernel
theorem dX6_ofMode_21 : decode cX6_ofMode 21 = .ok (.iconst 0, 1) := by decide +kernel
theorem dX6_ofMode_22 : decode cX6_ofMode 22 = .ok (.iadd, 1) := by decide +kernel
theorem dX6_ofMode_23 : decode cX6_ofMode 23 = .ok (.iaload, 1) := by decide +kernel
theorem dX6_ofMode_24 : decode cX6_ofMode 24 = .ok (.iload_n 1, 1) := by decide +kernel
theorem dX6_ofMode_25 : decode cX6_ofMode 25 = .ok (.if_icmp .ne 7, 3) := by decide +kernel
theorem dX6_ofMode_28 : decode cX6_ofMode 28 = .ok (.iconst 1, 1) := by decide +kernel
theorem dX6_ofMode_29 : decode cX6_ofMode 29 = .ok (.goto 4, 3) := by decide +kernel
theorem dX6_ofMode_32 : decode cX6_ofMode 32 = .ok (.iconst 0, 1) := by decide +kernel
theorem dX6_ofMode_33 : decode cX6_ofMode 33 = .ok (.iadd, 1) := by decide +kernel
theorem dX6_ofMode_34 : decode cX6_ofMode 34 = .ok (.istore_n 2, 1) := by decide +kernel
theorem dX6_ofMode_35 : decode cX6_ofMode 35 = .ok (.iinc 3 1, 3) := by decide +kernel
theorem dX6_ofMode_38 : decode cX6_ofMode 38 = .ok (.goto (-34), 3) := by decide +kernel
theorem dX6_ofMode_41 : decode cX6_ofMode 41 = .ok (.iload_n 2, 1) := by decide +kernel
theorem dX6_ofMode_42 : decode cX6_ofMode 42 = .ok (.ireturn, 1) := by decide +kernel
theorem dX6_isTokenSomewhere_0 : decode cX6_isTokenSomewhere 0 = .ok (.iconst 0, 1) := by decide +kernel
theorem dX6_isTokenSomewhere_1 : decode cX6_isTokenSomewhere 1 = .ok (.istore_n 1, 1) := by decide +kernel
theorem dX6_isTokenSomewhere_2 : decode cX6_isTokenSomewhere 2 = .ok (.iconst 0, 1) := by decide +kernel
theorem dX6_isTokenSomewhere_3 : decode cX6_isTokenSomewhere 3 = .ok (.istore_n 2, 1) := by decide +kernel
theorem dX6_isTokenSomewhere_4 : decode cX6_isTokenSomewhere 4 = .ok (.iload_n 2, 1) := by decide +kernel
theorem dX6_isTokenSomewhere_5 : decode cX6_isTokenSomewhere 5 = .ok (.aload_n 0, 1) := by decide +kernel
theorem dX6_isTokenSomewhere_6 : decode cX6_isTokenSomewhere 6 = .ok (.getfield 7, 3) := by decide +kernel
theorem dX6_isTokenSomewhere_9 : decode cX6_isTokenSomewhere 9 = .ok (.if_icmp .ge 100, 3) := by decide +kernel
theorem dX6_isTokenSomewhere_12 : decode cX6_isTokenSomewhere 12 = .ok (.iload_n 1, 1) := by decide +kernel
theorem dX6_isTokenSomewhere_13 : decode cX6_isTokenSomewhere 13 = .ok (.ifCond .ne 11, 3) := by decide +kernel
theorem dX6_isTokenSomewhere_16 : decode cX6_isTokenSomewhere 16 = .ok (.aload_n 0, 1) := by decide +kernel
theorem dX6_isTokenSomewhere_17 : decode cX6_isTokenSomewhere 17 = .ok (.iload_n 2, 1) := by decide +kernel
theorem dX6_isTokenSomewhere_18 : decode cX6_isTokenSomewhere 18 = .ok (.invokevirtual 147, 3) := by decide +kernel
theorem dX6_isTokenSomewhere_21 : decode cX6_isTokenSomewhere 21 = .ok (.ifCond .eq 7, 3) := by decide +kernel
theorem dX6_isTokenSomewhere_24 : decode cX6_isTokenSomewhere 24 = .ok (.iconst 1, 1) := by decide +kernel
theorem dX6_isTokenSomewhere_25 : decode cX6_isTokenSomewhere 25 = .ok (.goto 4, 3) := by decide +kernel
theorem dX6_isTokenSomewhere_28 : decode cX6_isTokenSomewhere 28 = .ok (.iconst 0, 1) := by decide +kernel
theorem dX6_isTokenSomewhere_29 : decode cX6_isTokenSomewhere 29 = .ok (.istore_n 1, 1) := by decide +kernel
theorem dX6_isTokenSomewhere_30 : decode cX6_isTokenSomewhere 30 = .ok (.iconst 0, 1) := by decide +kernel
theorem dX6_isTokenSomewhere_31 : decode cX6_isTokenSomewhere 31 = .ok (.istore_n 3, 1) := by decide +kernel
theorem dX6_isTokenSomewhere_32 : decode cX6_isTokenSomewhere 32 = .ok (.iload_n 3, 1) := by decide +kernel
theorem dX6_isTokenSomewhere_33 : decode cX6_isTokenSomewhere 33 = .ok (.aload_n 0, 1) := by decide +kernel
theorem dX6_isTokenSomewhere_34 : decode cX6_isTokenSomewhere 34 = .ok (.getfield 7, 3) := by decide +kernel
theorem dX6_isTokenSomewhere_37 : decode cX6_isTokenSomewhere 37 = .ok (.if_icmp .ge 66, 3) := by decide +kernel
theorem dX6_isTokenSomewhere_40 : decode cX6_isTokenSomewhere 40 = .ok (.iconst 0, 1) := by decide +kernel
theorem dX6_isTokenSomewhere_41 : decode cX6_isTokenSomewhere 41 = .ok (.istore 4, 2) := by decide +kernel
theorem dX6_isTokenSomewhere_43 : decode cX6_isTokenSomewhere 43 = .ok (.iload 4, 2) := by decide +kernel
theorem dX6_isTokenSomewhere_45 : decode cX6_isTokenSomewhere 45 = .ok (.aload_n 0, 1) := by decide +kernel
theorem dX6_isTokenSomewhere_46 : decode cX6_isTokenSomewhere 46 = .ok (.getfield 17, 3) := by decide +kernel
theorem dX6_isTokenSomewhere_49 : decode cX6_isTokenSomewhere 49 = .ok (.aload_n 0, 1) := by decide +kernel
theorem dX6_isTokenSomewhere_50 : decode cX6_isTokenSomewhere 50 = .ok (.iload_n 2, 1) := by decide +kernel
theorem dX6_isTokenSomewhere_51 : decode cX6_isTokenSomewhere 51 = .ok (.iload_n 3, 1) := by decide +kernel
theorem dX6_isTokenSomewhere_52 : decode cX6_isTokenSomewhere 52 = .ok (.invokevirtual 69, 3) := by decide +kernel
theorem dX6_isTokenSomewhere_55 : decode cX6_isTokenSomewhere 55 = .ok (.iaload, 1) := by decide +kernel
theorem dX6_isTokenSomewhere_56 : decode cX6_isTokenSomewhere 56 = .ok (.if_icmp .ge 41, 3) := by decide +kernel
theorem dX6_isTokenSomewhere_59 : decode cX6_isTokenSomewhere 59 = .ok (.iload_n 1, 1) := by decide +kernel
theorem dX6_isTokenSomewhere_60 : decode cX6_isTokenSomewhere 60 = .ok (.ifCond .ne 25, 3) := by decide +kernel
theorem dX6_isTokenSomewhere_63 : decode cX6_isTokenSomewhere 63 = .ok (.aload_n 0, 1) := by decide +kernel
theorem dX6_isTokenSomewhere_64 : decode cX6_isTokenSomewhere 64 = .ok (.getfield 17, 3) := by decide +kernel
theorem dX6_isTokenSomewhere_67 : decode cX6_isTokenSomewhere 67 = .ok (.aload_n 0, 1) := by decide +kernel
theorem dX6_isTokenSomewhere_68 : decode cX6_isTokenSomewhere 68 = .ok (.iload_n 2, 1) := by decide +kernel
theorem dX6_isTokenSomewhere_69 : decode cX6_isTokenSomewhere 69 = .ok (.iload_n 3, 1) := by decide +kernel
theorem dX6_isTokenSomewhere_70 : decode cX6_isTokenSomewhere 70 = .ok (.invokevirtual 69, 3) := by decide +kernel
theorem dX6_isTokenSomewhere_73 : decode cX6_isTokenSomewhere 73 = .ok (.iconst 1, 1) := by decide +kernel
theorem dX6_isTokenSomewhere_74 : decode cX6_isTokenSomewhere 74 = .ok (.iadd, 1) := by decide +kernel
theorem dX6_isTokenSomewhere_75 : decode cX6_isTokenSomewhere 75 = .ok (.iconst 2, 1) := by decide +kernel
theorem dX6_isTokenSomewhere_76 : decode cX6_isTokenSomewhere 76 = .ok (.iload 4, 2) := by decide +kernel
theorem dX6_isTokenSomewhere_78 : decode cX6_isTokenSomewhere 78 = .ok (.imul, 1) := by decide +kernel
theorem dX6_isTokenSomewhere_79 : decode cX6_isTokenSomewhere 79 = .ok (.iadd, 1) := by decide +kernel
theorem dX6_isTokenSomewhere_80 : decode cX6_isTokenSomewhere 80 = .ok (.iaload, 1) := by decide +kernel
theorem dX6_isTokenSomewhere_81 : decode cX6_isTokenSomewhere 81 = .ok (.iconst 2, 1) := by decide +kernel
theorem dX6_isTokenSomewhere_82 : decode cX6_isTokenSomewhere 82 = .ok (.if_icmp .ne 7, 3) := by decide +kernel
theorem dX6_isTokenSomewhere_85 : decode cX6_isTokenSomewhere 85 = .ok (.iconst 1, 1) := by decide +kernel
theorem dX6_isTokenSomewhere_86 : decode cX6_isTokenSomewhere 86 = .ok (.goto 4, 3) := by decide +kernel
theorem dX6_isTokenSomewhere_89 : decode cX6_isTokenSomewhere 89 = .ok (.iconst 0, 1) := by decide +kernel
theorem dX6_isTokenSomewhere_90 : decode cX6_isTokenSomewhere 90 = .ok (.istore_n 1, 1) := by decide +kernel
theorem dX6_isTokenSomewhere_91 : decode cX6_isTokenSomewhere 91 = .ok (.iinc 4 1, 3) := by decide +kernel
theorem dX6_isTokenSomewhere_94 : decode cX6_isTokenSomewhere 94 = .ok (.goto (-51), 3) := by decide +kernel
theorem dX6_isTokenSomewhere_97 : decode cX6_isTokenSomewhere 97 = .ok (.iinc 3 1, 3) := by decide +kernel
theorem dX6_isTokenSomewhere_100 : decode cX6_isTokenSomewhere 100 = .ok (.goto (-68), 3) := by decide +kernel
theorem dX6_isTokenSomewhere_103 : decode cX6_isTokenSomewhere 103 = .ok (.iinc 2 1, 3) := by decide +kernel
theorem dX6_isTokenSomewhere_106 : decode cX6_isTokenSomewhere 106 = .ok (.goto (-102), 3) := by decide +kernel
theorem dX6_isTokenSomewhere_109 : decode cX6_isTokenSomewhere 109 = .ok (.iload_n 1, 1) := by decide +kernel
theorem dX6_isTokenSomewhere_110 : decode cX6_isTokenSomewhere 110 = .ok (.ireturn, 1) := by decide +kernel
theorem dX6_more_0 : decode cX6_more 0 = .ok (.iload_n 0, 1) := by decide +kernel
theorem dX6_more_1 : decode cX6_more 1 = .ok (.iload_n 1, 1) := by decide +kernel
theorem dX6_more_2 : decode cX6_more 2 = .ok (.if_icmp .le 7, 3) := by decide +kernel
theorem dX6_more_5 : decode cX6_more 5 = .ok (.iload_n 0, 1) := by decide +kernel
theorem dX6_more_6 : decode cX6_more 6 = .ok (.goto 4, 3) := by decide +kernel
theorem dX6_more_9 : decode cX6_more 9 = .ok (.iload_n 1, 1) := by decide +kernel
theorem dX6_more_10 : decode cX6_more 10 = .ok (.ireturn, 1) := by decide +kernel
theorem dX6_goes_0 : decode cX6_goes 0 = .ok (.aload_n 0, 1) := by decide +kernel
theorem dX6_goes_1 : decode cX6_goes 1 = .ok (.getfield 73, 3) := by decide +kernel
theorem dX6_goes_4 : decode cX6_goes 4 = .ok (.ifCond .eq 15, 3) := by decide +kernel
theorem dX6_goes_7 : decode cX6_goes 7 = .ok (.aload_n 0, 1) := by decide +kernel
theorem dX6_goes_8 : decode cX6_goes 8 = .ok (.getfield 41, 3) := by decide +kernel
theorem dX6_goes_11 : decode cX6_goes 11 = .ok (.iconst 5, 1) := by decide +kernel
theorem dX6_goes_12 : decode cX6_goes 12 = .ok (.dup2, 1) := by decide +kernel
theorem dX6_goes_13 : decode cX6_goes 13 = .ok (.iaload, 1) := by decide +kernel
theorem dX6_goes_14 : decode cX6_goes 14 = .ok (.iconst 1, 1) := by decide +kernel
theorem dX6_goes_15 : decode cX6_goes 15 = .ok (.iadd, 1) := by decide +kernel
theorem dX6_goes_16 : decode cX6_goes 16 = .ok (.iastore, 1) := by decide +kernel
theorem dX6_goes_17 : decode cX6_goes 17 = .ok (.iconst 0, 1) := by decide +kernel
theorem dX6_goes_18 : decode cX6_goes 18 = .ok (.ireturn, 1) := by decide +kernel
theorem dX6_goes_19 : decode cX6_goes 19 = .ok (.aload_n 0, 1) := by decide +kernel
theorem dX6_goes_20 : decode cX6_goes 20 = .ok (.invokevirtual 162, 3) := by decide +kernel
theorem dX6_goes_23 : decode cX6_goes 23 = .ok (.iconst 1, 1) := by decide +kernel
theorem dX6_goes_24 : decode cX6_goes 24 = .ok (.ireturn, 1) := by decide +kernel
theorem dX6_visit_0 : decode cX6_visit 0 = .ok (.aload_n 0, 1) := by decide +kernel
theorem dX6_visit_1 : decode cX6_visit 1 = .ok (.iload_n 1, 1) := by decide +kernel
theorem dX6_visit_2 : decode cX6_visit 2 = .ok (.invokevirtual 165, 3) := by decide +kernel
theorem dX6_visit_5 : decode cX6_visit 5 = .ok (.aload_n 0, 1) := by decide +kernel
theorem dX6_visit_6 : decode cX6_visit 6 = .ok (.getfield 41, 3) := by decide +kernel
theorem dX6_visit_9 : decode cX6_visit 9 = .ok (.iconst 2, 1) := by decide +kernel
theorem dX6_visit_10 : decode cX6_visit 10 = .ok (.aload_n 0, 1) := by decide +kernel
theorem dX6_visit_11 : decode cX6_visit 11 = .ok (.getfield 41, 3) := by decide +kernel
theorem dX6_visit_14 : decode cX6_visit 14 = .ok (.iconst 2, 1) := by decide +kernel
theorem dX6_visit_15 : decode cX6_visit 15 = .ok (.iaload, 1) := by decide +kernel
theorem dX6_visit_16 : decode cX6_visit 16 = .ok (.aload_n 0, 1) := by decide +kernel
theorem dX6_visit_17 : decode cX6_visit 17 = .ok (.iconst 2, 1) := by decide +kernel
theorem dX6_visit_18 : decode cX6_visit 18 = .ok (.invokevirtual 168, 3) := by decide +kernel
theorem dX6_visit_21 : decode cX6_visit 21 = .ok (.invokestatic 171, 3) := by decide +kernel
theorem dX6_visit_24 : decode cX6_visit 24 = .ok (.iastore, 1) := by decide +kernel
theorem dX6_visit_25 : decode cX6_visit 25 = .ok (.aload_n 0, 1) := by decide +kernel
theorem dX6_visit_26 : decode cX6_visit 26 = .ok (.getfield 41, 3) := by decide +kernel
theorem dX6_visit_29 : decode cX6_visit 29 = .ok (.bipush 6, 2) := by decide +kernel
theorem dX6_visit_31 : decode cX6_visit 31 = .ok (.aload_n 0, 1) := by decide +kernel
theorem dX6_visit_32 : decode cX6_visit 32 = .ok (.getfield 41, 3) := by decide +kernel
theorem dX6_visit_35 : decode cX6_visit 35 = .ok (.bipush 6, 2) := by decide +kernel
theorem dX6_visit_37 : decode cX6_visit 37 = .ok (.iaload, 1) := by decide +kernel
theorem dX6_visit_38 : decode cX6_visit 38 = .ok (.aload_n 0, 1) := by decide +kernel
theorem dX6_visit_39 : decode cX6_visit 39 = .ok (.invokevirtual 174, 3) := by decide +kernel
theorem dX6_visit_42 : decode cX6_visit 42 = .ok (.invokestatic 171, 3) := by decide +kernel
theorem dX6_visit_45 : decode cX6_visit 45 = .ok (.iastore, 1) := by decide +kernel
theorem dX6_visit_46 : decode cX6_visit 46 = .ok (.aload_n 0, 1) := by decide +kernel
theorem dX6_visit_47 : decode cX6_visit 47 = .ok (.getfield 41, 3) := by decide +kernel
theorem dX6_visit_50 : decode cX6_visit 50 = .ok (.iconst 4, 1) := by decide +kernel
theorem dX6_visit_51 : decode cX6_visit 51 = .ok (.dup2, 1) := by decide +kernel
theorem dX6_visit_52 : decode cX6_visit 52 = .ok (.iaload, 1) := by decide +kernel
theorem dX6_visit_53 : decode cX6_visit 53 = .ok (.aload_n 0, 1) := by decide +kernel
theorem dX6_visit_54 : decode cX6_visit 54 = .ok (.getfield 66, 3) := by decide +kernel
theorem dX6_visit_57 : decode cX6_visit 57 = .ok (.ifCond .eq 22, 3) := by decide +kernel
theorem dX6_visit_60 : decode cX6_visit 60 = .ok (.aload_n 0, 1) := by decide +kernel
theorem dX6_visit_61 : decode cX6_visit 61 = .ok (.iconst 2, 1) := by decide +kernel
theorem dX6_visit_62 : decode cX6_visit 62 = .ok (.invokevirtual 168, 3) := by decide +kernel
theorem dX6_visit_65 : decode cX6_visit 65 = .ok (.ifCond .ne 14, 3) := by decide +kernel
theorem dX6_visit_68 : decode cX6_visit 68 = .ok (.aload_n 0, 1) := by decide +kernel
theorem dX6_visit_69 : decode cX6_visit 69 = .ok (.invokevirtual 177, 3) := by decide +kernel
theorem dX6_visit_72 : decode cX6_visit 72 = .ok (.ifCond .ne 7, 3) := by decide +kernel
theorem dX6_visit_75 : decode cX6_visit 75 = .ok (.iconst 1, 1) := by decide +kernel
theorem dX6_visit_76 : decode cX6_visit 76 = .ok (.goto 4, 3) := by decide +kernel
theorem dX6_visit_79 : decode cX6_visit 79 = .ok (.iconst 0, 1) := by decide +kernel
theorem dX6_visit_80 : decode cX6_visit 80 = .ok (.iadd, 1) := by decide +kernel
theorem dX6_visit_81 : decode cX6_visit 81 = .ok (.iastore, 1) := by decide +kernel
theorem dX6_visit_82 : decode cX6_visit 82 = .ok (.aload_n 0, 1) := by decide +kernel
theorem dX6_visit_83 : decode cX6_visit 83 = .ok (.iconst 1, 1) := by decide +kernel
theorem dX6_visit_84 : decode cX6_visit 84 = .ok (.invokevirtual 168, 3) := by decide +kernel
theorem dX6_visit_87 : decode cX6_visit 87 = .ok (.ifCond .le 7, 3) := by decide +kernel
theorem dX6_visit_90 : decode cX6_visit 90 = .ok (.iconst 1, 1) := by decide +kernel
theorem dX6_visit_91 : decode cX6_visit 91 = .ok (.goto 4, 3) := by decide +kernel
theorem dX6_visit_94 : decode cX6_visit 94 = .ok (.iconst 0, 1) := by decide +kernel
theorem dX6_visit_95 : decode cX6_visit 95 = .ok (.istore_n 2, 1) := by decide +kernel
theorem dX6_visit_96 : decode cX6_visit 96 = .ok (.iconst 0, 1) := by decide +kernel
theorem dX6_visit_97 : decode cX6_visit 97 = .ok (.istore_n 3, 1) := by decide +kernel
theorem dX6_visit_98 : decode cX6_visit 98 = .ok (.iconst 0, 1) := by decide +kernel
theorem dX6_visit_99 : decode cX6_visit 99 = .ok (.istore 4, 2) := by decide +kernel
theorem dX6_visit_101 : decode cX6_visit 101 = .ok (.iload 4, 2) := by decide +kernel
theorem dX6_visit_103 : decode cX6_visit 103 = .ok (.bipush 36, 2) := by decide +kernel
theorem dX6_visit_105 : decode cX6_visit 105 = .ok (.if_icmp .ge 54, 3) := by decide +kernel
theorem dX6_visit_108 : decode cX6_visit 108 = .ok (.aload_n 0, 1) := by decide +kernel
theorem dX6_visit_109 : decode cX6_visit 109 = .ok (.iload_n 1, 1) := by decide +kernel
theorem dX6_visit_110 : decode cX6_visit 110 = .ok (.invokevirtual 165, 3) := by decide +kernel
theorem dX6_visit_113 : decode cX6_visit 113 = .ok (.aload_n 0, 1) := by decide +kernel
theorem dX6_visit_114 : decode cX6_visit 114 = .ok (.getfield 17, 3) := by decide +kernel
theorem dX6_visit_117 : decode cX6_visit 117 = .ok (.sipush 140, 3) := by decide +kernel
theorem dX6_visit_120 : decode cX6_visit 120 = .ok (.bipush 25, 2) := by decide +kernel
theorem dX6_visit_122 : decode cX6_visit 122 = .ok (.iload 4, 2) := by decide +kernel
theorem dX6_visit_124 : decode cX6_visit 124 = .ok (.imul, 1) := by decide +kernel
theorem dX6_visit_125 : decode cX6_visit 125 = .ok (.iadd, 1) := by decide +kernel
theorem dX6_visit_126 : decode cX6_visit 126 = .ok (.iaload, 1) := by decide +kernel
theorem dX6_visit_127 : decode cX6_visit 127 = .ok (.ifCond .le 26, 3) := by decide +kernel
theorem dX6_visit_130 : decode cX6_visit 130 = .ok (.aload_n 0, 1) := by decide +kernel
theorem dX6_visit_131 : decode cX6_visit 131 = .ok (.iload 4, 2) := by decide +kernel
theorem dX6_visit_133 : decode cX6_visit 133 = .ok (.bipush 6, 2) := by decide +kernel
theorem dX6_visit_135 : decode cX6_visit 135 = .ok (.idiv, 1) := by decide +kernel
theorem dX6_visit_136 : decode cX6_visit 136 = .ok (.iload 4, 2) := by decide +kernel
theorem dX6_visit_138 : decode cX6_visit 138 = .ok (.bipush 6, 2) := by decide +kernel
theorem dX6_visit_140 : decode cX6_visit 140 = .ok (.irem, 1) := by decide +kernel
theorem dX6_visit_141 : decode cX6_visit 141 = .ok (.invokevirtual 129, 3) := by decide +kernel
theorem dX6_visit_144 : decode cX6_visit 144 = .ok (.istore 5, 2) := by decide +kernel
theorem dX6_visit_146 : decode cX6_visit 146 = .ok (.iload_n 3, 1) := by decide +kernel
theorem dX6_visit_147 : decode cX6_visit 147 = .ok (.aload_n 0, 1) := by decide +kernel
theorem dX6_visit_148 : decode cX6_visit 148 = .ok (.invokevirtual 180, 3) := by decide +kernel
theorem dX6_visit_151 : decode cX6_visit 151 = .ok (.iadd, 1) := by decide +kernel
theorem dX6_visit_152 : decode cX6_visit 152 = .ok (.istore_n 3, 1) := by decide +kernel
theorem dX6_visit_153 : decode cX6_visit 153 = .ok (.iinc 4 1, 3) := by decide +kernel
theorem dX6_visit_156 : decode cX6_visit 156 = .ok (.goto (-55), 3) := by decide +kernel
theorem dX6_visit_159 : decode cX6_visit 159 = .ok (.iconst 0, 1) := by decide +kernel
theorem dX6_visit_160 : decode cX6_visit 160 = .ok (.istore 4, 2) := by decide +kernel
theorem dX6_visit_162 : decode cX6_visit 162 = .ok (.iload 4, 2) := by decide +kernel
theorem dX6_visit_164 : decode cX6_visit 164 = .ok (.aload_n 0, 1) := by decide +kernel
theorem dX6_visit_165 : decode cX6_visit 165 = .ok (.getfield 7, 3) := by decide +kernel
theorem dX6_visit_168 : decode cX6_visit 168 = .ok (.if_icmp .ge 43, 3) := by decide +kernel
theorem dX6_visit_171 : decode cX6_visit 171 = .ok (.aload_n 0, 1) := by decide +kernel
theorem dX6_visit_172 : decode cX6_visit 172 = .ok (.iload_n 1, 1) := by decide +kernel
theorem dX6_visit_173 : decode cX6_visit 173 = .ok (.invokevirtual 165, 3) := by decide +kernel
theorem dX6_visit_176 : decode cX6_visit 176 = .ok (.aload_n 0, 1) := by decide +kernel
theorem dX6_visit_177 : decode cX6_visit 177 = .ok (.getfield 17, 3) := by decide +kernel
theorem dX6_visit_180 : decode cX6_visit 180 = .ok (.bipush 21, 2) := by decide +kernel
theorem dX6_visit_182 : decode cX6_visit 182 = .ok (.iload 4, 2) := by decide +kernel
theorem dX6_visit_184 : decode cX6_visit 184 = .ok (.imul, 1) := by decide +kernel
theorem dX6_visit_185 : decode cX6_visit 185 = .ok (.iconst 0, 1) := by decide +kernel
theorem dX6_visit_186 : decode cX6_visit 186 = .ok (.iadd, 1) := by decide +kernel
theorem dX6_visit_187 : decode cX6_visit 187 = .ok (.iaload, 1) := by decide +kernel
theorem dX6_visit_188 : decode cX6_visit 188 = .ok (.iconst 2, 1) := by decide +kernel
theorem dX6_visit_189 : decode cX6_visit 189 = .ok (.if_icmp .ne 16, 3) := by decide +kernel
theorem dX6_visit_192 : decode cX6_visit 192 = .ok (.aload_n 0, 1) := by decide +kernel
theorem dX6_visit_193 : decode cX6_visit 193 = .ok (.iload 4, 2) := by decide +kernel
theorem dX6_visit_195 : decode cX6_visit 195 = .ok (.invokevirtual 126, 3) := by decide +kernel
theorem dX6_visit_198 : decode cX6_visit 198 = .ok (.iload_n 3, 1) := by decide +kernel
theorem dX6_visit_199 : decode cX6_visit 199 = .ok (.aload_n 0, 1) := by decide +kernel
theorem dX6_visit_200 : decode cX6_visit 200 = .ok (.invokevirtual 180, 3) := by decide +kernel
theorem dX6_visit_203 : decode cX6_visit 203 = .ok (.iadd, 1) := by decide +kernel
theorem dX6_visit_204 : decode cX6_visit 204 = .ok (.istore_n 3, 1) := by decide +kernel
theorem dX6_visit_205 : decode cX6_visit 205 = .ok (.iinc 4 1, 3) := by decide +kernel
theorem dX6_visit_208 : decode cX6_visit 208 = .ok (.goto (-46), 3) := by decide +kernel
theorem dX6_visit_211 : decode cX6_visit 211 = .ok (.iload_n 3, 1) := by decide +kernel
theorem dX6_visit_212 : decode cX6_visit 212 = .ok (.ifCond .ne 31, 3) := by decide +kernel
theorem dX6_visit_215 : decode cX6_visit 215 = .ok (.aload_n 0, 1) := by decide +kernel
theorem dX6_visit_216 : decode cX6_visit 216 = .ok (.getfield 41, 3) := by decide +kernel
theorem dX6_visit_219 : decode cX6_visit 219 = .ok (.iconst 1, 1) := by decide +kernel
theorem dX6_visit_220 : decode cX6_visit 220 = .ok (.dup2, 1) := by decide +kernel
theorem dX6_visit_221 : decode cX6_visit 221 = .ok (.iaload, 1) := by decide +kernel
theorem dX6_visit_222 : decode cX6_visit 222 = .ok (.iconst 1, 1) := by decide +kernel
theorem dX6_visit_223 : decode cX6_visit 223 = .ok (.iadd, 1) := by decide +kernel
theorem dX6_visit_224 : decode cX6_visit 224 = .ok (.iastore, 1) := by decide +kernel
theorem dX6_visit_225 : decode cX6_visit 225 = .ok (.aload_n 0, 1) := by decide +kernel
theorem dX6_visit_226 : decode cX6_visit 226 = .ok (.getfield 41, 3) := by decide +kernel
theorem dX6_visit_229 : decode cX6_visit 229 = .ok (.iconst 3, 1) := by decide +kernel
theorem dX6_visit_230 : decode cX6_visit 230 = .ok (.dup2, 1) := by decide +kernel
theorem dX6_visit_231 : decode cX6_visit 231 = .ok (.iaload, 1) := by decide +kernel
theorem dX6_visit_232 : decode cX6_visit 232 = .ok (.iload_n 2, 1) := by decide +kernel
theorem dX6_visit_233 : decode cX6_visit 233 = .ok (.ifCond .eq 7, 3) := by decide +kernel
theorem dX6_visit_236 : decode cX6_visit 236 = .ok (.iconst 1, 1) := by decide +kernel
theorem dX6_visit_237 : decode cX6_visit 237 = .ok (.goto 4, 3) := by decide +kernel
theorem dX6_visit_240 : decode cX6_visit 240 = .ok (.iconst 0, 1) := by decide +kernel
theorem dX6_visit_241 : decode cX6_visit 241 = .ok (.iadd, 1) := by decide +kernel
theorem dX6_visit_242 : decode cX6_visit 242 = .ok (.iastore, 1) := by decide +kernel
theorem dX6_visit_243 : decode cX6_visit 243 = .ok (.return_, 1) := by decide +kernel
theorem dX6_pass_0 : decode cX6_pass 0 = .ok (.aload_n 0, 1) := by decide +kernel
theorem dX6_pass_1 : decode cX6_pass 1 = .ok (.getfield 60, 3) := by decide +kernel
theorem dX6_pass_4 : decode cX6_pass 4 = .ok (.bipush 15, 2) := by decide +kernel
theorem dX6_pass_6 : decode cX6_pass 6 = .ok (.if_icmp .ne 6, 3) := by decide +kernel
theorem dX6_pass_9 : decode cX6_pass 9 = .ok (.bipush (-3), 2) := by decide +kernel
theorem dX6_pass_11 : decode cX6_pass 11 = .ok (.ireturn, 1) := by decide +kernel
theorem dX6_pass_12 : decode cX6_pass 12 = .ok (.aload_n 0, 1) := by decide +kernel
theorem dX6_pass_13 : decode cX6_pass 13 = .ok (.dup, 1) := by decide +kernel
theorem dX6_pass_14 : decode cX6_pass 14 = .ok (.getfield 60, 3) := by decide +kernel
theorem dX6_pass_17 : decode cX6_pass 17 = .ok (.iconst 1, 1) := by decide +kernel
theorem dX6_pass_18 : decode cX6_pass 18 = .ok (.iadd, 1) := by decide +kernel
theorem dX6_pass_19 : decode cX6_pass 19 = .ok (.putfield 60, 3) := by decide +kernel
theorem dX6_pass_22 : decode cX6_pass 22 = .ok (.aload_n 0, 1) := by decide +kernel
theorem dX6_pass_23 : decode cX6_pass 23 = .ok (.invokevirtual 116, 3) := by decide +kernel
theorem dX6_pass_26 : decode cX6_pass 26 = .ok (.aload_n 0, 1) := by decide +kernel
theorem dX6_pass_27 : decode cX6_pass 27 = .ok (.iconst 0, 1) := by decide +kernel
theorem dX6_pass_28 : decode cX6_pass 28 = .ok (.putfield 23, 3) := by decide +kernel
theorem dX6_pass_31 : decode cX6_pass 31 = .ok (.aload_n 0, 1) := by decide +kernel
theorem dX6_pass_32 : decode cX6_pass 32 = .ok (.iconst 0, 1) := by decide +kernel
theorem dX6_pass_33 : decode cX6_pass 33 = .ok (.putfield 156, 3) := by decide +kernel
theorem dX6_pass_36 : decode cX6_pass 36 = .ok (.aload_n 0, 1) := by decide +kernel
theorem dX6_pass_37 : decode cX6_pass 37 = .ok (.iconst 0, 1) := by decide +kernel
theorem dX6_pass_38 : decode cX6_pass 38 = .ok (.putfield 159, 3) := by decide +kernel
theorem dX6_pass_41 : decode cX6_pass 41 = .ok (.iconst 0, 1) := by decide +kernel
theorem dX6_pass_42 : decode cX6_pass 42 = .ok (.istore_n 1, 1) := by decide +kernel
theorem dX6_pass_43 : decode cX6_pass 43 = .ok (.iload_n 1, 1) := by decide +kernel
theorem dX6_pass_44 : decode cX6_pass 44 = .ok (.sipush 1024, 3) := by decide +kernel
theorem dX6_pass_47 : decode cX6_pass 47 = .ok (.if_icmp .ge 16, 3) := by decide +kernel
theorem dX6_pass_50 : decode cX6_pass 50 = .ok (.aload_n 0, 1) := by decide +kernel
theorem dX6_pass_51 : decode cX6_pass 51 = .ok (.getfield 38, 3) := by decide +kernel
theorem dX6_pass_54 : decode cX6_pass 54 = .ok (.iload_n 1, 1) := by decide +kernel
theorem dX6_pass_55 : decode cX6_pass 55 = .ok (.iconst 0, 1) := by decide +kernel
theorem dX6_pass_56 : decode cX6_pass 56 = .ok (.iastore, 1) := by decide +kernel
theorem dX6_pass_57 : decode cX6_pass 57 = .ok (.iinc 1 1, 3) := by decide +kernel
theorem dX6_pass_60 : decode cX6_pass 60 = .ok (.goto (-17), 3) := by decide +kernel
theorem dX6_pass_63 : decode cX6_pass 63 = .ok (.iconst 0, 1) := by decide +kernel
theorem dX6_pass_64 : decode cX6_pass 64 = .ok (.istore_n 1, 1) := by decide +kernel
theorem dX6_pass_65 : decode cX6_pass 65 = .ok (.iload_n 1, 1) := by decide +kernel
theorem dX6_pass_66 : decode cX6_pass 66 = .ok (.bipush 7, 2) := by decide +kernel
theorem dX6_pass_68 : decode cX6_pass 68 = .ok (.if_icmp .ge 16, 3) := by decide +kernel
theorem dX6_pass_71 : decode cX6_pass 71 = .ok (.aload_n 0, 1) := by decide +kernel
theorem dX6_pass_72 : decode cX6_pass 72 = .ok (.getfield 41, 3) := by decide +kernel
theorem dX6_pass_75 : decode cX6_pass 75 = .ok (.iload_n 1, 1) := by decide +kernel
theorem dX6_pass_76 : decode cX6_pass 76 = .ok (.iconst 0, 1) := by decide +kernel
theorem dX6_pass_77 : decode cX6_pass 77 = .ok (.iastore, 1) := by decide +kernel
theorem dX6_pass_78 : decode cX6_pass 78 = .ok (.iinc 1 1, 3) := by decide +kernel
theorem dX6_pass_81 : decode cX6_pass 81 = .ok (.goto (-16), 3) := by decide +kernel
theorem dX6_pass_84 : decode cX6_pass 84 = .ok (.aload_n 0, 1) := by decide +kernel
theorem dX6_pass_85 : decode cX6_pass 85 = .ok (.invokevirtual 162, 3) := by decide +kernel
theorem dX6_pass_88 : decode cX6_pass 88 = .ok (.iconst 0, 1) := by decide +kernel
theorem dX6_pass_89 : decode cX6_pass 89 = .ok (.istore_n 1, 1) := by decide +kernel
theorem dX6_pass_90 : decode cX6_pass 90 = .ok (.iload_n 1, 1) := by decide +kernel
theorem dX6_pass_91 : decode cX6_pass 91 = .ok (.aload_n 0, 1) := by decide +kernel
theorem dX6_pass_92 : decode cX6_pass 92 = .ok (.getfield 156, 3) := by decide +kernel
theorem dX6_pass_95 : decode cX6_pass 95 = .ok (.if_icmp .ge 14, 3) := by decide +kernel
theorem dX6_pass_98 : decode cX6_pass 98 = .ok (.aload_n 0, 1) := by decide +kernel
theorem dX6_pass_99 : decode cX6_pass 99 = .ok (.iload_n 1, 1) := by decide +kernel
theorem dX6_pass_100 : decode cX6_pass 100 = .ok (.invokevirtual 183, 3) := by decide +kernel
theorem dX6_pass_103 : decode cX6_pass 103 = .ok (.iinc 1 1, 3) := by decide +kernel
theorem dX6_pass_106 : decode cX6_pass 106 = .ok (.goto (-16), 3) := by decide +kernel
theorem dX6_pass_109 : decode cX6_pass 109 = .ok (.aload_n 0, 1) := by decide +kernel
theorem dX6_pass_110 : decode cX6_pass 110 = .ok (.getfield 41, 3) := by decide +kernel
theorem dX6_pass_113 : decode cX6_pass 113 = .ok (.iconst 0, 1) := by decide +kernel
theorem dX6_pass_114 : decode cX6_pass 114 = .ok (.aload_n 0, 1) := by decide +kernel
theorem dX6_pass_115 : decode cX6_pass 115 = .ok (.getfield 156, 3) := by decide +kernel
theorem dX6_pass_118 : decode cX6_pass 118 = .ok (.iastore, 1) := by decide +kernel
theorem dX6_pass_119 : decode cX6_pass 119 = .ok (.aload_n 0, 1) := by decide +kernel
theorem dX6_pass_120 : decode cX6_pass 120 = .ok (.iconst 1, 1) := by decide +kernel
theorem dX6_pass_121 : decode cX6_pass 121 = .ok (.putfield 23, 3) := by decide +kernel
theorem dX6_pass_124 : decode cX6_pass 124 = .ok (.iconst 0, 1) := by decide +kernel
theorem dX6_pass_125 : decode cX6_pass 125 = .ok (.istore_n 1, 1) := by decide +kernel
theorem dX6_pass_126 : decode cX6_pass 126 = .ok (.iload_n 1, 1) := by decide +kernel
theorem dX6_pass_127 : decode cX6_pass 127 = .ok (.sipush 1040, 3) := by decide +kernel
theorem dX6_pass_130 : decode cX6_pass 130 = .ok (.if_icmp .ge 21, 3) := by decide +kernel
theorem dX6_pass_133 : decode cX6_pass 133 = .ok (.aload_n 0, 1) := by decide +kernel
theorem dX6_pass_134 : decode cX6_pass 134 = .ok (.getfield 17, 3) := by decide +kernel
theorem dX6_pass_137 : decode cX6_pass 137 = .ok (.iload_n 1, 1) := by decide +kernel
theorem dX6_pass_138 : decode cX6_pass 138 = .ok (.aload_n 0, 1) := by decide +kernel
theorem dX6_pass_139 : decode cX6_pass 139 = .ok (.getfield 31, 3) := by decide +kernel
theorem dX6_pass_142 : decode cX6_pass 142 = .ok (.iload_n 1, 1) := by decide +kernel
theorem dX6_pass_143 : decode cX6_pass 143 = .ok (.iaload, 1) := by decide +kernel
theorem dX6_pass_144 : decode cX6_pass 144 = .ok (.iastore, 1) := by decide +kernel
theorem dX6_pass_145 : decode cX6_pass 145 = .ok (.iinc 1 1, 3) := by decide +kernel
theorem dX6_pass_148 : decode cX6_pass 148 = .ok (.goto (-22), 3) := by decide +kernel
theorem dX6_pass_151 : decode cX6_pass 151 = .ok (.aload_n 0, 1) := by decide +kernel
theorem dX6_pass_152 : decode cX6_pass 152 = .ok (.getfield 159, 3) := by decide +kernel
theorem dX6_pass_155 : decode cX6_pass 155 = .ok (.ifCond .eq 8, 3) := by decide +kernel
theorem dX6_pass_158 : decode cX6_pass 158 = .ok (.bipush (-5), 2) := by decide +kernel
theorem dX6_pass_160 : decode cX6_pass 160 = .ok (.goto 7, 3) := by decide +kernel
theorem dX6_pass_163 : decode cX6_pass 163 = .ok (.aload_n 0, 1) := by decide +kernel
theorem dX6_pass_164 : decode cX6_pass 164 = .ok (.getfield 156, 3) := by decide +kernel
theorem dX6_pass_167 : decode cX6_pass 167 = .ok (.ireturn, 1) := by decide +kernel
theorem dX6_passed_0 : decode cX6_passed 0 = .ok (.iload_n 1, 1) := by decide +kernel
theorem dX6_passed_1 : decode cX6_passed 1 = .ok (.iconst 0, 1) := by decide +kernel
theorem dX6_passed_2 : decode cX6_passed 2 = .ok (.bipush 6, 2) := by decide +kernel
theorem dX6_passed_4 : decode cX6_passed 4 = .ok (.invokestatic 47, 3) := by decide +kernel
theorem dX6_passed_7 : decode cX6_passed 7 = .ok (.ifCond .eq 12, 3) := by decide +kernel
theorem dX6_passed_10 : decode cX6_passed 10 = .ok (.aload_n 0, 1) := by decide +kernel
theorem dX6_passed_11 : decode cX6_passed 11 = .ok (.getfield 41, 3) := by decide +kernel
theorem dX6_passed_14 : decode cX6_passed 14 = .ok (.iload_n 1, 1) := by decide +kernel
theorem dX6_passed_15 : decode cX6_passed 15 = .ok (.iaload, 1) := by decide +kernel
theorem dX6_passed_16 : decode cX6_passed 16 = .ok (.goto 4, 3) := by decide +kernel
theorem dX6_passed_19 : decode cX6_passed 19 = .ok (.iconst (-1), 1) := by decide +kernel
theorem dX6_passed_20 : decode cX6_passed 20 = .ok (.ireturn, 1) := by decide +kernel
theorem dX6_count_0 : decode cX6_count 0 = .ok (.iload_n 1, 1) := by decide +kernel
theorem dX6_count_1 : decode cX6_count 1 = .ok (.tableswitch 106 0 9 #[55, 60, 65, 72, 72, 72, 84, 89, 95, 101], 55) := by decide +kernel
theorem dX6_count_56 : decode cX6_count 56 = .ok (.aload_n 0, 1) := by decide +kernel
theorem dX6_count_57 : decode cX6_count 57 = .ok (.getfield 7, 3) := by decide +kernel
theorem dX6_count_60 : decode cX6_count 60 = .ok (.ireturn, 1) := by decide +kernel
theorem dX6_count_61 : decode cX6_count 61 = .ok (.aload_n 0, 1) := by decide +kernel
theorem dX6_count_62 : decode cX6_count 62 = .ok (.getfield 66, 3) := by decide +kernel
theorem dX6_count_65 : decode cX6_count 65 = .ok (.ireturn, 1) := by decide +kernel
theorem dX6_count_66 : decode cX6_count 66 = .ok (.aload_n 0, 1) := by decide +kernel
theorem dX6_count_67 : decode cX6_count 67 = .ok (.getfield 20, 3) := by decide +kernel
theorem dX6_count_70 : decode cX6_count 70 = .ok (.iconst 0, 1) := by decide +kernel
theorem dX6_count_71 : decode cX6_count 71 = .ok (.iaload, 1) := by decide +kernel
theorem dX6_count_72 : decode cX6_count 72 = .ok (.ireturn, 1) := by decide +kernel
theorem dX6_count_73 : decode cX6_count 73 = .ok (.aload_n 0, 1) := by decide +kernel
theorem dX6_count_74 : decode cX6_count 74 = .ok (.getfield 20, 3) := by decide +kernel
theorem dX6_count_77 : decode cX6_count 77 = .ok (.bipush 7, 2) := by decide +kernel
theorem dX6_count_79 : decode cX6_count 79 = .ok (.iload_n 1, 1) := by decide +kernel
theorem dX6_count_80 : decode cX6_count 80 = .ok (.iadd, 1) := by decide +kernel
theorem dX6_count_81 : decode cX6_count 81 = .ok (.iconst 3, 1) := by decide +kernel
theorem dX6_count_82 : decode cX6_count 82 = .ok (.isub, 1) := by decide +kernel
theorem dX6_count_83 : decode cX6_count 83 = .ok (.iaload, 1) := by decide +kernel
theorem dX6_count_84 : decode cX6_count 84 = .ok (.ireturn, 1) := by decide +kernel
theorem dX6_count_85 : decode cX6_count 85 = .ok (.aload_n 0, 1) := by decide +kernel
theorem dX6_count_86 : decode cX6_count 86 = .ok (.invokevirtual 174, 3) := by decide +kernel
theorem dX6_count_89 : decode cX6_count 89 = .ok (.ireturn, 1) := by decide +kernel
theorem dX6_count_90 : decode cX6_count 90 = .ok (.aload_n 0, 1) := by decide +kernel
theorem dX6_count_91 : decode cX6_count 91 = .ok (.iconst 2, 1) := by decide +kernel
theorem dX6_count_92 : decode cX6_count 92 = .ok (.invokevirtual 168, 3) := by decide +kernel
theorem dX6_count_95 : decode cX6_count 95 = .ok (.ireturn, 1) := by decide +kernel
theorem dX6_count_96 : decode cX6_count 96 = .ok (.aload_n 0, 1) := by decide +kernel
theorem dX6_count_97 : decode cX6_count 97 = .ok (.iconst 1, 1) := by decide +kernel
theorem dX6_count_98 : decode cX6_count 98 = .ok (.invokevirtual 168, 3) := by decide +kernel
theorem dX6_count_101 : decode cX6_count 101 = .ok (.ireturn, 1) := by decide +kernel
theorem dX6_count_102 : decode cX6_count 102 = .ok (.aload_n 0, 1) := by decide +kernel
theorem dX6_count_103 : decode cX6_count 103 = .ok (.getfield 54, 3) := by decide +kernel
theorem dX6_count_106 : decode cX6_count 106 = .ok (.ireturn, 1) := by decide +kernel
theorem dX6_count_107 : decode cX6_count 107 = .ok (.iconst (-1), 1) := by decide +kernel
theorem dX6_count_108 : decode cX6_count 108 = .ok (.ireturn, 1) := by decide +kernel
theorem dJ6_bitCount_0f7a4_0 : decode cJ6_bitCount_0f7a4 0 = .ok (.iload_n 0, 1) := by decide +kernel
theorem dJ6_bitCount_0f7a4_1 : decode cJ6_bitCount_0f7a4 1 = .ok (.iload_n 0, 1) := by decide +kernel
theorem dJ6_bitCount_0f7a4_2 : decode cJ6_bitCount_0f7a4 2 = .ok (.iconst 1, 1) := by decide +kernel
theorem dJ6_bitCount_0f7a4_3 : decode cJ6_bitCount_0f7a4 3 = .ok (.iushr, 1) := by decide +kernel
theorem dJ6_bitCount_0f7a4_4 : decode cJ6_bitCount_0f7a4 4 = .ok (.ldc_w 265, 3) := by decide +kernel
theorem dJ6_bitCount_0f7a4_7 : decode cJ6_bitCount_0f7a4 7 = .ok (.iand, 1) := by decide +kernel
theorem dJ6_bitCount_0f7a4_8 : decode cJ6_bitCount_0f7a4 8 = .ok (.isub, 1) := by decide +kernel
theorem dJ6_bitCount_0f7a4_9 : decode cJ6_bitCount_0f7a4 9 = .ok (.istore_n 0, 1) := by decide +kernel
theorem dJ6_bitCount_0f7a4_10 : decode cJ6_bitCount_0f7a4 10 = .ok (.iload_n 0, 1) := by decide +kernel
theorem dJ6_bitCount_0f7a4_11 : decode cJ6_bitCount_0f7a4 11 = .ok (.ldc_w 266, 3) := by decide +kernel
theorem dJ6_bitCount_0f7a4_14 : decode cJ6_bitCount_0f7a4 14 = .ok (.iand, 1) := by decide +kernel
theorem dJ6_bitCount_0f7a4_15 : decode cJ6_bitCount_0f7a4 15 = .ok (.iload_n 0, 1) := by decide +kernel
theorem dJ6_bitCount_0f7a4_16 : decode cJ6_bitCount_0f7a4 16 = .ok (.iconst 2, 1) := by decide +kernel
theorem dJ6_bitCount_0f7a4_17 : decode cJ6_bitCount_0f7a4 17 = .ok (.iushr, 1) := by decide +kernel
theorem dJ6_bitCount_0f7a4_18 : decode cJ6_bitCount_0f7a4 18 = .ok (.ldc_w 266, 3) := by decide +kernel
theorem dJ6_bitCount_0f7a4_21 : decode cJ6_bitCount_0f7a4 21 = .ok (.iand, 1) := by decide +kernel
theorem dJ6_bitCount_0f7a4_22 : decode cJ6_bitCount_0f7a4 22 = .ok (.iadd, 1) := by decide +kernel
theorem dJ6_bitCount_0f7a4_23 : decode cJ6_bitCount_0f7a4 23 = .ok (.istore_n 0, 1) := by decide +kernel
theorem dJ6_bitCount_0f7a4_24 : decode cJ6_bitCount_0f7a4 24 = .ok (.iload_n 0, 1) := by decide +kernel
theorem dJ6_bitCount_0f7a4_25 : decode cJ6_bitCount_0f7a4 25 = .ok (.iload_n 0, 1) := by decide +kernel
theorem dJ6_bitCount_0f7a4_26 : decode cJ6_bitCount_0f7a4 26 = .ok (.iconst 4, 1) := by decide +kernel
theorem dJ6_bitCount_0f7a4_27 : decode cJ6_bitCount_0f7a4 27 = .ok (.iushr, 1) := by decide +kernel
theorem dJ6_bitCount_0f7a4_28 : decode cJ6_bitCount_0f7a4 28 = .ok (.iadd, 1) := by decide +kernel
theorem dJ6_bitCount_0f7a4_29 : decode cJ6_bitCount_0f7a4 29 = .ok (.ldc_w 267, 3) := by decide +kernel
theorem dJ6_bitCount_0f7a4_32 : decode cJ6_bitCount_0f7a4 32 = .ok (.iand, 1) := by decide +kernel
theorem dJ6_bitCount_0f7a4_33 : decode cJ6_bitCount_0f7a4 33 = .ok (.istore_n 0, 1) := by decide +kernel
theorem dJ6_bitCount_0f7a4_34 : decode cJ6_bitCount_0f7a4 34 = .ok (.iload_n 0, 1) := by decide +kernel
theorem dJ6_bitCount_0f7a4_35 : decode cJ6_bitCount_0f7a4 35 = .ok (.iload_n 0, 1) := by decide +kernel
theorem dJ6_bitCount_0f7a4_36 : decode cJ6_bitCount_0f7a4 36 = .ok (.bipush 8, 2) := by decide +kernel
theorem dJ6_bitCount_0f7a4_38 : decode cJ6_bitCount_0f7a4 38 = .ok (.iushr, 1) := by decide +kernel
theorem dJ6_bitCount_0f7a4_39 : decode cJ6_bitCount_0f7a4 39 = .ok (.iadd, 1) := by decide +kernel
theorem dJ6_bitCount_0f7a4_40 : decode cJ6_bitCount_0f7a4 40 = .ok (.istore_n 0, 1) := by decide +kernel
theorem dJ6_bitCount_0f7a4_41 : decode cJ6_bitCount_0f7a4 41 = .ok (.iload_n 0, 1) := by decide +kernel
theorem dJ6_bitCount_0f7a4_42 : decode cJ6_bitCount_0f7a4 42 = .ok (.iload_n 0, 1) := by decide +kernel
theorem dJ6_bitCount_0f7a4_43 : decode cJ6_bitCount_0f7a4 43 = .ok (.bipush 16, 2) := by decide +kernel
theorem dJ6_bitCount_0f7a4_45 : decode cJ6_bitCount_0f7a4 45 = .ok (.iushr, 1) := by decide +kernel
theorem dJ6_bitCount_0f7a4_46 : decode cJ6_bitCount_0f7a4 46 = .ok (.iadd, 1) := by decide +kernel
theorem dJ6_bitCount_0f7a4_47 : decode cJ6_bitCount_0f7a4 47 = .ok (.istore_n 0, 1) := by decide +kernel
theorem dJ6_bitCount_0f7a4_48 : decode cJ6_bitCount_0f7a4 48 = .ok (.iload_n 0, 1) := by decide +kernel
theorem dJ6_bitCount_0f7a4_49 : decode cJ6_bitCount_0f7a4 49 = .ok (.bipush 63, 2) := by decide +kernel
theorem dJ6_bitCount_0f7a4_51 : decode cJ6_bitCount_0f7a4 51 = .ok (.iand, 1) := by decide +kernel
theorem dJ6_bitCount_0f7a4_52 : decode cJ6_bitCount_0f7a4 52 = .ok (.ireturn, 1) := by decide +kernel
theorem dJ7_fill_53178_0 : decode cJ7_fill_53178 0 = .ok (.iconst 0, 1) := by decide +kernel
theorem dJ7_fill_53178_1 : decode cJ7_fill_53178 1 = .ok (.istore_n 2, 1) := by decide +kernel
theorem dJ7_fill_53178_2 : decode cJ7_fill_53178 2 = .ok (.aload_n 0, 1) := by decide +kernel
theorem dJ7_fill_53178_3 : decode cJ7_fill_53178 3 = .ok (.arraylength, 1) := by decide +kernel
theorem dJ7_fill_53178_4 : decode cJ7_fill_53178 4 = .ok (.istore_n 3, 1) := by decide +kernel
theorem dJ7_fill_53178_5 : decode cJ7_fill_53178 5 = .ok (.iload_n 2, 1) := by decide +kernel
theorem dJ7_fill_53178_6 : decode cJ7_fill_53178 6 = .ok (.iload_n 3, 1) := by decide +kernel
theorem dJ7_fill_53178_7 : decode cJ7_fill_53178 7 = .ok (.if_icmp .ge 13, 3) := by decide +kernel
theorem dJ7_fill_53178_10 : decode cJ7_fill_53178 10 = .ok (.aload_n 0, 1) := by decide +kernel
theorem dJ7_fill_53178_11 : decode cJ7_fill_53178 11 = .ok (.iload_n 2, 1) := by decide +kernel
theorem dJ7_fill_53178_12 : decode cJ7_fill_53178 12 = .ok (.iload_n 1, 1) := by decide +kernel
theorem dJ7_fill_53178_13 : decode cJ7_fill_53178 13 = .ok (.iastore, 1) := by decide +kernel
theorem dJ7_fill_53178_14 : decode cJ7_fill_53178 14 = .ok (.iinc 2 1, 3) := by decide +kernel
theorem dJ7_fill_53178_17 : decode cJ7_fill_53178 17 = .ok (.goto (-12), 3) := by decide +kernel
theorem dJ7_fill_53178_20 : decode cJ7_fill_53178 20 = .ok (.return_, 1) := by decide +kernel
theorem dL_law_0 : decode cL_law 0 = .ok (.new 7, 3) := by decide +kernel
theorem dL_law_3 : decode cL_law 3 = .ok (.dup, 1) := by decide +kernel
theorem dL_law_4 : decode cL_law 4 = .ok (.invokespecial 9, 3) := by decide +kernel
theorem dL_law_7 : decode cL_law 7 = .ok (.astore_n 1, 1) := by decide +kernel
theorem dL_law_8 : decode cL_law 8 = .ok (.new 10, 3) := by decide +kernel
theorem dL_law_11 : decode cL_law 11 = .ok (.dup, 1) := by decide +kernel
theorem dL_law_12 : decode cL_law 12 = .ok (.invokespecial 12, 3) := by decide +kernel
theorem dL_law_15 : decode cL_law 15 = .ok (.astore_n 2, 1) := by decide +kernel
theorem dL_law_16 : decode cL_law 16 = .ok (.iconst 0, 1) := by decide +kernel
theorem dL_law_17 : decode cL_law 17 = .ok (.istore_n 3, 1) := by decide +kernel
theorem dL_law_18 : decode cL_law 18 = .ok (.iload_n 3, 1) := by decide +kernel
theorem dL_law_19 : decode cL_law 19 = .ok (.aload_n 0, 1) := by decide +kernel
theorem dL_law_20 : decode cL_law 20 = .ok (.arraylength, 1) := by decide +kernel
theorem dL_law_21 : decode cL_law 21 = .ok (.iconst 5, 1) := by decide +kernel
theorem dL_law_22 : decode cL_law 22 = .ok (.isub, 1) := by decide +kernel
theorem dL_law_23 : decode cL_law 23 = .ok (.if_icmp .gt 526, 3) := by decide +kernel
theorem dL_law_26 : decode cL_law 26 = .ok (.aload_n 0, 1) := by decide +kernel
theorem dL_law_27 : decode cL_law 27 = .ok (.iload_n 3, 1) := by decide +kernel
theorem dL_law_28 : decode cL_law 28 = .ok (.iaload, 1) := by decide +kernel
theorem dL_law_29 : decode cL_law 29 = .ok (.bipush 15, 2) := by decide +kernel
theorem dL_law_31 : decode cL_law 31 = .ok (.iand, 1) := by decide +kernel
theorem dL_law_32 : decode cL_law 32 = .ok (.tableswitch 511 0 14 #[76, 109, 142, 165, 188, 221, 254, 287, 320, 353, 406, 439, 452, 465, 488], 76) := by decide +kernel
theorem dL_law_108 : decode cL_law 108 = .ok (.aload_n 1, 1) := by decide +kernel
theorem dL_law_109 : decode cL_law 109 = .ok (.aload_n 0, 1) := by decide +kernel
theorem dL_law_110 : decode cL_law 110 = .ok (.iload_n 3, 1) := by decide +kernel
theorem dL_law_111 : decode cL_law 111 = .ok (.iconst 1, 1) := by decide +kernel
theorem dL_law_112 : decode cL_law 112 = .ok (.iadd, 1) := by decide +kernel
theorem dL_law_113 : decode cL_law 113 = .ok (.iaload, 1) := by decide +kernel
theorem dL_law_114 : decode cL_law 114 = .ok (.aload_n 0, 1) := by decide +kernel
theorem dL_law_115 : decode cL_law 115 = .ok (.iload_n 3, 1) := by decide +kernel
theorem dL_law_116 : decode cL_law 116 = .ok (.iconst 2, 1) := by decide +kernel
theorem dL_law_117 : decode cL_law 117 = .ok (.iadd, 1) := by decide +kernel
theorem dL_law_118 : decode cL_law 118 = .ok (.iaload, 1) := by decide +kernel
theorem dL_law_119 : decode cL_law 119 = .ok (.invokevirtual 13, 3) := by decide +kernel
theorem dL_law_122 : decode cL_law 122 = .ok (.aload_n 2, 1) := by decide +kernel
theorem dL_law_123 : decode cL_law 123 = .ok (.aload_n 0, 1) := by decide +kernel
theorem dL_law_124 : decode cL_law 124 = .ok (.iload_n 3, 1) := by decide +kernel
theorem dL_law_125 : decode cL_law 125 = .ok (.iconst 1, 1) := by decide +kernel
theorem dL_law_126 : decode cL_law 126 = .ok (.iadd, 1) := by decide +kernel
theorem dL_law_127 : decode cL_law 127 = .ok (.iaload, 1) := by decide +kernel
theorem dL_law_128 : decode cL_law 128 = .ok (.aload_n 0, 1) := by decide +kernel
theorem dL_law_129 : decode cL_law 129 = .ok (.iload_n 3, 1) := by decide +kernel
theorem dL_law_130 : decode cL_law 130 = .ok (.iconst 2, 1) := by decide +kernel
theorem dL_law_131 : decode cL_law 131 = .ok (.iadd, 1) := by decide +kernel
theorem dL_law_132 : decode cL_law 132 = .ok (.iaload, 1) := by decide +kernel
theorem dL_law_133 : decode cL_law 133 = .ok (.invokevirtual 17, 3) := by decide +kernel
theorem dL_law_136 : decode cL_law 136 = .ok (.if_icmp .eq 407, 3) := by decide +kernel
theorem dL_law_139 : decode cL_law 139 = .ok (.iconst 0, 1) := by decide +kernel
theorem dL_law_140 : decode cL_law 140 = .ok (.ireturn, 1) := by decide +kernel
theorem dL_law_141 : decode cL_law 141 = .ok (.aload_n 1, 1) := by decide +kernel
theorem dL_law_142 : decode cL_law 142 = .ok (.aload_n 0, 1) := by decide +kernel
theorem dL_law_143 : decode cL_law 143 = .ok (.iload_n 3, 1) := by decide +kernel
theorem dL_law_144 : decode cL_law 144 = .ok (.iconst 1, 1) := by decide +kernel
theorem dL_law_145 : decode cL_law 145 = .ok (.iadd, 1) := by decide +kernel
theorem dL_law_146 : decode cL_law 146 = .ok (.iaload, 1) := by decide +kernel
theorem dL_law_147 : decode cL_law 147 = .ok (.aload_n 0, 1) := by decide +kernel
theorem dL_law_148 : decode cL_law 148 = .ok (.iload_n 3, 1) := by decide +kernel
theorem dL_law_149 : decode cL_law 149 = .ok (.iconst 2, 1) := by decide +kernel
theorem dL_law_150 : decode cL_law 150 = .ok (.iadd, 1) := by decide +kernel
theorem dL_law_151 : decode cL_law 151 = .ok (.iaload, 1) := by decide +kernel
theorem dL_law_152 : decode cL_law 152 = .ok (.invokevirtual 18, 3) := by decide +kernel
theorem dL_law_155 : decode cL_law 155 = .ok (.aload_n 2, 1) := by decide +kernel
theorem dL_law_156 : decode cL_law 156 = .ok (.aload_n 0, 1) := by decide +kernel
theorem dL_law_157 : decode cL_law 157 = .ok (.iload_n 3, 1) := by decide +kernel
theorem dL_law_158 : decode cL_law 158 = .ok (.iconst 1, 1) := by decide +kernel
theorem dL_law_159 : decode cL_law 159 = .ok (.iadd, 1) := by decide +kernel
theorem dL_law_160 : decode cL_law 160 = .ok (.iaload, 1) := by decide +kernel
theorem dL_law_161 : decode cL_law 161 = .ok (.aload_n 0, 1) := by decide +kernel
theorem dL_law_162 : decode cL_law 162 = .ok (.iload_n 3, 1) := by decide +kernel
theorem dL_law_163 : decode cL_law 163 = .ok (.iconst 2, 1) := by decide +kernel
theorem dL_law_164 : decode cL_law 164 = .ok (.iadd, 1) := by decide +kernel
theorem dL_law_165 : decode cL_law 165 = .ok (.iaload, 1) := by decide +kernel
theorem dL_law_166 : decode cL_law 166 = .ok (.invokevirtual 21, 3) := by decide +kernel
theorem dL_law_169 : decode cL_law 169 = .ok (.if_icmp .eq 374, 3) := by decide +kernel
theorem dL_law_172 : decode cL_law 172 = .ok (.iconst 0, 1) := by decide +kernel
theorem dL_law_173 : decode cL_law 173 = .ok (.ireturn, 1) := by decide +kernel
theorem dL_law_174 : decode cL_law 174 = .ok (.aload_n 1, 1) := by decide +kernel
theorem dL_law_175 : decode cL_law 175 = .ok (.aload_n 0, 1) := by decide +kernel
theorem dL_law_176 : decode cL_law 176 = .ok (.iload_n 3, 1) := by decide +kernel
theorem dL_law_177 : decode cL_law 177 = .ok (.iconst 1, 1) := by decide +kernel
theorem dL_law_178 : decode cL_law 178 = .ok (.iadd, 1) := by decide +kernel
theorem dL_law_179 : decode cL_law 179 = .ok (.iaload, 1) := by decide +kernel
theorem dL_law_180 : decode cL_law 180 = .ok (.invokevirtual 22, 3) := by decide +kernel
theorem dL_law_183 : decode cL_law 183 = .ok (.aload_n 2, 1) := by decide +kernel
theorem dL_law_184 : decode cL_law 184 = .ok (.aload_n 0, 1) := by decide +kernel
theorem dL_law_185 : decode cL_law 185 = .ok (.iload_n 3, 1) := by decide +kernel
theorem dL_law_186 : decode cL_law 186 = .ok (.iconst 1, 1) := by decide +kernel
theorem dL_law_187 : decode cL_law 187 = .ok (.iadd, 1) := by decide +kernel
theorem dL_law_188 : decode cL_law 188 = .ok (.iaload, 1) := by decide +kernel
theorem dL_law_189 : decode cL_law 189 = .ok (.invokevirtual 26, 3) := by decide +kernel
theorem dL_law_192 : decode cL_law 192 = .ok (.if_icmp .eq 351, 3) := by decide +kernel
theorem dL_law_195 : decode cL_law 195 = .ok (.iconst 0, 1) := by decide +kernel
theorem dL_law_196 : decode cL_law 196 = .ok (.ireturn, 1) := by decide +kernel
theorem dL_law_197 : decode cL_law 197 = .ok (.aload_n 1, 1) := by decide +kernel
theorem dL_law_198 : decode cL_law 198 = .ok (.aload_n 0, 1) := by decide +kernel
theorem dL_law_199 : decode cL_law 199 = .ok (.iload_n 3, 1) := by decide +kernel
theorem dL_law_200 : decode cL_law 200 = .ok (.iconst 1, 1) := by decide +kernel
theorem dL_law_201 : decode cL_law 201 = .ok (.iadd, 1) := by decide +kernel
theorem dL_law_202 : decode cL_law 202 = .ok (.iaload, 1) := by decide +kernel
theorem dL_law_203 : decode cL_law 203 = .ok (.invokevirtual 27, 3) := by decide +kernel
theorem dL_law_206 : decode cL_law 206 = .ok (.aload_n 2, 1) := by decide +kernel
theorem dL_law_207 : decode cL_law 207 = .ok (.aload_n 0, 1) := by decide +kernel
theorem dL_law_208 : decode cL_law 208 = .ok (.iload_n 3, 1) := by decide +kernel
theorem dL_law_209 : decode cL_law 209 = .ok (.iconst 1, 1) := by decide +kernel
theorem dL_law_210 : decode cL_law 210 = .ok (.iadd, 1) := by decide +kernel
theorem dL_law_211 : decode cL_law 211 = .ok (.iaload, 1) := by decide +kernel
theorem dL_law_212 : decode cL_law 212 = .ok (.invokevirtual 30, 3) := by decide +kernel
theorem dL_law_215 : decode cL_law 215 = .ok (.if_icmp .eq 328, 3) := by decide +kernel
theorem dL_law_218 : decode cL_law 218 = .ok (.iconst 0, 1) := by decide +kernel
theorem dL_law_219 : decode cL_law 219 = .ok (.ireturn, 1) := by decide +kernel
theorem dL_law_220 : decode cL_law 220 = .ok (.aload_n 1, 1) := by decide +kernel
theorem dL_law_221 : decode cL_law 221 = .ok (.aload_n 0, 1) := by decide +kernel
theorem dL_law_222 : decode cL_law 222 = .ok (.iload_n 3, 1) := by decide +kernel
theorem dL_law_223 : decode cL_law 223 = .ok (.iconst 1, 1) := by decide +kernel
theorem dL_law_224 : decode cL_law 224 = .ok (.iadd, 1) := by decide +kernel
theorem dL_law_225 : decode cL_law 225 = .ok (.iaload, 1) := by decide +kernel
theorem dL_law_226 : decode cL_law 226 = .ok (.aload_n 0, 1) := by decide +kernel
theorem dL_law_227 : decode cL_law 227 = .ok (.iload_n 3, 1) := by decide +kernel
theorem dL_law_228 : decode cL_law 228 = .ok (.iconst 2, 1) := by decide +kernel
theorem dL_law_229 : decode cL_law 229 = .ok (.iadd, 1) := by decide +kernel
theorem dL_law_230 : decode cL_law 230 = .ok (.iaload, 1) := by decide +kernel
theorem dL_law_231 : decode cL_law 231 = .ok (.invokevirtual 31, 3) := by decide +kernel
theorem dL_law_234 : decode cL_law 234 = .ok (.aload_n 2, 1) := by decide +kernel
theorem dL_law_235 : decode cL_law 235 = .ok (.aload_n 0, 1) := by decide +kernel
theorem dL_law_236 : decode cL_law 236 = .ok (.iload_n 3, 1) := by decide +kernel
theorem dL_law_237 : decode cL_law 237 = .ok (.iconst 1, 1) := by decide +kernel
theorem dL_law_238 : decode cL_law 238 = .ok (.iadd, 1) := by decide +kernel
theorem dL_law_239 : decode cL_law 239 = .ok (.iaload, 1) := by decide +kernel
theorem dL_law_240 : decode cL_law 240 = .ok (.aload_n 0, 1) := by decide +kernel
theorem dL_law_241 : decode cL_law 241 = .ok (.iload_n 3, 1) := by decide +kernel
theorem dL_law_242 : decode cL_law 242 = .ok (.iconst 2, 1) := by decide +kernel
theorem dL_law_243 : decode cL_law 243 = .ok (.iadd, 1) := by decide +kernel
theorem dL_law_244 : decode cL_law 244 = .ok (.iaload, 1) := by decide +kernel
theorem dL_law_245 : decode cL_law 245 = .ok (.invokevirtual 34, 3) := by decide +kernel
theorem dL_law_248 : decode cL_law 248 = .ok (.if_icmp .eq 295, 3) := by decide +kernel
theorem dL_law_251 : decode cL_law 251 = .ok (.iconst 0, 1) := by decide +kernel
theorem dL_law_252 : decode cL_law 252 = .ok (.ireturn, 1) := by decide +kernel
theorem dL_law_253 : decode cL_law 253 = .ok (.aload_n 1, 1) := by decide +kernel
theorem dL_law_254 : decode cL_law 254 = .ok (.aload_n 0, 1) := by decide +kernel
theorem dL_law_255 : decode cL_law 255 = .ok (.iload_n 3, 1) := by decide +kernel
theorem dL_law_256 : decode cL_law 256 = .ok (.iconst 1, 1) := by decide +kernel
theorem dL_law_257 : decode cL_law 257 = .ok (.iadd, 1) := by decide +kernel
theorem dL_law_258 : decode cL_law 258 = .ok (.iaload, 1) := by decide +kernel
theorem dL_law_259 : decode cL_law 259 = .ok (.aload_n 0, 1) := by decide +kernel
theorem dL_law_260 : decode cL_law 260 = .ok (.iload_n 3, 1) := by decide +kernel
theorem dL_law_261 : decode cL_law 261 = .ok (.iconst 2, 1) := by decide +kernel
theorem dL_law_262 : decode cL_law 262 = .ok (.iadd, 1) := by decide +kernel
theorem dL_law_263 : decode cL_law 263 = .ok (.iaload, 1) := by decide +kernel
theorem dL_law_264 : decode cL_law 264 = .ok (.invokevirtual 35, 3) := by decide +kernel
theorem dL_law_267 : decode cL_law 267 = .ok (.aload_n 2, 1) := by decide +kernel
theorem dL_law_268 : decode cL_law 268 = .ok (.aload_n 0, 1) := by decide +kernel
theorem dL_law_269 : decode cL_law 269 = .ok (.iload_n 3, 1) := by decide +kernel
theorem dL_law_270 : decode cL_law 270 = .ok (.iconst 1, 1) := by decide +kernel
theorem dL_law_271 : decode cL_law 271 = .ok (.iadd, 1) := by decide +kernel
theorem dL_law_272 : decode cL_law 272 = .ok (.iaload, 1) := by decide +kernel
theorem dL_law_273 : decode cL_law 273 = .ok (.aload_n 0, 1) := by decide +kernel
theorem dL_law_274 : decode cL_law 274 = .ok (.iload_n 3, 1) := by decide +kernel
theorem dL_law_275 : decode cL_law 275 = .ok (.iconst 2, 1) := by decide +kernel
theorem dL_law_276 : decode cL_law 276 = .ok (.iadd, 1) := by decide +kernel
theorem dL_law_277 : decode cL_law 277 = .ok (.iaload, 1) := by decide +kernel
theorem dL_law_278 : decode cL_law 278 = .ok (.invokevirtual 38, 3) := by decide +kernel
theorem dL_law_281 : decode cL_law 281 = .ok (.if_icmp .eq 262, 3) := by decide +kernel
theorem dL_law_284 : decode cL_law 284 = .ok (.iconst 0, 1) := by decide +kernel
theorem dL_law_285 : decode cL_law 285 = .ok (.ireturn, 1) := by decide +kernel
theorem dL_law_286 : decode cL_law 286 = .ok (.aload_n 1, 1) := by decide +kernel
theorem dL_law_287 : decode cL_law 287 = .ok (.aload_n 0, 1) := by decide +kernel
theorem dL_law_288 : decode cL_law 288 = .ok (.iload_n 3, 1) := by decide +kernel
theorem dL_law_289 : decode cL_law 289 = .ok (.iconst 1, 1) := by decide +kernel
theorem dL_law_290 : decode cL_law 290 = .ok (.iadd, 1) := by decide +kernel
theorem dL_law_291 : decode cL_law 291 = .ok (.iaload, 1) := by decide +kernel
theorem dL_law_292 : decode cL_law 292 = .ok (.aload_n 0, 1) := by decide +kernel
theorem dL_law_293 : decode cL_law 293 = .ok (.iload_n 3, 1) := by decide +kernel
theorem dL_law_294 : decode cL_law 294 = .ok (.iconst 2, 1) := by decide +kernel
theorem dL_law_295 : decode cL_law 295 = .ok (.iadd, 1) := by decide +kernel
theorem dL_law_296 : decode cL_law 296 = .ok (.iaload, 1) := by decide +kernel
theorem dL_law_297 : decode cL_law 297 = .ok (.invokevirtual 39, 3) := by decide +kernel
theorem dL_law_300 : decode cL_law 300 = .ok (.aload_n 2, 1) := by decide +kernel
theorem dL_law_301 : decode cL_law 301 = .ok (.aload_n 0, 1) := by decide +kernel
theorem dL_law_302 : decode cL_law 302 = .ok (.iload_n 3, 1) := by decide +kernel
theorem dL_law_303 : decode cL_law 303 = .ok (.iconst 1, 1) := by decide +kernel
theorem dL_law_304 : decode cL_law 304 = .ok (.iadd, 1) := by decide +kernel
theorem dL_law_305 : decode cL_law 305 = .ok (.iaload, 1) := by decide +kernel
theorem dL_law_306 : decode cL_law 306 = .ok (.aload_n 0, 1) := by decide +kernel
theorem dL_law_307 : decode cL_law 307 = .ok (.iload_n 3, 1) := by decide +kernel
theorem dL_law_308 : decode cL_law 308 = .ok (.iconst 2, 1) := by decide +kernel
theorem dL_law_309 : decode cL_law 309 = .ok (.iadd, 1) := by decide +kernel
theorem dL_law_310 : decode cL_law 310 = .ok (.iaload, 1) := by decide +kernel
theorem dL_law_311 : decode cL_law 311 = .ok (.invokevirtual 42, 3) := by decide +kernel
theorem dL_law_314 : decode cL_law 314 = .ok (.if_icmp .eq 229, 3) := by decide +kernel
theorem dL_law_317 : decode cL_law 317 = .ok (.iconst 0, 1) := by decide +kernel
theorem dL_law_318 : decode cL_law 318 = .ok (.ireturn, 1) := by decide +kernel
theorem dL_law_319 : decode cL_law 319 = .ok (.aload_n 1, 1) := by decide +kernel
theorem dL_law_320 : decode cL_law 320 = .ok (.aload_n 0, 1) := by decide +kernel
theorem dL_law_321 : decode cL_law 321 = .ok (.iload_n 3, 1) := by decide +kernel
theorem dL_law_322 : decode cL_law 322 = .ok (.iconst 1, 1) := by decide +kernel
theorem dL_law_323 : decode cL_law 323 = .ok (.iadd, 1) := by decide +kernel
theorem dL_law_324 : decode cL_law 324 = .ok (.iaload, 1) := by decide +kernel
theorem dL_law_325 : decode cL_law 325 = .ok (.aload_n 0, 1) := by decide +kernel
theorem dL_law_326 : decode cL_law 326 = .ok (.iload_n 3, 1) := by decide +kernel
theorem dL_law_327 : decode cL_law 327 = .ok (.iconst 2, 1) := by decide +kernel
theorem dL_law_328 : decode cL_law 328 = .ok (.iadd, 1) := by decide +kernel
theorem dL_law_329 : decode cL_law 329 = .ok (.iaload, 1) := by decide +kernel
theorem dL_law_330 : decode cL_law 330 = .ok (.invokevirtual 43, 3) := by decide +kernel
theorem dL_law_333 : decode cL_law 333 = .ok (.aload_n 2, 1) := by decide +kernel
theorem dL_law_334 : decode cL_law 334 = .ok (.aload_n 0, 1) := by decide +kernel
theorem dL_law_335 : decode cL_law 335 = .ok (.iload_n 3, 1) := by decide +kernel
theorem dL_law_336 : decode cL_law 336 = .ok (.iconst 1, 1) := by decide +kernel
theorem dL_law_337 : decode cL_law 337 = .ok (.iadd, 1) := by decide +kernel
theorem dL_law_338 : decode cL_law 338 = .ok (.iaload, 1) := by decide +kernel
theorem dL_law_339 : decode cL_law 339 = .ok (.aload_n 0, 1) := by decide +kernel
theorem dL_law_340 : decode cL_law 340 = .ok (.iload_n 3, 1) := by decide +kernel
theorem dL_law_341 : decode cL_law 341 = .ok (.iconst 2, 1) := by decide +kernel
theorem dL_law_342 : decode cL_law 342 = .ok (.iadd, 1) := by decide +kernel
theorem dL_law_343 : decode cL_law 343 = .ok (.iaload, 1) := by decide +kernel
theorem dL_law_344 : decode cL_law 344 = .ok (.invokevirtual 46, 3) := by decide +kernel
theorem dL_law_347 : decode cL_law 347 = .ok (.if_icmp .eq 196, 3) := by decide +kernel
theorem dL_law_350 : decode cL_law 350 = .ok (.iconst 0, 1) := by decide +kernel
theorem dL_law_351 : decode cL_law 351 = .ok (.ireturn, 1) := by decide +kernel
theorem dL_law_352 : decode cL_law 352 = .ok (.aload_n 1, 1) := by decide +kernel
theorem dL_law_353 : decode cL_law 353 = .ok (.aload_n 0, 1) := by decide +kernel
theorem dL_law_354 : decode cL_law 354 = .ok (.iload_n 3, 1) := by decide +kernel
theorem dL_law_355 : decode cL_law 355 = .ok (.iconst 1, 1) := by decide +kernel
theorem dL_law_356 : decode cL_law 356 = .ok (.iadd, 1) := by decide +kernel
theorem dL_law_357 : decode cL_law 357 = .ok (.iaload, 1) := by decide +kernel
theorem dL_law_358 : decode cL_law 358 = .ok (.aload_n 0, 1) := by decide +kernel
theorem dL_law_359 : decode cL_law 359 = .ok (.iload_n 3, 1) := by decide +kernel
theorem dL_law_360 : decode cL_law 360 = .ok (.iconst 2, 1) := by decide +kernel
theorem dL_law_361 : decode cL_law 361 = .ok (.iadd, 1) := by decide +kernel
theorem dL_law_362 : decode cL_law 362 = .ok (.iaload, 1) := by decide +kernel
theorem dL_law_363 : decode cL_law 363 = .ok (.invokevirtual 47, 3) := by decide +kernel
theorem dL_law_366 : decode cL_law 366 = .ok (.aload_n 2, 1) := by decide +kernel
theorem dL_law_367 : decode cL_law 367 = .ok (.aload_n 0, 1) := by decide +kernel
theorem dL_law_368 : decode cL_law 368 = .ok (.iload_n 3, 1) := by decide +kernel
theorem dL_law_369 : decode cL_law 369 = .ok (.iconst 1, 1) := by decide +kernel
theorem dL_law_370 : decode cL_law 370 = .ok (.iadd, 1) := by decide +kernel
theorem dL_law_371 : decode cL_law 371 = .ok (.iaload, 1) := by decide +kernel
theorem dL_law_372 : decode cL_law 372 = .ok (.aload_n 0, 1) := by decide +kernel
theorem dL_law_373 : decode cL_law 373 = .ok (.iload_n 3, 1) := by decide +kernel
theorem dL_law_374 : decode cL_law 374 = .ok (.iconst 2, 1) := by decide +kernel
theorem dL_law_375 : decode cL_law 375 = .ok (.iadd, 1) := by decide +kernel
theorem dL_law_376 : decode cL_law 376 = .ok (.iaload, 1) := by decide +kernel
theorem dL_law_377 : decode cL_law 377 = .ok (.invokevirtual 50, 3) := by decide +kernel
theorem dL_law_380 : decode cL_law 380 = .ok (.if_icmp .eq 163, 3) := by decide +kernel
theorem dL_law_383 : decode cL_law 383 = .ok (.iconst 0, 1) := by decide +kernel
theorem dL_law_384 : decode cL_law 384 = .ok (.ireturn, 1) := by decide +kernel
theorem dL_law_385 : decode cL_law 385 = .ok (.aload_n 1, 1) := by decide +kernel
theorem dL_law_386 : decode cL_law 386 = .ok (.aload_n 0, 1) := by decide +kernel
theorem dL_law_387 : decode cL_law 387 = .ok (.iload_n 3, 1) := by decide +kernel
theorem dL_law_388 : decode cL_law 388 = .ok (.iconst 1, 1) := by decide +kernel
theorem dL_law_389 : decode cL_law 389 = .ok (.iadd, 1) := by decide +kernel
theorem dL_law_390 : decode cL_law 390 = .ok (.iaload, 1) := by decide +kernel
theorem dL_law_391 : decode cL_law 391 = .ok (.aload_n 0, 1) := by decide +kernel
theorem dL_law_392 : decode cL_law 392 = .ok (.iload_n 3, 1) := by decide +kernel
theorem dL_law_393 : decode cL_law 393 = .ok (.iconst 2, 1) := by decide +kernel
theorem dL_law_394 : decode cL_law 394 = .ok (.iadd, 1) := by decide +kernel
theorem dL_law_395 : decode cL_law 395 = .ok (.iaload, 1) := by decide +kernel
theorem dL_law_396 : decode cL_law 396 = .ok (.aload_n 0, 1) := by decide +kernel
theorem dL_law_397 : decode cL_law 397 = .ok (.iload_n 3, 1) := by decide +kernel
theorem dL_law_398 : decode cL_law 398 = .ok (.iconst 3, 1) := by decide +kernel
theorem dL_law_399 : decode cL_law 399 = .ok (.iadd, 1) := by decide +kernel
theorem dL_law_400 : decode cL_law 400 = .ok (.iaload, 1) := by decide +kernel
theorem dL_law_401 : decode cL_law 401 = .ok (.aload_n 0, 1) := by decide +kernel
theorem dL_law_402 : decode cL_law 402 = .ok (.iload_n 3, 1) := by decide +kernel
theorem dL_law_403 : decode cL_law 403 = .ok (.iconst 4, 1) := by decide +kernel
theorem dL_law_404 : decode cL_law 404 = .ok (.iadd, 1) := by decide +kernel
theorem dL_law_405 : decode cL_law 405 = .ok (.iaload, 1) := by decide +kernel
theorem dL_law_406 : decode cL_law 406 = .ok (.invokevirtual 51, 3) := by decide +kernel
theorem dL_law_409 : decode cL_law 409 = .ok (.aload_n 2, 1) := by decide +kernel
theorem dL_law_410 : decode cL_law 410 = .ok (.aload_n 0, 1) := by decide +kernel
theorem dL_law_411 : decode cL_law 411 = .ok (.iload_n 3, 1) := by decide +kernel
theorem dL_law_412 : decode cL_law 412 = .ok (.iconst 1, 1) := by decide +kernel
theorem dL_law_413 : decode cL_law 413 = .ok (.iadd, 1) := by decide +kernel
theorem dL_law_414 : decode cL_law 414 = .ok (.iaload, 1) := by decide +kernel
theorem dL_law_415 : decode cL_law 415 = .ok (.aload_n 0, 1) := by decide +kernel
theorem dL_law_416 : decode cL_law 416 = .ok (.iload_n 3, 1) := by decide +kernel
theorem dL_law_417 : decode cL_law 417 = .ok (.iconst 2, 1) := by decide +kernel
theorem dL_law_418 : decode cL_law 418 = .ok (.iadd, 1) := by decide +kernel
theorem dL_law_419 : decode cL_law 419 = .ok (.iaload, 1) := by decide +kernel
theorem dL_law_420 : decode cL_law 420 = .ok (.aload_n 0, 1) := by decide +kernel
theorem dL_law_421 : decode cL_law 421 = .ok (.iload_n 3, 1) := by decide +kernel
theorem dL_law_422 : decode cL_law 422 = .ok (.iconst 3, 1) := by decide +kernel
theorem dL_law_423 : decode cL_law 423 = .ok (.iadd, 1) := by decide +kernel
theorem dL_law_424 : decode cL_law 424 = .ok (.iaload, 1) := by decide +kernel
theorem dL_law_425 : decode cL_law 425 = .ok (.aload_n 0, 1) := by decide +kernel
theorem dL_law_426 : decode cL_law 426 = .ok (.iload_n 3, 1) := by decide +kernel
theorem dL_law_427 : decode cL_law 427 = .ok (.iconst 4, 1) := by decide +kernel
theorem dL_law_428 : decode cL_law 428 = .ok (.iadd, 1) := by decide +kernel
theorem dL_law_429 : decode cL_law 429 = .ok (.iaload, 1) := by decide +kernel
theorem dL_law_430 : decode cL_law 430 = .ok (.invokevirtual 55, 3) := by decide +kernel
theorem dL_law_433 : decode cL_law 433 = .ok (.if_icmp .eq 110, 3) := by decide +kernel
theorem dL_law_436 : decode cL_law 436 = .ok (.iconst 0, 1) := by decide +kernel
theorem dL_law_437 : decode cL_law 437 = .ok (.ireturn, 1) := by decide +kernel
theorem dL_law_438 : decode cL_law 438 = .ok (.aload_n 1, 1) := by decide +kernel
theorem dL_law_439 : decode cL_law 439 = .ok (.aload_n 0, 1) := by decide +kernel
theorem dL_law_440 : decode cL_law 440 = .ok (.iload_n 3, 1) := by decide +kernel
theorem dL_law_441 : decode cL_law 441 = .ok (.iconst 1, 1) := by decide +kernel
theorem dL_law_442 : decode cL_law 442 = .ok (.iadd, 1) := by decide +kernel
theorem dL_law_443 : decode cL_law 443 = .ok (.iaload, 1) := by decide +kernel
theorem dL_law_444 : decode cL_law 444 = .ok (.aload_n 0, 1) := by decide +kernel
theorem dL_law_445 : decode cL_law 445 = .ok (.iload_n 3, 1) := by decide +kernel
theorem dL_law_446 : decode cL_law 446 = .ok (.iconst 2, 1) := by decide +kernel
theorem dL_law_447 : decode cL_law 447 = .ok (.iadd, 1) := by decide +kernel
theorem dL_law_448 : decode cL_law 448 = .ok (.iaload, 1) := by decide +kernel
theorem dL_law_449 : decode cL_law 449 = .ok (.invokevirtual 56, 3) := by decide +kernel
theorem dL_law_452 : decode cL_law 452 = .ok (.aload_n 2, 1) := by decide +kernel
theorem dL_law_453 : decode cL_law 453 = .ok (.aload_n 0, 1) := by decide +kernel
theorem dL_law_454 : decode cL_law 454 = .ok (.iload_n 3, 1) := by decide +kernel
theorem dL_law_455 : decode cL_law 455 = .ok (.iconst 1, 1) := by decide +kernel
theorem dL_law_456 : decode cL_law 456 = .ok (.iadd, 1) := by decide +kernel
theorem dL_law_457 : decode cL_law 457 = .ok (.iaload, 1) := by decide +kernel
theorem dL_law_458 : decode cL_law 458 = .ok (.aload_n 0, 1) := by decide +kernel
theorem dL_law_459 : decode cL_law 459 = .ok (.iload_n 3, 1) := by decide +kernel
theorem dL_law_460 : decode cL_law 460 = .ok (.iconst 2, 1) := by decide +kernel
theorem dL_law_461 : decode cL_law 461 = .ok (.iadd, 1) := by decide +kernel
theorem dL_law_462 : decode cL_law 462 = .ok (.iaload, 1) := by decide +kernel
theorem dL_law_463 : decode cL_law 463 = .ok (.invokevirtual 59, 3) := by decide +kernel
theorem dL_law_466 : decode cL_law 466 = .ok (.if_icmp .eq 77, 3) := by decide +kernel
theorem dL_law_469 : decode cL_law 469 = .ok (.iconst 0, 1) := by decide +kernel
theorem dL_law_470 : decode cL_law 470 = .ok (.ireturn, 1) := by decide +kernel
theorem dL_law_471 : decode cL_law 471 = .ok (.aload_n 1, 1) := by decide +kernel
theorem dL_law_472 : decode cL_law 472 = .ok (.invokevirtual 60, 3) := by decide +kernel
theorem dL_law_475 : decode cL_law 475 = .ok (.aload_n 2, 1) := by decide +kernel
theorem dL_law_476 : decode cL_law 476 = .ok (.invokevirtual 64, 3) := by decide +kernel
theorem dL_law_479 : decode cL_law 479 = .ok (.if_icmp .eq 64, 3) := by decide +kernel
theorem dL_law_482 : decode cL_law 482 = .ok (.iconst 0, 1) := by decide +kernel
theorem dL_law_483 : decode cL_law 483 = .ok (.ireturn, 1) := by decide +kernel
theorem dL_law_484 : decode cL_law 484 = .ok (.aload_n 1, 1) := by decide +kernel
theorem dL_law_485 : decode cL_law 485 = .ok (.invokevirtual 65, 3) := by decide +kernel
theorem dL_law_488 : decode cL_law 488 = .ok (.aload_n 2, 1) := by decide +kernel
theorem dL_law_489 : decode cL_law 489 = .ok (.invokevirtual 68, 3) := by decide +kernel
theorem dL_law_492 : decode cL_law 492 = .ok (.if_icmp .eq 51, 3) := by decide +kernel
theorem dL_law_495 : decode cL_law 495 = .ok (.iconst 0, 1) := by decide +kernel
theorem dL_law_496 : decode cL_law 496 = .ok (.ireturn, 1) := by decide +kernel
theorem dL_law_497 : decode cL_law 497 = .ok (.aload_n 1, 1) := by decide +kernel
theorem dL_law_498 : decode cL_law 498 = .ok (.aload_n 0, 1) := by decide +kernel
theorem dL_law_499 : decode cL_law 499 = .ok (.iload_n 3, 1) := by decide +kernel
theorem dL_law_500 : decode cL_law 500 = .ok (.iconst 1, 1) := by decide +kernel
theorem dL_law_501 : decode cL_law 501 = .ok (.iadd, 1) := by decide +kernel
theorem dL_law_502 : decode cL_law 502 = .ok (.iaload, 1) := by decide +kernel
theorem dL_law_503 : decode cL_law 503 = .ok (.invokevirtual 69, 3) := by decide +kernel
theorem dL_law_506 : decode cL_law 506 = .ok (.aload_n 2, 1) := by decide +kernel
theorem dL_law_507 : decode cL_law 507 = .ok (.aload_n 0, 1) := by decide +kernel
theorem dL_law_508 : decode cL_law 508 = .ok (.iload_n 3, 1) := by decide +kernel
theorem dL_law_509 : decode cL_law 509 = .ok (.iconst 1, 1) := by decide +kernel
theorem dL_law_510 : decode cL_law 510 = .ok (.iadd, 1) := by decide +kernel
theorem dL_law_511 : decode cL_law 511 = .ok (.iaload, 1) := by decide +kernel
theorem dL_law_512 : decode cL_law 512 = .ok (.invokevirtual 72, 3) := by decide +kernel
theorem dL_law_515 : decode cL_law 515 = .ok (.if_icmp .eq 28, 3) := by decide +kernel
theorem dL_law_518 : decode cL_law 518 = .ok (.iconst 0, 1) := by decide +kernel
theorem dL_law_519 : decode cL_law 519 = .ok (.ireturn, 1) := by decide +kernel
theorem dL_law_520 : decode cL_law 520 = .ok (.aload_n 1, 1) := by decide +kernel
theorem dL_law_521 : decode cL_law 521 = .ok (.aload_n 0, 1) := by decide +kernel
theorem dL_law_522 : decode cL_law 522 = .ok (.iload_n 3, 1) := by decide +kernel
theorem dL_law_523 : decode cL_law 523 = .ok (.iconst 1, 1) := by decide +kernel
theorem dL_law_524 : decode cL_law 524 = .ok (.iadd, 1) := by decide +kernel
theorem dL_law_525 : decode cL_law 525 = .ok (.iaload, 1) := by decide +kernel
theorem dL_law_526 : decode cL_law 526 = .ok (.invokevirtual 73, 3) := by decide +kernel
theorem dL_law_529 : decode cL_law 529 = .ok (.aload_n 2, 1) := by decide +kernel
theorem dL_law_530 : decode cL_law 530 = .ok (.aload_n 0, 1) := by decide +kernel
theorem dL_law_531 : decode cL_law 531 = .ok (.iload_n 3, 1) := by decide +kernel
theorem dL_law_532 : decode cL_law 532 = .ok (.iconst 1, 1) := by decide +kernel
theorem dL_law_533 : decode cL_law 533 = .ok (.iadd, 1) := by decide +kernel
theorem dL_law_534 : decode cL_law 534 = .ok (.iaload, 1) := by decide +kernel
theorem dL_law_535 : decode cL_law 535 = .ok (.invokevirtual 76, 3) := by decide +kernel
theorem dL_law_538 : decode cL_law 538 = .ok (.if_icmp .eq 5, 3) := by decide +kernel
theorem dL_law_541 : decode cL_law 541 = .ok (.iconst 0, 1) := by decide +kernel
theorem dL_law_542 : decode cL_law 542 = .ok (.ireturn, 1) := by decide +kernel
theorem dL_law_543 : decode cL_law 543 = .ok (.iinc 3 5, 3) := by decide +kernel
theorem dL_law_546 : decode cL_law 546 = .ok (.goto (-528), 3) := by decide +kernel
theorem dL_law_549 : decode cL_law 549 = .ok (.iconst 1, 1) := by decide +kernel
theorem dL_law_550 : decode cL_law 550 = .ok (.ireturn, 1) := by decide +kernel
end
section
def TG : List Cond := lw_tbl.filter goodWord
theorem tg_of {w : Cond} (h : w ∈ lw_tbl) (g : goodWord w = true) : w ∈ TG := List.mem_filter.mpr ⟨h, g⟩
theorem tg_in {w : Cond} (h : w ∈ TG) : w ∈ lw_tbl := (List.mem_filter.mp h).1
theorem tg_good {w : Cond} (h : w ∈ TG) : goodWord w = true := (List.mem_filter.mp h).2
theorem tg_1 {w : Cond} {i : Nat} (h : tables_1_1[i]? = some w) (g : goodWord w = true) : w ∈ TG := tg_of (List.mem_append_right _ (List.mem_append_left _ (List.mem_of_getElem? h))) g
theorem tg_2 {w : Cond} {i : Nat} (h : tables_1_2[i]? = some w) (g : goodWord w = true) : w ∈ TG := tg_of (List.mem_append_right _ (List.mem_append_right _ (List.mem_append_left _ (List.mem_of_getElem? h)))) g
theorem tg_3 {w : Cond} {i : Nat} (h : tables_1_3[i]? = some w) (g : goodWord w = true) : w ∈ TG := tg_of (List.mem_append_right _ (List.mem_append_right _ (List.mem_append_right _ (List.mem_append_left _ (List.mem_of_getElem? h))))) g
theorem tg_4 {w : Cond} {i : Nat} (h : tables_1_4[i]? = some w) (g : goodWord w = true) : w ∈ TG := tg_of (List.mem_append_right _ (List.mem_append_right _ (List.mem_append_right _ (List.mem_append_right _ (List.mem_of_getElem? h))))) g
theorem tg_p {w : Cond} {i : Nat} (h : (k2_sels lw_privs)[i]? = some w) (g : goodWord w = true) : w ∈ TG := tg_of (List.mem_append_left _ (List.mem_of_getElem? h)) g
theorem tg_c {y : MethodName} {c : ByteArray} {n : Nat} {r : Option FieldType} : GoodIn (Cond.code y c n r :: TG) TG := fun w h => ⟨List.mem_cons_of_mem _ h, good_of_word (tg_good h)⟩
theorem tg_cc {y y2 : MethodName} {c c2 : ByteArray} {n n2 : Nat} {r r2 : Option FieldType} (h2 : Cond.code y2 c2 n2 r2 ∈ TG) : GoodIn (Cond.code y c n r :: TG) (Cond.code y2 c2 n2 r2 :: TG) := fun w h => by
  rcases List.mem_cons.mp h with rfl | h
  · exact tg_c _ h2
  · exact tg_c _ h
theorem ws_X4_wantedByAsking : Cond.selects RX4 yX4_wantedByAsking yX4_wantedByAsking ∈ TG := tg_p (i := 0) rfl rfl
theorem ws_X4_wantedByToken : Cond.selects RX4 yX4_wantedByToken yX4_wantedByToken ∈ TG := tg_p (i := 1) rfl rfl
theorem ws_X4_enter : Cond.selects RX4 yX4_enter yX4_enter ∈ TG := tg_p (i := 2) rfl rfl
theorem ws_X4_queue : Cond.selects RX4 yX4_queue yX4_queue ∈ TG := tg_p (i := 3) rfl rfl
theorem ws_X4_followRules : Cond.selects RX4 yX4_followRules yX4_followRules ∈ TG := tg_p (i := 4) rfl rfl
theorem ws_X5_settled : Cond.selects RX5 yX5_settled yX5_settled ∈ TG := tg_p (i := 5) rfl rfl
theorem ws_X4_leftByAsking : Cond.selects RX4 yX4_leftByAsking yX4_leftByAsking ∈ TG := tg_p (i := 6) rfl rfl
theorem ws_X4_leftByToken : Cond.selects RX4 yX4_leftByToken yX4_leftByToken ∈ TG := tg_p (i := 7) rfl rfl
theorem ws_X4_isDue : Cond.selects RX4 yX4_isDue yX4_isDue ∈ TG := tg_p (i := 8) rfl rfl
theorem ws_X4_passToken : Cond.selects RX4 yX4_passToken yX4_passToken ∈ TG := tg_p (i := 9) rfl rfl
theorem ws_X5_bring : Cond.selects RX5 yX5_bring yX5_bring ∈ TG := tg_p (i := 10) rfl rfl
theorem ws_X4_askedByAsking : Cond.selects RX4 yX4_askedByAsking yX4_askedByAsking ∈ TG := tg_p (i := 11) rfl rfl
theorem ws_X4_goesBefore : Cond.selects RX4 yX4_goesBefore yX4_goesBefore ∈ TG := tg_p (i := 12) rfl rfl
theorem ws_X4_given : Cond.selects RX4 yX4_given yX4_given ∈ TG := tg_p (i := 13) rfl rfl
theorem ws_X4_askedByToken : Cond.selects RX4 yX4_askedByToken yX4_askedByToken ∈ TG := tg_p (i := 14) rfl rfl
theorem ws_X5_timeOf : Cond.selects RX5 yX5_timeOf yX5_timeOf ∈ TG := tg_p (i := 15) rfl rfl
theorem ws_X2_keep : Cond.selects RX2 yX2_keep yX2_keep ∈ TG := tg_p (i := 16) rfl rfl
theorem ws_X2_hash : Cond.selects RX2 yX2_hash yX2_hash ∈ TG := tg_p (i := 17) rfl rfl
theorem ws_X2_mixed : Cond.selects RX2 yX2_mixed yX2_mixed ∈ TG := tg_p (i := 18) rfl rfl
theorem ws_X2_isState : Cond.selects RX2 yX2_isState yX2_isState ∈ TG := tg_p (i := 19) rfl rfl
theorem ws_X2_isLike : Cond.selects RX2 yX2_isLike yX2_isLike ∈ TG := tg_p (i := 20) rfl rfl
theorem ws_X2_goFrom : Cond.selects RX2 yX2_goFrom yX2_goFrom ∈ TG := tg_p (i := 21) rfl rfl
theorem ws_X2_load : Cond.selects RX2 yX2_load yX2_load ∈ TG := tg_p (i := 22) rfl rfl
theorem ws_X2_tally : Cond.selects RX2 yX2_tally yX2_tally ∈ TG := tg_p (i := 23) rfl rfl
theorem ws_X3_tokenBetween : Cond.selects RX3 yX3_tokenBetween yX3_tokenBetween ∈ TG := tg_p (i := 24) rfl rfl
theorem ws_X2_weigh : Cond.selects RX2 yX2_weigh yX2_weigh ∈ TG := tg_p (i := 25) rfl rfl
theorem ws_X6_clear : Cond.selects RX6 yX6_clear yX6_clear ∈ TG := tg_p (i := 26) rfl rfl
theorem ws_X6_layHolders : Cond.selects RX6 yX6_layHolders yX6_layHolders ∈ TG := tg_p (i := 27) rfl rfl
theorem ws_X6_isKeeper : Cond.selects RX6 yX6_isKeeper yX6_isKeeper ∈ TG := tg_p (i := 28) rfl rfl
theorem ws_X6_store : Cond.selects RX6 yX6_store yX6_store ∈ TG := tg_p (i := 29) rfl rfl
theorem ws_X6_wants : Cond.selects RX6 yX6_wants yX6_wants ∈ TG := tg_p (i := 30) rfl rfl
theorem ws_X6_askAll : Cond.selects RX6 yX6_askAll yX6_askAll ∈ TG := tg_p (i := 31) rfl rfl
theorem ws_X6_send : Cond.selects RX6 yX6_send yX6_send ∈ TG := tg_p (i := 32) rfl rfl
theorem ws_X6_pairAt : Cond.selects RX6 yX6_pairAt yX6_pairAt ∈ TG := tg_p (i := 33) rfl rfl
theorem ws_X6_comesIn : Cond.selects RX6 yX6_comesIn yX6_comesIn ∈ TG := tg_p (i := 34) rfl rfl
theorem ws_X6_sent : Cond.selects RX6 yX6_sent yX6_sent ∈ TG := tg_p (i := 35) rfl rfl
theorem ws_X6_queue : Cond.selects RX6 yX6_queue yX6_queue ∈ TG := tg_p (i := 36) rfl rfl
theorem ws_X6_rules : Cond.selects RX6 yX6_rules yX6_rules ∈ TG := tg_p (i := 37) rfl rfl
theorem ws_X6_stands : Cond.selects RX6 yX6_stands yX6_stands ∈ TG := tg_p (i := 38) rfl rfl
theorem ws_X6_leaves : Cond.selects RX6 yX6_leaves yX6_leaves ∈ TG := tg_p (i := 39) rfl rfl
theorem ws_X6_isRowed : Cond.selects RX6 yX6_isRowed yX6_isRowed ∈ TG := tg_p (i := 40) rfl rfl
theorem ws_X6_passToken : Cond.selects RX6 yX6_passToken yX6_passToken ∈ TG := tg_p (i := 41) rfl rfl
theorem ws_X6_comes : Cond.selects RX6 yX6_comes yX6_comes ∈ TG := tg_p (i := 42) rfl rfl
theorem ws_X6_dropEldest : Cond.selects RX6 yX6_dropEldest yX6_dropEldest ∈ TG := tg_p (i := 43) rfl rfl
theorem ws_X6_askedComes : Cond.selects RX6 yX6_askedComes yX6_askedComes ∈ TG := tg_p (i := 44) rfl rfl
theorem ws_X6_pairOf : Cond.selects RX6 yX6_pairOf yX6_pairOf ∈ TG := tg_p (i := 45) rfl rfl
theorem ws_X6_hasToken : Cond.selects RX6 yX6_hasToken yX6_hasToken ∈ TG := tg_p (i := 46) rfl rfl
theorem ws_X6_meets : Cond.selects RX6 yX6_meets yX6_meets ∈ TG := tg_p (i := 47) rfl rfl
theorem ws_X6_slotOf : Cond.selects RX6 yX6_slotOf yX6_slotOf ∈ TG := tg_p (i := 48) rfl rfl
theorem ws_X6_isState : Cond.selects RX6 yX6_isState yX6_isState ∈ TG := tg_p (i := 49) rfl rfl
theorem ws_X6_visit : Cond.selects RX6 yX6_visit yX6_visit ∈ TG := tg_p (i := 50) rfl rfl
theorem ws_X6_load : Cond.selects RX6 yX6_load yX6_load ∈ TG := tg_p (i := 51) rfl rfl
theorem ws_X6_ofMode : Cond.selects RX6 yX6_ofMode yX6_ofMode ∈ TG := tg_p (i := 52) rfl rfl
theorem ws_X6_underWay : Cond.selects RX6 yX6_underWay yX6_underWay ∈ TG := tg_p (i := 53) rfl rfl
theorem ws_X6_isTokenSomewhere : Cond.selects RX6 yX6_isTokenSomewhere yX6_isTokenSomewhere ∈ TG := tg_p (i := 54) rfl rfl
theorem ws_X6_goes : Cond.selects RX6 yX6_goes yX6_goes ∈ TG := tg_p (i := 55) rfl rfl
theorem wz_L : Cond.initialized RL ∈ TG := tg_1 (i := 0) rfl rfl
theorem wz_X5 : Cond.initialized RX5 ∈ TG := tg_1 (i := 1) rfl rfl
theorem wz_X3 : Cond.initialized RX3 ∈ TG := tg_1 (i := 2) rfl rfl
theorem wz_X0 : Cond.initialized RX0 ∈ TG := tg_1 (i := 3) rfl rfl
theorem wz_X4 : Cond.initialized RX4 ∈ TG := tg_1 (i := 4) rfl rfl
theorem wz_X1 : Cond.initialized RX1 ∈ TG := tg_1 (i := 5) rfl rfl
theorem wz_X2 : Cond.initialized RX2 ∈ TG := tg_1 (i := 6) rfl rfl
theorem wz_J7 : Cond.initialized RJ7 ∈ TG := tg_1 (i := 7) rfl rfl
theorem wz_X6 : Cond.initialized RX6 ∈ TG := tg_1 (i := 8) rfl rfl
theorem wz_System : Cond.initialized "java/lang/System" ∈ TG := tg_1 (i := 9) rfl rfl
theorem wz_Math : Cond.initialized "java/lang/Math" ∈ TG := tg_1 (i := 10) rfl rfl
theorem wz_J6 : Cond.initialized RJ6 ∈ TG := tg_1 (i := 11) rfl rfl
theorem wg_L_7 : Cond.classLink RL 7 RX5 ∈ TG := tg_1 (i := 12) rfl rfl
theorem wa_X5 : Cond.instantiable RX5 8 ∈ TG := tg_1 (i := 13) rfl rfl
theorem wl_L_9 : Cond.methodLink RL 9 yX5_init ∈ TG := tg_1 (i := 14) rfl rfl
theorem wi_X5_init : Cond.instanceMethod yX5_init ∈ TG := tg_1 (i := 15) rfl rfl
theorem wc_X5_init : Cond.code yX5_init cX5_init 1 none ∈ TG := tg_1 (i := 16) rfl rfl
theorem wl_X5_1 : Cond.methodLink RX5 1 objectInit ∈ TG := tg_1 (i := 17) rfl rfl
theorem wi_objectInit : Cond.instanceMethod objectInit ∈ TG := tg_1 (i := 18) rfl rfl
theorem wc_objectInit : Cond.code objectInit ⟨#[0xb1]⟩ 1 none ∈ TG := tg_1 (i := 19) rfl rfl
theorem wg_X5_7 : Cond.classLink RX5 7 RX3 ∈ TG := tg_1 (i := 20) rfl rfl
theorem wa_X3 : Cond.instantiable RX3 4 ∈ TG := tg_1 (i := 21) rfl rfl
theorem wl_X5_9 : Cond.methodLink RX5 9 yX3_init ∈ TG := tg_1 (i := 22) rfl rfl
theorem wi_X3_init : Cond.instanceMethod yX3_init ∈ TG := tg_1 (i := 23) rfl rfl
theorem wc_X3_init : Cond.code yX3_init cX3_init 1 none ∈ TG := tg_1 (i := 24) rfl rfl
theorem wl_X3_5 : Cond.methodLink RX3 5 objectInit ∈ TG := tg_1 (i := 25) rfl rfl
theorem wf_X3_11 : Cond.fieldLink RX3 11 "KeyKeepers$Stand" "row" "[I" ∈ TG := tg_1 (i := 26) rfl rfl
theorem wf_X2_140 : Cond.fieldLink RX2 140 "KeyKeepers$Stand" "row" "[I" ∈ TG := tg_1 (i := 27) rfl rfl
theorem wf_X4_40 : Cond.fieldLink RX4 40 "KeyKeepers$Stand" "way" "I" ∈ TG := tg_1 (i := 28) rfl rfl
theorem wf_X5_71 : Cond.fieldLink RX5 71 "KeyKeepers$Stand" "way" "I" ∈ TG := tg_1 (i := 29) rfl rfl
theorem wf_X3_15 : Cond.fieldLink RX3 15 "KeyKeepers$Stand" "way" "I" ∈ TG := tg_1 (i := 30) rfl rfl
theorem wf_X5_68 : Cond.fieldLink RX5 68 "KeyKeepers$Stand" "n" "I" ∈ TG := tg_1 (i := 31) rfl rfl
theorem wf_X2_84 : Cond.fieldLink RX2 84 "KeyKeepers$Stand" "n" "I" ∈ TG := tg_1 (i := 32) rfl rfl
theorem wf_X3_19 : Cond.fieldLink RX3 19 "KeyKeepers$Stand" "n" "I" ∈ TG := tg_1 (i := 33) rfl rfl
theorem wf_X4_88 : Cond.fieldLink RX4 88 "KeyKeepers$Stand" "n" "I" ∈ TG := tg_1 (i := 34) rfl rfl
theorem wf_X4_23 : Cond.fieldLink RX4 23 "KeyKeepers$Stand" "tooMany" "Z" ∈ TG := tg_1 (i := 35) rfl rfl
theorem wf_X2_117 : Cond.fieldLink RX2 117 "KeyKeepers$Stand" "tooMany" "Z" ∈ TG := tg_1 (i := 36) rfl rfl
theorem wf_X5_182 : Cond.fieldLink RX5 182 "KeyKeepers$Stand" "tooMany" "Z" ∈ TG := tg_1 (i := 37) rfl rfl
theorem wf_X3_52 : Cond.fieldLink RX3 52 "KeyKeepers$Stand" "tooMany" "Z" ∈ TG := tg_1 (i := 38) rfl rfl
theorem wy_X3_row : Cond.laysFinal RX3 "KeyKeepers$Stand" "row" "[I" ∈ TG := tg_1 (i := 39) rfl rfl
theorem wy_X3_way : Cond.lays RX3 "KeyKeepers$Stand" "way" "I" ∈ TG := tg_1 (i := 41) rfl rfl
theorem wy_X3_n : Cond.lays RX3 "KeyKeepers$Stand" "n" "I" ∈ TG := tg_1 (i := 43) rfl rfl
theorem wy_X3_tooMany : Cond.lays RX3 "KeyKeepers$Stand" "tooMany" "Z" ∈ TG := tg_1 (i := 45) rfl rfl
theorem w_arrayClass : Cond.arrayClass .int ∈ TG := tg_1 (i := 48) rfl rfl
theorem wg_X5_16 : Cond.classLink RX5 16 RX0 ∈ TG := tg_1 (i := 49) rfl rfl
theorem wa_X0 : Cond.instantiable RX0 1 ∈ TG := tg_1 (i := 50) rfl rfl
theorem wl_X5_18 : Cond.methodLink RX5 18 yX0_init ∈ TG := tg_1 (i := 51) rfl rfl
theorem wi_X0_init : Cond.instanceMethod yX0_init ∈ TG := tg_1 (i := 52) rfl rfl
theorem wc_X0_init : Cond.code yX0_init cX0_init 1 none ∈ TG := tg_1 (i := 53) rfl rfl
theorem wl_X0_5 : Cond.methodLink RX0 5 objectInit ∈ TG := tg_1 (i := 54) rfl rfl
theorem wf_X0_11 : Cond.fieldLink RX0 11 "KeyKeepers$Book" "lines" "[I" ∈ TG := tg_1 (i := 55) rfl rfl
theorem wy_X0_lines : Cond.laysFinal RX0 "KeyKeepers$Book" "lines" "[I" ∈ TG := tg_1 (i := 56) rfl rfl
theorem wg_X5_23 : Cond.classLink RX5 23 RX4 ∈ TG := tg_1 (i := 59) rfl rfl
theorem wa_X4 : Cond.instantiable RX4 3 ∈ TG := tg_1 (i := 60) rfl rfl
theorem wl_X5_25 : Cond.methodLink RX5 25 yX4_init ∈ TG := tg_1 (i := 61) rfl rfl
theorem wi_X4_init : Cond.instanceMethod yX4_init ∈ TG := tg_1 (i := 62) rfl rfl
theorem wc_X4_init : Cond.code yX4_init cX4_init 3 none ∈ TG := tg_1 (i := 63) rfl rfl
theorem wl_X4_3 : Cond.methodLink RX4 3 objectInit ∈ TG := tg_1 (i := 64) rfl rfl
theorem wf_X4_9 : Cond.fieldLink RX4 9 "KeyKeepers$Ways" "stand" "LKeyKeepers$Stand;" ∈ TG := tg_1 (i := 65) rfl rfl
theorem wf_X4_15 : Cond.fieldLink RX4 15 "KeyKeepers$Ways" "book" "LKeyKeepers$Book;" ∈ TG := tg_1 (i := 66) rfl rfl
theorem wf_X4_19 : Cond.fieldLink RX4 19 "KeyKeepers$Ways" "writing" "Z" ∈ TG := tg_1 (i := 67) rfl rfl
theorem wf_X2_56 : Cond.fieldLink RX2 56 "KeyKeepers$Ways" "writing" "Z" ∈ TG := tg_1 (i := 68) rfl rfl
theorem wy_X4_stand : Cond.laysFinal RX4 "KeyKeepers$Ways" "stand" "LKeyKeepers$Stand;" ∈ TG := tg_1 (i := 69) rfl rfl
theorem wy_X4_book : Cond.laysFinal RX4 "KeyKeepers$Ways" "book" "LKeyKeepers$Book;" ∈ TG := tg_1 (i := 71) rfl rfl
theorem wy_X4_writing : Cond.lays RX4 "KeyKeepers$Ways" "writing" "Z" ∈ TG := tg_1 (i := 73) rfl rfl
theorem wg_X5_32 : Cond.classLink RX5 32 RX1 ∈ TG := tg_1 (i := 76) rfl rfl
theorem wa_X1 : Cond.instantiable RX1 4 ∈ TG := tg_1 (i := 77) rfl rfl
theorem wl_X5_34 : Cond.methodLink RX5 34 yX1_init ∈ TG := tg_1 (i := 78) rfl rfl
theorem wi_X1_init : Cond.instanceMethod yX1_init ∈ TG := tg_1 (i := 79) rfl rfl
theorem wc_X1_init : Cond.code yX1_init cX1_init 2 none ∈ TG := tg_1 (i := 80) rfl rfl
theorem wl_X1_3 : Cond.methodLink RX1 3 objectInit ∈ TG := tg_1 (i := 81) rfl rfl
theorem wf_X1_9 : Cond.fieldLink RX1 9 "KeyKeepers$Past" "stand" "LKeyKeepers$Stand;" ∈ TG := tg_1 (i := 82) rfl rfl
theorem wf_X1_15 : Cond.fieldLink RX1 15 "KeyKeepers$Past" "rows" "[I" ∈ TG := tg_1 (i := 83) rfl rfl
theorem wf_X1_23 : Cond.fieldLink RX1 23 "KeyKeepers$Past" "place" "I" ∈ TG := tg_1 (i := 84) rfl rfl
theorem wf_X1_19 : Cond.fieldLink RX1 19 "KeyKeepers$Past" "kept" "I" ∈ TG := tg_1 (i := 85) rfl rfl
theorem wf_X5_176 : Cond.fieldLink RX5 176 "KeyKeepers$Past" "kept" "I" ∈ TG := tg_1 (i := 86) rfl rfl
theorem wy_X1_stand : Cond.laysFinal RX1 "KeyKeepers$Past" "stand" "LKeyKeepers$Stand;" ∈ TG := tg_1 (i := 87) rfl rfl
theorem wy_X1_rows : Cond.laysFinal RX1 "KeyKeepers$Past" "rows" "[I" ∈ TG := tg_1 (i := 89) rfl rfl
theorem wy_X1_place : Cond.lays RX1 "KeyKeepers$Past" "place" "I" ∈ TG := tg_1 (i := 91) rfl rfl
theorem wy_X1_kept : Cond.lays RX1 "KeyKeepers$Past" "kept" "I" ∈ TG := tg_1 (i := 93) rfl rfl
theorem wg_X5_41 : Cond.classLink RX5 41 RX2 ∈ TG := tg_1 (i := 96) rfl rfl
theorem wa_X2 : Cond.instantiable RX2 10 ∈ TG := tg_1 (i := 97) rfl rfl
theorem wl_X5_43 : Cond.methodLink RX5 43 yX2_init ∈ TG := tg_1 (i := 98) rfl rfl
theorem wi_X2_init : Cond.instanceMethod yX2_init ∈ TG := tg_1 (i := 99) rfl rfl
theorem wc_X2_init : Cond.code yX2_init cX2_init 3 none ∈ TG := tg_1 (i := 100) rfl rfl
theorem wl_X2_3 : Cond.methodLink RX2 3 objectInit ∈ TG := tg_1 (i := 101) rfl rfl
theorem wk_X2_21 : Cond.constant RX2 21 182400 ∈ TG := tg_1 (i := 102) rfl rfl
theorem wf_X2_9 : Cond.fieldLink RX2 9 "KeyKeepers$Search" "stand" "LKeyKeepers$Stand;" ∈ TG := tg_1 (i := 103) rfl rfl
theorem wf_X2_15 : Cond.fieldLink RX2 15 "KeyKeepers$Search" "ways" "LKeyKeepers$Ways;" ∈ TG := tg_1 (i := 104) rfl rfl
theorem wf_X2_22 : Cond.fieldLink RX2 22 "KeyKeepers$Search" "states" "[I" ∈ TG := tg_1 (i := 105) rfl rfl
theorem wf_X2_26 : Cond.fieldLink RX2 26 "KeyKeepers$Search" "hashes" "[I" ∈ TG := tg_1 (i := 106) rfl rfl
theorem wf_X2_29 : Cond.fieldLink RX2 29 "KeyKeepers$Search" "table" "[I" ∈ TG := tg_1 (i := 107) rfl rfl
theorem wf_X2_32 : Cond.fieldLink RX2 32 "KeyKeepers$Search" "before" "[I" ∈ TG := tg_1 (i := 108) rfl rfl
theorem wf_X2_35 : Cond.fieldLink RX2 35 "KeyKeepers$Search" "told" "[I" ∈ TG := tg_1 (i := 109) rfl rfl
theorem wf_X5_166 : Cond.fieldLink RX5 166 "KeyKeepers$Search" "told" "[I" ∈ TG := tg_1 (i := 110) rfl rfl
theorem wf_X2_44 : Cond.fieldLink RX2 44 "KeyKeepers$Search" "found" "I" ∈ TG := tg_1 (i := 111) rfl rfl
theorem wf_X2_48 : Cond.fieldLink RX2 48 "KeyKeepers$Search" "spent" "Z" ∈ TG := tg_1 (i := 112) rfl rfl
theorem wf_X2_81 : Cond.fieldLink RX2 81 "KeyKeepers$Search" "brought" "Z" ∈ TG := tg_1 (i := 113) rfl rfl
theorem wy_X2_stand : Cond.laysFinal RX2 "KeyKeepers$Search" "stand" "LKeyKeepers$Stand;" ∈ TG := tg_1 (i := 114) rfl rfl
theorem wy_X2_ways : Cond.laysFinal RX2 "KeyKeepers$Search" "ways" "LKeyKeepers$Ways;" ∈ TG := tg_1 (i := 116) rfl rfl
theorem wy_X2_states : Cond.laysFinal RX2 "KeyKeepers$Search" "states" "[I" ∈ TG := tg_1 (i := 118) rfl rfl
theorem wy_X2_hashes : Cond.laysFinal RX2 "KeyKeepers$Search" "hashes" "[I" ∈ TG := tg_1 (i := 120) rfl rfl
theorem wy_X2_table : Cond.laysFinal RX2 "KeyKeepers$Search" "table" "[I" ∈ TG := tg_1 (i := 122) rfl rfl
theorem wy_X2_before : Cond.laysFinal RX2 "KeyKeepers$Search" "before" "[I" ∈ TG := tg_1 (i := 124) rfl rfl
theorem wy_X2_told : Cond.laysFinal RX2 "KeyKeepers$Search" "told" "[I" ∈ TG := tg_1 (i := 126) rfl rfl
theorem wy_X2_found : Cond.lays RX2 "KeyKeepers$Search" "found" "I" ∈ TG := tg_1 (i := 128) rfl rfl
theorem wy_X2_spent : Cond.lays RX2 "KeyKeepers$Search" "spent" "Z" ∈ TG := tg_1 (i := 130) rfl rfl
theorem wy_X2_brought : Cond.lays RX2 "KeyKeepers$Search" "brought" "Z" ∈ TG := tg_1 (i := 132) rfl rfl
theorem wl_X5_50 : Cond.methodLink RX5 50 yX3_startAnew ∈ TG := tg_1 (i := 135) rfl rfl
theorem wi_X3_startAnew : Cond.instanceMethod yX3_startAnew ∈ TG := tg_1 (i := 136) rfl rfl
theorem ws_X3_startAnew : Cond.selects RX3 yX3_startAnew yX3_startAnew ∈ TG := tg_1 (i := 137) rfl rfl
theorem wc_X3_startAnew : Cond.code yX3_startAnew cX3_startAnew 4 none ∈ TG := tg_1 (i := 138) rfl rfl
theorem wl_X3_22 : Cond.methodLink RX3 22 yJ7_fill_53178 ∈ TG := tg_1 (i := 139) rfl rfl
theorem wt_J7_fill_53178 : Cond.static yJ7_fill_53178 ∈ TG := tg_1 (i := 140) rfl rfl
theorem wc_J7_fill_53178 : Cond.code yJ7_fill_53178 cJ7_fill_53178 4 none ∈ TG := tg_1 (i := 141) rfl rfl
theorem wl_X3_28 : Cond.methodLink RX3 28 yX3_set ∈ TG := tg_1 (i := 142) rfl rfl
theorem wi_X3_set : Cond.instanceMethod yX3_set ∈ TG := tg_1 (i := 143) rfl rfl
theorem ws_X3_set : Cond.selects RX3 yX3_set yX3_set ∈ TG := tg_1 (i := 144) rfl rfl
theorem wc_X3_set : Cond.code yX3_set cX3_set 4 none ∈ TG := tg_1 (i := 145) rfl rfl
theorem wl_X3_40 : Cond.methodLink RX3 40 yX3_put ∈ TG := tg_1 (i := 146) rfl rfl
theorem wi_X3_put : Cond.instanceMethod yX3_put ∈ TG := tg_1 (i := 147) rfl rfl
theorem ws_X3_put : Cond.selects RX3 yX3_put yX3_put ∈ TG := tg_1 (i := 148) rfl rfl
theorem wc_X3_put : Cond.code yX3_put cX3_put 3 none ∈ TG := tg_1 (i := 149) rfl rfl
theorem wf_X5_10 : Cond.fieldLink RX5 10 "KeyKeepers" "stand" "LKeyKeepers$Stand;" ∈ TG := tg_1 (i := 150) rfl rfl
theorem wf_X5_19 : Cond.fieldLink RX5 19 "KeyKeepers" "book" "LKeyKeepers$Book;" ∈ TG := tg_1 (i := 151) rfl rfl
theorem wf_X5_28 : Cond.fieldLink RX5 28 "KeyKeepers" "ways" "LKeyKeepers$Ways;" ∈ TG := tg_1 (i := 152) rfl rfl
theorem wf_X5_37 : Cond.fieldLink RX5 37 "KeyKeepers" "past" "LKeyKeepers$Past;" ∈ TG := tg_1 (i := 153) rfl rfl
theorem wf_X5_46 : Cond.fieldLink RX5 46 "KeyKeepers" "search" "LKeyKeepers$Search;" ∈ TG := tg_1 (i := 154) rfl rfl
theorem wf_X5_54 : Cond.fieldLink RX5 54 "KeyKeepers" "begins" "I" ∈ TG := tg_1 (i := 155) rfl rfl
theorem wf_X5_58 : Cond.fieldLink RX5 58 "KeyKeepers" "passes" "I" ∈ TG := tg_1 (i := 156) rfl rfl
theorem wf_X5_61 : Cond.fieldLink RX5 61 "KeyKeepers" "acted" "Z" ∈ TG := tg_1 (i := 157) rfl rfl
theorem wy_X5_stand : Cond.laysFinal RX5 "KeyKeepers" "stand" "LKeyKeepers$Stand;" ∈ TG := tg_1 (i := 158) rfl rfl
theorem wy_X5_book : Cond.laysFinal RX5 "KeyKeepers" "book" "LKeyKeepers$Book;" ∈ TG := tg_1 (i := 160) rfl rfl
theorem wy_X5_ways : Cond.laysFinal RX5 "KeyKeepers" "ways" "LKeyKeepers$Ways;" ∈ TG := tg_1 (i := 162) rfl rfl
theorem wy_X5_past : Cond.laysFinal RX5 "KeyKeepers" "past" "LKeyKeepers$Past;" ∈ TG := tg_1 (i := 164) rfl rfl
theorem wy_X5_search : Cond.laysFinal RX5 "KeyKeepers" "search" "LKeyKeepers$Search;" ∈ TG := tg_1 (i := 166) rfl rfl
theorem wy_X5_begins : Cond.lays RX5 "KeyKeepers" "begins" "I" ∈ TG := tg_1 (i := 168) rfl rfl
theorem wy_X5_passes : Cond.lays RX5 "KeyKeepers" "passes" "I" ∈ TG := tg_1 (i := 170) rfl rfl
theorem wy_X5_acted : Cond.lays RX5 "KeyKeepers" "acted" "Z" ∈ TG := tg_1 (i := 172) rfl rfl
theorem wl_L_13 : Cond.methodLink RL 13 yX5_begin ∈ TG := tg_1 (i := 175) rfl rfl
theorem wi_X5_begin : Cond.instanceMethod yX5_begin ∈ TG := tg_1 (i := 176) rfl rfl
theorem ws_X5_begin : Cond.selects RX5 yX5_begin yX5_begin ∈ TG := tg_1 (i := 177) rfl rfl
theorem wc_X5_begin : Cond.code yX5_begin cX5_begin 3 (some .int) ∈ TG := tg_1 (i := 178) rfl rfl
theorem wl_X5_65 : Cond.methodLink RX5 65 yX1_forget ∈ TG := tg_1 (i := 179) rfl rfl
theorem wi_X1_forget : Cond.instanceMethod yX1_forget ∈ TG := tg_1 (i := 180) rfl rfl
theorem ws_X1_forget : Cond.selects RX1 yX1_forget yX1_forget ∈ TG := tg_1 (i := 181) rfl rfl
theorem wc_X1_forget : Cond.code yX1_forget cX1_forget 1 none ∈ TG := tg_1 (i := 182) rfl rfl
theorem wl_L_18 : Cond.methodLink RL 18 yX5_parent ∈ TG := tg_1 (i := 183) rfl rfl
theorem wi_X5_parent : Cond.instanceMethod yX5_parent ∈ TG := tg_1 (i := 184) rfl rfl
theorem ws_X5_parent : Cond.selects RX5 yX5_parent yX5_parent ∈ TG := tg_1 (i := 185) rfl rfl
theorem wc_X5_parent : Cond.code yX5_parent cX5_parent 4 (some .int) ∈ TG := tg_1 (i := 186) rfl rfl
theorem wl_X5_74 : Cond.methodLink RX5 74 yX3_of ∈ TG := tg_1 (i := 187) rfl rfl
theorem wi_X3_of : Cond.instanceMethod yX3_of ∈ TG := tg_1 (i := 188) rfl rfl
theorem ws_X3_of : Cond.selects RX3 yX3_of yX3_of ∈ TG := tg_1 (i := 189) rfl rfl
theorem wc_X3_of : Cond.code yX3_of cX3_of 3 (some .int) ∈ TG := tg_1 (i := 190) rfl rfl
theorem wl_X3_36 : Cond.methodLink RX3 36 yX3_get ∈ TG := tg_1 (i := 191) rfl rfl
theorem wi_X3_get : Cond.instanceMethod yX3_get ∈ TG := tg_1 (i := 192) rfl rfl
theorem ws_X3_get : Cond.selects RX3 yX3_get yX3_get ∈ TG := tg_1 (i := 193) rfl rfl
theorem wc_X3_get : Cond.code yX3_get cX3_get 2 (some .int) ∈ TG := tg_1 (i := 194) rfl rfl
theorem wl_X5_78 : Cond.methodLink RX5 78 yX3_set ∈ TG := tg_1 (i := 195) rfl rfl
theorem wl_L_22 : Cond.methodLink RL 22 yX5_want ∈ TG := tg_1 (i := 196) rfl rfl
theorem wi_X5_want : Cond.instanceMethod yX5_want ∈ TG := tg_1 (i := 197) rfl rfl
theorem ws_X5_want : Cond.selects RX5 yX5_want yX5_want ∈ TG := tg_1 (i := 198) rfl rfl
theorem wc_X5_want : Cond.code yX5_want cX5_want 2 (some .int) ∈ TG := tg_1 (i := 199) rfl rfl
theorem wl_X5_82 : Cond.methodLink RX5 82 yX3_isKeeper ∈ TG := tg_1 (i := 200) rfl rfl
theorem wi_X3_isKeeper : Cond.instanceMethod yX3_isKeeper ∈ TG := tg_1 (i := 201) rfl rfl
theorem ws_X3_isKeeper : Cond.selects RX3 yX3_isKeeper yX3_isKeeper ∈ TG := tg_1 (i := 202) rfl rfl
theorem wc_X3_isKeeper : Cond.code yX3_isKeeper cX3_isKeeper 2 (some .boolean) ∈ TG := tg_1 (i := 203) rfl rfl
theorem wl_X5_86 : Cond.methodLink RX5 86 yX1_mark ∈ TG := tg_1 (i := 204) rfl rfl
theorem wi_X1_mark : Cond.instanceMethod yX1_mark ∈ TG := tg_1 (i := 205) rfl rfl
theorem ws_X1_mark : Cond.selects RX1 yX1_mark yX1_mark ∈ TG := tg_1 (i := 206) rfl rfl
theorem wc_X1_mark : Cond.code yX1_mark cX1_mark 1 none ∈ TG := tg_1 (i := 207) rfl rfl
theorem wl_X1_26 : Cond.methodLink RX1 26 yX3_copyTo ∈ TG := tg_1 (i := 208) rfl rfl
theorem wi_X3_copyTo : Cond.instanceMethod yX3_copyTo ∈ TG := tg_1 (i := 209) rfl rfl
theorem ws_X3_copyTo : Cond.selects RX3 yX3_copyTo yX3_copyTo ∈ TG := tg_1 (i := 210) rfl rfl
theorem wc_X3_copyTo : Cond.code yX3_copyTo cX3_copyTo 4 none ∈ TG := tg_1 (i := 211) rfl rfl
theorem wl_X3_83 : Cond.methodLink RX3 83 arraycopyName ∈ TG := tg_1 (i := 212) rfl rfl
theorem wt_arraycopy : Cond.static arraycopyName ∈ TG := tg_1 (i := 213) rfl rfl
theorem wn_arraycopy : Cond.native arraycopyName ∈ TG := tg_1 (i := 214) rfl rfl
theorem wl_X5_89 : Cond.methodLink RX5 89 yX4_wanted ∈ TG := tg_1 (i := 215) rfl rfl
theorem wi_X4_wanted : Cond.instanceMethod yX4_wanted ∈ TG := tg_1 (i := 216) rfl rfl
theorem ws_X4_wanted : Cond.selects RX4 yX4_wanted yX4_wanted ∈ TG := tg_1 (i := 217) rfl rfl
theorem wc_X4_wanted : Cond.code yX4_wanted cX4_wanted 2 none ∈ TG := tg_1 (i := 218) rfl rfl
theorem wl_X4_28 : Cond.methodLink RX4 28 yX3_set ∈ TG := tg_1 (i := 219) rfl rfl
theorem wl_X4_32 : Cond.methodLink RX4 32 yX3_get ∈ TG := tg_1 (i := 220) rfl rfl
theorem wl_X4_36 : Cond.methodLink RX4 36 yX3_put ∈ TG := tg_1 (i := 221) rfl rfl
theorem wl_X4_44 : Cond.methodLink RX4 44 yX4_wantedByAsking ∈ TG := tg_1 (i := 222) rfl rfl
theorem wi_X4_wantedByAsking : Cond.instanceMethod yX4_wantedByAsking ∈ TG := tg_1 (i := 224) rfl rfl
theorem wc_X4_wantedByAsking : Cond.code yX4_wantedByAsking cX4_wantedByAsking 3 none ∈ TG := tg_1 (i := 225) rfl rfl
theorem wl_X4_85 : Cond.methodLink RX4 85 yX3_of ∈ TG := tg_1 (i := 226) rfl rfl
theorem wl_X4_106 : Cond.methodLink RX4 106 yX3_sendToOthers ∈ TG := tg_1 (i := 227) rfl rfl
theorem wi_X3_sendToOthers : Cond.instanceMethod yX3_sendToOthers ∈ TG := tg_1 (i := 228) rfl rfl
theorem ws_X3_sendToOthers : Cond.selects RX3 yX3_sendToOthers yX3_sendToOthers ∈ TG := tg_1 (i := 229) rfl rfl
theorem wc_X3_sendToOthers : Cond.code yX3_sendToOthers cX3_sendToOthers 5 none ∈ TG := tg_1 (i := 230) rfl rfl
theorem wl_X3_56 : Cond.methodLink RX3 56 yX3_send ∈ TG := tg_1 (i := 231) rfl rfl
theorem wi_X3_send : Cond.instanceMethod yX3_send ∈ TG := tg_1 (i := 232) rfl rfl
theorem ws_X3_send : Cond.selects RX3 yX3_send yX3_send ∈ TG := tg_1 (i := 233) rfl rfl
theorem wc_X3_send : Cond.code yX3_send cX3_send 5 none ∈ TG := tg_1 (i := 234) rfl rfl
theorem wl_X3_44 : Cond.methodLink RX3 44 yX3_lettersOf ∈ TG := tg_1 (i := 235) rfl rfl
theorem wt_X3_lettersOf : Cond.static yX3_lettersOf ∈ TG := tg_1 (i := 236) rfl rfl
theorem wc_X3_lettersOf : Cond.code yX3_lettersOf cX3_lettersOf 2 (some .int) ∈ TG := tg_1 (i := 237) rfl rfl
theorem wl_X3_48 : Cond.methodLink RX3 48 yX3_append ∈ TG := tg_1 (i := 238) rfl rfl
theorem wi_X3_append : Cond.instanceMethod yX3_append ∈ TG := tg_1 (i := 239) rfl rfl
theorem ws_X3_append : Cond.selects RX3 yX3_append yX3_append ∈ TG := tg_2 (i := 0) rfl rfl
theorem wc_X3_append : Cond.code yX3_append cX3_append 5 (some .boolean) ∈ TG := tg_2 (i := 1) rfl rfl
theorem wl_X4_48 : Cond.methodLink RX4 48 yX4_wantedByToken ∈ TG := tg_2 (i := 2) rfl rfl
theorem wi_X4_wantedByToken : Cond.instanceMethod yX4_wantedByToken ∈ TG := tg_2 (i := 4) rfl rfl
theorem wc_X4_wantedByToken : Cond.code yX4_wantedByToken cX4_wantedByToken 3 none ∈ TG := tg_2 (i := 5) rfl rfl
theorem wl_X4_124 : Cond.methodLink RX4 124 yX3_hasToken ∈ TG := tg_2 (i := 6) rfl rfl
theorem wi_X3_hasToken : Cond.instanceMethod yX3_hasToken ∈ TG := tg_2 (i := 7) rfl rfl
theorem ws_X3_hasToken : Cond.selects RX3 yX3_hasToken yX3_hasToken ∈ TG := tg_2 (i := 8) rfl rfl
theorem wc_X3_hasToken : Cond.code yX3_hasToken cX3_hasToken 2 (some .boolean) ∈ TG := tg_2 (i := 9) rfl rfl
theorem wl_X3_66 : Cond.methodLink RX3 66 yX3_of ∈ TG := tg_2 (i := 10) rfl rfl
theorem wl_X4_82 : Cond.methodLink RX4 82 yX4_enter ∈ TG := tg_2 (i := 11) rfl rfl
theorem wi_X4_enter : Cond.instanceMethod yX4_enter ∈ TG := tg_2 (i := 13) rfl rfl
theorem wc_X4_enter : Cond.code yX4_enter cX4_enter 3 none ∈ TG := tg_2 (i := 14) rfl rfl
theorem wl_X4_96 : Cond.methodLink RX4 96 yX3_sentInAll ∈ TG := tg_2 (i := 15) rfl rfl
theorem wi_X3_sentInAll : Cond.instanceMethod yX3_sentInAll ∈ TG := tg_2 (i := 16) rfl rfl
theorem ws_X3_sentInAll : Cond.selects RX3 yX3_sentInAll yX3_sentInAll ∈ TG := tg_2 (i := 17) rfl rfl
theorem wc_X3_sentInAll : Cond.code yX3_sentInAll cX3_sentInAll 1 (some .int) ∈ TG := tg_2 (i := 18) rfl rfl
theorem wl_X4_100 : Cond.methodLink RX4 100 yX0_write ∈ TG := tg_2 (i := 19) rfl rfl
theorem wi_X0_write : Cond.instanceMethod yX0_write ∈ TG := tg_2 (i := 20) rfl rfl
theorem ws_X0_write : Cond.selects RX0 yX0_write yX0_write ∈ TG := tg_2 (i := 21) rfl rfl
theorem wc_X0_write : Cond.code yX0_write cX0_write 6 none ∈ TG := tg_2 (i := 22) rfl rfl
theorem wl_X4_128 : Cond.methodLink RX4 128 yX3_known ∈ TG := tg_2 (i := 23) rfl rfl
theorem wi_X3_known : Cond.instanceMethod yX3_known ∈ TG := tg_2 (i := 24) rfl rfl
theorem ws_X3_known : Cond.selects RX3 yX3_known yX3_known ∈ TG := tg_2 (i := 25) rfl rfl
theorem wc_X3_known : Cond.code yX3_known cX3_known 3 (some .int) ∈ TG := tg_2 (i := 26) rfl rfl
theorem wl_X4_131 : Cond.methodLink RX4 131 yX3_setKnown ∈ TG := tg_2 (i := 27) rfl rfl
theorem wi_X3_setKnown : Cond.instanceMethod yX3_setKnown ∈ TG := tg_2 (i := 28) rfl rfl
theorem ws_X3_setKnown : Cond.selects RX3 yX3_setKnown yX3_setKnown ∈ TG := tg_2 (i := 29) rfl rfl
theorem wc_X3_setKnown : Cond.code yX3_setKnown cX3_setKnown 4 none ∈ TG := tg_2 (i := 30) rfl rfl
theorem wl_X4_51 : Cond.methodLink RX4 51 yX4_queue ∈ TG := tg_2 (i := 31) rfl rfl
theorem wi_X4_queue : Cond.instanceMethod yX4_queue ∈ TG := tg_2 (i := 33) rfl rfl
theorem wc_X4_queue : Cond.code yX4_queue cX4_queue 3 none ∈ TG := tg_2 (i := 34) rfl rfl
theorem wl_X4_150 : Cond.methodLink RX4 150 yX3_queueOf ∈ TG := tg_2 (i := 35) rfl rfl
theorem wt_X3_queueOf : Cond.static yX3_queueOf ∈ TG := tg_2 (i := 36) rfl rfl
theorem wc_X3_queueOf : Cond.code yX3_queueOf cX3_queueOf 1 (some .int) ∈ TG := tg_2 (i := 37) rfl rfl
theorem wl_X4_144 : Cond.methodLink RX4 144 yX3_append ∈ TG := tg_2 (i := 38) rfl rfl
theorem wl_X4_54 : Cond.methodLink RX4 54 yX4_followRules ∈ TG := tg_2 (i := 39) rfl rfl
theorem wi_X4_followRules : Cond.instanceMethod yX4_followRules ∈ TG := tg_2 (i := 41) rfl rfl
theorem wc_X4_followRules : Cond.code yX4_followRules cX4_followRules 4 none ∈ TG := tg_2 (i := 42) rfl rfl
theorem wl_X4_147 : Cond.methodLink RX4 147 yX3_takeFirst ∈ TG := tg_2 (i := 43) rfl rfl
theorem wi_X3_takeFirst : Cond.instanceMethod yX3_takeFirst ∈ TG := tg_2 (i := 44) rfl rfl
theorem ws_X3_takeFirst : Cond.selects RX3 yX3_takeFirst yX3_takeFirst ∈ TG := tg_2 (i := 45) rfl rfl
theorem wc_X3_takeFirst : Cond.code yX3_takeFirst cX3_takeFirst 6 (some .int) ∈ TG := tg_2 (i := 46) rfl rfl
theorem wl_X4_118 : Cond.methodLink RX4 118 yX3_send ∈ TG := tg_2 (i := 47) rfl rfl
theorem wl_X5_93 : Cond.methodLink RX5 93 yX5_settled ∈ TG := tg_2 (i := 48) rfl rfl
theorem wi_X5_settled : Cond.instanceMethod yX5_settled ∈ TG := tg_2 (i := 50) rfl rfl
theorem wc_X5_settled : Cond.code yX5_settled cX5_settled 1 (some .boolean) ∈ TG := tg_2 (i := 51) rfl rfl
theorem wl_X5_185 : Cond.methodLink RX5 185 yX1_backToMark ∈ TG := tg_2 (i := 52) rfl rfl
theorem wi_X1_backToMark : Cond.instanceMethod yX1_backToMark ∈ TG := tg_2 (i := 53) rfl rfl
theorem ws_X1_backToMark : Cond.selects RX1 yX1_backToMark yX1_backToMark ∈ TG := tg_2 (i := 54) rfl rfl
theorem wc_X1_backToMark : Cond.code yX1_backToMark cX1_backToMark 1 none ∈ TG := tg_2 (i := 55) rfl rfl
theorem wl_X1_30 : Cond.methodLink RX1 30 yX3_copyFrom ∈ TG := tg_2 (i := 56) rfl rfl
theorem wi_X3_copyFrom : Cond.instanceMethod yX3_copyFrom ∈ TG := tg_2 (i := 57) rfl rfl
theorem ws_X3_copyFrom : Cond.selects RX3 yX3_copyFrom yX3_copyFrom ∈ TG := tg_2 (i := 58) rfl rfl
theorem wc_X3_copyFrom : Cond.code yX3_copyFrom cX3_copyFrom 4 none ∈ TG := tg_2 (i := 59) rfl rfl
theorem wl_X5_188 : Cond.methodLink RX5 188 yX1_keepMark ∈ TG := tg_2 (i := 60) rfl rfl
theorem wi_X1_keepMark : Cond.instanceMethod yX1_keepMark ∈ TG := tg_2 (i := 61) rfl rfl
theorem ws_X1_keepMark : Cond.selects RX1 yX1_keepMark yX1_keepMark ∈ TG := tg_2 (i := 62) rfl rfl
theorem wc_X1_keepMark : Cond.code yX1_keepMark cX1_keepMark 1 none ∈ TG := tg_2 (i := 63) rfl rfl
theorem wl_X1_33 : Cond.methodLink RX1 33 Lib.Math.min.name ∈ TG := tg_2 (i := 64) rfl rfl
theorem wt_min : Cond.static Lib.Math.min.name ∈ TG := tg_2 (i := 65) rfl rfl
theorem wc_min : Cond.code Lib.Math.min.name Lib.Math.min.code 2 (some .int) ∈ TG := tg_2 (i := 66) rfl rfl
theorem wl_L_27 : Cond.methodLink RL 27 yX5_leave ∈ TG := tg_2 (i := 67) rfl rfl
theorem wi_X5_leave : Cond.instanceMethod yX5_leave ∈ TG := tg_2 (i := 68) rfl rfl
theorem ws_X5_leave : Cond.selects RX5 yX5_leave yX5_leave ∈ TG := tg_2 (i := 69) rfl rfl
theorem wc_X5_leave : Cond.code yX5_leave cX5_leave 3 (some .int) ∈ TG := tg_2 (i := 70) rfl rfl
theorem wl_X5_97 : Cond.methodLink RX5 97 yX3_sentInAll ∈ TG := tg_2 (i := 71) rfl rfl
theorem wl_X5_101 : Cond.methodLink RX5 101 yX4_left ∈ TG := tg_2 (i := 72) rfl rfl
theorem wi_X4_left : Cond.instanceMethod yX4_left ∈ TG := tg_2 (i := 73) rfl rfl
theorem ws_X4_left : Cond.selects RX4 yX4_left yX4_left ∈ TG := tg_2 (i := 74) rfl rfl
theorem wc_X4_left : Cond.code yX4_left cX4_left 2 none ∈ TG := tg_2 (i := 75) rfl rfl
theorem wl_X4_57 : Cond.methodLink RX4 57 yX4_leftByAsking ∈ TG := tg_2 (i := 76) rfl rfl
theorem wi_X4_leftByAsking : Cond.instanceMethod yX4_leftByAsking ∈ TG := tg_2 (i := 78) rfl rfl
theorem wc_X4_leftByAsking : Cond.code yX4_leftByAsking cX4_leftByAsking 4 none ∈ TG := tg_2 (i := 79) rfl rfl
theorem wl_X4_60 : Cond.methodLink RX4 60 yX4_leftByToken ∈ TG := tg_2 (i := 80) rfl rfl
theorem wi_X4_leftByToken : Cond.instanceMethod yX4_leftByToken ∈ TG := tg_2 (i := 82) rfl rfl
theorem wc_X4_leftByToken : Cond.code yX4_leftByToken cX4_leftByToken 3 none ∈ TG := tg_2 (i := 83) rfl rfl
theorem wl_X4_141 : Cond.methodLink RX4 141 yX3_rowHas ∈ TG := tg_2 (i := 84) rfl rfl
theorem wi_X3_rowHas : Cond.instanceMethod yX3_rowHas ∈ TG := tg_2 (i := 85) rfl rfl
theorem ws_X3_rowHas : Cond.selects RX3 yX3_rowHas yX3_rowHas ∈ TG := tg_2 (i := 86) rfl rfl
theorem wc_X3_rowHas : Cond.code yX3_rowHas cX3_rowHas 4 (some .boolean) ∈ TG := tg_2 (i := 87) rfl rfl
theorem wl_X4_134 : Cond.methodLink RX4 134 yX4_isDue ∈ TG := tg_2 (i := 88) rfl rfl
theorem wi_X4_isDue : Cond.instanceMethod yX4_isDue ∈ TG := tg_2 (i := 90) rfl rfl
theorem wc_X4_isDue : Cond.code yX4_isDue cX4_isDue 3 (some .boolean) ∈ TG := tg_2 (i := 91) rfl rfl
theorem wl_X4_138 : Cond.methodLink RX4 138 yX4_passToken ∈ TG := tg_2 (i := 92) rfl rfl
theorem wi_X4_passToken : Cond.instanceMethod yX4_passToken ∈ TG := tg_2 (i := 94) rfl rfl
theorem wc_X4_passToken : Cond.code yX4_passToken cX4_passToken 3 none ∈ TG := tg_2 (i := 95) rfl rfl
theorem wl_L_31 : Cond.methodLink RL 31 yX5_come ∈ TG := tg_2 (i := 96) rfl rfl
theorem wi_X5_come : Cond.instanceMethod yX5_come ∈ TG := tg_2 (i := 97) rfl rfl
theorem ws_X5_come : Cond.selects RX5 yX5_come yX5_come ∈ TG := tg_2 (i := 98) rfl rfl
theorem wc_X5_come : Cond.code yX5_come cX5_come 3 (some .int) ∈ TG := tg_2 (i := 99) rfl rfl
theorem wl_X5_104 : Cond.methodLink RX5 104 yX3_isPair ∈ TG := tg_2 (i := 100) rfl rfl
theorem wi_X3_isPair : Cond.instanceMethod yX3_isPair ∈ TG := tg_2 (i := 101) rfl rfl
theorem ws_X3_isPair : Cond.selects RX3 yX3_isPair yX3_isPair ∈ TG := tg_2 (i := 102) rfl rfl
theorem wc_X3_isPair : Cond.code yX3_isPair cX3_isPair 3 (some .boolean) ∈ TG := tg_2 (i := 103) rfl rfl
theorem wl_X3_32 : Cond.methodLink RX3 32 yX3_isKeeper ∈ TG := tg_2 (i := 104) rfl rfl
theorem wl_X5_108 : Cond.methodLink RX5 108 yX3_underWay ∈ TG := tg_2 (i := 105) rfl rfl
theorem wi_X3_underWay : Cond.instanceMethod yX3_underWay ∈ TG := tg_2 (i := 106) rfl rfl
theorem ws_X3_underWay : Cond.selects RX3 yX3_underWay yX3_underWay ∈ TG := tg_2 (i := 107) rfl rfl
theorem wc_X3_underWay : Cond.code yX3_underWay cX3_underWay 3 (some .int) ∈ TG := tg_2 (i := 108) rfl rfl
theorem wl_X5_111 : Cond.methodLink RX5 111 yX5_bring ∈ TG := tg_2 (i := 109) rfl rfl
theorem wi_X5_bring : Cond.instanceMethod yX5_bring ∈ TG := tg_2 (i := 111) rfl rfl
theorem wc_X5_bring : Cond.code yX5_bring cX5_bring 4 (some .int) ∈ TG := tg_2 (i := 112) rfl rfl
theorem wl_X5_147 : Cond.methodLink RX5 147 yX3_letterAt ∈ TG := tg_2 (i := 113) rfl rfl
theorem wi_X3_letterAt : Cond.instanceMethod yX3_letterAt ∈ TG := tg_2 (i := 114) rfl rfl
theorem ws_X3_letterAt : Cond.selects RX3 yX3_letterAt yX3_letterAt ∈ TG := tg_2 (i := 115) rfl rfl
theorem wc_X3_letterAt : Cond.code yX3_letterAt cX3_letterAt 4 (some .int) ∈ TG := tg_2 (i := 116) rfl rfl
theorem wl_X5_151 : Cond.methodLink RX5 151 yX3_kindOf ∈ TG := tg_2 (i := 117) rfl rfl
theorem wt_X3_kindOf : Cond.static yX3_kindOf ∈ TG := tg_2 (i := 118) rfl rfl
theorem wc_X3_kindOf : Cond.code yX3_kindOf cX3_kindOf 1 (some .int) ∈ TG := tg_2 (i := 119) rfl rfl
theorem wl_X5_179 : Cond.methodLink RX5 179 yX4_coming ∈ TG := tg_2 (i := 120) rfl rfl
theorem wi_X4_coming : Cond.instanceMethod yX4_coming ∈ TG := tg_2 (i := 121) rfl rfl
theorem ws_X4_coming : Cond.selects RX4 yX4_coming yX4_coming ∈ TG := tg_2 (i := 122) rfl rfl
theorem wc_X4_coming : Cond.code yX4_coming cX4_coming 5 none ∈ TG := tg_2 (i := 123) rfl rfl
theorem wl_X4_63 : Cond.methodLink RX4 63 yX3_takeLetter ∈ TG := tg_2 (i := 124) rfl rfl
theorem wi_X3_takeLetter : Cond.instanceMethod yX3_takeLetter ∈ TG := tg_2 (i := 125) rfl rfl
theorem ws_X3_takeLetter : Cond.selects RX3 yX3_takeLetter yX3_takeLetter ∈ TG := tg_2 (i := 126) rfl rfl
theorem wc_X3_takeLetter : Cond.code yX3_takeLetter cX3_takeLetter 3 (some .int) ∈ TG := tg_2 (i := 127) rfl rfl
theorem wl_X3_60 : Cond.methodLink RX3 60 yX3_takeFirst ∈ TG := tg_2 (i := 128) rfl rfl
theorem wl_X4_67 : Cond.methodLink RX4 67 yX3_kindOf ∈ TG := tg_2 (i := 129) rfl rfl
theorem wl_X4_70 : Cond.methodLink RX4 70 yX3_numberOf ∈ TG := tg_2 (i := 130) rfl rfl
theorem wt_X3_numberOf : Cond.static yX3_numberOf ∈ TG := tg_2 (i := 131) rfl rfl
theorem wc_X3_numberOf : Cond.code yX3_numberOf cX3_numberOf 1 (some .int) ∈ TG := tg_2 (i := 132) rfl rfl
theorem wl_X4_73 : Cond.methodLink RX4 73 yX4_askedByAsking ∈ TG := tg_2 (i := 133) rfl rfl
theorem wi_X4_askedByAsking : Cond.instanceMethod yX4_askedByAsking ∈ TG := tg_2 (i := 135) rfl rfl
theorem wc_X4_askedByAsking : Cond.code yX4_askedByAsking cX4_askedByAsking 4 none ∈ TG := tg_2 (i := 136) rfl rfl
theorem wl_X4_109 : Cond.methodLink RX4 109 Lib.Math.max.name ∈ TG := tg_2 (i := 137) rfl rfl
theorem wt_max : Cond.static Lib.Math.max.name ∈ TG := tg_2 (i := 138) rfl rfl
theorem wc_max : Cond.code Lib.Math.max.name Lib.Math.max.code 2 (some .int) ∈ TG := tg_2 (i := 139) rfl rfl
theorem wl_X4_114 : Cond.methodLink RX4 114 yX4_goesBefore ∈ TG := tg_2 (i := 140) rfl rfl
theorem wi_X4_goesBefore : Cond.instanceMethod yX4_goesBefore ∈ TG := tg_2 (i := 142) rfl rfl
theorem wc_X4_goesBefore : Cond.code yX4_goesBefore cX4_goesBefore 6 (some .boolean) ∈ TG := tg_2 (i := 143) rfl rfl
theorem wl_X4_76 : Cond.methodLink RX4 76 yX4_given ∈ TG := tg_2 (i := 144) rfl rfl
theorem wi_X4_given : Cond.instanceMethod yX4_given ∈ TG := tg_2 (i := 146) rfl rfl
theorem wc_X4_given : Cond.code yX4_given cX4_given 3 none ∈ TG := tg_2 (i := 147) rfl rfl
theorem wl_X4_121 : Cond.methodLink RX4 121 yX4_stillToCome ∈ TG := tg_2 (i := 148) rfl rfl
theorem wi_X4_stillToCome : Cond.instanceMethod yX4_stillToCome ∈ TG := tg_2 (i := 149) rfl rfl
theorem ws_X4_stillToCome : Cond.selects RX4 yX4_stillToCome yX4_stillToCome ∈ TG := tg_2 (i := 150) rfl rfl
theorem wc_X4_stillToCome : Cond.code yX4_stillToCome cX4_stillToCome 3 (some .int) ∈ TG := tg_2 (i := 151) rfl rfl
theorem wl_X4_91 : Cond.methodLink RX4 91 yJ6_bitCount_0f7a4 ∈ TG := tg_2 (i := 152) rfl rfl
theorem wt_J6_bitCount_0f7a4 : Cond.static yJ6_bitCount_0f7a4 ∈ TG := tg_2 (i := 153) rfl rfl
theorem wc_J6_bitCount_0f7a4 : Cond.code yJ6_bitCount_0f7a4 cJ6_bitCount_0f7a4 1 (some .int) ∈ TG := tg_2 (i := 154) rfl rfl
theorem wk_J6_265 : Cond.constant RJ6 265 1431655765 ∈ TG := tg_2 (i := 155) rfl rfl
theorem wk_J6_266 : Cond.constant RJ6 266 858993459 ∈ TG := tg_2 (i := 156) rfl rfl
theorem wk_J6_267 : Cond.constant RJ6 267 252645135 ∈ TG := tg_2 (i := 157) rfl rfl
theorem wl_X4_79 : Cond.methodLink RX4 79 yX4_askedByToken ∈ TG := tg_2 (i := 158) rfl rfl
theorem wi_X4_askedByToken : Cond.instanceMethod yX4_askedByToken ∈ TG := tg_2 (i := 160) rfl rfl
theorem wc_X4_askedByToken : Cond.code yX4_askedByToken cX4_askedByToken 4 none ∈ TG := tg_2 (i := 161) rfl rfl
theorem wl_L_35 : Cond.methodLink RL 35 yX5_run ∈ TG := tg_2 (i := 162) rfl rfl
theorem wi_X5_run : Cond.instanceMethod yX5_run ∈ TG := tg_2 (i := 163) rfl rfl
theorem ws_X5_run : Cond.selects RX5 yX5_run yX5_run ∈ TG := tg_2 (i := 164) rfl rfl
theorem wc_X5_run : Cond.code yX5_run cX5_run 8 (some .int) ∈ TG := tg_2 (i := 165) rfl rfl
theorem wl_X5_114 : Cond.methodLink RX5 114 yX3_busyPairs ∈ TG := tg_2 (i := 166) rfl rfl
theorem wi_X3_busyPairs : Cond.instanceMethod yX3_busyPairs ∈ TG := tg_2 (i := 167) rfl rfl
theorem ws_X3_busyPairs : Cond.selects RX3 yX3_busyPairs yX3_busyPairs ∈ TG := tg_2 (i := 168) rfl rfl
theorem wc_X3_busyPairs : Cond.code yX3_busyPairs cX3_busyPairs 4 (some .int) ∈ TG := tg_2 (i := 169) rfl rfl
theorem wl_X3_63 : Cond.methodLink RX3 63 yX3_underWay ∈ TG := tg_2 (i := 170) rfl rfl
theorem wl_X5_117 : Cond.methodLink RX5 117 yX3_busyPair ∈ TG := tg_2 (i := 171) rfl rfl
theorem wi_X3_busyPair : Cond.instanceMethod yX3_busyPair ∈ TG := tg_2 (i := 172) rfl rfl
theorem ws_X3_busyPair : Cond.selects RX3 yX3_busyPair yX3_busyPair ∈ TG := tg_2 (i := 173) rfl rfl
theorem wc_X3_busyPair : Cond.code yX3_busyPair cX3_busyPair 5 (some .int) ∈ TG := tg_2 (i := 174) rfl rfl
theorem wk_X5_121 : Cond.constantLong RX5 121 1103515245 ∈ TG := tg_2 (i := 175) rfl rfl
theorem wk_X5_123 : Cond.constantLong RX5 123 12345 ∈ TG := tg_2 (i := 176) rfl rfl
theorem wk_X5_125 : Cond.constantLong RX5 125 2147483648 ∈ TG := tg_2 (i := 177) rfl rfl
theorem wk_X5_127 : Cond.constantLong RX5 127 8 ∈ TG := tg_2 (i := 178) rfl rfl
theorem wl_L_39 : Cond.methodLink RL 39 yX5_keeper ∈ TG := tg_2 (i := 179) rfl rfl
theorem wi_X5_keeper : Cond.instanceMethod yX5_keeper ∈ TG := tg_2 (i := 180) rfl rfl
theorem ws_X5_keeper : Cond.selects RX5 yX5_keeper yX5_keeper ∈ TG := tg_2 (i := 181) rfl rfl
theorem wc_X5_keeper : Cond.code yX5_keeper cX5_keeper 5 (some .int) ∈ TG := tg_2 (i := 182) rfl rfl
theorem wl_X5_129 : Cond.methodLink RX5 129 yX5_timeOf ∈ TG := tg_2 (i := 183) rfl rfl
theorem wi_X5_timeOf : Cond.instanceMethod yX5_timeOf ∈ TG := tg_2 (i := 185) rfl rfl
theorem wc_X5_timeOf : Cond.code yX5_timeOf cX5_timeOf 2 (some .int) ∈ TG := tg_2 (i := 186) rfl rfl
theorem wl_X5_144 : Cond.methodLink RX5 144 yX3_known ∈ TG := tg_2 (i := 187) rfl rfl
theorem wl_X5_132 : Cond.methodLink RX5 132 yX4_stillToCome ∈ TG := tg_2 (i := 188) rfl rfl
theorem wl_X5_135 : Cond.methodLink RX5 135 yX3_hasToken ∈ TG := tg_2 (i := 189) rfl rfl
theorem wl_X5_138 : Cond.methodLink RX5 138 yX3_queueOf ∈ TG := tg_2 (i := 190) rfl rfl
theorem wl_X5_141 : Cond.methodLink RX5 141 yX3_get ∈ TG := tg_2 (i := 191) rfl rfl
theorem wl_L_43 : Cond.methodLink RL 43 yX5_knows ∈ TG := tg_2 (i := 192) rfl rfl
theorem wi_X5_knows : Cond.instanceMethod yX5_knows ∈ TG := tg_2 (i := 193) rfl rfl
theorem ws_X5_knows : Cond.selects RX5 yX5_knows yX5_knows ∈ TG := tg_2 (i := 194) rfl rfl
theorem wc_X5_knows : Cond.code yX5_knows cX5_knows 4 (some .int) ∈ TG := tg_2 (i := 195) rfl rfl
theorem wl_L_47 : Cond.methodLink RL 47 yX5_token ∈ TG := tg_2 (i := 196) rfl rfl
theorem wi_X5_token : Cond.instanceMethod yX5_token ∈ TG := tg_2 (i := 197) rfl rfl
theorem ws_X5_token : Cond.selects RX5 yX5_token yX5_token ∈ TG := tg_2 (i := 198) rfl rfl
theorem wc_X5_token : Cond.code yX5_token cX5_token 3 (some .int) ∈ TG := tg_2 (i := 199) rfl rfl
theorem wl_L_51 : Cond.methodLink RL 51 yX5_letter ∈ TG := tg_2 (i := 200) rfl rfl
theorem wi_X5_letter : Cond.instanceMethod yX5_letter ∈ TG := tg_2 (i := 201) rfl rfl
theorem ws_X5_letter : Cond.selects RX5 yX5_letter yX5_letter ∈ TG := tg_2 (i := 202) rfl rfl
theorem wc_X5_letter : Cond.code yX5_letter cX5_letter 7 (some .int) ∈ TG := tg_2 (i := 203) rfl rfl
theorem wl_X5_154 : Cond.methodLink RX5 154 yX3_numberOf ∈ TG := tg_2 (i := 204) rfl rfl
theorem wl_L_56 : Cond.methodLink RL 56 yX5_entry ∈ TG := tg_2 (i := 205) rfl rfl
theorem wi_X5_entry : Cond.instanceMethod yX5_entry ∈ TG := tg_2 (i := 206) rfl rfl
theorem ws_X5_entry : Cond.selects RX5 yX5_entry yX5_entry ∈ TG := tg_2 (i := 207) rfl rfl
theorem wc_X5_entry : Cond.code yX5_entry cX5_entry 4 (some .int) ∈ TG := tg_2 (i := 208) rfl rfl
theorem wl_X5_157 : Cond.methodLink RX5 157 yX0_read ∈ TG := tg_2 (i := 209) rfl rfl
theorem wi_X0_read : Cond.instanceMethod yX0_read ∈ TG := tg_2 (i := 210) rfl rfl
theorem ws_X0_read : Cond.selects RX0 yX0_read yX0_read ∈ TG := tg_2 (i := 211) rfl rfl
theorem wc_X0_read : Cond.code yX0_read cX0_read 4 (some .int) ∈ TG := tg_2 (i := 212) rfl rfl
theorem wl_L_60 : Cond.methodLink RL 60 yX5_undo ∈ TG := tg_2 (i := 213) rfl rfl
theorem wi_X5_undo : Cond.instanceMethod yX5_undo ∈ TG := tg_2 (i := 214) rfl rfl
theorem ws_X5_undo : Cond.selects RX5 yX5_undo yX5_undo ∈ TG := tg_2 (i := 215) rfl rfl
theorem wc_X5_undo : Cond.code yX5_undo cX5_undo 1 (some .int) ∈ TG := tg_2 (i := 216) rfl rfl
theorem wl_X5_160 : Cond.methodLink RX5 160 yX1_takeBack ∈ TG := tg_2 (i := 217) rfl rfl
theorem wi_X1_takeBack : Cond.instanceMethod yX1_takeBack ∈ TG := tg_2 (i := 218) rfl rfl
theorem ws_X1_takeBack : Cond.selects RX1 yX1_takeBack yX1_takeBack ∈ TG := tg_2 (i := 219) rfl rfl
theorem wc_X1_takeBack : Cond.code yX1_takeBack cX1_takeBack 1 (some .boolean) ∈ TG := tg_2 (i := 220) rfl rfl
theorem wl_X1_39 : Cond.methodLink RX1 39 yX1_backToMark ∈ TG := tg_2 (i := 221) rfl rfl
theorem wl_L_65 : Cond.methodLink RL 65 yX5_pass ∈ TG := tg_2 (i := 222) rfl rfl
theorem wi_X5_pass : Cond.instanceMethod yX5_pass ∈ TG := tg_2 (i := 223) rfl rfl
theorem ws_X5_pass : Cond.selects RX5 yX5_pass yX5_pass ∈ TG := tg_2 (i := 224) rfl rfl
theorem wc_X5_pass : Cond.code yX5_pass cX5_pass 1 (some .int) ∈ TG := tg_2 (i := 225) rfl rfl
theorem wl_X5_163 : Cond.methodLink RX5 163 yX2_goThrough ∈ TG := tg_2 (i := 226) rfl rfl
theorem wi_X2_goThrough : Cond.instanceMethod yX2_goThrough ∈ TG := tg_2 (i := 227) rfl rfl
theorem ws_X2_goThrough : Cond.selects RX2 yX2_goThrough yX2_goThrough ∈ TG := tg_2 (i := 228) rfl rfl
theorem wc_X2_goThrough : Cond.code yX2_goThrough cX2_goThrough 2 (some .int) ∈ TG := tg_2 (i := 229) rfl rfl
theorem wl_X2_38 : Cond.methodLink RX2 38 yJ7_fill_53178 ∈ TG := tg_2 (i := 230) rfl rfl
theorem wl_X2_52 : Cond.methodLink RX2 52 yX3_copyTo ∈ TG := tg_2 (i := 231) rfl rfl
theorem wl_X2_61 : Cond.methodLink RX2 61 yX2_keep ∈ TG := tg_2 (i := 232) rfl rfl
theorem wi_X2_keep : Cond.instanceMethod yX2_keep ∈ TG := tg_2 (i := 234) rfl rfl
theorem wc_X2_keep : Cond.code yX2_keep cX2_keep 4 none ∈ TG := tg_2 (i := 235) rfl rfl
theorem wl_X2_120 : Cond.methodLink RX2 120 yX2_hash ∈ TG := tg_2 (i := 236) rfl rfl
theorem wi_X2_hash : Cond.instanceMethod yX2_hash ∈ TG := tg_2 (i := 238) rfl rfl
theorem wc_X2_hash : Cond.code yX2_hash cX2_hash 5 (some .int) ∈ TG := tg_2 (i := 239) rfl rfl
theorem wl_X2_143 : Cond.methodLink RX2 143 yX2_mixed ∈ TG := tg_3 (i := 0) rfl rfl
theorem wi_X2_mixed : Cond.instanceMethod yX2_mixed ∈ TG := tg_3 (i := 2) rfl rfl
theorem wc_X2_mixed : Cond.code yX2_mixed cX2_mixed 7 (some .int) ∈ TG := tg_3 (i := 3) rfl rfl
theorem wl_X2_104 : Cond.methodLink RX2 104 Lib.Math.max.name ∈ TG := tg_3 (i := 4) rfl rfl
theorem wl_X2_131 : Cond.methodLink RX2 131 yX3_wayFrom ∈ TG := tg_3 (i := 5) rfl rfl
theorem wi_X3_wayFrom : Cond.instanceMethod yX3_wayFrom ∈ TG := tg_3 (i := 6) rfl rfl
theorem ws_X3_wayFrom : Cond.selects RX3 yX3_wayFrom yX3_wayFrom ∈ TG := tg_3 (i := 7) rfl rfl
theorem wc_X3_wayFrom : Cond.code yX3_wayFrom cX3_wayFrom 1 (some .int) ∈ TG := tg_3 (i := 8) rfl rfl
theorem wl_X2_134 : Cond.methodLink RX2 134 yX3_wayTo ∈ TG := tg_3 (i := 9) rfl rfl
theorem wi_X3_wayTo : Cond.instanceMethod yX3_wayTo ∈ TG := tg_3 (i := 10) rfl rfl
theorem ws_X3_wayTo : Cond.selects RX3 yX3_wayTo yX3_wayTo ∈ TG := tg_3 (i := 11) rfl rfl
theorem wc_X3_wayTo : Cond.code yX3_wayTo cX3_wayTo 1 (some .int) ∈ TG := tg_3 (i := 12) rfl rfl
theorem wl_X2_137 : Cond.methodLink RX2 137 yX3_lettersOf ∈ TG := tg_3 (i := 13) rfl rfl
theorem wl_X2_87 : Cond.methodLink RX2 87 yX3_underWay ∈ TG := tg_3 (i := 14) rfl rfl
theorem wl_X2_123 : Cond.methodLink RX2 123 yX2_isState ∈ TG := tg_3 (i := 15) rfl rfl
theorem wi_X2_isState : Cond.instanceMethod yX2_isState ∈ TG := tg_3 (i := 17) rfl rfl
theorem wc_X2_isState : Cond.code yX2_isState cX2_isState 6 (some .boolean) ∈ TG := tg_3 (i := 18) rfl rfl
theorem wl_X2_127 : Cond.methodLink RX2 127 yX2_isLike ∈ TG := tg_3 (i := 19) rfl rfl
theorem wi_X2_isLike : Cond.instanceMethod yX2_isLike ∈ TG := tg_3 (i := 21) rfl rfl
theorem wc_X2_isLike : Cond.code yX2_isLike cX2_isLike 7 (some .boolean) ∈ TG := tg_3 (i := 22) rfl rfl
theorem wl_X2_64 : Cond.methodLink RX2 64 yX2_goFrom ∈ TG := tg_3 (i := 23) rfl rfl
theorem wi_X2_goFrom : Cond.instanceMethod yX2_goFrom ∈ TG := tg_3 (i := 25) rfl rfl
theorem wc_X2_goFrom : Cond.code yX2_goFrom cX2_goFrom 5 none ∈ TG := tg_3 (i := 26) rfl rfl
theorem wl_X2_71 : Cond.methodLink RX2 71 yX2_load ∈ TG := tg_3 (i := 27) rfl rfl
theorem wi_X2_load : Cond.instanceMethod yX2_load ∈ TG := tg_3 (i := 29) rfl rfl
theorem wc_X2_load : Cond.code yX2_load cX2_load 2 none ∈ TG := tg_3 (i := 30) rfl rfl
theorem wl_X2_68 : Cond.methodLink RX2 68 yX3_copyFrom ∈ TG := tg_3 (i := 31) rfl rfl
theorem wl_X2_74 : Cond.methodLink RX2 74 yX3_howMany ∈ TG := tg_3 (i := 32) rfl rfl
theorem wi_X3_howMany : Cond.instanceMethod yX3_howMany ∈ TG := tg_3 (i := 33) rfl rfl
theorem ws_X3_howMany : Cond.selects RX3 yX3_howMany yX3_howMany ∈ TG := tg_3 (i := 34) rfl rfl
theorem wc_X3_howMany : Cond.code yX3_howMany cX3_howMany 4 (some .int) ∈ TG := tg_3 (i := 35) rfl rfl
theorem wl_X2_78 : Cond.methodLink RX2 78 yX2_tally ∈ TG := tg_3 (i := 36) rfl rfl
theorem wi_X2_tally : Cond.instanceMethod yX2_tally ∈ TG := tg_3 (i := 38) rfl rfl
theorem wc_X2_tally : Cond.code yX2_tally cX2_tally 2 none ∈ TG := tg_3 (i := 39) rfl rfl
theorem wl_X2_109 : Cond.methodLink RX2 109 yX3_tokenIsLost ∈ TG := tg_3 (i := 40) rfl rfl
theorem wi_X3_tokenIsLost : Cond.instanceMethod yX3_tokenIsLost ∈ TG := tg_3 (i := 41) rfl rfl
theorem ws_X3_tokenIsLost : Cond.selects RX3 yX3_tokenIsLost yX3_tokenIsLost ∈ TG := tg_3 (i := 42) rfl rfl
theorem wc_X3_tokenIsLost : Cond.code yX3_tokenIsLost cX3_tokenIsLost 3 (some .boolean) ∈ TG := tg_3 (i := 43) rfl rfl
theorem wl_X3_69 : Cond.methodLink RX3 69 yX3_hasToken ∈ TG := tg_3 (i := 44) rfl rfl
theorem wl_X3_72 : Cond.methodLink RX3 72 yX3_tokenBetween ∈ TG := tg_3 (i := 45) rfl rfl
theorem wi_X3_tokenBetween : Cond.instanceMethod yX3_tokenBetween ∈ TG := tg_3 (i := 47) rfl rfl
theorem wc_X3_tokenBetween : Cond.code yX3_tokenBetween cX3_tokenBetween 5 (some .boolean) ∈ TG := tg_3 (i := 48) rfl rfl
theorem wl_X3_76 : Cond.methodLink RX3 76 yX3_letterAt ∈ TG := tg_3 (i := 49) rfl rfl
theorem wl_X3_80 : Cond.methodLink RX3 80 yX3_kindOf ∈ TG := tg_3 (i := 50) rfl rfl
theorem wl_X2_113 : Cond.methodLink RX2 113 yX3_underWayInAll ∈ TG := tg_3 (i := 51) rfl rfl
theorem wi_X3_underWayInAll : Cond.instanceMethod yX3_underWayInAll ∈ TG := tg_3 (i := 52) rfl rfl
theorem ws_X3_underWayInAll : Cond.selects RX3 yX3_underWayInAll yX3_underWayInAll ∈ TG := tg_3 (i := 53) rfl rfl
theorem wc_X3_underWayInAll : Cond.code yX3_underWayInAll cX3_underWayInAll 4 (some .int) ∈ TG := tg_3 (i := 54) rfl rfl
theorem wl_X2_91 : Cond.methodLink RX2 91 yX4_coming ∈ TG := tg_3 (i := 55) rfl rfl
theorem wl_X2_95 : Cond.methodLink RX2 95 yX2_weigh ∈ TG := tg_3 (i := 56) rfl rfl
theorem wi_X2_weigh : Cond.instanceMethod yX2_weigh ∈ TG := tg_3 (i := 58) rfl rfl
theorem wc_X2_weigh : Cond.code yX2_weigh cX2_weigh 2 none ∈ TG := tg_3 (i := 59) rfl rfl
theorem wl_X2_98 : Cond.methodLink RX2 98 yX3_of ∈ TG := tg_3 (i := 60) rfl rfl
theorem wl_X2_101 : Cond.methodLink RX2 101 yX4_left ∈ TG := tg_3 (i := 61) rfl rfl
theorem wl_L_69 : Cond.methodLink RL 69 yX5_passed ∈ TG := tg_3 (i := 62) rfl rfl
theorem wi_X5_passed : Cond.instanceMethod yX5_passed ∈ TG := tg_3 (i := 63) rfl rfl
theorem ws_X5_passed : Cond.selects RX5 yX5_passed yX5_passed ∈ TG := tg_3 (i := 64) rfl rfl
theorem wc_X5_passed : Cond.code yX5_passed cX5_passed 2 (some .int) ∈ TG := tg_3 (i := 65) rfl rfl
theorem wl_L_73 : Cond.methodLink RL 73 yX5_count ∈ TG := tg_3 (i := 66) rfl rfl
theorem wi_X5_count : Cond.instanceMethod yX5_count ∈ TG := tg_3 (i := 67) rfl rfl
theorem ws_X5_count : Cond.selects RX5 yX5_count yX5_count ∈ TG := tg_3 (i := 68) rfl rfl
theorem wc_X5_count : Cond.code yX5_count cX5_count 2 (some .int) ∈ TG := tg_3 (i := 69) rfl rfl
theorem wl_X5_170 : Cond.methodLink RX5 170 yX3_underWayInAll ∈ TG := tg_3 (i := 70) rfl rfl
theorem wl_X5_173 : Cond.methodLink RX5 173 yX3_howMany ∈ TG := tg_3 (i := 71) rfl rfl
theorem wg_L_10 : Cond.classLink RL 10 RX6 ∈ TG := tg_3 (i := 72) rfl rfl
theorem wa_X6 : Cond.instantiable RX6 18 ∈ TG := tg_3 (i := 73) rfl rfl
theorem wl_L_12 : Cond.methodLink RL 12 yX6_init ∈ TG := tg_3 (i := 74) rfl rfl
theorem wi_X6_init : Cond.instanceMethod yX6_init ∈ TG := tg_3 (i := 75) rfl rfl
theorem wc_X6_init : Cond.code yX6_init cX6_init 1 none ∈ TG := tg_3 (i := 76) rfl rfl
theorem wl_X6_1 : Cond.methodLink RX6 1 objectInit ∈ TG := tg_3 (i := 77) rfl rfl
theorem wk_X6_27 : Cond.constant RX6 27 36900 ∈ TG := tg_3 (i := 78) rfl rfl
theorem wk_X6_34 : Cond.constant RX6 34 312000 ∈ TG := tg_3 (i := 79) rfl rfl
theorem wl_X6_44 : Cond.methodLink RX6 44 yX6_clear ∈ TG := tg_3 (i := 80) rfl rfl
theorem wi_X6_clear : Cond.instanceMethod yX6_clear ∈ TG := tg_3 (i := 82) rfl rfl
theorem wc_X6_clear : Cond.code yX6_clear cX6_clear 2 none ∈ TG := tg_3 (i := 83) rfl rfl
theorem wl_X6_51 : Cond.methodLink RX6 51 yX6_layHolders ∈ TG := tg_3 (i := 84) rfl rfl
theorem wi_X6_layHolders : Cond.instanceMethod yX6_layHolders ∈ TG := tg_3 (i := 86) rfl rfl
theorem wc_X6_layHolders : Cond.code yX6_layHolders cX6_layHolders 2 none ∈ TG := tg_3 (i := 87) rfl rfl
theorem wf_X6_66 : Cond.fieldLink RX6 66 "KeyKeepersModel" "way" "I" ∈ TG := tg_3 (i := 88) rfl rfl
theorem wf_X6_7 : Cond.fieldLink RX6 7 "KeyKeepersModel" "n" "I" ∈ TG := tg_3 (i := 89) rfl rfl
theorem wf_X6_13 : Cond.fieldLink RX6 13 "KeyKeepersModel" "parent" "[I" ∈ TG := tg_3 (i := 90) rfl rfl
theorem wf_X6_17 : Cond.fieldLink RX6 17 "KeyKeepersModel" "st" "[I" ∈ TG := tg_3 (i := 91) rfl rfl
theorem wf_X6_20 : Cond.fieldLink RX6 20 "KeyKeepersModel" "ex" "[I" ∈ TG := tg_3 (i := 92) rfl rfl
theorem wf_X6_73 : Cond.fieldLink RX6 73 "KeyKeepersModel" "isOver" "Z" ∈ TG := tg_3 (i := 93) rfl rfl
theorem wf_X6_23 : Cond.fieldLink RX6 23 "KeyKeepersModel" "records" "Z" ∈ TG := tg_3 (i := 94) rfl rfl
theorem wf_X6_57 : Cond.fieldLink RX6 57 "KeyKeepersModel" "acted" "Z" ∈ TG := tg_3 (i := 95) rfl rfl
theorem wf_X6_63 : Cond.fieldLink RX6 63 "KeyKeepersModel" "begins" "I" ∈ TG := tg_3 (i := 96) rfl rfl
theorem wf_X6_60 : Cond.fieldLink RX6 60 "KeyKeepersModel" "passes" "I" ∈ TG := tg_3 (i := 97) rfl rfl
theorem wf_X6_54 : Cond.fieldLink RX6 54 "KeyKeepersModel" "kept" "I" ∈ TG := tg_3 (i := 98) rfl rfl
theorem wf_X6_28 : Cond.fieldLink RX6 28 "KeyKeepersModel" "was" "[I" ∈ TG := tg_3 (i := 99) rfl rfl
theorem wf_X6_31 : Cond.fieldLink RX6 31 "KeyKeepersModel" "back" "[I" ∈ TG := tg_3 (i := 100) rfl rfl
theorem wf_X6_156 : Cond.fieldLink RX6 156 "KeyKeepersModel" "states" "I" ∈ TG := tg_3 (i := 101) rfl rfl
theorem wf_X6_35 : Cond.fieldLink RX6 35 "KeyKeepersModel" "all" "[I" ∈ TG := tg_3 (i := 102) rfl rfl
theorem wf_X6_38 : Cond.fieldLink RX6 38 "KeyKeepersModel" "slots" "[I" ∈ TG := tg_3 (i := 103) rfl rfl
theorem wf_X6_41 : Cond.fieldLink RX6 41 "KeyKeepersModel" "told" "[I" ∈ TG := tg_3 (i := 104) rfl rfl
theorem wf_X6_159 : Cond.fieldLink RX6 159 "KeyKeepersModel" "isSpent" "Z" ∈ TG := tg_3 (i := 105) rfl rfl
theorem wy_X6_way : Cond.lays RX6 "KeyKeepersModel" "way" "I" ∈ TG := tg_3 (i := 106) rfl rfl
theorem wy_X6_n : Cond.lays RX6 "KeyKeepersModel" "n" "I" ∈ TG := tg_3 (i := 108) rfl rfl
theorem wy_X6_parent : Cond.laysFinal RX6 "KeyKeepersModel" "parent" "[I" ∈ TG := tg_3 (i := 110) rfl rfl
theorem wy_X6_st : Cond.laysFinal RX6 "KeyKeepersModel" "st" "[I" ∈ TG := tg_3 (i := 112) rfl rfl
theorem wy_X6_ex : Cond.laysFinal RX6 "KeyKeepersModel" "ex" "[I" ∈ TG := tg_3 (i := 114) rfl rfl
theorem wy_X6_isOver : Cond.lays RX6 "KeyKeepersModel" "isOver" "Z" ∈ TG := tg_3 (i := 116) rfl rfl
theorem wy_X6_records : Cond.lays RX6 "KeyKeepersModel" "records" "Z" ∈ TG := tg_3 (i := 118) rfl rfl
theorem wy_X6_acted : Cond.lays RX6 "KeyKeepersModel" "acted" "Z" ∈ TG := tg_3 (i := 120) rfl rfl
theorem wy_X6_begins : Cond.lays RX6 "KeyKeepersModel" "begins" "I" ∈ TG := tg_3 (i := 122) rfl rfl
theorem wy_X6_passes : Cond.lays RX6 "KeyKeepersModel" "passes" "I" ∈ TG := tg_3 (i := 124) rfl rfl
theorem wy_X6_kept : Cond.lays RX6 "KeyKeepersModel" "kept" "I" ∈ TG := tg_3 (i := 126) rfl rfl
theorem wy_X6_was : Cond.laysFinal RX6 "KeyKeepersModel" "was" "[I" ∈ TG := tg_3 (i := 128) rfl rfl
theorem wy_X6_back : Cond.laysFinal RX6 "KeyKeepersModel" "back" "[I" ∈ TG := tg_3 (i := 130) rfl rfl
theorem wy_X6_states : Cond.lays RX6 "KeyKeepersModel" "states" "I" ∈ TG := tg_3 (i := 132) rfl rfl
theorem wy_X6_all : Cond.laysFinal RX6 "KeyKeepersModel" "all" "[I" ∈ TG := tg_3 (i := 134) rfl rfl
theorem wy_X6_slots : Cond.laysFinal RX6 "KeyKeepersModel" "slots" "[I" ∈ TG := tg_3 (i := 136) rfl rfl
theorem wy_X6_told : Cond.laysFinal RX6 "KeyKeepersModel" "told" "[I" ∈ TG := tg_3 (i := 138) rfl rfl
theorem wy_X6_isSpent : Cond.lays RX6 "KeyKeepersModel" "isSpent" "Z" ∈ TG := tg_3 (i := 140) rfl rfl
theorem wl_L_17 : Cond.methodLink RL 17 yX6_begin ∈ TG := tg_3 (i := 143) rfl rfl
theorem wi_X6_begin : Cond.instanceMethod yX6_begin ∈ TG := tg_3 (i := 144) rfl rfl
theorem ws_X6_begin : Cond.selects RX6 yX6_begin yX6_begin ∈ TG := tg_3 (i := 145) rfl rfl
theorem wc_X6_begin : Cond.code yX6_begin cX6_begin 3 (some .int) ∈ TG := tg_3 (i := 146) rfl rfl
theorem wl_X6_47 : Cond.methodLink RX6 47 yX6_in ∈ TG := tg_3 (i := 147) rfl rfl
theorem wt_X6_in : Cond.static yX6_in ∈ TG := tg_3 (i := 148) rfl rfl
theorem wc_X6_in : Cond.code yX6_in cX6_in 3 (some .boolean) ∈ TG := tg_3 (i := 149) rfl rfl
theorem wl_L_21 : Cond.methodLink RL 21 yX6_parent ∈ TG := tg_3 (i := 150) rfl rfl
theorem wi_X6_parent : Cond.instanceMethod yX6_parent ∈ TG := tg_3 (i := 151) rfl rfl
theorem ws_X6_parent : Cond.selects RX6 yX6_parent yX6_parent ∈ TG := tg_3 (i := 152) rfl rfl
theorem wc_X6_parent : Cond.code yX6_parent cX6_parent 4 (some .int) ∈ TG := tg_3 (i := 153) rfl rfl
theorem wl_L_26 : Cond.methodLink RL 26 yX6_want ∈ TG := tg_3 (i := 154) rfl rfl
theorem wi_X6_want : Cond.instanceMethod yX6_want ∈ TG := tg_3 (i := 155) rfl rfl
theorem ws_X6_want : Cond.selects RX6 yX6_want yX6_want ∈ TG := tg_3 (i := 156) rfl rfl
theorem wc_X6_want : Cond.code yX6_want cX6_want 2 (some .int) ∈ TG := tg_3 (i := 157) rfl rfl
theorem wl_X6_113 : Cond.methodLink RX6 113 yX6_isKeeper ∈ TG := tg_3 (i := 158) rfl rfl
theorem wi_X6_isKeeper : Cond.instanceMethod yX6_isKeeper ∈ TG := tg_3 (i := 160) rfl rfl
theorem wc_X6_isKeeper : Cond.code yX6_isKeeper cX6_isKeeper 2 (some .boolean) ∈ TG := tg_3 (i := 161) rfl rfl
theorem wl_X6_116 : Cond.methodLink RX6 116 yX6_store ∈ TG := tg_3 (i := 162) rfl rfl
theorem wi_X6_store : Cond.instanceMethod yX6_store ∈ TG := tg_3 (i := 164) rfl rfl
theorem wc_X6_store : Cond.code yX6_store cX6_store 2 none ∈ TG := tg_3 (i := 165) rfl rfl
theorem wl_X6_119 : Cond.methodLink RX6 119 yX6_wants ∈ TG := tg_3 (i := 166) rfl rfl
theorem wi_X6_wants : Cond.instanceMethod yX6_wants ∈ TG := tg_3 (i := 168) rfl rfl
theorem wc_X6_wants : Cond.code yX6_wants cX6_wants 3 none ∈ TG := tg_3 (i := 169) rfl rfl
theorem wl_X6_88 : Cond.methodLink RX6 88 yX6_askAll ∈ TG := tg_3 (i := 170) rfl rfl
theorem wi_X6_askAll : Cond.instanceMethod yX6_askAll ∈ TG := tg_3 (i := 172) rfl rfl
theorem wc_X6_askAll : Cond.code yX6_askAll cX6_askAll 4 none ∈ TG := tg_3 (i := 173) rfl rfl
theorem wl_X6_76 : Cond.methodLink RX6 76 yX6_send ∈ TG := tg_3 (i := 174) rfl rfl
theorem wi_X6_send : Cond.instanceMethod yX6_send ∈ TG := tg_3 (i := 176) rfl rfl
theorem wc_X6_send : Cond.code yX6_send cX6_send 7 none ∈ TG := tg_3 (i := 177) rfl rfl
theorem wl_X6_69 : Cond.methodLink RX6 69 yX6_pairAt ∈ TG := tg_3 (i := 178) rfl rfl
theorem wi_X6_pairAt : Cond.instanceMethod yX6_pairAt ∈ TG := tg_3 (i := 180) rfl rfl
theorem wc_X6_pairAt : Cond.code yX6_pairAt cX6_pairAt 3 (some .int) ∈ TG := tg_3 (i := 181) rfl rfl
theorem wl_X6_84 : Cond.methodLink RX6 84 yX6_comesIn ∈ TG := tg_3 (i := 182) rfl rfl
theorem wi_X6_comesIn : Cond.instanceMethod yX6_comesIn ∈ TG := tg_3 (i := 184) rfl rfl
theorem wc_X6_comesIn : Cond.code yX6_comesIn cX6_comesIn 4 none ∈ TG := tg_3 (i := 185) rfl rfl
theorem wl_X6_80 : Cond.methodLink RX6 80 yX6_sent ∈ TG := tg_3 (i := 186) rfl rfl
theorem wi_X6_sent : Cond.instanceMethod yX6_sent ∈ TG := tg_3 (i := 188) rfl rfl
theorem wc_X6_sent : Cond.code yX6_sent cX6_sent 1 (some .int) ∈ TG := tg_3 (i := 189) rfl rfl
theorem wl_X6_92 : Cond.methodLink RX6 92 yX6_queue ∈ TG := tg_3 (i := 190) rfl rfl
theorem wi_X6_queue : Cond.instanceMethod yX6_queue ∈ TG := tg_3 (i := 192) rfl rfl
theorem wc_X6_queue : Cond.code yX6_queue cX6_queue 4 none ∈ TG := tg_3 (i := 193) rfl rfl
theorem wl_X6_95 : Cond.methodLink RX6 95 yX6_rules ∈ TG := tg_3 (i := 194) rfl rfl
theorem wi_X6_rules : Cond.instanceMethod yX6_rules ∈ TG := tg_3 (i := 196) rfl rfl
theorem wc_X6_rules : Cond.code yX6_rules cX6_rules 5 none ∈ TG := tg_3 (i := 197) rfl rfl
theorem wl_X6_122 : Cond.methodLink RX6 122 yX6_stands ∈ TG := tg_3 (i := 198) rfl rfl
theorem wi_X6_stands : Cond.instanceMethod yX6_stands ∈ TG := tg_3 (i := 200) rfl rfl
theorem wc_X6_stands : Cond.code yX6_stands cX6_stands 2 (some .boolean) ∈ TG := tg_3 (i := 201) rfl rfl
theorem wk_X6_112 : Cond.constant RX6 112 35670 ∈ TG := tg_3 (i := 202) rfl rfl
theorem wl_L_30 : Cond.methodLink RL 30 yX6_leave ∈ TG := tg_3 (i := 203) rfl rfl
theorem wi_X6_leave : Cond.instanceMethod yX6_leave ∈ TG := tg_3 (i := 204) rfl rfl
theorem ws_X6_leave : Cond.selects RX6 yX6_leave yX6_leave ∈ TG := tg_3 (i := 205) rfl rfl
theorem wc_X6_leave : Cond.code yX6_leave cX6_leave 3 (some .int) ∈ TG := tg_3 (i := 206) rfl rfl
theorem wl_X6_126 : Cond.methodLink RX6 126 yX6_leaves ∈ TG := tg_3 (i := 207) rfl rfl
theorem wi_X6_leaves : Cond.instanceMethod yX6_leaves ∈ TG := tg_3 (i := 209) rfl rfl
theorem wc_X6_leaves : Cond.code yX6_leaves cX6_leaves 5 none ∈ TG := tg_3 (i := 210) rfl rfl
theorem wl_X6_98 : Cond.methodLink RX6 98 yX6_isRowed ∈ TG := tg_3 (i := 211) rfl rfl
theorem wi_X6_isRowed : Cond.instanceMethod yX6_isRowed ∈ TG := tg_3 (i := 213) rfl rfl
theorem wc_X6_isRowed : Cond.code yX6_isRowed cX6_isRowed 4 (some .boolean) ∈ TG := tg_3 (i := 214) rfl rfl
theorem wl_X6_102 : Cond.methodLink RX6 102 yX6_passToken ∈ TG := tg_3 (i := 215) rfl rfl
theorem wi_X6_passToken : Cond.instanceMethod yX6_passToken ∈ TG := tg_3 (i := 217) rfl rfl
theorem wc_X6_passToken : Cond.code yX6_passToken cX6_passToken 3 none ∈ TG := tg_3 (i := 218) rfl rfl
theorem wl_L_34 : Cond.methodLink RL 34 yX6_come ∈ TG := tg_3 (i := 219) rfl rfl
theorem wi_X6_come : Cond.instanceMethod yX6_come ∈ TG := tg_3 (i := 220) rfl rfl
theorem ws_X6_come : Cond.selects RX6 yX6_come yX6_come ∈ TG := tg_3 (i := 221) rfl rfl
theorem wc_X6_come : Cond.code yX6_come cX6_come 4 (some .int) ∈ TG := tg_3 (i := 222) rfl rfl
theorem wl_X6_129 : Cond.methodLink RX6 129 yX6_comes ∈ TG := tg_3 (i := 223) rfl rfl
theorem wi_X6_comes : Cond.instanceMethod yX6_comes ∈ TG := tg_3 (i := 225) rfl rfl
theorem wc_X6_comes : Cond.code yX6_comes cX6_comes 7 (some .int) ∈ TG := tg_3 (i := 226) rfl rfl
theorem wl_X6_105 : Cond.methodLink RX6 105 yX6_dropEldest ∈ TG := tg_3 (i := 227) rfl rfl
theorem wi_X6_dropEldest : Cond.instanceMethod yX6_dropEldest ∈ TG := tg_3 (i := 229) rfl rfl
theorem wc_X6_dropEldest : Cond.code yX6_dropEldest cX6_dropEldest 3 none ∈ TG := tg_3 (i := 230) rfl rfl
theorem wl_X6_108 : Cond.methodLink RX6 108 yX6_askedComes ∈ TG := tg_3 (i := 231) rfl rfl
theorem wi_X6_askedComes : Cond.instanceMethod yX6_askedComes ∈ TG := tg_3 (i := 233) rfl rfl
theorem wc_X6_askedComes : Cond.code yX6_askedComes cX6_askedComes 7 none ∈ TG := tg_3 (i := 234) rfl rfl
theorem wl_L_38 : Cond.methodLink RL 38 yX6_run ∈ TG := tg_3 (i := 235) rfl rfl
theorem wi_X6_run : Cond.instanceMethod yX6_run ∈ TG := tg_3 (i := 236) rfl rfl
theorem ws_X6_run : Cond.selects RX6 yX6_run yX6_run ∈ TG := tg_3 (i := 237) rfl rfl
theorem wc_X6_run : Cond.code yX6_run cX6_run 9 (some .int) ∈ TG := tg_3 (i := 238) rfl rfl
theorem wl_X6_132 : Cond.methodLink RX6 132 yX6_pairOf ∈ TG := tg_3 (i := 239) rfl rfl
theorem wi_X6_pairOf : Cond.instanceMethod yX6_pairOf ∈ TG := tg_4 (i := 1) rfl rfl
theorem wc_X6_pairOf : Cond.code yX6_pairOf cX6_pairOf 5 (some .int) ∈ TG := tg_4 (i := 2) rfl rfl
theorem wl_X6_136 : Cond.methodLink RX6 136 yX6_come ∈ TG := tg_4 (i := 3) rfl rfl
theorem wk_X6_139 : Cond.constantLong RX6 139 1103515245 ∈ TG := tg_4 (i := 4) rfl rfl
theorem wk_X6_141 : Cond.constantLong RX6 141 12345 ∈ TG := tg_4 (i := 5) rfl rfl
theorem wk_X6_143 : Cond.constantLong RX6 143 2147483648 ∈ TG := tg_4 (i := 6) rfl rfl
theorem wk_X6_145 : Cond.constantLong RX6 145 8 ∈ TG := tg_4 (i := 7) rfl rfl
theorem wl_L_42 : Cond.methodLink RL 42 yX6_keeper ∈ TG := tg_4 (i := 8) rfl rfl
theorem wi_X6_keeper : Cond.instanceMethod yX6_keeper ∈ TG := tg_4 (i := 9) rfl rfl
theorem ws_X6_keeper : Cond.selects RX6 yX6_keeper yX6_keeper ∈ TG := tg_4 (i := 10) rfl rfl
theorem wc_X6_keeper : Cond.code yX6_keeper cX6_keeper 4 (some .int) ∈ TG := tg_4 (i := 11) rfl rfl
theorem wl_X6_147 : Cond.methodLink RX6 147 yX6_hasToken ∈ TG := tg_4 (i := 12) rfl rfl
theorem wi_X6_hasToken : Cond.instanceMethod yX6_hasToken ∈ TG := tg_4 (i := 14) rfl rfl
theorem wc_X6_hasToken : Cond.code yX6_hasToken cX6_hasToken 2 (some .boolean) ∈ TG := tg_4 (i := 15) rfl rfl
theorem wl_L_46 : Cond.methodLink RL 46 yX6_knows ∈ TG := tg_4 (i := 16) rfl rfl
theorem wi_X6_knows : Cond.instanceMethod yX6_knows ∈ TG := tg_4 (i := 17) rfl rfl
theorem ws_X6_knows : Cond.selects RX6 yX6_knows yX6_knows ∈ TG := tg_4 (i := 18) rfl rfl
theorem wc_X6_knows : Cond.code yX6_knows cX6_knows 3 (some .int) ∈ TG := tg_4 (i := 19) rfl rfl
theorem wl_L_50 : Cond.methodLink RL 50 yX6_token ∈ TG := tg_4 (i := 20) rfl rfl
theorem wi_X6_token : Cond.instanceMethod yX6_token ∈ TG := tg_4 (i := 21) rfl rfl
theorem ws_X6_token : Cond.selects RX6 yX6_token yX6_token ∈ TG := tg_4 (i := 22) rfl rfl
theorem wc_X6_token : Cond.code yX6_token cX6_token 3 (some .int) ∈ TG := tg_4 (i := 23) rfl rfl
theorem wl_L_55 : Cond.methodLink RL 55 yX6_letter ∈ TG := tg_4 (i := 24) rfl rfl
theorem wi_X6_letter : Cond.instanceMethod yX6_letter ∈ TG := tg_4 (i := 25) rfl rfl
theorem ws_X6_letter : Cond.selects RX6 yX6_letter yX6_letter ∈ TG := tg_4 (i := 26) rfl rfl
theorem wc_X6_letter : Cond.code yX6_letter cX6_letter 6 (some .int) ∈ TG := tg_4 (i := 27) rfl rfl
theorem wl_L_59 : Cond.methodLink RL 59 yX6_entry ∈ TG := tg_4 (i := 28) rfl rfl
theorem wi_X6_entry : Cond.instanceMethod yX6_entry ∈ TG := tg_4 (i := 29) rfl rfl
theorem ws_X6_entry : Cond.selects RX6 yX6_entry yX6_entry ∈ TG := tg_4 (i := 30) rfl rfl
theorem wc_X6_entry : Cond.code yX6_entry cX6_entry 3 (some .int) ∈ TG := tg_4 (i := 31) rfl rfl
theorem wl_L_64 : Cond.methodLink RL 64 yX6_undo ∈ TG := tg_4 (i := 32) rfl rfl
theorem wi_X6_undo : Cond.instanceMethod yX6_undo ∈ TG := tg_4 (i := 33) rfl rfl
theorem ws_X6_undo : Cond.selects RX6 yX6_undo yX6_undo ∈ TG := tg_4 (i := 34) rfl rfl
theorem wc_X6_undo : Cond.code yX6_undo cX6_undo 2 (some .int) ∈ TG := tg_4 (i := 35) rfl rfl
theorem wl_L_68 : Cond.methodLink RL 68 yX6_pass ∈ TG := tg_4 (i := 36) rfl rfl
theorem wi_X6_pass : Cond.instanceMethod yX6_pass ∈ TG := tg_4 (i := 37) rfl rfl
theorem ws_X6_pass : Cond.selects RX6 yX6_pass yX6_pass ∈ TG := tg_4 (i := 38) rfl rfl
theorem wc_X6_pass : Cond.code yX6_pass cX6_pass 2 (some .int) ∈ TG := tg_4 (i := 39) rfl rfl
theorem wl_X6_162 : Cond.methodLink RX6 162 yX6_meets ∈ TG := tg_4 (i := 40) rfl rfl
theorem wi_X6_meets : Cond.instanceMethod yX6_meets ∈ TG := tg_4 (i := 42) rfl rfl
theorem wc_X6_meets : Cond.code yX6_meets cX6_meets 3 none ∈ TG := tg_4 (i := 43) rfl rfl
theorem wl_X6_153 : Cond.methodLink RX6 153 yX6_slotOf ∈ TG := tg_4 (i := 44) rfl rfl
theorem wi_X6_slotOf : Cond.instanceMethod yX6_slotOf ∈ TG := tg_4 (i := 46) rfl rfl
theorem wc_X6_slotOf : Cond.code yX6_slotOf cX6_slotOf 3 (some .int) ∈ TG := tg_4 (i := 47) rfl rfl
theorem wl_X6_150 : Cond.methodLink RX6 150 yX6_isState ∈ TG := tg_4 (i := 48) rfl rfl
theorem wi_X6_isState : Cond.instanceMethod yX6_isState ∈ TG := tg_4 (i := 50) rfl rfl
theorem wc_X6_isState : Cond.code yX6_isState cX6_isState 4 (some .boolean) ∈ TG := tg_4 (i := 51) rfl rfl
theorem wl_X6_183 : Cond.methodLink RX6 183 yX6_visit ∈ TG := tg_4 (i := 52) rfl rfl
theorem wi_X6_visit : Cond.instanceMethod yX6_visit ∈ TG := tg_4 (i := 54) rfl rfl
theorem wc_X6_visit : Cond.code yX6_visit cX6_visit 6 none ∈ TG := tg_4 (i := 55) rfl rfl
theorem wl_X6_165 : Cond.methodLink RX6 165 yX6_load ∈ TG := tg_4 (i := 56) rfl rfl
theorem wi_X6_load : Cond.instanceMethod yX6_load ∈ TG := tg_4 (i := 58) rfl rfl
theorem wc_X6_load : Cond.code yX6_load cX6_load 3 none ∈ TG := tg_4 (i := 59) rfl rfl
theorem wl_X6_168 : Cond.methodLink RX6 168 yX6_ofMode ∈ TG := tg_4 (i := 60) rfl rfl
theorem wi_X6_ofMode : Cond.instanceMethod yX6_ofMode ∈ TG := tg_4 (i := 62) rfl rfl
theorem wc_X6_ofMode : Cond.code yX6_ofMode cX6_ofMode 4 (some .int) ∈ TG := tg_4 (i := 63) rfl rfl
theorem wl_X6_171 : Cond.methodLink RX6 171 yX6_more ∈ TG := tg_4 (i := 64) rfl rfl
theorem wt_X6_more : Cond.static yX6_more ∈ TG := tg_4 (i := 65) rfl rfl
theorem wc_X6_more : Cond.code yX6_more cX6_more 2 (some .int) ∈ TG := tg_4 (i := 66) rfl rfl
theorem wl_X6_174 : Cond.methodLink RX6 174 yX6_underWay ∈ TG := tg_4 (i := 67) rfl rfl
theorem wi_X6_underWay : Cond.instanceMethod yX6_underWay ∈ TG := tg_4 (i := 69) rfl rfl
theorem wc_X6_underWay : Cond.code yX6_underWay cX6_underWay 3 (some .int) ∈ TG := tg_4 (i := 70) rfl rfl
theorem wl_X6_177 : Cond.methodLink RX6 177 yX6_isTokenSomewhere ∈ TG := tg_4 (i := 71) rfl rfl
theorem wi_X6_isTokenSomewhere : Cond.instanceMethod yX6_isTokenSomewhere ∈ TG := tg_4 (i := 73) rfl rfl
theorem wc_X6_isTokenSomewhere : Cond.code yX6_isTokenSomewhere cX6_isTokenSomewhere 5 (some .boolean) ∈ TG := tg_4 (i := 74) rfl rfl
theorem wl_X6_180 : Cond.methodLink RX6 180 yX6_goes ∈ TG := tg_4 (i := 75) rfl rfl
theorem wi_X6_goes : Cond.instanceMethod yX6_goes ∈ TG := tg_4 (i := 77) rfl rfl
theorem wc_X6_goes : Cond.code yX6_goes cX6_goes 1 (some .int) ∈ TG := tg_4 (i := 78) rfl rfl
theorem wl_L_72 : Cond.methodLink RL 72 yX6_passed ∈ TG := tg_4 (i := 79) rfl rfl
theorem wi_X6_passed : Cond.instanceMethod yX6_passed ∈ TG := tg_4 (i := 80) rfl rfl
theorem ws_X6_passed : Cond.selects RX6 yX6_passed yX6_passed ∈ TG := tg_4 (i := 81) rfl rfl
theorem wc_X6_passed : Cond.code yX6_passed cX6_passed 2 (some .int) ∈ TG := tg_4 (i := 82) rfl rfl
theorem wl_L_76 : Cond.methodLink RL 76 yX6_count ∈ TG := tg_4 (i := 83) rfl rfl
theorem wi_X6_count : Cond.instanceMethod yX6_count ∈ TG := tg_4 (i := 84) rfl rfl
theorem ws_X6_count : Cond.selects RX6 yX6_count yX6_count ∈ TG := tg_4 (i := 85) rfl rfl
theorem wc_X6_count : Cond.code yX6_count cX6_count 2 (some .int) ∈ TG := tg_4 (i := 86) rfl rfl
theorem wu_X0 : ∀ w ∈ u_ws RX0 TX0 1, w ∈ TG := by
  intro w hw
  obtain ⟨k, hk, rfl⟩ := List.mem_map.mp hw
  have hk := List.mem_range.mp hk
  match k, hk with
  | 0, _ => exact wy_X0_lines
  | k + 1, h => omega
theorem wu_X1 : ∀ w ∈ u_ws RX1 TX1 4, w ∈ TG := by
  intro w hw
  obtain ⟨k, hk, rfl⟩ := List.mem_map.mp hw
  have hk := List.mem_range.mp hk
  match k, hk with
  | 0, _ => exact wy_X1_stand
  | 1, _ => exact wy_X1_rows
  | 2, _ => exact wy_X1_place
  | 3, _ => exact wy_X1_kept
  | k + 4, h => omega
theorem wu_X2 : ∀ w ∈ u_ws RX2 TX2 10, w ∈ TG := by
  intro w hw
  obtain ⟨k, hk, rfl⟩ := List.mem_map.mp hw
  have hk := List.mem_range.mp hk
  match k, hk with
  | 0, _ => exact wy_X2_stand
  | 1, _ => exact wy_X2_ways
  | 2, _ => exact wy_X2_states
  | 3, _ => exact wy_X2_hashes
  | 4, _ => exact wy_X2_table
  | 5, _ => exact wy_X2_before
  | 6, _ => exact wy_X2_told
  | 7, _ => exact wy_X2_found
  | 8, _ => exact wy_X2_spent
  | 9, _ => exact wy_X2_brought
  | k + 10, h => omega
theorem wu_X3 : ∀ w ∈ u_ws RX3 TX3 4, w ∈ TG := by
  intro w hw
  obtain ⟨k, hk, rfl⟩ := List.mem_map.mp hw
  have hk := List.mem_range.mp hk
  match k, hk with
  | 0, _ => exact wy_X3_row
  | 1, _ => exact wy_X3_way
  | 2, _ => exact wy_X3_n
  | 3, _ => exact wy_X3_tooMany
  | k + 4, h => omega
theorem wu_X4 : ∀ w ∈ u_ws RX4 TX4 3, w ∈ TG := by
  intro w hw
  obtain ⟨k, hk, rfl⟩ := List.mem_map.mp hw
  have hk := List.mem_range.mp hk
  match k, hk with
  | 0, _ => exact wy_X4_stand
  | 1, _ => exact wy_X4_book
  | 2, _ => exact wy_X4_writing
  | k + 3, h => omega
theorem wu_X5 : ∀ w ∈ u_ws RX5 TX5 8, w ∈ TG := by
  intro w hw
  obtain ⟨k, hk, rfl⟩ := List.mem_map.mp hw
  have hk := List.mem_range.mp hk
  match k, hk with
  | 0, _ => exact wy_X5_stand
  | 1, _ => exact wy_X5_book
  | 2, _ => exact wy_X5_ways
  | 3, _ => exact wy_X5_past
  | 4, _ => exact wy_X5_search
  | 5, _ => exact wy_X5_begins
  | 6, _ => exact wy_X5_passes
  | 7, _ => exact wy_X5_acted
  | k + 8, h => omega
theorem wu_X6 : ∀ w ∈ u_ws RX6 TX6 18, w ∈ TG := by
  intro w hw
  obtain ⟨k, hk, rfl⟩ := List.mem_map.mp hw
  have hk := List.mem_range.mp hk
  match k, hk with
  | 0, _ => exact wy_X6_way
  | 1, _ => exact wy_X6_n
  | 2, _ => exact wy_X6_parent
  | 3, _ => exact wy_X6_st
  | 4, _ => exact wy_X6_ex
  | 5, _ => exact wy_X6_isOver
  | 6, _ => exact wy_X6_records
  | 7, _ => exact wy_X6_acted
  | 8, _ => exact wy_X6_begins
  | 9, _ => exact wy_X6_passes
  | 10, _ => exact wy_X6_kept
  | 11, _ => exact wy_X6_was
  | 12, _ => exact wy_X6_back
  | 13, _ => exact wy_X6_states
  | 14, _ => exact wy_X6_all
  | 15, _ => exact wy_X6_slots
  | 16, _ => exact wy_X6_told
  | 17, _ => exact wy_X6_isSpent
  | k + 18, h => omega
end
section
abbrev Wo : Type := Nat → Nat → Int32
abbrev Re : Type := Option (Int32 × Wo)
/-- one number of one cell is written -/
def wr (u : Wo) (c k : Nat) (v : Int32) : Wo := fun d => if d = c then upd (u c) k v else u d
/-- a stretch of a cell is written over with a stretch of a cell -/
def wcp (u : Wo) (a : Nat) (i : Nat) (b : Nat) (j n : Nat) : Wo := fun d => if d = b then va_cpy (u a) (u b) i j n else u d
def inb (i : Int32) (n : Nat) : Bool := decide (¬ i < 0) && decide (i.toNatClampNeg < n)
def zb (v : Int32) : Bool := v == 0 || v == 1
def cpo (i j n : Int32) (a b : Nat) : Bool := decide (¬ i < 0) && (decide (¬ j < 0) && (decide (¬ n < 0) && (decide (i.toNatClampNeg + n.toNatClampNeg ≤ a) && decide (j.toNatClampNeg + n.toNatClampNeg ≤ b))))
def gi (b : Bool) (k : Re) : Re := match b with
  | true => k
  | false => none
def bd (x : Re) (f : Int32 → Wo → Re) : Re := match x with
  | none => none
  | some q => f q.1 q.2
def bw (u : Wo) (f : Wo → Re) : Re := f u
/-- more turns than any loop takes -/
noncomputable def FU : Nat := Classical.choose (⟨1048576, Nat.le_refl _⟩ : ∃ n : Nat, 1048576 ≤ n)
theorem FU_ge : 1048576 ≤ FU := Classical.choose_spec (⟨1048576, Nat.le_refl _⟩ : ∃ n : Nat, 1048576 ≤ n)
theorem gi_some {b : Bool} {k : Re} {o : Int32 × Wo} (h : gi b k = some o) : b = true ∧ k = some o := by
  cases b with
  | true => exact ⟨rfl, h⟩
  | false => cases h
theorem bd_some {x : Re} {f : Int32 → Wo → Re} {o : Int32 × Wo} (h : bd x f = some o) : ∃ (r : Int32) (u : Wo), x = some (r, u) ∧ f r u = some o := by
  cases x with
  | none => cases h
  | some q => exact ⟨q.1, q.2, rfl, h⟩
theorem bw_some {u : Wo} {f : Wo → Re} {o : Int32 × Wo} (h : bw u f = some o) : ∃ u1 : Wo, u = u1 ∧ f u1 = some o := ⟨u, rfl, h⟩
theorem inb_in {i : Int32} {n : Nat} (h : inb i n = true) : vp_in i n := by
  simp only [inb, Bool.and_eq_true, decide_eq_true_eq] at h
  exact fun q => q.elim h.1 (fun q => absurd h.2 (Nat.not_lt.mpr q))
theorem zb_nar {v : Int32} (h : zb v = true) : narrow .boolean (.int v) = .int v := by
  simp only [zb, Bool.or_eq_true, beq_iff_eq] at h
  rcases h with rfl | rfl <;> rfl
theorem zb_fit {v : Int32} (h : zb v = true) : fits .boolean (.int v) = true := by
  simp only [zb, Bool.or_eq_true, beq_iff_eq] at h
  rcases h with rfl | rfl <;> rfl
def rmk (fr lo : Nat) : Room := { frames := fr, cells := 0, slots := 0, locals := lo }
/-- which cells a side's methods may change: its own -/
def AF (ad : Nat → Nat) (n : Nat) : Nat → Prop := fun q => ∃ k, k < n ∧ q = ad k
def AP (ad : Nat → Nat) (n : Nat) : Prop := ∀ i j, i < n → j < n → ad i = ad j → i = j
/-- a method's end: its answer and the side's numbers behind it -/
def QI (dC : Nat → ClassId) (dI : Nat → Nat → Nat) (cI : ClassId) (Wf : Wo → va_W) (A : Nat → Prop) (r : Int32) (u : Wo) : Array Value → State → Outcome → State → Prop := va_Qi (fun (r1 : Int32) (u1 : Wo) => r1 = r ∧ u1 = u) (fun u1 t => va_P (dC, dI) vwCl (Wf u1) t.heap ∧ va_K (dC, dI) vwCl [(cI, .int)] t) A
def QV (dC : Nat → ClassId) (dI : Nat → Nat → Nat) (cI : ClassId) (Wf : Wo → va_W) (A : Nat → Prop) (u : Wo) : Array Value → State → Outcome → State → Prop := va_Qv (fun (u1 : Wo) => u1 = u) (fun u1 t => va_P (dC, dI) vwCl (Wf u1) t.heap ∧ va_K (dC, dI) vwCl [(cI, .int)] t) A
def PW (dC : Nat → ClassId) (dI : Nat → Nat → Nat) (cI : ClassId) (Wf : Wo → va_W) (u : Wo) : State → Prop := fun U => va_P (dC, dI) vwCl (Wf u) U.heap ∧ va_K (dC, dI) vwCl [(cI, .int)] U
/-- a method that answers a number -/
def CI (l : Launch) (dC : Nat → ClassId) (dI : Nat → Nat → Nat) (cI : ClassId) (Wf : Wo → va_W) (A : Nat → Prop) (y : MethodName) (cy : ByteArray) (ny : Nat) (ry : Option FieldType) (fr lo : Nat) (av : List Value) (u : Wo) (r : Int32) (u1 : Wo) : Prop :=
  Met l y (Cond.code y cy ny ry :: TG) (rmk fr lo) (va_Pc av (PW dC dI cI Wf u)) (QI dC dI cI Wf A r u1) 0 0 A
/-- a method that answers nothing -/
def CV (l : Launch) (dC : Nat → ClassId) (dI : Nat → Nat → Nat) (cI : ClassId) (Wf : Wo → va_W) (A : Nat → Prop) (y : MethodName) (cy : ByteArray) (ny : Nat) (ry : Option FieldType) (fr lo : Nat) (av : List Value) (u : Wo) (u1 : Wo) : Prop :=
  Met l y (Cond.code y cy ny ry :: TG) (rmk fr lo) (va_Pc av (PW dC dI cI Wf u)) (QV dC dI cI Wf A u1) 0 0 A
/-- from any heap that holds the numbers u, at pc, with these locals and this stack -/
def J (p : Program) (l : Launch) (e : Env) (R : Room) (s : State) (m : MethodId) (args : Array Value) (below : List Frame) (meth : Method) (c : Code) (dC : Nat → ClassId) (dI : Nat → Nat → Nat) (Wf : Wo → va_W) (A : Nat → Prop) (Q : State → Prop) (u : Wo) (pc nL : Nat) (lv : List (Nat × Value)) (st : List Value) : Prop :=
  ∀ (H : Heap) (locs : List Loc) (ls : Array Slot), va_P (dC, dI) vwCl (Wf u) H → va_S A s.heap H locs → lv_has ls nL lv → W p l e R s m args below meth c H locs 0 0 Q (F0 m pc ls st)
theorem pw_blind {dC : Nat → ClassId} {dI : Nat → Nat → Nat} {cI : ClassId} {Wf : Wo → va_W} {u : Wo} {av : List Value} : FrameBlind (va_Pc av (PW dC dI cI Wf u)) := fun a U g mk q => ⟨q.1, q.2.1, va_K.moved (u := U) (U := U.calling g mk a) (Vm.Alike.refl U.vm) q.2.2⟩
theorem ci_begin {l : Launch} {dC : Nat → ClassId} {dI : Nat → Nat → Nat} {cI : ClassId} {Wf : Wo → va_W} {A : Nat → Prop} {y : MethodName} {cy : ByteArray} {ny : Nat} {ry : Option FieldType} {fr lo : Nat} {av : List Value} {u : Wo} {r : Int32} {u1 : Wo} (hy : plainName y.cls = true) (hn : (lg_sl av).length ≤ ny)
    (body : ∀ p e s m args below meth c, CallFix p m c cy ny s args (Cond.code y cy ny ry :: TG) y.cls → meth.sig.returnType = ry → meth.locks = false → va_K (dC, dI) vwCl [(cI, .int)] s → J p l e (rmk fr lo) s m args below meth c dC dI Wf A (MQ below (QI dC dI cI Wf A r u1) args s 0 0 A) u 0 ny (lv_args 0 av) []) : CI l dC dI cI Wf A y cy ny ry fr lo av u r u1 := by
  refine Met.ofW (cc := cy) (maxL := ny) (ret := ry) hy rfl ?_
  intro p e s m args below meth c s₁ B hml hv
  obtain ⟨rfl, hP, hK⟩ := hv
  rw [lg_entry_eq]
  exact body p e s m av.toArray below meth c ⟨B.exec, B.bytes, hml, findClass_of_methodNamed B.named, atoms_spec (ws := Cond.code y cy ny ry :: TG) B.pre⟩ B.returns B.notSynchronized hK s.heap [] _ hP va_S.rf (lv_entry av hn)
theorem cv_begin {l : Launch} {dC : Nat → ClassId} {dI : Nat → Nat → Nat} {cI : ClassId} {Wf : Wo → va_W} {A : Nat → Prop} {y : MethodName} {cy : ByteArray} {ny : Nat} {ry : Option FieldType} {fr lo : Nat} {av : List Value} {u : Wo} {u1 : Wo} (hy : plainName y.cls = true) (hn : (lg_sl av).length ≤ ny)
    (body : ∀ p e s m args below meth c, CallFix p m c cy ny s args (Cond.code y cy ny ry :: TG) y.cls → meth.sig.returnType = ry → meth.locks = false → va_K (dC, dI) vwCl [(cI, .int)] s → J p l e (rmk fr lo) s m args below meth c dC dI Wf A (MQ below (QV dC dI cI Wf A u1) args s 0 0 A) u 0 ny (lv_args 0 av) []) : CV l dC dI cI Wf A y cy ny ry fr lo av u u1 := by
  refine Met.ofW (cc := cy) (maxL := ny) (ret := ry) hy rfl ?_
  intro p e s m args below meth c s₁ B hml hv
  obtain ⟨rfl, hP, hK⟩ := hv
  rw [lg_entry_eq]
  exact body p e s m av.toArray below meth c ⟨B.exec, B.bytes, hml, findClass_of_methodNamed B.named, atoms_spec (ws := Cond.code y cy ny ry :: TG) B.pre⟩ B.returns B.notSynchronized hK s.heap [] _ hP va_S.rf (lv_entry av hn)
section CX
variable {p : Program} {l : Launch} {e : Env} {R : Room} {s : State} {m : MethodId} {args : Array Value} {below : List Frame} {meth : Method} {c : Code} {H : Heap} {locs : List Loc} {Q : State → Prop} {cc : ByteArray} {nL pc : Nat} {ls : Array Slot} {rest : List Value} {y0 : MethodName} {c0 : ByteArray} {n0 : Nat} {r0 : Option FieldType} {own : String} {dC : Nat → ClassId} {dI : Nat → Nat → Nat} {cI : ClassId} {Wf : Wo → va_W} {A : Nat → Prop} {u : Wo} {index : Nat}
theorem x_iret {r v : Int32} {u1 : Wo} (S : CallFix p m c cc nL s args (Cond.code y0 c0 n0 r0 :: TG) own) (hr : meth.sig.returnType = some .int) (hlk : meth.locks = false) (hK : va_K (dC, dI) vwCl [(cI, .int)] s) (hP : va_P (dC, dI) vwCl (Wf u) H) (hS : va_S A s.heap H locs) (h : some (v, u) = some (r, u1)) (hd : decode cc pc = .ok (.ireturn, 1)) : W p l e R s m args below meth c H locs 0 0 (MQ below (QI dC dI cI Wf A r u1) args s 0 0 A) (F0 m pc ls [.int v]) := by
  obtain ⟨rfl, rfl⟩ : v = r ∧ u = u1 := by injection h with h; exact ⟨congrArg Prod.fst h, congrArg Prod.snd h⟩
  exact W.iret S.1 S.2.1 hr (fun t ht hW => ⟨⟨v, u, rfl, ⟨rfl, rfl⟩, by rw [ht]; exact hP, va_K.moved hW.alike hK⟩, hS.F ht⟩) hS.2.2 hd hlk
theorem x_zret {r v : Int32} {u1 : Wo} (S : CallFix p m c cc nL s args (Cond.code y0 c0 n0 r0 :: TG) own) (hr : meth.sig.returnType = some .boolean) (hlk : meth.locks = false) (hK : va_K (dC, dI) vwCl [(cI, .int)] s) (hP : va_P (dC, dI) vwCl (Wf u) H) (hS : va_S A s.heap H locs) (hz : zb v = true) (h : some (v, u) = some (r, u1)) (hd : decode cc pc = .ok (.ireturn, 1)) : W p l e R s m args below meth c H locs 0 0 (MQ below (QI dC dI cI Wf A r u1) args s 0 0 A) (F0 m pc ls [.int v]) := by
  obtain ⟨rfl, rfl⟩ : v = r ∧ u = u1 := by injection h with h; exact ⟨congrArg Prod.fst h, congrArg Prod.snd h⟩
  exact W.zret S.1 S.2.1 hr (zb_nar hz) (fun t ht hW => ⟨⟨v, u, rfl, ⟨rfl, rfl⟩, by rw [ht]; exact hP, va_K.moved hW.alike hK⟩, hS.F ht⟩) hS.2.2 hd hlk
theorem x_vret {v r : Int32} {u1 : Wo} (S : CallFix p m c cc nL s args (Cond.code y0 c0 n0 r0 :: TG) own) (hr : meth.sig.returnType = none) (hlk : meth.locks = false) (hK : va_K (dC, dI) vwCl [(cI, .int)] s) (hP : va_P (dC, dI) vwCl (Wf u) H) (hS : va_S A s.heap H locs) (h : some (v, u) = some (r, u1)) (hd : decode cc pc = .ok (.return_, 1)) : W p l e R s m args below meth c H locs 0 0 (MQ below (QV dC dI cI Wf A u1) args s 0 0 A) (F0 m pc ls []) := by
  obtain rfl : u = u1 := by injection h with h; exact congrArg Prod.snd h
  exact W.vret S.1 S.2.1 hr (fun t ht hW => ⟨⟨u, rfl, rfl, by rw [ht]; exact hP, va_K.moved hW.alike hK⟩, hS.F ht⟩) hS.2.2 hd hlk
theorem x_vi {y : MethodName} {cy : ByteArray} {ny : Nat} {ry : Option FieldType} {fr lo b : Nat} {As st0 : List Value} {r : Int32} {u1 : Wo} (S : CallFix p m c cc nL s args (Cond.code y0 c0 n0 r0 :: TG) own) (hK : va_K (dC, dI) vwCl [(cI, .int)] s) (hP : va_P (dC, dI) vwCl (Wf u) H) (hS : va_S A s.heap H locs)
    (hC : CI l dC dI cI Wf A y cy ny ry fr lo (.ref b :: As) u r u1) {ci q0 N : Nat} {T : u_T} {fs : List Value} (hc : vwCl[ci]? = some (y.cls, T, N)) (he : (Wf u)[q0]? = some (b, .inr (ci, fs)))
    (hl : Cond.methodLink own index y ∈ TG) (hi : Cond.instanceMethod y ∈ TG) (hs : Cond.selects y.cls y y ∈ TG) (hz : Cond.initialized y.cls ∈ TG) (hcd : Cond.code y cy ny ry ∈ TG)
    (hy : y.cls ≠ "java/lang/invoke/MethodHandle" ∧ y.cls ≠ "java/lang/invoke/VarHandle" ∧ (parseMethodDescriptor y.desc).map (fun d => d.parameters.length) = some As.length)
    (hR : fr + 1 ≤ R.frames ∧ 8 + (ny + 11) + lo ≤ R.locals) (hsz : ls.size = nL) (hst : st0 = As.reverse ++ .ref b :: rest) (hW : (rest.map fun v => v.category).sum ≤ 8) (hd : decode cc pc = .ok (.invokevirtual index, 3))
    (k : ∀ (H1 : Heap) (locs1 : List Loc), va_P (dC, dI) vwCl (Wf u1) H1 → va_S A s.heap H1 locs1 → W p l e R s m args below meth c H1 locs1 0 0 Q (F0 m (pc + 3) ls (.int r :: rest))) : W p l e R s m args below meth c H locs 0 0 Q (F0 m pc ls st0) := by
  subst hst
  have hG : GoodIn (Cond.code y0 c0 n0 r0 :: TG) (wsV own index y.cls y (Cond.code y cy ny ry :: TG)) := fun w hw => by
    rcases List.mem_append.mp hw with hw | hw
    · have : w ∈ TG := by
        simp only [List.mem_cons, List.not_mem_nil, or_false] at hw
        rcases hw with rfl | rfl | rfl | rfl <;> assumption
      exact tg_c w this
    · exact tg_cc hcd w hw
  refine va_calli (va_runV (As := As) (rest := rest) S hC (cwV As.length S.2.2.2.2 hG rfl rfl rfl ⟨rfl, hy⟩ hR) ⟨pw_blind, va_recv hK hP hc he, fun U hU hW => ⟨rfl, by rw [hU]; exact hP, va_K.moved hW.alike hK⟩⟩ rfl rfl hsz rfl (lv_room hW) hd ⟨Nat.zero_le _, Nat.zero_le _⟩) hS (fun q _ h => h) (fun q h => h) (fun r2 u2 t H1 locs1 ht hvm hw hB hz1 hk1 hS => ?_)
  obtain ⟨rfl, rfl⟩ := hw
  exact k _ _ (ht ▸ hB.1) hS
theorem x_vv {y : MethodName} {cy : ByteArray} {ny : Nat} {ry : Option FieldType} {fr lo b : Nat} {As st0 : List Value} {u1 : Wo} (S : CallFix p m c cc nL s args (Cond.code y0 c0 n0 r0 :: TG) own) (hK : va_K (dC, dI) vwCl [(cI, .int)] s) (hP : va_P (dC, dI) vwCl (Wf u) H) (hS : va_S A s.heap H locs)
    (hC : CV l dC dI cI Wf A y cy ny ry fr lo (.ref b :: As) u u1) {ci q0 N : Nat} {T : u_T} {fs : List Value} (hc : vwCl[ci]? = some (y.cls, T, N)) (he : (Wf u)[q0]? = some (b, .inr (ci, fs)))
    (hl : Cond.methodLink own index y ∈ TG) (hi : Cond.instanceMethod y ∈ TG) (hs : Cond.selects y.cls y y ∈ TG) (hz : Cond.initialized y.cls ∈ TG) (hcd : Cond.code y cy ny ry ∈ TG)
    (hy : y.cls ≠ "java/lang/invoke/MethodHandle" ∧ y.cls ≠ "java/lang/invoke/VarHandle" ∧ (parseMethodDescriptor y.desc).map (fun d => d.parameters.length) = some As.length)
    (hR : fr + 1 ≤ R.frames ∧ 8 + (ny + 11) + lo ≤ R.locals) (hsz : ls.size = nL) (hst : st0 = As.reverse ++ .ref b :: rest) (hW : (rest.map fun v => v.category).sum ≤ 8) (hd : decode cc pc = .ok (.invokevirtual index, 3))
    (k : ∀ (H1 : Heap) (locs1 : List Loc), va_P (dC, dI) vwCl (Wf u1) H1 → va_S A s.heap H1 locs1 → W p l e R s m args below meth c H1 locs1 0 0 Q (F0 m (pc + 3) ls rest)) : W p l e R s m args below meth c H locs 0 0 Q (F0 m pc ls st0) := by
  subst hst
  have hG : GoodIn (Cond.code y0 c0 n0 r0 :: TG) (wsV own index y.cls y (Cond.code y cy ny ry :: TG)) := fun w hw => by
    rcases List.mem_append.mp hw with hw | hw
    · have : w ∈ TG := by
        simp only [List.mem_cons, List.not_mem_nil, or_false] at hw
        rcases hw with rfl | rfl | rfl | rfl <;> assumption
      exact tg_c w this
    · exact tg_cc hcd w hw
  refine va_callv (va_runV (As := As) (rest := rest) S hC (cwV As.length S.2.2.2.2 hG rfl rfl rfl ⟨rfl, hy⟩ hR) ⟨pw_blind, va_recv hK hP hc he, fun U hU hW => ⟨rfl, by rw [hU]; exact hP, va_K.moved hW.alike hK⟩⟩ rfl rfl hsz rfl (lv_room hW) hd ⟨Nat.zero_le _, Nat.zero_le _⟩) hS (fun q _ h => h) (fun q h => h) (fun u2 t H1 locs1 ht hvm hw hB hz1 hk1 hS => ?_)
  obtain rfl := hw
  exact k _ _ (ht ▸ hB.1) hS
theorem x_si {y : MethodName} {cy : ByteArray} {ny : Nat} {ry : Option FieldType} {fr lo : Nat} {As st0 : List Value} {r : Int32} {u1 : Wo} (S : CallFix p m c cc nL s args (Cond.code y0 c0 n0 r0 :: TG) own) (hK : va_K (dC, dI) vwCl [(cI, .int)] s) (hP : va_P (dC, dI) vwCl (Wf u) H) (hS : va_S A s.heap H locs)
    (hC : CI l dC dI cI Wf A y cy ny ry fr lo As u r u1)
    (hl : Cond.methodLink own index y ∈ TG) (hi : Cond.static y ∈ TG) (hz : Cond.initialized y.cls ∈ TG) (hcd : Cond.code y cy ny ry ∈ TG)
    (hy : y.cls ≠ "java/lang/invoke/MethodHandle" ∧ y.cls ≠ "java/lang/invoke/VarHandle" ∧ (parseMethodDescriptor y.desc).map (fun d => d.parameters.length) = some As.length)
    (hR : fr + 1 ≤ R.frames ∧ 8 + (ny + 11) + lo ≤ R.locals) (hsz : ls.size = nL) (hst : st0 = As.reverse ++ rest) (hW : (rest.map fun v => v.category).sum ≤ 8) (hd : decode cc pc = .ok (.invokestatic index, 3))
    (k : ∀ (H1 : Heap) (locs1 : List Loc), va_P (dC, dI) vwCl (Wf u1) H1 → va_S A s.heap H1 locs1 → W p l e R s m args below meth c H1 locs1 0 0 Q (F0 m (pc + 3) ls (.int r :: rest))) : W p l e R s m args below meth c H locs 0 0 Q (F0 m pc ls st0) := by
  subst hst
  have hG : GoodIn (Cond.code y0 c0 n0 r0 :: TG) (va_wsS own index y (Cond.code y cy ny ry :: TG)) := fun w hw => by
    rcases List.mem_append.mp hw with hw | hw
    · have : w ∈ TG := by
        simp only [List.mem_cons, List.not_mem_nil, or_false] at hw
        rcases hw with rfl | rfl | rfl <;> assumption
      exact tg_c w this
    · exact tg_cc hcd w hw
  refine va_calli (va_runS (As := As) (rest := rest) S hC (va_cwS As.length S.2.2.2.2 hG rfl rfl rfl hy hR) ⟨pw_blind, fun U hU hW => ⟨rfl, by rw [hU]; exact hP, va_K.moved hW.alike hK⟩⟩ rfl rfl hsz rfl (lv_room hW) hd ⟨Nat.zero_le _, Nat.zero_le _⟩) hS (fun q _ h => h) (fun q h => h) (fun r2 u2 t H1 locs1 ht hvm hw hB hz1 hk1 hS => ?_)
  obtain ⟨rfl, rfl⟩ := hw
  exact k _ _ (ht ▸ hB.1) hS
theorem x_sv {y : MethodName} {cy : ByteArray} {ny : Nat} {ry : Option FieldType} {fr lo : Nat} {As st0 : List Value} {u1 : Wo} (S : CallFix p m c cc nL s args (Cond.code y0 c0 n0 r0 :: TG) own) (hK : va_K (dC, dI) vwCl [(cI, .int)] s) (hP : va_P (dC, dI) vwCl (Wf u) H) (hS : va_S A s.heap H locs)
    (hC : CV l dC dI cI Wf A y cy ny ry fr lo As u u1)
    (hl : Cond.methodLink own index y ∈ TG) (hi : Cond.static y ∈ TG) (hz : Cond.initialized y.cls ∈ TG) (hcd : Cond.code y cy ny ry ∈ TG)
    (hy : y.cls ≠ "java/lang/invoke/MethodHandle" ∧ y.cls ≠ "java/lang/invoke/VarHandle" ∧ (parseMethodDescriptor y.desc).map (fun d => d.parameters.length) = some As.length)
    (hR : fr + 1 ≤ R.frames ∧ 8 + (ny + 11) + lo ≤ R.locals) (hsz : ls.size = nL) (hst : st0 = As.reverse ++ rest) (hW : (rest.map fun v => v.category).sum ≤ 8) (hd : decode cc pc = .ok (.invokestatic index, 3))
    (k : ∀ (H1 : Heap) (locs1 : List Loc), va_P (dC, dI) vwCl (Wf u1) H1 → va_S A s.heap H1 locs1 → W p l e R s m args below meth c H1 locs1 0 0 Q (F0 m (pc + 3) ls rest)) : W p l e R s m args below meth c H locs 0 0 Q (F0 m pc ls st0) := by
  subst hst
  have hG : GoodIn (Cond.code y0 c0 n0 r0 :: TG) (va_wsS own index y (Cond.code y cy ny ry :: TG)) := fun w hw => by
    rcases List.mem_append.mp hw with hw | hw
    · have : w ∈ TG := by
        simp only [List.mem_cons, List.not_mem_nil, or_false] at hw
        rcases hw with rfl | rfl | rfl <;> assumption
      exact tg_c w this
    · exact tg_cc hcd w hw
  refine va_callv (va_runS (As := As) (rest := rest) S hC (va_cwS As.length S.2.2.2.2 hG rfl rfl rfl hy hR) ⟨pw_blind, fun U hU hW => ⟨rfl, by rw [hU]; exact hP, va_K.moved hW.alike hK⟩⟩ rfl rfl hsz rfl (lv_room hW) hd ⟨Nat.zero_le _, Nat.zero_le _⟩) hS (fun q _ h => h) (fun q h => h) (fun u2 t H1 locs1 ht hvm hw hB hz1 hk1 hS => ?_)
  obtain rfl := hw
  exact k _ _ (ht ▸ hB.1) hS
theorem x_max {x y : Int32} (S : CallFix p m c cc nL s args (Cond.code y0 c0 n0 r0 :: TG) own) (hl : Cond.methodLink own index Lib.Math.max.name ∈ TG) (hsz : ls.size = nL) (hR : 1 ≤ R.frames ∧ (rest.map fun v => v.category).sum + 13 ≤ R.locals) (hd : decode cc pc = .ok (.invokestatic index, 3))
    (k : W p l e R s m args below meth c H locs 0 0 Q (F0 m (pc + 3) ls (.int (if x < y then y else x) :: rest))) : W p l e R s m args below meth c H locs 0 0 Q (F0 m pc ls (.int y :: .int x :: rest)) :=
  va_mmax S.1 S.2.1 (S.2.2.1.trans hsz.symm) S.2.2.2.1 (S.2.2.2.2 _ (List.mem_cons_of_mem _ hl)) (S.2.2.2.2 _ (List.mem_cons_of_mem _ wt_max)) (S.2.2.2.2 _ (List.mem_cons_of_mem _ wz_Math)) (S.2.2.2.2 _ (List.mem_cons_of_mem _ wc_max)) hR.1 hR.2 (Nat.zero_le _) (Nat.zero_le _) hd k
theorem x_min {x y : Int32} (S : CallFix p m c cc nL s args (Cond.code y0 c0 n0 r0 :: TG) own) (hl : Cond.methodLink own index Lib.Math.min.name ∈ TG) (hsz : ls.size = nL) (hR : 1 ≤ R.frames ∧ (rest.map fun v => v.category).sum + 13 ≤ R.locals) (hd : decode cc pc = .ok (.invokestatic index, 3))
    (k : W p l e R s m args below meth c H locs 0 0 Q (F0 m (pc + 3) ls (.int (if y < x then y else x) :: rest))) : W p l e R s m args below meth c H locs 0 0 Q (F0 m pc ls (.int y :: .int x :: rest)) :=
  va_mmin S.1 S.2.1 (S.2.2.1.trans hsz.symm) S.2.2.2.1 (S.2.2.2.2 _ (List.mem_cons_of_mem _ hl)) (S.2.2.2.2 _ (List.mem_cons_of_mem _ wt_min)) (S.2.2.2.2 _ (List.mem_cons_of_mem _ wz_Math)) (S.2.2.2.2 _ (List.mem_cons_of_mem _ wc_min)) hR.1 hR.2 (Nat.zero_le _) (Nat.zero_le _) hd k
theorem x_ald {a n k : Nat} {i : Int32} (S : CallFix p m c cc nL s args (Cond.code y0 c0 n0 r0 :: TG) own) (hK : va_K (dC, dI) vwCl [(cI, .int)] s) (hP : va_P (dC, dI) vwCl (Wf u) H) (hc : (Wf u)[k]? = some (a, .inl (cI, n, .inl (u k)))) (hi : inb i n = true) (hd : decode cc pc = .ok (.iaload, 1))
    (kk : W p l e R s m args below meth c H locs 0 0 Q (F0 m (pc + 1) ls (.int (u k i.toNatClampNeg) :: rest))) : W p l e R s m args below meth c H locs 0 0 Q (F0 m pc ls (.int i :: .ref a :: rest)) :=
  va_iald S.1 S.2.1 hK hP k 0 hc rfl (inb_in hi) hd kk
theorem x_ast {a n k : Nat} {i v : Int32} {u1 : Wo} (S : CallFix p m c cc nL s args (Cond.code y0 c0 n0 r0 :: TG) own) (hK : va_K (dC, dI) vwCl [(cI, .int)] s) (hP : va_P (dC, dI) vwCl (Wf u) H) (hD : va_D A (Wf u)) (hS : va_S A s.heap H locs) (hc : (Wf u)[k]? = some (a, .inl (cI, n, .inl (u k)))) (hi : inb i n = true) (hd : decode cc pc = .ok (.iastore, 1)) (hu : wr u k i.toNatClampNeg v = u1) (hw : (Wf u).set k (a, .inl (cI, n, .inl (upd (u k) i.toNatClampNeg v))) = Wf (wr u k i.toNatClampNeg v))
    (kk : ∀ (H1 : Heap) (locs1 : List Loc), va_P (dC, dI) vwCl (Wf u1) H1 → va_S A s.heap H1 locs1 → W p l e R s m args below meth c H1 locs1 0 0 Q (F0 m (pc + 1) ls rest)) : W p l e R s m args below meth c H locs 0 0 Q (F0 m pc ls (.int v :: .int i :: .ref a :: rest)) := by
  subst hu
  exact va_iast S.1 S.2.1 hK hP hD hS k 0 hc rfl (inb_in hi) hd (fun H1 locs1 hP hD hS => kk H1 locs1 (hw ▸ hP) hS)
theorem x_aln {a n k : Nat} {f : Nat → Int32} {v : Int32} (S : CallFix p m c cc nL s args (Cond.code y0 c0 n0 r0 :: TG) own) (hK : va_K (dC, dI) vwCl [(cI, .int)] s) (hP : va_P (dC, dI) vwCl (Wf u) H) (hc : (Wf u)[k]? = some (a, .inl (cI, n, .inl f))) (hv : Int32.ofNat n = v) (hd : decode cc pc = .ok (.arraylength, 1))
    (kk : W p l e R s m args below meth c H locs 0 0 Q (F0 m (pc + 1) ls (.int v :: rest))) : W p l e R s m args below meth c H locs 0 0 Q (F0 m pc ls (.ref a :: rest)) :=
  va_alen S.1 S.2.1 hK hP k 0 hc (ty := .int) rfl hv hd kk
theorem x_cpy {a b na nb j k : Nat} {i d n : Int32} {u1 : Wo} (S : CallFix p m c cc nL s args (Cond.code y0 c0 n0 r0 :: TG) own) (hK : va_K (dC, dI) vwCl [(cI, .int)] s) (hP : va_P (dC, dI) vwCl (Wf u) H) (hD : va_D A (Wf u)) (hS : va_S A s.heap H locs) (hl : Cond.methodLink own index arraycopyName ∈ TG) (hsz : ls.size = nL)
    (hj : (Wf u)[j]? = some (a, .inl (cI, na, .inl (u j)))) (hk : (Wf u)[k]? = some (b, .inl (cI, nb, .inl (u k)))) (hi : cpo i d n na nb = true) (hR : 1 ≤ R.frames ∧ (rest.map fun v => v.category).sum + (nativeFrameWords "java/lang/System" "arraycopy" 5 + 11) ≤ R.locals) (hd : decode cc pc = .ok (.invokestatic index, 3)) (hu : wcp u j i.toNatClampNeg k d.toNatClampNeg n.toNatClampNeg = u1) (hw : (Wf u).set k (b, .inl (cI, nb, .inl (va_cpy (u j) (u k) i.toNatClampNeg d.toNatClampNeg n.toNatClampNeg))) = Wf (wcp u j i.toNatClampNeg k d.toNatClampNeg n.toNatClampNeg))
    (kk : ∀ (H1 : Heap) (locs1 : List Loc), va_P (dC, dI) vwCl (Wf u1) H1 → va_S A s.heap H1 locs1 → W p l e R s m args below meth c H1 locs1 0 0 Q (F0 m (pc + 3) ls rest)) : W p l e R s m args below meth c H locs 0 0 Q (F0 m pc ls (.int n :: .int d :: .ref b :: .int i :: .ref a :: rest)) := by
  subst hu
  simp only [cpo, Bool.and_eq_true, decide_eq_true_eq] at hi
  obtain ⟨h1, h2, h3, h4, h5⟩ := hi
  exact va_copyi S.1 S.2.1 (S.2.2.1.trans hsz.symm) S.2.2.2.1 (S.2.2.2.2 _ (List.mem_cons_of_mem _ hl)) (S.2.2.2.2 _ (List.mem_cons_of_mem _ wn_arraycopy)) (S.2.2.2.2 _ (List.mem_cons_of_mem _ wt_arraycopy)) (S.2.2.2.2 _ (List.mem_cons_of_mem _ wz_System)) hK hP hD hS j k 0 0 hj hk rfl rfl rfl h1 h2 h3 h4 h5 (fun _ _ => rfl) hR.1 hR.2 hd (fun H1 locs1 hP hD hS => kk H1 locs1 (hw ▸ hP) hS)
theorem x_get {a q0 ci k N : Nat} {T : u_T} {C : String} {fs : List Value} {v : Value} (S : CallFix p m c cc nL s args (Cond.code y0 c0 n0 r0 :: TG) own) (hK : va_K (dC, dI) vwCl [(cI, .int)] s) (hP : va_P (dC, dI) vwCl (Wf u) H) (hu : ∀ w ∈ u_ws C T N, w ∈ TG) (he : (Wf u)[q0]? = some (a, .inr (ci, fs))) (hc : vwCl[ci]? = some (C, T, N)) (hk : k < N) (hv : fs[k]? = some v) (hl : Cond.fieldLink own index (T k).1 (T k).2.1 (T k).2.2.1 ∈ TG) (hd : decode cc pc = .ok (.getfield index, 3))
    (kk : W p l e R s m args below meth c H locs 0 0 Q (F0 m (pc + 3) ls (v :: rest))) : W p l e R s m args below meth c H locs 0 0 Q (F0 m pc ls (.ref a :: rest)) :=
  va_get S.1 S.2.1 S.2.2.2.2 (fun w h => List.mem_cons_of_mem _ (hu w h)) S.2.2.2.1 hK hP q0 he hc k hk (S.2.2.2.2 _ (List.mem_cons_of_mem _ hl)) (fun _ h9 => h9) hv hd kk
theorem x_put {a q0 ci k N : Nat} {T : u_T} {C : String} {fs : List Value} {v : Int32} {ty : FieldType} {u1 : Wo} {ty0 : Nat → FieldType} (S : CallFix p m c cc nL s args (Cond.code y0 c0 n0 r0 :: TG) own) (hK : va_K (dC, dI) vwCl [(cI, .int)] s) (hP : va_P (dC, dI) vwCl (Wf u) H) (hD : va_D A (Wf u)) (hS : va_S A s.heap H locs) (hu : ∀ w ∈ u_ws C T N, w ∈ TG) (hty : ∀ k, k < N → parseFieldDescriptor (T k).2.2.1 = some (ty0 k)) (hnm : ∀ a, a < N → ∀ b, b < N → a ≠ b → (T a).2.1 ≠ (T b).2.1) (he : (Wf u)[q0]? = some (a, .inr (ci, fs))) (hc : vwCl[ci]? = some (C, T, N)) (hk : k < N) (hl : Cond.fieldLink own index (T k).1 (T k).2.1 (T k).2.2.1 ∈ TG) (hfin : (T k).2.2.2 = false) (hdd : parseFieldDescriptor (T k).2.2.1 = some ty) (hn : narrow ty (.int v) = .int v) (hfit : fits ty (.int v) = true) (hln : k < fs.length) (hd : decode cc pc = .ok (.putfield index, 3)) (hu1 : wr u q0 k v = u1) (hw : (Wf u).set q0 (a, .inr (ci, fs.set k (.int v))) = Wf (wr u q0 k v))
    (kk : ∀ (H1 : Heap) (locs1 : List Loc), va_P (dC, dI) vwCl (Wf u1) H1 → va_S A s.heap H1 locs1 → W p l e R s m args below meth c H1 locs1 0 0 Q (F0 m (pc + 3) ls rest)) : W p l e R s m args below meth c H locs 0 0 Q (F0 m pc ls (.int v :: .ref a :: rest)) := by
  subst hu1
  exact va_put S.1 S.2.1 S.2.2.2.2 (fun w h => List.mem_cons_of_mem _ (hu w h)) ty0 hty hnm S.2.2.2.1 hK hP hD hS q0 he hc k hk (S.2.2.2.2 _ (List.mem_cons_of_mem _ hl)) (fun _ h9 => h9) hfin hdd hn hfit hln hd (fun H1 locs1 hP hD hS => kk H1 locs1 (hw ▸ hP) hS)
theorem x_ldc {v : Int32} (S : CallFix p m c cc nL s args (Cond.code y0 c0 n0 r0 :: TG) own) (hk : Cond.constant own index v ∈ TG) (hd : decode cc pc = .ok (.ldc index, 2)) (k : W p l e R s m args below meth c H locs 0 0 Q (F0 m (pc + 2) ls (.int v :: rest))) : W p l e R s m args below meth c H locs 0 0 Q (F0 m pc ls rest) := lv_ldc S.1 S.2.1 S.2.2.2.1 (S.2.2.2.2 _ (List.mem_cons_of_mem _ hk)) hd k
theorem x_ldcw {v : Int32} (S : CallFix p m c cc nL s args (Cond.code y0 c0 n0 r0 :: TG) own) (hk : Cond.constant own index v ∈ TG) (hd : decode cc pc = .ok (.ldc_w index, 3)) (k : W p l e R s m args below meth c H locs 0 0 Q (F0 m (pc + 3) ls (.int v :: rest))) : W p l e R s m args below meth c H locs 0 0 Q (F0 m pc ls rest) := lv_ldcw S.1 S.2.1 S.2.2.2.1 (S.2.2.2.2 _ (List.mem_cons_of_mem _ hk)) hd k
theorem x_ldc2 {v : Int64} (S : CallFix p m c cc nL s args (Cond.code y0 c0 n0 r0 :: TG) own) (hk : Cond.constantLong own index v ∈ TG) (hd : decode cc pc = .ok (.ldc2_w index, 3)) (k : W p l e R s m args below meth c H locs 0 0 Q (F0 m (pc + 3) ls (.long v :: rest))) : W p l e R s m args below meth c H locs 0 0 Q (F0 m pc ls rest) := lv_ldc2 S.1 S.2.1 S.2.2.2.1 (S.2.2.2.2 _ (List.mem_cons_of_mem _ hk)) hd k
end CX
theorem x_D {ad : Nat → Nat} {n : Nat} {ws : va_W} (h : AP ad n) (hw : ∀ (k : Nat) (q : Nat × va_E), ws[k]? = some q → k < n ∧ q.1 = ad k) : va_D (AF ad n) ws :=
  ⟨fun i j p q hi hj e => h i j (hw i p hi).1 (hw j q hj).1 (by rw [← (hw i p hi).2, ← (hw j q hj).2, e]), fun k q hk => ⟨k, hw k q hk⟩⟩
/-- the cells of side C, their numbers read off u -/
def WC (ad : Nat → Nat) (cI : ClassId) (u : Wo) : va_W := [(ad 0, .inr (5, [.ref (ad 1), .ref (ad 2), .ref (ad 3), .ref (ad 4), .ref (ad 5), .int (u 0 5), .int (u 0 6), .int (u 0 7)])), (ad 1, .inr (3, [.ref (ad 6), .int (u 1 1), .int (u 1 2), .int (u 1 3)])), (ad 2, .inr (0, [.ref (ad 7)])), (ad 3, .inr (4, [.ref (ad 1), .ref (ad 2), .int (u 3 2)])), (ad 4, .inr (1, [.ref (ad 1), .ref (ad 8), .int (u 4 2), .int (u 4 3)])), (ad 5, .inr (2, [.ref (ad 1), .ref (ad 3), .ref (ad 9), .ref (ad 10), .ref (ad 11), .ref (ad 12), .ref (ad 13), .int (u 5 7), .int (u 5 8), .int (u 5 9)])), (ad 6, .inl (cI, 618, .inl (u 6))), (ad 7, .inl (cI, 270, .inl (u 7))), (ad 8, .inl (cI, 19158, .inl (u 8))), (ad 9, .inl (cI, 182400, .inl (u 9))), (ad 10, .inl (cI, 300, .inl (u 10))), (ad 11, .inl (cI, 1024, .inl (u 11))), (ad 12, .inl (cI, 618, .inl (u 12))), (ad 13, .inl (cI, 7, .inl (u 13)))]
theorem WC_D {ad : Nat → Nat} {cI : ClassId} (h : AP ad 14) (u : Wo) : va_D (AF ad 14) (WC ad cI u) := by
  refine x_D h (fun k q hq => ?_)
  match k, hq with
  | 0, hq => cases hq; exact ⟨by decide, rfl⟩
  | 1, hq => cases hq; exact ⟨by decide, rfl⟩
  | 2, hq => cases hq; exact ⟨by decide, rfl⟩
  | 3, hq => cases hq; exact ⟨by decide, rfl⟩
  | 4, hq => cases hq; exact ⟨by decide, rfl⟩
  | 5, hq => cases hq; exact ⟨by decide, rfl⟩
  | 6, hq => cases hq; exact ⟨by decide, rfl⟩
  | 7, hq => cases hq; exact ⟨by decide, rfl⟩
  | 8, hq => cases hq; exact ⟨by decide, rfl⟩
  | 9, hq => cases hq; exact ⟨by decide, rfl⟩
  | 10, hq => cases hq; exact ⟨by decide, rfl⟩
  | 11, hq => cases hq; exact ⟨by decide, rfl⟩
  | 12, hq => cases hq; exact ⟨by decide, rfl⟩
  | 13, hq => cases hq; exact ⟨by decide, rfl⟩
  | k + 14, hq => cases hq
theorem hC_6 {ad : Nat → Nat} {cI : ClassId} (u : Wo) : (WC ad cI u)[6]? = some (ad 6, .inl (cI, 618, .inl (u 6))) := rfl
theorem sC_6 {ad : Nat → Nat} {cI : ClassId} (u : Wo) (k : Nat) (v : Int32) : (WC ad cI u).set 6 (ad 6, .inl (cI, 618, .inl (upd (u 6) k v))) = WC ad cI (wr u 6 k v) := rfl
theorem hC_7 {ad : Nat → Nat} {cI : ClassId} (u : Wo) : (WC ad cI u)[7]? = some (ad 7, .inl (cI, 270, .inl (u 7))) := rfl
theorem sC_7 {ad : Nat → Nat} {cI : ClassId} (u : Wo) (k : Nat) (v : Int32) : (WC ad cI u).set 7 (ad 7, .inl (cI, 270, .inl (upd (u 7) k v))) = WC ad cI (wr u 7 k v) := rfl
theorem hC_8 {ad : Nat → Nat} {cI : ClassId} (u : Wo) : (WC ad cI u)[8]? = some (ad 8, .inl (cI, 19158, .inl (u 8))) := rfl
theorem sC_8 {ad : Nat → Nat} {cI : ClassId} (u : Wo) (k : Nat) (v : Int32) : (WC ad cI u).set 8 (ad 8, .inl (cI, 19158, .inl (upd (u 8) k v))) = WC ad cI (wr u 8 k v) := rfl
theorem hC_9 {ad : Nat → Nat} {cI : ClassId} (u : Wo) : (WC ad cI u)[9]? = some (ad 9, .inl (cI, 182400, .inl (u 9))) := rfl
theorem sC_9 {ad : Nat → Nat} {cI : ClassId} (u : Wo) (k : Nat) (v : Int32) : (WC ad cI u).set 9 (ad 9, .inl (cI, 182400, .inl (upd (u 9) k v))) = WC ad cI (wr u 9 k v) := rfl
theorem hC_10 {ad : Nat → Nat} {cI : ClassId} (u : Wo) : (WC ad cI u)[10]? = some (ad 10, .inl (cI, 300, .inl (u 10))) := rfl
theorem sC_10 {ad : Nat → Nat} {cI : ClassId} (u : Wo) (k : Nat) (v : Int32) : (WC ad cI u).set 10 (ad 10, .inl (cI, 300, .inl (upd (u 10) k v))) = WC ad cI (wr u 10 k v) := rfl
theorem hC_11 {ad : Nat → Nat} {cI : ClassId} (u : Wo) : (WC ad cI u)[11]? = some (ad 11, .inl (cI, 1024, .inl (u 11))) := rfl
theorem sC_11 {ad : Nat → Nat} {cI : ClassId} (u : Wo) (k : Nat) (v : Int32) : (WC ad cI u).set 11 (ad 11, .inl (cI, 1024, .inl (upd (u 11) k v))) = WC ad cI (wr u 11 k v) := rfl
theorem hC_12 {ad : Nat → Nat} {cI : ClassId} (u : Wo) : (WC ad cI u)[12]? = some (ad 12, .inl (cI, 618, .inl (u 12))) := rfl
theorem sC_12 {ad : Nat → Nat} {cI : ClassId} (u : Wo) (k : Nat) (v : Int32) : (WC ad cI u).set 12 (ad 12, .inl (cI, 618, .inl (upd (u 12) k v))) = WC ad cI (wr u 12 k v) := rfl
theorem hC_13 {ad : Nat → Nat} {cI : ClassId} (u : Wo) : (WC ad cI u)[13]? = some (ad 13, .inl (cI, 7, .inl (u 13))) := rfl
theorem sC_13 {ad : Nat → Nat} {cI : ClassId} (u : Wo) (k : Nat) (v : Int32) : (WC ad cI u).set 13 (ad 13, .inl (cI, 7, .inl (upd (u 13) k v))) = WC ad cI (wr u 13 k v) := rfl
theorem cC_6_8 {ad : Nat → Nat} {cI : ClassId} (u : Wo) (i j n : Nat) : (WC ad cI u).set 8 (ad 8, .inl (cI, 19158, .inl (va_cpy (u 6) (u 8) i j n))) = WC ad cI (wcp u 6 i 8 j n) := rfl
theorem cC_6_9 {ad : Nat → Nat} {cI : ClassId} (u : Wo) (i j n : Nat) : (WC ad cI u).set 9 (ad 9, .inl (cI, 182400, .inl (va_cpy (u 6) (u 9) i j n))) = WC ad cI (wcp u 6 i 9 j n) := rfl
theorem cC_6_12 {ad : Nat → Nat} {cI : ClassId} (u : Wo) (i j n : Nat) : (WC ad cI u).set 12 (ad 12, .inl (cI, 618, .inl (va_cpy (u 6) (u 12) i j n))) = WC ad cI (wcp u 6 i 12 j n) := rfl
theorem cC_8_6 {ad : Nat → Nat} {cI : ClassId} (u : Wo) (i j n : Nat) : (WC ad cI u).set 6 (ad 6, .inl (cI, 618, .inl (va_cpy (u 8) (u 6) i j n))) = WC ad cI (wcp u 8 i 6 j n) := rfl
theorem cC_9_6 {ad : Nat → Nat} {cI : ClassId} (u : Wo) (i j n : Nat) : (WC ad cI u).set 6 (ad 6, .inl (cI, 618, .inl (va_cpy (u 9) (u 6) i j n))) = WC ad cI (wcp u 9 i 6 j n) := rfl
theorem cC_12_6 {ad : Nat → Nat} {cI : ClassId} (u : Wo) (i j n : Nat) : (WC ad cI u).set 6 (ad 6, .inl (cI, 618, .inl (va_cpy (u 12) (u 6) i j n))) = WC ad cI (wcp u 12 i 6 j n) := rfl
section FC
variable {p : Program} {l : Launch} {e : Env} {R : Room} {s : State} {m : MethodId} {args : Array Value} {below : List Frame} {meth : Method} {c : Code} {H : Heap} {locs : List Loc} {Q : State → Prop} {cc : ByteArray} {nL pc : Nat} {ls : Array Slot} {rest : List Value} {y0 : MethodName} {c0 : ByteArray} {n0 : Nat} {r0 : Option FieldType} {own : String} {dC : Nat → ClassId} {dI : Nat → Nat → Nat} {cI : ClassId} {u : Wo} {index : Nat} {ad : Nat → Nat}
theorem gC_0_stand (S : CallFix p m c cc nL s args (Cond.code y0 c0 n0 r0 :: TG) own) (hK : va_K (dC, dI) vwCl [(cI, .int)] s) (hP : va_P (dC, dI) vwCl (WC ad cI u) H) (hl : Cond.fieldLink own index "KeyKeepers" "stand" "LKeyKeepers$Stand;" ∈ TG) (hd : decode cc pc = .ok (.getfield index, 3)) (kk : W p l e R s m args below meth c H locs 0 0 Q (F0 m (pc + 3) ls (.ref (ad 1) :: rest))) : W p l e R s m args below meth c H locs 0 0 Q (F0 m pc ls (.ref (ad 0) :: rest)) :=
  x_get (Wf := WC ad cI) (q0 := 0) (k := 0) (T := TX5) (N := 8) (C := RX5) (ci := 5) S hK hP wu_X5 rfl rfl (by decide) rfl hl hd kk
theorem gC_0_book (S : CallFix p m c cc nL s args (Cond.code y0 c0 n0 r0 :: TG) own) (hK : va_K (dC, dI) vwCl [(cI, .int)] s) (hP : va_P (dC, dI) vwCl (WC ad cI u) H) (hl : Cond.fieldLink own index "KeyKeepers" "book" "LKeyKeepers$Book;" ∈ TG) (hd : decode cc pc = .ok (.getfield index, 3)) (kk : W p l e R s m args below meth c H locs 0 0 Q (F0 m (pc + 3) ls (.ref (ad 2) :: rest))) : W p l e R s m args below meth c H locs 0 0 Q (F0 m pc ls (.ref (ad 0) :: rest)) :=
  x_get (Wf := WC ad cI) (q0 := 0) (k := 1) (T := TX5) (N := 8) (C := RX5) (ci := 5) S hK hP wu_X5 rfl rfl (by decide) rfl hl hd kk
theorem gC_0_ways (S : CallFix p m c cc nL s args (Cond.code y0 c0 n0 r0 :: TG) own) (hK : va_K (dC, dI) vwCl [(cI, .int)] s) (hP : va_P (dC, dI) vwCl (WC ad cI u) H) (hl : Cond.fieldLink own index "KeyKeepers" "ways" "LKeyKeepers$Ways;" ∈ TG) (hd : decode cc pc = .ok (.getfield index, 3)) (kk : W p l e R s m args below meth c H locs 0 0 Q (F0 m (pc + 3) ls (.ref (ad 3) :: rest))) : W p l e R s m args below meth c H locs 0 0 Q (F0 m pc ls (.ref (ad 0) :: rest)) :=
  x_get (Wf := WC ad cI) (q0 := 0) (k := 2) (T := TX5) (N := 8) (C := RX5) (ci := 5) S hK hP wu_X5 rfl rfl (by decide) rfl hl hd kk
theorem gC_0_past (S : CallFix p m c cc nL s args (Cond.code y0 c0 n0 r0 :: TG) own) (hK : va_K (dC, dI) vwCl [(cI, .int)] s) (hP : va_P (dC, dI) vwCl (WC ad cI u) H) (hl : Cond.fieldLink own index "KeyKeepers" "past" "LKeyKeepers$Past;" ∈ TG) (hd : decode cc pc = .ok (.getfield index, 3)) (kk : W p l e R s m args below meth c H locs 0 0 Q (F0 m (pc + 3) ls (.ref (ad 4) :: rest))) : W p l e R s m args below meth c H locs 0 0 Q (F0 m pc ls (.ref (ad 0) :: rest)) :=
  x_get (Wf := WC ad cI) (q0 := 0) (k := 3) (T := TX5) (N := 8) (C := RX5) (ci := 5) S hK hP wu_X5 rfl rfl (by decide) rfl hl hd kk
theorem gC_0_search (S : CallFix p m c cc nL s args (Cond.code y0 c0 n0 r0 :: TG) own) (hK : va_K (dC, dI) vwCl [(cI, .int)] s) (hP : va_P (dC, dI) vwCl (WC ad cI u) H) (hl : Cond.fieldLink own index "KeyKeepers" "search" "LKeyKeepers$Search;" ∈ TG) (hd : decode cc pc = .ok (.getfield index, 3)) (kk : W p l e R s m args below meth c H locs 0 0 Q (F0 m (pc + 3) ls (.ref (ad 5) :: rest))) : W p l e R s m args below meth c H locs 0 0 Q (F0 m pc ls (.ref (ad 0) :: rest)) :=
  x_get (Wf := WC ad cI) (q0 := 0) (k := 4) (T := TX5) (N := 8) (C := RX5) (ci := 5) S hK hP wu_X5 rfl rfl (by decide) rfl hl hd kk
theorem gC_0_begins (S : CallFix p m c cc nL s args (Cond.code y0 c0 n0 r0 :: TG) own) (hK : va_K (dC, dI) vwCl [(cI, .int)] s) (hP : va_P (dC, dI) vwCl (WC ad cI u) H) (hl : Cond.fieldLink own index "KeyKeepers" "begins" "I" ∈ TG) (hd : decode cc pc = .ok (.getfield index, 3)) (kk : W p l e R s m args below meth c H locs 0 0 Q (F0 m (pc + 3) ls (.int (u 0 5) :: rest))) : W p l e R s m args below meth c H locs 0 0 Q (F0 m pc ls (.ref (ad 0) :: rest)) :=
  x_get (Wf := WC ad cI) (q0 := 0) (k := 5) (T := TX5) (N := 8) (C := RX5) (ci := 5) S hK hP wu_X5 rfl rfl (by decide) rfl hl hd kk
theorem pC_0_begins {v : Int32} {u1 : Wo} (S : CallFix p m c cc nL s args (Cond.code y0 c0 n0 r0 :: TG) own) (hK : va_K (dC, dI) vwCl [(cI, .int)] s) (hap : AP ad 14) (hP : va_P (dC, dI) vwCl (WC ad cI u) H) (hS : va_S (AF ad 14) s.heap H locs) (hl : Cond.fieldLink own index "KeyKeepers" "begins" "I" ∈ TG) (hd : decode cc pc = .ok (.putfield index, 3)) (hu1 : wr u 0 5 v = u1) (kk : ∀ (H1 : Heap) (locs1 : List Loc), va_P (dC, dI) vwCl (WC ad cI u1) H1 → va_S (AF ad 14) s.heap H1 locs1 → W p l e R s m args below meth c H1 locs1 0 0 Q (F0 m (pc + 3) ls rest)) : W p l e R s m args below meth c H locs 0 0 Q (F0 m pc ls (.int v :: .ref (ad 0) :: rest)) :=
  x_put (Wf := WC ad cI) (q0 := 0) (k := 5) (T := TX5) (N := 8) (C := RX5) (ci := 5) (ty := .int) S hK hP (WC_D hap u) hS wu_X5 tyX5_ok nmX5 rfl rfl (by decide) hl rfl (by decide +kernel) rfl rfl (Nat.le_of_ble_eq_true rfl) hd hu1 rfl kk
theorem gC_0_passes (S : CallFix p m c cc nL s args (Cond.code y0 c0 n0 r0 :: TG) own) (hK : va_K (dC, dI) vwCl [(cI, .int)] s) (hP : va_P (dC, dI) vwCl (WC ad cI u) H) (hl : Cond.fieldLink own index "KeyKeepers" "passes" "I" ∈ TG) (hd : decode cc pc = .ok (.getfield index, 3)) (kk : W p l e R s m args below meth c H locs 0 0 Q (F0 m (pc + 3) ls (.int (u 0 6) :: rest))) : W p l e R s m args below meth c H locs 0 0 Q (F0 m pc ls (.ref (ad 0) :: rest)) :=
  x_get (Wf := WC ad cI) (q0 := 0) (k := 6) (T := TX5) (N := 8) (C := RX5) (ci := 5) S hK hP wu_X5 rfl rfl (by decide) rfl hl hd kk
theorem pC_0_passes {v : Int32} {u1 : Wo} (S : CallFix p m c cc nL s args (Cond.code y0 c0 n0 r0 :: TG) own) (hK : va_K (dC, dI) vwCl [(cI, .int)] s) (hap : AP ad 14) (hP : va_P (dC, dI) vwCl (WC ad cI u) H) (hS : va_S (AF ad 14) s.heap H locs) (hl : Cond.fieldLink own index "KeyKeepers" "passes" "I" ∈ TG) (hd : decode cc pc = .ok (.putfield index, 3)) (hu1 : wr u 0 6 v = u1) (kk : ∀ (H1 : Heap) (locs1 : List Loc), va_P (dC, dI) vwCl (WC ad cI u1) H1 → va_S (AF ad 14) s.heap H1 locs1 → W p l e R s m args below meth c H1 locs1 0 0 Q (F0 m (pc + 3) ls rest)) : W p l e R s m args below meth c H locs 0 0 Q (F0 m pc ls (.int v :: .ref (ad 0) :: rest)) :=
  x_put (Wf := WC ad cI) (q0 := 0) (k := 6) (T := TX5) (N := 8) (C := RX5) (ci := 5) (ty := .int) S hK hP (WC_D hap u) hS wu_X5 tyX5_ok nmX5 rfl rfl (by decide) hl rfl (by decide +kernel) rfl rfl (Nat.le_of_ble_eq_true rfl) hd hu1 rfl kk
theorem gC_0_acted (S : CallFix p m c cc nL s args (Cond.code y0 c0 n0 r0 :: TG) own) (hK : va_K (dC, dI) vwCl [(cI, .int)] s) (hP : va_P (dC, dI) vwCl (WC ad cI u) H) (hl : Cond.fieldLink own index "KeyKeepers" "acted" "Z" ∈ TG) (hd : decode cc pc = .ok (.getfield index, 3)) (kk : W p l e R s m args below meth c H locs 0 0 Q (F0 m (pc + 3) ls (.int (u 0 7) :: rest))) : W p l e R s m args below meth c H locs 0 0 Q (F0 m pc ls (.ref (ad 0) :: rest)) :=
  x_get (Wf := WC ad cI) (q0 := 0) (k := 7) (T := TX5) (N := 8) (C := RX5) (ci := 5) S hK hP wu_X5 rfl rfl (by decide) rfl hl hd kk
theorem pC_0_acted {v : Int32} {u1 : Wo} (S : CallFix p m c cc nL s args (Cond.code y0 c0 n0 r0 :: TG) own) (hK : va_K (dC, dI) vwCl [(cI, .int)] s) (hap : AP ad 14) (hP : va_P (dC, dI) vwCl (WC ad cI u) H) (hS : va_S (AF ad 14) s.heap H locs) (hl : Cond.fieldLink own index "KeyKeepers" "acted" "Z" ∈ TG) (hd : decode cc pc = .ok (.putfield index, 3)) (hz : zb v = true) (hu1 : wr u 0 7 v = u1) (kk : ∀ (H1 : Heap) (locs1 : List Loc), va_P (dC, dI) vwCl (WC ad cI u1) H1 → va_S (AF ad 14) s.heap H1 locs1 → W p l e R s m args below meth c H1 locs1 0 0 Q (F0 m (pc + 3) ls rest)) : W p l e R s m args below meth c H locs 0 0 Q (F0 m pc ls (.int v :: .ref (ad 0) :: rest)) :=
  x_put (Wf := WC ad cI) (q0 := 0) (k := 7) (T := TX5) (N := 8) (C := RX5) (ci := 5) (ty := .boolean) S hK hP (WC_D hap u) hS wu_X5 tyX5_ok nmX5 rfl rfl (by decide) hl rfl (by decide +kernel) (zb_nar hz) (zb_fit hz) (Nat.le_of_ble_eq_true rfl) hd hu1 rfl kk
theorem gC_1_row (S : CallFix p m c cc nL s args (Cond.code y0 c0 n0 r0 :: TG) own) (hK : va_K (dC, dI) vwCl [(cI, .int)] s) (hP : va_P (dC, dI) vwCl (WC ad cI u) H) (hl : Cond.fieldLink own index "KeyKeepers$Stand" "row" "[I" ∈ TG) (hd : decode cc pc = .ok (.getfield index, 3)) (kk : W p l e R s m args below meth c H locs 0 0 Q (F0 m (pc + 3) ls (.ref (ad 6) :: rest))) : W p l e R s m args below meth c H locs 0 0 Q (F0 m pc ls (.ref (ad 1) :: rest)) :=
  x_get (Wf := WC ad cI) (q0 := 1) (k := 0) (T := TX3) (N := 4) (C := RX3) (ci := 3) S hK hP wu_X3 rfl rfl (by decide) rfl hl hd kk
theorem gC_1_way (S : CallFix p m c cc nL s args (Cond.code y0 c0 n0 r0 :: TG) own) (hK : va_K (dC, dI) vwCl [(cI, .int)] s) (hP : va_P (dC, dI) vwCl (WC ad cI u) H) (hl : Cond.fieldLink own index "KeyKeepers$Stand" "way" "I" ∈ TG) (hd : decode cc pc = .ok (.getfield index, 3)) (kk : W p l e R s m args below meth c H locs 0 0 Q (F0 m (pc + 3) ls (.int (u 1 1) :: rest))) : W p l e R s m args below meth c H locs 0 0 Q (F0 m pc ls (.ref (ad 1) :: rest)) :=
  x_get (Wf := WC ad cI) (q0 := 1) (k := 1) (T := TX3) (N := 4) (C := RX3) (ci := 3) S hK hP wu_X3 rfl rfl (by decide) rfl hl hd kk
theorem pC_1_way {v : Int32} {u1 : Wo} (S : CallFix p m c cc nL s args (Cond.code y0 c0 n0 r0 :: TG) own) (hK : va_K (dC, dI) vwCl [(cI, .int)] s) (hap : AP ad 14) (hP : va_P (dC, dI) vwCl (WC ad cI u) H) (hS : va_S (AF ad 14) s.heap H locs) (hl : Cond.fieldLink own index "KeyKeepers$Stand" "way" "I" ∈ TG) (hd : decode cc pc = .ok (.putfield index, 3)) (hu1 : wr u 1 1 v = u1) (kk : ∀ (H1 : Heap) (locs1 : List Loc), va_P (dC, dI) vwCl (WC ad cI u1) H1 → va_S (AF ad 14) s.heap H1 locs1 → W p l e R s m args below meth c H1 locs1 0 0 Q (F0 m (pc + 3) ls rest)) : W p l e R s m args below meth c H locs 0 0 Q (F0 m pc ls (.int v :: .ref (ad 1) :: rest)) :=
  x_put (Wf := WC ad cI) (q0 := 1) (k := 1) (T := TX3) (N := 4) (C := RX3) (ci := 3) (ty := .int) S hK hP (WC_D hap u) hS wu_X3 tyX3_ok nmX3 rfl rfl (by decide) hl rfl (by decide +kernel) rfl rfl (Nat.le_of_ble_eq_true rfl) hd hu1 rfl kk
theorem gC_1_n (S : CallFix p m c cc nL s args (Cond.code y0 c0 n0 r0 :: TG) own) (hK : va_K (dC, dI) vwCl [(cI, .int)] s) (hP : va_P (dC, dI) vwCl (WC ad cI u) H) (hl : Cond.fieldLink own index "KeyKeepers$Stand" "n" "I" ∈ TG) (hd : decode cc pc = .ok (.getfield index, 3)) (kk : W p l e R s m args below meth c H locs 0 0 Q (F0 m (pc + 3) ls (.int (u 1 2) :: rest))) : W p l e R s m args below meth c H locs 0 0 Q (F0 m pc ls (.ref (ad 1) :: rest)) :=
  x_get (Wf := WC ad cI) (q0 := 1) (k := 2) (T := TX3) (N := 4) (C := RX3) (ci := 3) S hK hP wu_X3 rfl rfl (by decide) rfl hl hd kk
theorem pC_1_n {v : Int32} {u1 : Wo} (S : CallFix p m c cc nL s args (Cond.code y0 c0 n0 r0 :: TG) own) (hK : va_K (dC, dI) vwCl [(cI, .int)] s) (hap : AP ad 14) (hP : va_P (dC, dI) vwCl (WC ad cI u) H) (hS : va_S (AF ad 14) s.heap H locs) (hl : Cond.fieldLink own index "KeyKeepers$Stand" "n" "I" ∈ TG) (hd : decode cc pc = .ok (.putfield index, 3)) (hu1 : wr u 1 2 v = u1) (kk : ∀ (H1 : Heap) (locs1 : List Loc), va_P (dC, dI) vwCl (WC ad cI u1) H1 → va_S (AF ad 14) s.heap H1 locs1 → W p l e R s m args below meth c H1 locs1 0 0 Q (F0 m (pc + 3) ls rest)) : W p l e R s m args below meth c H locs 0 0 Q (F0 m pc ls (.int v :: .ref (ad 1) :: rest)) :=
  x_put (Wf := WC ad cI) (q0 := 1) (k := 2) (T := TX3) (N := 4) (C := RX3) (ci := 3) (ty := .int) S hK hP (WC_D hap u) hS wu_X3 tyX3_ok nmX3 rfl rfl (by decide) hl rfl (by decide +kernel) rfl rfl (Nat.le_of_ble_eq_true rfl) hd hu1 rfl kk
theorem gC_1_tooMany (S : CallFix p m c cc nL s args (Cond.code y0 c0 n0 r0 :: TG) own) (hK : va_K (dC, dI) vwCl [(cI, .int)] s) (hP : va_P (dC, dI) vwCl (WC ad cI u) H) (hl : Cond.fieldLink own index "KeyKeepers$Stand" "tooMany" "Z" ∈ TG) (hd : decode cc pc = .ok (.getfield index, 3)) (kk : W p l e R s m args below meth c H locs 0 0 Q (F0 m (pc + 3) ls (.int (u 1 3) :: rest))) : W p l e R s m args below meth c H locs 0 0 Q (F0 m pc ls (.ref (ad 1) :: rest)) :=
  x_get (Wf := WC ad cI) (q0 := 1) (k := 3) (T := TX3) (N := 4) (C := RX3) (ci := 3) S hK hP wu_X3 rfl rfl (by decide) rfl hl hd kk
theorem pC_1_tooMany {v : Int32} {u1 : Wo} (S : CallFix p m c cc nL s args (Cond.code y0 c0 n0 r0 :: TG) own) (hK : va_K (dC, dI) vwCl [(cI, .int)] s) (hap : AP ad 14) (hP : va_P (dC, dI) vwCl (WC ad cI u) H) (hS : va_S (AF ad 14) s.heap H locs) (hl : Cond.fieldLink own index "KeyKeepers$Stand" "tooMany" "Z" ∈ TG) (hd : decode cc pc = .ok (.putfield index, 3)) (hz : zb v = true) (hu1 : wr u 1 3 v = u1) (kk : ∀ (H1 : Heap) (locs1 : List Loc), va_P (dC, dI) vwCl (WC ad cI u1) H1 → va_S (AF ad 14) s.heap H1 locs1 → W p l e R s m args below meth c H1 locs1 0 0 Q (F0 m (pc + 3) ls rest)) : W p l e R s m args below meth c H locs 0 0 Q (F0 m pc ls (.int v :: .ref (ad 1) :: rest)) :=
  x_put (Wf := WC ad cI) (q0 := 1) (k := 3) (T := TX3) (N := 4) (C := RX3) (ci := 3) (ty := .boolean) S hK hP (WC_D hap u) hS wu_X3 tyX3_ok nmX3 rfl rfl (by decide) hl rfl (by decide +kernel) (zb_nar hz) (zb_fit hz) (Nat.le_of_ble_eq_true rfl) hd hu1 rfl kk
theorem gC_2_lines (S : CallFix p m c cc nL s args (Cond.code y0 c0 n0 r0 :: TG) own) (hK : va_K (dC, dI) vwCl [(cI, .int)] s) (hP : va_P (dC, dI) vwCl (WC ad cI u) H) (hl : Cond.fieldLink own index "KeyKeepers$Book" "lines" "[I" ∈ TG) (hd : decode cc pc = .ok (.getfield index, 3)) (kk : W p l e R s m args below meth c H locs 0 0 Q (F0 m (pc + 3) ls (.ref (ad 7) :: rest))) : W p l e R s m args below meth c H locs 0 0 Q (F0 m pc ls (.ref (ad 2) :: rest)) :=
  x_get (Wf := WC ad cI) (q0 := 2) (k := 0) (T := TX0) (N := 1) (C := RX0) (ci := 0) S hK hP wu_X0 rfl rfl (by decide) rfl hl hd kk
theorem gC_3_stand (S : CallFix p m c cc nL s args (Cond.code y0 c0 n0 r0 :: TG) own) (hK : va_K (dC, dI) vwCl [(cI, .int)] s) (hP : va_P (dC, dI) vwCl (WC ad cI u) H) (hl : Cond.fieldLink own index "KeyKeepers$Ways" "stand" "LKeyKeepers$Stand;" ∈ TG) (hd : decode cc pc = .ok (.getfield index, 3)) (kk : W p l e R s m args below meth c H locs 0 0 Q (F0 m (pc + 3) ls (.ref (ad 1) :: rest))) : W p l e R s m args below meth c H locs 0 0 Q (F0 m pc ls (.ref (ad 3) :: rest)) :=
  x_get (Wf := WC ad cI) (q0 := 3) (k := 0) (T := TX4) (N := 3) (C := RX4) (ci := 4) S hK hP wu_X4 rfl rfl (by decide) rfl hl hd kk
theorem gC_3_book (S : CallFix p m c cc nL s args (Cond.code y0 c0 n0 r0 :: TG) own) (hK : va_K (dC, dI) vwCl [(cI, .int)] s) (hP : va_P (dC, dI) vwCl (WC ad cI u) H) (hl : Cond.fieldLink own index "KeyKeepers$Ways" "book" "LKeyKeepers$Book;" ∈ TG) (hd : decode cc pc = .ok (.getfield index, 3)) (kk : W p l e R s m args below meth c H locs 0 0 Q (F0 m (pc + 3) ls (.ref (ad 2) :: rest))) : W p l e R s m args below meth c H locs 0 0 Q (F0 m pc ls (.ref (ad 3) :: rest)) :=
  x_get (Wf := WC ad cI) (q0 := 3) (k := 1) (T := TX4) (N := 3) (C := RX4) (ci := 4) S hK hP wu_X4 rfl rfl (by decide) rfl hl hd kk
theorem gC_3_writing (S : CallFix p m c cc nL s args (Cond.code y0 c0 n0 r0 :: TG) own) (hK : va_K (dC, dI) vwCl [(cI, .int)] s) (hP : va_P (dC, dI) vwCl (WC ad cI u) H) (hl : Cond.fieldLink own index "KeyKeepers$Ways" "writing" "Z" ∈ TG) (hd : decode cc pc = .ok (.getfield index, 3)) (kk : W p l e R s m args below meth c H locs 0 0 Q (F0 m (pc + 3) ls (.int (u 3 2) :: rest))) : W p l e R s m args below meth c H locs 0 0 Q (F0 m pc ls (.ref (ad 3) :: rest)) :=
  x_get (Wf := WC ad cI) (q0 := 3) (k := 2) (T := TX4) (N := 3) (C := RX4) (ci := 4) S hK hP wu_X4 rfl rfl (by decide) rfl hl hd kk
theorem pC_3_writing {v : Int32} {u1 : Wo} (S : CallFix p m c cc nL s args (Cond.code y0 c0 n0 r0 :: TG) own) (hK : va_K (dC, dI) vwCl [(cI, .int)] s) (hap : AP ad 14) (hP : va_P (dC, dI) vwCl (WC ad cI u) H) (hS : va_S (AF ad 14) s.heap H locs) (hl : Cond.fieldLink own index "KeyKeepers$Ways" "writing" "Z" ∈ TG) (hd : decode cc pc = .ok (.putfield index, 3)) (hz : zb v = true) (hu1 : wr u 3 2 v = u1) (kk : ∀ (H1 : Heap) (locs1 : List Loc), va_P (dC, dI) vwCl (WC ad cI u1) H1 → va_S (AF ad 14) s.heap H1 locs1 → W p l e R s m args below meth c H1 locs1 0 0 Q (F0 m (pc + 3) ls rest)) : W p l e R s m args below meth c H locs 0 0 Q (F0 m pc ls (.int v :: .ref (ad 3) :: rest)) :=
  x_put (Wf := WC ad cI) (q0 := 3) (k := 2) (T := TX4) (N := 3) (C := RX4) (ci := 4) (ty := .boolean) S hK hP (WC_D hap u) hS wu_X4 tyX4_ok nmX4 rfl rfl (by decide) hl rfl (by decide +kernel) (zb_nar hz) (zb_fit hz) (Nat.le_of_ble_eq_true rfl) hd hu1 rfl kk
theorem gC_4_stand (S : CallFix p m c cc nL s args (Cond.code y0 c0 n0 r0 :: TG) own) (hK : va_K (dC, dI) vwCl [(cI, .int)] s) (hP : va_P (dC, dI) vwCl (WC ad cI u) H) (hl : Cond.fieldLink own index "KeyKeepers$Past" "stand" "LKeyKeepers$Stand;" ∈ TG) (hd : decode cc pc = .ok (.getfield index, 3)) (kk : W p l e R s m args below meth c H locs 0 0 Q (F0 m (pc + 3) ls (.ref (ad 1) :: rest))) : W p l e R s m args below meth c H locs 0 0 Q (F0 m pc ls (.ref (ad 4) :: rest)) :=
  x_get (Wf := WC ad cI) (q0 := 4) (k := 0) (T := TX1) (N := 4) (C := RX1) (ci := 1) S hK hP wu_X1 rfl rfl (by decide) rfl hl hd kk
theorem gC_4_rows (S : CallFix p m c cc nL s args (Cond.code y0 c0 n0 r0 :: TG) own) (hK : va_K (dC, dI) vwCl [(cI, .int)] s) (hP : va_P (dC, dI) vwCl (WC ad cI u) H) (hl : Cond.fieldLink own index "KeyKeepers$Past" "rows" "[I" ∈ TG) (hd : decode cc pc = .ok (.getfield index, 3)) (kk : W p l e R s m args below meth c H locs 0 0 Q (F0 m (pc + 3) ls (.ref (ad 8) :: rest))) : W p l e R s m args below meth c H locs 0 0 Q (F0 m pc ls (.ref (ad 4) :: rest)) :=
  x_get (Wf := WC ad cI) (q0 := 4) (k := 1) (T := TX1) (N := 4) (C := RX1) (ci := 1) S hK hP wu_X1 rfl rfl (by decide) rfl hl hd kk
theorem gC_4_place (S : CallFix p m c cc nL s args (Cond.code y0 c0 n0 r0 :: TG) own) (hK : va_K (dC, dI) vwCl [(cI, .int)] s) (hP : va_P (dC, dI) vwCl (WC ad cI u) H) (hl : Cond.fieldLink own index "KeyKeepers$Past" "place" "I" ∈ TG) (hd : decode cc pc = .ok (.getfield index, 3)) (kk : W p l e R s m args below meth c H locs 0 0 Q (F0 m (pc + 3) ls (.int (u 4 2) :: rest))) : W p l e R s m args below meth c H locs 0 0 Q (F0 m pc ls (.ref (ad 4) :: rest)) :=
  x_get (Wf := WC ad cI) (q0 := 4) (k := 2) (T := TX1) (N := 4) (C := RX1) (ci := 1) S hK hP wu_X1 rfl rfl (by decide) rfl hl hd kk
theorem pC_4_place {v : Int32} {u1 : Wo} (S : CallFix p m c cc nL s args (Cond.code y0 c0 n0 r0 :: TG) own) (hK : va_K (dC, dI) vwCl [(cI, .int)] s) (hap : AP ad 14) (hP : va_P (dC, dI) vwCl (WC ad cI u) H) (hS : va_S (AF ad 14) s.heap H locs) (hl : Cond.fieldLink own index "KeyKeepers$Past" "place" "I" ∈ TG) (hd : decode cc pc = .ok (.putfield index, 3)) (hu1 : wr u 4 2 v = u1) (kk : ∀ (H1 : Heap) (locs1 : List Loc), va_P (dC, dI) vwCl (WC ad cI u1) H1 → va_S (AF ad 14) s.heap H1 locs1 → W p l e R s m args below meth c H1 locs1 0 0 Q (F0 m (pc + 3) ls rest)) : W p l e R s m args below meth c H locs 0 0 Q (F0 m pc ls (.int v :: .ref (ad 4) :: rest)) :=
  x_put (Wf := WC ad cI) (q0 := 4) (k := 2) (T := TX1) (N := 4) (C := RX1) (ci := 1) (ty := .int) S hK hP (WC_D hap u) hS wu_X1 tyX1_ok nmX1 rfl rfl (by decide) hl rfl (by decide +kernel) rfl rfl (Nat.le_of_ble_eq_true rfl) hd hu1 rfl kk
theorem gC_4_kept (S : CallFix p m c cc nL s args (Cond.code y0 c0 n0 r0 :: TG) own) (hK : va_K (dC, dI) vwCl [(cI, .int)] s) (hP : va_P (dC, dI) vwCl (WC ad cI u) H) (hl : Cond.fieldLink own index "KeyKeepers$Past" "kept" "I" ∈ TG) (hd : decode cc pc = .ok (.getfield index, 3)) (kk : W p l e R s m args below meth c H locs 0 0 Q (F0 m (pc + 3) ls (.int (u 4 3) :: rest))) : W p l e R s m args below meth c H locs 0 0 Q (F0 m pc ls (.ref (ad 4) :: rest)) :=
  x_get (Wf := WC ad cI) (q0 := 4) (k := 3) (T := TX1) (N := 4) (C := RX1) (ci := 1) S hK hP wu_X1 rfl rfl (by decide) rfl hl hd kk
theorem pC_4_kept {v : Int32} {u1 : Wo} (S : CallFix p m c cc nL s args (Cond.code y0 c0 n0 r0 :: TG) own) (hK : va_K (dC, dI) vwCl [(cI, .int)] s) (hap : AP ad 14) (hP : va_P (dC, dI) vwCl (WC ad cI u) H) (hS : va_S (AF ad 14) s.heap H locs) (hl : Cond.fieldLink own index "KeyKeepers$Past" "kept" "I" ∈ TG) (hd : decode cc pc = .ok (.putfield index, 3)) (hu1 : wr u 4 3 v = u1) (kk : ∀ (H1 : Heap) (locs1 : List Loc), va_P (dC, dI) vwCl (WC ad cI u1) H1 → va_S (AF ad 14) s.heap H1 locs1 → W p l e R s m args below meth c H1 locs1 0 0 Q (F0 m (pc + 3) ls rest)) : W p l e R s m args below meth c H locs 0 0 Q (F0 m pc ls (.int v :: .ref (ad 4) :: rest)) :=
  x_put (Wf := WC ad cI) (q0 := 4) (k := 3) (T := TX1) (N := 4) (C := RX1) (ci := 1) (ty := .int) S hK hP (WC_D hap u) hS wu_X1 tyX1_ok nmX1 rfl rfl (by decide) hl rfl (by decide +kernel) rfl rfl (Nat.le_of_ble_eq_true rfl) hd hu1 rfl kk
theorem gC_5_stand (S : CallFix p m c cc nL s args (Cond.code y0 c0 n0 r0 :: TG) own) (hK : va_K (dC, dI) vwCl [(cI, .int)] s) (hP : va_P (dC, dI) vwCl (WC ad cI u) H) (hl : Cond.fieldLink own index "KeyKeepers$Search" "stand" "LKeyKeepers$Stand;" ∈ TG) (hd : decode cc pc = .ok (.getfield index, 3)) (kk : W p l e R s m args below meth c H locs 0 0 Q (F0 m (pc + 3) ls (.ref (ad 1) :: rest))) : W p l e R s m args below meth c H locs 0 0 Q (F0 m pc ls (.ref (ad 5) :: rest)) :=
  x_get (Wf := WC ad cI) (q0 := 5) (k := 0) (T := TX2) (N := 10) (C := RX2) (ci := 2) S hK hP wu_X2 rfl rfl (by decide) rfl hl hd kk
theorem gC_5_ways (S : CallFix p m c cc nL s args (Cond.code y0 c0 n0 r0 :: TG) own) (hK : va_K (dC, dI) vwCl [(cI, .int)] s) (hP : va_P (dC, dI) vwCl (WC ad cI u) H) (hl : Cond.fieldLink own index "KeyKeepers$Search" "ways" "LKeyKeepers$Ways;" ∈ TG) (hd : decode cc pc = .ok (.getfield index, 3)) (kk : W p l e R s m args below meth c H locs 0 0 Q (F0 m (pc + 3) ls (.ref (ad 3) :: rest))) : W p l e R s m args below meth c H locs 0 0 Q (F0 m pc ls (.ref (ad 5) :: rest)) :=
  x_get (Wf := WC ad cI) (q0 := 5) (k := 1) (T := TX2) (N := 10) (C := RX2) (ci := 2) S hK hP wu_X2 rfl rfl (by decide) rfl hl hd kk
theorem gC_5_states (S : CallFix p m c cc nL s args (Cond.code y0 c0 n0 r0 :: TG) own) (hK : va_K (dC, dI) vwCl [(cI, .int)] s) (hP : va_P (dC, dI) vwCl (WC ad cI u) H) (hl : Cond.fieldLink own index "KeyKeepers$Search" "states" "[I" ∈ TG) (hd : decode cc pc = .ok (.getfield index, 3)) (kk : W p l e R s m args below meth c H locs 0 0 Q (F0 m (pc + 3) ls (.ref (ad 9) :: rest))) : W p l e R s m args below meth c H locs 0 0 Q (F0 m pc ls (.ref (ad 5) :: rest)) :=
  x_get (Wf := WC ad cI) (q0 := 5) (k := 2) (T := TX2) (N := 10) (C := RX2) (ci := 2) S hK hP wu_X2 rfl rfl (by decide) rfl hl hd kk
theorem gC_5_hashes (S : CallFix p m c cc nL s args (Cond.code y0 c0 n0 r0 :: TG) own) (hK : va_K (dC, dI) vwCl [(cI, .int)] s) (hP : va_P (dC, dI) vwCl (WC ad cI u) H) (hl : Cond.fieldLink own index "KeyKeepers$Search" "hashes" "[I" ∈ TG) (hd : decode cc pc = .ok (.getfield index, 3)) (kk : W p l e R s m args below meth c H locs 0 0 Q (F0 m (pc + 3) ls (.ref (ad 10) :: rest))) : W p l e R s m args below meth c H locs 0 0 Q (F0 m pc ls (.ref (ad 5) :: rest)) :=
  x_get (Wf := WC ad cI) (q0 := 5) (k := 3) (T := TX2) (N := 10) (C := RX2) (ci := 2) S hK hP wu_X2 rfl rfl (by decide) rfl hl hd kk
theorem gC_5_table (S : CallFix p m c cc nL s args (Cond.code y0 c0 n0 r0 :: TG) own) (hK : va_K (dC, dI) vwCl [(cI, .int)] s) (hP : va_P (dC, dI) vwCl (WC ad cI u) H) (hl : Cond.fieldLink own index "KeyKeepers$Search" "table" "[I" ∈ TG) (hd : decode cc pc = .ok (.getfield index, 3)) (kk : W p l e R s m args below meth c H locs 0 0 Q (F0 m (pc + 3) ls (.ref (ad 11) :: rest))) : W p l e R s m args below meth c H locs 0 0 Q (F0 m pc ls (.ref (ad 5) :: rest)) :=
  x_get (Wf := WC ad cI) (q0 := 5) (k := 4) (T := TX2) (N := 10) (C := RX2) (ci := 2) S hK hP wu_X2 rfl rfl (by decide) rfl hl hd kk
theorem gC_5_before (S : CallFix p m c cc nL s args (Cond.code y0 c0 n0 r0 :: TG) own) (hK : va_K (dC, dI) vwCl [(cI, .int)] s) (hP : va_P (dC, dI) vwCl (WC ad cI u) H) (hl : Cond.fieldLink own index "KeyKeepers$Search" "before" "[I" ∈ TG) (hd : decode cc pc = .ok (.getfield index, 3)) (kk : W p l e R s m args below meth c H locs 0 0 Q (F0 m (pc + 3) ls (.ref (ad 12) :: rest))) : W p l e R s m args below meth c H locs 0 0 Q (F0 m pc ls (.ref (ad 5) :: rest)) :=
  x_get (Wf := WC ad cI) (q0 := 5) (k := 5) (T := TX2) (N := 10) (C := RX2) (ci := 2) S hK hP wu_X2 rfl rfl (by decide) rfl hl hd kk
theorem gC_5_told (S : CallFix p m c cc nL s args (Cond.code y0 c0 n0 r0 :: TG) own) (hK : va_K (dC, dI) vwCl [(cI, .int)] s) (hP : va_P (dC, dI) vwCl (WC ad cI u) H) (hl : Cond.fieldLink own index "KeyKeepers$Search" "told" "[I" ∈ TG) (hd : decode cc pc = .ok (.getfield index, 3)) (kk : W p l e R s m args below meth c H locs 0 0 Q (F0 m (pc + 3) ls (.ref (ad 13) :: rest))) : W p l e R s m args below meth c H locs 0 0 Q (F0 m pc ls (.ref (ad 5) :: rest)) :=
  x_get (Wf := WC ad cI) (q0 := 5) (k := 6) (T := TX2) (N := 10) (C := RX2) (ci := 2) S hK hP wu_X2 rfl rfl (by decide) rfl hl hd kk
theorem gC_5_found (S : CallFix p m c cc nL s args (Cond.code y0 c0 n0 r0 :: TG) own) (hK : va_K (dC, dI) vwCl [(cI, .int)] s) (hP : va_P (dC, dI) vwCl (WC ad cI u) H) (hl : Cond.fieldLink own index "KeyKeepers$Search" "found" "I" ∈ TG) (hd : decode cc pc = .ok (.getfield index, 3)) (kk : W p l e R s m args below meth c H locs 0 0 Q (F0 m (pc + 3) ls (.int (u 5 7) :: rest))) : W p l e R s m args below meth c H locs 0 0 Q (F0 m pc ls (.ref (ad 5) :: rest)) :=
  x_get (Wf := WC ad cI) (q0 := 5) (k := 7) (T := TX2) (N := 10) (C := RX2) (ci := 2) S hK hP wu_X2 rfl rfl (by decide) rfl hl hd kk
theorem pC_5_found {v : Int32} {u1 : Wo} (S : CallFix p m c cc nL s args (Cond.code y0 c0 n0 r0 :: TG) own) (hK : va_K (dC, dI) vwCl [(cI, .int)] s) (hap : AP ad 14) (hP : va_P (dC, dI) vwCl (WC ad cI u) H) (hS : va_S (AF ad 14) s.heap H locs) (hl : Cond.fieldLink own index "KeyKeepers$Search" "found" "I" ∈ TG) (hd : decode cc pc = .ok (.putfield index, 3)) (hu1 : wr u 5 7 v = u1) (kk : ∀ (H1 : Heap) (locs1 : List Loc), va_P (dC, dI) vwCl (WC ad cI u1) H1 → va_S (AF ad 14) s.heap H1 locs1 → W p l e R s m args below meth c H1 locs1 0 0 Q (F0 m (pc + 3) ls rest)) : W p l e R s m args below meth c H locs 0 0 Q (F0 m pc ls (.int v :: .ref (ad 5) :: rest)) :=
  x_put (Wf := WC ad cI) (q0 := 5) (k := 7) (T := TX2) (N := 10) (C := RX2) (ci := 2) (ty := .int) S hK hP (WC_D hap u) hS wu_X2 tyX2_ok nmX2 rfl rfl (by decide) hl rfl (by decide +kernel) rfl rfl (Nat.le_of_ble_eq_true rfl) hd hu1 rfl kk
theorem gC_5_spent (S : CallFix p m c cc nL s args (Cond.code y0 c0 n0 r0 :: TG) own) (hK : va_K (dC, dI) vwCl [(cI, .int)] s) (hP : va_P (dC, dI) vwCl (WC ad cI u) H) (hl : Cond.fieldLink own index "KeyKeepers$Search" "spent" "Z" ∈ TG) (hd : decode cc pc = .ok (.getfield index, 3)) (kk : W p l e R s m args below meth c H locs 0 0 Q (F0 m (pc + 3) ls (.int (u 5 8) :: rest))) : W p l e R s m args below meth c H locs 0 0 Q (F0 m pc ls (.ref (ad 5) :: rest)) :=
  x_get (Wf := WC ad cI) (q0 := 5) (k := 8) (T := TX2) (N := 10) (C := RX2) (ci := 2) S hK hP wu_X2 rfl rfl (by decide) rfl hl hd kk
theorem pC_5_spent {v : Int32} {u1 : Wo} (S : CallFix p m c cc nL s args (Cond.code y0 c0 n0 r0 :: TG) own) (hK : va_K (dC, dI) vwCl [(cI, .int)] s) (hap : AP ad 14) (hP : va_P (dC, dI) vwCl (WC ad cI u) H) (hS : va_S (AF ad 14) s.heap H locs) (hl : Cond.fieldLink own index "KeyKeepers$Search" "spent" "Z" ∈ TG) (hd : decode cc pc = .ok (.putfield index, 3)) (hz : zb v = true) (hu1 : wr u 5 8 v = u1) (kk : ∀ (H1 : Heap) (locs1 : List Loc), va_P (dC, dI) vwCl (WC ad cI u1) H1 → va_S (AF ad 14) s.heap H1 locs1 → W p l e R s m args below meth c H1 locs1 0 0 Q (F0 m (pc + 3) ls rest)) : W p l e R s m args below meth c H locs 0 0 Q (F0 m pc ls (.int v :: .ref (ad 5) :: rest)) :=
  x_put (Wf := WC ad cI) (q0 := 5) (k := 8) (T := TX2) (N := 10) (C := RX2) (ci := 2) (ty := .boolean) S hK hP (WC_D hap u) hS wu_X2 tyX2_ok nmX2 rfl rfl (by decide) hl rfl (by decide +kernel) (zb_nar hz) (zb_fit hz) (Nat.le_of_ble_eq_true rfl) hd hu1 rfl kk
theorem gC_5_brought (S : CallFix p m c cc nL s args (Cond.code y0 c0 n0 r0 :: TG) own) (hK : va_K (dC, dI) vwCl [(cI, .int)] s) (hP : va_P (dC, dI) vwCl (WC ad cI u) H) (hl : Cond.fieldLink own index "KeyKeepers$Search" "brought" "Z" ∈ TG) (hd : decode cc pc = .ok (.getfield index, 3)) (kk : W p l e R s m args below meth c H locs 0 0 Q (F0 m (pc + 3) ls (.int (u 5 9) :: rest))) : W p l e R s m args below meth c H locs 0 0 Q (F0 m pc ls (.ref (ad 5) :: rest)) :=
  x_get (Wf := WC ad cI) (q0 := 5) (k := 9) (T := TX2) (N := 10) (C := RX2) (ci := 2) S hK hP wu_X2 rfl rfl (by decide) rfl hl hd kk
theorem pC_5_brought {v : Int32} {u1 : Wo} (S : CallFix p m c cc nL s args (Cond.code y0 c0 n0 r0 :: TG) own) (hK : va_K (dC, dI) vwCl [(cI, .int)] s) (hap : AP ad 14) (hP : va_P (dC, dI) vwCl (WC ad cI u) H) (hS : va_S (AF ad 14) s.heap H locs) (hl : Cond.fieldLink own index "KeyKeepers$Search" "brought" "Z" ∈ TG) (hd : decode cc pc = .ok (.putfield index, 3)) (hz : zb v = true) (hu1 : wr u 5 9 v = u1) (kk : ∀ (H1 : Heap) (locs1 : List Loc), va_P (dC, dI) vwCl (WC ad cI u1) H1 → va_S (AF ad 14) s.heap H1 locs1 → W p l e R s m args below meth c H1 locs1 0 0 Q (F0 m (pc + 3) ls rest)) : W p l e R s m args below meth c H locs 0 0 Q (F0 m pc ls (.int v :: .ref (ad 5) :: rest)) :=
  x_put (Wf := WC ad cI) (q0 := 5) (k := 9) (T := TX2) (N := 10) (C := RX2) (ci := 2) (ty := .boolean) S hK hP (WC_D hap u) hS wu_X2 tyX2_ok nmX2 rfl rfl (by decide) hl rfl (by decide +kernel) (zb_nar hz) (zb_fit hz) (Nat.le_of_ble_eq_true rfl) hd hu1 rfl kk
theorem lC_6 {i : Int32} (S : CallFix p m c cc nL s args (Cond.code y0 c0 n0 r0 :: TG) own) (hK : va_K (dC, dI) vwCl [(cI, .int)] s) (hP : va_P (dC, dI) vwCl (WC ad cI u) H) (hi : inb i 618 = true) (hd : decode cc pc = .ok (.iaload, 1)) (kk : W p l e R s m args below meth c H locs 0 0 Q (F0 m (pc + 1) ls (.int (u 6 i.toNatClampNeg) :: rest))) : W p l e R s m args below meth c H locs 0 0 Q (F0 m pc ls (.int i :: .ref (ad 6) :: rest)) :=
  x_ald (Wf := WC ad cI) S hK hP (hC_6 u) hi hd kk
theorem tC_6 {i v : Int32} {u1 : Wo} (S : CallFix p m c cc nL s args (Cond.code y0 c0 n0 r0 :: TG) own) (hK : va_K (dC, dI) vwCl [(cI, .int)] s) (hap : AP ad 14) (hP : va_P (dC, dI) vwCl (WC ad cI u) H) (hS : va_S (AF ad 14) s.heap H locs) (hi : inb i 618 = true) (hd : decode cc pc = .ok (.iastore, 1)) (hu : wr u 6 i.toNatClampNeg v = u1) (kk : ∀ (H1 : Heap) (locs1 : List Loc), va_P (dC, dI) vwCl (WC ad cI u1) H1 → va_S (AF ad 14) s.heap H1 locs1 → W p l e R s m args below meth c H1 locs1 0 0 Q (F0 m (pc + 1) ls rest)) : W p l e R s m args below meth c H locs 0 0 Q (F0 m pc ls (.int v :: .int i :: .ref (ad 6) :: rest)) :=
  x_ast (Wf := WC ad cI) S hK hP (WC_D hap u) hS (hC_6 u) hi hd hu (sC_6 u _ v) kk
theorem nC_6 (S : CallFix p m c cc nL s args (Cond.code y0 c0 n0 r0 :: TG) own) (hK : va_K (dC, dI) vwCl [(cI, .int)] s) (hP : va_P (dC, dI) vwCl (WC ad cI u) H) (hd : decode cc pc = .ok (.arraylength, 1)) (kk : W p l e R s m args below meth c H locs 0 0 Q (F0 m (pc + 1) ls (.int (618 : Int32) :: rest))) : W p l e R s m args below meth c H locs 0 0 Q (F0 m pc ls (.ref (ad 6) :: rest)) :=
  x_aln (Wf := WC ad cI) S hK hP (hC_6 u) (by decide +kernel) hd kk
theorem lC_7 {i : Int32} (S : CallFix p m c cc nL s args (Cond.code y0 c0 n0 r0 :: TG) own) (hK : va_K (dC, dI) vwCl [(cI, .int)] s) (hP : va_P (dC, dI) vwCl (WC ad cI u) H) (hi : inb i 270 = true) (hd : decode cc pc = .ok (.iaload, 1)) (kk : W p l e R s m args below meth c H locs 0 0 Q (F0 m (pc + 1) ls (.int (u 7 i.toNatClampNeg) :: rest))) : W p l e R s m args below meth c H locs 0 0 Q (F0 m pc ls (.int i :: .ref (ad 7) :: rest)) :=
  x_ald (Wf := WC ad cI) S hK hP (hC_7 u) hi hd kk
theorem tC_7 {i v : Int32} {u1 : Wo} (S : CallFix p m c cc nL s args (Cond.code y0 c0 n0 r0 :: TG) own) (hK : va_K (dC, dI) vwCl [(cI, .int)] s) (hap : AP ad 14) (hP : va_P (dC, dI) vwCl (WC ad cI u) H) (hS : va_S (AF ad 14) s.heap H locs) (hi : inb i 270 = true) (hd : decode cc pc = .ok (.iastore, 1)) (hu : wr u 7 i.toNatClampNeg v = u1) (kk : ∀ (H1 : Heap) (locs1 : List Loc), va_P (dC, dI) vwCl (WC ad cI u1) H1 → va_S (AF ad 14) s.heap H1 locs1 → W p l e R s m args below meth c H1 locs1 0 0 Q (F0 m (pc + 1) ls rest)) : W p l e R s m args below meth c H locs 0 0 Q (F0 m pc ls (.int v :: .int i :: .ref (ad 7) :: rest)) :=
  x_ast (Wf := WC ad cI) S hK hP (WC_D hap u) hS (hC_7 u) hi hd hu (sC_7 u _ v) kk
theorem nC_7 (S : CallFix p m c cc nL s args (Cond.code y0 c0 n0 r0 :: TG) own) (hK : va_K (dC, dI) vwCl [(cI, .int)] s) (hP : va_P (dC, dI) vwCl (WC ad cI u) H) (hd : decode cc pc = .ok (.arraylength, 1)) (kk : W p l e R s m args below meth c H locs 0 0 Q (F0 m (pc + 1) ls (.int (270 : Int32) :: rest))) : W p l e R s m args below meth c H locs 0 0 Q (F0 m pc ls (.ref (ad 7) :: rest)) :=
  x_aln (Wf := WC ad cI) S hK hP (hC_7 u) (by decide +kernel) hd kk
theorem lC_8 {i : Int32} (S : CallFix p m c cc nL s args (Cond.code y0 c0 n0 r0 :: TG) own) (hK : va_K (dC, dI) vwCl [(cI, .int)] s) (hP : va_P (dC, dI) vwCl (WC ad cI u) H) (hi : inb i 19158 = true) (hd : decode cc pc = .ok (.iaload, 1)) (kk : W p l e R s m args below meth c H locs 0 0 Q (F0 m (pc + 1) ls (.int (u 8 i.toNatClampNeg) :: rest))) : W p l e R s m args below meth c H locs 0 0 Q (F0 m pc ls (.int i :: .ref (ad 8) :: rest)) :=
  x_ald (Wf := WC ad cI) S hK hP (hC_8 u) hi hd kk
theorem tC_8 {i v : Int32} {u1 : Wo} (S : CallFix p m c cc nL s args (Cond.code y0 c0 n0 r0 :: TG) own) (hK : va_K (dC, dI) vwCl [(cI, .int)] s) (hap : AP ad 14) (hP : va_P (dC, dI) vwCl (WC ad cI u) H) (hS : va_S (AF ad 14) s.heap H locs) (hi : inb i 19158 = true) (hd : decode cc pc = .ok (.iastore, 1)) (hu : wr u 8 i.toNatClampNeg v = u1) (kk : ∀ (H1 : Heap) (locs1 : List Loc), va_P (dC, dI) vwCl (WC ad cI u1) H1 → va_S (AF ad 14) s.heap H1 locs1 → W p l e R s m args below meth c H1 locs1 0 0 Q (F0 m (pc + 1) ls rest)) : W p l e R s m args below meth c H locs 0 0 Q (F0 m pc ls (.int v :: .int i :: .ref (ad 8) :: rest)) :=
  x_ast (Wf := WC ad cI) S hK hP (WC_D hap u) hS (hC_8 u) hi hd hu (sC_8 u _ v) kk
theorem nC_8 (S : CallFix p m c cc nL s args (Cond.code y0 c0 n0 r0 :: TG) own) (hK : va_K (dC, dI) vwCl [(cI, .int)] s) (hP : va_P (dC, dI) vwCl (WC ad cI u) H) (hd : decode cc pc = .ok (.arraylength, 1)) (kk : W p l e R s m args below meth c H locs 0 0 Q (F0 m (pc + 1) ls (.int (19158 : Int32) :: rest))) : W p l e R s m args below meth c H locs 0 0 Q (F0 m pc ls (.ref (ad 8) :: rest)) :=
  x_aln (Wf := WC ad cI) S hK hP (hC_8 u) (by decide +kernel) hd kk
theorem lC_9 {i : Int32} (S : CallFix p m c cc nL s args (Cond.code y0 c0 n0 r0 :: TG) own) (hK : va_K (dC, dI) vwCl [(cI, .int)] s) (hP : va_P (dC, dI) vwCl (WC ad cI u) H) (hi : inb i 182400 = true) (hd : decode cc pc = .ok (.iaload, 1)) (kk : W p l e R s m args below meth c H locs 0 0 Q (F0 m (pc + 1) ls (.int (u 9 i.toNatClampNeg) :: rest))) : W p l e R s m args below meth c H locs 0 0 Q (F0 m pc ls (.int i :: .ref (ad 9) :: rest)) :=
  x_ald (Wf := WC ad cI) S hK hP (hC_9 u) hi hd kk
theorem tC_9 {i v : Int32} {u1 : Wo} (S : CallFix p m c cc nL s args (Cond.code y0 c0 n0 r0 :: TG) own) (hK : va_K (dC, dI) vwCl [(cI, .int)] s) (hap : AP ad 14) (hP : va_P (dC, dI) vwCl (WC ad cI u) H) (hS : va_S (AF ad 14) s.heap H locs) (hi : inb i 182400 = true) (hd : decode cc pc = .ok (.iastore, 1)) (hu : wr u 9 i.toNatClampNeg v = u1) (kk : ∀ (H1 : Heap) (locs1 : List Loc), va_P (dC, dI) vwCl (WC ad cI u1) H1 → va_S (AF ad 14) s.heap H1 locs1 → W p l e R s m args below meth c H1 locs1 0 0 Q (F0 m (pc + 1) ls rest)) : W p l e R s m args below meth c H locs 0 0 Q (F0 m pc ls (.int v :: .int i :: .ref (ad 9) :: rest)) :=
  x_ast (Wf := WC ad cI) S hK hP (WC_D hap u) hS (hC_9 u) hi hd hu (sC_9 u _ v) kk
theorem nC_9 (S : CallFix p m c cc nL s args (Cond.code y0 c0 n0 r0 :: TG) own) (hK : va_K (dC, dI) vwCl [(cI, .int)] s) (hP : va_P (dC, dI) vwCl (WC ad cI u) H) (hd : decode cc pc = .ok (.arraylength, 1)) (kk : W p l e R s m args below meth c H locs 0 0 Q (F0 m (pc + 1) ls (.int (182400 : Int32) :: rest))) : W p l e R s m args below meth c H locs 0 0 Q (F0 m pc ls (.ref (ad 9) :: rest)) :=
  x_aln (Wf := WC ad cI) S hK hP (hC_9 u) (by decide +kernel) hd kk
theorem lC_10 {i : Int32} (S : CallFix p m c cc nL s args (Cond.code y0 c0 n0 r0 :: TG) own) (hK : va_K (dC, dI) vwCl [(cI, .int)] s) (hP : va_P (dC, dI) vwCl (WC ad cI u) H) (hi : inb i 300 = true) (hd : decode cc pc = .ok (.iaload, 1)) (kk : W p l e R s m args below meth c H locs 0 0 Q (F0 m (pc + 1) ls (.int (u 10 i.toNatClampNeg) :: rest))) : W p l e R s m args below meth c H locs 0 0 Q (F0 m pc ls (.int i :: .ref (ad 10) :: rest)) :=
  x_ald (Wf := WC ad cI) S hK hP (hC_10 u) hi hd kk
theorem tC_10 {i v : Int32} {u1 : Wo} (S : CallFix p m c cc nL s args (Cond.code y0 c0 n0 r0 :: TG) own) (hK : va_K (dC, dI) vwCl [(cI, .int)] s) (hap : AP ad 14) (hP : va_P (dC, dI) vwCl (WC ad cI u) H) (hS : va_S (AF ad 14) s.heap H locs) (hi : inb i 300 = true) (hd : decode cc pc = .ok (.iastore, 1)) (hu : wr u 10 i.toNatClampNeg v = u1) (kk : ∀ (H1 : Heap) (locs1 : List Loc), va_P (dC, dI) vwCl (WC ad cI u1) H1 → va_S (AF ad 14) s.heap H1 locs1 → W p l e R s m args below meth c H1 locs1 0 0 Q (F0 m (pc + 1) ls rest)) : W p l e R s m args below meth c H locs 0 0 Q (F0 m pc ls (.int v :: .int i :: .ref (ad 10) :: rest)) :=
  x_ast (Wf := WC ad cI) S hK hP (WC_D hap u) hS (hC_10 u) hi hd hu (sC_10 u _ v) kk
theorem nC_10 (S : CallFix p m c cc nL s args (Cond.code y0 c0 n0 r0 :: TG) own) (hK : va_K (dC, dI) vwCl [(cI, .int)] s) (hP : va_P (dC, dI) vwCl (WC ad cI u) H) (hd : decode cc pc = .ok (.arraylength, 1)) (kk : W p l e R s m args below meth c H locs 0 0 Q (F0 m (pc + 1) ls (.int (300 : Int32) :: rest))) : W p l e R s m args below meth c H locs 0 0 Q (F0 m pc ls (.ref (ad 10) :: rest)) :=
  x_aln (Wf := WC ad cI) S hK hP (hC_10 u) (by decide +kernel) hd kk
theorem lC_11 {i : Int32} (S : CallFix p m c cc nL s args (Cond.code y0 c0 n0 r0 :: TG) own) (hK : va_K (dC, dI) vwCl [(cI, .int)] s) (hP : va_P (dC, dI) vwCl (WC ad cI u) H) (hi : inb i 1024 = true) (hd : decode cc pc = .ok (.iaload, 1)) (kk : W p l e R s m args below meth c H locs 0 0 Q (F0 m (pc + 1) ls (.int (u 11 i.toNatClampNeg) :: rest))) : W p l e R s m args below meth c H locs 0 0 Q (F0 m pc ls (.int i :: .ref (ad 11) :: rest)) :=
  x_ald (Wf := WC ad cI) S hK hP (hC_11 u) hi hd kk
theorem tC_11 {i v : Int32} {u1 : Wo} (S : CallFix p m c cc nL s args (Cond.code y0 c0 n0 r0 :: TG) own) (hK : va_K (dC, dI) vwCl [(cI, .int)] s) (hap : AP ad 14) (hP : va_P (dC, dI) vwCl (WC ad cI u) H) (hS : va_S (AF ad 14) s.heap H locs) (hi : inb i 1024 = true) (hd : decode cc pc = .ok (.iastore, 1)) (hu : wr u 11 i.toNatClampNeg v = u1) (kk : ∀ (H1 : Heap) (locs1 : List Loc), va_P (dC, dI) vwCl (WC ad cI u1) H1 → va_S (AF ad 14) s.heap H1 locs1 → W p l e R s m args below meth c H1 locs1 0 0 Q (F0 m (pc + 1) ls rest)) : W p l e R s m args below meth c H locs 0 0 Q (F0 m pc ls (.int v :: .int i :: .ref (ad 11) :: rest)) :=
  x_ast (Wf := WC ad cI) S hK hP (WC_D hap u) hS (hC_11 u) hi hd hu (sC_11 u _ v) kk
theorem nC_11 (S : CallFix p m c cc nL s args (Cond.code y0 c0 n0 r0 :: TG) own) (hK : va_K (dC, dI) vwCl [(cI, .int)] s) (hP : va_P (dC, dI) vwCl (WC ad cI u) H) (hd : decode cc pc = .ok (.arraylength, 1)) (kk : W p l e R s m args below meth c H locs 0 0 Q (F0 m (pc + 1) ls (.int (1024 : Int32) :: rest))) : W p l e R s m args below meth c H locs 0 0 Q (F0 m pc ls (.ref (ad 11) :: rest)) :=
  x_aln (Wf := WC ad cI) S hK hP (hC_11 u) (by decide +kernel) hd kk
theorem lC_12 {i : Int32} (S : CallFix p m c cc nL s args (Cond.code y0 c0 n0 r0 :: TG) own) (hK : va_K (dC, dI) vwCl [(cI, .int)] s) (hP : va_P (dC, dI) vwCl (WC ad cI u) H) (hi : inb i 618 = true) (hd : decode cc pc = .ok (.iaload, 1)) (kk : W p l e R s m args below meth c H locs 0 0 Q (F0 m (pc + 1) ls (.int (u 12 i.toNatClampNeg) :: rest))) : W p l e R s m args below meth c H locs 0 0 Q (F0 m pc ls (.int i :: .ref (ad 12) :: rest)) :=
  x_ald (Wf := WC ad cI) S hK hP (hC_12 u) hi hd kk
theorem tC_12 {i v : Int32} {u1 : Wo} (S : CallFix p m c cc nL s args (Cond.code y0 c0 n0 r0 :: TG) own) (hK : va_K (dC, dI) vwCl [(cI, .int)] s) (hap : AP ad 14) (hP : va_P (dC, dI) vwCl (WC ad cI u) H) (hS : va_S (AF ad 14) s.heap H locs) (hi : inb i 618 = true) (hd : decode cc pc = .ok (.iastore, 1)) (hu : wr u 12 i.toNatClampNeg v = u1) (kk : ∀ (H1 : Heap) (locs1 : List Loc), va_P (dC, dI) vwCl (WC ad cI u1) H1 → va_S (AF ad 14) s.heap H1 locs1 → W p l e R s m args below meth c H1 locs1 0 0 Q (F0 m (pc + 1) ls rest)) : W p l e R s m args below meth c H locs 0 0 Q (F0 m pc ls (.int v :: .int i :: .ref (ad 12) :: rest)) :=
  x_ast (Wf := WC ad cI) S hK hP (WC_D hap u) hS (hC_12 u) hi hd hu (sC_12 u _ v) kk
theorem nC_12 (S : CallFix p m c cc nL s args (Cond.code y0 c0 n0 r0 :: TG) own) (hK : va_K (dC, dI) vwCl [(cI, .int)] s) (hP : va_P (dC, dI) vwCl (WC ad cI u) H) (hd : decode cc pc = .ok (.arraylength, 1)) (kk : W p l e R s m args below meth c H locs 0 0 Q (F0 m (pc + 1) ls (.int (618 : Int32) :: rest))) : W p l e R s m args below meth c H locs 0 0 Q (F0 m pc ls (.ref (ad 12) :: rest)) :=
  x_aln (Wf := WC ad cI) S hK hP (hC_12 u) (by decide +kernel) hd kk
theorem lC_13 {i : Int32} (S : CallFix p m c cc nL s args (Cond.code y0 c0 n0 r0 :: TG) own) (hK : va_K (dC, dI) vwCl [(cI, .int)] s) (hP : va_P (dC, dI) vwCl (WC ad cI u) H) (hi : inb i 7 = true) (hd : decode cc pc = .ok (.iaload, 1)) (kk : W p l e R s m args below meth c H locs 0 0 Q (F0 m (pc + 1) ls (.int (u 13 i.toNatClampNeg) :: rest))) : W p l e R s m args below meth c H locs 0 0 Q (F0 m pc ls (.int i :: .ref (ad 13) :: rest)) :=
  x_ald (Wf := WC ad cI) S hK hP (hC_13 u) hi hd kk
theorem tC_13 {i v : Int32} {u1 : Wo} (S : CallFix p m c cc nL s args (Cond.code y0 c0 n0 r0 :: TG) own) (hK : va_K (dC, dI) vwCl [(cI, .int)] s) (hap : AP ad 14) (hP : va_P (dC, dI) vwCl (WC ad cI u) H) (hS : va_S (AF ad 14) s.heap H locs) (hi : inb i 7 = true) (hd : decode cc pc = .ok (.iastore, 1)) (hu : wr u 13 i.toNatClampNeg v = u1) (kk : ∀ (H1 : Heap) (locs1 : List Loc), va_P (dC, dI) vwCl (WC ad cI u1) H1 → va_S (AF ad 14) s.heap H1 locs1 → W p l e R s m args below meth c H1 locs1 0 0 Q (F0 m (pc + 1) ls rest)) : W p l e R s m args below meth c H locs 0 0 Q (F0 m pc ls (.int v :: .int i :: .ref (ad 13) :: rest)) :=
  x_ast (Wf := WC ad cI) S hK hP (WC_D hap u) hS (hC_13 u) hi hd hu (sC_13 u _ v) kk
theorem nC_13 (S : CallFix p m c cc nL s args (Cond.code y0 c0 n0 r0 :: TG) own) (hK : va_K (dC, dI) vwCl [(cI, .int)] s) (hP : va_P (dC, dI) vwCl (WC ad cI u) H) (hd : decode cc pc = .ok (.arraylength, 1)) (kk : W p l e R s m args below meth c H locs 0 0 Q (F0 m (pc + 1) ls (.int (7 : Int32) :: rest))) : W p l e R s m args below meth c H locs 0 0 Q (F0 m pc ls (.ref (ad 13) :: rest)) :=
  x_aln (Wf := WC ad cI) S hK hP (hC_13 u) (by decide +kernel) hd kk
end FC
/-- the cells of side M, their numbers read off u -/
def WM (ad : Nat → Nat) (cI : ClassId) (u : Wo) : va_W := [(ad 0, .inr (6, [.int (u 0 0), .int (u 0 1), .ref (ad 1), .ref (ad 2), .ref (ad 3), .int (u 0 5), .int (u 0 6), .int (u 0 7), .int (u 0 8), .int (u 0 9), .int (u 0 10), .ref (ad 4), .ref (ad 5), .int (u 0 13), .ref (ad 6), .ref (ad 7), .ref (ad 8), .int (u 0 17)])), (ad 1, .inl (cI, 6, .inl (u 1))), (ad 2, .inl (cI, 1040, .inl (u 2))), (ad 3, .inl (cI, 190, .inl (u 3))), (ad 4, .inl (cI, 36900, .inl (u 4))), (ad 5, .inl (cI, 1230, .inl (u 5))), (ad 6, .inl (cI, 312000, .inl (u 6))), (ad 7, .inl (cI, 1024, .inl (u 7))), (ad 8, .inl (cI, 7, .inl (u 8)))]
theorem WM_D {ad : Nat → Nat} {cI : ClassId} (h : AP ad 9) (u : Wo) : va_D (AF ad 9) (WM ad cI u) := by
  refine x_D h (fun k q hq => ?_)
  match k, hq with
  | 0, hq => cases hq; exact ⟨by decide, rfl⟩
  | 1, hq => cases hq; exact ⟨by decide, rfl⟩
  | 2, hq => cases hq; exact ⟨by decide, rfl⟩
  | 3, hq => cases hq; exact ⟨by decide, rfl⟩
  | 4, hq => cases hq; exact ⟨by decide, rfl⟩
  | 5, hq => cases hq; exact ⟨by decide, rfl⟩
  | 6, hq => cases hq; exact ⟨by decide, rfl⟩
  | 7, hq => cases hq; exact ⟨by decide, rfl⟩
  | 8, hq => cases hq; exact ⟨by decide, rfl⟩
  | k + 9, hq => cases hq
theorem hM_1 {ad : Nat → Nat} {cI : ClassId} (u : Wo) : (WM ad cI u)[1]? = some (ad 1, .inl (cI, 6, .inl (u 1))) := rfl
theorem sM_1 {ad : Nat → Nat} {cI : ClassId} (u : Wo) (k : Nat) (v : Int32) : (WM ad cI u).set 1 (ad 1, .inl (cI, 6, .inl (upd (u 1) k v))) = WM ad cI (wr u 1 k v) := rfl
theorem hM_2 {ad : Nat → Nat} {cI : ClassId} (u : Wo) : (WM ad cI u)[2]? = some (ad 2, .inl (cI, 1040, .inl (u 2))) := rfl
theorem sM_2 {ad : Nat → Nat} {cI : ClassId} (u : Wo) (k : Nat) (v : Int32) : (WM ad cI u).set 2 (ad 2, .inl (cI, 1040, .inl (upd (u 2) k v))) = WM ad cI (wr u 2 k v) := rfl
theorem hM_3 {ad : Nat → Nat} {cI : ClassId} (u : Wo) : (WM ad cI u)[3]? = some (ad 3, .inl (cI, 190, .inl (u 3))) := rfl
theorem sM_3 {ad : Nat → Nat} {cI : ClassId} (u : Wo) (k : Nat) (v : Int32) : (WM ad cI u).set 3 (ad 3, .inl (cI, 190, .inl (upd (u 3) k v))) = WM ad cI (wr u 3 k v) := rfl
theorem hM_4 {ad : Nat → Nat} {cI : ClassId} (u : Wo) : (WM ad cI u)[4]? = some (ad 4, .inl (cI, 36900, .inl (u 4))) := rfl
theorem sM_4 {ad : Nat → Nat} {cI : ClassId} (u : Wo) (k : Nat) (v : Int32) : (WM ad cI u).set 4 (ad 4, .inl (cI, 36900, .inl (upd (u 4) k v))) = WM ad cI (wr u 4 k v) := rfl
theorem hM_5 {ad : Nat → Nat} {cI : ClassId} (u : Wo) : (WM ad cI u)[5]? = some (ad 5, .inl (cI, 1230, .inl (u 5))) := rfl
theorem sM_5 {ad : Nat → Nat} {cI : ClassId} (u : Wo) (k : Nat) (v : Int32) : (WM ad cI u).set 5 (ad 5, .inl (cI, 1230, .inl (upd (u 5) k v))) = WM ad cI (wr u 5 k v) := rfl
theorem hM_6 {ad : Nat → Nat} {cI : ClassId} (u : Wo) : (WM ad cI u)[6]? = some (ad 6, .inl (cI, 312000, .inl (u 6))) := rfl
theorem sM_6 {ad : Nat → Nat} {cI : ClassId} (u : Wo) (k : Nat) (v : Int32) : (WM ad cI u).set 6 (ad 6, .inl (cI, 312000, .inl (upd (u 6) k v))) = WM ad cI (wr u 6 k v) := rfl
theorem hM_7 {ad : Nat → Nat} {cI : ClassId} (u : Wo) : (WM ad cI u)[7]? = some (ad 7, .inl (cI, 1024, .inl (u 7))) := rfl
theorem sM_7 {ad : Nat → Nat} {cI : ClassId} (u : Wo) (k : Nat) (v : Int32) : (WM ad cI u).set 7 (ad 7, .inl (cI, 1024, .inl (upd (u 7) k v))) = WM ad cI (wr u 7 k v) := rfl
theorem hM_8 {ad : Nat → Nat} {cI : ClassId} (u : Wo) : (WM ad cI u)[8]? = some (ad 8, .inl (cI, 7, .inl (u 8))) := rfl
theorem sM_8 {ad : Nat → Nat} {cI : ClassId} (u : Wo) (k : Nat) (v : Int32) : (WM ad cI u).set 8 (ad 8, .inl (cI, 7, .inl (upd (u 8) k v))) = WM ad cI (wr u 8 k v) := rfl
section FM
variable {p : Program} {l : Launch} {e : Env} {R : Room} {s : State} {m : MethodId} {args : Array Value} {below : List Frame} {meth : Method} {c : Code} {H : Heap} {locs : List Loc} {Q : State → Prop} {cc : ByteArray} {nL pc : Nat} {ls : Array Slot} {rest : List Value} {y0 : MethodName} {c0 : ByteArray} {n0 : Nat} {r0 : Option FieldType} {own : String} {dC : Nat → ClassId} {dI : Nat → Nat → Nat} {cI : ClassId} {u : Wo} {index : Nat} {ad : Nat → Nat}
theorem gM_0_way (S : CallFix p m c cc nL s args (Cond.code y0 c0 n0 r0 :: TG) own) (hK : va_K (dC, dI) vwCl [(cI, .int)] s) (hP : va_P (dC, dI) vwCl (WM ad cI u) H) (hl : Cond.fieldLink own index "KeyKeepersModel" "way" "I" ∈ TG) (hd : decode cc pc = .ok (.getfield index, 3)) (kk : W p l e R s m args below meth c H locs 0 0 Q (F0 m (pc + 3) ls (.int (u 0 0) :: rest))) : W p l e R s m args below meth c H locs 0 0 Q (F0 m pc ls (.ref (ad 0) :: rest)) :=
  x_get (Wf := WM ad cI) (q0 := 0) (k := 0) (T := TX6) (N := 18) (C := RX6) (ci := 6) S hK hP wu_X6 rfl rfl (by decide) rfl hl hd kk
theorem pM_0_way {v : Int32} {u1 : Wo} (S : CallFix p m c cc nL s args (Cond.code y0 c0 n0 r0 :: TG) own) (hK : va_K (dC, dI) vwCl [(cI, .int)] s) (hap : AP ad 9) (hP : va_P (dC, dI) vwCl (WM ad cI u) H) (hS : va_S (AF ad 9) s.heap H locs) (hl : Cond.fieldLink own index "KeyKeepersModel" "way" "I" ∈ TG) (hd : decode cc pc = .ok (.putfield index, 3)) (hu1 : wr u 0 0 v = u1) (kk : ∀ (H1 : Heap) (locs1 : List Loc), va_P (dC, dI) vwCl (WM ad cI u1) H1 → va_S (AF ad 9) s.heap H1 locs1 → W p l e R s m args below meth c H1 locs1 0 0 Q (F0 m (pc + 3) ls rest)) : W p l e R s m args below meth c H locs 0 0 Q (F0 m pc ls (.int v :: .ref (ad 0) :: rest)) :=
  x_put (Wf := WM ad cI) (q0 := 0) (k := 0) (T := TX6) (N := 18) (C := RX6) (ci := 6) (ty := .int) S hK hP (WM_D hap u) hS wu_X6 tyX6_ok nmX6 rfl rfl (by decide) hl rfl (by decide +kernel) rfl rfl (Nat.le_of_ble_eq_true rfl) hd hu1 rfl kk
theorem gM_0_n (S : CallFix p m c cc nL s args (Cond.code y0 c0 n0 r0 :: TG) own) (hK : va_K (dC, dI) vwCl [(cI, .int)] s) (hP : va_P (dC, dI) vwCl (WM ad cI u) H) (hl : Cond.fieldLink own index "KeyKeepersModel" "n" "I" ∈ TG) (hd : decode cc pc = .ok (.getfield index, 3)) (kk : W p l e R s m args below meth c H locs 0 0 Q (F0 m (pc + 3) ls (.int (u 0 1) :: rest))) : W p l e R s m args below meth c H locs 0 0 Q (F0 m pc ls (.ref (ad 0) :: rest)) :=
  x_get (Wf := WM ad cI) (q0 := 0) (k := 1) (T := TX6) (N := 18) (C := RX6) (ci := 6) S hK hP wu_X6 rfl rfl (by decide) rfl hl hd kk
theorem pM_0_n {v : Int32} {u1 : Wo} (S : CallFix p m c cc nL s args (Cond.code y0 c0 n0 r0 :: TG) own) (hK : va_K (dC, dI) vwCl [(cI, .int)] s) (hap : AP ad 9) (hP : va_P (dC, dI) vwCl (WM ad cI u) H) (hS : va_S (AF ad 9) s.heap H locs) (hl : Cond.fieldLink own index "KeyKeepersModel" "n" "I" ∈ TG) (hd : decode cc pc = .ok (.putfield index, 3)) (hu1 : wr u 0 1 v = u1) (kk : ∀ (H1 : Heap) (locs1 : List Loc), va_P (dC, dI) vwCl (WM ad cI u1) H1 → va_S (AF ad 9) s.heap H1 locs1 → W p l e R s m args below meth c H1 locs1 0 0 Q (F0 m (pc + 3) ls rest)) : W p l e R s m args below meth c H locs 0 0 Q (F0 m pc ls (.int v :: .ref (ad 0) :: rest)) :=
  x_put (Wf := WM ad cI) (q0 := 0) (k := 1) (T := TX6) (N := 18) (C := RX6) (ci := 6) (ty := .int) S hK hP (WM_D hap u) hS wu_X6 tyX6_ok nmX6 rfl rfl (by decide) hl rfl (by decide +kernel) rfl rfl (Nat.le_of_ble_eq_true rfl) hd hu1 rfl kk
theorem gM_0_parent (S : CallFix p m c cc nL s args (Cond.code y0 c0 n0 r0 :: TG) own) (hK : va_K (dC, dI) vwCl [(cI, .int)] s) (hP : va_P (dC, dI) vwCl (WM ad cI u) H) (hl : Cond.fieldLink own index "KeyKeepersModel" "parent" "[I" ∈ TG) (hd : decode cc pc = .ok (.getfield index, 3)) (kk : W p l e R s m args below meth c H locs 0 0 Q (F0 m (pc + 3) ls (.ref (ad 1) :: rest))) : W p l e R s m args below meth c H locs 0 0 Q (F0 m pc ls (.ref (ad 0) :: rest)) :=
  x_get (Wf := WM ad cI) (q0 := 0) (k := 2) (T := TX6) (N := 18) (C := RX6) (ci := 6) S hK hP wu_X6 rfl rfl (by decide) rfl hl hd kk
theorem gM_0_st (S : CallFix p m c cc nL s args (Cond.code y0 c0 n0 r0 :: TG) own) (hK : va_K (dC, dI) vwCl [(cI, .int)] s) (hP : va_P (dC, dI) vwCl (WM ad cI u) H) (hl : Cond.fieldLink own index "KeyKeepersModel" "st" "[I" ∈ TG) (hd : decode cc pc = .ok (.getfield index, 3)) (kk : W p l e R s m args below meth c H locs 0 0 Q (F0 m (pc + 3) ls (.ref (ad 2) :: rest))) : W p l e R s m args below meth c H locs 0 0 Q (F0 m pc ls (.ref (ad 0) :: rest)) :=
  x_get (Wf := WM ad cI) (q0 := 0) (k := 3) (T := TX6) (N := 18) (C := RX6) (ci := 6) S hK hP wu_X6 rfl rfl (by decide) rfl hl hd kk
theorem gM_0_ex (S : CallFix p m c cc nL s args (Cond.code y0 c0 n0 r0 :: TG) own) (hK : va_K (dC, dI) vwCl [(cI, .int)] s) (hP : va_P (dC, dI) vwCl (WM ad cI u) H) (hl : Cond.fieldLink own index "KeyKeepersModel" "ex" "[I" ∈ TG) (hd : decode cc pc = .ok (.getfield index, 3)) (kk : W p l e R s m args below meth c H locs 0 0 Q (F0 m (pc + 3) ls (.ref (ad 3) :: rest))) : W p l e R s m args below meth c H locs 0 0 Q (F0 m pc ls (.ref (ad 0) :: rest)) :=
  x_get (Wf := WM ad cI) (q0 := 0) (k := 4) (T := TX6) (N := 18) (C := RX6) (ci := 6) S hK hP wu_X6 rfl rfl (by decide) rfl hl hd kk
theorem gM_0_isOver (S : CallFix p m c cc nL s args (Cond.code y0 c0 n0 r0 :: TG) own) (hK : va_K (dC, dI) vwCl [(cI, .int)] s) (hP : va_P (dC, dI) vwCl (WM ad cI u) H) (hl : Cond.fieldLink own index "KeyKeepersModel" "isOver" "Z" ∈ TG) (hd : decode cc pc = .ok (.getfield index, 3)) (kk : W p l e R s m args below meth c H locs 0 0 Q (F0 m (pc + 3) ls (.int (u 0 5) :: rest))) : W p l e R s m args below meth c H locs 0 0 Q (F0 m pc ls (.ref (ad 0) :: rest)) :=
  x_get (Wf := WM ad cI) (q0 := 0) (k := 5) (T := TX6) (N := 18) (C := RX6) (ci := 6) S hK hP wu_X6 rfl rfl (by decide) rfl hl hd kk
theorem pM_0_isOver {v : Int32} {u1 : Wo} (S : CallFix p m c cc nL s args (Cond.code y0 c0 n0 r0 :: TG) own) (hK : va_K (dC, dI) vwCl [(cI, .int)] s) (hap : AP ad 9) (hP : va_P (dC, dI) vwCl (WM ad cI u) H) (hS : va_S (AF ad 9) s.heap H locs) (hl : Cond.fieldLink own index "KeyKeepersModel" "isOver" "Z" ∈ TG) (hd : decode cc pc = .ok (.putfield index, 3)) (hz : zb v = true) (hu1 : wr u 0 5 v = u1) (kk : ∀ (H1 : Heap) (locs1 : List Loc), va_P (dC, dI) vwCl (WM ad cI u1) H1 → va_S (AF ad 9) s.heap H1 locs1 → W p l e R s m args below meth c H1 locs1 0 0 Q (F0 m (pc + 3) ls rest)) : W p l e R s m args below meth c H locs 0 0 Q (F0 m pc ls (.int v :: .ref (ad 0) :: rest)) :=
  x_put (Wf := WM ad cI) (q0 := 0) (k := 5) (T := TX6) (N := 18) (C := RX6) (ci := 6) (ty := .boolean) S hK hP (WM_D hap u) hS wu_X6 tyX6_ok nmX6 rfl rfl (by decide) hl rfl (by decide +kernel) (zb_nar hz) (zb_fit hz) (Nat.le_of_ble_eq_true rfl) hd hu1 rfl kk
theorem gM_0_records (S : CallFix p m c cc nL s args (Cond.code y0 c0 n0 r0 :: TG) own) (hK : va_K (dC, dI) vwCl [(cI, .int)] s) (hP : va_P (dC, dI) vwCl (WM ad cI u) H) (hl : Cond.fieldLink own index "KeyKeepersModel" "records" "Z" ∈ TG) (hd : decode cc pc = .ok (.getfield index, 3)) (kk : W p l e R s m args below meth c H locs 0 0 Q (F0 m (pc + 3) ls (.int (u 0 6) :: rest))) : W p l e R s m args below meth c H locs 0 0 Q (F0 m pc ls (.ref (ad 0) :: rest)) :=
  x_get (Wf := WM ad cI) (q0 := 0) (k := 6) (T := TX6) (N := 18) (C := RX6) (ci := 6) S hK hP wu_X6 rfl rfl (by decide) rfl hl hd kk
theorem pM_0_records {v : Int32} {u1 : Wo} (S : CallFix p m c cc nL s args (Cond.code y0 c0 n0 r0 :: TG) own) (hK : va_K (dC, dI) vwCl [(cI, .int)] s) (hap : AP ad 9) (hP : va_P (dC, dI) vwCl (WM ad cI u) H) (hS : va_S (AF ad 9) s.heap H locs) (hl : Cond.fieldLink own index "KeyKeepersModel" "records" "Z" ∈ TG) (hd : decode cc pc = .ok (.putfield index, 3)) (hz : zb v = true) (hu1 : wr u 0 6 v = u1) (kk : ∀ (H1 : Heap) (locs1 : List Loc), va_P (dC, dI) vwCl (WM ad cI u1) H1 → va_S (AF ad 9) s.heap H1 locs1 → W p l e R s m args below meth c H1 locs1 0 0 Q (F0 m (pc + 3) ls rest)) : W p l e R s m args below meth c H locs 0 0 Q (F0 m pc ls (.int v :: .ref (ad 0) :: rest)) :=
  x_put (Wf := WM ad cI) (q0 := 0) (k := 6) (T := TX6) (N := 18) (C := RX6) (ci := 6) (ty := .boolean) S hK hP (WM_D hap u) hS wu_X6 tyX6_ok nmX6 rfl rfl (by decide) hl rfl (by decide +kernel) (zb_nar hz) (zb_fit hz) (Nat.le_of_ble_eq_true rfl) hd hu1 rfl kk
theorem gM_0_acted (S : CallFix p m c cc nL s args (Cond.code y0 c0 n0 r0 :: TG) own) (hK : va_K (dC, dI) vwCl [(cI, .int)] s) (hP : va_P (dC, dI) vwCl (WM ad cI u) H) (hl : Cond.fieldLink own index "KeyKeepersModel" "acted" "Z" ∈ TG) (hd : decode cc pc = .ok (.getfield index, 3)) (kk : W p l e R s m args below meth c H locs 0 0 Q (F0 m (pc + 3) ls (.int (u 0 7) :: rest))) : W p l e R s m args below meth c H locs 0 0 Q (F0 m pc ls (.ref (ad 0) :: rest)) :=
  x_get (Wf := WM ad cI) (q0 := 0) (k := 7) (T := TX6) (N := 18) (C := RX6) (ci := 6) S hK hP wu_X6 rfl rfl (by decide) rfl hl hd kk
theorem pM_0_acted {v : Int32} {u1 : Wo} (S : CallFix p m c cc nL s args (Cond.code y0 c0 n0 r0 :: TG) own) (hK : va_K (dC, dI) vwCl [(cI, .int)] s) (hap : AP ad 9) (hP : va_P (dC, dI) vwCl (WM ad cI u) H) (hS : va_S (AF ad 9) s.heap H locs) (hl : Cond.fieldLink own index "KeyKeepersModel" "acted" "Z" ∈ TG) (hd : decode cc pc = .ok (.putfield index, 3)) (hz : zb v = true) (hu1 : wr u 0 7 v = u1) (kk : ∀ (H1 : Heap) (locs1 : List Loc), va_P (dC, dI) vwCl (WM ad cI u1) H1 → va_S (AF ad 9) s.heap H1 locs1 → W p l e R s m args below meth c H1 locs1 0 0 Q (F0 m (pc + 3) ls rest)) : W p l e R s m args below meth c H locs 0 0 Q (F0 m pc ls (.int v :: .ref (ad 0) :: rest)) :=
  x_put (Wf := WM ad cI) (q0 := 0) (k := 7) (T := TX6) (N := 18) (C := RX6) (ci := 6) (ty := .boolean) S hK hP (WM_D hap u) hS wu_X6 tyX6_ok nmX6 rfl rfl (by decide) hl rfl (by decide +kernel) (zb_nar hz) (zb_fit hz) (Nat.le_of_ble_eq_true rfl) hd hu1 rfl kk
theorem gM_0_begins (S : CallFix p m c cc nL s args (Cond.code y0 c0 n0 r0 :: TG) own) (hK : va_K (dC, dI) vwCl [(cI, .int)] s) (hP : va_P (dC, dI) vwCl (WM ad cI u) H) (hl : Cond.fieldLink own index "KeyKeepersModel" "begins" "I" ∈ TG) (hd : decode cc pc = .ok (.getfield index, 3)) (kk : W p l e R s m args below meth c H locs 0 0 Q (F0 m (pc + 3) ls (.int (u 0 8) :: rest))) : W p l e R s m args below meth c H locs 0 0 Q (F0 m pc ls (.ref (ad 0) :: rest)) :=
  x_get (Wf := WM ad cI) (q0 := 0) (k := 8) (T := TX6) (N := 18) (C := RX6) (ci := 6) S hK hP wu_X6 rfl rfl (by decide) rfl hl hd kk
theorem pM_0_begins {v : Int32} {u1 : Wo} (S : CallFix p m c cc nL s args (Cond.code y0 c0 n0 r0 :: TG) own) (hK : va_K (dC, dI) vwCl [(cI, .int)] s) (hap : AP ad 9) (hP : va_P (dC, dI) vwCl (WM ad cI u) H) (hS : va_S (AF ad 9) s.heap H locs) (hl : Cond.fieldLink own index "KeyKeepersModel" "begins" "I" ∈ TG) (hd : decode cc pc = .ok (.putfield index, 3)) (hu1 : wr u 0 8 v = u1) (kk : ∀ (H1 : Heap) (locs1 : List Loc), va_P (dC, dI) vwCl (WM ad cI u1) H1 → va_S (AF ad 9) s.heap H1 locs1 → W p l e R s m args below meth c H1 locs1 0 0 Q (F0 m (pc + 3) ls rest)) : W p l e R s m args below meth c H locs 0 0 Q (F0 m pc ls (.int v :: .ref (ad 0) :: rest)) :=
  x_put (Wf := WM ad cI) (q0 := 0) (k := 8) (T := TX6) (N := 18) (C := RX6) (ci := 6) (ty := .int) S hK hP (WM_D hap u) hS wu_X6 tyX6_ok nmX6 rfl rfl (by decide) hl rfl (by decide +kernel) rfl rfl (Nat.le_of_ble_eq_true rfl) hd hu1 rfl kk
theorem gM_0_passes (S : CallFix p m c cc nL s args (Cond.code y0 c0 n0 r0 :: TG) own) (hK : va_K (dC, dI) vwCl [(cI, .int)] s) (hP : va_P (dC, dI) vwCl (WM ad cI u) H) (hl : Cond.fieldLink own index "KeyKeepersModel" "passes" "I" ∈ TG) (hd : decode cc pc = .ok (.getfield index, 3)) (kk : W p l e R s m args below meth c H locs 0 0 Q (F0 m (pc + 3) ls (.int (u 0 9) :: rest))) : W p l e R s m args below meth c H locs 0 0 Q (F0 m pc ls (.ref (ad 0) :: rest)) :=
  x_get (Wf := WM ad cI) (q0 := 0) (k := 9) (T := TX6) (N := 18) (C := RX6) (ci := 6) S hK hP wu_X6 rfl rfl (by decide) rfl hl hd kk
theorem pM_0_passes {v : Int32} {u1 : Wo} (S : CallFix p m c cc nL s args (Cond.code y0 c0 n0 r0 :: TG) own) (hK : va_K (dC, dI) vwCl [(cI, .int)] s) (hap : AP ad 9) (hP : va_P (dC, dI) vwCl (WM ad cI u) H) (hS : va_S (AF ad 9) s.heap H locs) (hl : Cond.fieldLink own index "KeyKeepersModel" "passes" "I" ∈ TG) (hd : decode cc pc = .ok (.putfield index, 3)) (hu1 : wr u 0 9 v = u1) (kk : ∀ (H1 : Heap) (locs1 : List Loc), va_P (dC, dI) vwCl (WM ad cI u1) H1 → va_S (AF ad 9) s.heap H1 locs1 → W p l e R s m args below meth c H1 locs1 0 0 Q (F0 m (pc + 3) ls rest)) : W p l e R s m args below meth c H locs 0 0 Q (F0 m pc ls (.int v :: .ref (ad 0) :: rest)) :=
  x_put (Wf := WM ad cI) (q0 := 0) (k := 9) (T := TX6) (N := 18) (C := RX6) (ci := 6) (ty := .int) S hK hP (WM_D hap u) hS wu_X6 tyX6_ok nmX6 rfl rfl (by decide) hl rfl (by decide +kernel) rfl rfl (Nat.le_of_ble_eq_true rfl) hd hu1 rfl kk
theorem gM_0_kept (S : CallFix p m c cc nL s args (Cond.code y0 c0 n0 r0 :: TG) own) (hK : va_K (dC, dI) vwCl [(cI, .int)] s) (hP : va_P (dC, dI) vwCl (WM ad cI u) H) (hl : Cond.fieldLink own index "KeyKeepersModel" "kept" "I" ∈ TG) (hd : decode cc pc = .ok (.getfield index, 3)) (kk : W p l e R s m args below meth c H locs 0 0 Q (F0 m (pc + 3) ls (.int (u 0 10) :: rest))) : W p l e R s m args below meth c H locs 0 0 Q (F0 m pc ls (.ref (ad 0) :: rest)) :=
  x_get (Wf := WM ad cI) (q0 := 0) (k := 10) (T := TX6) (N := 18) (C := RX6) (ci := 6) S hK hP wu_X6 rfl rfl (by decide) rfl hl hd kk
theorem pM_0_kept {v : Int32} {u1 : Wo} (S : CallFix p m c cc nL s args (Cond.code y0 c0 n0 r0 :: TG) own) (hK : va_K (dC, dI) vwCl [(cI, .int)] s) (hap : AP ad 9) (hP : va_P (dC, dI) vwCl (WM ad cI u) H) (hS : va_S (AF ad 9) s.heap H locs) (hl : Cond.fieldLink own index "KeyKeepersModel" "kept" "I" ∈ TG) (hd : decode cc pc = .ok (.putfield index, 3)) (hu1 : wr u 0 10 v = u1) (kk : ∀ (H1 : Heap) (locs1 : List Loc), va_P (dC, dI) vwCl (WM ad cI u1) H1 → va_S (AF ad 9) s.heap H1 locs1 → W p l e R s m args below meth c H1 locs1 0 0 Q (F0 m (pc + 3) ls rest)) : W p l e R s m args below meth c H locs 0 0 Q (F0 m pc ls (.int v :: .ref (ad 0) :: rest)) :=
  x_put (Wf := WM ad cI) (q0 := 0) (k := 10) (T := TX6) (N := 18) (C := RX6) (ci := 6) (ty := .int) S hK hP (WM_D hap u) hS wu_X6 tyX6_ok nmX6 rfl rfl (by decide) hl rfl (by decide +kernel) rfl rfl (Nat.le_of_ble_eq_true rfl) hd hu1 rfl kk
theorem gM_0_was (S : CallFix p m c cc nL s args (Cond.code y0 c0 n0 r0 :: TG) own) (hK : va_K (dC, dI) vwCl [(cI, .int)] s) (hP : va_P (dC, dI) vwCl (WM ad cI u) H) (hl : Cond.fieldLink own index "KeyKeepersModel" "was" "[I" ∈ TG) (hd : decode cc pc = .ok (.getfield index, 3)) (kk : W p l e R s m args below meth c H locs 0 0 Q (F0 m (pc + 3) ls (.ref (ad 4) :: rest))) : W p l e R s m args below meth c H locs 0 0 Q (F0 m pc ls (.ref (ad 0) :: rest)) :=
  x_get (Wf := WM ad cI) (q0 := 0) (k := 11) (T := TX6) (N := 18) (C := RX6) (ci := 6) S hK hP wu_X6 rfl rfl (by decide) rfl hl hd kk
theorem gM_0_back (S : CallFix p m c cc nL s args (Cond.code y0 c0 n0 r0 :: TG) own) (hK : va_K (dC, dI) vwCl [(cI, .int)] s) (hP : va_P (dC, dI) vwCl (WM ad cI u) H) (hl : Cond.fieldLink own index "KeyKeepersModel" "back" "[I" ∈ TG) (hd : decode cc pc = .ok (.getfield index, 3)) (kk : W p l e R s m args below meth c H locs 0 0 Q (F0 m (pc + 3) ls (.ref (ad 5) :: rest))) : W p l e R s m args below meth c H locs 0 0 Q (F0 m pc ls (.ref (ad 0) :: rest)) :=
  x_get (Wf := WM ad cI) (q0 := 0) (k := 12) (T := TX6) (N := 18) (C := RX6) (ci := 6) S hK hP wu_X6 rfl rfl (by decide) rfl hl hd kk
theorem gM_0_states (S : CallFix p m c cc nL s args (Cond.code y0 c0 n0 r0 :: TG) own) (hK : va_K (dC, dI) vwCl [(cI, .int)] s) (hP : va_P (dC, dI) vwCl (WM ad cI u) H) (hl : Cond.fieldLink own index "KeyKeepersModel" "states" "I" ∈ TG) (hd : decode cc pc = .ok (.getfield index, 3)) (kk : W p l e R s m args below meth c H locs 0 0 Q (F0 m (pc + 3) ls (.int (u 0 13) :: rest))) : W p l e R s m args below meth c H locs 0 0 Q (F0 m pc ls (.ref (ad 0) :: rest)) :=
  x_get (Wf := WM ad cI) (q0 := 0) (k := 13) (T := TX6) (N := 18) (C := RX6) (ci := 6) S hK hP wu_X6 rfl rfl (by decide) rfl hl hd kk
theorem pM_0_states {v : Int32} {u1 : Wo} (S : CallFix p m c cc nL s args (Cond.code y0 c0 n0 r0 :: TG) own) (hK : va_K (dC, dI) vwCl [(cI, .int)] s) (hap : AP ad 9) (hP : va_P (dC, dI) vwCl (WM ad cI u) H) (hS : va_S (AF ad 9) s.heap H locs) (hl : Cond.fieldLink own index "KeyKeepersModel" "states" "I" ∈ TG) (hd : decode cc pc = .ok (.putfield index, 3)) (hu1 : wr u 0 13 v = u1) (kk : ∀ (H1 : Heap) (locs1 : List Loc), va_P (dC, dI) vwCl (WM ad cI u1) H1 → va_S (AF ad 9) s.heap H1 locs1 → W p l e R s m args below meth c H1 locs1 0 0 Q (F0 m (pc + 3) ls rest)) : W p l e R s m args below meth c H locs 0 0 Q (F0 m pc ls (.int v :: .ref (ad 0) :: rest)) :=
  x_put (Wf := WM ad cI) (q0 := 0) (k := 13) (T := TX6) (N := 18) (C := RX6) (ci := 6) (ty := .int) S hK hP (WM_D hap u) hS wu_X6 tyX6_ok nmX6 rfl rfl (by decide) hl rfl (by decide +kernel) rfl rfl (Nat.le_of_ble_eq_true rfl) hd hu1 rfl kk
theorem gM_0_all (S : CallFix p m c cc nL s args (Cond.code y0 c0 n0 r0 :: TG) own) (hK : va_K (dC, dI) vwCl [(cI, .int)] s) (hP : va_P (dC, dI) vwCl (WM ad cI u) H) (hl : Cond.fieldLink own index "KeyKeepersModel" "all" "[I" ∈ TG) (hd : decode cc pc = .ok (.getfield index, 3)) (kk : W p l e R s m args below meth c H locs 0 0 Q (F0 m (pc + 3) ls (.ref (ad 6) :: rest))) : W p l e R s m args below meth c H locs 0 0 Q (F0 m pc ls (.ref (ad 0) :: rest)) :=
  x_get (Wf := WM ad cI) (q0 := 0) (k := 14) (T := TX6) (N := 18) (C := RX6) (ci := 6) S hK hP wu_X6 rfl rfl (by decide) rfl hl hd kk
theorem gM_0_slots (S : CallFix p m c cc nL s args (Cond.code y0 c0 n0 r0 :: TG) own) (hK : va_K (dC, dI) vwCl [(cI, .int)] s) (hP : va_P (dC, dI) vwCl (WM ad cI u) H) (hl : Cond.fieldLink own index "KeyKeepersModel" "slots" "[I" ∈ TG) (hd : decode cc pc = .ok (.getfield index, 3)) (kk : W p l e R s m args below meth c H locs 0 0 Q (F0 m (pc + 3) ls (.ref (ad 7) :: rest))) : W p l e R s m args below meth c H locs 0 0 Q (F0 m pc ls (.ref (ad 0) :: rest)) :=
  x_get (Wf := WM ad cI) (q0 := 0) (k := 15) (T := TX6) (N := 18) (C := RX6) (ci := 6) S hK hP wu_X6 rfl rfl (by decide) rfl hl hd kk
theorem gM_0_told (S : CallFix p m c cc nL s args (Cond.code y0 c0 n0 r0 :: TG) own) (hK : va_K (dC, dI) vwCl [(cI, .int)] s) (hP : va_P (dC, dI) vwCl (WM ad cI u) H) (hl : Cond.fieldLink own index "KeyKeepersModel" "told" "[I" ∈ TG) (hd : decode cc pc = .ok (.getfield index, 3)) (kk : W p l e R s m args below meth c H locs 0 0 Q (F0 m (pc + 3) ls (.ref (ad 8) :: rest))) : W p l e R s m args below meth c H locs 0 0 Q (F0 m pc ls (.ref (ad 0) :: rest)) :=
  x_get (Wf := WM ad cI) (q0 := 0) (k := 16) (T := TX6) (N := 18) (C := RX6) (ci := 6) S hK hP wu_X6 rfl rfl (by decide) rfl hl hd kk
theorem gM_0_isSpent (S : CallFix p m c cc nL s args (Cond.code y0 c0 n0 r0 :: TG) own) (hK : va_K (dC, dI) vwCl [(cI, .int)] s) (hP : va_P (dC, dI) vwCl (WM ad cI u) H) (hl : Cond.fieldLink own index "KeyKeepersModel" "isSpent" "Z" ∈ TG) (hd : decode cc pc = .ok (.getfield index, 3)) (kk : W p l e R s m args below meth c H locs 0 0 Q (F0 m (pc + 3) ls (.int (u 0 17) :: rest))) : W p l e R s m args below meth c H locs 0 0 Q (F0 m pc ls (.ref (ad 0) :: rest)) :=
  x_get (Wf := WM ad cI) (q0 := 0) (k := 17) (T := TX6) (N := 18) (C := RX6) (ci := 6) S hK hP wu_X6 rfl rfl (by decide) rfl hl hd kk
theorem pM_0_isSpent {v : Int32} {u1 : Wo} (S : CallFix p m c cc nL s args (Cond.code y0 c0 n0 r0 :: TG) own) (hK : va_K (dC, dI) vwCl [(cI, .int)] s) (hap : AP ad 9) (hP : va_P (dC, dI) vwCl (WM ad cI u) H) (hS : va_S (AF ad 9) s.heap H locs) (hl : Cond.fieldLink own index "KeyKeepersModel" "isSpent" "Z" ∈ TG) (hd : decode cc pc = .ok (.putfield index, 3)) (hz : zb v = true) (hu1 : wr u 0 17 v = u1) (kk : ∀ (H1 : Heap) (locs1 : List Loc), va_P (dC, dI) vwCl (WM ad cI u1) H1 → va_S (AF ad 9) s.heap H1 locs1 → W p l e R s m args below meth c H1 locs1 0 0 Q (F0 m (pc + 3) ls rest)) : W p l e R s m args below meth c H locs 0 0 Q (F0 m pc ls (.int v :: .ref (ad 0) :: rest)) :=
  x_put (Wf := WM ad cI) (q0 := 0) (k := 17) (T := TX6) (N := 18) (C := RX6) (ci := 6) (ty := .boolean) S hK hP (WM_D hap u) hS wu_X6 tyX6_ok nmX6 rfl rfl (by decide) hl rfl (by decide +kernel) (zb_nar hz) (zb_fit hz) (Nat.le_of_ble_eq_true rfl) hd hu1 rfl kk
theorem lM_1 {i : Int32} (S : CallFix p m c cc nL s args (Cond.code y0 c0 n0 r0 :: TG) own) (hK : va_K (dC, dI) vwCl [(cI, .int)] s) (hP : va_P (dC, dI) vwCl (WM ad cI u) H) (hi : inb i 6 = true) (hd : decode cc pc = .ok (.iaload, 1)) (kk : W p l e R s m args below meth c H locs 0 0 Q (F0 m (pc + 1) ls (.int (u 1 i.toNatClampNeg) :: rest))) : W p l e R s m args below meth c H locs 0 0 Q (F0 m pc ls (.int i :: .ref (ad 1) :: rest)) :=
  x_ald (Wf := WM ad cI) S hK hP (hM_1 u) hi hd kk
theorem tM_1 {i v : Int32} {u1 : Wo} (S : CallFix p m c cc nL s args (Cond.code y0 c0 n0 r0 :: TG) own) (hK : va_K (dC, dI) vwCl [(cI, .int)] s) (hap : AP ad 9) (hP : va_P (dC, dI) vwCl (WM ad cI u) H) (hS : va_S (AF ad 9) s.heap H locs) (hi : inb i 6 = true) (hd : decode cc pc = .ok (.iastore, 1)) (hu : wr u 1 i.toNatClampNeg v = u1) (kk : ∀ (H1 : Heap) (locs1 : List Loc), va_P (dC, dI) vwCl (WM ad cI u1) H1 → va_S (AF ad 9) s.heap H1 locs1 → W p l e R s m args below meth c H1 locs1 0 0 Q (F0 m (pc + 1) ls rest)) : W p l e R s m args below meth c H locs 0 0 Q (F0 m pc ls (.int v :: .int i :: .ref (ad 1) :: rest)) :=
  x_ast (Wf := WM ad cI) S hK hP (WM_D hap u) hS (hM_1 u) hi hd hu (sM_1 u _ v) kk
theorem nM_1 (S : CallFix p m c cc nL s args (Cond.code y0 c0 n0 r0 :: TG) own) (hK : va_K (dC, dI) vwCl [(cI, .int)] s) (hP : va_P (dC, dI) vwCl (WM ad cI u) H) (hd : decode cc pc = .ok (.arraylength, 1)) (kk : W p l e R s m args below meth c H locs 0 0 Q (F0 m (pc + 1) ls (.int (6 : Int32) :: rest))) : W p l e R s m args below meth c H locs 0 0 Q (F0 m pc ls (.ref (ad 1) :: rest)) :=
  x_aln (Wf := WM ad cI) S hK hP (hM_1 u) (by decide +kernel) hd kk
theorem lM_2 {i : Int32} (S : CallFix p m c cc nL s args (Cond.code y0 c0 n0 r0 :: TG) own) (hK : va_K (dC, dI) vwCl [(cI, .int)] s) (hP : va_P (dC, dI) vwCl (WM ad cI u) H) (hi : inb i 1040 = true) (hd : decode cc pc = .ok (.iaload, 1)) (kk : W p l e R s m args below meth c H locs 0 0 Q (F0 m (pc + 1) ls (.int (u 2 i.toNatClampNeg) :: rest))) : W p l e R s m args below meth c H locs 0 0 Q (F0 m pc ls (.int i :: .ref (ad 2) :: rest)) :=
  x_ald (Wf := WM ad cI) S hK hP (hM_2 u) hi hd kk
theorem tM_2 {i v : Int32} {u1 : Wo} (S : CallFix p m c cc nL s args (Cond.code y0 c0 n0 r0 :: TG) own) (hK : va_K (dC, dI) vwCl [(cI, .int)] s) (hap : AP ad 9) (hP : va_P (dC, dI) vwCl (WM ad cI u) H) (hS : va_S (AF ad 9) s.heap H locs) (hi : inb i 1040 = true) (hd : decode cc pc = .ok (.iastore, 1)) (hu : wr u 2 i.toNatClampNeg v = u1) (kk : ∀ (H1 : Heap) (locs1 : List Loc), va_P (dC, dI) vwCl (WM ad cI u1) H1 → va_S (AF ad 9) s.heap H1 locs1 → W p l e R s m args below meth c H1 locs1 0 0 Q (F0 m (pc + 1) ls rest)) : W p l e R s m args below meth c H locs 0 0 Q (F0 m pc ls (.int v :: .int i :: .ref (ad 2) :: rest)) :=
  x_ast (Wf := WM ad cI) S hK hP (WM_D hap u) hS (hM_2 u) hi hd hu (sM_2 u _ v) kk
theorem nM_2 (S : CallFix p m c cc nL s args (Cond.code y0 c0 n0 r0 :: TG) own) (hK : va_K (dC, dI) vwCl [(cI, .int)] s) (hP : va_P (dC, dI) vwCl (WM ad cI u) H) (hd : decode cc pc = .ok (.arraylength, 1)) (kk : W p l e R s m args below meth c H locs 0 0 Q (F0 m (pc + 1) ls (.int (1040 : Int32) :: rest))) : W p l e R s m args below meth c H locs 0 0 Q (F0 m pc ls (.ref (ad 2) :: rest)) :=
  x_aln (Wf := WM ad cI) S hK hP (hM_2 u) (by decide +kernel) hd kk
theorem lM_3 {i : Int32} (S : CallFix p m c cc nL s args (Cond.code y0 c0 n0 r0 :: TG) own) (hK : va_K (dC, dI) vwCl [(cI, .int)] s) (hP : va_P (dC, dI) vwCl (WM ad cI u) H) (hi : inb i 190 = true) (hd : decode cc pc = .ok (.iaload, 1)) (kk : W p l e R s m args below meth c H locs 0 0 Q (F0 m (pc + 1) ls (.int (u 3 i.toNatClampNeg) :: rest))) : W p l e R s m args below meth c H locs 0 0 Q (F0 m pc ls (.int i :: .ref (ad 3) :: rest)) :=
  x_ald (Wf := WM ad cI) S hK hP (hM_3 u) hi hd kk
theorem tM_3 {i v : Int32} {u1 : Wo} (S : CallFix p m c cc nL s args (Cond.code y0 c0 n0 r0 :: TG) own) (hK : va_K (dC, dI) vwCl [(cI, .int)] s) (hap : AP ad 9) (hP : va_P (dC, dI) vwCl (WM ad cI u) H) (hS : va_S (AF ad 9) s.heap H locs) (hi : inb i 190 = true) (hd : decode cc pc = .ok (.iastore, 1)) (hu : wr u 3 i.toNatClampNeg v = u1) (kk : ∀ (H1 : Heap) (locs1 : List Loc), va_P (dC, dI) vwCl (WM ad cI u1) H1 → va_S (AF ad 9) s.heap H1 locs1 → W p l e R s m args below meth c H1 locs1 0 0 Q (F0 m (pc + 1) ls rest)) : W p l e R s m args below meth c H locs 0 0 Q (F0 m pc ls (.int v :: .int i :: .ref (ad 3) :: rest)) :=
  x_ast (Wf := WM ad cI) S hK hP (WM_D hap u) hS (hM_3 u) hi hd hu (sM_3 u _ v) kk
theorem nM_3 (S : CallFix p m c cc nL s args (Cond.code y0 c0 n0 r0 :: TG) own) (hK : va_K (dC, dI) vwCl [(cI, .int)] s) (hP : va_P (dC, dI) vwCl (WM ad cI u) H) (hd : decode cc pc = .ok (.arraylength, 1)) (kk : W p l e R s m args below meth c H locs 0 0 Q (F0 m (pc + 1) ls (.int (190 : Int32) :: rest))) : W p l e R s m args below meth c H locs 0 0 Q (F0 m pc ls (.ref (ad 3) :: rest)) :=
  x_aln (Wf := WM ad cI) S hK hP (hM_3 u) (by decide +kernel) hd kk
theorem lM_4 {i : Int32} (S : CallFix p m c cc nL s args (Cond.code y0 c0 n0 r0 :: TG) own) (hK : va_K (dC, dI) vwCl [(cI, .int)] s) (hP : va_P (dC, dI) vwCl (WM ad cI u) H) (hi : inb i 36900 = true) (hd : decode cc pc = .ok (.iaload, 1)) (kk : W p l e R s m args below meth c H locs 0 0 Q (F0 m (pc + 1) ls (.int (u 4 i.toNatClampNeg) :: rest))) : W p l e R s m args below meth c H locs 0 0 Q (F0 m pc ls (.int i :: .ref (ad 4) :: rest)) :=
  x_ald (Wf := WM ad cI) S hK hP (hM_4 u) hi hd kk
theorem tM_4 {i v : Int32} {u1 : Wo} (S : CallFix p m c cc nL s args (Cond.code y0 c0 n0 r0 :: TG) own) (hK : va_K (dC, dI) vwCl [(cI, .int)] s) (hap : AP ad 9) (hP : va_P (dC, dI) vwCl (WM ad cI u) H) (hS : va_S (AF ad 9) s.heap H locs) (hi : inb i 36900 = true) (hd : decode cc pc = .ok (.iastore, 1)) (hu : wr u 4 i.toNatClampNeg v = u1) (kk : ∀ (H1 : Heap) (locs1 : List Loc), va_P (dC, dI) vwCl (WM ad cI u1) H1 → va_S (AF ad 9) s.heap H1 locs1 → W p l e R s m args below meth c H1 locs1 0 0 Q (F0 m (pc + 1) ls rest)) : W p l e R s m args below meth c H locs 0 0 Q (F0 m pc ls (.int v :: .int i :: .ref (ad 4) :: rest)) :=
  x_ast (Wf := WM ad cI) S hK hP (WM_D hap u) hS (hM_4 u) hi hd hu (sM_4 u _ v) kk
theorem nM_4 (S : CallFix p m c cc nL s args (Cond.code y0 c0 n0 r0 :: TG) own) (hK : va_K (dC, dI) vwCl [(cI, .int)] s) (hP : va_P (dC, dI) vwCl (WM ad cI u) H) (hd : decode cc pc = .ok (.arraylength, 1)) (kk : W p l e R s m args below meth c H locs 0 0 Q (F0 m (pc + 1) ls (.int (36900 : Int32) :: rest))) : W p l e R s m args below meth c H locs 0 0 Q (F0 m pc ls (.ref (ad 4) :: rest)) :=
  x_aln (Wf := WM ad cI) S hK hP (hM_4 u) (by decide +kernel) hd kk
theorem lM_5 {i : Int32} (S : CallFix p m c cc nL s args (Cond.code y0 c0 n0 r0 :: TG) own) (hK : va_K (dC, dI) vwCl [(cI, .int)] s) (hP : va_P (dC, dI) vwCl (WM ad cI u) H) (hi : inb i 1230 = true) (hd : decode cc pc = .ok (.iaload, 1)) (kk : W p l e R s m args below meth c H locs 0 0 Q (F0 m (pc + 1) ls (.int (u 5 i.toNatClampNeg) :: rest))) : W p l e R s m args below meth c H locs 0 0 Q (F0 m pc ls (.int i :: .ref (ad 5) :: rest)) :=
  x_ald (Wf := WM ad cI) S hK hP (hM_5 u) hi hd kk
theorem tM_5 {i v : Int32} {u1 : Wo} (S : CallFix p m c cc nL s args (Cond.code y0 c0 n0 r0 :: TG) own) (hK : va_K (dC, dI) vwCl [(cI, .int)] s) (hap : AP ad 9) (hP : va_P (dC, dI) vwCl (WM ad cI u) H) (hS : va_S (AF ad 9) s.heap H locs) (hi : inb i 1230 = true) (hd : decode cc pc = .ok (.iastore, 1)) (hu : wr u 5 i.toNatClampNeg v = u1) (kk : ∀ (H1 : Heap) (locs1 : List Loc), va_P (dC, dI) vwCl (WM ad cI u1) H1 → va_S (AF ad 9) s.heap H1 locs1 → W p l e R s m args below meth c H1 locs1 0 0 Q (F0 m (pc + 1) ls rest)) : W p l e R s m args below meth c H locs 0 0 Q (F0 m pc ls (.int v :: .int i :: .ref (ad 5) :: rest)) :=
  x_ast (Wf := WM ad cI) S hK hP (WM_D hap u) hS (hM_5 u) hi hd hu (sM_5 u _ v) kk
theorem nM_5 (S : CallFix p m c cc nL s args (Cond.code y0 c0 n0 r0 :: TG) own) (hK : va_K (dC, dI) vwCl [(cI, .int)] s) (hP : va_P (dC, dI) vwCl (WM ad cI u) H) (hd : decode cc pc = .ok (.arraylength, 1)) (kk : W p l e R s m args below meth c H locs 0 0 Q (F0 m (pc + 1) ls (.int (1230 : Int32) :: rest))) : W p l e R s m args below meth c H locs 0 0 Q (F0 m pc ls (.ref (ad 5) :: rest)) :=
  x_aln (Wf := WM ad cI) S hK hP (hM_5 u) (by decide +kernel) hd kk
theorem lM_6 {i : Int32} (S : CallFix p m c cc nL s args (Cond.code y0 c0 n0 r0 :: TG) own) (hK : va_K (dC, dI) vwCl [(cI, .int)] s) (hP : va_P (dC, dI) vwCl (WM ad cI u) H) (hi : inb i 312000 = true) (hd : decode cc pc = .ok (.iaload, 1)) (kk : W p l e R s m args below meth c H locs 0 0 Q (F0 m (pc + 1) ls (.int (u 6 i.toNatClampNeg) :: rest))) : W p l e R s m args below meth c H locs 0 0 Q (F0 m pc ls (.int i :: .ref (ad 6) :: rest)) :=
  x_ald (Wf := WM ad cI) S hK hP (hM_6 u) hi hd kk
theorem tM_6 {i v : Int32} {u1 : Wo} (S : CallFix p m c cc nL s args (Cond.code y0 c0 n0 r0 :: TG) own) (hK : va_K (dC, dI) vwCl [(cI, .int)] s) (hap : AP ad 9) (hP : va_P (dC, dI) vwCl (WM ad cI u) H) (hS : va_S (AF ad 9) s.heap H locs) (hi : inb i 312000 = true) (hd : decode cc pc = .ok (.iastore, 1)) (hu : wr u 6 i.toNatClampNeg v = u1) (kk : ∀ (H1 : Heap) (locs1 : List Loc), va_P (dC, dI) vwCl (WM ad cI u1) H1 → va_S (AF ad 9) s.heap H1 locs1 → W p l e R s m args below meth c H1 locs1 0 0 Q (F0 m (pc + 1) ls rest)) : W p l e R s m args below meth c H locs 0 0 Q (F0 m pc ls (.int v :: .int i :: .ref (ad 6) :: rest)) :=
  x_ast (Wf := WM ad cI) S hK hP (WM_D hap u) hS (hM_6 u) hi hd hu (sM_6 u _ v) kk
theorem nM_6 (S : CallFix p m c cc nL s args (Cond.code y0 c0 n0 r0 :: TG) own) (hK : va_K (dC, dI) vwCl [(cI, .int)] s) (hP : va_P (dC, dI) vwCl (WM ad cI u) H) (hd : decode cc pc = .ok (.arraylength, 1)) (kk : W p l e R s m args below meth c H locs 0 0 Q (F0 m (pc + 1) ls (.int (312000 : Int32) :: rest))) : W p l e R s m args below meth c H locs 0 0 Q (F0 m pc ls (.ref (ad 6) :: rest)) :=
  x_aln (Wf := WM ad cI) S hK hP (hM_6 u) (by decide +kernel) hd kk
theorem lM_7 {i : Int32} (S : CallFix p m c cc nL s args (Cond.code y0 c0 n0 r0 :: TG) own) (hK : va_K (dC, dI) vwCl [(cI, .int)] s) (hP : va_P (dC, dI) vwCl (WM ad cI u) H) (hi : inb i 1024 = true) (hd : decode cc pc = .ok (.iaload, 1)) (kk : W p l e R s m args below meth c H locs 0 0 Q (F0 m (pc + 1) ls (.int (u 7 i.toNatClampNeg) :: rest))) : W p l e R s m args below meth c H locs 0 0 Q (F0 m pc ls (.int i :: .ref (ad 7) :: rest)) :=
  x_ald (Wf := WM ad cI) S hK hP (hM_7 u) hi hd kk
theorem tM_7 {i v : Int32} {u1 : Wo} (S : CallFix p m c cc nL s args (Cond.code y0 c0 n0 r0 :: TG) own) (hK : va_K (dC, dI) vwCl [(cI, .int)] s) (hap : AP ad 9) (hP : va_P (dC, dI) vwCl (WM ad cI u) H) (hS : va_S (AF ad 9) s.heap H locs) (hi : inb i 1024 = true) (hd : decode cc pc = .ok (.iastore, 1)) (hu : wr u 7 i.toNatClampNeg v = u1) (kk : ∀ (H1 : Heap) (locs1 : List Loc), va_P (dC, dI) vwCl (WM ad cI u1) H1 → va_S (AF ad 9) s.heap H1 locs1 → W p l e R s m args below meth c H1 locs1 0 0 Q (F0 m (pc + 1) ls rest)) : W p l e R s m args below meth c H locs 0 0 Q (F0 m pc ls (.int v :: .int i :: .ref (ad 7) :: rest)) :=
  x_ast (Wf := WM ad cI) S hK hP (WM_D hap u) hS (hM_7 u) hi hd hu (sM_7 u _ v) kk
theorem nM_7 (S : CallFix p m c cc nL s args (Cond.code y0 c0 n0 r0 :: TG) own) (hK : va_K (dC, dI) vwCl [(cI, .int)] s) (hP : va_P (dC, dI) vwCl (WM ad cI u) H) (hd : decode cc pc = .ok (.arraylength, 1)) (kk : W p l e R s m args below meth c H locs 0 0 Q (F0 m (pc + 1) ls (.int (1024 : Int32) :: rest))) : W p l e R s m args below meth c H locs 0 0 Q (F0 m pc ls (.ref (ad 7) :: rest)) :=
  x_aln (Wf := WM ad cI) S hK hP (hM_7 u) (by decide +kernel) hd kk
theorem lM_8 {i : Int32} (S : CallFix p m c cc nL s args (Cond.code y0 c0 n0 r0 :: TG) own) (hK : va_K (dC, dI) vwCl [(cI, .int)] s) (hP : va_P (dC, dI) vwCl (WM ad cI u) H) (hi : inb i 7 = true) (hd : decode cc pc = .ok (.iaload, 1)) (kk : W p l e R s m args below meth c H locs 0 0 Q (F0 m (pc + 1) ls (.int (u 8 i.toNatClampNeg) :: rest))) : W p l e R s m args below meth c H locs 0 0 Q (F0 m pc ls (.int i :: .ref (ad 8) :: rest)) :=
  x_ald (Wf := WM ad cI) S hK hP (hM_8 u) hi hd kk
theorem tM_8 {i v : Int32} {u1 : Wo} (S : CallFix p m c cc nL s args (Cond.code y0 c0 n0 r0 :: TG) own) (hK : va_K (dC, dI) vwCl [(cI, .int)] s) (hap : AP ad 9) (hP : va_P (dC, dI) vwCl (WM ad cI u) H) (hS : va_S (AF ad 9) s.heap H locs) (hi : inb i 7 = true) (hd : decode cc pc = .ok (.iastore, 1)) (hu : wr u 8 i.toNatClampNeg v = u1) (kk : ∀ (H1 : Heap) (locs1 : List Loc), va_P (dC, dI) vwCl (WM ad cI u1) H1 → va_S (AF ad 9) s.heap H1 locs1 → W p l e R s m args below meth c H1 locs1 0 0 Q (F0 m (pc + 1) ls rest)) : W p l e R s m args below meth c H locs 0 0 Q (F0 m pc ls (.int v :: .int i :: .ref (ad 8) :: rest)) :=
  x_ast (Wf := WM ad cI) S hK hP (WM_D hap u) hS (hM_8 u) hi hd hu (sM_8 u _ v) kk
theorem nM_8 (S : CallFix p m c cc nL s args (Cond.code y0 c0 n0 r0 :: TG) own) (hK : va_K (dC, dI) vwCl [(cI, .int)] s) (hP : va_P (dC, dI) vwCl (WM ad cI u) H) (hd : decode cc pc = .ok (.arraylength, 1)) (kk : W p l e R s m args below meth c H locs 0 0 Q (F0 m (pc + 1) ls (.int (7 : Int32) :: rest))) : W p l e R s m args below meth c H locs 0 0 Q (F0 m pc ls (.ref (ad 8) :: rest)) :=
  x_aln (Wf := WM ad cI) S hK hP (hM_8 u) (by decide +kernel) hd kk
end FM
end
