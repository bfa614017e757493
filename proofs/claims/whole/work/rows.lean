section
-- ===== PART A: goes FIRST, ahead of the names: the tables' words, and 'selects' of the private methods out of them =====
/-- a private method of a class that the tables say can be made, by its rows of tables_1 -/
def lw_okq (q : MethodName × Nat) : Prop := (q.1.cls ≠ "java/lang/invoke/MethodHandle" ∧ q.1.cls ≠ "java/lang/invoke/VarHandle") ∧ Cond.instantiable q.1.cls q.2 ∈ tables_1 ∧ Cond.privateMethod q.1 ∈ tables_1 ∧ Cond.instanceMethod q.1 ∈ tables_1
theorem lw_p0 : lw_okq (⟨"TwoWheel", "found", "(I)I"⟩, 8) := ⟨⟨by decide +kernel, by decide +kernel⟩, List.mem_of_getElem? (i := 16) (by decide +kernel), List.mem_of_getElem? (i := 173) (by decide +kernel), List.mem_of_getElem? (i := 174) (by decide +kernel)⟩
theorem lw_p1 : lw_okq (⟨"TwoWheel$Pottery", "throwPot", "(II)V"⟩, 11) := ⟨⟨by decide +kernel, by decide +kernel⟩, List.mem_of_getElem? (i := 24) (by decide +kernel), List.mem_of_getElem? (i := 280) (by decide +kernel), List.mem_of_getElem? (i := 281) (by decide +kernel)⟩
theorem lw_p2 : lw_okq (⟨"TwoWheel$Pottery", "flop", "(I)V"⟩, 11) := ⟨⟨by decide +kernel, by decide +kernel⟩, List.mem_of_getElem? (i := 24) (by decide +kernel), List.mem_of_getElem? (i := 287) (by decide +kernel), List.mem_of_getElem? (i := 288) (by decide +kernel)⟩
theorem lw_p3 : lw_okq (⟨"TwoWheel$Pottery", "stand", "(I)V"⟩, 11) := ⟨⟨by decide +kernel, by decide +kernel⟩, List.mem_of_getElem? (i := 24) (by decide +kernel), List.mem_of_getElem? (i := 294) (by decide +kernel), List.mem_of_getElem? (i := 295) (by decide +kernel)⟩
theorem lw_p4 : lw_okq (⟨"TwoWheel$Pottery", "sell", "(II)V"⟩, 11) := ⟨⟨by decide +kernel, by decide +kernel⟩, List.mem_of_getElem? (i := 24) (by decide +kernel), List.mem_of_getElem? (i := 298) (by decide +kernel), List.mem_of_getElem? (i := 299) (by decide +kernel)⟩
theorem lw_p5 : lw_okq (⟨"TwoWheel$Pottery", "ageAll", "()V"⟩, 11) := ⟨⟨by decide +kernel, by decide +kernel⟩, List.mem_of_getElem? (i := 24) (by decide +kernel), List.mem_of_getElem? (i := 305) (by decide +kernel), List.mem_of_getElem? (i := 306) (by decide +kernel)⟩
theorem lw_p6 : lw_okq (⟨"TwoWheel", "dearestTrait", "(III)I"⟩, 8) := ⟨⟨by decide +kernel, by decide +kernel⟩, List.mem_of_getElem? (i := 16) (by decide +kernel), List.mem_of_getElem? (i := 360) (by decide +kernel), List.mem_of_getElem? (i := 361) (by decide +kernel)⟩
theorem lw_p7 : lw_okq (⟨"TwoWheel", "keepsRound", "(II)Z"⟩, 8) := ⟨⟨by decide +kernel, by decide +kernel⟩, List.mem_of_getElem? (i := 16) (by decide +kernel), List.mem_of_getElem? (i := 382) (by decide +kernel), List.mem_of_getElem? (i := 383) (by decide +kernel)⟩
theorem lw_p8 : lw_okq (⟨"TwoWheel", "trialRiftIsTold", "(III)Z"⟩, 8) := ⟨⟨by decide +kernel, by decide +kernel⟩, List.mem_of_getElem? (i := 16) (by decide +kernel), List.mem_of_getElem? (i := 398) (by decide +kernel), List.mem_of_getElem? (i := 399) (by decide +kernel)⟩
theorem lw_p9 : lw_okq (⟨"TwoWheel", "trialHeatIsTold", "(II)Z"⟩, 8) := ⟨⟨by decide +kernel, by decide +kernel⟩, List.mem_of_getElem? (i := 16) (by decide +kernel), List.mem_of_getElem? (i := 410) (by decide +kernel), List.mem_of_getElem? (i := 411) (by decide +kernel)⟩
theorem lw_p10 : lw_okq (⟨"TwoWheel$Pottery", "draw", "()I"⟩, 11) := ⟨⟨by decide +kernel, by decide +kernel⟩, List.mem_of_getElem? (i := 24) (by decide +kernel), List.mem_of_getElem? (i := 422) (by decide +kernel), List.mem_of_getElem? (i := 423) (by decide +kernel)⟩
theorem lw_p11 : lw_okq (⟨"TwoWheel$Reader", "goesOnAt", "(I)Z"⟩, 6) := ⟨⟨by decide +kernel, by decide +kernel⟩, List.mem_of_getElem? (i := 97) (by decide +kernel), List.mem_of_getElem? (i := 466) (by decide +kernel), List.mem_of_getElem? (i := 467) (by decide +kernel)⟩
theorem lw_p12 : lw_okq (⟨"TwoWheel$Reader", "isLetter", "(I)Z"⟩, 6) := ⟨⟨by decide +kernel, by decide +kernel⟩, List.mem_of_getElem? (i := 97) (by decide +kernel), List.mem_of_getElem? (i := 470) (by decide +kernel), List.mem_of_getElem? (i := 471) (by decide +kernel)⟩
theorem lw_p13 : lw_okq (⟨"TwoWheel$Reader", "isDigit", "(I)Z"⟩, 6) := ⟨⟨by decide +kernel, by decide +kernel⟩, List.mem_of_getElem? (i := 97) (by decide +kernel), List.mem_of_getElem? (i := 474) (by decide +kernel), List.mem_of_getElem? (i := 475) (by decide +kernel)⟩
theorem lw_p14 : lw_okq (⟨"TwoWheel$Reader", "tokenAt", "(I)I"⟩, 6) := ⟨⟨by decide +kernel, by decide +kernel⟩, List.mem_of_getElem? (i := 97) (by decide +kernel), List.mem_of_getElem? (i := 478) (by decide +kernel), List.mem_of_getElem? (i := 479) (by decide +kernel)⟩
theorem lw_p15 : lw_okq (⟨"TwoWheel$Reader", "numberAt", "(I)I"⟩, 6) := ⟨⟨by decide +kernel, by decide +kernel⟩, List.mem_of_getElem? (i := 97) (by decide +kernel), List.mem_of_getElem? (i := 482) (by decide +kernel), List.mem_of_getElem? (i := 483) (by decide +kernel)⟩
def lw_privs_1 : List (MethodName × Nat) := [(⟨"TwoWheel", "found", "(I)I"⟩, 8), (⟨"TwoWheel$Pottery", "throwPot", "(II)V"⟩, 11), (⟨"TwoWheel$Pottery", "flop", "(I)V"⟩, 11), (⟨"TwoWheel$Pottery", "stand", "(I)V"⟩, 11), (⟨"TwoWheel$Pottery", "sell", "(II)V"⟩, 11), (⟨"TwoWheel$Pottery", "ageAll", "()V"⟩, 11), (⟨"TwoWheel", "dearestTrait", "(III)I"⟩, 8), (⟨"TwoWheel", "keepsRound", "(II)Z"⟩, 8), (⟨"TwoWheel", "trialRiftIsTold", "(III)Z"⟩, 8), (⟨"TwoWheel", "trialHeatIsTold", "(II)Z"⟩, 8), (⟨"TwoWheel$Pottery", "draw", "()I"⟩, 11), (⟨"TwoWheel$Reader", "goesOnAt", "(I)Z"⟩, 6), (⟨"TwoWheel$Reader", "isLetter", "(I)Z"⟩, 6), (⟨"TwoWheel$Reader", "isDigit", "(I)Z"⟩, 6), (⟨"TwoWheel$Reader", "tokenAt", "(I)I"⟩, 6), (⟨"TwoWheel$Reader", "numberAt", "(I)I"⟩, 6)]
theorem lw_r1 : ∀ q ∈ lw_privs_1, lw_okq q := List.forall_mem_cons.mpr ⟨lw_p0, List.forall_mem_cons.mpr ⟨lw_p1, List.forall_mem_cons.mpr ⟨lw_p2, List.forall_mem_cons.mpr ⟨lw_p3, List.forall_mem_cons.mpr ⟨lw_p4, List.forall_mem_cons.mpr ⟨lw_p5, List.forall_mem_cons.mpr ⟨lw_p6, List.forall_mem_cons.mpr ⟨lw_p7, List.forall_mem_cons.mpr ⟨lw_p8, List.forall_mem_cons.mpr ⟨lw_p9, List.forall_mem_cons.mpr ⟨lw_p10, List.forall_mem_cons.mpr ⟨lw_p11, List.forall_mem_cons.mpr ⟨lw_p12, List.forall_mem_cons.mpr ⟨lw_p13, List.forall_mem_cons.mpr ⟨lw_p14, List.forall_mem_cons.mpr ⟨lw_p15, fun _ h => absurd h List.not_mem_nil⟩⟩⟩⟩⟩⟩⟩⟩⟩⟩⟩⟩⟩⟩⟩⟩
theorem lw_p16 : lw_okq (⟨"TwoWheel$Reader", "wordAt", "(I)I"⟩, 6) := ⟨⟨by decide +kernel, by decide +kernel⟩, List.mem_of_getElem? (i := 97) (by decide +kernel), List.mem_of_getElem? (i := 487) (by decide +kernel), List.mem_of_getElem? (i := 488) (by decide +kernel)⟩
theorem lw_p17 : lw_okq (⟨"TwoWheel$Reader", "isWordAt", "(ILjava/lang/String;)Z"⟩, 6) := ⟨⟨by decide +kernel, by decide +kernel⟩, List.mem_of_getElem? (i := 97) (by decide +kernel), List.mem_of_getElem? (i := 507) (by decide +kernel), List.mem_of_getElem? (i := 508) (by decide +kernel)⟩
theorem lw_p18 : lw_okq (⟨"TwoWheel$Reader", "readItem", "()V"⟩, 6) := ⟨⟨by decide +kernel, by decide +kernel⟩, List.mem_of_getElem? (i := 97) (by decide +kernel), List.mem_of_getElem? (i := 567) (by decide +kernel), List.mem_of_getElem? (i := 568) (by decide +kernel)⟩
theorem lw_p19 : lw_okq (⟨"TwoWheel$Reader", "readPotter", "(I)V"⟩, 6) := ⟨⟨by decide +kernel, by decide +kernel⟩, List.mem_of_getElem? (i := 97) (by decide +kernel), List.mem_of_getElem? (i := 572) (by decide +kernel), List.mem_of_getElem? (i := 573) (by decide +kernel)⟩
theorem lw_p20 : lw_okq (⟨"TwoWheel$Reader", "refuse", "()V"⟩, 6) := ⟨⟨by decide +kernel, by decide +kernel⟩, List.mem_of_getElem? (i := 97) (by decide +kernel), List.mem_of_getElem? (i := 577) (by decide +kernel), List.mem_of_getElem? (i := 578) (by decide +kernel)⟩
theorem lw_p21 : lw_okq (⟨"TwoWheel$Reader", "step", "()V"⟩, 6) := ⟨⟨by decide +kernel, by decide +kernel⟩, List.mem_of_getElem? (i := 97) (by decide +kernel), List.mem_of_getElem? (i := 581) (by decide +kernel), List.mem_of_getElem? (i := 582) (by decide +kernel)⟩
theorem lw_p22 : lw_okq (⟨"TwoWheel$Reader", "readPerhaps", "(II)I"⟩, 6) := ⟨⟨by decide +kernel, by decide +kernel⟩, List.mem_of_getElem? (i := 97) (by decide +kernel), List.mem_of_getElem? (i := 585) (by decide +kernel), List.mem_of_getElem? (i := 586) (by decide +kernel)⟩
theorem lw_p23 : lw_okq (⟨"TwoWheel$Reader", "readNumber", "(II)I"⟩, 6) := ⟨⟨by decide +kernel, by decide +kernel⟩, List.mem_of_getElem? (i := 97) (by decide +kernel), List.mem_of_getElem? (i := 589) (by decide +kernel), List.mem_of_getElem? (i := 590) (by decide +kernel)⟩
theorem lw_p24 : lw_okq (⟨"TwoWheel$Reader", "readRift", "()V"⟩, 6) := ⟨⟨by decide +kernel, by decide +kernel⟩, List.mem_of_getElem? (i := 97) (by decide +kernel), List.mem_of_getElem? (i := 594) (by decide +kernel), List.mem_of_getElem? (i := 595) (by decide +kernel)⟩
theorem lw_p25 : lw_okq (⟨"TwoWheel$Reader", "readPair", "()V"⟩, 6) := ⟨⟨by decide +kernel, by decide +kernel⟩, List.mem_of_getElem? (i := 97) (by decide +kernel), List.mem_of_getElem? (i := 599) (by decide +kernel), List.mem_of_getElem? (i := 600) (by decide +kernel)⟩
theorem lw_p26 : lw_okq (⟨"TwoWheel$Reader", "readClay", "()V"⟩, 6) := ⟨⟨by decide +kernel, by decide +kernel⟩, List.mem_of_getElem? (i := 97) (by decide +kernel), List.mem_of_getElem? (i := 603) (by decide +kernel), List.mem_of_getElem? (i := 604) (by decide +kernel)⟩
theorem lw_p27 : lw_okq (⟨"TwoWheel$Reader", "take", "(I)V"⟩, 6) := ⟨⟨by decide +kernel, by decide +kernel⟩, List.mem_of_getElem? (i := 97) (by decide +kernel), List.mem_of_getElem? (i := 607) (by decide +kernel), List.mem_of_getElem? (i := 608) (by decide +kernel)⟩
theorem lw_p28 : lw_okq (⟨"TwoWheelModel", "becomes", "(II)I"⟩, 17) := ⟨⟨by decide +kernel, by decide +kernel⟩, List.mem_of_getElem? (i := 691) (by decide +kernel), List.mem_of_getElem? (i := 757) (by decide +kernel), List.mem_of_getElem? (i := 758) (by decide +kernel)⟩
theorem lw_p29 : lw_okq (⟨"TwoWheelModel", "finds", "(I)I"⟩, 17) := ⟨⟨by decide +kernel, by decide +kernel⟩, List.mem_of_getElem? (i := 691) (by decide +kernel), List.mem_of_getElem? (i := 761) (by decide +kernel), List.mem_of_getElem? (i := 762) (by decide +kernel)⟩
theorem lw_p30 : lw_okq (⟨"TwoWheelModel", "comes", "(II)I"⟩, 17) := ⟨⟨by decide +kernel, by decide +kernel⟩, List.mem_of_getElem? (i := 691) (by decide +kernel), List.mem_of_getElem? (i := 782) (by decide +kernel), List.mem_of_getElem? (i := 783) (by decide +kernel)⟩
theorem lw_p31 : lw_okq (⟨"TwoWheelModel", "sets", "(III)V"⟩, 17) := ⟨⟨by decide +kernel, by decide +kernel⟩, List.mem_of_getElem? (i := 691) (by decide +kernel), List.mem_of_getElem? (i := 786) (by decide +kernel), List.mem_of_getElem? (i := 787) (by decide +kernel)⟩
def lw_privs_2 : List (MethodName × Nat) := [(⟨"TwoWheel$Reader", "wordAt", "(I)I"⟩, 6), (⟨"TwoWheel$Reader", "isWordAt", "(ILjava/lang/String;)Z"⟩, 6), (⟨"TwoWheel$Reader", "readItem", "()V"⟩, 6), (⟨"TwoWheel$Reader", "readPotter", "(I)V"⟩, 6), (⟨"TwoWheel$Reader", "refuse", "()V"⟩, 6), (⟨"TwoWheel$Reader", "step", "()V"⟩, 6), (⟨"TwoWheel$Reader", "readPerhaps", "(II)I"⟩, 6), (⟨"TwoWheel$Reader", "readNumber", "(II)I"⟩, 6), (⟨"TwoWheel$Reader", "readRift", "()V"⟩, 6), (⟨"TwoWheel$Reader", "readPair", "()V"⟩, 6), (⟨"TwoWheel$Reader", "readClay", "()V"⟩, 6), (⟨"TwoWheel$Reader", "take", "(I)V"⟩, 6), (⟨"TwoWheelModel", "becomes", "(II)I"⟩, 17), (⟨"TwoWheelModel", "finds", "(I)I"⟩, 17), (⟨"TwoWheelModel", "comes", "(II)I"⟩, 17), (⟨"TwoWheelModel", "sets", "(III)V"⟩, 17)]
theorem lw_r2 : ∀ q ∈ lw_privs_2, lw_okq q := List.forall_mem_cons.mpr ⟨lw_p16, List.forall_mem_cons.mpr ⟨lw_p17, List.forall_mem_cons.mpr ⟨lw_p18, List.forall_mem_cons.mpr ⟨lw_p19, List.forall_mem_cons.mpr ⟨lw_p20, List.forall_mem_cons.mpr ⟨lw_p21, List.forall_mem_cons.mpr ⟨lw_p22, List.forall_mem_cons.mpr ⟨lw_p23, List.forall_mem_cons.mpr ⟨lw_p24, List.forall_mem_cons.mpr ⟨lw_p25, List.forall_mem_cons.mpr ⟨lw_p26, List.forall_mem_cons.mpr ⟨lw_p27, List.forall_mem_cons.mpr ⟨lw_p28, List.forall_mem_cons.mpr ⟨lw_p29, List.forall_mem_cons.mpr ⟨lw_p30, List.forall_mem_cons.mpr ⟨lw_p31, fun _ h => absurd h List.not_mem_nil⟩⟩⟩⟩⟩⟩⟩⟩⟩⟩⟩⟩⟩⟩⟩⟩
theorem lw_p32 : lw_okq (⟨"TwoWheelModel", "isPotter", "(I)Z"⟩, 17) := ⟨⟨by decide +kernel, by decide +kernel⟩, List.mem_of_getElem? (i := 691) (by decide +kernel), List.mem_of_getElem? (i := 794) (by decide +kernel), List.mem_of_getElem? (i := 795) (by decide +kernel)⟩
theorem lw_p33 : lw_okq (⟨"TwoWheelModel", "pushes", "(I)I"⟩, 17) := ⟨⟨by decide +kernel, by decide +kernel⟩, List.mem_of_getElem? (i := 691) (by decide +kernel), List.mem_of_getElem? (i := 799) (by decide +kernel), List.mem_of_getElem? (i := 800) (by decide +kernel)⟩
theorem lw_p34 : lw_okq (⟨"TwoWheelModel", "its", "(II)I"⟩, 17) := ⟨⟨by decide +kernel, by decide +kernel⟩, List.mem_of_getElem? (i := 691) (by decide +kernel), List.mem_of_getElem? (i := 803) (by decide +kernel), List.mem_of_getElem? (i := 804) (by decide +kernel)⟩
theorem lw_p35 : lw_okq (⟨"TwoWheelModel", "says", "(I)I"⟩, 17) := ⟨⟨by decide +kernel, by decide +kernel⟩, List.mem_of_getElem? (i := 691) (by decide +kernel), List.mem_of_getElem? (i := 810) (by decide +kernel), List.mem_of_getElem? (i := 811) (by decide +kernel)⟩
theorem lw_p36 : lw_okq (⟨"TwoWheelModel", "cools", "(I)I"⟩, 17) := ⟨⟨by decide +kernel, by decide +kernel⟩, List.mem_of_getElem? (i := 691) (by decide +kernel), List.mem_of_getElem? (i := 814) (by decide +kernel), List.mem_of_getElem? (i := 815) (by decide +kernel)⟩
theorem lw_p37 : lw_okq (⟨"TwoWheelModel", "boils", "(I)I"⟩, 17) := ⟨⟨by decide +kernel, by decide +kernel⟩, List.mem_of_getElem? (i := 691) (by decide +kernel), List.mem_of_getElem? (i := 818) (by decide +kernel), List.mem_of_getElem? (i := 819) (by decide +kernel)⟩
theorem lw_p38 : lw_okq (⟨"TwoWheelModel", "areTwo", "(II)Z"⟩, 17) := ⟨⟨by decide +kernel, by decide +kernel⟩, List.mem_of_getElem? (i := 691) (by decide +kernel), List.mem_of_getElem? (i := 833) (by decide +kernel), List.mem_of_getElem? (i := 834) (by decide +kernel)⟩
theorem lw_p39 : lw_okq (⟨"TwoWheelModel", "rises", "(II)I"⟩, 17) := ⟨⟨by decide +kernel, by decide +kernel⟩, List.mem_of_getElem? (i := 691) (by decide +kernel), List.mem_of_getElem? (i := 845) (by decide +kernel), List.mem_of_getElem? (i := 846) (by decide +kernel)⟩
theorem lw_p40 : lw_okq (⟨"TwoWheelModel", "leans", "(II)I"⟩, 17) := ⟨⟨by decide +kernel, by decide +kernel⟩, List.mem_of_getElem? (i := 691) (by decide +kernel), List.mem_of_getElem? (i := 849) (by decide +kernel), List.mem_of_getElem? (i := 850) (by decide +kernel)⟩
theorem lw_p41 : lw_okq (⟨"TwoWheelModel", "isFlop", "(II)Z"⟩, 17) := ⟨⟨by decide +kernel, by decide +kernel⟩, List.mem_of_getElem? (i := 691) (by decide +kernel), List.mem_of_getElem? (i := 853) (by decide +kernel), List.mem_of_getElem? (i := 854) (by decide +kernel)⟩
theorem lw_p42 : lw_okq (⟨"TwoWheelModel", "daysGo", "(I)V"⟩, 17) := ⟨⟨by decide +kernel, by decide +kernel⟩, List.mem_of_getElem? (i := 691) (by decide +kernel), List.mem_of_getElem? (i := 866) (by decide +kernel), List.mem_of_getElem? (i := 867) (by decide +kernel)⟩
theorem lw_p43 : lw_okq (⟨"TwoWheelModel", "dayGoes", "()V"⟩, 17) := ⟨⟨by decide +kernel, by decide +kernel⟩, List.mem_of_getElem? (i := 691) (by decide +kernel), List.mem_of_getElem? (i := 870) (by decide +kernel), List.mem_of_getElem? (i := 871) (by decide +kernel)⟩
theorem lw_p44 : lw_okq (⟨"TwoWheelModel", "todays", "()I"⟩, 17) := ⟨⟨by decide +kernel, by decide +kernel⟩, List.mem_of_getElem? (i := 691) (by decide +kernel), List.mem_of_getElem? (i := 874) (by decide +kernel), List.mem_of_getElem? (i := 875) (by decide +kernel)⟩
theorem lw_p45 : lw_okq (⟨"TwoWheelModel", "pots", "(II)V"⟩, 17) := ⟨⟨by decide +kernel, by decide +kernel⟩, List.mem_of_getElem? (i := 691) (by decide +kernel), List.mem_of_getElem? (i := 878) (by decide +kernel), List.mem_of_getElem? (i := 879) (by decide +kernel)⟩
theorem lw_p46 : lw_okq (⟨"TwoWheelModel", "flops", "(I)V"⟩, 17) := ⟨⟨by decide +kernel, by decide +kernel⟩, List.mem_of_getElem? (i := 691) (by decide +kernel), List.mem_of_getElem? (i := 882) (by decide +kernel), List.mem_of_getElem? (i := 883) (by decide +kernel)⟩
theorem lw_p47 : lw_okq (⟨"TwoWheelModel", "adds", "(III)V"⟩, 17) := ⟨⟨by decide +kernel, by decide +kernel⟩, List.mem_of_getElem? (i := 691) (by decide +kernel), List.mem_of_getElem? (i := 886) (by decide +kernel), List.mem_of_getElem? (i := 887) (by decide +kernel)⟩
def lw_privs_3 : List (MethodName × Nat) := [(⟨"TwoWheelModel", "isPotter", "(I)Z"⟩, 17), (⟨"TwoWheelModel", "pushes", "(I)I"⟩, 17), (⟨"TwoWheelModel", "its", "(II)I"⟩, 17), (⟨"TwoWheelModel", "says", "(I)I"⟩, 17), (⟨"TwoWheelModel", "cools", "(I)I"⟩, 17), (⟨"TwoWheelModel", "boils", "(I)I"⟩, 17), (⟨"TwoWheelModel", "areTwo", "(II)Z"⟩, 17), (⟨"TwoWheelModel", "rises", "(II)I"⟩, 17), (⟨"TwoWheelModel", "leans", "(II)I"⟩, 17), (⟨"TwoWheelModel", "isFlop", "(II)Z"⟩, 17), (⟨"TwoWheelModel", "daysGo", "(I)V"⟩, 17), (⟨"TwoWheelModel", "dayGoes", "()V"⟩, 17), (⟨"TwoWheelModel", "todays", "()I"⟩, 17), (⟨"TwoWheelModel", "pots", "(II)V"⟩, 17), (⟨"TwoWheelModel", "flops", "(I)V"⟩, 17), (⟨"TwoWheelModel", "adds", "(III)V"⟩, 17)]
theorem lw_r3 : ∀ q ∈ lw_privs_3, lw_okq q := List.forall_mem_cons.mpr ⟨lw_p32, List.forall_mem_cons.mpr ⟨lw_p33, List.forall_mem_cons.mpr ⟨lw_p34, List.forall_mem_cons.mpr ⟨lw_p35, List.forall_mem_cons.mpr ⟨lw_p36, List.forall_mem_cons.mpr ⟨lw_p37, List.forall_mem_cons.mpr ⟨lw_p38, List.forall_mem_cons.mpr ⟨lw_p39, List.forall_mem_cons.mpr ⟨lw_p40, List.forall_mem_cons.mpr ⟨lw_p41, List.forall_mem_cons.mpr ⟨lw_p42, List.forall_mem_cons.mpr ⟨lw_p43, List.forall_mem_cons.mpr ⟨lw_p44, List.forall_mem_cons.mpr ⟨lw_p45, List.forall_mem_cons.mpr ⟨lw_p46, List.forall_mem_cons.mpr ⟨lw_p47, fun _ h => absurd h List.not_mem_nil⟩⟩⟩⟩⟩⟩⟩⟩⟩⟩⟩⟩⟩⟩⟩⟩
theorem lw_p48 : lw_okq (⟨"TwoWheelModel", "throwsOne", "(I)V"⟩, 17) := ⟨⟨by decide +kernel, by decide +kernel⟩, List.mem_of_getElem? (i := 691) (by decide +kernel), List.mem_of_getElem? (i := 890) (by decide +kernel), List.mem_of_getElem? (i := 891) (by decide +kernel)⟩
theorem lw_p49 : lw_okq (⟨"TwoWheelModel", "sumOf", "(I)I"⟩, 17) := ⟨⟨by decide +kernel, by decide +kernel⟩, List.mem_of_getElem? (i := 691) (by decide +kernel), List.mem_of_getElem? (i := 898) (by decide +kernel), List.mem_of_getElem? (i := 899) (by decide +kernel)⟩
theorem lw_p50 : lw_okq (⟨"TwoWheelModel", "farthest", "()I"⟩, 17) := ⟨⟨by decide +kernel, by decide +kernel⟩, List.mem_of_getElem? (i := 691) (by decide +kernel), List.mem_of_getElem? (i := 902) (by decide +kernel), List.mem_of_getElem? (i := 903) (by decide +kernel)⟩
theorem lw_p51 : lw_okq (⟨"TwoWheelModel", "behind", "(II)I"⟩, 17) := ⟨⟨by decide +kernel, by decide +kernel⟩, List.mem_of_getElem? (i := 691) (by decide +kernel), List.mem_of_getElem? (i := 918) (by decide +kernel), List.mem_of_getElem? (i := 919) (by decide +kernel)⟩
theorem lw_p52 : lw_okq (⟨"TwoWheelModel", "firstOf", "(III)I"⟩, 17) := ⟨⟨by decide +kernel, by decide +kernel⟩, List.mem_of_getElem? (i := 691) (by decide +kernel), List.mem_of_getElem? (i := 926) (by decide +kernel), List.mem_of_getElem? (i := 927) (by decide +kernel)⟩
theorem lw_p53 : lw_okq (⟨"TwoWheelModel", "bestOf", "(III)I"⟩, 17) := ⟨⟨by decide +kernel, by decide +kernel⟩, List.mem_of_getElem? (i := 691) (by decide +kernel), List.mem_of_getElem? (i := 950) (by decide +kernel), List.mem_of_getElem? (i := 951) (by decide +kernel)⟩
theorem lw_p54 : lw_okq (⟨"TwoWheelModel", "reconciles", "(I)V"⟩, 17) := ⟨⟨by decide +kernel, by decide +kernel⟩, List.mem_of_getElem? (i := 691) (by decide +kernel), List.mem_of_getElem? (i := 969) (by decide +kernel), List.mem_of_getElem? (i := 970) (by decide +kernel)⟩
theorem lw_p55 : lw_okq (⟨"TwoWheelModel", "whyNone", "(I)I"⟩, 17) := ⟨⟨by decide +kernel, by decide +kernel⟩, List.mem_of_getElem? (i := 691) (by decide +kernel), List.mem_of_getElem? (i := 977) (by decide +kernel), List.mem_of_getElem? (i := 978) (by decide +kernel)⟩
theorem lw_p56 : lw_okq (⟨"TwoWheelModel", "fitting", "(IIIIZ)I"⟩, 17) := ⟨⟨by decide +kernel, by decide +kernel⟩, List.mem_of_getElem? (i := 691) (by decide +kernel), List.mem_of_getElem? (i := 984) (by decide +kernel), List.mem_of_getElem? (i := 985) (by decide +kernel)⟩
theorem lw_p57 : lw_okq (⟨"TwoWheelModel", "draw", "()I"⟩, 17) := ⟨⟨by decide +kernel, by decide +kernel⟩, List.mem_of_getElem? (i := 691) (by decide +kernel), List.mem_of_getElem? (i := 996) (by decide +kernel), List.mem_of_getElem? (i := 997) (by decide +kernel)⟩
theorem lw_p58 : lw_okq (⟨"TwoWheelModel", "items", "()I"⟩, 17) := ⟨⟨by decide +kernel, by decide +kernel⟩, List.mem_of_getElem? (i := 691) (by decide +kernel), List.mem_of_getElem? (i := 1026) (by decide +kernel), List.mem_of_getElem? (i := 1027) (by decide +kernel)⟩
theorem lw_p59 : lw_okq (⟨"TwoWheelModel", "next", "()V"⟩, 17) := ⟨⟨by decide +kernel, by decide +kernel⟩, List.mem_of_getElem? (i := 691) (by decide +kernel), List.mem_of_getElem? (i := 1030) (by decide +kernel), List.mem_of_getElem? (i := 1031) (by decide +kernel)⟩
theorem lw_p60 : lw_okq (⟨"TwoWheelModel", "byteAt", "(I)I"⟩, 17) := ⟨⟨by decide +kernel, by decide +kernel⟩, List.mem_of_getElem? (i := 691) (by decide +kernel), List.mem_of_getElem? (i := 1034) (by decide +kernel), List.mem_of_getElem? (i := 1035) (by decide +kernel)⟩
theorem lw_p61 : lw_okq (⟨"TwoWheelModel", "item", "()V"⟩, 17) := ⟨⟨by decide +kernel, by decide +kernel⟩, List.mem_of_getElem? (i := 691) (by decide +kernel), List.mem_of_getElem? (i := 1049) (by decide +kernel), List.mem_of_getElem? (i := 1050) (by decide +kernel)⟩
theorem lw_p62 : lw_okq (⟨"TwoWheelModel", "kindHere", "()I"⟩, 17) := ⟨⟨by decide +kernel, by decide +kernel⟩, List.mem_of_getElem? (i := 691) (by decide +kernel), List.mem_of_getElem? (i := 1053) (by decide +kernel), List.mem_of_getElem? (i := 1054) (by decide +kernel)⟩
theorem lw_p63 : lw_okq (⟨"TwoWheelModel", "isWord", "(J)Z"⟩, 17) := ⟨⟨by decide +kernel, by decide +kernel⟩, List.mem_of_getElem? (i := 691) (by decide +kernel), List.mem_of_getElem? (i := 1058) (by decide +kernel), List.mem_of_getElem? (i := 1059) (by decide +kernel)⟩
def lw_privs_4 : List (MethodName × Nat) := [(⟨"TwoWheelModel", "throwsOne", "(I)V"⟩, 17), (⟨"TwoWheelModel", "sumOf", "(I)I"⟩, 17), (⟨"TwoWheelModel", "farthest", "()I"⟩, 17), (⟨"TwoWheelModel", "behind", "(II)I"⟩, 17), (⟨"TwoWheelModel", "firstOf", "(III)I"⟩, 17), (⟨"TwoWheelModel", "bestOf", "(III)I"⟩, 17), (⟨"TwoWheelModel", "reconciles", "(I)V"⟩, 17), (⟨"TwoWheelModel", "whyNone", "(I)I"⟩, 17), (⟨"TwoWheelModel", "fitting", "(IIIIZ)I"⟩, 17), (⟨"TwoWheelModel", "draw", "()I"⟩, 17), (⟨"TwoWheelModel", "items", "()I"⟩, 17), (⟨"TwoWheelModel", "next", "()V"⟩, 17), (⟨"TwoWheelModel", "byteAt", "(I)I"⟩, 17), (⟨"TwoWheelModel", "item", "()V"⟩, 17), (⟨"TwoWheelModel", "kindHere", "()I"⟩, 17), (⟨"TwoWheelModel", "isWord", "(J)Z"⟩, 17)]
theorem lw_r4 : ∀ q ∈ lw_privs_4, lw_okq q := List.forall_mem_cons.mpr ⟨lw_p48, List.forall_mem_cons.mpr ⟨lw_p49, List.forall_mem_cons.mpr ⟨lw_p50, List.forall_mem_cons.mpr ⟨lw_p51, List.forall_mem_cons.mpr ⟨lw_p52, List.forall_mem_cons.mpr ⟨lw_p53, List.forall_mem_cons.mpr ⟨lw_p54, List.forall_mem_cons.mpr ⟨lw_p55, List.forall_mem_cons.mpr ⟨lw_p56, List.forall_mem_cons.mpr ⟨lw_p57, List.forall_mem_cons.mpr ⟨lw_p58, List.forall_mem_cons.mpr ⟨lw_p59, List.forall_mem_cons.mpr ⟨lw_p60, List.forall_mem_cons.mpr ⟨lw_p61, List.forall_mem_cons.mpr ⟨lw_p62, List.forall_mem_cons.mpr ⟨lw_p63, fun _ h => absurd h List.not_mem_nil⟩⟩⟩⟩⟩⟩⟩⟩⟩⟩⟩⟩⟩⟩⟩⟩
theorem lw_p64 : lw_okq (⟨"TwoWheelModel", "potterHere", "(I)V"⟩, 17) := ⟨⟨by decide +kernel, by decide +kernel⟩, List.mem_of_getElem? (i := 691) (by decide +kernel), List.mem_of_getElem? (i := 1068) (by decide +kernel), List.mem_of_getElem? (i := 1069) (by decide +kernel)⟩
theorem lw_p65 : lw_okq (⟨"TwoWheelModel", "wrongHere", "()V"⟩, 17) := ⟨⟨by decide +kernel, by decide +kernel⟩, List.mem_of_getElem? (i := 691) (by decide +kernel), List.mem_of_getElem? (i := 1072) (by decide +kernel), List.mem_of_getElem? (i := 1073) (by decide +kernel)⟩
theorem lw_p66 : lw_okq (⟨"TwoWheelModel", "perhaps", "(JII)V"⟩, 17) := ⟨⟨by decide +kernel, by decide +kernel⟩, List.mem_of_getElem? (i := 691) (by decide +kernel), List.mem_of_getElem? (i := 1077) (by decide +kernel), List.mem_of_getElem? (i := 1078) (by decide +kernel)⟩
theorem lw_p67 : lw_okq (⟨"TwoWheelModel", "numberHere", "(III)I"⟩, 17) := ⟨⟨by decide +kernel, by decide +kernel⟩, List.mem_of_getElem? (i := 691) (by decide +kernel), List.mem_of_getElem? (i := 1081) (by decide +kernel), List.mem_of_getElem? (i := 1082) (by decide +kernel)⟩
theorem lw_p68 : lw_okq (⟨"TwoWheelModel", "riftHere", "()V"⟩, 17) := ⟨⟨by decide +kernel, by decide +kernel⟩, List.mem_of_getElem? (i := 691) (by decide +kernel), List.mem_of_getElem? (i := 1088) (by decide +kernel), List.mem_of_getElem? (i := 1089) (by decide +kernel)⟩
theorem lw_p69 : lw_okq (⟨"TwoWheelModel", "pairHere", "()V"⟩, 17) := ⟨⟨by decide +kernel, by decide +kernel⟩, List.mem_of_getElem? (i := 691) (by decide +kernel), List.mem_of_getElem? (i := 1093) (by decide +kernel), List.mem_of_getElem? (i := 1094) (by decide +kernel)⟩
theorem lw_p70 : lw_okq (⟨"TwoWheelModel", "holding", "()I"⟩, 17) := ⟨⟨by decide +kernel, by decide +kernel⟩, List.mem_of_getElem? (i := 691) (by decide +kernel), List.mem_of_getElem? (i := 1146) (by decide +kernel), List.mem_of_getElem? (i := 1147) (by decide +kernel)⟩
def lw_privs_5 : List (MethodName × Nat) := [(⟨"TwoWheelModel", "potterHere", "(I)V"⟩, 17), (⟨"TwoWheelModel", "wrongHere", "()V"⟩, 17), (⟨"TwoWheelModel", "perhaps", "(JII)V"⟩, 17), (⟨"TwoWheelModel", "numberHere", "(III)I"⟩, 17), (⟨"TwoWheelModel", "riftHere", "()V"⟩, 17), (⟨"TwoWheelModel", "pairHere", "()V"⟩, 17), (⟨"TwoWheelModel", "holding", "()I"⟩, 17)]
theorem lw_r5 : ∀ q ∈ lw_privs_5, lw_okq q := List.forall_mem_cons.mpr ⟨lw_p64, List.forall_mem_cons.mpr ⟨lw_p65, List.forall_mem_cons.mpr ⟨lw_p66, List.forall_mem_cons.mpr ⟨lw_p67, List.forall_mem_cons.mpr ⟨lw_p68, List.forall_mem_cons.mpr ⟨lw_p69, List.forall_mem_cons.mpr ⟨lw_p70, fun _ h => absurd h List.not_mem_nil⟩⟩⟩⟩⟩⟩⟩
def lw_privs : List (MethodName × Nat) := lw_privs_1 ++ (lw_privs_2 ++ (lw_privs_3 ++ (lw_privs_4 ++ (lw_privs_5))))
def lw_tbl : List Cond := k2_sels lw_privs ++ tables_1
theorem lw_privs_ok : ∀ q ∈ lw_privs, lw_okq q := by
  show ∀ q ∈ lw_privs_1 ++ (lw_privs_2 ++ (lw_privs_3 ++ (lw_privs_4 ++ (lw_privs_5)))), lw_okq q
  exact List.forall_mem_append.mpr ⟨lw_r1, List.forall_mem_append.mpr ⟨lw_r2, List.forall_mem_append.mpr ⟨lw_r3, List.forall_mem_append.mpr ⟨lw_r4, lw_r5⟩⟩⟩⟩
end
section
/-! ===== BEGIN words of one list among another's, by their places ===== -/
theorem goodIn_r {big : List Cond} (ws : List Cond) (ps : List Nat) (hp : ws = ps.filterMap (fun i => big[i]?)) (h : ws.all goodWord = true) : GoodIn big ws := by
  intro w hw
  have h1 := List.all_eq_true.mp h w hw
  rw [hp] at hw
  obtain ⟨i, -, hi⟩ := List.mem_filterMap.mp hw
  have hm : w ∈ big := by first | exact List.mem_of_getElem? hi | exact List.getElem?_mem hi
  exact ⟨hm, good_of_word h1⟩
theorem goodIn_app {big a b : List Cond} (ha : GoodIn big a) (hb : GoodIn big b) : GoodIn big (a ++ b) := fun w h => (List.mem_append.mp h).elim (ha w) (hb w)
theorem goodIn_ca {big a b : List Cond} {c : Cond} (ha : GoodIn big (c :: a)) (hb : GoodIn big b) : GoodIn big (c :: (a ++ b)) := fun w h => (List.mem_cons.mp h).elim (fun e => ha w (List.mem_cons.mpr (Or.inl e))) (fun h => (List.mem_append.mp h).elim (fun h => ha w (List.mem_cons.mpr (Or.inr h))) (hb w))
theorem goodIn_sub {big ws : List Cond} (hm : ∀ w ∈ ws, w ∈ big) (h : ws.all goodWord = true) : GoodIn big ws := fun w hw => ⟨hm w hw, good_of_word (List.all_eq_true.mp h w hw)⟩
/-! ===== END ===== -/

/-! ===== BEGIN printed: names, fields, word lists, decode rows ===== -/
def RX0 : String := "TwoWheel$Pottery"
def TX0 : u_T := fun k => match k with
  | 0 => ("TwoWheel$Pottery", "clay", "I", false)
  | 1 => ("TwoWheel$Pottery", "gold", "I", false)
  | 2 => ("TwoWheel$Pottery", "round", "I", false)
  | 3 => ("TwoWheel$Pottery", "rings", "I", false)
  | 4 => ("TwoWheel$Pottery", "day", "I", false)
  | 5 => ("TwoWheel$Pottery", "z", "I", false)
  | 6 => ("TwoWheel$Pottery", "potters", "I", false)
  | 7 => ("TwoWheel$Pottery", "list", "[I", true)
  | 8 => ("TwoWheel$Pottery", "traits", "[I", true)
  | 9 => ("TwoWheel$Pottery", "rifts", "[I", true)
  | _ => ("TwoWheel$Pottery", "spots", "[I", true)
def tyX0 : Nat → FieldType := fun k => match k with
  | 0 => .int
  | 1 => .int
  | 2 => .int
  | 3 => .int
  | 4 => .int
  | 5 => .int
  | 6 => .int
  | 7 => .array .int
  | 8 => .array .int
  | 9 => .array .int
  | _ => .array .int
abbrev wsX00 : List Cond := u_ws RX0 TX0 11
theorem nmX0 : ∀ a, a < 11 → ∀ b, b < 11 → a ≠ b → (TX0 a).2.1 ≠ (TX0 b).2.1 := by decide +kernel
theorem tyX0_ok : ∀ k, k < 11 → parseFieldDescriptor (TX0 k).2.2.1 = some (tyX0 k) := by decide +kernel
abbrev cX0_init : ByteArray := prog_2_method_1_code
def yX0_init : MethodName := ⟨RX0, "<init>", "()V"⟩
abbrev cX0_become : ByteArray := prog_2_method_2_code
def yX0_become : MethodName := ⟨RX0, "become", "(LTwoWheel$Pottery;)V"⟩
abbrev cX0_isFull : ByteArray := prog_2_method_3_code
def yX0_isFull : MethodName := ⟨RX0, "isFull", "()Z"⟩
abbrev cX0_has : ByteArray := prog_2_method_4_code
def yX0_has : MethodName := ⟨RX0, "has", "(I)Z"⟩
abbrev cX0_hasTwo : ByteArray := prog_2_method_5_code
def yX0_hasTwo : MethodName := ⟨RX0, "hasTwo", "(II)Z"⟩
abbrev cX0_addPotter : ByteArray := prog_2_method_6_code
def yX0_addPotter : MethodName := ⟨RX0, "addPotter", "(IIII)I"⟩
abbrev cX0_tell : ByteArray := prog_2_method_7_code
def yX0_tell : MethodName := ⟨RX0, "tell", "(II)I"⟩
abbrev cX0_pushes : ByteArray := prog_2_method_8_code
def yX0_pushes : MethodName := ⟨RX0, "pushes", "(I)I"⟩
abbrev cX0_says : ByteArray := prog_2_method_9_code
def yX0_says : MethodName := ⟨RX0, "says", "(I)I"⟩
abbrev cX0_riftOf : ByteArray := prog_2_method_10_code
def yX0_riftOf : MethodName := ⟨RX0, "riftOf", "(II)I"⟩
abbrev cX0_setRift : ByteArray := prog_2_method_11_code
def yX0_setRift : MethodName := ⟨RX0, "setRift", "(III)V"⟩
abbrev cX0_riftPlace : ByteArray := prog_2_method_12_code
def yX0_riftPlace : MethodName := ⟨RX0, "riftPlace", "(II)I"⟩
abbrev cX0_rises : ByteArray := prog_2_method_13_code
def yX0_rises : MethodName := ⟨RX0, "rises", "(III)I"⟩
abbrev cX0_leans : ByteArray := prog_2_method_14_code
def yX0_leans : MethodName := ⟨RX0, "leans", "(II)I"⟩
abbrev cX0_claysThatStand : ByteArray := prog_2_method_15_code
def yX0_claysThatStand : MethodName := ⟨RX0, "claysThatStand", "(II)I"⟩
abbrev cX0_passDays : ByteArray := prog_2_method_16_code
def yX0_passDays : MethodName := ⟨RX0, "passDays", "(I)V"⟩
abbrev cX0_throwsToday : ByteArray := prog_2_method_17_code
def yX0_throwsToday : MethodName := ⟨RX0, "throwsToday", "()Z"⟩
abbrev cX0_throwPot : ByteArray := prog_2_method_18_code
def yX0_throwPot : MethodName := ⟨RX0, "throwPot", "(II)V"⟩
abbrev cX0_flop : ByteArray := prog_2_method_19_code
def yX0_flop : MethodName := ⟨RX0, "flop", "(I)V"⟩
abbrev cX0_stand : ByteArray := prog_2_method_20_code
def yX0_stand : MethodName := ⟨RX0, "stand", "(I)V"⟩
abbrev cX0_sell : ByteArray := prog_2_method_21_code
def yX0_sell : MethodName := ⟨RX0, "sell", "(II)V"⟩
abbrev cX0_ageAll : ByteArray := prog_2_method_22_code
def yX0_ageAll : MethodName := ⟨RX0, "ageAll", "()V"⟩
abbrev cX0_sumOf : ByteArray := prog_2_method_23_code
def yX0_sumOf : MethodName := ⟨RX0, "sumOf", "(I)I"⟩
abbrev cX0_widestTwo : ByteArray := prog_2_method_24_code
def yX0_widestTwo : MethodName := ⟨RX0, "widestTwo", "()I"⟩
abbrev cX0_reconcileSet : ByteArray := prog_2_method_25_code
def yX0_reconcileSet : MethodName := ⟨RX0, "reconcileSet", "(I)V"⟩
abbrev cX0_drawMarket : ByteArray := prog_2_method_26_code
def yX0_drawMarket : MethodName := ⟨RX0, "drawMarket", "()V"⟩
abbrev cX0_draw : ByteArray := prog_2_method_27_code
def yX0_draw : MethodName := ⟨RX0, "draw", "()I"⟩
abbrev cX0_spotsHeld : ByteArray := prog_2_method_28_code
def yX0_spotsHeld : MethodName := ⟨RX0, "spotsHeld", "()I"⟩
def RX1 : String := "TwoWheel$Reader"
def TX1 : u_T := fun k => match k with
  | 0 => ("TwoWheel$Reader", "tape", "LTwoWheel$Tape;", true)
  | 1 => ("TwoWheel$Reader", "into", "LTwoWheel$Pottery;", true)
  | 2 => ("TwoWheel$Reader", "tokens", "[I", true)
  | 3 => ("TwoWheel$Reader", "starts", "[I", true)
  | 4 => ("TwoWheel$Reader", "at", "I", false)
  | _ => ("TwoWheel$Reader", "fault", "I", false)
def tyX1 : Nat → FieldType := fun k => match k with
  | 0 => .object "TwoWheel$Tape"
  | 1 => .object "TwoWheel$Pottery"
  | 2 => .array .int
  | 3 => .array .int
  | 4 => .int
  | _ => .int
abbrev wsX10 : List Cond := u_ws RX1 TX1 6
theorem nmX1 : ∀ a, a < 6 → ∀ b, b < 6 → a ≠ b → (TX1 a).2.1 ≠ (TX1 b).2.1 := by decide +kernel
theorem tyX1_ok : ∀ k, k < 6 → parseFieldDescriptor (TX1 k).2.2.1 = some (tyX1 k) := by decide +kernel
abbrev cX1_init : ByteArray := prog_3_method_1_code
def yX1_init : MethodName := ⟨RX1, "<init>", "(LTwoWheel$Tape;LTwoWheel$Pottery;)V"⟩
abbrev cX1_hasFault : ByteArray := prog_3_method_2_code
def yX1_hasFault : MethodName := ⟨RX1, "hasFault", "()Z"⟩
abbrev cX1_splitTape : ByteArray := prog_3_method_3_code
def yX1_splitTape : MethodName := ⟨RX1, "splitTape", "()V"⟩
abbrev cX1_readItems : ByteArray := prog_3_method_4_code
def yX1_readItems : MethodName := ⟨RX1, "readItems", "()I"⟩
abbrev cX1_readItem : ByteArray := prog_3_method_5_code
def yX1_readItem : MethodName := ⟨RX1, "readItem", "()V"⟩
abbrev cX1_readPotter : ByteArray := prog_3_method_6_code
def yX1_readPotter : MethodName := ⟨RX1, "readPotter", "(I)V"⟩
abbrev cX1_readPerhaps : ByteArray := prog_3_method_7_code
def yX1_readPerhaps : MethodName := ⟨RX1, "readPerhaps", "(II)I"⟩
abbrev cX1_readRift : ByteArray := prog_3_method_8_code
def yX1_readRift : MethodName := ⟨RX1, "readRift", "()V"⟩
abbrev cX1_readPair : ByteArray := prog_3_method_9_code
def yX1_readPair : MethodName := ⟨RX1, "readPair", "()V"⟩
abbrev cX1_readClay : ByteArray := prog_3_method_10_code
def yX1_readClay : MethodName := ⟨RX1, "readClay", "()V"⟩
abbrev cX1_readNumber : ByteArray := prog_3_method_11_code
def yX1_readNumber : MethodName := ⟨RX1, "readNumber", "(II)I"⟩
abbrev cX1_take : ByteArray := prog_3_method_12_code
def yX1_take : MethodName := ⟨RX1, "take", "(I)V"⟩
abbrev cX1_step : ByteArray := prog_3_method_13_code
def yX1_step : MethodName := ⟨RX1, "step", "()V"⟩
abbrev cX1_refuse : ByteArray := prog_3_method_14_code
def yX1_refuse : MethodName := ⟨RX1, "refuse", "()V"⟩
abbrev cX1_goesOnAt : ByteArray := prog_3_method_15_code
def yX1_goesOnAt : MethodName := ⟨RX1, "goesOnAt", "(I)Z"⟩
abbrev cX1_tokenAt : ByteArray := prog_3_method_16_code
def yX1_tokenAt : MethodName := ⟨RX1, "tokenAt", "(I)I"⟩
abbrev cX1_numberAt : ByteArray := prog_3_method_17_code
def yX1_numberAt : MethodName := ⟨RX1, "numberAt", "(I)I"⟩
abbrev cX1_wordAt : ByteArray := prog_3_method_18_code
def yX1_wordAt : MethodName := ⟨RX1, "wordAt", "(I)I"⟩
abbrev cX1_isWordAt : ByteArray := prog_3_method_19_code
def yX1_isWordAt : MethodName := ⟨RX1, "isWordAt", "(ILjava/lang/String;)Z"⟩
abbrev cX1_nameOf : ByteArray := prog_3_method_20_code
def yX1_nameOf : MethodName := ⟨RX1, "nameOf", "(I)Ljava/lang/String;"⟩
abbrev cX1_isLetter : ByteArray := prog_3_method_21_code
def yX1_isLetter : MethodName := ⟨RX1, "isLetter", "(I)Z"⟩
abbrev cX1_isDigit : ByteArray := prog_3_method_22_code
def yX1_isDigit : MethodName := ⟨RX1, "isDigit", "(I)Z"⟩
def RX2 : String := "TwoWheel$Sheets"
def TX2 : u_T := fun k => match k with
  | 0 => ("TwoWheel$Sheets", "widths", "[I", true)
  | 1 => ("TwoWheel$Sheets", "sizes", "[I", true)
  | _ => ("TwoWheel$Sheets", "numbers", "[I", true)
def tyX2 : Nat → FieldType := fun k => match k with
  | 0 => .array .int
  | 1 => .array .int
  | _ => .array .int
abbrev wsX20 : List Cond := u_ws RX2 TX2 3
theorem nmX2 : ∀ a, a < 3 → ∀ b, b < 3 → a ≠ b → (TX2 a).2.1 ≠ (TX2 b).2.1 := by decide +kernel
theorem tyX2_ok : ∀ k, k < 3 → parseFieldDescriptor (TX2 k).2.2.1 = some (tyX2 k) := by decide +kernel
abbrev cX2_init : ByteArray := prog_4_method_1_code
def yX2_init : MethodName := ⟨RX2, "<init>", "()V"⟩
abbrev cX2_isMissing : ByteArray := prog_4_method_2_code
def yX2_isMissing : MethodName := ⟨RX2, "isMissing", "(I)Z"⟩
abbrev cX2_lay : ByteArray := prog_4_method_3_code
def yX2_lay : MethodName := ⟨RX2, "lay", "(III)V"⟩
abbrev cX2_get : ByteArray := prog_4_method_4_code
def yX2_get : MethodName := ⟨RX2, "get", "(II)I"⟩
abbrev cX2_put : ByteArray := prog_4_method_5_code
def yX2_put : MethodName := ⟨RX2, "put", "(III)V"⟩
abbrev cX2_lowest : ByteArray := prog_4_method_6_code
def yX2_lowest : MethodName := ⟨RX2, "lowest", "(II)I"⟩
abbrev cX2_hasRun : ByteArray := prog_4_method_7_code
def yX2_hasRun : MethodName := ⟨RX2, "hasRun", "(III)Z"⟩
abbrev cX2_move : ByteArray := prog_4_method_8_code
def yX2_move : MethodName := ⟨RX2, "move", "(IIIII)V"⟩
def RX3 : String := "TwoWheel$Tape"
def TX3 : u_T := fun k => match k with
  | 0 => ("TwoWheel$Tape", "bytes", "[I", true)
  | _ => ("TwoWheel$Tape", "length", "I", false)
def tyX3 : Nat → FieldType := fun k => match k with
  | 0 => .array .int
  | _ => .int
abbrev wsX30 : List Cond := u_ws RX3 TX3 2
theorem nmX3 : ∀ a, a < 2 → ∀ b, b < 2 → a ≠ b → (TX3 a).2.1 ≠ (TX3 b).2.1 := by decide +kernel
theorem tyX3_ok : ∀ k, k < 2 → parseFieldDescriptor (TX3 k).2.2.1 = some (tyX3 k) := by decide +kernel
abbrev cX3_init : ByteArray := prog_5_method_1_code
def yX3_init : MethodName := ⟨RX3, "<init>", "()V"⟩
abbrev cX3_append : ByteArray := prog_5_method_2_code
def yX3_append : MethodName := ⟨RX3, "append", "(I)V"⟩
def RX4 : String := "TwoWheel"
def TX4 : u_T := fun k => match k with
  | 0 => ("TwoWheel", "here", "LTwoWheel$Pottery;", true)
  | 1 => ("TwoWheel", "trial", "LTwoWheel$Pottery;", true)
  | 2 => ("TwoWheel", "kept", "LTwoWheel$Pottery;", true)
  | 3 => ("TwoWheel", "isKept", "Z", false)
  | 4 => ("TwoWheel", "tape", "LTwoWheel$Tape;", true)
  | 5 => ("TwoWheel", "reader", "LTwoWheel$Reader;", true)
  | 6 => ("TwoWheel", "sheets", "LTwoWheel$Sheets;", true)
  | _ => ("TwoWheel", "findings", "[I", true)
def tyX4 : Nat → FieldType := fun k => match k with
  | 0 => .object "TwoWheel$Pottery"
  | 1 => .object "TwoWheel$Pottery"
  | 2 => .object "TwoWheel$Pottery"
  | 3 => .boolean
  | 4 => .object "TwoWheel$Tape"
  | 5 => .object "TwoWheel$Reader"
  | 6 => .object "TwoWheel$Sheets"
  | _ => .array .int
abbrev wsX40 : List Cond := u_ws RX4 TX4 8
theorem nmX4 : ∀ a, a < 8 → ∀ b, b < 8 → a ≠ b → (TX4 a).2.1 ≠ (TX4 b).2.1 := by decide +kernel
theorem tyX4_ok : ∀ k, k < 8 → parseFieldDescriptor (TX4 k).2.2.1 = some (tyX4 k) := by decide +kernel
abbrev cX4_init : ByteArray := prog_1_method_1_code
def yX4_init : MethodName := ⟨RX4, "<init>", "()V"⟩
abbrev cX4_clay : ByteArray := prog_1_method_2_code
def yX4_clay : MethodName := ⟨RX4, "clay", "(I)I"⟩
abbrev cX4_pair : ByteArray := prog_1_method_3_code
def yX4_pair : MethodName := ⟨RX4, "pair", "(III)I"⟩
abbrev cX4_listed : ByteArray := prog_1_method_4_code
def yX4_listed : MethodName := ⟨RX4, "listed", "(I)I"⟩
abbrev cX4_potter : ByteArray := prog_1_method_5_code
def yX4_potter : MethodName := ⟨RX4, "potter", "(II)I"⟩
abbrev cX4_of : ByteArray := prog_1_method_6_code
def yX4_of : MethodName := ⟨RX4, "of", "(II)I"⟩
abbrev cX4_change : ByteArray := prog_1_method_7_code
def yX4_change : MethodName := ⟨RX4, "change", "(III)I"⟩
abbrev cX4_rift : ByteArray := prog_1_method_8_code
def yX4_rift : MethodName := ⟨RX4, "rift", "(III)I"⟩
abbrev cX4_two : ByteArray := prog_1_method_9_code
def yX4_two : MethodName := ⟨RX4, "two", "(III)I"⟩
abbrev cX4_go : ByteArray := prog_1_method_10_code
def yX4_go : MethodName := ⟨RX4, "go", "(I)I"⟩
abbrev cX4_now : ByteArray := prog_1_method_11_code
def yX4_now : MethodName := ⟨RX4, "now", "(I)I"⟩
abbrev cX4_ahead : ByteArray := prog_1_method_12_code
def yX4_ahead : MethodName := ⟨RX4, "ahead", "(III)I"⟩
abbrev cX4_terms : ByteArray := prog_1_method_13_code
def yX4_terms : MethodName := ⟨RX4, "terms", "(III)I"⟩
abbrev cX4_next : ByteArray := prog_1_method_14_code
def yX4_next : MethodName := ⟨RX4, "next", "(I)I"⟩
abbrev cX4_peace : ByteArray := prog_1_method_15_code
def yX4_peace : MethodName := ⟨RX4, "peace", "(III)I"⟩
abbrev cX4_when : ByteArray := prog_1_method_16_code
def yX4_when : MethodName := ⟨RX4, "when", "(II)I"⟩
abbrev cX4_setWith : ByteArray := prog_1_method_17_code
def yX4_setWith : MethodName := ⟨RX4, "setWith", "(III)I"⟩
abbrev cX4_heatFor : ByteArray := prog_1_method_18_code
def yX4_heatFor : MethodName := ⟨RX4, "heatFor", "(II)I"⟩
abbrev cX4_kindFor : ByteArray := prog_1_method_19_code
def yX4_kindFor : MethodName := ⟨RX4, "kindFor", "(II)I"⟩
abbrev cX4_clayFor : ByteArray := prog_1_method_20_code
def yX4_clayFor : MethodName := ⟨RX4, "clayFor", "(II)I"⟩
abbrev cX4_reconcile : ByteArray := prog_1_method_21_code
def yX4_reconcile : MethodName := ⟨RX4, "reconcile", "(I)I"⟩
abbrev cX4_fits : ByteArray := prog_1_method_22_code
def yX4_fits : MethodName := ⟨RX4, "fits", "(III)I"⟩
abbrev cX4_kinds : ByteArray := prog_1_method_23_code
def yX4_kinds : MethodName := ⟨RX4, "kinds", "(II)I"⟩
abbrev cX4_market : ByteArray := prog_1_method_24_code
def yX4_market : MethodName := ⟨RX4, "market", "(I)I"⟩
abbrev cX4_odds : ByteArray := prog_1_method_25_code
def yX4_odds : MethodName := ⟨RX4, "odds", "(IIII)J"⟩
abbrev cX4_seed : ByteArray := prog_1_method_26_code
def yX4_seed : MethodName := ⟨RX4, "seed", "(I)I"⟩
abbrev cX4_feed : ByteArray := prog_1_method_27_code
def yX4_feed : MethodName := ⟨RX4, "feed", "(II)I"⟩
abbrev cX4_wipe : ByteArray := prog_1_method_28_code
def yX4_wipe : MethodName := ⟨RX4, "wipe", "()I"⟩
abbrev cX4_text : ByteArray := prog_1_method_29_code
def yX4_text : MethodName := ⟨RX4, "text", "()I"⟩
abbrev cX4_hold : ByteArray := prog_1_method_30_code
def yX4_hold : MethodName := ⟨RX4, "hold", "(II)I"⟩
abbrev cX4_as : ByteArray := prog_1_method_31_code
def yX4_as : MethodName := ⟨RX4, "as", "(II)I"⟩
abbrev cX4_sheet : ByteArray := prog_1_method_32_code
def yX4_sheet : MethodName := ⟨RX4, "sheet", "(III)I"⟩
abbrev cX4_write : ByteArray := prog_1_method_33_code
def yX4_write : MethodName := ⟨RX4, "write", "(III)I"⟩
abbrev cX4_copy : ByteArray := prog_1_method_34_code
def yX4_copy : MethodName := ⟨RX4, "copy", "(IIIII)I"⟩
abbrev cX4_load : ByteArray := prog_1_method_35_code
def yX4_load : MethodName := ⟨RX4, "load", "(I)I"⟩
abbrev cX4_judge : ByteArray := prog_1_method_36_code
def yX4_judge : MethodName := ⟨RX4, "judge", "(I)I"⟩
abbrev cX4_image : ByteArray := prog_1_method_37_code
def yX4_image : MethodName := ⟨RX4, "image", "()I"⟩
abbrev cX4_undo : ByteArray := prog_1_method_38_code
def yX4_undo : MethodName := ⟨RX4, "undo", "()I"⟩
abbrev cX4_tear : ByteArray := prog_1_method_39_code
def yX4_tear : MethodName := ⟨RX4, "tear", "()I"⟩
abbrev cX4_count : ByteArray := prog_1_method_40_code
def yX4_count : MethodName := ⟨RX4, "count", "(I)I"⟩
abbrev cX4_status : ByteArray := prog_1_method_41_code
def yX4_status : MethodName := ⟨RX4, "status", "(I)I"⟩
abbrev cX4_found : ByteArray := prog_1_method_42_code
def yX4_found : MethodName := ⟨RX4, "found", "(I)I"⟩
abbrev cX4_dearestTrait : ByteArray := prog_1_method_43_code
def yX4_dearestTrait : MethodName := ⟨RX4, "dearestTrait", "(III)I"⟩
abbrev cX4_keepsRound : ByteArray := prog_1_method_44_code
def yX4_keepsRound : MethodName := ⟨RX4, "keepsRound", "(II)Z"⟩
abbrev cX4_trialRiftIsTold : ByteArray := prog_1_method_45_code
def yX4_trialRiftIsTold : MethodName := ⟨RX4, "trialRiftIsTold", "(III)Z"⟩
abbrev cX4_trialHeatIsTold : ByteArray := prog_1_method_46_code
def yX4_trialHeatIsTold : MethodName := ⟨RX4, "trialHeatIsTold", "(II)Z"⟩
abbrev cX4_within : ByteArray := prog_1_method_47_code
def yX4_within : MethodName := ⟨RX4, "within", "(III)Z"⟩
abbrev cX4_wouldFlop : ByteArray := prog_1_method_48_code
def yX4_wouldFlop : MethodName := ⟨RX4, "wouldFlop", "(II)Z"⟩
abbrev cX4_isOrIsUnder : ByteArray := prog_1_method_49_code
def yX4_isOrIsUnder : MethodName := ⟨RX4, "isOrIsUnder", "(II)Z"⟩
abbrev cX4_commonDivisor : ByteArray := prog_1_method_50_code
def yX4_commonDivisor : MethodName := ⟨RX4, "commonDivisor", "(II)I"⟩
abbrev cX4_power : ByteArray := prog_1_method_51_code
def yX4_power : MethodName := ⟨RX4, "power", "(II)J"⟩
def RX5 : String := "TwoWheelModel"
def TX5 : u_T := fun k => match k with
  | 0 => ("TwoWheelModel", "d", "[I", true)
  | 1 => ("TwoWheelModel", "e", "[I", true)
  | 2 => ("TwoWheelModel", "aside", "[I", true)
  | 3 => ("TwoWheelModel", "kept", "[I", true)
  | 4 => ("TwoWheelModel", "isKept", "Z", false)
  | 5 => ("TwoWheelModel", "found", "[I", true)
  | 6 => ("TwoWheelModel", "tape", "[B", true)
  | 7 => ("TwoWheelModel", "taped", "I", false)
  | 8 => ("TwoWheelModel", "at", "I", false)
  | 9 => ("TwoWheelModel", "sort", "I", false)
  | 10 => ("TwoWheelModel", "from", "I", false)
  | 11 => ("TwoWheelModel", "value", "J", false)
  | 12 => ("TwoWheelModel", "fault", "I", false)
  | 13 => ("TwoWheelModel", "bitsOf", "[I", true)
  | 14 => ("TwoWheelModel", "sizeOf", "[I", true)
  | 15 => ("TwoWheelModel", "number", "[I", true)
  | _ => ("TwoWheelModel", "passing", "[I", true)
def tyX5 : Nat → FieldType := fun k => match k with
  | 0 => .array .int
  | 1 => .array .int
  | 2 => .array .int
  | 3 => .array .int
  | 4 => .boolean
  | 5 => .array .int
  | 6 => .array .byte
  | 7 => .int
  | 8 => .int
  | 9 => .int
  | 10 => .int
  | 11 => .long
  | 12 => .int
  | 13 => .array .int
  | 14 => .array .int
  | 15 => .array .int
  | _ => .array .int
abbrev wsX50 : List Cond := u_ws RX5 TX5 17
theorem nmX5 : ∀ a, a < 17 → ∀ b, b < 17 → a ≠ b → (TX5 a).2.1 ≠ (TX5 b).2.1 := by decide +kernel
theorem tyX5_ok : ∀ k, k < 17 → parseFieldDescriptor (TX5 k).2.2.1 = some (tyX5 k) := by decide +kernel
abbrev cX5_init : ByteArray := prog_7_method_1_code
def yX5_init : MethodName := ⟨RX5, "<init>", "()V"⟩
abbrev cX5_finds : ByteArray := prog_7_method_3_code
def yX5_finds : MethodName := ⟨RX5, "finds", "(I)I"⟩
abbrev cX5_in : ByteArray := prog_7_method_4_code
def yX5_in : MethodName := ⟨RX5, "in", "(JJJ)Z"⟩
abbrev cX5_held : ByteArray := prog_7_method_5_code
def yX5_held : MethodName := ⟨RX5, "held", "(III)I"⟩
abbrev cX5_size : ByteArray := prog_7_method_6_code
def yX5_size : MethodName := ⟨RX5, "size", "(I)I"⟩
abbrev cX5_copies : ByteArray := prog_7_method_7_code
def yX5_copies : MethodName := ⟨RX5, "copies", "([I[I)V"⟩
abbrev cX5_isPotter : ByteArray := prog_7_method_8_code
def yX5_isPotter : MethodName := ⟨RX5, "isPotter", "(I)Z"⟩
abbrev cX5_areTwo : ByteArray := prog_7_method_9_code
def yX5_areTwo : MethodName := ⟨RX5, "areTwo", "(II)Z"⟩
abbrev cX5_its : ByteArray := prog_7_method_10_code
def yX5_its : MethodName := ⟨RX5, "its", "(II)I"⟩
abbrev cX5_sets : ByteArray := prog_7_method_11_code
def yX5_sets : MethodName := ⟨RX5, "sets", "(III)V"⟩
abbrev cX5_adds : ByteArray := prog_7_method_12_code
def yX5_adds : MethodName := ⟨RX5, "adds", "(III)V"⟩
abbrev cX5_becomes : ByteArray := prog_7_method_13_code
def yX5_becomes : MethodName := ⟨RX5, "becomes", "(II)I"⟩
abbrev cX5_ones : ByteArray := prog_7_method_14_code
def yX5_ones : MethodName := ⟨RX5, "ones", "(I)I"⟩
abbrev cX5_between : ByteArray := prog_7_method_15_code
def yX5_between : MethodName := ⟨RX5, "between", "(II)I"⟩
abbrev cX5_pushes : ByteArray := prog_7_method_16_code
def yX5_pushes : MethodName := ⟨RX5, "pushes", "(I)I"⟩
abbrev cX5_says : ByteArray := prog_7_method_17_code
def yX5_says : MethodName := ⟨RX5, "says", "(I)I"⟩
abbrev cX5_cools : ByteArray := prog_7_method_18_code
def yX5_cools : MethodName := ⟨RX5, "cools", "(I)I"⟩
abbrev cX5_boils : ByteArray := prog_7_method_19_code
def yX5_boils : MethodName := ⟨RX5, "boils", "(I)I"⟩
abbrev cX5_rises : ByteArray := prog_7_method_20_code
def yX5_rises : MethodName := ⟨RX5, "rises", "(II)I"⟩
abbrev cX5_leans : ByteArray := prog_7_method_21_code
def yX5_leans : MethodName := ⟨RX5, "leans", "(II)I"⟩
abbrev cX5_isFlop : ByteArray := prog_7_method_22_code
def yX5_isFlop : MethodName := ⟨RX5, "isFlop", "(II)Z"⟩
abbrev cX5_flops : ByteArray := prog_7_method_23_code
def yX5_flops : MethodName := ⟨RX5, "flops", "(I)V"⟩
abbrev cX5_throwsOne : ByteArray := prog_7_method_24_code
def yX5_throwsOne : MethodName := ⟨RX5, "throwsOne", "(I)V"⟩
abbrev cX5_pots : ByteArray := prog_7_method_25_code
def yX5_pots : MethodName := ⟨RX5, "pots", "(II)V"⟩
abbrev cX5_todays : ByteArray := prog_7_method_26_code
def yX5_todays : MethodName := ⟨RX5, "todays", "()I"⟩
abbrev cX5_dayGoes : ByteArray := prog_7_method_27_code
def yX5_dayGoes : MethodName := ⟨RX5, "dayGoes", "()V"⟩
abbrev cX5_daysGo : ByteArray := prog_7_method_28_code
def yX5_daysGo : MethodName := ⟨RX5, "daysGo", "(I)V"⟩
abbrev cX5_sumOf : ByteArray := prog_7_method_29_code
def yX5_sumOf : MethodName := ⟨RX5, "sumOf", "(I)I"⟩
abbrev cX5_clay : ByteArray := prog_7_method_30_code
def yX5_clay : MethodName := ⟨RX5, "clay", "(I)I"⟩
abbrev cX5_pair : ByteArray := prog_7_method_31_code
def yX5_pair : MethodName := ⟨RX5, "pair", "(III)I"⟩
abbrev cX5_listed : ByteArray := prog_7_method_32_code
def yX5_listed : MethodName := ⟨RX5, "listed", "(I)I"⟩
abbrev cX5_comes : ByteArray := prog_7_method_33_code
def yX5_comes : MethodName := ⟨RX5, "comes", "(II)I"⟩
abbrev cX5_potter : ByteArray := prog_7_method_34_code
def yX5_potter : MethodName := ⟨RX5, "potter", "(II)I"⟩
abbrev cX5_of : ByteArray := prog_7_method_35_code
def yX5_of : MethodName := ⟨RX5, "of", "(II)I"⟩
abbrev cX5_mostOf : ByteArray := prog_7_method_36_code
def yX5_mostOf : MethodName := ⟨RX5, "mostOf", "(I)I"⟩
abbrev cX5_change : ByteArray := prog_7_method_37_code
def yX5_change : MethodName := ⟨RX5, "change", "(III)I"⟩
abbrev cX5_rift : ByteArray := prog_7_method_38_code
def yX5_rift : MethodName := ⟨RX5, "rift", "(III)I"⟩
abbrev cX5_two : ByteArray := prog_7_method_39_code
def yX5_two : MethodName := ⟨RX5, "two", "(III)I"⟩
abbrev cX5_go : ByteArray := prog_7_method_40_code
def yX5_go : MethodName := ⟨RX5, "go", "(I)I"⟩
abbrev cX5_farthest : ByteArray := prog_7_method_41_code
def yX5_farthest : MethodName := ⟨RX5, "farthest", "()I"⟩
abbrev cX5_now : ByteArray := prog_7_method_42_code
def yX5_now : MethodName := ⟨RX5, "now", "(I)I"⟩
abbrev cX5_behind : ByteArray := prog_7_method_43_code
def yX5_behind : MethodName := ⟨RX5, "behind", "(II)I"⟩
abbrev cX5_ahead : ByteArray := prog_7_method_44_code
def yX5_ahead : MethodName := ⟨RX5, "ahead", "(III)I"⟩
abbrev cX5_terms : ByteArray := prog_7_method_45_code
def yX5_terms : MethodName := ⟨RX5, "terms", "(III)I"⟩
abbrev cX5_firstOf : ByteArray := prog_7_method_46_code
def yX5_firstOf : MethodName := ⟨RX5, "firstOf", "(III)I"⟩
abbrev cX5_next : ByteArray := prog_7_method_47_code
def yX5_next : MethodName := ⟨RX5, "next", "(I)I"⟩
abbrev cX5_peace : ByteArray := prog_7_method_48_code
def yX5_peace : MethodName := ⟨RX5, "peace", "(III)I"⟩
abbrev cX5_when : ByteArray := prog_7_method_49_code
def yX5_when : MethodName := ⟨RX5, "when", "(II)I"⟩
abbrev cX5_isShort : ByteArray := prog_7_method_50_code
def yX5_isShort : MethodName := ⟨RX5, "isShort", "(I)Z"⟩
abbrev cX5_setWith : ByteArray := prog_7_method_51_code
def yX5_setWith : MethodName := ⟨RX5, "setWith", "(III)I"⟩
abbrev cX5_bestOf : ByteArray := prog_7_method_52_code
def yX5_bestOf : MethodName := ⟨RX5, "bestOf", "(III)I"⟩
abbrev cX5_heatFor : ByteArray := prog_7_method_53_code
def yX5_heatFor : MethodName := ⟨RX5, "heatFor", "(II)I"⟩
abbrev cX5_kindFor : ByteArray := prog_7_method_54_code
def yX5_kindFor : MethodName := ⟨RX5, "kindFor", "(II)I"⟩
abbrev cX5_clayFor : ByteArray := prog_7_method_55_code
def yX5_clayFor : MethodName := ⟨RX5, "clayFor", "(II)I"⟩
abbrev cX5_reconciles : ByteArray := prog_7_method_56_code
def yX5_reconciles : MethodName := ⟨RX5, "reconciles", "(I)V"⟩
abbrev cX5_reconcile : ByteArray := prog_7_method_57_code
def yX5_reconcile : MethodName := ⟨RX5, "reconcile", "(I)I"⟩
abbrev cX5_fitting : ByteArray := prog_7_method_58_code
def yX5_fitting : MethodName := ⟨RX5, "fitting", "(IIIIZ)I"⟩
abbrev cX5_fits : ByteArray := prog_7_method_59_code
def yX5_fits : MethodName := ⟨RX5, "fits", "(III)I"⟩
abbrev cX5_kinds : ByteArray := prog_7_method_60_code
def yX5_kinds : MethodName := ⟨RX5, "kinds", "(II)I"⟩
abbrev cX5_draw : ByteArray := prog_7_method_61_code
def yX5_draw : MethodName := ⟨RX5, "draw", "()I"⟩
abbrev cX5_market : ByteArray := prog_7_method_62_code
def yX5_market : MethodName := ⟨RX5, "market", "(I)I"⟩
abbrev cX5_common : ByteArray := prog_7_method_63_code
def yX5_common : MethodName := ⟨RX5, "common", "(II)I"⟩
abbrev cX5_odds : ByteArray := prog_7_method_64_code
def yX5_odds : MethodName := ⟨RX5, "odds", "(IIII)J"⟩
abbrev cX5_seed : ByteArray := prog_7_method_65_code
def yX5_seed : MethodName := ⟨RX5, "seed", "(I)I"⟩
abbrev cX5_feed : ByteArray := prog_7_method_66_code
def yX5_feed : MethodName := ⟨RX5, "feed", "(II)I"⟩
abbrev cX5_wipe : ByteArray := prog_7_method_67_code
def yX5_wipe : MethodName := ⟨RX5, "wipe", "()I"⟩
abbrev cX5_letter : ByteArray := prog_7_method_68_code
def yX5_letter : MethodName := ⟨RX5, "letter", "(I)I"⟩
abbrev cX5_isDigit : ByteArray := prog_7_method_69_code
def yX5_isDigit : MethodName := ⟨RX5, "isDigit", "(I)Z"⟩
abbrev cX5_byteAt : ByteArray := prog_7_method_70_code
def yX5_byteAt : MethodName := ⟨RX5, "byteAt", "(I)I"⟩
abbrev cX5_next_ : ByteArray := prog_7_method_71_code
def yX5_next_ : MethodName := ⟨RX5, "next", "()V"⟩
abbrev cX5_wrongHere : ByteArray := prog_7_method_72_code
def yX5_wrongHere : MethodName := ⟨RX5, "wrongHere", "()V"⟩
abbrev cX5_isWord : ByteArray := prog_7_method_73_code
def yX5_isWord : MethodName := ⟨RX5, "isWord", "(J)Z"⟩
abbrev cX5_kindHere : ByteArray := prog_7_method_74_code
def yX5_kindHere : MethodName := ⟨RX5, "kindHere", "()I"⟩
abbrev cX5_numberHere : ByteArray := prog_7_method_75_code
def yX5_numberHere : MethodName := ⟨RX5, "numberHere", "(III)I"⟩
abbrev cX5_perhaps : ByteArray := prog_7_method_76_code
def yX5_perhaps : MethodName := ⟨RX5, "perhaps", "(JII)V"⟩
abbrev cX5_potterHere : ByteArray := prog_7_method_77_code
def yX5_potterHere : MethodName := ⟨RX5, "potterHere", "(I)V"⟩
abbrev cX5_riftHere : ByteArray := prog_7_method_78_code
def yX5_riftHere : MethodName := ⟨RX5, "riftHere", "()V"⟩
abbrev cX5_pairHere : ByteArray := prog_7_method_79_code
def yX5_pairHere : MethodName := ⟨RX5, "pairHere", "()V"⟩
abbrev cX5_item : ByteArray := prog_7_method_80_code
def yX5_item : MethodName := ⟨RX5, "item", "()V"⟩
abbrev cX5_items : ByteArray := prog_7_method_81_code
def yX5_items : MethodName := ⟨RX5, "items", "()I"⟩
abbrev cX5_text : ByteArray := prog_7_method_82_code
def yX5_text : MethodName := ⟨RX5, "text", "()I"⟩
abbrev cX5_hold : ByteArray := prog_7_method_83_code
def yX5_hold : MethodName := ⟨RX5, "hold", "(II)I"⟩
abbrev cX5_above : ByteArray := prog_7_method_84_code
def yX5_above : MethodName := ⟨RX5, "above", "(I)I"⟩
abbrev cX5_as : ByteArray := prog_7_method_85_code
def yX5_as : MethodName := ⟨RX5, "as", "(II)I"⟩
abbrev cX5_isSheet : ByteArray := prog_7_method_86_code
def yX5_isSheet : MethodName := ⟨RX5, "isSheet", "(I)Z"⟩
abbrev cX5_sheet : ByteArray := prog_7_method_87_code
def yX5_sheet : MethodName := ⟨RX5, "sheet", "(III)I"⟩
abbrev cX5_whyNone : ByteArray := prog_7_method_88_code
def yX5_whyNone : MethodName := ⟨RX5, "whyNone", "(I)I"⟩
abbrev cX5_write : ByteArray := prog_7_method_89_code
def yX5_write : MethodName := ⟨RX5, "write", "(III)I"⟩
abbrev cX5_copy : ByteArray := prog_7_method_90_code
def yX5_copy : MethodName := ⟨RX5, "copy", "(IIIII)I"⟩
abbrev cX5_load : ByteArray := prog_7_method_91_code
def yX5_load : MethodName := ⟨RX5, "load", "(I)I"⟩
abbrev cX5_judge : ByteArray := prog_7_method_92_code
def yX5_judge : MethodName := ⟨RX5, "judge", "(I)I"⟩
abbrev cX5_image : ByteArray := prog_7_method_93_code
def yX5_image : MethodName := ⟨RX5, "image", "()I"⟩
abbrev cX5_undo : ByteArray := prog_7_method_94_code
def yX5_undo : MethodName := ⟨RX5, "undo", "()I"⟩
abbrev cX5_tear : ByteArray := prog_7_method_95_code
def yX5_tear : MethodName := ⟨RX5, "tear", "()I"⟩
abbrev cX5_holding : ByteArray := prog_7_method_96_code
def yX5_holding : MethodName := ⟨RX5, "holding", "()I"⟩
abbrev cX5_count : ByteArray := prog_7_method_97_code
def yX5_count : MethodName := ⟨RX5, "count", "(I)I"⟩
abbrev cX5_status : ByteArray := prog_7_method_98_code
def yX5_status : MethodName := ⟨RX5, "status", "(I)I"⟩
def RJx145de : String := "java/io/Serializable"
def TJx145de : u_T := fun k => match k with
  | _ => ("", "", "", false)
def tyJx145de : Nat → FieldType := fun k => match k with
  | _ => .int
abbrev wsJx145de0 : List Cond := u_ws RJx145de TJx145de 0
theorem nmJx145de : ∀ a, a < 0 → ∀ b, b < 0 → a ≠ b → (TJx145de a).2.1 ≠ (TJx145de b).2.1 := by decide +kernel
theorem tyJx145de_ok : ∀ k, k < 0 → parseFieldDescriptor (TJx145de k).2.2.1 = some (tyJx145de k) := by decide +kernel
def RJx9f9b0 : String := "java/lang/CharSequence"
def TJx9f9b0 : u_T := fun k => match k with
  | _ => ("", "", "", false)
def tyJx9f9b0 : Nat → FieldType := fun k => match k with
  | _ => .int
abbrev wsJx9f9b00 : List Cond := u_ws RJx9f9b0 TJx9f9b0 0
theorem nmJx9f9b0 : ∀ a, a < 0 → ∀ b, b < 0 → a ≠ b → (TJx9f9b0 a).2.1 ≠ (TJx9f9b0 b).2.1 := by decide +kernel
theorem tyJx9f9b0_ok : ∀ k, k < 0 → parseFieldDescriptor (TJx9f9b0 k).2.2.1 = some (tyJx9f9b0 k) := by decide +kernel
def RJxb160c : String := "java/lang/Comparable"
def TJxb160c : u_T := fun k => match k with
  | _ => ("", "", "", false)
def tyJxb160c : Nat → FieldType := fun k => match k with
  | _ => .int
abbrev wsJxb160c0 : List Cond := u_ws RJxb160c TJxb160c 0
theorem nmJxb160c : ∀ a, a < 0 → ∀ b, b < 0 → a ≠ b → (TJxb160c a).2.1 ≠ (TJxb160c b).2.1 := by decide +kernel
theorem tyJxb160c_ok : ∀ k, k < 0 → parseFieldDescriptor (TJxb160c k).2.2.1 = some (tyJxb160c k) := by decide +kernel
def RJ6 : String := "java/lang/Integer"
def TJ6 : u_T := fun k => match k with
  | _ => ("", "", "", false)
def tyJ6 : Nat → FieldType := fun k => match k with
  | _ => .int
abbrev wsJ60 : List Cond := u_ws RJ6 TJ6 0
theorem nmJ6 : ∀ a, a < 0 → ∀ b, b < 0 → a ≠ b → (TJ6 a).2.1 ≠ (TJ6 b).2.1 := by decide +kernel
theorem tyJ6_ok : ∀ k, k < 0 → parseFieldDescriptor (TJ6 k).2.2.1 = some (tyJ6 k) := by decide +kernel
abbrev cJ6_bitCount_0f7a4 : ByteArray := prog_8_method_49_code
def yJ6_bitCount_0f7a4 : MethodName := ⟨RJ6, "bitCount", "(I)I"⟩
def RJ9 : String := "java/lang/Math"
def TJ9 : u_T := fun k => match k with
  | _ => ("", "", "", false)
def tyJ9 : Nat → FieldType := fun k => match k with
  | _ => .int
abbrev wsJ90 : List Cond := u_ws RJ9 TJ9 0
theorem nmJ9 : ∀ a, a < 0 → ∀ b, b < 0 → a ≠ b → (TJ9 a).2.1 ≠ (TJ9 b).2.1 := by decide +kernel
theorem tyJ9_ok : ∀ k, k < 0 → parseFieldDescriptor (TJ9 k).2.2.1 = some (tyJ9 k) := by decide +kernel
abbrev cJ9_abs_0f7a4 : ByteArray := prog_9_method_59_code
def yJ9_abs_0f7a4 : MethodName := ⟨RJ9, "abs", "(I)I"⟩
abbrev cJ9_max_7cf53 : ByteArray := prog_9_method_65_code
def yJ9_max_7cf53 : MethodName := ⟨RJ9, "max", "(II)I"⟩
abbrev cJ9_min_7cf53 : ByteArray := prog_9_method_69_code
def yJ9_min_7cf53 : MethodName := ⟨RJ9, "min", "(II)I"⟩
def RJ0 : String := "java/lang/String"
def TJ0 : u_T := fun k => match k with
  | _ => ("", "", "", false)
def tyJ0 : Nat → FieldType := fun k => match k with
  | _ => .int
abbrev wsJ00 : List Cond := u_ws RJ0 TJ0 0
theorem nmJ0 : ∀ a, a < 0 → ∀ b, b < 0 → a ≠ b → (TJ0 a).2.1 ≠ (TJ0 b).2.1 := by decide +kernel
theorem tyJ0_ok : ∀ k, k < 0 → parseFieldDescriptor (TJ0 k).2.2.1 = some (tyJ0 k) := by decide +kernel
abbrev cJ0_length_8abf5 : ByteArray := prog_10_method_54_code
def yJ0_length_8abf5 : MethodName := ⟨RJ0, "length", "()I"⟩
abbrev cJ0_charAt_5068e : ByteArray := prog_10_method_56_code
def yJ0_charAt_5068e : MethodName := ⟨RJ0, "charAt", "(I)C"⟩
abbrev cJ0_coder_7d493 : ByteArray := prog_10_method_152_code
def yJ0_coder_7d493 : MethodName := ⟨RJ0, "coder", "()B"⟩
abbrev cJ0_isLatin1_aae02 : ByteArray := prog_10_method_154_code
def yJ0_isLatin1_aae02 : MethodName := ⟨RJ0, "isLatin1", "()Z"⟩
abbrev cJ0_checkIndex_df160 : ByteArray := prog_10_method_155_code
def yJ0_checkIndex_df160 : MethodName := ⟨RJ0, "checkIndex", "(II)V"⟩
def RJ1 : String := "java/lang/StringLatin1"
def TJ1 : u_T := fun k => match k with
  | _ => ("", "", "", false)
def tyJ1 : Nat → FieldType := fun k => match k with
  | _ => .int
abbrev wsJ10 : List Cond := u_ws RJ1 TJ1 0
theorem nmJ1 : ∀ a, a < 0 → ∀ b, b < 0 → a ≠ b → (TJ1 a).2.1 ≠ (TJ1 b).2.1 := by decide +kernel
theorem tyJ1_ok : ∀ k, k < 0 → parseFieldDescriptor (TJ1 k).2.2.1 = some (tyJ1 k) := by decide +kernel
abbrev cJ1_charAt_3b067 : ByteArray := prog_11_method_2_code
def yJ1_charAt_3b067 : MethodName := ⟨RJ1, "charAt", "([BI)C"⟩
def RJ2 : String := "java/lang/StringUTF16"
def TJ2 : u_T := fun k => match k with
  | _ => ("", "", "", false)
def tyJ2 : Nat → FieldType := fun k => match k with
  | _ => .int
abbrev wsJ20 : List Cond := u_ws RJ2 TJ2 0
theorem nmJ2 : ∀ a, a < 0 → ∀ b, b < 0 → a ≠ b → (TJ2 a).2.1 ≠ (TJ2 b).2.1 := by decide +kernel
theorem tyJ2_ok : ∀ k, k < 0 → parseFieldDescriptor (TJ2 k).2.2.1 = some (tyJ2 k) := by decide +kernel
abbrev cJ2_getChar_3b067 : ByteArray := prog_12_method_5_code
def yJ2_getChar_3b067 : MethodName := ⟨RJ2, "getChar", "([BI)C"⟩
abbrev cJ2_length_9d52b : ByteArray := prog_12_method_6_code
def yJ2_length_9d52b : MethodName := ⟨RJ2, "length", "([B)I"⟩
abbrev cJ2_charAt_3b067 : ByteArray := prog_12_method_83_code
def yJ2_charAt_3b067 : MethodName := ⟨RJ2, "charAt", "([BI)C"⟩
abbrev cJ2_checkIndex_2214a : ByteArray := prog_12_method_91_code
def yJ2_checkIndex_2214a : MethodName := ⟨RJ2, "checkIndex", "(I[B)V"⟩
def RJ10 : String := "java/lang/System"
def TJ10 : u_T := fun k => match k with
  | _ => ("", "", "", false)
def tyJ10 : Nat → FieldType := fun k => match k with
  | _ => .int
abbrev wsJ100 : List Cond := u_ws RJ10 TJ10 0
theorem nmJ10 : ∀ a, a < 0 → ∀ b, b < 0 → a ≠ b → (TJ10 a).2.1 ≠ (TJ10 b).2.1 := by decide +kernel
theorem tyJ10_ok : ∀ k, k < 0 → parseFieldDescriptor (TJ10 k).2.2.1 = some (tyJ10 k) := by decide +kernel
def RJxfd54e : String := "java/lang/constant/Constable"
def TJxfd54e : u_T := fun k => match k with
  | _ => ("", "", "", false)
def tyJxfd54e : Nat → FieldType := fun k => match k with
  | _ => .int
abbrev wsJxfd54e0 : List Cond := u_ws RJxfd54e TJxfd54e 0
theorem nmJxfd54e : ∀ a, a < 0 → ∀ b, b < 0 → a ≠ b → (TJxfd54e a).2.1 ≠ (TJxfd54e b).2.1 := by decide +kernel
theorem tyJxfd54e_ok : ∀ k, k < 0 → parseFieldDescriptor (TJxfd54e k).2.2.1 = some (tyJxfd54e k) := by decide +kernel
def RJx3cf43 : String := "java/lang/constant/ConstantDesc"
def TJx3cf43 : u_T := fun k => match k with
  | _ => ("", "", "", false)
def tyJx3cf43 : Nat → FieldType := fun k => match k with
  | _ => .int
abbrev wsJx3cf430 : List Cond := u_ws RJx3cf43 TJx3cf43 0
theorem nmJx3cf43 : ∀ a, a < 0 → ∀ b, b < 0 → a ≠ b → (TJx3cf43 a).2.1 ≠ (TJx3cf43 b).2.1 := by decide +kernel
theorem tyJx3cf43_ok : ∀ k, k < 0 → parseFieldDescriptor (TJx3cf43 k).2.2.1 = some (tyJx3cf43 k) := by decide +kernel
def RJ7 : String := "java/util/Arrays"
def TJ7 : u_T := fun k => match k with
  | _ => ("", "", "", false)
def tyJ7 : Nat → FieldType := fun k => match k with
  | _ => .int
abbrev wsJ70 : List Cond := u_ws RJ7 TJ7 0
theorem nmJ7 : ∀ a, a < 0 → ∀ b, b < 0 → a ≠ b → (TJ7 a).2.1 ≠ (TJ7 b).2.1 := by decide +kernel
theorem tyJ7_ok : ∀ k, k < 0 → parseFieldDescriptor (TJ7 k).2.2.1 = some (tyJ7 k) := by decide +kernel
abbrev cJ7_fill_53178 : ByteArray := prog_14_method_103_code
def yJ7_fill_53178 : MethodName := ⟨RJ7, "fill", "([II)V"⟩
def RJ3 : String := "jdk/internal/util/Preconditions"
def TJ3 : u_T := fun k => match k with
  | _ => ("", "", "", false)
def tyJ3 : Nat → FieldType := fun k => match k with
  | _ => .int
abbrev wsJ30 : List Cond := u_ws RJ3 TJ3 0
theorem nmJ3 : ∀ a, a < 0 → ∀ b, b < 0 → a ≠ b → (TJ3 a).2.1 ≠ (TJ3 b).2.1 := by decide +kernel
theorem tyJ3_ok : ∀ k, k < 0 → parseFieldDescriptor (TJ3 k).2.2.1 = some (tyJ3 k) := by decide +kernel
abbrev cJ3_checkIndex_8e157 : ByteArray := prog_15_method_11_code
def yJ3_checkIndex_8e157 : MethodName := ⟨RJ3, "checkIndex", "(IILjava/util/function/BiFunction;)I"⟩
def RL : String := "TwoWheelLaw"
abbrev cL_law : ByteArray := code
def yL_law : MethodName := ⟨RL, "law", "([I)Z"⟩
end
section
theorem dX0_init_0 : decode cX0_init 0 = .ok (.aload_n 0, 1) := by decide +kernel
theorem dX0_init_1 : decode cX0_init 1 = .ok (.invokespecial 3, 3) := by decide +kernel
theorem dX0_init_4 : decode cX0_init 4 = .ok (.aload_n 0, 1) := by decide +kernel
theorem dX0_init_5 : decode cX0_init 5 = .ok (.bipush 10, 2) := by decide +kernel
theorem dX0_init_7 : decode cX0_init 7 = .ok (.putfield 9, 3) := by decide +kernel
theorem dX0_init_10 : decode cX0_init 10 = .ok (.aload_n 0, 1) := by decide +kernel
theorem dX0_init_11 : decode cX0_init 11 = .ok (.iconst 1, 1) := by decide +kernel
theorem dX0_init_12 : decode cX0_init 12 = .ok (.putfield 15, 3) := by decide +kernel
theorem dX0_init_15 : decode cX0_init 15 = .ok (.aload_n 0, 1) := by decide +kernel
theorem dX0_init_16 : decode cX0_init 16 = .ok (.bipush 6, 2) := by decide +kernel
theorem dX0_init_18 : decode cX0_init 18 = .ok (.newarray .int, 2) := by decide +kernel
theorem dX0_init_20 : decode cX0_init 20 = .ok (.putfield 18, 3) := by decide +kernel
theorem dX0_init_23 : decode cX0_init 23 = .ok (.aload_n 0, 1) := by decide +kernel
theorem dX0_init_24 : decode cX0_init 24 = .ok (.bipush 48, 2) := by decide +kernel
theorem dX0_init_26 : decode cX0_init 26 = .ok (.newarray .int, 2) := by decide +kernel
theorem dX0_init_28 : decode cX0_init 28 = .ok (.putfield 22, 3) := by decide +kernel
theorem dX0_init_31 : decode cX0_init 31 = .ok (.aload_n 0, 1) := by decide +kernel
theorem dX0_init_32 : decode cX0_init 32 = .ok (.bipush 64, 2) := by decide +kernel
theorem dX0_init_34 : decode cX0_init 34 = .ok (.newarray .int, 2) := by decide +kernel
theorem dX0_init_36 : decode cX0_init 36 = .ok (.putfield 25, 3) := by decide +kernel
theorem dX0_init_39 : decode cX0_init 39 = .ok (.aload_n 0, 1) := by decide +kernel
theorem dX0_init_40 : decode cX0_init 40 = .ok (.bipush 10, 2) := by decide +kernel
theorem dX0_init_42 : decode cX0_init 42 = .ok (.newarray .int, 2) := by decide +kernel
theorem dX0_init_44 : decode cX0_init 44 = .ok (.putfield 28, 3) := by decide +kernel
theorem dX0_init_47 : decode cX0_init 47 = .ok (.aload_n 0, 1) := by decide +kernel
theorem dX0_init_48 : decode cX0_init 48 = .ok (.getfield 18, 3) := by decide +kernel
theorem dX0_init_51 : decode cX0_init 51 = .ok (.iconst 1, 1) := by decide +kernel
theorem dX0_init_52 : decode cX0_init 52 = .ok (.invokestatic 31, 3) := by decide +kernel
theorem dX0_init_55 : decode cX0_init 55 = .ok (.aload_n 0, 1) := by decide +kernel
theorem dX0_init_56 : decode cX0_init 56 = .ok (.getfield 25, 3) := by decide +kernel
theorem dX0_init_59 : decode cX0_init 59 = .ok (.bipush 20, 2) := by decide +kernel
theorem dX0_init_61 : decode cX0_init 61 = .ok (.invokestatic 31, 3) := by decide +kernel
theorem dX0_init_64 : decode cX0_init 64 = .ok (.aload_n 0, 1) := by decide +kernel
theorem dX0_init_65 : decode cX0_init 65 = .ok (.getfield 28, 3) := by decide +kernel
theorem dX0_init_68 : decode cX0_init 68 = .ok (.iconst (-1), 1) := by decide +kernel
theorem dX0_init_69 : decode cX0_init 69 = .ok (.invokestatic 31, 3) := by decide +kernel
theorem dX0_init_72 : decode cX0_init 72 = .ok (.return_, 1) := by decide +kernel
theorem dX0_become_0 : decode cX0_become 0 = .ok (.aload_n 0, 1) := by decide +kernel
theorem dX0_become_1 : decode cX0_become 1 = .ok (.aload_n 1, 1) := by decide +kernel
theorem dX0_become_2 : decode cX0_become 2 = .ok (.getfield 9, 3) := by decide +kernel
theorem dX0_become_5 : decode cX0_become 5 = .ok (.putfield 9, 3) := by decide +kernel
theorem dX0_become_8 : decode cX0_become 8 = .ok (.aload_n 0, 1) := by decide +kernel
theorem dX0_become_9 : decode cX0_become 9 = .ok (.aload_n 1, 1) := by decide +kernel
theorem dX0_become_10 : decode cX0_become 10 = .ok (.getfield 37, 3) := by decide +kernel
theorem dX0_become_13 : decode cX0_become 13 = .ok (.putfield 37, 3) := by decide +kernel
theorem dX0_become_16 : decode cX0_become 16 = .ok (.aload_n 0, 1) := by decide +kernel
theorem dX0_become_17 : decode cX0_become 17 = .ok (.aload_n 1, 1) := by decide +kernel
theorem dX0_become_18 : decode cX0_become 18 = .ok (.getfield 40, 3) := by decide +kernel
theorem dX0_become_21 : decode cX0_become 21 = .ok (.putfield 40, 3) := by decide +kernel
theorem dX0_become_24 : decode cX0_become 24 = .ok (.aload_n 0, 1) := by decide +kernel
theorem dX0_become_25 : decode cX0_become 25 = .ok (.aload_n 1, 1) := by decide +kernel
theorem dX0_become_26 : decode cX0_become 26 = .ok (.getfield 43, 3) := by decide +kernel
theorem dX0_become_29 : decode cX0_become 29 = .ok (.putfield 43, 3) := by decide +kernel
theorem dX0_become_32 : decode cX0_become 32 = .ok (.aload_n 0, 1) := by decide +kernel
theorem dX0_become_33 : decode cX0_become 33 = .ok (.aload_n 1, 1) := by decide +kernel
theorem dX0_become_34 : decode cX0_become 34 = .ok (.getfield 46, 3) := by decide +kernel
theorem dX0_become_37 : decode cX0_become 37 = .ok (.putfield 46, 3) := by decide +kernel
theorem dX0_become_40 : decode cX0_become 40 = .ok (.aload_n 0, 1) := by decide +kernel
theorem dX0_become_41 : decode cX0_become 41 = .ok (.aload_n 1, 1) := by decide +kernel
theorem dX0_become_42 : decode cX0_become 42 = .ok (.getfield 15, 3) := by decide +kernel
theorem dX0_become_45 : decode cX0_become 45 = .ok (.putfield 15, 3) := by decide +kernel
theorem dX0_become_48 : decode cX0_become 48 = .ok (.aload_n 0, 1) := by decide +kernel
theorem dX0_become_49 : decode cX0_become 49 = .ok (.aload_n 1, 1) := by decide +kernel
theorem dX0_become_50 : decode cX0_become 50 = .ok (.getfield 49, 3) := by decide +kernel
theorem dX0_become_53 : decode cX0_become 53 = .ok (.putfield 49, 3) := by decide +kernel
theorem dX0_become_56 : decode cX0_become 56 = .ok (.aload_n 1, 1) := by decide +kernel
theorem dX0_become_57 : decode cX0_become 57 = .ok (.getfield 18, 3) := by decide +kernel
theorem dX0_become_60 : decode cX0_become 60 = .ok (.iconst 0, 1) := by decide +kernel
theorem dX0_become_61 : decode cX0_become 61 = .ok (.aload_n 0, 1) := by decide +kernel
theorem dX0_become_62 : decode cX0_become 62 = .ok (.getfield 18, 3) := by decide +kernel
theorem dX0_become_65 : decode cX0_become 65 = .ok (.iconst 0, 1) := by decide +kernel
theorem dX0_become_66 : decode cX0_become 66 = .ok (.bipush 6, 2) := by decide +kernel
theorem dX0_become_68 : decode cX0_become 68 = .ok (.invokestatic 52, 3) := by decide +kernel
theorem dX0_become_71 : decode cX0_become 71 = .ok (.aload_n 1, 1) := by decide +kernel
theorem dX0_become_72 : decode cX0_become 72 = .ok (.getfield 22, 3) := by decide +kernel
theorem dX0_become_75 : decode cX0_become 75 = .ok (.iconst 0, 1) := by decide +kernel
theorem dX0_become_76 : decode cX0_become 76 = .ok (.aload_n 0, 1) := by decide +kernel
theorem dX0_become_77 : decode cX0_become 77 = .ok (.getfield 22, 3) := by decide +kernel
theorem dX0_become_80 : decode cX0_become 80 = .ok (.iconst 0, 1) := by decide +kernel
theorem dX0_become_81 : decode cX0_become 81 = .ok (.bipush 48, 2) := by decide +kernel
theorem dX0_become_83 : decode cX0_become 83 = .ok (.invokestatic 52, 3) := by decide +kernel
theorem dX0_become_86 : decode cX0_become 86 = .ok (.aload_n 1, 1) := by decide +kernel
theorem dX0_become_87 : decode cX0_become 87 = .ok (.getfield 25, 3) := by decide +kernel
theorem dX0_become_90 : decode cX0_become 90 = .ok (.iconst 0, 1) := by decide +kernel
theorem dX0_become_91 : decode cX0_become 91 = .ok (.aload_n 0, 1) := by decide +kernel
theorem dX0_become_92 : decode cX0_become 92 = .ok (.getfield 25, 3) := by decide +kernel
theorem dX0_become_95 : decode cX0_become 95 = .ok (.iconst 0, 1) := by decide +kernel
theorem dX0_become_96 : decode cX0_become 96 = .ok (.bipush 64, 2) := by decide +kernel
theorem dX0_become_98 : decode cX0_become 98 = .ok (.invokestatic 52, 3) := by decide +kernel
theorem dX0_become_101 : decode cX0_become 101 = .ok (.aload_n 1, 1) := by decide +kernel
theorem dX0_become_102 : decode cX0_become 102 = .ok (.getfield 28, 3) := by decide +kernel
theorem dX0_become_105 : decode cX0_become 105 = .ok (.iconst 0, 1) := by decide +kernel
theorem dX0_become_106 : decode cX0_become 106 = .ok (.aload_n 0, 1) := by decide +kernel
theorem dX0_become_107 : decode cX0_become 107 = .ok (.getfield 28, 3) := by decide +kernel
theorem dX0_become_110 : decode cX0_become 110 = .ok (.iconst 0, 1) := by decide +kernel
theorem dX0_become_111 : decode cX0_become 111 = .ok (.bipush 10, 2) := by decide +kernel
theorem dX0_become_113 : decode cX0_become 113 = .ok (.invokestatic 52, 3) := by decide +kernel
theorem dX0_become_116 : decode cX0_become 116 = .ok (.return_, 1) := by decide +kernel
theorem dX0_isFull_0 : decode cX0_isFull 0 = .ok (.aload_n 0, 1) := by decide +kernel
theorem dX0_isFull_1 : decode cX0_isFull 1 = .ok (.getfield 49, 3) := by decide +kernel
theorem dX0_isFull_4 : decode cX0_isFull 4 = .ok (.bipush 8, 2) := by decide +kernel
theorem dX0_isFull_6 : decode cX0_isFull 6 = .ok (.if_icmp .lt 7, 3) := by decide +kernel
theorem dX0_isFull_9 : decode cX0_isFull 9 = .ok (.iconst 1, 1) := by decide +kernel
theorem dX0_isFull_10 : decode cX0_isFull 10 = .ok (.goto 4, 3) := by decide +kernel
theorem dX0_isFull_13 : decode cX0_isFull 13 = .ok (.iconst 0, 1) := by decide +kernel
theorem dX0_isFull_14 : decode cX0_isFull 14 = .ok (.ireturn, 1) := by decide +kernel
theorem dX0_has_0 : decode cX0_has 0 = .ok (.iload_n 1, 1) := by decide +kernel
theorem dX0_has_1 : decode cX0_has 1 = .ok (.ifCond .lt 15, 3) := by decide +kernel
theorem dX0_has_4 : decode cX0_has 4 = .ok (.iload_n 1, 1) := by decide +kernel
theorem dX0_has_5 : decode cX0_has 5 = .ok (.aload_n 0, 1) := by decide +kernel
theorem dX0_has_6 : decode cX0_has 6 = .ok (.getfield 49, 3) := by decide +kernel
theorem dX0_has_9 : decode cX0_has 9 = .ok (.if_icmp .ge 7, 3) := by decide +kernel
theorem dX0_has_12 : decode cX0_has 12 = .ok (.iconst 1, 1) := by decide +kernel
theorem dX0_has_13 : decode cX0_has 13 = .ok (.goto 4, 3) := by decide +kernel
theorem dX0_has_16 : decode cX0_has 16 = .ok (.iconst 0, 1) := by decide +kernel
theorem dX0_has_17 : decode cX0_has 17 = .ok (.ireturn, 1) := by decide +kernel
theorem dX0_hasTwo_0 : decode cX0_hasTwo 0 = .ok (.aload_n 0, 1) := by decide +kernel
theorem dX0_hasTwo_1 : decode cX0_hasTwo 1 = .ok (.iload_n 1, 1) := by decide +kernel
theorem dX0_hasTwo_2 : decode cX0_hasTwo 2 = .ok (.invokevirtual 58, 3) := by decide +kernel
theorem dX0_hasTwo_5 : decode cX0_hasTwo 5 = .ok (.ifCond .eq 20, 3) := by decide +kernel
theorem dX0_hasTwo_8 : decode cX0_hasTwo 8 = .ok (.aload_n 0, 1) := by decide +kernel
theorem dX0_hasTwo_9 : decode cX0_hasTwo 9 = .ok (.iload_n 2, 1) := by decide +kernel
theorem dX0_hasTwo_10 : decode cX0_hasTwo 10 = .ok (.invokevirtual 58, 3) := by decide +kernel
theorem dX0_hasTwo_13 : decode cX0_hasTwo 13 = .ok (.ifCond .eq 12, 3) := by decide +kernel
theorem dX0_hasTwo_16 : decode cX0_hasTwo 16 = .ok (.iload_n 1, 1) := by decide +kernel
theorem dX0_hasTwo_17 : decode cX0_hasTwo 17 = .ok (.iload_n 2, 1) := by decide +kernel
theorem dX0_hasTwo_18 : decode cX0_hasTwo 18 = .ok (.if_icmp .eq 7, 3) := by decide +kernel
theorem dX0_hasTwo_21 : decode cX0_hasTwo 21 = .ok (.iconst 1, 1) := by decide +kernel
theorem dX0_hasTwo_22 : decode cX0_hasTwo 22 = .ok (.goto 4, 3) := by decide +kernel
theorem dX0_hasTwo_25 : decode cX0_hasTwo 25 = .ok (.iconst 0, 1) := by decide +kernel
theorem dX0_hasTwo_26 : decode cX0_hasTwo 26 = .ok (.ireturn, 1) := by decide +kernel
theorem dX0_addPotter_0 : decode cX0_addPotter 0 = .ok (.aload_n 0, 1) := by decide +kernel
theorem dX0_addPotter_1 : decode cX0_addPotter 1 = .ok (.getfield 49, 3) := by decide +kernel
theorem dX0_addPotter_4 : decode cX0_addPotter 4 = .ok (.istore 5, 2) := by decide +kernel
theorem dX0_addPotter_6 : decode cX0_addPotter 6 = .ok (.aload_n 0, 1) := by decide +kernel
theorem dX0_addPotter_7 : decode cX0_addPotter 7 = .ok (.getfield 22, 3) := by decide +kernel
theorem dX0_addPotter_10 : decode cX0_addPotter 10 = .ok (.iconst 0, 1) := by decide +kernel
theorem dX0_addPotter_11 : decode cX0_addPotter 11 = .ok (.iload 5, 2) := by decide +kernel
theorem dX0_addPotter_13 : decode cX0_addPotter 13 = .ok (.iadd, 1) := by decide +kernel
theorem dX0_addPotter_14 : decode cX0_addPotter 14 = .ok (.iload_n 1, 1) := by decide +kernel
theorem dX0_addPotter_15 : decode cX0_addPotter 15 = .ok (.iastore, 1) := by decide +kernel
theorem dX0_addPotter_16 : decode cX0_addPotter 16 = .ok (.aload_n 0, 1) := by decide +kernel
theorem dX0_addPotter_17 : decode cX0_addPotter 17 = .ok (.getfield 22, 3) := by decide +kernel
theorem dX0_addPotter_20 : decode cX0_addPotter 20 = .ok (.bipush 8, 2) := by decide +kernel
theorem dX0_addPotter_22 : decode cX0_addPotter 22 = .ok (.iload 5, 2) := by decide +kernel
theorem dX0_addPotter_24 : decode cX0_addPotter 24 = .ok (.iadd, 1) := by decide +kernel
theorem dX0_addPotter_25 : decode cX0_addPotter 25 = .ok (.iload_n 2, 1) := by decide +kernel
theorem dX0_addPotter_26 : decode cX0_addPotter 26 = .ok (.iastore, 1) := by decide +kernel
theorem dX0_addPotter_27 : decode cX0_addPotter 27 = .ok (.aload_n 0, 1) := by decide +kernel
theorem dX0_addPotter_28 : decode cX0_addPotter 28 = .ok (.getfield 22, 3) := by decide +kernel
theorem dX0_addPotter_31 : decode cX0_addPotter 31 = .ok (.bipush 16, 2) := by decide +kernel
theorem dX0_addPotter_33 : decode cX0_addPotter 33 = .ok (.iload 5, 2) := by decide +kernel
theorem dX0_addPotter_35 : decode cX0_addPotter 35 = .ok (.iadd, 1) := by decide +kernel
theorem dX0_addPotter_36 : decode cX0_addPotter 36 = .ok (.iload_n 3, 1) := by decide +kernel
theorem dX0_addPotter_37 : decode cX0_addPotter 37 = .ok (.iastore, 1) := by decide +kernel
theorem dX0_addPotter_38 : decode cX0_addPotter 38 = .ok (.aload_n 0, 1) := by decide +kernel
theorem dX0_addPotter_39 : decode cX0_addPotter 39 = .ok (.getfield 22, 3) := by decide +kernel
theorem dX0_addPotter_42 : decode cX0_addPotter 42 = .ok (.bipush 24, 2) := by decide +kernel
theorem dX0_addPotter_44 : decode cX0_addPotter 44 = .ok (.iload 5, 2) := by decide +kernel
theorem dX0_addPotter_46 : decode cX0_addPotter 46 = .ok (.iadd, 1) := by decide +kernel
theorem dX0_addPotter_47 : decode cX0_addPotter 47 = .ok (.iload 4, 2) := by decide +kernel
theorem dX0_addPotter_49 : decode cX0_addPotter 49 = .ok (.iastore, 1) := by decide +kernel
theorem dX0_addPotter_50 : decode cX0_addPotter 50 = .ok (.aload_n 0, 1) := by decide +kernel
theorem dX0_addPotter_51 : decode cX0_addPotter 51 = .ok (.getfield 22, 3) := by decide +kernel
theorem dX0_addPotter_54 : decode cX0_addPotter 54 = .ok (.bipush 32, 2) := by decide +kernel
theorem dX0_addPotter_56 : decode cX0_addPotter 56 = .ok (.iload 5, 2) := by decide +kernel
theorem dX0_addPotter_58 : decode cX0_addPotter 58 = .ok (.iadd, 1) := by decide +kernel
theorem dX0_addPotter_59 : decode cX0_addPotter 59 = .ok (.iconst 0, 1) := by decide +kernel
theorem dX0_addPotter_60 : decode cX0_addPotter 60 = .ok (.iastore, 1) := by decide +kernel
theorem dX0_addPotter_61 : decode cX0_addPotter 61 = .ok (.aload_n 0, 1) := by decide +kernel
theorem dX0_addPotter_62 : decode cX0_addPotter 62 = .ok (.getfield 22, 3) := by decide +kernel
theorem dX0_addPotter_65 : decode cX0_addPotter 65 = .ok (.bipush 40, 2) := by decide +kernel
theorem dX0_addPotter_67 : decode cX0_addPotter 67 = .ok (.iload 5, 2) := by decide +kernel
theorem dX0_addPotter_69 : decode cX0_addPotter 69 = .ok (.iadd, 1) := by decide +kernel
theorem dX0_addPotter_70 : decode cX0_addPotter 70 = .ok (.iconst 0, 1) := by decide +kernel
theorem dX0_addPotter_71 : decode cX0_addPotter 71 = .ok (.iastore, 1) := by decide +kernel
theorem dX0_addPotter_72 : decode cX0_addPotter 72 = .ok (.aload_n 0, 1) := by decide +kernel
theorem dX0_addPotter_73 : decode cX0_addPotter 73 = .ok (.dup, 1) := by decide +kernel
theorem dX0_addPotter_74 : decode cX0_addPotter 74 = .ok (.getfield 49, 3) := by decide +kernel
theorem dX0_addPotter_77 : decode cX0_addPotter 77 = .ok (.iconst 1, 1) := by decide +kernel
theorem dX0_addPotter_78 : decode cX0_addPotter 78 = .ok (.iadd, 1) := by decide +kernel
theorem dX0_addPotter_79 : decode cX0_addPotter 79 = .ok (.putfield 49, 3) := by decide +kernel
theorem dX0_addPotter_82 : decode cX0_addPotter 82 = .ok (.iload 5, 2) := by decide +kernel
theorem dX0_addPotter_84 : decode cX0_addPotter 84 = .ok (.ireturn, 1) := by decide +kernel
theorem dX0_tell_0 : decode cX0_tell 0 = .ok (.iload_n 2, 1) := by decide +kernel
theorem dX0_tell_1 : decode cX0_tell 1 = .ok (.iconst 5, 1) := by decide +kernel
theorem dX0_tell_2 : decode cX0_tell 2 = .ok (.if_icmp .gt 15, 3) := by decide +kernel
theorem dX0_tell_5 : decode cX0_tell 5 = .ok (.aload_n 0, 1) := by decide +kernel
theorem dX0_tell_6 : decode cX0_tell 6 = .ok (.getfield 22, 3) := by decide +kernel
theorem dX0_tell_9 : decode cX0_tell 9 = .ok (.bipush 8, 2) := by decide +kernel
theorem dX0_tell_11 : decode cX0_tell 11 = .ok (.iload_n 2, 1) := by decide +kernel
theorem dX0_tell_12 : decode cX0_tell 12 = .ok (.imul, 1) := by decide +kernel
theorem dX0_tell_13 : decode cX0_tell 13 = .ok (.iload_n 1, 1) := by decide +kernel
theorem dX0_tell_14 : decode cX0_tell 14 = .ok (.iadd, 1) := by decide +kernel
theorem dX0_tell_15 : decode cX0_tell 15 = .ok (.iaload, 1) := by decide +kernel
theorem dX0_tell_16 : decode cX0_tell 16 = .ok (.ireturn, 1) := by decide +kernel
theorem dX0_tell_17 : decode cX0_tell 17 = .ok (.iload_n 2, 1) := by decide +kernel
theorem dX0_tell_18 : decode cX0_tell 18 = .ok (.tableswitch 51 6 8 #[26, 32, 38], 26) := by decide +kernel
theorem dX0_tell_44 : decode cX0_tell 44 = .ok (.aload_n 0, 1) := by decide +kernel
theorem dX0_tell_45 : decode cX0_tell 45 = .ok (.iload_n 1, 1) := by decide +kernel
theorem dX0_tell_46 : decode cX0_tell 46 = .ok (.invokevirtual 62, 3) := by decide +kernel
theorem dX0_tell_49 : decode cX0_tell 49 = .ok (.ireturn, 1) := by decide +kernel
theorem dX0_tell_50 : decode cX0_tell 50 = .ok (.aload_n 0, 1) := by decide +kernel
theorem dX0_tell_51 : decode cX0_tell 51 = .ok (.iload_n 1, 1) := by decide +kernel
theorem dX0_tell_52 : decode cX0_tell 52 = .ok (.invokevirtual 66, 3) := by decide +kernel
theorem dX0_tell_55 : decode cX0_tell 55 = .ok (.ireturn, 1) := by decide +kernel
theorem dX0_tell_56 : decode cX0_tell 56 = .ok (.getstatic 69, 3) := by decide +kernel
theorem dX0_tell_59 : decode cX0_tell 59 = .ok (.aload_n 0, 1) := by decide +kernel
theorem dX0_tell_60 : decode cX0_tell 60 = .ok (.getfield 22, 3) := by decide +kernel
theorem dX0_tell_63 : decode cX0_tell 63 = .ok (.iconst 0, 1) := by decide +kernel
theorem dX0_tell_64 : decode cX0_tell 64 = .ok (.iload_n 1, 1) := by decide +kernel
theorem dX0_tell_65 : decode cX0_tell 65 = .ok (.iadd, 1) := by decide +kernel
theorem dX0_tell_66 : decode cX0_tell 66 = .ok (.iaload, 1) := by decide +kernel
theorem dX0_tell_67 : decode cX0_tell 67 = .ok (.iaload, 1) := by decide +kernel
theorem dX0_tell_68 : decode cX0_tell 68 = .ok (.ireturn, 1) := by decide +kernel
theorem dX0_tell_69 : decode cX0_tell 69 = .ok (.getstatic 72, 3) := by decide +kernel
theorem dX0_tell_72 : decode cX0_tell 72 = .ok (.aload_n 0, 1) := by decide +kernel
theorem dX0_tell_73 : decode cX0_tell 73 = .ok (.getfield 22, 3) := by decide +kernel
theorem dX0_tell_76 : decode cX0_tell 76 = .ok (.iconst 0, 1) := by decide +kernel
theorem dX0_tell_77 : decode cX0_tell 77 = .ok (.iload_n 1, 1) := by decide +kernel
theorem dX0_tell_78 : decode cX0_tell 78 = .ok (.iadd, 1) := by decide +kernel
theorem dX0_tell_79 : decode cX0_tell 79 = .ok (.iaload, 1) := by decide +kernel
theorem dX0_tell_80 : decode cX0_tell 80 = .ok (.iaload, 1) := by decide +kernel
theorem dX0_tell_81 : decode cX0_tell 81 = .ok (.ireturn, 1) := by decide +kernel
theorem dX0_pushes_0 : decode cX0_pushes 0 = .ok (.aload_n 0, 1) := by decide +kernel
theorem dX0_pushes_1 : decode cX0_pushes 1 = .ok (.getfield 22, 3) := by decide +kernel
theorem dX0_pushes_4 : decode cX0_pushes 4 = .ok (.bipush 8, 2) := by decide +kernel
theorem dX0_pushes_6 : decode cX0_pushes 6 = .ok (.iload_n 1, 1) := by decide +kernel
theorem dX0_pushes_7 : decode cX0_pushes 7 = .ok (.iadd, 1) := by decide +kernel
theorem dX0_pushes_8 : decode cX0_pushes 8 = .ok (.iaload, 1) := by decide +kernel
theorem dX0_pushes_9 : decode cX0_pushes 9 = .ok (.bipush 10, 2) := by decide +kernel
theorem dX0_pushes_11 : decode cX0_pushes 11 = .ok (.idiv, 1) := by decide +kernel
theorem dX0_pushes_12 : decode cX0_pushes 12 = .ok (.istore_n 2, 1) := by decide +kernel
theorem dX0_pushes_13 : decode cX0_pushes 13 = .ok (.iload_n 2, 1) := by decide +kernel
theorem dX0_pushes_14 : decode cX0_pushes 14 = .ok (.aload_n 0, 1) := by decide +kernel
theorem dX0_pushes_15 : decode cX0_pushes 15 = .ok (.getfield 22, 3) := by decide +kernel
theorem dX0_pushes_18 : decode cX0_pushes 18 = .ok (.bipush 24, 2) := by decide +kernel
theorem dX0_pushes_20 : decode cX0_pushes 20 = .ok (.iload_n 1, 1) := by decide +kernel
theorem dX0_pushes_21 : decode cX0_pushes 21 = .ok (.iadd, 1) := by decide +kernel
theorem dX0_pushes_22 : decode cX0_pushes 22 = .ok (.iaload, 1) := by decide +kernel
theorem dX0_pushes_23 : decode cX0_pushes 23 = .ok (.bipush 10, 2) := by decide +kernel
theorem dX0_pushes_25 : decode cX0_pushes 25 = .ok (.idiv, 1) := by decide +kernel
theorem dX0_pushes_26 : decode cX0_pushes 26 = .ok (.iadd, 1) := by decide +kernel
theorem dX0_pushes_27 : decode cX0_pushes 27 = .ok (.istore_n 3, 1) := by decide +kernel
theorem dX0_pushes_28 : decode cX0_pushes 28 = .ok (.aload_n 0, 1) := by decide +kernel
theorem dX0_pushes_29 : decode cX0_pushes 29 = .ok (.getfield 22, 3) := by decide +kernel
theorem dX0_pushes_32 : decode cX0_pushes 32 = .ok (.bipush 16, 2) := by decide +kernel
theorem dX0_pushes_34 : decode cX0_pushes 34 = .ok (.iload_n 1, 1) := by decide +kernel
theorem dX0_pushes_35 : decode cX0_pushes 35 = .ok (.iadd, 1) := by decide +kernel
theorem dX0_pushes_36 : decode cX0_pushes 36 = .ok (.iaload, 1) := by decide +kernel
theorem dX0_pushes_37 : decode cX0_pushes 37 = .ok (.istore 4, 2) := by decide +kernel
theorem dX0_pushes_39 : decode cX0_pushes 39 = .ok (.aload_n 0, 1) := by decide +kernel
theorem dX0_pushes_40 : decode cX0_pushes 40 = .ok (.getfield 22, 3) := by decide +kernel
theorem dX0_pushes_43 : decode cX0_pushes 43 = .ok (.iconst 0, 1) := by decide +kernel
theorem dX0_pushes_44 : decode cX0_pushes 44 = .ok (.iload_n 1, 1) := by decide +kernel
theorem dX0_pushes_45 : decode cX0_pushes 45 = .ok (.iadd, 1) := by decide +kernel
theorem dX0_pushes_46 : decode cX0_pushes 46 = .ok (.iaload, 1) := by decide +kernel
theorem dX0_pushes_47 : decode cX0_pushes 47 = .ok (.tableswitch 88 0 6 #[41, 43, 71, 45, 57, 88, 75], 41) := by decide +kernel
theorem dX0_pushes_88 : decode cX0_pushes 88 = .ok (.iload_n 2, 1) := by decide +kernel
theorem dX0_pushes_89 : decode cX0_pushes 89 = .ok (.ireturn, 1) := by decide +kernel
theorem dX0_pushes_90 : decode cX0_pushes 90 = .ok (.iload_n 3, 1) := by decide +kernel
theorem dX0_pushes_91 : decode cX0_pushes 91 = .ok (.ireturn, 1) := by decide +kernel
theorem dX0_pushes_92 : decode cX0_pushes 92 = .ok (.iload_n 3, 1) := by decide +kernel
theorem dX0_pushes_93 : decode cX0_pushes 93 = .ok (.iload 4, 2) := by decide +kernel
theorem dX0_pushes_95 : decode cX0_pushes 95 = .ok (.bipush 10, 2) := by decide +kernel
theorem dX0_pushes_97 : decode cX0_pushes 97 = .ok (.idiv, 1) := by decide +kernel
theorem dX0_pushes_98 : decode cX0_pushes 98 = .ok (.isub, 1) := by decide +kernel
theorem dX0_pushes_99 : decode cX0_pushes 99 = .ok (.iconst 0, 1) := by decide +kernel
theorem dX0_pushes_100 : decode cX0_pushes 100 = .ok (.invokestatic 75, 3) := by decide +kernel
theorem dX0_pushes_103 : decode cX0_pushes 103 = .ok (.ireturn, 1) := by decide +kernel
theorem dX0_pushes_104 : decode cX0_pushes 104 = .ok (.iload_n 3, 1) := by decide +kernel
theorem dX0_pushes_105 : decode cX0_pushes 105 = .ok (.iload 4, 2) := by decide +kernel
theorem dX0_pushes_107 : decode cX0_pushes 107 = .ok (.bipush 10, 2) := by decide +kernel
theorem dX0_pushes_109 : decode cX0_pushes 109 = .ok (.idiv, 1) := by decide +kernel
theorem dX0_pushes_110 : decode cX0_pushes 110 = .ok (.isub, 1) := by decide +kernel
theorem dX0_pushes_111 : decode cX0_pushes 111 = .ok (.iconst 0, 1) := by decide +kernel
theorem dX0_pushes_112 : decode cX0_pushes 112 = .ok (.invokestatic 75, 3) := by decide +kernel
theorem dX0_pushes_115 : decode cX0_pushes 115 = .ok (.iconst 2, 1) := by decide +kernel
theorem dX0_pushes_116 : decode cX0_pushes 116 = .ok (.iadd, 1) := by decide +kernel
theorem dX0_pushes_117 : decode cX0_pushes 117 = .ok (.ireturn, 1) := by decide +kernel
theorem dX0_pushes_118 : decode cX0_pushes 118 = .ok (.iconst 2, 1) := by decide +kernel
theorem dX0_pushes_119 : decode cX0_pushes 119 = .ok (.iload_n 2, 1) := by decide +kernel
theorem dX0_pushes_120 : decode cX0_pushes 120 = .ok (.imul, 1) := by decide +kernel
theorem dX0_pushes_121 : decode cX0_pushes 121 = .ok (.ireturn, 1) := by decide +kernel
theorem dX0_pushes_122 : decode cX0_pushes 122 = .ok (.iconst 2, 1) := by decide +kernel
theorem dX0_pushes_123 : decode cX0_pushes 123 = .ok (.iload_n 2, 1) := by decide +kernel
theorem dX0_pushes_124 : decode cX0_pushes 124 = .ok (.imul, 1) := by decide +kernel
theorem dX0_pushes_125 : decode cX0_pushes 125 = .ok (.iload 4, 2) := by decide +kernel
theorem dX0_pushes_127 : decode cX0_pushes 127 = .ok (.iconst 5, 1) := by decide +kernel
theorem dX0_pushes_128 : decode cX0_pushes 128 = .ok (.idiv, 1) := by decide +kernel
theorem dX0_pushes_129 : decode cX0_pushes 129 = .ok (.isub, 1) := by decide +kernel
theorem dX0_pushes_130 : decode cX0_pushes 130 = .ok (.iconst 0, 1) := by decide +kernel
theorem dX0_pushes_131 : decode cX0_pushes 131 = .ok (.invokestatic 75, 3) := by decide +kernel
theorem dX0_pushes_134 : decode cX0_pushes 134 = .ok (.ireturn, 1) := by decide +kernel
theorem dX0_pushes_135 : decode cX0_pushes 135 = .ok (.iconst 1, 1) := by decide +kernel
theorem dX0_pushes_136 : decode cX0_pushes 136 = .ok (.ireturn, 1) := by decide +kernel
theorem dX0_says_0 : decode cX0_says 0 = .ok (.aload_n 0, 1) := by decide +kernel
theorem dX0_says_1 : decode cX0_says 1 = .ok (.getfield 22, 3) := by decide +kernel
theorem dX0_says_4 : decode cX0_says 4 = .ok (.bipush 8, 2) := by decide +kernel
theorem dX0_says_6 : decode cX0_says 6 = .ok (.iload_n 1, 1) := by decide +kernel
theorem dX0_says_7 : decode cX0_says 7 = .ok (.iadd, 1) := by decide +kernel
theorem dX0_says_8 : decode cX0_says 8 = .ok (.iaload, 1) := by decide +kernel
theorem dX0_says_9 : decode cX0_says 9 = .ok (.bipush 50, 2) := by decide +kernel
theorem dX0_says_11 : decode cX0_says 11 = .ok (.if_icmp .lt 7, 3) := by decide +kernel
theorem dX0_says_14 : decode cX0_says 14 = .ok (.iconst 1, 1) := by decide +kernel
theorem dX0_says_15 : decode cX0_says 15 = .ok (.goto 4, 3) := by decide +kernel
theorem dX0_says_18 : decode cX0_says 18 = .ok (.iconst (-1), 1) := by decide +kernel
theorem dX0_says_19 : decode cX0_says 19 = .ok (.istore_n 2, 1) := by decide +kernel
theorem dX0_says_20 : decode cX0_says 20 = .ok (.aload_n 0, 1) := by decide +kernel
theorem dX0_says_21 : decode cX0_says 21 = .ok (.getfield 22, 3) := by decide +kernel
theorem dX0_says_24 : decode cX0_says 24 = .ok (.bipush 16, 2) := by decide +kernel
theorem dX0_says_26 : decode cX0_says 26 = .ok (.iload_n 1, 1) := by decide +kernel
theorem dX0_says_27 : decode cX0_says 27 = .ok (.iadd, 1) := by decide +kernel
theorem dX0_says_28 : decode cX0_says 28 = .ok (.iaload, 1) := by decide +kernel
theorem dX0_says_29 : decode cX0_says 29 = .ok (.istore_n 3, 1) := by decide +kernel
theorem dX0_says_30 : decode cX0_says 30 = .ok (.aload_n 0, 1) := by decide +kernel
theorem dX0_says_31 : decode cX0_says 31 = .ok (.getfield 22, 3) := by decide +kernel
theorem dX0_says_34 : decode cX0_says 34 = .ok (.iconst 0, 1) := by decide +kernel
theorem dX0_says_35 : decode cX0_says 35 = .ok (.iload_n 1, 1) := by decide +kernel
theorem dX0_says_36 : decode cX0_says 36 = .ok (.iadd, 1) := by decide +kernel
theorem dX0_says_37 : decode cX0_says 37 = .ok (.iaload, 1) := by decide +kernel
theorem dX0_says_38 : decode cX0_says 38 = .ok (.tableswitch 75 1 6 #[38, 75, 42, 57, 60, 62], 38) := by decide +kernel
theorem dX0_says_76 : decode cX0_says 76 = .ok (.iload_n 2, 1) := by decide +kernel
theorem dX0_says_77 : decode cX0_says 77 = .ok (.iconst 1, 1) := by decide +kernel
theorem dX0_says_78 : decode cX0_says 78 = .ok (.iadd, 1) := by decide +kernel
theorem dX0_says_79 : decode cX0_says 79 = .ok (.ireturn, 1) := by decide +kernel
theorem dX0_says_80 : decode cX0_says 80 = .ok (.iload_n 3, 1) := by decide +kernel
theorem dX0_says_81 : decode cX0_says 81 = .ok (.bipush 60, 2) := by decide +kernel
theorem dX0_says_83 : decode cX0_says 83 = .ok (.if_icmp .lt 8, 3) := by decide +kernel
theorem dX0_says_86 : decode cX0_says 86 = .ok (.bipush (-3), 2) := by decide +kernel
theorem dX0_says_88 : decode cX0_says 88 = .ok (.goto 6, 3) := by decide +kernel
theorem dX0_says_91 : decode cX0_says 91 = .ok (.iload_n 2, 1) := by decide +kernel
theorem dX0_says_92 : decode cX0_says 92 = .ok (.iconst 1, 1) := by decide +kernel
theorem dX0_says_93 : decode cX0_says 93 = .ok (.iadd, 1) := by decide +kernel
theorem dX0_says_94 : decode cX0_says 94 = .ok (.ireturn, 1) := by decide +kernel
theorem dX0_says_95 : decode cX0_says 95 = .ok (.bipush (-2), 2) := by decide +kernel
theorem dX0_says_97 : decode cX0_says 97 = .ok (.ireturn, 1) := by decide +kernel
theorem dX0_says_98 : decode cX0_says 98 = .ok (.iconst 0, 1) := by decide +kernel
theorem dX0_says_99 : decode cX0_says 99 = .ok (.ireturn, 1) := by decide +kernel
theorem dX0_says_100 : decode cX0_says 100 = .ok (.iload_n 3, 1) := by decide +kernel
theorem dX0_says_101 : decode cX0_says 101 = .ok (.bipush 10, 2) := by decide +kernel
theorem dX0_says_103 : decode cX0_says 103 = .ok (.if_icmp .ge 8, 3) := by decide +kernel
theorem dX0_says_106 : decode cX0_says 106 = .ok (.bipush 20, 2) := by decide +kernel
theorem dX0_says_108 : decode cX0_says 108 = .ok (.goto 4, 3) := by decide +kernel
theorem dX0_says_111 : decode cX0_says 111 = .ok (.iload_n 2, 1) := by decide +kernel
theorem dX0_says_112 : decode cX0_says 112 = .ok (.ireturn, 1) := by decide +kernel
theorem dX0_says_113 : decode cX0_says 113 = .ok (.iload_n 2, 1) := by decide +kernel
theorem dX0_says_114 : decode cX0_says 114 = .ok (.ireturn, 1) := by decide +kernel
theorem dX0_riftOf_0 : decode cX0_riftOf 0 = .ok (.aload_n 0, 1) := by decide +kernel
theorem dX0_riftOf_1 : decode cX0_riftOf 1 = .ok (.getfield 25, 3) := by decide +kernel
theorem dX0_riftOf_4 : decode cX0_riftOf 4 = .ok (.iload_n 1, 1) := by decide +kernel
theorem dX0_riftOf_5 : decode cX0_riftOf 5 = .ok (.iload_n 2, 1) := by decide +kernel
theorem dX0_riftOf_6 : decode cX0_riftOf 6 = .ok (.invokestatic 81, 3) := by decide +kernel
theorem dX0_riftOf_9 : decode cX0_riftOf 9 = .ok (.iaload, 1) := by decide +kernel
theorem dX0_riftOf_10 : decode cX0_riftOf 10 = .ok (.ireturn, 1) := by decide +kernel
theorem dX0_setRift_0 : decode cX0_setRift 0 = .ok (.aload_n 0, 1) := by decide +kernel
theorem dX0_setRift_1 : decode cX0_setRift 1 = .ok (.getfield 25, 3) := by decide +kernel
theorem dX0_setRift_4 : decode cX0_setRift 4 = .ok (.iload_n 1, 1) := by decide +kernel
theorem dX0_setRift_5 : decode cX0_setRift 5 = .ok (.iload_n 2, 1) := by decide +kernel
theorem dX0_setRift_6 : decode cX0_setRift 6 = .ok (.invokestatic 81, 3) := by decide +kernel
theorem dX0_setRift_9 : decode cX0_setRift 9 = .ok (.iload_n 3, 1) := by decide +kernel
theorem dX0_setRift_10 : decode cX0_setRift 10 = .ok (.iastore, 1) := by decide +kernel
theorem dX0_setRift_11 : decode cX0_setRift 11 = .ok (.return_, 1) := by decide +kernel
theorem dX0_riftPlace_0 : decode cX0_riftPlace 0 = .ok (.iload_n 0, 1) := by decide +kernel
theorem dX0_riftPlace_1 : decode cX0_riftPlace 1 = .ok (.iload_n 1, 1) := by decide +kernel
theorem dX0_riftPlace_2 : decode cX0_riftPlace 2 = .ok (.if_icmp .ge 12, 3) := by decide +kernel
theorem dX0_riftPlace_5 : decode cX0_riftPlace 5 = .ok (.bipush 8, 2) := by decide +kernel
theorem dX0_riftPlace_7 : decode cX0_riftPlace 7 = .ok (.iload_n 0, 1) := by decide +kernel
theorem dX0_riftPlace_8 : decode cX0_riftPlace 8 = .ok (.imul, 1) := by decide +kernel
theorem dX0_riftPlace_9 : decode cX0_riftPlace 9 = .ok (.iload_n 1, 1) := by decide +kernel
theorem dX0_riftPlace_10 : decode cX0_riftPlace 10 = .ok (.iadd, 1) := by decide +kernel
theorem dX0_riftPlace_11 : decode cX0_riftPlace 11 = .ok (.goto 9, 3) := by decide +kernel
theorem dX0_riftPlace_14 : decode cX0_riftPlace 14 = .ok (.bipush 8, 2) := by decide +kernel
theorem dX0_riftPlace_16 : decode cX0_riftPlace 16 = .ok (.iload_n 1, 1) := by decide +kernel
theorem dX0_riftPlace_17 : decode cX0_riftPlace 17 = .ok (.imul, 1) := by decide +kernel
theorem dX0_riftPlace_18 : decode cX0_riftPlace 18 = .ok (.iload_n 0, 1) := by decide +kernel
theorem dX0_riftPlace_19 : decode cX0_riftPlace 19 = .ok (.iadd, 1) := by decide +kernel
theorem dX0_riftPlace_20 : decode cX0_riftPlace 20 = .ok (.ireturn, 1) := by decide +kernel
theorem dX0_rises_0 : decode cX0_rises 0 = .ok (.iload_n 3, 1) := by decide +kernel
theorem dX0_rises_1 : decode cX0_rises 1 = .ok (.aload_n 0, 1) := by decide +kernel
theorem dX0_rises_2 : decode cX0_rises 2 = .ok (.iload_n 1, 1) := by decide +kernel
theorem dX0_rises_3 : decode cX0_rises 3 = .ok (.iload_n 2, 1) := by decide +kernel
theorem dX0_rises_4 : decode cX0_rises 4 = .ok (.invokevirtual 84, 3) := by decide +kernel
theorem dX0_rises_7 : decode cX0_rises 7 = .ok (.imul, 1) := by decide +kernel
theorem dX0_rises_8 : decode cX0_rises 8 = .ok (.bipush 20, 2) := by decide +kernel
theorem dX0_rises_10 : decode cX0_rises 10 = .ok (.idiv, 1) := by decide +kernel
theorem dX0_rises_11 : decode cX0_rises 11 = .ok (.ireturn, 1) := by decide +kernel
theorem dX0_leans_0 : decode cX0_leans 0 = .ok (.aload_n 0, 1) := by decide +kernel
theorem dX0_leans_1 : decode cX0_leans 1 = .ok (.iload_n 1, 1) := by decide +kernel
theorem dX0_leans_2 : decode cX0_leans 2 = .ok (.invokevirtual 62, 3) := by decide +kernel
theorem dX0_leans_5 : decode cX0_leans 5 = .ok (.aload_n 0, 1) := by decide +kernel
theorem dX0_leans_6 : decode cX0_leans 6 = .ok (.iload_n 2, 1) := by decide +kernel
theorem dX0_leans_7 : decode cX0_leans 7 = .ok (.invokevirtual 62, 3) := by decide +kernel
theorem dX0_leans_10 : decode cX0_leans 10 = .ok (.isub, 1) := by decide +kernel
theorem dX0_leans_11 : decode cX0_leans 11 = .ok (.ireturn, 1) := by decide +kernel
theorem dX0_claysThatStand_0 : decode cX0_claysThatStand 0 = .ok (.aload_n 0, 1) := by decide +kernel
theorem dX0_claysThatStand_1 : decode cX0_claysThatStand 1 = .ok (.iload_n 1, 1) := by decide +kernel
theorem dX0_claysThatStand_2 : decode cX0_claysThatStand 2 = .ok (.iload_n 2, 1) := by decide +kernel
theorem dX0_claysThatStand_3 : decode cX0_claysThatStand 3 = .ok (.invokevirtual 87, 3) := by decide +kernel
theorem dX0_claysThatStand_6 : decode cX0_claysThatStand 6 = .ok (.istore_n 3, 1) := by decide +kernel
theorem dX0_claysThatStand_7 : decode cX0_claysThatStand 7 = .ok (.iconst 0, 1) := by decide +kernel
theorem dX0_claysThatStand_8 : decode cX0_claysThatStand 8 = .ok (.istore 4, 2) := by decide +kernel
theorem dX0_claysThatStand_10 : decode cX0_claysThatStand 10 = .ok (.iconst 1, 1) := by decide +kernel
theorem dX0_claysThatStand_11 : decode cX0_claysThatStand 11 = .ok (.istore 5, 2) := by decide +kernel
theorem dX0_claysThatStand_13 : decode cX0_claysThatStand 13 = .ok (.iload 5, 2) := by decide +kernel
theorem dX0_claysThatStand_15 : decode cX0_claysThatStand 15 = .ok (.bipush 20, 2) := by decide +kernel
theorem dX0_claysThatStand_17 : decode cX0_claysThatStand 17 = .ok (.if_icmp .gt 27, 3) := by decide +kernel
theorem dX0_claysThatStand_20 : decode cX0_claysThatStand 20 = .ok (.aload_n 0, 1) := by decide +kernel
theorem dX0_claysThatStand_21 : decode cX0_claysThatStand 21 = .ok (.iload_n 1, 1) := by decide +kernel
theorem dX0_claysThatStand_22 : decode cX0_claysThatStand 22 = .ok (.iload_n 2, 1) := by decide +kernel
theorem dX0_claysThatStand_23 : decode cX0_claysThatStand 23 = .ok (.iload 5, 2) := by decide +kernel
theorem dX0_claysThatStand_25 : decode cX0_claysThatStand 25 = .ok (.invokevirtual 90, 3) := by decide +kernel
theorem dX0_claysThatStand_28 : decode cX0_claysThatStand 28 = .ok (.iload_n 3, 1) := by decide +kernel
theorem dX0_claysThatStand_29 : decode cX0_claysThatStand 29 = .ok (.invokestatic 94, 3) := by decide +kernel
theorem dX0_claysThatStand_32 : decode cX0_claysThatStand 32 = .ok (.ifCond .ne 6, 3) := by decide +kernel
theorem dX0_claysThatStand_35 : decode cX0_claysThatStand 35 = .ok (.iinc 4 1, 3) := by decide +kernel
theorem dX0_claysThatStand_38 : decode cX0_claysThatStand 38 = .ok (.iinc 5 1, 3) := by decide +kernel
theorem dX0_claysThatStand_41 : decode cX0_claysThatStand 41 = .ok (.goto (-28), 3) := by decide +kernel
theorem dX0_claysThatStand_44 : decode cX0_claysThatStand 44 = .ok (.iload 4, 2) := by decide +kernel
theorem dX0_claysThatStand_46 : decode cX0_claysThatStand 46 = .ok (.ireturn, 1) := by decide +kernel
theorem dX0_passDays_0 : decode cX0_passDays 0 = .ok (.iconst 0, 1) := by decide +kernel
theorem dX0_passDays_1 : decode cX0_passDays 1 = .ok (.istore_n 2, 1) := by decide +kernel
theorem dX0_passDays_2 : decode cX0_passDays 2 = .ok (.iload_n 2, 1) := by decide +kernel
theorem dX0_passDays_3 : decode cX0_passDays 3 = .ok (.iload_n 1, 1) := by decide +kernel
theorem dX0_passDays_4 : decode cX0_passDays 4 = .ok (.if_icmp .ge 80, 3) := by decide +kernel
theorem dX0_passDays_7 : decode cX0_passDays 7 = .ok (.aload_n 0, 1) := by decide +kernel
theorem dX0_passDays_8 : decode cX0_passDays 8 = .ok (.getfield 18, 3) := by decide +kernel
theorem dX0_passDays_11 : decode cX0_passDays 11 = .ok (.aload_n 0, 1) := by decide +kernel
theorem dX0_passDays_12 : decode cX0_passDays 12 = .ok (.getfield 46, 3) := by decide +kernel
theorem dX0_passDays_15 : decode cX0_passDays 15 = .ok (.bipush 6, 2) := by decide +kernel
theorem dX0_passDays_17 : decode cX0_passDays 17 = .ok (.irem, 1) := by decide +kernel
theorem dX0_passDays_18 : decode cX0_passDays 18 = .ok (.iaload, 1) := by decide +kernel
theorem dX0_passDays_19 : decode cX0_passDays 19 = .ok (.istore_n 3, 1) := by decide +kernel
theorem dX0_passDays_20 : decode cX0_passDays 20 = .ok (.aload_n 0, 1) := by decide +kernel
theorem dX0_passDays_21 : decode cX0_passDays 21 = .ok (.iload_n 3, 1) := by decide +kernel
theorem dX0_passDays_22 : decode cX0_passDays 22 = .ok (.bipush 10, 2) := by decide +kernel
theorem dX0_passDays_24 : decode cX0_passDays 24 = .ok (.idiv, 1) := by decide +kernel
theorem dX0_passDays_25 : decode cX0_passDays 25 = .ok (.iload_n 3, 1) := by decide +kernel
theorem dX0_passDays_26 : decode cX0_passDays 26 = .ok (.bipush 10, 2) := by decide +kernel
theorem dX0_passDays_28 : decode cX0_passDays 28 = .ok (.irem, 1) := by decide +kernel
theorem dX0_passDays_29 : decode cX0_passDays 29 = .ok (.invokevirtual 98, 3) := by decide +kernel
theorem dX0_passDays_32 : decode cX0_passDays 32 = .ok (.ifCond .eq 15, 3) := by decide +kernel
theorem dX0_passDays_35 : decode cX0_passDays 35 = .ok (.aload_n 0, 1) := by decide +kernel
theorem dX0_passDays_36 : decode cX0_passDays 36 = .ok (.iload_n 3, 1) := by decide +kernel
theorem dX0_passDays_37 : decode cX0_passDays 37 = .ok (.bipush 10, 2) := by decide +kernel
theorem dX0_passDays_39 : decode cX0_passDays 39 = .ok (.idiv, 1) := by decide +kernel
theorem dX0_passDays_40 : decode cX0_passDays 40 = .ok (.iload_n 3, 1) := by decide +kernel
theorem dX0_passDays_41 : decode cX0_passDays 41 = .ok (.bipush 10, 2) := by decide +kernel
theorem dX0_passDays_43 : decode cX0_passDays 43 = .ok (.irem, 1) := by decide +kernel
theorem dX0_passDays_44 : decode cX0_passDays 44 = .ok (.invokevirtual 101, 3) := by decide +kernel
theorem dX0_passDays_47 : decode cX0_passDays 47 = .ok (.aload_n 0, 1) := by decide +kernel
theorem dX0_passDays_48 : decode cX0_passDays 48 = .ok (.getfield 46, 3) := by decide +kernel
theorem dX0_passDays_51 : decode cX0_passDays 51 = .ok (.bipush 10, 2) := by decide +kernel
theorem dX0_passDays_53 : decode cX0_passDays 53 = .ok (.irem, 1) := by decide +kernel
theorem dX0_passDays_54 : decode cX0_passDays 54 = .ok (.bipush 9, 2) := by decide +kernel
theorem dX0_passDays_56 : decode cX0_passDays 56 = .ok (.if_icmp .ne 7, 3) := by decide +kernel
theorem dX0_passDays_59 : decode cX0_passDays 59 = .ok (.aload_n 0, 1) := by decide +kernel
theorem dX0_passDays_60 : decode cX0_passDays 60 = .ok (.invokevirtual 105, 3) := by decide +kernel
theorem dX0_passDays_63 : decode cX0_passDays 63 = .ok (.aload_n 0, 1) := by decide +kernel
theorem dX0_passDays_64 : decode cX0_passDays 64 = .ok (.aload_n 0, 1) := by decide +kernel
theorem dX0_passDays_65 : decode cX0_passDays 65 = .ok (.getfield 46, 3) := by decide +kernel
theorem dX0_passDays_68 : decode cX0_passDays 68 = .ok (.iconst 1, 1) := by decide +kernel
theorem dX0_passDays_69 : decode cX0_passDays 69 = .ok (.iadd, 1) := by decide +kernel
theorem dX0_passDays_70 : decode cX0_passDays 70 = .ok (.ldc 108, 2) := by decide +kernel
theorem dX0_passDays_72 : decode cX0_passDays 72 = .ok (.invokestatic 109, 3) := by decide +kernel
theorem dX0_passDays_75 : decode cX0_passDays 75 = .ok (.putfield 46, 3) := by decide +kernel
theorem dX0_passDays_78 : decode cX0_passDays 78 = .ok (.iinc 2 1, 3) := by decide +kernel
theorem dX0_passDays_81 : decode cX0_passDays 81 = .ok (.goto (-79), 3) := by decide +kernel
theorem dX0_passDays_84 : decode cX0_passDays 84 = .ok (.return_, 1) := by decide +kernel
theorem dX0_throwsToday_0 : decode cX0_throwsToday 0 = .ok (.aload_n 0, 1) := by decide +kernel
theorem dX0_throwsToday_1 : decode cX0_throwsToday 1 = .ok (.getfield 18, 3) := by decide +kernel
theorem dX0_throwsToday_4 : decode cX0_throwsToday 4 = .ok (.aload_n 0, 1) := by decide +kernel
theorem dX0_throwsToday_5 : decode cX0_throwsToday 5 = .ok (.getfield 46, 3) := by decide +kernel
theorem dX0_throwsToday_8 : decode cX0_throwsToday 8 = .ok (.bipush 6, 2) := by decide +kernel
theorem dX0_throwsToday_10 : decode cX0_throwsToday 10 = .ok (.irem, 1) := by decide +kernel
theorem dX0_throwsToday_11 : decode cX0_throwsToday 11 = .ok (.iaload, 1) := by decide +kernel
theorem dX0_throwsToday_12 : decode cX0_throwsToday 12 = .ok (.istore_n 1, 1) := by decide +kernel
theorem dX0_throwsToday_13 : decode cX0_throwsToday 13 = .ok (.aload_n 0, 1) := by decide +kernel
theorem dX0_throwsToday_14 : decode cX0_throwsToday 14 = .ok (.iload_n 1, 1) := by decide +kernel
theorem dX0_throwsToday_15 : decode cX0_throwsToday 15 = .ok (.bipush 10, 2) := by decide +kernel
theorem dX0_throwsToday_17 : decode cX0_throwsToday 17 = .ok (.idiv, 1) := by decide +kernel
theorem dX0_throwsToday_18 : decode cX0_throwsToday 18 = .ok (.iload_n 1, 1) := by decide +kernel
theorem dX0_throwsToday_19 : decode cX0_throwsToday 19 = .ok (.bipush 10, 2) := by decide +kernel
theorem dX0_throwsToday_21 : decode cX0_throwsToday 21 = .ok (.irem, 1) := by decide +kernel
theorem dX0_throwsToday_22 : decode cX0_throwsToday 22 = .ok (.invokevirtual 98, 3) := by decide +kernel
theorem dX0_throwsToday_25 : decode cX0_throwsToday 25 = .ok (.ireturn, 1) := by decide +kernel
theorem dX0_throwPot_0 : decode cX0_throwPot 0 = .ok (.aload_n 0, 1) := by decide +kernel
theorem dX0_throwPot_1 : decode cX0_throwPot 1 = .ok (.iload_n 1, 1) := by decide +kernel
theorem dX0_throwPot_2 : decode cX0_throwPot 2 = .ok (.iload_n 2, 1) := by decide +kernel
theorem dX0_throwPot_3 : decode cX0_throwPot 3 = .ok (.aload_n 0, 1) := by decide +kernel
theorem dX0_throwPot_4 : decode cX0_throwPot 4 = .ok (.getfield 9, 3) := by decide +kernel
theorem dX0_throwPot_7 : decode cX0_throwPot 7 = .ok (.invokevirtual 90, 3) := by decide +kernel
theorem dX0_throwPot_10 : decode cX0_throwPot 10 = .ok (.istore_n 3, 1) := by decide +kernel
theorem dX0_throwPot_11 : decode cX0_throwPot 11 = .ok (.aload_n 0, 1) := by decide +kernel
theorem dX0_throwPot_12 : decode cX0_throwPot 12 = .ok (.iload_n 1, 1) := by decide +kernel
theorem dX0_throwPot_13 : decode cX0_throwPot 13 = .ok (.iload_n 2, 1) := by decide +kernel
theorem dX0_throwPot_14 : decode cX0_throwPot 14 = .ok (.invokevirtual 87, 3) := by decide +kernel
theorem dX0_throwPot_17 : decode cX0_throwPot 17 = .ok (.istore 4, 2) := by decide +kernel
theorem dX0_throwPot_19 : decode cX0_throwPot 19 = .ok (.aload_n 0, 1) := by decide +kernel
theorem dX0_throwPot_20 : decode cX0_throwPot 20 = .ok (.iload_n 1, 1) := by decide +kernel
theorem dX0_throwPot_21 : decode cX0_throwPot 21 = .ok (.invokevirtual 66, 3) := by decide +kernel
theorem dX0_throwPot_24 : decode cX0_throwPot 24 = .ok (.aload_n 0, 1) := by decide +kernel
theorem dX0_throwPot_25 : decode cX0_throwPot 25 = .ok (.iload_n 2, 1) := by decide +kernel
theorem dX0_throwPot_26 : decode cX0_throwPot 26 = .ok (.invokevirtual 66, 3) := by decide +kernel
theorem dX0_throwPot_29 : decode cX0_throwPot 29 = .ok (.iadd, 1) := by decide +kernel
theorem dX0_throwPot_30 : decode cX0_throwPot 30 = .ok (.istore 5, 2) := by decide +kernel
theorem dX0_throwPot_32 : decode cX0_throwPot 32 = .ok (.iload_n 3, 1) := by decide +kernel
theorem dX0_throwPot_33 : decode cX0_throwPot 33 = .ok (.iload 4, 2) := by decide +kernel
theorem dX0_throwPot_35 : decode cX0_throwPot 35 = .ok (.invokestatic 94, 3) := by decide +kernel
theorem dX0_throwPot_38 : decode cX0_throwPot 38 = .ok (.ifCond .eq 16, 3) := by decide +kernel
theorem dX0_throwPot_41 : decode cX0_throwPot 41 = .ok (.aload_n 0, 1) := by decide +kernel
theorem dX0_throwPot_42 : decode cX0_throwPot 42 = .ok (.iload_n 1, 1) := by decide +kernel
theorem dX0_throwPot_43 : decode cX0_throwPot 43 = .ok (.invokevirtual 112, 3) := by decide +kernel
theorem dX0_throwPot_46 : decode cX0_throwPot 46 = .ok (.aload_n 0, 1) := by decide +kernel
theorem dX0_throwPot_47 : decode cX0_throwPot 47 = .ok (.iload_n 2, 1) := by decide +kernel
theorem dX0_throwPot_48 : decode cX0_throwPot 48 = .ok (.invokevirtual 112, 3) := by decide +kernel
theorem dX0_throwPot_51 : decode cX0_throwPot 51 = .ok (.goto 20, 3) := by decide +kernel
theorem dX0_throwPot_54 : decode cX0_throwPot 54 = .ok (.aload_n 0, 1) := by decide +kernel
theorem dX0_throwPot_55 : decode cX0_throwPot 55 = .ok (.iload_n 1, 1) := by decide +kernel
theorem dX0_throwPot_56 : decode cX0_throwPot 56 = .ok (.invokevirtual 116, 3) := by decide +kernel
theorem dX0_throwPot_59 : decode cX0_throwPot 59 = .ok (.aload_n 0, 1) := by decide +kernel
theorem dX0_throwPot_60 : decode cX0_throwPot 60 = .ok (.iload_n 2, 1) := by decide +kernel
theorem dX0_throwPot_61 : decode cX0_throwPot 61 = .ok (.invokevirtual 116, 3) := by decide +kernel
theorem dX0_throwPot_64 : decode cX0_throwPot 64 = .ok (.aload_n 0, 1) := by decide +kernel
theorem dX0_throwPot_65 : decode cX0_throwPot 65 = .ok (.iload_n 3, 1) := by decide +kernel
theorem dX0_throwPot_66 : decode cX0_throwPot 66 = .ok (.iload 4, 2) := by decide +kernel
theorem dX0_throwPot_68 : decode cX0_throwPot 68 = .ok (.invokevirtual 119, 3) := by decide +kernel
theorem dX0_throwPot_71 : decode cX0_throwPot 71 = .ok (.aload_n 0, 1) := by decide +kernel
theorem dX0_throwPot_72 : decode cX0_throwPot 72 = .ok (.iload_n 1, 1) := by decide +kernel
theorem dX0_throwPot_73 : decode cX0_throwPot 73 = .ok (.iload_n 2, 1) := by decide +kernel
theorem dX0_throwPot_74 : decode cX0_throwPot 74 = .ok (.iconst 0, 1) := by decide +kernel
theorem dX0_throwPot_75 : decode cX0_throwPot 75 = .ok (.aload_n 0, 1) := by decide +kernel
theorem dX0_throwPot_76 : decode cX0_throwPot 76 = .ok (.iload_n 1, 1) := by decide +kernel
theorem dX0_throwPot_77 : decode cX0_throwPot 77 = .ok (.iload_n 2, 1) := by decide +kernel
theorem dX0_throwPot_78 : decode cX0_throwPot 78 = .ok (.invokevirtual 84, 3) := by decide +kernel
theorem dX0_throwPot_81 : decode cX0_throwPot 81 = .ok (.iload 5, 2) := by decide +kernel
theorem dX0_throwPot_83 : decode cX0_throwPot 83 = .ok (.iadd, 1) := by decide +kernel
theorem dX0_throwPot_84 : decode cX0_throwPot 84 = .ok (.bipush 99, 2) := by decide +kernel
theorem dX0_throwPot_86 : decode cX0_throwPot 86 = .ok (.invokestatic 109, 3) := by decide +kernel
theorem dX0_throwPot_89 : decode cX0_throwPot 89 = .ok (.invokestatic 75, 3) := by decide +kernel
theorem dX0_throwPot_92 : decode cX0_throwPot 92 = .ok (.invokevirtual 122, 3) := by decide +kernel
theorem dX0_throwPot_95 : decode cX0_throwPot 95 = .ok (.return_, 1) := by decide +kernel
theorem dX0_flop_0 : decode cX0_flop 0 = .ok (.getstatic 72, 3) := by decide +kernel
theorem dX0_flop_3 : decode cX0_flop 3 = .ok (.aload_n 0, 1) := by decide +kernel
theorem dX0_flop_4 : decode cX0_flop 4 = .ok (.getfield 22, 3) := by decide +kernel
theorem dX0_flop_7 : decode cX0_flop 7 = .ok (.iconst 0, 1) := by decide +kernel
theorem dX0_flop_8 : decode cX0_flop 8 = .ok (.iload_n 1, 1) := by decide +kernel
theorem dX0_flop_9 : decode cX0_flop 9 = .ok (.iadd, 1) := by decide +kernel
theorem dX0_flop_10 : decode cX0_flop 10 = .ok (.iaload, 1) := by decide +kernel
theorem dX0_flop_11 : decode cX0_flop 11 = .ok (.iaload, 1) := by decide +kernel
theorem dX0_flop_12 : decode cX0_flop 12 = .ok (.istore_n 2, 1) := by decide +kernel
theorem dX0_flop_13 : decode cX0_flop 13 = .ok (.aload_n 0, 1) := by decide +kernel
theorem dX0_flop_14 : decode cX0_flop 14 = .ok (.getfield 22, 3) := by decide +kernel
theorem dX0_flop_17 : decode cX0_flop 17 = .ok (.bipush 40, 2) := by decide +kernel
theorem dX0_flop_19 : decode cX0_flop 19 = .ok (.iload_n 1, 1) := by decide +kernel
theorem dX0_flop_20 : decode cX0_flop 20 = .ok (.iadd, 1) := by decide +kernel
theorem dX0_flop_21 : decode cX0_flop 21 = .ok (.aload_n 0, 1) := by decide +kernel
theorem dX0_flop_22 : decode cX0_flop 22 = .ok (.getfield 22, 3) := by decide +kernel
theorem dX0_flop_25 : decode cX0_flop 25 = .ok (.bipush 40, 2) := by decide +kernel
theorem dX0_flop_27 : decode cX0_flop 27 = .ok (.iload_n 1, 1) := by decide +kernel
theorem dX0_flop_28 : decode cX0_flop 28 = .ok (.iadd, 1) := by decide +kernel
theorem dX0_flop_29 : decode cX0_flop 29 = .ok (.iaload, 1) := by decide +kernel
theorem dX0_flop_30 : decode cX0_flop 30 = .ok (.iconst 1, 1) := by decide +kernel
theorem dX0_flop_31 : decode cX0_flop 31 = .ok (.iadd, 1) := by decide +kernel
theorem dX0_flop_32 : decode cX0_flop 32 = .ok (.sipush 9999, 3) := by decide +kernel
theorem dX0_flop_35 : decode cX0_flop 35 = .ok (.invokestatic 109, 3) := by decide +kernel
theorem dX0_flop_38 : decode cX0_flop 38 = .ok (.iastore, 1) := by decide +kernel
theorem dX0_flop_39 : decode cX0_flop 39 = .ok (.aload_n 0, 1) := by decide +kernel
theorem dX0_flop_40 : decode cX0_flop 40 = .ok (.getfield 22, 3) := by decide +kernel
theorem dX0_flop_43 : decode cX0_flop 43 = .ok (.bipush 8, 2) := by decide +kernel
theorem dX0_flop_45 : decode cX0_flop 45 = .ok (.iload_n 1, 1) := by decide +kernel
theorem dX0_flop_46 : decode cX0_flop 46 = .ok (.iadd, 1) := by decide +kernel
theorem dX0_flop_47 : decode cX0_flop 47 = .ok (.aload_n 0, 1) := by decide +kernel
theorem dX0_flop_48 : decode cX0_flop 48 = .ok (.getfield 22, 3) := by decide +kernel
theorem dX0_flop_51 : decode cX0_flop 51 = .ok (.bipush 8, 2) := by decide +kernel
theorem dX0_flop_53 : decode cX0_flop 53 = .ok (.iload_n 1, 1) := by decide +kernel
theorem dX0_flop_54 : decode cX0_flop 54 = .ok (.iadd, 1) := by decide +kernel
theorem dX0_flop_55 : decode cX0_flop 55 = .ok (.iaload, 1) := by decide +kernel
theorem dX0_flop_56 : decode cX0_flop 56 = .ok (.iload_n 2, 1) := by decide +kernel
theorem dX0_flop_57 : decode cX0_flop 57 = .ok (.iadd, 1) := by decide +kernel
theorem dX0_flop_58 : decode cX0_flop 58 = .ok (.bipush 99, 2) := by decide +kernel
theorem dX0_flop_60 : decode cX0_flop 60 = .ok (.invokestatic 109, 3) := by decide +kernel
theorem dX0_flop_63 : decode cX0_flop 63 = .ok (.iastore, 1) := by decide +kernel
theorem dX0_flop_64 : decode cX0_flop 64 = .ok (.return_, 1) := by decide +kernel
theorem dX0_stand_0 : decode cX0_stand 0 = .ok (.getstatic 69, 3) := by decide +kernel
theorem dX0_stand_3 : decode cX0_stand 3 = .ok (.aload_n 0, 1) := by decide +kernel
theorem dX0_stand_4 : decode cX0_stand 4 = .ok (.getfield 22, 3) := by decide +kernel
theorem dX0_stand_7 : decode cX0_stand 7 = .ok (.iconst 0, 1) := by decide +kernel
theorem dX0_stand_8 : decode cX0_stand 8 = .ok (.iload_n 1, 1) := by decide +kernel
theorem dX0_stand_9 : decode cX0_stand 9 = .ok (.iadd, 1) := by decide +kernel
theorem dX0_stand_10 : decode cX0_stand 10 = .ok (.iaload, 1) := by decide +kernel
theorem dX0_stand_11 : decode cX0_stand 11 = .ok (.iaload, 1) := by decide +kernel
theorem dX0_stand_12 : decode cX0_stand 12 = .ok (.istore_n 2, 1) := by decide +kernel
theorem dX0_stand_13 : decode cX0_stand 13 = .ok (.aload_n 0, 1) := by decide +kernel
theorem dX0_stand_14 : decode cX0_stand 14 = .ok (.getfield 22, 3) := by decide +kernel
theorem dX0_stand_17 : decode cX0_stand 17 = .ok (.bipush 32, 2) := by decide +kernel
theorem dX0_stand_19 : decode cX0_stand 19 = .ok (.iload_n 1, 1) := by decide +kernel
theorem dX0_stand_20 : decode cX0_stand 20 = .ok (.iadd, 1) := by decide +kernel
theorem dX0_stand_21 : decode cX0_stand 21 = .ok (.aload_n 0, 1) := by decide +kernel
theorem dX0_stand_22 : decode cX0_stand 22 = .ok (.getfield 22, 3) := by decide +kernel
theorem dX0_stand_25 : decode cX0_stand 25 = .ok (.bipush 32, 2) := by decide +kernel
theorem dX0_stand_27 : decode cX0_stand 27 = .ok (.iload_n 1, 1) := by decide +kernel
theorem dX0_stand_28 : decode cX0_stand 28 = .ok (.iadd, 1) := by decide +kernel
theorem dX0_stand_29 : decode cX0_stand 29 = .ok (.iaload, 1) := by decide +kernel
theorem dX0_stand_30 : decode cX0_stand 30 = .ok (.iconst 1, 1) := by decide +kernel
theorem dX0_stand_31 : decode cX0_stand 31 = .ok (.iadd, 1) := by decide +kernel
theorem dX0_stand_32 : decode cX0_stand 32 = .ok (.sipush 9999, 3) := by decide +kernel
theorem dX0_stand_35 : decode cX0_stand 35 = .ok (.invokestatic 109, 3) := by decide +kernel
theorem dX0_stand_38 : decode cX0_stand 38 = .ok (.iastore, 1) := by decide +kernel
theorem dX0_stand_39 : decode cX0_stand 39 = .ok (.aload_n 0, 1) := by decide +kernel
theorem dX0_stand_40 : decode cX0_stand 40 = .ok (.getfield 22, 3) := by decide +kernel
theorem dX0_stand_43 : decode cX0_stand 43 = .ok (.bipush 8, 2) := by decide +kernel
theorem dX0_stand_45 : decode cX0_stand 45 = .ok (.iload_n 1, 1) := by decide +kernel
theorem dX0_stand_46 : decode cX0_stand 46 = .ok (.iadd, 1) := by decide +kernel
theorem dX0_stand_47 : decode cX0_stand 47 = .ok (.aload_n 0, 1) := by decide +kernel
theorem dX0_stand_48 : decode cX0_stand 48 = .ok (.getfield 22, 3) := by decide +kernel
theorem dX0_stand_51 : decode cX0_stand 51 = .ok (.bipush 8, 2) := by decide +kernel
theorem dX0_stand_53 : decode cX0_stand 53 = .ok (.iload_n 1, 1) := by decide +kernel
theorem dX0_stand_54 : decode cX0_stand 54 = .ok (.iadd, 1) := by decide +kernel
theorem dX0_stand_55 : decode cX0_stand 55 = .ok (.iaload, 1) := by decide +kernel
theorem dX0_stand_56 : decode cX0_stand 56 = .ok (.iload_n 2, 1) := by decide +kernel
theorem dX0_stand_57 : decode cX0_stand 57 = .ok (.isub, 1) := by decide +kernel
theorem dX0_stand_58 : decode cX0_stand 58 = .ok (.iconst 0, 1) := by decide +kernel
theorem dX0_stand_59 : decode cX0_stand 59 = .ok (.invokestatic 75, 3) := by decide +kernel
theorem dX0_stand_62 : decode cX0_stand 62 = .ok (.iastore, 1) := by decide +kernel
theorem dX0_stand_63 : decode cX0_stand 63 = .ok (.return_, 1) := by decide +kernel
theorem dX0_sell_0 : decode cX0_sell 0 = .ok (.aload_n 0, 1) := by decide +kernel
theorem dX0_sell_1 : decode cX0_sell 1 = .ok (.aload_n 0, 1) := by decide +kernel
theorem dX0_sell_2 : decode cX0_sell 2 = .ok (.getfield 37, 3) := by decide +kernel
theorem dX0_sell_5 : decode cX0_sell 5 = .ok (.iload_n 1, 1) := by decide +kernel
theorem dX0_sell_6 : decode cX0_sell 6 = .ok (.iadd, 1) := by decide +kernel
theorem dX0_sell_7 : decode cX0_sell 7 = .ok (.iload_n 2, 1) := by decide +kernel
theorem dX0_sell_8 : decode cX0_sell 8 = .ok (.invokestatic 126, 3) := by decide +kernel
theorem dX0_sell_11 : decode cX0_sell 11 = .ok (.iadd, 1) := by decide +kernel
theorem dX0_sell_12 : decode cX0_sell 12 = .ok (.ldc 108, 2) := by decide +kernel
theorem dX0_sell_14 : decode cX0_sell 14 = .ok (.invokestatic 109, 3) := by decide +kernel
theorem dX0_sell_17 : decode cX0_sell 17 = .ok (.putfield 37, 3) := by decide +kernel
theorem dX0_sell_20 : decode cX0_sell 20 = .ok (.iload_n 2, 1) := by decide +kernel
theorem dX0_sell_21 : decode cX0_sell 21 = .ok (.ifCond .eq 4, 3) := by decide +kernel
theorem dX0_sell_24 : decode cX0_sell 24 = .ok (.return_, 1) := by decide +kernel
theorem dX0_sell_25 : decode cX0_sell 25 = .ok (.aload_n 0, 1) := by decide +kernel
theorem dX0_sell_26 : decode cX0_sell 26 = .ok (.aload_n 0, 1) := by decide +kernel
theorem dX0_sell_27 : decode cX0_sell 27 = .ok (.getfield 40, 3) := by decide +kernel
theorem dX0_sell_30 : decode cX0_sell 30 = .ok (.iconst 1, 1) := by decide +kernel
theorem dX0_sell_31 : decode cX0_sell 31 = .ok (.iadd, 1) := by decide +kernel
theorem dX0_sell_32 : decode cX0_sell 32 = .ok (.sipush 9999, 3) := by decide +kernel
theorem dX0_sell_35 : decode cX0_sell 35 = .ok (.invokestatic 109, 3) := by decide +kernel
theorem dX0_sell_38 : decode cX0_sell 38 = .ok (.putfield 40, 3) := by decide +kernel
theorem dX0_sell_41 : decode cX0_sell 41 = .ok (.iload_n 1, 1) := by decide +kernel
theorem dX0_sell_42 : decode cX0_sell 42 = .ok (.bipush 40, 2) := by decide +kernel
theorem dX0_sell_44 : decode cX0_sell 44 = .ok (.if_icmp .lt 19, 3) := by decide +kernel
theorem dX0_sell_47 : decode cX0_sell 47 = .ok (.aload_n 0, 1) := by decide +kernel
theorem dX0_sell_48 : decode cX0_sell 48 = .ok (.aload_n 0, 1) := by decide +kernel
theorem dX0_sell_49 : decode cX0_sell 49 = .ok (.getfield 43, 3) := by decide +kernel
theorem dX0_sell_52 : decode cX0_sell 52 = .ok (.iconst 1, 1) := by decide +kernel
theorem dX0_sell_53 : decode cX0_sell 53 = .ok (.iadd, 1) := by decide +kernel
theorem dX0_sell_54 : decode cX0_sell 54 = .ok (.sipush 9999, 3) := by decide +kernel
theorem dX0_sell_57 : decode cX0_sell 57 = .ok (.invokestatic 109, 3) := by decide +kernel
theorem dX0_sell_60 : decode cX0_sell 60 = .ok (.putfield 43, 3) := by decide +kernel
theorem dX0_sell_63 : decode cX0_sell 63 = .ok (.return_, 1) := by decide +kernel
theorem dX0_ageAll_0 : decode cX0_ageAll 0 = .ok (.iconst 0, 1) := by decide +kernel
theorem dX0_ageAll_1 : decode cX0_ageAll 1 = .ok (.istore_n 1, 1) := by decide +kernel
theorem dX0_ageAll_2 : decode cX0_ageAll 2 = .ok (.iload_n 1, 1) := by decide +kernel
theorem dX0_ageAll_3 : decode cX0_ageAll 3 = .ok (.aload_n 0, 1) := by decide +kernel
theorem dX0_ageAll_4 : decode cX0_ageAll 4 = .ok (.getfield 49, 3) := by decide +kernel
theorem dX0_ageAll_7 : decode cX0_ageAll 7 = .ok (.if_icmp .ge 34, 3) := by decide +kernel
theorem dX0_ageAll_10 : decode cX0_ageAll 10 = .ok (.aload_n 0, 1) := by decide +kernel
theorem dX0_ageAll_11 : decode cX0_ageAll 11 = .ok (.getfield 22, 3) := by decide +kernel
theorem dX0_ageAll_14 : decode cX0_ageAll 14 = .ok (.bipush 24, 2) := by decide +kernel
theorem dX0_ageAll_16 : decode cX0_ageAll 16 = .ok (.iload_n 1, 1) := by decide +kernel
theorem dX0_ageAll_17 : decode cX0_ageAll 17 = .ok (.iadd, 1) := by decide +kernel
theorem dX0_ageAll_18 : decode cX0_ageAll 18 = .ok (.aload_n 0, 1) := by decide +kernel
theorem dX0_ageAll_19 : decode cX0_ageAll 19 = .ok (.getfield 22, 3) := by decide +kernel
theorem dX0_ageAll_22 : decode cX0_ageAll 22 = .ok (.bipush 24, 2) := by decide +kernel
theorem dX0_ageAll_24 : decode cX0_ageAll 24 = .ok (.iload_n 1, 1) := by decide +kernel
theorem dX0_ageAll_25 : decode cX0_ageAll 25 = .ok (.iadd, 1) := by decide +kernel
theorem dX0_ageAll_26 : decode cX0_ageAll 26 = .ok (.iaload, 1) := by decide +kernel
theorem dX0_ageAll_27 : decode cX0_ageAll 27 = .ok (.iconst 1, 1) := by decide +kernel
theorem dX0_ageAll_28 : decode cX0_ageAll 28 = .ok (.iadd, 1) := by decide +kernel
theorem dX0_ageAll_29 : decode cX0_ageAll 29 = .ok (.bipush 99, 2) := by decide +kernel
theorem dX0_ageAll_31 : decode cX0_ageAll 31 = .ok (.invokestatic 109, 3) := by decide +kernel
theorem dX0_ageAll_34 : decode cX0_ageAll 34 = .ok (.iastore, 1) := by decide +kernel
theorem dX0_ageAll_35 : decode cX0_ageAll 35 = .ok (.iinc 1 1, 3) := by decide +kernel
theorem dX0_ageAll_38 : decode cX0_ageAll 38 = .ok (.goto (-36), 3) := by decide +kernel
theorem dX0_ageAll_41 : decode cX0_ageAll 41 = .ok (.return_, 1) := by decide +kernel
theorem dX0_sumOf_0 : decode cX0_sumOf 0 = .ok (.iconst 0, 1) := by decide +kernel
theorem dX0_sumOf_1 : decode cX0_sumOf 1 = .ok (.istore_n 2, 1) := by decide +kernel
theorem dX0_sumOf_2 : decode cX0_sumOf 2 = .ok (.iconst 0, 1) := by decide +kernel
theorem dX0_sumOf_3 : decode cX0_sumOf 3 = .ok (.istore_n 3, 1) := by decide +kernel
theorem dX0_sumOf_4 : decode cX0_sumOf 4 = .ok (.iload_n 3, 1) := by decide +kernel
theorem dX0_sumOf_5 : decode cX0_sumOf 5 = .ok (.aload_n 0, 1) := by decide +kernel
theorem dX0_sumOf_6 : decode cX0_sumOf 6 = .ok (.getfield 49, 3) := by decide +kernel
theorem dX0_sumOf_9 : decode cX0_sumOf 9 = .ok (.if_icmp .ge 20, 3) := by decide +kernel
theorem dX0_sumOf_12 : decode cX0_sumOf 12 = .ok (.iload_n 2, 1) := by decide +kernel
theorem dX0_sumOf_13 : decode cX0_sumOf 13 = .ok (.aload_n 0, 1) := by decide +kernel
theorem dX0_sumOf_14 : decode cX0_sumOf 14 = .ok (.getfield 22, 3) := by decide +kernel
theorem dX0_sumOf_17 : decode cX0_sumOf 17 = .ok (.iload_n 1, 1) := by decide +kernel
theorem dX0_sumOf_18 : decode cX0_sumOf 18 = .ok (.iload_n 3, 1) := by decide +kernel
theorem dX0_sumOf_19 : decode cX0_sumOf 19 = .ok (.iadd, 1) := by decide +kernel
theorem dX0_sumOf_20 : decode cX0_sumOf 20 = .ok (.iaload, 1) := by decide +kernel
theorem dX0_sumOf_21 : decode cX0_sumOf 21 = .ok (.iadd, 1) := by decide +kernel
theorem dX0_sumOf_22 : decode cX0_sumOf 22 = .ok (.istore_n 2, 1) := by decide +kernel
theorem dX0_sumOf_23 : decode cX0_sumOf 23 = .ok (.iinc 3 1, 3) := by decide +kernel
theorem dX0_sumOf_26 : decode cX0_sumOf 26 = .ok (.goto (-22), 3) := by decide +kernel
theorem dX0_sumOf_29 : decode cX0_sumOf 29 = .ok (.iload_n 2, 1) := by decide +kernel
theorem dX0_sumOf_30 : decode cX0_sumOf 30 = .ok (.ireturn, 1) := by decide +kernel
theorem dX0_widestTwo_0 : decode cX0_widestTwo 0 = .ok (.iconst (-1), 1) := by decide +kernel
theorem dX0_widestTwo_1 : decode cX0_widestTwo 1 = .ok (.istore_n 1, 1) := by decide +kernel
theorem dX0_widestTwo_2 : decode cX0_widestTwo 2 = .ok (.iconst (-1), 1) := by decide +kernel
theorem dX0_widestTwo_3 : decode cX0_widestTwo 3 = .ok (.istore_n 2, 1) := by decide +kernel
theorem dX0_widestTwo_4 : decode cX0_widestTwo 4 = .ok (.iconst 0, 1) := by decide +kernel
theorem dX0_widestTwo_5 : decode cX0_widestTwo 5 = .ok (.istore_n 3, 1) := by decide +kernel
theorem dX0_widestTwo_6 : decode cX0_widestTwo 6 = .ok (.iload_n 3, 1) := by decide +kernel
theorem dX0_widestTwo_7 : decode cX0_widestTwo 7 = .ok (.aload_n 0, 1) := by decide +kernel
theorem dX0_widestTwo_8 : decode cX0_widestTwo 8 = .ok (.getfield 49, 3) := by decide +kernel
theorem dX0_widestTwo_11 : decode cX0_widestTwo 11 = .ok (.if_icmp .ge 56, 3) := by decide +kernel
theorem dX0_widestTwo_14 : decode cX0_widestTwo 14 = .ok (.iload_n 3, 1) := by decide +kernel
theorem dX0_widestTwo_15 : decode cX0_widestTwo 15 = .ok (.iconst 1, 1) := by decide +kernel
theorem dX0_widestTwo_16 : decode cX0_widestTwo 16 = .ok (.iadd, 1) := by decide +kernel
theorem dX0_widestTwo_17 : decode cX0_widestTwo 17 = .ok (.istore 4, 2) := by decide +kernel
theorem dX0_widestTwo_19 : decode cX0_widestTwo 19 = .ok (.iload 4, 2) := by decide +kernel
theorem dX0_widestTwo_21 : decode cX0_widestTwo 21 = .ok (.aload_n 0, 1) := by decide +kernel
theorem dX0_widestTwo_22 : decode cX0_widestTwo 22 = .ok (.getfield 49, 3) := by decide +kernel
theorem dX0_widestTwo_25 : decode cX0_widestTwo 25 = .ok (.if_icmp .ge 36, 3) := by decide +kernel
theorem dX0_widestTwo_28 : decode cX0_widestTwo 28 = .ok (.aload_n 0, 1) := by decide +kernel
theorem dX0_widestTwo_29 : decode cX0_widestTwo 29 = .ok (.iload_n 3, 1) := by decide +kernel
theorem dX0_widestTwo_30 : decode cX0_widestTwo 30 = .ok (.iload 4, 2) := by decide +kernel
theorem dX0_widestTwo_32 : decode cX0_widestTwo 32 = .ok (.invokevirtual 84, 3) := by decide +kernel
theorem dX0_widestTwo_35 : decode cX0_widestTwo 35 = .ok (.iload_n 1, 1) := by decide +kernel
theorem dX0_widestTwo_36 : decode cX0_widestTwo 36 = .ok (.if_icmp .le 19, 3) := by decide +kernel
theorem dX0_widestTwo_39 : decode cX0_widestTwo 39 = .ok (.aload_n 0, 1) := by decide +kernel
theorem dX0_widestTwo_40 : decode cX0_widestTwo 40 = .ok (.iload_n 3, 1) := by decide +kernel
theorem dX0_widestTwo_41 : decode cX0_widestTwo 41 = .ok (.iload 4, 2) := by decide +kernel
theorem dX0_widestTwo_43 : decode cX0_widestTwo 43 = .ok (.invokevirtual 84, 3) := by decide +kernel
theorem dX0_widestTwo_46 : decode cX0_widestTwo 46 = .ok (.istore_n 1, 1) := by decide +kernel
theorem dX0_widestTwo_47 : decode cX0_widestTwo 47 = .ok (.bipush 8, 2) := by decide +kernel
theorem dX0_widestTwo_49 : decode cX0_widestTwo 49 = .ok (.iload_n 3, 1) := by decide +kernel
theorem dX0_widestTwo_50 : decode cX0_widestTwo 50 = .ok (.imul, 1) := by decide +kernel
theorem dX0_widestTwo_51 : decode cX0_widestTwo 51 = .ok (.iload 4, 2) := by decide +kernel
theorem dX0_widestTwo_53 : decode cX0_widestTwo 53 = .ok (.iadd, 1) := by decide +kernel
theorem dX0_widestTwo_54 : decode cX0_widestTwo 54 = .ok (.istore_n 2, 1) := by decide +kernel
theorem dX0_widestTwo_55 : decode cX0_widestTwo 55 = .ok (.iinc 4 1, 3) := by decide +kernel
theorem dX0_widestTwo_58 : decode cX0_widestTwo 58 = .ok (.goto (-39), 3) := by decide +kernel
theorem dX0_widestTwo_61 : decode cX0_widestTwo 61 = .ok (.iinc 3 1, 3) := by decide +kernel
theorem dX0_widestTwo_64 : decode cX0_widestTwo 64 = .ok (.goto (-58), 3) := by decide +kernel
theorem dX0_widestTwo_67 : decode cX0_widestTwo 67 = .ok (.iload_n 2, 1) := by decide +kernel
theorem dX0_widestTwo_68 : decode cX0_widestTwo 68 = .ok (.ireturn, 1) := by decide +kernel
theorem dX0_reconcileSet_0 : decode cX0_reconcileSet 0 = .ok (.iconst 0, 1) := by decide +kernel
theorem dX0_reconcileSet_1 : decode cX0_reconcileSet 1 = .ok (.istore_n 2, 1) := by decide +kernel
theorem dX0_reconcileSet_2 : decode cX0_reconcileSet 2 = .ok (.iload_n 2, 1) := by decide +kernel
theorem dX0_reconcileSet_3 : decode cX0_reconcileSet 3 = .ok (.aload_n 0, 1) := by decide +kernel
theorem dX0_reconcileSet_4 : decode cX0_reconcileSet 4 = .ok (.getfield 49, 3) := by decide +kernel
theorem dX0_reconcileSet_7 : decode cX0_reconcileSet 7 = .ok (.if_icmp .ge 52, 3) := by decide +kernel
theorem dX0_reconcileSet_10 : decode cX0_reconcileSet 10 = .ok (.iload_n 2, 1) := by decide +kernel
theorem dX0_reconcileSet_11 : decode cX0_reconcileSet 11 = .ok (.iconst 1, 1) := by decide +kernel
theorem dX0_reconcileSet_12 : decode cX0_reconcileSet 12 = .ok (.iadd, 1) := by decide +kernel
theorem dX0_reconcileSet_13 : decode cX0_reconcileSet 13 = .ok (.istore_n 3, 1) := by decide +kernel
theorem dX0_reconcileSet_14 : decode cX0_reconcileSet 14 = .ok (.iload_n 3, 1) := by decide +kernel
theorem dX0_reconcileSet_15 : decode cX0_reconcileSet 15 = .ok (.aload_n 0, 1) := by decide +kernel
theorem dX0_reconcileSet_16 : decode cX0_reconcileSet 16 = .ok (.getfield 49, 3) := by decide +kernel
theorem dX0_reconcileSet_19 : decode cX0_reconcileSet 19 = .ok (.if_icmp .ge 34, 3) := by decide +kernel
theorem dX0_reconcileSet_22 : decode cX0_reconcileSet 22 = .ok (.iload_n 1, 1) := by decide +kernel
theorem dX0_reconcileSet_23 : decode cX0_reconcileSet 23 = .ok (.iload_n 2, 1) := by decide +kernel
theorem dX0_reconcileSet_24 : decode cX0_reconcileSet 24 = .ok (.ishr, 1) := by decide +kernel
theorem dX0_reconcileSet_25 : decode cX0_reconcileSet 25 = .ok (.iconst 1, 1) := by decide +kernel
theorem dX0_reconcileSet_26 : decode cX0_reconcileSet 26 = .ok (.iand, 1) := by decide +kernel
theorem dX0_reconcileSet_27 : decode cX0_reconcileSet 27 = .ok (.iconst 1, 1) := by decide +kernel
theorem dX0_reconcileSet_28 : decode cX0_reconcileSet 28 = .ok (.if_icmp .ne 19, 3) := by decide +kernel
theorem dX0_reconcileSet_31 : decode cX0_reconcileSet 31 = .ok (.iload_n 1, 1) := by decide +kernel
theorem dX0_reconcileSet_32 : decode cX0_reconcileSet 32 = .ok (.iload_n 3, 1) := by decide +kernel
theorem dX0_reconcileSet_33 : decode cX0_reconcileSet 33 = .ok (.ishr, 1) := by decide +kernel
theorem dX0_reconcileSet_34 : decode cX0_reconcileSet 34 = .ok (.iconst 1, 1) := by decide +kernel
theorem dX0_reconcileSet_35 : decode cX0_reconcileSet 35 = .ok (.iand, 1) := by decide +kernel
theorem dX0_reconcileSet_36 : decode cX0_reconcileSet 36 = .ok (.iconst 1, 1) := by decide +kernel
theorem dX0_reconcileSet_37 : decode cX0_reconcileSet 37 = .ok (.if_icmp .ne 10, 3) := by decide +kernel
theorem dX0_reconcileSet_40 : decode cX0_reconcileSet 40 = .ok (.aload_n 0, 1) := by decide +kernel
theorem dX0_reconcileSet_41 : decode cX0_reconcileSet 41 = .ok (.iload_n 2, 1) := by decide +kernel
theorem dX0_reconcileSet_42 : decode cX0_reconcileSet 42 = .ok (.iload_n 3, 1) := by decide +kernel
theorem dX0_reconcileSet_43 : decode cX0_reconcileSet 43 = .ok (.iconst 0, 1) := by decide +kernel
theorem dX0_reconcileSet_44 : decode cX0_reconcileSet 44 = .ok (.invokevirtual 122, 3) := by decide +kernel
theorem dX0_reconcileSet_47 : decode cX0_reconcileSet 47 = .ok (.iinc 3 1, 3) := by decide +kernel
theorem dX0_reconcileSet_50 : decode cX0_reconcileSet 50 = .ok (.goto (-36), 3) := by decide +kernel
theorem dX0_reconcileSet_53 : decode cX0_reconcileSet 53 = .ok (.iinc 2 1, 3) := by decide +kernel
theorem dX0_reconcileSet_56 : decode cX0_reconcileSet 56 = .ok (.goto (-54), 3) := by decide +kernel
theorem dX0_reconcileSet_59 : decode cX0_reconcileSet 59 = .ok (.return_, 1) := by decide +kernel
theorem dX0_drawMarket_0 : decode cX0_drawMarket 0 = .ok (.aload_n 0, 1) := by decide +kernel
theorem dX0_drawMarket_1 : decode cX0_drawMarket 1 = .ok (.invokevirtual 129, 3) := by decide +kernel
theorem dX0_drawMarket_4 : decode cX0_drawMarket 4 = .ok (.bipush 8, 2) := by decide +kernel
theorem dX0_drawMarket_6 : decode cX0_drawMarket 6 = .ok (.irem, 1) := by decide +kernel
theorem dX0_drawMarket_7 : decode cX0_drawMarket 7 = .ok (.istore_n 1, 1) := by decide +kernel
theorem dX0_drawMarket_8 : decode cX0_drawMarket 8 = .ok (.aload_n 0, 1) := by decide +kernel
theorem dX0_drawMarket_9 : decode cX0_drawMarket 9 = .ok (.invokevirtual 129, 3) := by decide +kernel
theorem dX0_drawMarket_12 : decode cX0_drawMarket 12 = .ok (.bipush 8, 2) := by decide +kernel
theorem dX0_drawMarket_14 : decode cX0_drawMarket 14 = .ok (.irem, 1) := by decide +kernel
theorem dX0_drawMarket_15 : decode cX0_drawMarket 15 = .ok (.istore_n 2, 1) := by decide +kernel
theorem dX0_drawMarket_16 : decode cX0_drawMarket 16 = .ok (.aload_n 0, 1) := by decide +kernel
theorem dX0_drawMarket_17 : decode cX0_drawMarket 17 = .ok (.getfield 18, 3) := by decide +kernel
theorem dX0_drawMarket_20 : decode cX0_drawMarket 20 = .ok (.aload_n 0, 1) := by decide +kernel
theorem dX0_drawMarket_21 : decode cX0_drawMarket 21 = .ok (.getfield 46, 3) := by decide +kernel
theorem dX0_drawMarket_24 : decode cX0_drawMarket 24 = .ok (.bipush 6, 2) := by decide +kernel
theorem dX0_drawMarket_26 : decode cX0_drawMarket 26 = .ok (.irem, 1) := by decide +kernel
theorem dX0_drawMarket_27 : decode cX0_drawMarket 27 = .ok (.bipush 10, 2) := by decide +kernel
theorem dX0_drawMarket_29 : decode cX0_drawMarket 29 = .ok (.iload_n 1, 1) := by decide +kernel
theorem dX0_drawMarket_30 : decode cX0_drawMarket 30 = .ok (.imul, 1) := by decide +kernel
theorem dX0_drawMarket_31 : decode cX0_drawMarket 31 = .ok (.iload_n 2, 1) := by decide +kernel
theorem dX0_drawMarket_32 : decode cX0_drawMarket 32 = .ok (.iadd, 1) := by decide +kernel
theorem dX0_drawMarket_33 : decode cX0_drawMarket 33 = .ok (.iastore, 1) := by decide +kernel
theorem dX0_drawMarket_34 : decode cX0_drawMarket 34 = .ok (.aload_n 0, 1) := by decide +kernel
theorem dX0_drawMarket_35 : decode cX0_drawMarket 35 = .ok (.iconst 1, 1) := by decide +kernel
theorem dX0_drawMarket_36 : decode cX0_drawMarket 36 = .ok (.aload_n 0, 1) := by decide +kernel
theorem dX0_drawMarket_37 : decode cX0_drawMarket 37 = .ok (.invokevirtual 129, 3) := by decide +kernel
theorem dX0_drawMarket_40 : decode cX0_drawMarket 40 = .ok (.bipush 20, 2) := by decide +kernel
theorem dX0_drawMarket_42 : decode cX0_drawMarket 42 = .ok (.irem, 1) := by decide +kernel
theorem dX0_drawMarket_43 : decode cX0_drawMarket 43 = .ok (.iadd, 1) := by decide +kernel
theorem dX0_drawMarket_44 : decode cX0_drawMarket 44 = .ok (.putfield 9, 3) := by decide +kernel
theorem dX0_drawMarket_47 : decode cX0_drawMarket 47 = .ok (.return_, 1) := by decide +kernel
theorem dX0_draw_0 : decode cX0_draw 0 = .ok (.aload_n 0, 1) := by decide +kernel
theorem dX0_draw_1 : decode cX0_draw 1 = .ok (.aload_n 0, 1) := by decide +kernel
theorem dX0_draw_2 : decode cX0_draw 2 = .ok (.getfield 15, 3) := by decide +kernel
theorem dX0_draw_5 : decode cX0_draw 5 = .ok (.ldc 133, 2) := by decide +kernel
theorem dX0_draw_7 : decode cX0_draw 7 = .ok (.imul, 1) := by decide +kernel
theorem dX0_draw_8 : decode cX0_draw 8 = .ok (.sipush 12345, 3) := by decide +kernel
theorem dX0_draw_11 : decode cX0_draw 11 = .ok (.iadd, 1) := by decide +kernel
theorem dX0_draw_12 : decode cX0_draw 12 = .ok (.putfield 15, 3) := by decide +kernel
theorem dX0_draw_15 : decode cX0_draw 15 = .ok (.aload_n 0, 1) := by decide +kernel
theorem dX0_draw_16 : decode cX0_draw 16 = .ok (.getfield 15, 3) := by decide +kernel
theorem dX0_draw_19 : decode cX0_draw 19 = .ok (.bipush 8, 2) := by decide +kernel
theorem dX0_draw_21 : decode cX0_draw 21 = .ok (.iushr, 1) := by decide +kernel
theorem dX0_draw_22 : decode cX0_draw 22 = .ok (.ireturn, 1) := by decide +kernel
theorem dX0_spotsHeld_0 : decode cX0_spotsHeld 0 = .ok (.iconst 0, 1) := by decide +kernel
theorem dX0_spotsHeld_1 : decode cX0_spotsHeld 1 = .ok (.istore_n 1, 1) := by decide +kernel
theorem dX0_spotsHeld_2 : decode cX0_spotsHeld 2 = .ok (.iconst 0, 1) := by decide +kernel
theorem dX0_spotsHeld_3 : decode cX0_spotsHeld 3 = .ok (.istore_n 2, 1) := by decide +kernel
theorem dX0_spotsHeld_4 : decode cX0_spotsHeld 4 = .ok (.iload_n 2, 1) := by decide +kernel
theorem dX0_spotsHeld_5 : decode cX0_spotsHeld 5 = .ok (.bipush 10, 2) := by decide +kernel
theorem dX0_spotsHeld_7 : decode cX0_spotsHeld 7 = .ok (.if_icmp .ge 22, 3) := by decide +kernel
theorem dX0_spotsHeld_10 : decode cX0_spotsHeld 10 = .ok (.aload_n 0, 1) := by decide +kernel
theorem dX0_spotsHeld_11 : decode cX0_spotsHeld 11 = .ok (.getfield 28, 3) := by decide +kernel
theorem dX0_spotsHeld_14 : decode cX0_spotsHeld 14 = .ok (.iload_n 2, 1) := by decide +kernel
theorem dX0_spotsHeld_15 : decode cX0_spotsHeld 15 = .ok (.iaload, 1) := by decide +kernel
theorem dX0_spotsHeld_16 : decode cX0_spotsHeld 16 = .ok (.iconst (-1), 1) := by decide +kernel
theorem dX0_spotsHeld_17 : decode cX0_spotsHeld 17 = .ok (.if_icmp .eq 6, 3) := by decide +kernel
theorem dX0_spotsHeld_20 : decode cX0_spotsHeld 20 = .ok (.iinc 1 1, 3) := by decide +kernel
theorem dX0_spotsHeld_23 : decode cX0_spotsHeld 23 = .ok (.iinc 2 1, 3) := by decide +kernel
theorem dX0_spotsHeld_26 : decode cX0_spotsHeld 26 = .ok (.goto (-22), 3) := by decide +kernel
theorem dX0_spotsHeld_29 : decode cX0_spotsHeld 29 = .ok (.iload_n 1, 1) := by decide +kernel
theorem dX0_spotsHeld_30 : decode cX0_spotsHeld 30 = .ok (.ireturn, 1) := by decide +kernel
theorem dX1_init_0 : decode cX1_init 0 = .ok (.aload_n 0, 1) := by decide +kernel
theorem dX1_init_1 : decode cX1_init 1 = .ok (.invokespecial 3, 3) := by decide +kernel
theorem dX1_init_4 : decode cX1_init 4 = .ok (.aload_n 0, 1) := by decide +kernel
theorem dX1_init_5 : decode cX1_init 5 = .ok (.aload_n 1, 1) := by decide +kernel
theorem dX1_init_6 : decode cX1_init 6 = .ok (.putfield 9, 3) := by decide +kernel
theorem dX1_init_9 : decode cX1_init 9 = .ok (.aload_n 0, 1) := by decide +kernel
theorem dX1_init_10 : decode cX1_init 10 = .ok (.aload_n 2, 1) := by decide +kernel
theorem dX1_init_11 : decode cX1_init 11 = .ok (.putfield 15, 3) := by decide +kernel
theorem dX1_init_14 : decode cX1_init 14 = .ok (.aload_n 0, 1) := by decide +kernel
theorem dX1_init_15 : decode cX1_init 15 = .ok (.bipush 121, 2) := by decide +kernel
theorem dX1_init_17 : decode cX1_init 17 = .ok (.newarray .int, 2) := by decide +kernel
theorem dX1_init_19 : decode cX1_init 19 = .ok (.putfield 19, 3) := by decide +kernel
theorem dX1_init_22 : decode cX1_init 22 = .ok (.aload_n 0, 1) := by decide +kernel
theorem dX1_init_23 : decode cX1_init 23 = .ok (.bipush 121, 2) := by decide +kernel
theorem dX1_init_25 : decode cX1_init 25 = .ok (.newarray .int, 2) := by decide +kernel
theorem dX1_init_27 : decode cX1_init 27 = .ok (.putfield 23, 3) := by decide +kernel
theorem dX1_init_30 : decode cX1_init 30 = .ok (.return_, 1) := by decide +kernel
theorem dX1_hasFault_0 : decode cX1_hasFault 0 = .ok (.aload_n 0, 1) := by decide +kernel
theorem dX1_hasFault_1 : decode cX1_hasFault 1 = .ok (.getfield 26, 3) := by decide +kernel
theorem dX1_hasFault_4 : decode cX1_hasFault 4 = .ok (.iconst (-1), 1) := by decide +kernel
theorem dX1_hasFault_5 : decode cX1_hasFault 5 = .ok (.if_icmp .eq 7, 3) := by decide +kernel
theorem dX1_hasFault_8 : decode cX1_hasFault 8 = .ok (.iconst 1, 1) := by decide +kernel
theorem dX1_hasFault_9 : decode cX1_hasFault 9 = .ok (.goto 4, 3) := by decide +kernel
theorem dX1_hasFault_12 : decode cX1_hasFault 12 = .ok (.iconst 0, 1) := by decide +kernel
theorem dX1_hasFault_13 : decode cX1_hasFault 13 = .ok (.ireturn, 1) := by decide +kernel
theorem dX1_splitTape_0 : decode cX1_splitTape 0 = .ok (.iconst 0, 1) := by decide +kernel
theorem dX1_splitTape_1 : decode cX1_splitTape 1 = .ok (.istore_n 1, 1) := by decide +kernel
theorem dX1_splitTape_2 : decode cX1_splitTape 2 = .ok (.iconst 0, 1) := by decide +kernel
theorem dX1_splitTape_3 : decode cX1_splitTape 3 = .ok (.istore_n 2, 1) := by decide +kernel
theorem dX1_splitTape_4 : decode cX1_splitTape 4 = .ok (.iload_n 2, 1) := by decide +kernel
theorem dX1_splitTape_5 : decode cX1_splitTape 5 = .ok (.aload_n 0, 1) := by decide +kernel
theorem dX1_splitTape_6 : decode cX1_splitTape 6 = .ok (.getfield 9, 3) := by decide +kernel
theorem dX1_splitTape_9 : decode cX1_splitTape 9 = .ok (.getfield 30, 3) := by decide +kernel
theorem dX1_splitTape_12 : decode cX1_splitTape 12 = .ok (.if_icmp .ge 52, 3) := by decide +kernel
theorem dX1_splitTape_15 : decode cX1_splitTape 15 = .ok (.aload_n 0, 1) := by decide +kernel
theorem dX1_splitTape_16 : decode cX1_splitTape 16 = .ok (.getfield 9, 3) := by decide +kernel
theorem dX1_splitTape_19 : decode cX1_splitTape 19 = .ok (.getfield 35, 3) := by decide +kernel
theorem dX1_splitTape_22 : decode cX1_splitTape 22 = .ok (.iload_n 2, 1) := by decide +kernel
theorem dX1_splitTape_23 : decode cX1_splitTape 23 = .ok (.iaload, 1) := by decide +kernel
theorem dX1_splitTape_24 : decode cX1_splitTape 24 = .ok (.bipush 32, 2) := by decide +kernel
theorem dX1_splitTape_26 : decode cX1_splitTape 26 = .ok (.if_icmp .eq 32, 3) := by decide +kernel
theorem dX1_splitTape_29 : decode cX1_splitTape 29 = .ok (.aload_n 0, 1) := by decide +kernel
theorem dX1_splitTape_30 : decode cX1_splitTape 30 = .ok (.iload_n 2, 1) := by decide +kernel
theorem dX1_splitTape_31 : decode cX1_splitTape 31 = .ok (.invokevirtual 38, 3) := by decide +kernel
theorem dX1_splitTape_34 : decode cX1_splitTape 34 = .ok (.ifCond .ne 24, 3) := by decide +kernel
theorem dX1_splitTape_37 : decode cX1_splitTape 37 = .ok (.aload_n 0, 1) := by decide +kernel
theorem dX1_splitTape_38 : decode cX1_splitTape 38 = .ok (.getfield 19, 3) := by decide +kernel
theorem dX1_splitTape_41 : decode cX1_splitTape 41 = .ok (.iload_n 1, 1) := by decide +kernel
theorem dX1_splitTape_42 : decode cX1_splitTape 42 = .ok (.aload_n 0, 1) := by decide +kernel
theorem dX1_splitTape_43 : decode cX1_splitTape 43 = .ok (.iload_n 2, 1) := by decide +kernel
theorem dX1_splitTape_44 : decode cX1_splitTape 44 = .ok (.invokevirtual 42, 3) := by decide +kernel
theorem dX1_splitTape_47 : decode cX1_splitTape 47 = .ok (.iastore, 1) := by decide +kernel
theorem dX1_splitTape_48 : decode cX1_splitTape 48 = .ok (.aload_n 0, 1) := by decide +kernel
theorem dX1_splitTape_49 : decode cX1_splitTape 49 = .ok (.getfield 23, 3) := by decide +kernel
theorem dX1_splitTape_52 : decode cX1_splitTape 52 = .ok (.iload_n 1, 1) := by decide +kernel
theorem dX1_splitTape_53 : decode cX1_splitTape 53 = .ok (.iload_n 2, 1) := by decide +kernel
theorem dX1_splitTape_54 : decode cX1_splitTape 54 = .ok (.iastore, 1) := by decide +kernel
theorem dX1_splitTape_55 : decode cX1_splitTape 55 = .ok (.iinc 1 1, 3) := by decide +kernel
theorem dX1_splitTape_58 : decode cX1_splitTape 58 = .ok (.iinc 2 1, 3) := by decide +kernel
theorem dX1_splitTape_61 : decode cX1_splitTape 61 = .ok (.goto (-57), 3) := by decide +kernel
theorem dX1_splitTape_64 : decode cX1_splitTape 64 = .ok (.aload_n 0, 1) := by decide +kernel
theorem dX1_splitTape_65 : decode cX1_splitTape 65 = .ok (.getfield 19, 3) := by decide +kernel
theorem dX1_splitTape_68 : decode cX1_splitTape 68 = .ok (.iload_n 1, 1) := by decide +kernel
theorem dX1_splitTape_69 : decode cX1_splitTape 69 = .ok (.iconst (-1), 1) := by decide +kernel
theorem dX1_splitTape_70 : decode cX1_splitTape 70 = .ok (.iastore, 1) := by decide +kernel
theorem dX1_splitTape_71 : decode cX1_splitTape 71 = .ok (.aload_n 0, 1) := by decide +kernel
theorem dX1_splitTape_72 : decode cX1_splitTape 72 = .ok (.getfield 23, 3) := by decide +kernel
theorem dX1_splitTape_75 : decode cX1_splitTape 75 = .ok (.iload_n 1, 1) := by decide +kernel
theorem dX1_splitTape_76 : decode cX1_splitTape 76 = .ok (.aload_n 0, 1) := by decide +kernel
theorem dX1_splitTape_77 : decode cX1_splitTape 77 = .ok (.getfield 9, 3) := by decide +kernel
theorem dX1_splitTape_80 : decode cX1_splitTape 80 = .ok (.getfield 30, 3) := by decide +kernel
theorem dX1_splitTape_83 : decode cX1_splitTape 83 = .ok (.iastore, 1) := by decide +kernel
theorem dX1_splitTape_84 : decode cX1_splitTape 84 = .ok (.return_, 1) := by decide +kernel
theorem dX1_readItems_0 : decode cX1_readItems 0 = .ok (.aload_n 0, 1) := by decide +kernel
theorem dX1_readItems_1 : decode cX1_readItems 1 = .ok (.iconst (-1), 1) := by decide +kernel
theorem dX1_readItems_2 : decode cX1_readItems 2 = .ok (.putfield 26, 3) := by decide +kernel
theorem dX1_readItems_5 : decode cX1_readItems 5 = .ok (.aload_n 0, 1) := by decide +kernel
theorem dX1_readItems_6 : decode cX1_readItems 6 = .ok (.iconst 0, 1) := by decide +kernel
theorem dX1_readItems_7 : decode cX1_readItems 7 = .ok (.putfield 46, 3) := by decide +kernel
theorem dX1_readItems_10 : decode cX1_readItems 10 = .ok (.iconst 0, 1) := by decide +kernel
theorem dX1_readItems_11 : decode cX1_readItems 11 = .ok (.istore_n 1, 1) := by decide +kernel
theorem dX1_readItems_12 : decode cX1_readItems 12 = .ok (.iload_n 1, 1) := by decide +kernel
theorem dX1_readItems_13 : decode cX1_readItems 13 = .ok (.bipush 120, 2) := by decide +kernel
theorem dX1_readItems_15 : decode cX1_readItems 15 = .ok (.if_icmp .ge 42, 3) := by decide +kernel
theorem dX1_readItems_18 : decode cX1_readItems 18 = .ok (.aload_n 0, 1) := by decide +kernel
theorem dX1_readItems_19 : decode cX1_readItems 19 = .ok (.invokevirtual 49, 3) := by decide +kernel
theorem dX1_readItems_22 : decode cX1_readItems 22 = .ok (.ifCond .ne 35, 3) := by decide +kernel
theorem dX1_readItems_25 : decode cX1_readItems 25 = .ok (.aload_n 0, 1) := by decide +kernel
theorem dX1_readItems_26 : decode cX1_readItems 26 = .ok (.invokevirtual 53, 3) := by decide +kernel
theorem dX1_readItems_29 : decode cX1_readItems 29 = .ok (.iinc 1 1, 3) := by decide +kernel
theorem dX1_readItems_32 : decode cX1_readItems 32 = .ok (.aload_n 0, 1) := by decide +kernel
theorem dX1_readItems_33 : decode cX1_readItems 33 = .ok (.getfield 19, 3) := by decide +kernel
theorem dX1_readItems_36 : decode cX1_readItems 36 = .ok (.aload_n 0, 1) := by decide +kernel
theorem dX1_readItems_37 : decode cX1_readItems 37 = .ok (.getfield 46, 3) := by decide +kernel
theorem dX1_readItems_40 : decode cX1_readItems 40 = .ok (.iaload, 1) := by decide +kernel
theorem dX1_readItems_41 : decode cX1_readItems 41 = .ok (.iconst (-1), 1) := by decide +kernel
theorem dX1_readItems_42 : decode cX1_readItems 42 = .ok (.if_icmp .ne 6, 3) := by decide +kernel
theorem dX1_readItems_45 : decode cX1_readItems 45 = .ok (.goto 12, 3) := by decide +kernel
theorem dX1_readItems_48 : decode cX1_readItems 48 = .ok (.aload_n 0, 1) := by decide +kernel
theorem dX1_readItems_49 : decode cX1_readItems 49 = .ok (.bipush (-2), 2) := by decide +kernel
theorem dX1_readItems_51 : decode cX1_readItems 51 = .ok (.invokevirtual 56, 3) := by decide +kernel
theorem dX1_readItems_54 : decode cX1_readItems 54 = .ok (.goto (-42), 3) := by decide +kernel
theorem dX1_readItems_57 : decode cX1_readItems 57 = .ok (.iload_n 1, 1) := by decide +kernel
theorem dX1_readItems_58 : decode cX1_readItems 58 = .ok (.ireturn, 1) := by decide +kernel
theorem dX1_readItem_0 : decode cX1_readItem 0 = .ok (.bipush (-10), 2) := by decide +kernel
theorem dX1_readItem_2 : decode cX1_readItem 2 = .ok (.aload_n 0, 1) := by decide +kernel
theorem dX1_readItem_3 : decode cX1_readItem 3 = .ok (.getfield 19, 3) := by decide +kernel
theorem dX1_readItem_6 : decode cX1_readItem 6 = .ok (.aload_n 0, 1) := by decide +kernel
theorem dX1_readItem_7 : decode cX1_readItem 7 = .ok (.getfield 46, 3) := by decide +kernel
theorem dX1_readItem_10 : decode cX1_readItem 10 = .ok (.iaload, 1) := by decide +kernel
theorem dX1_readItem_11 : decode cX1_readItem 11 = .ok (.isub, 1) := by decide +kernel
theorem dX1_readItem_12 : decode cX1_readItem 12 = .ok (.istore_n 1, 1) := by decide +kernel
theorem dX1_readItem_13 : decode cX1_readItem 13 = .ok (.iload_n 1, 1) := by decide +kernel
theorem dX1_readItem_14 : decode cX1_readItem 14 = .ok (.iconst 0, 1) := by decide +kernel
theorem dX1_readItem_15 : decode cX1_readItem 15 = .ok (.bipush 6, 2) := by decide +kernel
theorem dX1_readItem_17 : decode cX1_readItem 17 = .ok (.invokestatic 60, 3) := by decide +kernel
theorem dX1_readItem_20 : decode cX1_readItem 20 = .ok (.ifCond .eq 11, 3) := by decide +kernel
theorem dX1_readItem_23 : decode cX1_readItem 23 = .ok (.aload_n 0, 1) := by decide +kernel
theorem dX1_readItem_24 : decode cX1_readItem 24 = .ok (.iload_n 1, 1) := by decide +kernel
theorem dX1_readItem_25 : decode cX1_readItem 25 = .ok (.invokevirtual 64, 3) := by decide +kernel
theorem dX1_readItem_28 : decode cX1_readItem 28 = .ok (.goto 46, 3) := by decide +kernel
theorem dX1_readItem_31 : decode cX1_readItem 31 = .ok (.iload_n 1, 1) := by decide +kernel
theorem dX1_readItem_32 : decode cX1_readItem 32 = .ok (.bipush 7, 2) := by decide +kernel
theorem dX1_readItem_34 : decode cX1_readItem 34 = .ok (.if_icmp .ne 10, 3) := by decide +kernel
theorem dX1_readItem_37 : decode cX1_readItem 37 = .ok (.aload_n 0, 1) := by decide +kernel
theorem dX1_readItem_38 : decode cX1_readItem 38 = .ok (.invokevirtual 67, 3) := by decide +kernel
theorem dX1_readItem_41 : decode cX1_readItem 41 = .ok (.goto 33, 3) := by decide +kernel
theorem dX1_readItem_44 : decode cX1_readItem 44 = .ok (.iload_n 1, 1) := by decide +kernel
theorem dX1_readItem_45 : decode cX1_readItem 45 = .ok (.bipush 8, 2) := by decide +kernel
theorem dX1_readItem_47 : decode cX1_readItem 47 = .ok (.if_icmp .ne 10, 3) := by decide +kernel
theorem dX1_readItem_50 : decode cX1_readItem 50 = .ok (.aload_n 0, 1) := by decide +kernel
theorem dX1_readItem_51 : decode cX1_readItem 51 = .ok (.invokevirtual 70, 3) := by decide +kernel
theorem dX1_readItem_54 : decode cX1_readItem 54 = .ok (.goto 20, 3) := by decide +kernel
theorem dX1_readItem_57 : decode cX1_readItem 57 = .ok (.iload_n 1, 1) := by decide +kernel
theorem dX1_readItem_58 : decode cX1_readItem 58 = .ok (.bipush 9, 2) := by decide +kernel
theorem dX1_readItem_60 : decode cX1_readItem 60 = .ok (.if_icmp .ne 10, 3) := by decide +kernel
theorem dX1_readItem_63 : decode cX1_readItem 63 = .ok (.aload_n 0, 1) := by decide +kernel
theorem dX1_readItem_64 : decode cX1_readItem 64 = .ok (.invokevirtual 73, 3) := by decide +kernel
theorem dX1_readItem_67 : decode cX1_readItem 67 = .ok (.goto 7, 3) := by decide +kernel
theorem dX1_readItem_70 : decode cX1_readItem 70 = .ok (.aload_n 0, 1) := by decide +kernel
theorem dX1_readItem_71 : decode cX1_readItem 71 = .ok (.invokevirtual 76, 3) := by decide +kernel
theorem dX1_readItem_74 : decode cX1_readItem 74 = .ok (.return_, 1) := by decide +kernel
theorem dX1_readPotter_0 : decode cX1_readPotter 0 = .ok (.aload_n 0, 1) := by decide +kernel
theorem dX1_readPotter_1 : decode cX1_readPotter 1 = .ok (.getfield 15, 3) := by decide +kernel
theorem dX1_readPotter_4 : decode cX1_readPotter 4 = .ok (.invokevirtual 79, 3) := by decide +kernel
theorem dX1_readPotter_7 : decode cX1_readPotter 7 = .ok (.ifCond .eq 8, 3) := by decide +kernel
theorem dX1_readPotter_10 : decode cX1_readPotter 10 = .ok (.aload_n 0, 1) := by decide +kernel
theorem dX1_readPotter_11 : decode cX1_readPotter 11 = .ok (.invokevirtual 76, 3) := by decide +kernel
theorem dX1_readPotter_14 : decode cX1_readPotter 14 = .ok (.return_, 1) := by decide +kernel
theorem dX1_readPotter_15 : decode cX1_readPotter 15 = .ok (.aload_n 0, 1) := by decide +kernel
theorem dX1_readPotter_16 : decode cX1_readPotter 16 = .ok (.invokevirtual 84, 3) := by decide +kernel
theorem dX1_readPotter_19 : decode cX1_readPotter 19 = .ok (.aload_n 0, 1) := by decide +kernel
theorem dX1_readPotter_20 : decode cX1_readPotter 20 = .ok (.bipush 10, 2) := by decide +kernel
theorem dX1_readPotter_22 : decode cX1_readPotter 22 = .ok (.bipush 30, 2) := by decide +kernel
theorem dX1_readPotter_24 : decode cX1_readPotter 24 = .ok (.invokevirtual 87, 3) := by decide +kernel
theorem dX1_readPotter_27 : decode cX1_readPotter 27 = .ok (.istore_n 2, 1) := by decide +kernel
theorem dX1_readPotter_28 : decode cX1_readPotter 28 = .ok (.aload_n 0, 1) := by decide +kernel
theorem dX1_readPotter_29 : decode cX1_readPotter 29 = .ok (.bipush 11, 2) := by decide +kernel
theorem dX1_readPotter_31 : decode cX1_readPotter 31 = .ok (.bipush 20, 2) := by decide +kernel
theorem dX1_readPotter_33 : decode cX1_readPotter 33 = .ok (.invokevirtual 87, 3) := by decide +kernel
theorem dX1_readPotter_36 : decode cX1_readPotter 36 = .ok (.istore_n 3, 1) := by decide +kernel
theorem dX1_readPotter_37 : decode cX1_readPotter 37 = .ok (.aload_n 0, 1) := by decide +kernel
theorem dX1_readPotter_38 : decode cX1_readPotter 38 = .ok (.bipush 12, 2) := by decide +kernel
theorem dX1_readPotter_40 : decode cX1_readPotter 40 = .ok (.iconst 0, 1) := by decide +kernel
theorem dX1_readPotter_41 : decode cX1_readPotter 41 = .ok (.invokevirtual 87, 3) := by decide +kernel
theorem dX1_readPotter_44 : decode cX1_readPotter 44 = .ok (.istore 4, 2) := by decide +kernel
theorem dX1_readPotter_46 : decode cX1_readPotter 46 = .ok (.aload_n 0, 1) := by decide +kernel
theorem dX1_readPotter_47 : decode cX1_readPotter 47 = .ok (.getfield 15, 3) := by decide +kernel
theorem dX1_readPotter_50 : decode cX1_readPotter 50 = .ok (.iload_n 1, 1) := by decide +kernel
theorem dX1_readPotter_51 : decode cX1_readPotter 51 = .ok (.iload_n 2, 1) := by decide +kernel
theorem dX1_readPotter_52 : decode cX1_readPotter 52 = .ok (.iload_n 3, 1) := by decide +kernel
theorem dX1_readPotter_53 : decode cX1_readPotter 53 = .ok (.iload 4, 2) := by decide +kernel
theorem dX1_readPotter_55 : decode cX1_readPotter 55 = .ok (.invokevirtual 91, 3) := by decide +kernel
theorem dX1_readPotter_58 : decode cX1_readPotter 58 = .ok (.pop, 1) := by decide +kernel
theorem dX1_readPotter_59 : decode cX1_readPotter 59 = .ok (.return_, 1) := by decide +kernel
theorem dX1_readPerhaps_0 : decode cX1_readPerhaps 0 = .ok (.aload_n 0, 1) := by decide +kernel
theorem dX1_readPerhaps_1 : decode cX1_readPerhaps 1 = .ok (.getfield 19, 3) := by decide +kernel
theorem dX1_readPerhaps_4 : decode cX1_readPerhaps 4 = .ok (.aload_n 0, 1) := by decide +kernel
theorem dX1_readPerhaps_5 : decode cX1_readPerhaps 5 = .ok (.getfield 46, 3) := by decide +kernel
theorem dX1_readPerhaps_8 : decode cX1_readPerhaps 8 = .ok (.iaload, 1) := by decide +kernel
theorem dX1_readPerhaps_9 : decode cX1_readPerhaps 9 = .ok (.bipush (-10), 2) := by decide +kernel
theorem dX1_readPerhaps_11 : decode cX1_readPerhaps 11 = .ok (.iload_n 1, 1) := by decide +kernel
theorem dX1_readPerhaps_12 : decode cX1_readPerhaps 12 = .ok (.isub, 1) := by decide +kernel
theorem dX1_readPerhaps_13 : decode cX1_readPerhaps 13 = .ok (.if_icmp .eq 5, 3) := by decide +kernel
theorem dX1_readPerhaps_16 : decode cX1_readPerhaps 16 = .ok (.iload_n 2, 1) := by decide +kernel
theorem dX1_readPerhaps_17 : decode cX1_readPerhaps 17 = .ok (.ireturn, 1) := by decide +kernel
theorem dX1_readPerhaps_18 : decode cX1_readPerhaps 18 = .ok (.aload_n 0, 1) := by decide +kernel
theorem dX1_readPerhaps_19 : decode cX1_readPerhaps 19 = .ok (.invokevirtual 84, 3) := by decide +kernel
theorem dX1_readPerhaps_22 : decode cX1_readPerhaps 22 = .ok (.aload_n 0, 1) := by decide +kernel
theorem dX1_readPerhaps_23 : decode cX1_readPerhaps 23 = .ok (.iconst 0, 1) := by decide +kernel
theorem dX1_readPerhaps_24 : decode cX1_readPerhaps 24 = .ok (.bipush 99, 2) := by decide +kernel
theorem dX1_readPerhaps_26 : decode cX1_readPerhaps 26 = .ok (.invokevirtual 95, 3) := by decide +kernel
theorem dX1_readPerhaps_29 : decode cX1_readPerhaps 29 = .ok (.ireturn, 1) := by decide +kernel
theorem dX1_readRift_0 : decode cX1_readRift 0 = .ok (.aload_n 0, 1) := by decide +kernel
theorem dX1_readRift_1 : decode cX1_readRift 1 = .ok (.invokevirtual 84, 3) := by decide +kernel
theorem dX1_readRift_4 : decode cX1_readRift 4 = .ok (.aload_n 0, 1) := by decide +kernel
theorem dX1_readRift_5 : decode cX1_readRift 5 = .ok (.iconst 0, 1) := by decide +kernel
theorem dX1_readRift_6 : decode cX1_readRift 6 = .ok (.aload_n 0, 1) := by decide +kernel
theorem dX1_readRift_7 : decode cX1_readRift 7 = .ok (.getfield 15, 3) := by decide +kernel
theorem dX1_readRift_10 : decode cX1_readRift 10 = .ok (.getfield 98, 3) := by decide +kernel
theorem dX1_readRift_13 : decode cX1_readRift 13 = .ok (.iconst 1, 1) := by decide +kernel
theorem dX1_readRift_14 : decode cX1_readRift 14 = .ok (.isub, 1) := by decide +kernel
theorem dX1_readRift_15 : decode cX1_readRift 15 = .ok (.invokevirtual 95, 3) := by decide +kernel
theorem dX1_readRift_18 : decode cX1_readRift 18 = .ok (.istore_n 1, 1) := by decide +kernel
theorem dX1_readRift_19 : decode cX1_readRift 19 = .ok (.aload_n 0, 1) := by decide +kernel
theorem dX1_readRift_20 : decode cX1_readRift 20 = .ok (.getfield 19, 3) := by decide +kernel
theorem dX1_readRift_23 : decode cX1_readRift 23 = .ok (.aload_n 0, 1) := by decide +kernel
theorem dX1_readRift_24 : decode cX1_readRift 24 = .ok (.getfield 46, 3) := by decide +kernel
theorem dX1_readRift_27 : decode cX1_readRift 27 = .ok (.iaload, 1) := by decide +kernel
theorem dX1_readRift_28 : decode cX1_readRift 28 = .ok (.iload_n 1, 1) := by decide +kernel
theorem dX1_readRift_29 : decode cX1_readRift 29 = .ok (.if_icmp .ne 7, 3) := by decide +kernel
theorem dX1_readRift_32 : decode cX1_readRift 32 = .ok (.aload_n 0, 1) := by decide +kernel
theorem dX1_readRift_33 : decode cX1_readRift 33 = .ok (.invokevirtual 76, 3) := by decide +kernel
theorem dX1_readRift_36 : decode cX1_readRift 36 = .ok (.aload_n 0, 1) := by decide +kernel
theorem dX1_readRift_37 : decode cX1_readRift 37 = .ok (.iconst 0, 1) := by decide +kernel
theorem dX1_readRift_38 : decode cX1_readRift 38 = .ok (.aload_n 0, 1) := by decide +kernel
theorem dX1_readRift_39 : decode cX1_readRift 39 = .ok (.getfield 15, 3) := by decide +kernel
theorem dX1_readRift_42 : decode cX1_readRift 42 = .ok (.getfield 98, 3) := by decide +kernel
theorem dX1_readRift_45 : decode cX1_readRift 45 = .ok (.iconst 1, 1) := by decide +kernel
theorem dX1_readRift_46 : decode cX1_readRift 46 = .ok (.isub, 1) := by decide +kernel
theorem dX1_readRift_47 : decode cX1_readRift 47 = .ok (.invokevirtual 95, 3) := by decide +kernel
theorem dX1_readRift_50 : decode cX1_readRift 50 = .ok (.istore_n 2, 1) := by decide +kernel
theorem dX1_readRift_51 : decode cX1_readRift 51 = .ok (.aload_n 0, 1) := by decide +kernel
theorem dX1_readRift_52 : decode cX1_readRift 52 = .ok (.iconst 0, 1) := by decide +kernel
theorem dX1_readRift_53 : decode cX1_readRift 53 = .ok (.bipush 99, 2) := by decide +kernel
theorem dX1_readRift_55 : decode cX1_readRift 55 = .ok (.invokevirtual 95, 3) := by decide +kernel
theorem dX1_readRift_58 : decode cX1_readRift 58 = .ok (.istore_n 3, 1) := by decide +kernel
theorem dX1_readRift_59 : decode cX1_readRift 59 = .ok (.aload_n 0, 1) := by decide +kernel
theorem dX1_readRift_60 : decode cX1_readRift 60 = .ok (.invokevirtual 49, 3) := by decide +kernel
theorem dX1_readRift_63 : decode cX1_readRift 63 = .ok (.ifCond .ne 13, 3) := by decide +kernel
theorem dX1_readRift_66 : decode cX1_readRift 66 = .ok (.aload_n 0, 1) := by decide +kernel
theorem dX1_readRift_67 : decode cX1_readRift 67 = .ok (.getfield 15, 3) := by decide +kernel
theorem dX1_readRift_70 : decode cX1_readRift 70 = .ok (.iload_n 1, 1) := by decide +kernel
theorem dX1_readRift_71 : decode cX1_readRift 71 = .ok (.iload_n 2, 1) := by decide +kernel
theorem dX1_readRift_72 : decode cX1_readRift 72 = .ok (.iload_n 3, 1) := by decide +kernel
theorem dX1_readRift_73 : decode cX1_readRift 73 = .ok (.invokevirtual 101, 3) := by decide +kernel
theorem dX1_readRift_76 : decode cX1_readRift 76 = .ok (.return_, 1) := by decide +kernel
theorem dX1_readPair_0 : decode cX1_readPair 0 = .ok (.aload_n 0, 1) := by decide +kernel
theorem dX1_readPair_1 : decode cX1_readPair 1 = .ok (.invokevirtual 84, 3) := by decide +kernel
theorem dX1_readPair_4 : decode cX1_readPair 4 = .ok (.aload_n 0, 1) := by decide +kernel
theorem dX1_readPair_5 : decode cX1_readPair 5 = .ok (.iconst 0, 1) := by decide +kernel
theorem dX1_readPair_6 : decode cX1_readPair 6 = .ok (.iconst 5, 1) := by decide +kernel
theorem dX1_readPair_7 : decode cX1_readPair 7 = .ok (.invokevirtual 95, 3) := by decide +kernel
theorem dX1_readPair_10 : decode cX1_readPair 10 = .ok (.istore_n 1, 1) := by decide +kernel
theorem dX1_readPair_11 : decode cX1_readPair 11 = .ok (.aload_n 0, 1) := by decide +kernel
theorem dX1_readPair_12 : decode cX1_readPair 12 = .ok (.iconst 0, 1) := by decide +kernel
theorem dX1_readPair_13 : decode cX1_readPair 13 = .ok (.bipush 7, 2) := by decide +kernel
theorem dX1_readPair_15 : decode cX1_readPair 15 = .ok (.invokevirtual 95, 3) := by decide +kernel
theorem dX1_readPair_18 : decode cX1_readPair 18 = .ok (.istore_n 2, 1) := by decide +kernel
theorem dX1_readPair_19 : decode cX1_readPair 19 = .ok (.aload_n 0, 1) := by decide +kernel
theorem dX1_readPair_20 : decode cX1_readPair 20 = .ok (.iconst 0, 1) := by decide +kernel
theorem dX1_readPair_21 : decode cX1_readPair 21 = .ok (.bipush 7, 2) := by decide +kernel
theorem dX1_readPair_23 : decode cX1_readPair 23 = .ok (.invokevirtual 95, 3) := by decide +kernel
theorem dX1_readPair_26 : decode cX1_readPair 26 = .ok (.istore_n 3, 1) := by decide +kernel
theorem dX1_readPair_27 : decode cX1_readPair 27 = .ok (.aload_n 0, 1) := by decide +kernel
theorem dX1_readPair_28 : decode cX1_readPair 28 = .ok (.invokevirtual 49, 3) := by decide +kernel
theorem dX1_readPair_31 : decode cX1_readPair 31 = .ok (.ifCond .ne 18, 3) := by decide +kernel
theorem dX1_readPair_34 : decode cX1_readPair 34 = .ok (.aload_n 0, 1) := by decide +kernel
theorem dX1_readPair_35 : decode cX1_readPair 35 = .ok (.getfield 15, 3) := by decide +kernel
theorem dX1_readPair_38 : decode cX1_readPair 38 = .ok (.getfield 105, 3) := by decide +kernel
theorem dX1_readPair_41 : decode cX1_readPair 41 = .ok (.iload_n 1, 1) := by decide +kernel
theorem dX1_readPair_42 : decode cX1_readPair 42 = .ok (.bipush 10, 2) := by decide +kernel
theorem dX1_readPair_44 : decode cX1_readPair 44 = .ok (.iload_n 2, 1) := by decide +kernel
theorem dX1_readPair_45 : decode cX1_readPair 45 = .ok (.imul, 1) := by decide +kernel
theorem dX1_readPair_46 : decode cX1_readPair 46 = .ok (.iload_n 3, 1) := by decide +kernel
theorem dX1_readPair_47 : decode cX1_readPair 47 = .ok (.iadd, 1) := by decide +kernel
theorem dX1_readPair_48 : decode cX1_readPair 48 = .ok (.iastore, 1) := by decide +kernel
theorem dX1_readPair_49 : decode cX1_readPair 49 = .ok (.return_, 1) := by decide +kernel
theorem dX1_readClay_0 : decode cX1_readClay 0 = .ok (.aload_n 0, 1) := by decide +kernel
theorem dX1_readClay_1 : decode cX1_readClay 1 = .ok (.invokevirtual 84, 3) := by decide +kernel
theorem dX1_readClay_4 : decode cX1_readClay 4 = .ok (.aload_n 0, 1) := by decide +kernel
theorem dX1_readClay_5 : decode cX1_readClay 5 = .ok (.iconst 1, 1) := by decide +kernel
theorem dX1_readClay_6 : decode cX1_readClay 6 = .ok (.bipush 20, 2) := by decide +kernel
theorem dX1_readClay_8 : decode cX1_readClay 8 = .ok (.invokevirtual 95, 3) := by decide +kernel
theorem dX1_readClay_11 : decode cX1_readClay 11 = .ok (.istore_n 1, 1) := by decide +kernel
theorem dX1_readClay_12 : decode cX1_readClay 12 = .ok (.aload_n 0, 1) := by decide +kernel
theorem dX1_readClay_13 : decode cX1_readClay 13 = .ok (.invokevirtual 49, 3) := by decide +kernel
theorem dX1_readClay_16 : decode cX1_readClay 16 = .ok (.ifCond .ne 11, 3) := by decide +kernel
theorem dX1_readClay_19 : decode cX1_readClay 19 = .ok (.aload_n 0, 1) := by decide +kernel
theorem dX1_readClay_20 : decode cX1_readClay 20 = .ok (.getfield 15, 3) := by decide +kernel
theorem dX1_readClay_23 : decode cX1_readClay 23 = .ok (.iload_n 1, 1) := by decide +kernel
theorem dX1_readClay_24 : decode cX1_readClay 24 = .ok (.putfield 108, 3) := by decide +kernel
theorem dX1_readClay_27 : decode cX1_readClay 27 = .ok (.return_, 1) := by decide +kernel
theorem dX1_readNumber_0 : decode cX1_readNumber 0 = .ok (.aload_n 0, 1) := by decide +kernel
theorem dX1_readNumber_1 : decode cX1_readNumber 1 = .ok (.getfield 19, 3) := by decide +kernel
theorem dX1_readNumber_4 : decode cX1_readNumber 4 = .ok (.aload_n 0, 1) := by decide +kernel
theorem dX1_readNumber_5 : decode cX1_readNumber 5 = .ok (.getfield 46, 3) := by decide +kernel
theorem dX1_readNumber_8 : decode cX1_readNumber 8 = .ok (.iaload, 1) := by decide +kernel
theorem dX1_readNumber_9 : decode cX1_readNumber 9 = .ok (.istore_n 3, 1) := by decide +kernel
theorem dX1_readNumber_10 : decode cX1_readNumber 10 = .ok (.aload_n 0, 1) := by decide +kernel
theorem dX1_readNumber_11 : decode cX1_readNumber 11 = .ok (.invokevirtual 49, 3) := by decide +kernel
theorem dX1_readNumber_14 : decode cX1_readNumber 14 = .ok (.ifCond .ne 12, 3) := by decide +kernel
theorem dX1_readNumber_17 : decode cX1_readNumber 17 = .ok (.iload_n 3, 1) := by decide +kernel
theorem dX1_readNumber_18 : decode cX1_readNumber 18 = .ok (.iload_n 1, 1) := by decide +kernel
theorem dX1_readNumber_19 : decode cX1_readNumber 19 = .ok (.iload_n 2, 1) := by decide +kernel
theorem dX1_readNumber_20 : decode cX1_readNumber 20 = .ok (.invokestatic 60, 3) := by decide +kernel
theorem dX1_readNumber_23 : decode cX1_readNumber 23 = .ok (.ifCond .ne 9, 3) := by decide +kernel
theorem dX1_readNumber_26 : decode cX1_readNumber 26 = .ok (.aload_n 0, 1) := by decide +kernel
theorem dX1_readNumber_27 : decode cX1_readNumber 27 = .ok (.invokevirtual 76, 3) := by decide +kernel
theorem dX1_readNumber_30 : decode cX1_readNumber 30 = .ok (.iload_n 1, 1) := by decide +kernel
theorem dX1_readNumber_31 : decode cX1_readNumber 31 = .ok (.ireturn, 1) := by decide +kernel
theorem dX1_readNumber_32 : decode cX1_readNumber 32 = .ok (.aload_n 0, 1) := by decide +kernel
theorem dX1_readNumber_33 : decode cX1_readNumber 33 = .ok (.invokevirtual 84, 3) := by decide +kernel
theorem dX1_readNumber_36 : decode cX1_readNumber 36 = .ok (.iload_n 3, 1) := by decide +kernel
theorem dX1_readNumber_37 : decode cX1_readNumber 37 = .ok (.ireturn, 1) := by decide +kernel
theorem dX1_take_0 : decode cX1_take 0 = .ok (.aload_n 0, 1) := by decide +kernel
theorem dX1_take_1 : decode cX1_take 1 = .ok (.invokevirtual 49, 3) := by decide +kernel
theorem dX1_take_4 : decode cX1_take 4 = .ok (.ifCond .ne 16, 3) := by decide +kernel
theorem dX1_take_7 : decode cX1_take 7 = .ok (.aload_n 0, 1) := by decide +kernel
theorem dX1_take_8 : decode cX1_take 8 = .ok (.getfield 19, 3) := by decide +kernel
theorem dX1_take_11 : decode cX1_take 11 = .ok (.aload_n 0, 1) := by decide +kernel
theorem dX1_take_12 : decode cX1_take 12 = .ok (.getfield 46, 3) := by decide +kernel
theorem dX1_take_15 : decode cX1_take 15 = .ok (.iaload, 1) := by decide +kernel
theorem dX1_take_16 : decode cX1_take 16 = .ok (.iload_n 1, 1) := by decide +kernel
theorem dX1_take_17 : decode cX1_take 17 = .ok (.if_icmp .eq 8, 3) := by decide +kernel
theorem dX1_take_20 : decode cX1_take 20 = .ok (.aload_n 0, 1) := by decide +kernel
theorem dX1_take_21 : decode cX1_take 21 = .ok (.invokevirtual 76, 3) := by decide +kernel
theorem dX1_take_24 : decode cX1_take 24 = .ok (.return_, 1) := by decide +kernel
theorem dX1_take_25 : decode cX1_take 25 = .ok (.aload_n 0, 1) := by decide +kernel
theorem dX1_take_26 : decode cX1_take 26 = .ok (.invokevirtual 84, 3) := by decide +kernel
theorem dX1_take_29 : decode cX1_take 29 = .ok (.return_, 1) := by decide +kernel
theorem dX1_step_0 : decode cX1_step 0 = .ok (.aload_n 0, 1) := by decide +kernel
theorem dX1_step_1 : decode cX1_step 1 = .ok (.getfield 46, 3) := by decide +kernel
theorem dX1_step_4 : decode cX1_step 4 = .ok (.bipush 120, 2) := by decide +kernel
theorem dX1_step_6 : decode cX1_step 6 = .ok (.if_icmp .ge 13, 3) := by decide +kernel
theorem dX1_step_9 : decode cX1_step 9 = .ok (.aload_n 0, 1) := by decide +kernel
theorem dX1_step_10 : decode cX1_step 10 = .ok (.dup, 1) := by decide +kernel
theorem dX1_step_11 : decode cX1_step 11 = .ok (.getfield 46, 3) := by decide +kernel
theorem dX1_step_14 : decode cX1_step 14 = .ok (.iconst 1, 1) := by decide +kernel
theorem dX1_step_15 : decode cX1_step 15 = .ok (.iadd, 1) := by decide +kernel
theorem dX1_step_16 : decode cX1_step 16 = .ok (.putfield 46, 3) := by decide +kernel
theorem dX1_step_19 : decode cX1_step 19 = .ok (.return_, 1) := by decide +kernel
theorem dX1_refuse_0 : decode cX1_refuse 0 = .ok (.aload_n 0, 1) := by decide +kernel
theorem dX1_refuse_1 : decode cX1_refuse 1 = .ok (.getfield 26, 3) := by decide +kernel
theorem dX1_refuse_4 : decode cX1_refuse 4 = .ok (.iconst (-1), 1) := by decide +kernel
theorem dX1_refuse_5 : decode cX1_refuse 5 = .ok (.if_icmp .ne 16, 3) := by decide +kernel
theorem dX1_refuse_8 : decode cX1_refuse 8 = .ok (.aload_n 0, 1) := by decide +kernel
theorem dX1_refuse_9 : decode cX1_refuse 9 = .ok (.aload_n 0, 1) := by decide +kernel
theorem dX1_refuse_10 : decode cX1_refuse 10 = .ok (.getfield 23, 3) := by decide +kernel
theorem dX1_refuse_13 : decode cX1_refuse 13 = .ok (.aload_n 0, 1) := by decide +kernel
theorem dX1_refuse_14 : decode cX1_refuse 14 = .ok (.getfield 46, 3) := by decide +kernel
theorem dX1_refuse_17 : decode cX1_refuse 17 = .ok (.iaload, 1) := by decide +kernel
theorem dX1_refuse_18 : decode cX1_refuse 18 = .ok (.putfield 26, 3) := by decide +kernel
theorem dX1_refuse_21 : decode cX1_refuse 21 = .ok (.return_, 1) := by decide +kernel
theorem dX1_goesOnAt_0 : decode cX1_goesOnAt 0 = .ok (.iload_n 1, 1) := by decide +kernel
theorem dX1_goesOnAt_1 : decode cX1_goesOnAt 1 = .ok (.ifCond .le 43, 3) := by decide +kernel
theorem dX1_goesOnAt_4 : decode cX1_goesOnAt 4 = .ok (.aload_n 0, 1) := by decide +kernel
theorem dX1_goesOnAt_5 : decode cX1_goesOnAt 5 = .ok (.iload_n 1, 1) := by decide +kernel
theorem dX1_goesOnAt_6 : decode cX1_goesOnAt 6 = .ok (.invokevirtual 111, 3) := by decide +kernel
theorem dX1_goesOnAt_9 : decode cX1_goesOnAt 9 = .ok (.ifCond .eq 13, 3) := by decide +kernel
theorem dX1_goesOnAt_12 : decode cX1_goesOnAt 12 = .ok (.aload_n 0, 1) := by decide +kernel
theorem dX1_goesOnAt_13 : decode cX1_goesOnAt 13 = .ok (.iload_n 1, 1) := by decide +kernel
theorem dX1_goesOnAt_14 : decode cX1_goesOnAt 14 = .ok (.iconst 1, 1) := by decide +kernel
theorem dX1_goesOnAt_15 : decode cX1_goesOnAt 15 = .ok (.isub, 1) := by decide +kernel
theorem dX1_goesOnAt_16 : decode cX1_goesOnAt 16 = .ok (.invokevirtual 111, 3) := by decide +kernel
theorem dX1_goesOnAt_19 : decode cX1_goesOnAt 19 = .ok (.ifCond .ne 21, 3) := by decide +kernel
theorem dX1_goesOnAt_22 : decode cX1_goesOnAt 22 = .ok (.aload_n 0, 1) := by decide +kernel
theorem dX1_goesOnAt_23 : decode cX1_goesOnAt 23 = .ok (.iload_n 1, 1) := by decide +kernel
theorem dX1_goesOnAt_24 : decode cX1_goesOnAt 24 = .ok (.invokevirtual 114, 3) := by decide +kernel
theorem dX1_goesOnAt_27 : decode cX1_goesOnAt 27 = .ok (.ifCond .eq 17, 3) := by decide +kernel
theorem dX1_goesOnAt_30 : decode cX1_goesOnAt 30 = .ok (.aload_n 0, 1) := by decide +kernel
theorem dX1_goesOnAt_31 : decode cX1_goesOnAt 31 = .ok (.iload_n 1, 1) := by decide +kernel
theorem dX1_goesOnAt_32 : decode cX1_goesOnAt 32 = .ok (.iconst 1, 1) := by decide +kernel
theorem dX1_goesOnAt_33 : decode cX1_goesOnAt 33 = .ok (.isub, 1) := by decide +kernel
theorem dX1_goesOnAt_34 : decode cX1_goesOnAt 34 = .ok (.invokevirtual 114, 3) := by decide +kernel
theorem dX1_goesOnAt_37 : decode cX1_goesOnAt 37 = .ok (.ifCond .eq 7, 3) := by decide +kernel
theorem dX1_goesOnAt_40 : decode cX1_goesOnAt 40 = .ok (.iconst 1, 1) := by decide +kernel
theorem dX1_goesOnAt_41 : decode cX1_goesOnAt 41 = .ok (.goto 4, 3) := by decide +kernel
theorem dX1_goesOnAt_44 : decode cX1_goesOnAt 44 = .ok (.iconst 0, 1) := by decide +kernel
theorem dX1_goesOnAt_45 : decode cX1_goesOnAt 45 = .ok (.ireturn, 1) := by decide +kernel
theorem dX1_tokenAt_0 : decode cX1_tokenAt 0 = .ok (.aload_n 0, 1) := by decide +kernel
theorem dX1_tokenAt_1 : decode cX1_tokenAt 1 = .ok (.iload_n 1, 1) := by decide +kernel
theorem dX1_tokenAt_2 : decode cX1_tokenAt 2 = .ok (.invokevirtual 114, 3) := by decide +kernel
theorem dX1_tokenAt_5 : decode cX1_tokenAt 5 = .ok (.ifCond .eq 9, 3) := by decide +kernel
theorem dX1_tokenAt_8 : decode cX1_tokenAt 8 = .ok (.aload_n 0, 1) := by decide +kernel
theorem dX1_tokenAt_9 : decode cX1_tokenAt 9 = .ok (.iload_n 1, 1) := by decide +kernel
theorem dX1_tokenAt_10 : decode cX1_tokenAt 10 = .ok (.invokevirtual 117, 3) := by decide +kernel
theorem dX1_tokenAt_13 : decode cX1_tokenAt 13 = .ok (.ireturn, 1) := by decide +kernel
theorem dX1_tokenAt_14 : decode cX1_tokenAt 14 = .ok (.aload_n 0, 1) := by decide +kernel
theorem dX1_tokenAt_15 : decode cX1_tokenAt 15 = .ok (.iload_n 1, 1) := by decide +kernel
theorem dX1_tokenAt_16 : decode cX1_tokenAt 16 = .ok (.invokevirtual 111, 3) := by decide +kernel
theorem dX1_tokenAt_19 : decode cX1_tokenAt 19 = .ok (.ifCond .eq 9, 3) := by decide +kernel
theorem dX1_tokenAt_22 : decode cX1_tokenAt 22 = .ok (.aload_n 0, 1) := by decide +kernel
theorem dX1_tokenAt_23 : decode cX1_tokenAt 23 = .ok (.iload_n 1, 1) := by decide +kernel
theorem dX1_tokenAt_24 : decode cX1_tokenAt 24 = .ok (.invokevirtual 120, 3) := by decide +kernel
theorem dX1_tokenAt_27 : decode cX1_tokenAt 27 = .ok (.ireturn, 1) := by decide +kernel
theorem dX1_tokenAt_28 : decode cX1_tokenAt 28 = .ok (.aload_n 0, 1) := by decide +kernel
theorem dX1_tokenAt_29 : decode cX1_tokenAt 29 = .ok (.getfield 9, 3) := by decide +kernel
theorem dX1_tokenAt_32 : decode cX1_tokenAt 32 = .ok (.getfield 35, 3) := by decide +kernel
theorem dX1_tokenAt_35 : decode cX1_tokenAt 35 = .ok (.iload_n 1, 1) := by decide +kernel
theorem dX1_tokenAt_36 : decode cX1_tokenAt 36 = .ok (.iaload, 1) := by decide +kernel
theorem dX1_tokenAt_37 : decode cX1_tokenAt 37 = .ok (.bipush 59, 2) := by decide +kernel
theorem dX1_tokenAt_39 : decode cX1_tokenAt 39 = .ok (.if_icmp .ne 8, 3) := by decide +kernel
theorem dX1_tokenAt_42 : decode cX1_tokenAt 42 = .ok (.bipush (-2), 2) := by decide +kernel
theorem dX1_tokenAt_44 : decode cX1_tokenAt 44 = .ok (.goto 5, 3) := by decide +kernel
theorem dX1_tokenAt_47 : decode cX1_tokenAt 47 = .ok (.bipush (-3), 2) := by decide +kernel
theorem dX1_tokenAt_49 : decode cX1_tokenAt 49 = .ok (.ireturn, 1) := by decide +kernel
theorem dX1_numberAt_0 : decode cX1_numberAt 0 = .ok (.iconst 0, 1) := by decide +kernel
theorem dX1_numberAt_1 : decode cX1_numberAt 1 = .ok (.istore_n 2, 1) := by decide +kernel
theorem dX1_numberAt_2 : decode cX1_numberAt 2 = .ok (.iload_n 1, 1) := by decide +kernel
theorem dX1_numberAt_3 : decode cX1_numberAt 3 = .ok (.istore_n 3, 1) := by decide +kernel
theorem dX1_numberAt_4 : decode cX1_numberAt 4 = .ok (.iload_n 3, 1) := by decide +kernel
theorem dX1_numberAt_5 : decode cX1_numberAt 5 = .ok (.aload_n 0, 1) := by decide +kernel
theorem dX1_numberAt_6 : decode cX1_numberAt 6 = .ok (.getfield 9, 3) := by decide +kernel
theorem dX1_numberAt_9 : decode cX1_numberAt 9 = .ok (.getfield 30, 3) := by decide +kernel
theorem dX1_numberAt_12 : decode cX1_numberAt 12 = .ok (.if_icmp .ge 41, 3) := by decide +kernel
theorem dX1_numberAt_15 : decode cX1_numberAt 15 = .ok (.aload_n 0, 1) := by decide +kernel
theorem dX1_numberAt_16 : decode cX1_numberAt 16 = .ok (.iload_n 3, 1) := by decide +kernel
theorem dX1_numberAt_17 : decode cX1_numberAt 17 = .ok (.invokevirtual 114, 3) := by decide +kernel
theorem dX1_numberAt_20 : decode cX1_numberAt 20 = .ok (.ifCond .eq 33, 3) := by decide +kernel
theorem dX1_numberAt_23 : decode cX1_numberAt 23 = .ok (.bipush 10, 2) := by decide +kernel
theorem dX1_numberAt_25 : decode cX1_numberAt 25 = .ok (.iload_n 2, 1) := by decide +kernel
theorem dX1_numberAt_26 : decode cX1_numberAt 26 = .ok (.imul, 1) := by decide +kernel
theorem dX1_numberAt_27 : decode cX1_numberAt 27 = .ok (.aload_n 0, 1) := by decide +kernel
theorem dX1_numberAt_28 : decode cX1_numberAt 28 = .ok (.getfield 9, 3) := by decide +kernel
theorem dX1_numberAt_31 : decode cX1_numberAt 31 = .ok (.getfield 35, 3) := by decide +kernel
theorem dX1_numberAt_34 : decode cX1_numberAt 34 = .ok (.iload_n 3, 1) := by decide +kernel
theorem dX1_numberAt_35 : decode cX1_numberAt 35 = .ok (.iaload, 1) := by decide +kernel
theorem dX1_numberAt_36 : decode cX1_numberAt 36 = .ok (.iadd, 1) := by decide +kernel
theorem dX1_numberAt_37 : decode cX1_numberAt 37 = .ok (.bipush 48, 2) := by decide +kernel
theorem dX1_numberAt_39 : decode cX1_numberAt 39 = .ok (.isub, 1) := by decide +kernel
theorem dX1_numberAt_40 : decode cX1_numberAt 40 = .ok (.sipush 1000, 3) := by decide +kernel
theorem dX1_numberAt_43 : decode cX1_numberAt 43 = .ok (.invokestatic 123, 3) := by decide +kernel
theorem dX1_numberAt_46 : decode cX1_numberAt 46 = .ok (.istore_n 2, 1) := by decide +kernel
theorem dX1_numberAt_47 : decode cX1_numberAt 47 = .ok (.iinc 3 1, 3) := by decide +kernel
theorem dX1_numberAt_50 : decode cX1_numberAt 50 = .ok (.goto (-46), 3) := by decide +kernel
theorem dX1_numberAt_53 : decode cX1_numberAt 53 = .ok (.iload_n 2, 1) := by decide +kernel
theorem dX1_numberAt_54 : decode cX1_numberAt 54 = .ok (.ireturn, 1) := by decide +kernel
theorem dX1_wordAt_0 : decode cX1_wordAt 0 = .ok (.iconst 0, 1) := by decide +kernel
theorem dX1_wordAt_1 : decode cX1_wordAt 1 = .ok (.istore_n 2, 1) := by decide +kernel
theorem dX1_wordAt_2 : decode cX1_wordAt 2 = .ok (.iload_n 2, 1) := by decide +kernel
theorem dX1_wordAt_3 : decode cX1_wordAt 3 = .ok (.bipush 12, 2) := by decide +kernel
theorem dX1_wordAt_5 : decode cX1_wordAt 5 = .ok (.if_icmp .gt 26, 3) := by decide +kernel
theorem dX1_wordAt_8 : decode cX1_wordAt 8 = .ok (.aload_n 0, 1) := by decide +kernel
theorem dX1_wordAt_9 : decode cX1_wordAt 9 = .ok (.iload_n 1, 1) := by decide +kernel
theorem dX1_wordAt_10 : decode cX1_wordAt 10 = .ok (.iload_n 2, 1) := by decide +kernel
theorem dX1_wordAt_11 : decode cX1_wordAt 11 = .ok (.invokestatic 128, 3) := by decide +kernel
theorem dX1_wordAt_14 : decode cX1_wordAt 14 = .ok (.invokevirtual 132, 3) := by decide +kernel
theorem dX1_wordAt_17 : decode cX1_wordAt 17 = .ok (.ifCond .eq 8, 3) := by decide +kernel
theorem dX1_wordAt_20 : decode cX1_wordAt 20 = .ok (.bipush (-10), 2) := by decide +kernel
theorem dX1_wordAt_22 : decode cX1_wordAt 22 = .ok (.iload_n 2, 1) := by decide +kernel
theorem dX1_wordAt_23 : decode cX1_wordAt 23 = .ok (.isub, 1) := by decide +kernel
theorem dX1_wordAt_24 : decode cX1_wordAt 24 = .ok (.ireturn, 1) := by decide +kernel
theorem dX1_wordAt_25 : decode cX1_wordAt 25 = .ok (.iinc 2 1, 3) := by decide +kernel
theorem dX1_wordAt_28 : decode cX1_wordAt 28 = .ok (.goto (-26), 3) := by decide +kernel
theorem dX1_wordAt_31 : decode cX1_wordAt 31 = .ok (.bipush (-3), 2) := by decide +kernel
theorem dX1_wordAt_33 : decode cX1_wordAt 33 = .ok (.ireturn, 1) := by decide +kernel
theorem dX1_isWordAt_0 : decode cX1_isWordAt 0 = .ok (.iload_n 1, 1) := by decide +kernel
theorem dX1_isWordAt_1 : decode cX1_isWordAt 1 = .ok (.aload_n 2, 1) := by decide +kernel
theorem dX1_isWordAt_2 : decode cX1_isWordAt 2 = .ok (.invokevirtual 136, 3) := by decide +kernel
theorem dX1_isWordAt_5 : decode cX1_isWordAt 5 = .ok (.iadd, 1) := by decide +kernel
theorem dX1_isWordAt_6 : decode cX1_isWordAt 6 = .ok (.istore_n 3, 1) := by decide +kernel
theorem dX1_isWordAt_7 : decode cX1_isWordAt 7 = .ok (.iload_n 3, 1) := by decide +kernel
theorem dX1_isWordAt_8 : decode cX1_isWordAt 8 = .ok (.aload_n 0, 1) := by decide +kernel
theorem dX1_isWordAt_9 : decode cX1_isWordAt 9 = .ok (.getfield 9, 3) := by decide +kernel
theorem dX1_isWordAt_12 : decode cX1_isWordAt 12 = .ok (.getfield 30, 3) := by decide +kernel
theorem dX1_isWordAt_15 : decode cX1_isWordAt 15 = .ok (.if_icmp .gt 22, 3) := by decide +kernel
theorem dX1_isWordAt_18 : decode cX1_isWordAt 18 = .ok (.iload_n 3, 1) := by decide +kernel
theorem dX1_isWordAt_19 : decode cX1_isWordAt 19 = .ok (.aload_n 0, 1) := by decide +kernel
theorem dX1_isWordAt_20 : decode cX1_isWordAt 20 = .ok (.getfield 9, 3) := by decide +kernel
theorem dX1_isWordAt_23 : decode cX1_isWordAt 23 = .ok (.getfield 30, 3) := by decide +kernel
theorem dX1_isWordAt_26 : decode cX1_isWordAt 26 = .ok (.if_icmp .ge 13, 3) := by decide +kernel
theorem dX1_isWordAt_29 : decode cX1_isWordAt 29 = .ok (.aload_n 0, 1) := by decide +kernel
theorem dX1_isWordAt_30 : decode cX1_isWordAt 30 = .ok (.iload_n 3, 1) := by decide +kernel
theorem dX1_isWordAt_31 : decode cX1_isWordAt 31 = .ok (.invokevirtual 111, 3) := by decide +kernel
theorem dX1_isWordAt_34 : decode cX1_isWordAt 34 = .ok (.ifCond .eq 5, 3) := by decide +kernel
theorem dX1_isWordAt_37 : decode cX1_isWordAt 37 = .ok (.iconst 0, 1) := by decide +kernel
theorem dX1_isWordAt_38 : decode cX1_isWordAt 38 = .ok (.ireturn, 1) := by decide +kernel
theorem dX1_isWordAt_39 : decode cX1_isWordAt 39 = .ok (.iconst 0, 1) := by decide +kernel
theorem dX1_isWordAt_40 : decode cX1_isWordAt 40 = .ok (.istore 4, 2) := by decide +kernel
theorem dX1_isWordAt_42 : decode cX1_isWordAt 42 = .ok (.iload 4, 2) := by decide +kernel
theorem dX1_isWordAt_44 : decode cX1_isWordAt 44 = .ok (.aload_n 2, 1) := by decide +kernel
theorem dX1_isWordAt_45 : decode cX1_isWordAt 45 = .ok (.invokevirtual 136, 3) := by decide +kernel
theorem dX1_isWordAt_48 : decode cX1_isWordAt 48 = .ok (.if_icmp .ge 32, 3) := by decide +kernel
theorem dX1_isWordAt_51 : decode cX1_isWordAt 51 = .ok (.aload_n 0, 1) := by decide +kernel
theorem dX1_isWordAt_52 : decode cX1_isWordAt 52 = .ok (.getfield 9, 3) := by decide +kernel
theorem dX1_isWordAt_55 : decode cX1_isWordAt 55 = .ok (.getfield 35, 3) := by decide +kernel
theorem dX1_isWordAt_58 : decode cX1_isWordAt 58 = .ok (.iload_n 1, 1) := by decide +kernel
theorem dX1_isWordAt_59 : decode cX1_isWordAt 59 = .ok (.iload 4, 2) := by decide +kernel
theorem dX1_isWordAt_61 : decode cX1_isWordAt 61 = .ok (.iadd, 1) := by decide +kernel
theorem dX1_isWordAt_62 : decode cX1_isWordAt 62 = .ok (.iaload, 1) := by decide +kernel
theorem dX1_isWordAt_63 : decode cX1_isWordAt 63 = .ok (.aload_n 2, 1) := by decide +kernel
theorem dX1_isWordAt_64 : decode cX1_isWordAt 64 = .ok (.iload 4, 2) := by decide +kernel
theorem dX1_isWordAt_66 : decode cX1_isWordAt 66 = .ok (.invokevirtual 141, 3) := by decide +kernel
theorem dX1_isWordAt_69 : decode cX1_isWordAt 69 = .ok (.if_icmp .eq 5, 3) := by decide +kernel
theorem dX1_isWordAt_72 : decode cX1_isWordAt 72 = .ok (.iconst 0, 1) := by decide +kernel
theorem dX1_isWordAt_73 : decode cX1_isWordAt 73 = .ok (.ireturn, 1) := by decide +kernel
theorem dX1_isWordAt_74 : decode cX1_isWordAt 74 = .ok (.iinc 4 1, 3) := by decide +kernel
theorem dX1_isWordAt_77 : decode cX1_isWordAt 77 = .ok (.goto (-35), 3) := by decide +kernel
theorem dX1_isWordAt_80 : decode cX1_isWordAt 80 = .ok (.iconst 1, 1) := by decide +kernel
theorem dX1_isWordAt_81 : decode cX1_isWordAt 81 = .ok (.ireturn, 1) := by decide +kernel
theorem dX1_nameOf_0 : decode cX1_nameOf 0 = .ok (.iload_n 0, 1) := by decide +kernel
theorem dX1_nameOf_1 : decode cX1_nameOf 1 = .ok (.tableswitch 99 0 11 #[63, 66, 69, 72, 75, 78, 81, 84, 87, 90, 93, 96], 63) := by decide +kernel
theorem dX1_nameOf_64 : decode cX1_nameOf 64 = .ok (.ldc 145, 2) := by decide +kernel
theorem dX1_nameOf_66 : decode cX1_nameOf 66 = .ok (.areturn, 1) := by decide +kernel
theorem dX1_nameOf_67 : decode cX1_nameOf 67 = .ok (.ldc 147, 2) := by decide +kernel
theorem dX1_nameOf_69 : decode cX1_nameOf 69 = .ok (.areturn, 1) := by decide +kernel
theorem dX1_nameOf_70 : decode cX1_nameOf 70 = .ok (.ldc 149, 2) := by decide +kernel
theorem dX1_nameOf_72 : decode cX1_nameOf 72 = .ok (.areturn, 1) := by decide +kernel
theorem dX1_nameOf_73 : decode cX1_nameOf 73 = .ok (.ldc 151, 2) := by decide +kernel
theorem dX1_nameOf_75 : decode cX1_nameOf 75 = .ok (.areturn, 1) := by decide +kernel
theorem dX1_nameOf_76 : decode cX1_nameOf 76 = .ok (.ldc 153, 2) := by decide +kernel
theorem dX1_nameOf_78 : decode cX1_nameOf 78 = .ok (.areturn, 1) := by decide +kernel
theorem dX1_nameOf_79 : decode cX1_nameOf 79 = .ok (.ldc 155, 2) := by decide +kernel
theorem dX1_nameOf_81 : decode cX1_nameOf 81 = .ok (.areturn, 1) := by decide +kernel
theorem dX1_nameOf_82 : decode cX1_nameOf 82 = .ok (.ldc 157, 2) := by decide +kernel
theorem dX1_nameOf_84 : decode cX1_nameOf 84 = .ok (.areturn, 1) := by decide +kernel
theorem dX1_nameOf_85 : decode cX1_nameOf 85 = .ok (.ldc 159, 2) := by decide +kernel
theorem dX1_nameOf_87 : decode cX1_nameOf 87 = .ok (.areturn, 1) := by decide +kernel
theorem dX1_nameOf_88 : decode cX1_nameOf 88 = .ok (.ldc 161, 2) := by decide +kernel
theorem dX1_nameOf_90 : decode cX1_nameOf 90 = .ok (.areturn, 1) := by decide +kernel
theorem dX1_nameOf_91 : decode cX1_nameOf 91 = .ok (.ldc 163, 2) := by decide +kernel
theorem dX1_nameOf_93 : decode cX1_nameOf 93 = .ok (.areturn, 1) := by decide +kernel
theorem dX1_nameOf_94 : decode cX1_nameOf 94 = .ok (.ldc 164, 2) := by decide +kernel
theorem dX1_nameOf_96 : decode cX1_nameOf 96 = .ok (.areturn, 1) := by decide +kernel
theorem dX1_nameOf_97 : decode cX1_nameOf 97 = .ok (.ldc 166, 2) := by decide +kernel
theorem dX1_nameOf_99 : decode cX1_nameOf 99 = .ok (.areturn, 1) := by decide +kernel
theorem dX1_nameOf_100 : decode cX1_nameOf 100 = .ok (.ldc 168, 2) := by decide +kernel
theorem dX1_nameOf_102 : decode cX1_nameOf 102 = .ok (.areturn, 1) := by decide +kernel
theorem dX1_isLetter_0 : decode cX1_isLetter 0 = .ok (.aload_n 0, 1) := by decide +kernel
theorem dX1_isLetter_1 : decode cX1_isLetter 1 = .ok (.getfield 9, 3) := by decide +kernel
theorem dX1_isLetter_4 : decode cX1_isLetter 4 = .ok (.getfield 35, 3) := by decide +kernel
theorem dX1_isLetter_7 : decode cX1_isLetter 7 = .ok (.iload_n 1, 1) := by decide +kernel
theorem dX1_isLetter_8 : decode cX1_isLetter 8 = .ok (.iaload, 1) := by decide +kernel
theorem dX1_isLetter_9 : decode cX1_isLetter 9 = .ok (.bipush 97, 2) := by decide +kernel
theorem dX1_isLetter_11 : decode cX1_isLetter 11 = .ok (.if_icmp .lt 21, 3) := by decide +kernel
theorem dX1_isLetter_14 : decode cX1_isLetter 14 = .ok (.aload_n 0, 1) := by decide +kernel
theorem dX1_isLetter_15 : decode cX1_isLetter 15 = .ok (.getfield 9, 3) := by decide +kernel
theorem dX1_isLetter_18 : decode cX1_isLetter 18 = .ok (.getfield 35, 3) := by decide +kernel
theorem dX1_isLetter_21 : decode cX1_isLetter 21 = .ok (.iload_n 1, 1) := by decide +kernel
theorem dX1_isLetter_22 : decode cX1_isLetter 22 = .ok (.iaload, 1) := by decide +kernel
theorem dX1_isLetter_23 : decode cX1_isLetter 23 = .ok (.bipush 122, 2) := by decide +kernel
theorem dX1_isLetter_25 : decode cX1_isLetter 25 = .ok (.if_icmp .gt 7, 3) := by decide +kernel
theorem dX1_isLetter_28 : decode cX1_isLetter 28 = .ok (.iconst 1, 1) := by decide +kernel
theorem dX1_isLetter_29 : decode cX1_isLetter 29 = .ok (.goto 4, 3) := by decide +kernel
theorem dX1_isLetter_32 : decode cX1_isLetter 32 = .ok (.iconst 0, 1) := by decide +kernel
theorem dX1_isLetter_33 : decode cX1_isLetter 33 = .ok (.ireturn, 1) := by decide +kernel
theorem dX1_isDigit_0 : decode cX1_isDigit 0 = .ok (.aload_n 0, 1) := by decide +kernel
theorem dX1_isDigit_1 : decode cX1_isDigit 1 = .ok (.getfield 9, 3) := by decide +kernel
theorem dX1_isDigit_4 : decode cX1_isDigit 4 = .ok (.getfield 35, 3) := by decide +kernel
theorem dX1_isDigit_7 : decode cX1_isDigit 7 = .ok (.iload_n 1, 1) := by decide +kernel
theorem dX1_isDigit_8 : decode cX1_isDigit 8 = .ok (.iaload, 1) := by decide +kernel
theorem dX1_isDigit_9 : decode cX1_isDigit 9 = .ok (.bipush 48, 2) := by decide +kernel
theorem dX1_isDigit_11 : decode cX1_isDigit 11 = .ok (.if_icmp .lt 21, 3) := by decide +kernel
theorem dX1_isDigit_14 : decode cX1_isDigit 14 = .ok (.aload_n 0, 1) := by decide +kernel
theorem dX1_isDigit_15 : decode cX1_isDigit 15 = .ok (.getfield 9, 3) := by decide +kernel
theorem dX1_isDigit_18 : decode cX1_isDigit 18 = .ok (.getfield 35, 3) := by decide +kernel
theorem dX1_isDigit_21 : decode cX1_isDigit 21 = .ok (.iload_n 1, 1) := by decide +kernel
theorem dX1_isDigit_22 : decode cX1_isDigit 22 = .ok (.iaload, 1) := by decide +kernel
theorem dX1_isDigit_23 : decode cX1_isDigit 23 = .ok (.bipush 57, 2) := by decide +kernel
theorem dX1_isDigit_25 : decode cX1_isDigit 25 = .ok (.if_icmp .gt 7, 3) := by decide +kernel
theorem dX1_isDigit_28 : decode cX1_isDigit 28 = .ok (.iconst 1, 1) := by decide +kernel
theorem dX1_isDigit_29 : decode cX1_isDigit 29 = .ok (.goto 4, 3) := by decide +kernel
theorem dX1_isDigit_32 : decode cX1_isDigit 32 = .ok (.iconst 0, 1) := by decide +kernel
theorem dX1_isDigit_33 : decode cX1_isDigit 33 = .ok (.ireturn, 1) := by decide +kernel
theorem dX2_init_0 : decode cX2_init 0 = .ok (.aload_n 0, 1) := by decide +kernel
theorem dX2_init_1 : decode cX2_init 1 = .ok (.invokespecial 3, 3) := by decide +kernel
theorem dX2_init_4 : decode cX2_init 4 = .ok (.aload_n 0, 1) := by decide +kernel
theorem dX2_init_5 : decode cX2_init 5 = .ok (.iconst 4, 1) := by decide +kernel
theorem dX2_init_6 : decode cX2_init 6 = .ok (.newarray .int, 2) := by decide +kernel
theorem dX2_init_8 : decode cX2_init 8 = .ok (.putfield 9, 3) := by decide +kernel
theorem dX2_init_11 : decode cX2_init 11 = .ok (.aload_n 0, 1) := by decide +kernel
theorem dX2_init_12 : decode cX2_init 12 = .ok (.iconst 4, 1) := by decide +kernel
theorem dX2_init_13 : decode cX2_init 13 = .ok (.newarray .int, 2) := by decide +kernel
theorem dX2_init_15 : decode cX2_init 15 = .ok (.putfield 15, 3) := by decide +kernel
theorem dX2_init_18 : decode cX2_init 18 = .ok (.aload_n 0, 1) := by decide +kernel
theorem dX2_init_19 : decode cX2_init 19 = .ok (.sipush 160, 3) := by decide +kernel
theorem dX2_init_22 : decode cX2_init 22 = .ok (.newarray .int, 2) := by decide +kernel
theorem dX2_init_24 : decode cX2_init 24 = .ok (.putfield 18, 3) := by decide +kernel
theorem dX2_init_27 : decode cX2_init 27 = .ok (.return_, 1) := by decide +kernel
theorem dX2_isMissing_0 : decode cX2_isMissing 0 = .ok (.aload_n 0, 1) := by decide +kernel
theorem dX2_isMissing_1 : decode cX2_isMissing 1 = .ok (.getfield 9, 3) := by decide +kernel
theorem dX2_isMissing_4 : decode cX2_isMissing 4 = .ok (.iload_n 1, 1) := by decide +kernel
theorem dX2_isMissing_5 : decode cX2_isMissing 5 = .ok (.iaload, 1) := by decide +kernel
theorem dX2_isMissing_6 : decode cX2_isMissing 6 = .ok (.ifCond .ne 7, 3) := by decide +kernel
theorem dX2_isMissing_9 : decode cX2_isMissing 9 = .ok (.iconst 1, 1) := by decide +kernel
theorem dX2_isMissing_10 : decode cX2_isMissing 10 = .ok (.goto 4, 3) := by decide +kernel
theorem dX2_isMissing_13 : decode cX2_isMissing 13 = .ok (.iconst 0, 1) := by decide +kernel
theorem dX2_isMissing_14 : decode cX2_isMissing 14 = .ok (.ireturn, 1) := by decide +kernel
theorem dX2_lay_0 : decode cX2_lay 0 = .ok (.aload_n 0, 1) := by decide +kernel
theorem dX2_lay_1 : decode cX2_lay 1 = .ok (.getfield 9, 3) := by decide +kernel
theorem dX2_lay_4 : decode cX2_lay 4 = .ok (.iload_n 1, 1) := by decide +kernel
theorem dX2_lay_5 : decode cX2_lay 5 = .ok (.iload_n 2, 1) := by decide +kernel
theorem dX2_lay_6 : decode cX2_lay 6 = .ok (.iastore, 1) := by decide +kernel
theorem dX2_lay_7 : decode cX2_lay 7 = .ok (.aload_n 0, 1) := by decide +kernel
theorem dX2_lay_8 : decode cX2_lay 8 = .ok (.getfield 15, 3) := by decide +kernel
theorem dX2_lay_11 : decode cX2_lay 11 = .ok (.iload_n 1, 1) := by decide +kernel
theorem dX2_lay_12 : decode cX2_lay 12 = .ok (.iload_n 3, 1) := by decide +kernel
theorem dX2_lay_13 : decode cX2_lay 13 = .ok (.iastore, 1) := by decide +kernel
theorem dX2_lay_14 : decode cX2_lay 14 = .ok (.iconst 0, 1) := by decide +kernel
theorem dX2_lay_15 : decode cX2_lay 15 = .ok (.istore 4, 2) := by decide +kernel
theorem dX2_lay_17 : decode cX2_lay 17 = .ok (.iload 4, 2) := by decide +kernel
theorem dX2_lay_19 : decode cX2_lay 19 = .ok (.iload_n 3, 1) := by decide +kernel
theorem dX2_lay_20 : decode cX2_lay 20 = .ok (.if_icmp .ge 22, 3) := by decide +kernel
theorem dX2_lay_23 : decode cX2_lay 23 = .ok (.aload_n 0, 1) := by decide +kernel
theorem dX2_lay_24 : decode cX2_lay 24 = .ok (.getfield 18, 3) := by decide +kernel
theorem dX2_lay_27 : decode cX2_lay 27 = .ok (.bipush 40, 2) := by decide +kernel
theorem dX2_lay_29 : decode cX2_lay 29 = .ok (.iload_n 1, 1) := by decide +kernel
theorem dX2_lay_30 : decode cX2_lay 30 = .ok (.imul, 1) := by decide +kernel
theorem dX2_lay_31 : decode cX2_lay 31 = .ok (.iload 4, 2) := by decide +kernel
theorem dX2_lay_33 : decode cX2_lay 33 = .ok (.iadd, 1) := by decide +kernel
theorem dX2_lay_34 : decode cX2_lay 34 = .ok (.iconst 0, 1) := by decide +kernel
theorem dX2_lay_35 : decode cX2_lay 35 = .ok (.iastore, 1) := by decide +kernel
theorem dX2_lay_36 : decode cX2_lay 36 = .ok (.iinc 4 1, 3) := by decide +kernel
theorem dX2_lay_39 : decode cX2_lay 39 = .ok (.goto (-22), 3) := by decide +kernel
theorem dX2_lay_42 : decode cX2_lay 42 = .ok (.return_, 1) := by decide +kernel
theorem dX2_get_0 : decode cX2_get 0 = .ok (.aload_n 0, 1) := by decide +kernel
theorem dX2_get_1 : decode cX2_get 1 = .ok (.getfield 18, 3) := by decide +kernel
theorem dX2_get_4 : decode cX2_get 4 = .ok (.bipush 40, 2) := by decide +kernel
theorem dX2_get_6 : decode cX2_get 6 = .ok (.iload_n 1, 1) := by decide +kernel
theorem dX2_get_7 : decode cX2_get 7 = .ok (.imul, 1) := by decide +kernel
theorem dX2_get_8 : decode cX2_get 8 = .ok (.iload_n 2, 1) := by decide +kernel
theorem dX2_get_9 : decode cX2_get 9 = .ok (.iadd, 1) := by decide +kernel
theorem dX2_get_10 : decode cX2_get 10 = .ok (.iaload, 1) := by decide +kernel
theorem dX2_get_11 : decode cX2_get 11 = .ok (.ireturn, 1) := by decide +kernel
theorem dX2_put_0 : decode cX2_put 0 = .ok (.aload_n 0, 1) := by decide +kernel
theorem dX2_put_1 : decode cX2_put 1 = .ok (.getfield 18, 3) := by decide +kernel
theorem dX2_put_4 : decode cX2_put 4 = .ok (.bipush 40, 2) := by decide +kernel
theorem dX2_put_6 : decode cX2_put 6 = .ok (.iload_n 1, 1) := by decide +kernel
theorem dX2_put_7 : decode cX2_put 7 = .ok (.imul, 1) := by decide +kernel
theorem dX2_put_8 : decode cX2_put 8 = .ok (.iload_n 2, 1) := by decide +kernel
theorem dX2_put_9 : decode cX2_put 9 = .ok (.iadd, 1) := by decide +kernel
theorem dX2_put_10 : decode cX2_put 10 = .ok (.aload_n 0, 1) := by decide +kernel
theorem dX2_put_11 : decode cX2_put 11 = .ok (.getfield 9, 3) := by decide +kernel
theorem dX2_put_14 : decode cX2_put 14 = .ok (.iload_n 1, 1) := by decide +kernel
theorem dX2_put_15 : decode cX2_put 15 = .ok (.iaload, 1) := by decide +kernel
theorem dX2_put_16 : decode cX2_put 16 = .ok (.iload_n 3, 1) := by decide +kernel
theorem dX2_put_17 : decode cX2_put 17 = .ok (.invokestatic 21, 3) := by decide +kernel
theorem dX2_put_20 : decode cX2_put 20 = .ok (.iastore, 1) := by decide +kernel
theorem dX2_put_21 : decode cX2_put 21 = .ok (.return_, 1) := by decide +kernel
theorem dX2_lowest_0 : decode cX2_lowest 0 = .ok (.iload_n 0, 1) := by decide +kernel
theorem dX2_lowest_1 : decode cX2_lowest 1 = .ok (.lookupswitch 33 #[(8, 27), (16, 30)], 27) := by decide +kernel
theorem dX2_lowest_28 : decode cX2_lowest 28 = .ok (.iload_n 1, 1) := by decide +kernel
theorem dX2_lowest_29 : decode cX2_lowest 29 = .ok (.i2b, 1) := by decide +kernel
theorem dX2_lowest_30 : decode cX2_lowest 30 = .ok (.ireturn, 1) := by decide +kernel
theorem dX2_lowest_31 : decode cX2_lowest 31 = .ok (.iload_n 1, 1) := by decide +kernel
theorem dX2_lowest_32 : decode cX2_lowest 32 = .ok (.i2s, 1) := by decide +kernel
theorem dX2_lowest_33 : decode cX2_lowest 33 = .ok (.ireturn, 1) := by decide +kernel
theorem dX2_lowest_34 : decode cX2_lowest 34 = .ok (.iload_n 1, 1) := by decide +kernel
theorem dX2_lowest_35 : decode cX2_lowest 35 = .ok (.ireturn, 1) := by decide +kernel
theorem dX2_hasRun_0 : decode cX2_hasRun 0 = .ok (.iload_n 2, 1) := by decide +kernel
theorem dX2_hasRun_1 : decode cX2_hasRun 1 = .ok (.ifCond .lt 33, 3) := by decide +kernel
theorem dX2_hasRun_4 : decode cX2_hasRun 4 = .ok (.iload_n 3, 1) := by decide +kernel
theorem dX2_hasRun_5 : decode cX2_hasRun 5 = .ok (.ifCond .lt 29, 3) := by decide +kernel
theorem dX2_hasRun_8 : decode cX2_hasRun 8 = .ok (.iload_n 2, 1) := by decide +kernel
theorem dX2_hasRun_9 : decode cX2_hasRun 9 = .ok (.aload_n 0, 1) := by decide +kernel
theorem dX2_hasRun_10 : decode cX2_hasRun 10 = .ok (.getfield 15, 3) := by decide +kernel
theorem dX2_hasRun_13 : decode cX2_hasRun 13 = .ok (.iload_n 1, 1) := by decide +kernel
theorem dX2_hasRun_14 : decode cX2_hasRun 14 = .ok (.iaload, 1) := by decide +kernel
theorem dX2_hasRun_15 : decode cX2_hasRun 15 = .ok (.if_icmp .gt 19, 3) := by decide +kernel
theorem dX2_hasRun_18 : decode cX2_hasRun 18 = .ok (.iload_n 3, 1) := by decide +kernel
theorem dX2_hasRun_19 : decode cX2_hasRun 19 = .ok (.aload_n 0, 1) := by decide +kernel
theorem dX2_hasRun_20 : decode cX2_hasRun 20 = .ok (.getfield 15, 3) := by decide +kernel
theorem dX2_hasRun_23 : decode cX2_hasRun 23 = .ok (.iload_n 1, 1) := by decide +kernel
theorem dX2_hasRun_24 : decode cX2_hasRun 24 = .ok (.iaload, 1) := by decide +kernel
theorem dX2_hasRun_25 : decode cX2_hasRun 25 = .ok (.iload_n 2, 1) := by decide +kernel
theorem dX2_hasRun_26 : decode cX2_hasRun 26 = .ok (.isub, 1) := by decide +kernel
theorem dX2_hasRun_27 : decode cX2_hasRun 27 = .ok (.if_icmp .gt 7, 3) := by decide +kernel
theorem dX2_hasRun_30 : decode cX2_hasRun 30 = .ok (.iconst 1, 1) := by decide +kernel
theorem dX2_hasRun_31 : decode cX2_hasRun 31 = .ok (.goto 4, 3) := by decide +kernel
theorem dX2_hasRun_34 : decode cX2_hasRun 34 = .ok (.iconst 0, 1) := by decide +kernel
theorem dX2_hasRun_35 : decode cX2_hasRun 35 = .ok (.ireturn, 1) := by decide +kernel
theorem dX2_move_0 : decode cX2_move 0 = .ok (.aload_n 0, 1) := by decide +kernel
theorem dX2_move_1 : decode cX2_move 1 = .ok (.getfield 18, 3) := by decide +kernel
theorem dX2_move_4 : decode cX2_move 4 = .ok (.bipush 40, 2) := by decide +kernel
theorem dX2_move_6 : decode cX2_move 6 = .ok (.iload_n 1, 1) := by decide +kernel
theorem dX2_move_7 : decode cX2_move 7 = .ok (.imul, 1) := by decide +kernel
theorem dX2_move_8 : decode cX2_move 8 = .ok (.iload_n 2, 1) := by decide +kernel
theorem dX2_move_9 : decode cX2_move 9 = .ok (.iadd, 1) := by decide +kernel
theorem dX2_move_10 : decode cX2_move 10 = .ok (.aload_n 0, 1) := by decide +kernel
theorem dX2_move_11 : decode cX2_move 11 = .ok (.getfield 18, 3) := by decide +kernel
theorem dX2_move_14 : decode cX2_move 14 = .ok (.bipush 40, 2) := by decide +kernel
theorem dX2_move_16 : decode cX2_move 16 = .ok (.iload_n 3, 1) := by decide +kernel
theorem dX2_move_17 : decode cX2_move 17 = .ok (.imul, 1) := by decide +kernel
theorem dX2_move_18 : decode cX2_move 18 = .ok (.iload 4, 2) := by decide +kernel
theorem dX2_move_20 : decode cX2_move 20 = .ok (.iadd, 1) := by decide +kernel
theorem dX2_move_21 : decode cX2_move 21 = .ok (.iload 5, 2) := by decide +kernel
theorem dX2_move_23 : decode cX2_move 23 = .ok (.invokestatic 25, 3) := by decide +kernel
theorem dX2_move_26 : decode cX2_move 26 = .ok (.return_, 1) := by decide +kernel
theorem dX3_init_0 : decode cX3_init 0 = .ok (.aload_n 0, 1) := by decide +kernel
theorem dX3_init_1 : decode cX3_init 1 = .ok (.invokespecial 3, 3) := by decide +kernel
theorem dX3_init_4 : decode cX3_init 4 = .ok (.aload_n 0, 1) := by decide +kernel
theorem dX3_init_5 : decode cX3_init 5 = .ok (.bipush 120, 2) := by decide +kernel
theorem dX3_init_7 : decode cX3_init 7 = .ok (.newarray .int, 2) := by decide +kernel
theorem dX3_init_9 : decode cX3_init 9 = .ok (.putfield 9, 3) := by decide +kernel
theorem dX3_init_12 : decode cX3_init 12 = .ok (.return_, 1) := by decide +kernel
theorem dX3_append_0 : decode cX3_append 0 = .ok (.aload_n 0, 1) := by decide +kernel
theorem dX3_append_1 : decode cX3_append 1 = .ok (.getfield 15, 3) := by decide +kernel
theorem dX3_append_4 : decode cX3_append 4 = .ok (.bipush 120, 2) := by decide +kernel
theorem dX3_append_6 : decode cX3_append 6 = .ok (.if_icmp .ge 23, 3) := by decide +kernel
theorem dX3_append_9 : decode cX3_append 9 = .ok (.aload_n 0, 1) := by decide +kernel
theorem dX3_append_10 : decode cX3_append 10 = .ok (.getfield 9, 3) := by decide +kernel
theorem dX3_append_13 : decode cX3_append 13 = .ok (.aload_n 0, 1) := by decide +kernel
theorem dX3_append_14 : decode cX3_append 14 = .ok (.getfield 15, 3) := by decide +kernel
theorem dX3_append_17 : decode cX3_append 17 = .ok (.iload_n 1, 1) := by decide +kernel
theorem dX3_append_18 : decode cX3_append 18 = .ok (.iastore, 1) := by decide +kernel
theorem dX3_append_19 : decode cX3_append 19 = .ok (.aload_n 0, 1) := by decide +kernel
theorem dX3_append_20 : decode cX3_append 20 = .ok (.dup, 1) := by decide +kernel
theorem dX3_append_21 : decode cX3_append 21 = .ok (.getfield 15, 3) := by decide +kernel
theorem dX3_append_24 : decode cX3_append 24 = .ok (.iconst 1, 1) := by decide +kernel
theorem dX3_append_25 : decode cX3_append 25 = .ok (.iadd, 1) := by decide +kernel
theorem dX3_append_26 : decode cX3_append 26 = .ok (.putfield 15, 3) := by decide +kernel
theorem dX3_append_29 : decode cX3_append 29 = .ok (.return_, 1) := by decide +kernel
theorem dJ6_bitCount_0f7a4_0 : decode cJ6_bitCount_0f7a4 0 = .ok (.iload_n 0, 1) := by decide +kernel
theorem dJ6_bitCount_0f7a4_1 : decode cJ6_bitCount_0f7a4 1 = .ok (.iload_n 0, 1) := by decide +kernel
theorem dJ6_bitCount_0f7a4_2 : decode cJ6_bitCount_0f7a4 2 = .ok (.iconst 1, 1) := by decide +kernel
theorem dJ6_bitCount_0f7a4_3 : decode cJ6_bitCount_0f7a4 3 = .ok (.iushr, 1) := by decide +kernel
theorem dJ6_bitCount_0f7a4_4 : decode cJ6_bitCount_0f7a4 4 = .ok (.ldc_w 265, 3) := by decide +kernel
theorem dJ6_bitCount_0f7a4_7 : decode cJ6_bitCount_0f7a4 7 = .ok (.iand, 1) := by decide +kernel
theorem dJ6_bitCount_0f7a4_8 : decode cJ6_bitCount_0f7a4 8 = .ok (.isub, 1) := by decide +kernel
theorem dJ6_bitCount_0f7a4_9 : decode cJ6_bitCount_0f7a4 9 = .ok (.istore_n 0, 1) := by decide +kernel
theorem dJ6_bitCount_0f7a4_10 : decode cJ6_bitCount_0f7a4 10 = .ok (.iload_n 0, 1) := by decide +kernel
theorem dJ6_bitCount_0f7a4_11 : decode cJ6_bitCount_0f7a4 11 = .ok (.ldc_w 266, 3) := by decide +kernel
theorem dJ6_bitCount_0f7a4_14 : decode cJ6_bitCount_0f7a4 14 = .ok (.iand, 1) := by decide +kernel
theorem dJ6_bitCount_0f7a4_15 : decode cJ6_bitCount_0f7a4 15 = .ok (.iload_n 0, 1) := by decide +kernel
theorem dJ6_bitCount_0f7a4_16 : decode cJ6_bitCount_0f7a4 16 = .ok (.iconst 2, 1) := by decide +kernel
theorem dJ6_bitCount_0f7a4_17 : decode cJ6_bitCount_0f7a4 17 = .ok (.iushr, 1) := by decide +kernel
theorem dJ6_bitCount_0f7a4_18 : decode cJ6_bitCount_0f7a4 18 = .ok (.ldc_w 266, 3) := by decide +kernel
theorem dJ6_bitCount_0f7a4_21 : decode cJ6_bitCount_0f7a4 21 = .ok (.iand, 1) := by decide +kernel
theorem dJ6_bitCount_0f7a4_22 : decode cJ6_bitCount_0f7a4 22 = .ok (.iadd, 1) := by decide +kernel
theorem dJ6_bitCount_0f7a4_23 : decode cJ6_bitCount_0f7a4 23 = .ok (.istore_n 0, 1) := by decide +kernel
theorem dJ6_bitCount_0f7a4_24 : decode cJ6_bitCount_0f7a4 24 = .ok (.iload_n 0, 1) := by decide +kernel
theorem dJ6_bitCount_0f7a4_25 : decode cJ6_bitCount_0f7a4 25 = .ok (.iload_n 0, 1) := by decide +kernel
theorem dJ6_bitCount_0f7a4_26 : decode cJ6_bitCount_0f7a4 26 = .ok (.iconst 4, 1) := by decide +kernel
theorem dJ6_bitCount_0f7a4_27 : decode cJ6_bitCount_0f7a4 27 = .ok (.iushr, 1) := by decide +kernel
theorem dJ6_bitCount_0f7a4_28 : decode cJ6_bitCount_0f7a4 28 = .ok (.iadd, 1) := by decide +kernel
theorem dJ6_bitCount_0f7a4_29 : decode cJ6_bitCount_0f7a4 29 = .ok (.ldc_w 267, 3) := by decide +kernel
theorem dJ6_bitCount_0f7a4_32 : decode cJ6_bitCount_0f7a4 32 = .ok (.iand, 1) := by decide +kernel
theorem dJ6_bitCount_0f7a4_33 : decode cJ6_bitCount_0f7a4 33 = .ok (.istore_n 0, 1) := by decide +kernel
theorem dJ6_bitCount_0f7a4_34 : decode cJ6_bitCount_0f7a4 34 = .ok (.iload_n 0, 1) := by decide +kernel
theorem dJ6_bitCount_0f7a4_35 : decode cJ6_bitCount_0f7a4 35 = .ok (.iload_n 0, 1) := by decide +kernel
theorem dJ6_bitCount_0f7a4_36 : decode cJ6_bitCount_0f7a4 36 = .ok (.bipush 8, 2) := by decide +kernel
theorem dJ6_bitCount_0f7a4_38 : decode cJ6_bitCount_0f7a4 38 = .ok (.iushr, 1) := by decide +kernel
theorem dJ6_bitCount_0f7a4_39 : decode cJ6_bitCount_0f7a4 39 = .ok (.iadd, 1) := by decide +kernel
theorem dJ6_bitCount_0f7a4_40 : decode cJ6_bitCount_0f7a4 40 = .ok (.istore_n 0, 1) := by decide +kernel
theorem dJ6_bitCount_0f7a4_41 : decode cJ6_bitCount_0f7a4 41 = .ok (.iload_n 0, 1) := by decide +kernel
theorem dJ6_bitCount_0f7a4_42 : decode cJ6_bitCount_0f7a4 42 = .ok (.iload_n 0, 1) := by decide +kernel
theorem dJ6_bitCount_0f7a4_43 : decode cJ6_bitCount_0f7a4 43 = .ok (.bipush 16, 2) := by decide +kernel
theorem dJ6_bitCount_0f7a4_45 : decode cJ6_bitCount_0f7a4 45 = .ok (.iushr, 1) := by decide +kernel
theorem dJ6_bitCount_0f7a4_46 : decode cJ6_bitCount_0f7a4 46 = .ok (.iadd, 1) := by decide +kernel
theorem dJ6_bitCount_0f7a4_47 : decode cJ6_bitCount_0f7a4 47 = .ok (.istore_n 0, 1) := by decide +kernel
theorem dJ6_bitCount_0f7a4_48 : decode cJ6_bitCount_0f7a4 48 = .ok (.iload_n 0, 1) := by decide +kernel
theorem dJ6_bitCount_0f7a4_49 : decode cJ6_bitCount_0f7a4 49 = .ok (.bipush 63, 2) := by decide +kernel
theorem dJ6_bitCount_0f7a4_51 : decode cJ6_bitCount_0f7a4 51 = .ok (.iand, 1) := by decide +kernel
theorem dJ6_bitCount_0f7a4_52 : decode cJ6_bitCount_0f7a4 52 = .ok (.ireturn, 1) := by decide +kernel
theorem dJ9_abs_0f7a4_0 : decode cJ9_abs_0f7a4 0 = .ok (.iload_n 0, 1) := by decide +kernel
theorem dJ9_abs_0f7a4_1 : decode cJ9_abs_0f7a4 1 = .ok (.ifCond .ge 8, 3) := by decide +kernel
theorem dJ9_abs_0f7a4_4 : decode cJ9_abs_0f7a4 4 = .ok (.iload_n 0, 1) := by decide +kernel
theorem dJ9_abs_0f7a4_5 : decode cJ9_abs_0f7a4 5 = .ok (.ineg, 1) := by decide +kernel
theorem dJ9_abs_0f7a4_6 : decode cJ9_abs_0f7a4 6 = .ok (.goto 4, 3) := by decide +kernel
theorem dJ9_abs_0f7a4_9 : decode cJ9_abs_0f7a4 9 = .ok (.iload_n 0, 1) := by decide +kernel
theorem dJ9_abs_0f7a4_10 : decode cJ9_abs_0f7a4 10 = .ok (.ireturn, 1) := by decide +kernel
theorem dJ9_max_7cf53_0 : decode cJ9_max_7cf53 0 = .ok (.iload_n 0, 1) := by decide +kernel
theorem dJ9_max_7cf53_1 : decode cJ9_max_7cf53 1 = .ok (.iload_n 1, 1) := by decide +kernel
theorem dJ9_max_7cf53_2 : decode cJ9_max_7cf53 2 = .ok (.if_icmp .lt 7, 3) := by decide +kernel
theorem dJ9_max_7cf53_5 : decode cJ9_max_7cf53 5 = .ok (.iload_n 0, 1) := by decide +kernel
theorem dJ9_max_7cf53_6 : decode cJ9_max_7cf53 6 = .ok (.goto 4, 3) := by decide +kernel
theorem dJ9_max_7cf53_9 : decode cJ9_max_7cf53 9 = .ok (.iload_n 1, 1) := by decide +kernel
theorem dJ9_max_7cf53_10 : decode cJ9_max_7cf53 10 = .ok (.ireturn, 1) := by decide +kernel
theorem dJ9_min_7cf53_0 : decode cJ9_min_7cf53 0 = .ok (.iload_n 0, 1) := by decide +kernel
theorem dJ9_min_7cf53_1 : decode cJ9_min_7cf53 1 = .ok (.iload_n 1, 1) := by decide +kernel
theorem dJ9_min_7cf53_2 : decode cJ9_min_7cf53 2 = .ok (.if_icmp .gt 7, 3) := by decide +kernel
theorem dJ9_min_7cf53_5 : decode cJ9_min_7cf53 5 = .ok (.iload_n 0, 1) := by decide +kernel
theorem dJ9_min_7cf53_6 : decode cJ9_min_7cf53 6 = .ok (.goto 4, 3) := by decide +kernel
theorem dJ9_min_7cf53_9 : decode cJ9_min_7cf53 9 = .ok (.iload_n 1, 1) := by decide +kernel
theorem dJ9_min_7cf53_10 : decode cJ9_min_7cf53 10 = .ok (.ireturn, 1) := by decide +kernel
theorem dJ0_length_8abf5_0 : decode cJ0_length_8abf5 0 = .ok (.aload_n 0, 1) := by decide +kernel
theorem dJ0_length_8abf5_1 : decode cJ0_length_8abf5 1 = .ok (.getfield 9, 3) := by decide +kernel
theorem dJ0_length_8abf5_4 : decode cJ0_length_8abf5 4 = .ok (.arraylength, 1) := by decide +kernel
theorem dJ0_length_8abf5_5 : decode cJ0_length_8abf5 5 = .ok (.aload_n 0, 1) := by decide +kernel
theorem dJ0_length_8abf5_6 : decode cJ0_length_8abf5 6 = .ok (.invokevirtual 335, 3) := by decide +kernel
theorem dJ0_length_8abf5_9 : decode cJ0_length_8abf5 9 = .ok (.ishr, 1) := by decide +kernel
theorem dJ0_length_8abf5_10 : decode cJ0_length_8abf5 10 = .ok (.ireturn, 1) := by decide +kernel
theorem dJ0_charAt_5068e_0 : decode cJ0_charAt_5068e 0 = .ok (.aload_n 0, 1) := by decide +kernel
theorem dJ0_charAt_5068e_1 : decode cJ0_charAt_5068e 1 = .ok (.invokevirtual 492, 3) := by decide +kernel
theorem dJ0_charAt_5068e_4 : decode cJ0_charAt_5068e 4 = .ok (.ifCond .eq 12, 3) := by decide +kernel
theorem dJ0_charAt_5068e_7 : decode cJ0_charAt_5068e 7 = .ok (.aload_n 0, 1) := by decide +kernel
theorem dJ0_charAt_5068e_8 : decode cJ0_charAt_5068e 8 = .ok (.getfield 9, 3) := by decide +kernel
theorem dJ0_charAt_5068e_11 : decode cJ0_charAt_5068e 11 = .ok (.iload_n 1, 1) := by decide +kernel
theorem dJ0_charAt_5068e_12 : decode cJ0_charAt_5068e 12 = .ok (.invokestatic 495, 3) := by decide +kernel
theorem dJ0_charAt_5068e_15 : decode cJ0_charAt_5068e 15 = .ok (.ireturn, 1) := by decide +kernel
theorem dJ0_charAt_5068e_16 : decode cJ0_charAt_5068e 16 = .ok (.aload_n 0, 1) := by decide +kernel
theorem dJ0_charAt_5068e_17 : decode cJ0_charAt_5068e 17 = .ok (.getfield 9, 3) := by decide +kernel
theorem dJ0_charAt_5068e_20 : decode cJ0_charAt_5068e 20 = .ok (.iload_n 1, 1) := by decide +kernel
theorem dJ0_charAt_5068e_21 : decode cJ0_charAt_5068e 21 = .ok (.invokestatic 498, 3) := by decide +kernel
theorem dJ0_charAt_5068e_24 : decode cJ0_charAt_5068e 24 = .ok (.ireturn, 1) := by decide +kernel
theorem dJ0_coder_7d493_0 : decode cJ0_coder_7d493 0 = .ok (.getstatic 38, 3) := by decide +kernel
theorem dJ0_coder_7d493_3 : decode cJ0_coder_7d493 3 = .ok (.ifCond .eq 10, 3) := by decide +kernel
theorem dJ0_coder_7d493_6 : decode cJ0_coder_7d493 6 = .ok (.aload_n 0, 1) := by decide +kernel
theorem dJ0_coder_7d493_7 : decode cJ0_coder_7d493 7 = .ok (.getfield 15, 3) := by decide +kernel
theorem dJ0_coder_7d493_10 : decode cJ0_coder_7d493 10 = .ok (.goto 4, 3) := by decide +kernel
theorem dJ0_coder_7d493_13 : decode cJ0_coder_7d493 13 = .ok (.iconst 1, 1) := by decide +kernel
theorem dJ0_coder_7d493_14 : decode cJ0_coder_7d493 14 = .ok (.ireturn, 1) := by decide +kernel
theorem dJ0_isLatin1_aae02_0 : decode cJ0_isLatin1_aae02 0 = .ok (.getstatic 38, 3) := by decide +kernel
theorem dJ0_isLatin1_aae02_3 : decode cJ0_isLatin1_aae02 3 = .ok (.ifCond .eq 14, 3) := by decide +kernel
theorem dJ0_isLatin1_aae02_6 : decode cJ0_isLatin1_aae02 6 = .ok (.aload_n 0, 1) := by decide +kernel
theorem dJ0_isLatin1_aae02_7 : decode cJ0_isLatin1_aae02 7 = .ok (.getfield 15, 3) := by decide +kernel
theorem dJ0_isLatin1_aae02_10 : decode cJ0_isLatin1_aae02 10 = .ok (.ifCond .ne 7, 3) := by decide +kernel
theorem dJ0_isLatin1_aae02_13 : decode cJ0_isLatin1_aae02 13 = .ok (.iconst 1, 1) := by decide +kernel
theorem dJ0_isLatin1_aae02_14 : decode cJ0_isLatin1_aae02 14 = .ok (.goto 4, 3) := by decide +kernel
theorem dJ0_isLatin1_aae02_17 : decode cJ0_isLatin1_aae02 17 = .ok (.iconst 0, 1) := by decide +kernel
theorem dJ0_isLatin1_aae02_18 : decode cJ0_isLatin1_aae02 18 = .ok (.ireturn, 1) := by decide +kernel
theorem dJ0_checkIndex_df160_0 : decode cJ0_checkIndex_df160 0 = .ok (.iload_n 0, 1) := by decide +kernel
theorem dJ0_checkIndex_df160_1 : decode cJ0_checkIndex_df160 1 = .ok (.iload_n 1, 1) := by decide +kernel
theorem dJ0_checkIndex_df160_2 : decode cJ0_checkIndex_df160 2 = .ok (.getstatic 1053, 3) := by decide +kernel
theorem dJ0_checkIndex_df160_5 : decode cJ0_checkIndex_df160 5 = .ok (.invokestatic 1059, 3) := by decide +kernel
theorem dJ0_checkIndex_df160_8 : decode cJ0_checkIndex_df160 8 = .ok (.pop, 1) := by decide +kernel
theorem dJ0_checkIndex_df160_9 : decode cJ0_checkIndex_df160 9 = .ok (.return_, 1) := by decide +kernel
theorem dJ1_charAt_3b067_0 : decode cJ1_charAt_3b067 0 = .ok (.iload_n 1, 1) := by decide +kernel
theorem dJ1_charAt_3b067_1 : decode cJ1_charAt_3b067 1 = .ok (.aload_n 0, 1) := by decide +kernel
theorem dJ1_charAt_3b067_2 : decode cJ1_charAt_3b067 2 = .ok (.arraylength, 1) := by decide +kernel
theorem dJ1_charAt_3b067_3 : decode cJ1_charAt_3b067 3 = .ok (.invokestatic 9, 3) := by decide +kernel
theorem dJ1_charAt_3b067_6 : decode cJ1_charAt_3b067 6 = .ok (.aload_n 0, 1) := by decide +kernel
theorem dJ1_charAt_3b067_7 : decode cJ1_charAt_3b067 7 = .ok (.iload_n 1, 1) := by decide +kernel
theorem dJ1_charAt_3b067_8 : decode cJ1_charAt_3b067 8 = .ok (.baload, 1) := by decide +kernel
theorem dJ1_charAt_3b067_9 : decode cJ1_charAt_3b067 9 = .ok (.sipush 255, 3) := by decide +kernel
theorem dJ1_charAt_3b067_12 : decode cJ1_charAt_3b067 12 = .ok (.iand, 1) := by decide +kernel
theorem dJ1_charAt_3b067_13 : decode cJ1_charAt_3b067 13 = .ok (.i2c, 1) := by decide +kernel
theorem dJ1_charAt_3b067_14 : decode cJ1_charAt_3b067 14 = .ok (.ireturn, 1) := by decide +kernel
theorem dJ2_getChar_3b067_0 : decode cJ2_getChar_3b067 0 = .ok (.getstatic 44, 3) := by decide +kernel
theorem dJ2_getChar_3b067_3 : decode cJ2_getChar_3b067 3 = .ok (.ifCond .ne 25, 3) := by decide +kernel
theorem dJ2_getChar_3b067_6 : decode cJ2_getChar_3b067 6 = .ok (.iload_n 1, 1) := by decide +kernel
theorem dJ2_getChar_3b067_7 : decode cJ2_getChar_3b067 7 = .ok (.ifCond .lt 11, 3) := by decide +kernel
theorem dJ2_getChar_3b067_10 : decode cJ2_getChar_3b067 10 = .ok (.iload_n 1, 1) := by decide +kernel
theorem dJ2_getChar_3b067_11 : decode cJ2_getChar_3b067 11 = .ok (.aload_n 0, 1) := by decide +kernel
theorem dJ2_getChar_3b067_12 : decode cJ2_getChar_3b067 12 = .ok (.invokestatic 48, 3) := by decide +kernel
theorem dJ2_getChar_3b067_15 : decode cJ2_getChar_3b067 15 = .ok (.if_icmp .lt 13, 3) := by decide +kernel
theorem dJ2_getChar_3b067_18 : decode cJ2_getChar_3b067 18 = .ok (.new 52, 3) := by decide +kernel
theorem dJ2_getChar_3b067_21 : decode cJ2_getChar_3b067 21 = .ok (.dup, 1) := by decide +kernel
theorem dJ2_getChar_3b067_22 : decode cJ2_getChar_3b067 22 = .ok (.ldc 54, 2) := by decide +kernel
theorem dJ2_getChar_3b067_24 : decode cJ2_getChar_3b067 24 = .ok (.invokespecial 56, 3) := by decide +kernel
theorem dJ2_getChar_3b067_27 : decode cJ2_getChar_3b067 27 = .ok (.athrow, 1) := by decide +kernel
theorem dJ2_getChar_3b067_28 : decode cJ2_getChar_3b067 28 = .ok (.iload_n 1, 1) := by decide +kernel
theorem dJ2_getChar_3b067_29 : decode cJ2_getChar_3b067 29 = .ok (.iconst 1, 1) := by decide +kernel
theorem dJ2_getChar_3b067_30 : decode cJ2_getChar_3b067 30 = .ok (.ishl, 1) := by decide +kernel
theorem dJ2_getChar_3b067_31 : decode cJ2_getChar_3b067 31 = .ok (.istore_n 1, 1) := by decide +kernel
theorem dJ2_getChar_3b067_32 : decode cJ2_getChar_3b067 32 = .ok (.aload_n 0, 1) := by decide +kernel
theorem dJ2_getChar_3b067_33 : decode cJ2_getChar_3b067 33 = .ok (.iload_n 1, 1) := by decide +kernel
theorem dJ2_getChar_3b067_34 : decode cJ2_getChar_3b067 34 = .ok (.iinc 1 1, 3) := by decide +kernel
theorem dJ2_getChar_3b067_37 : decode cJ2_getChar_3b067 37 = .ok (.baload, 1) := by decide +kernel
theorem dJ2_getChar_3b067_38 : decode cJ2_getChar_3b067 38 = .ok (.sipush 255, 3) := by decide +kernel
theorem dJ2_getChar_3b067_41 : decode cJ2_getChar_3b067 41 = .ok (.iand, 1) := by decide +kernel
theorem dJ2_getChar_3b067_42 : decode cJ2_getChar_3b067 42 = .ok (.getstatic 59, 3) := by decide +kernel
theorem dJ2_getChar_3b067_45 : decode cJ2_getChar_3b067 45 = .ok (.ishl, 1) := by decide +kernel
theorem dJ2_getChar_3b067_46 : decode cJ2_getChar_3b067 46 = .ok (.aload_n 0, 1) := by decide +kernel
theorem dJ2_getChar_3b067_47 : decode cJ2_getChar_3b067 47 = .ok (.iload_n 1, 1) := by decide +kernel
theorem dJ2_getChar_3b067_48 : decode cJ2_getChar_3b067 48 = .ok (.baload, 1) := by decide +kernel
theorem dJ2_getChar_3b067_49 : decode cJ2_getChar_3b067 49 = .ok (.sipush 255, 3) := by decide +kernel
theorem dJ2_getChar_3b067_52 : decode cJ2_getChar_3b067 52 = .ok (.iand, 1) := by decide +kernel
theorem dJ2_getChar_3b067_53 : decode cJ2_getChar_3b067 53 = .ok (.getstatic 63, 3) := by decide +kernel
theorem dJ2_getChar_3b067_56 : decode cJ2_getChar_3b067 56 = .ok (.ishl, 1) := by decide +kernel
theorem dJ2_getChar_3b067_57 : decode cJ2_getChar_3b067 57 = .ok (.ior, 1) := by decide +kernel
theorem dJ2_getChar_3b067_58 : decode cJ2_getChar_3b067 58 = .ok (.i2c, 1) := by decide +kernel
theorem dJ2_getChar_3b067_59 : decode cJ2_getChar_3b067 59 = .ok (.ireturn, 1) := by decide +kernel
theorem dJ2_length_9d52b_0 : decode cJ2_length_9d52b 0 = .ok (.aload_n 0, 1) := by decide +kernel
theorem dJ2_length_9d52b_1 : decode cJ2_length_9d52b 1 = .ok (.arraylength, 1) := by decide +kernel
theorem dJ2_length_9d52b_2 : decode cJ2_length_9d52b 2 = .ok (.iconst 1, 1) := by decide +kernel
theorem dJ2_length_9d52b_3 : decode cJ2_length_9d52b 3 = .ok (.ishr, 1) := by decide +kernel
theorem dJ2_length_9d52b_4 : decode cJ2_length_9d52b 4 = .ok (.ireturn, 1) := by decide +kernel
theorem dJ2_charAt_3b067_0 : decode cJ2_charAt_3b067 0 = .ok (.iload_n 1, 1) := by decide +kernel
theorem dJ2_charAt_3b067_1 : decode cJ2_charAt_3b067 1 = .ok (.aload_n 0, 1) := by decide +kernel
theorem dJ2_charAt_3b067_2 : decode cJ2_charAt_3b067 2 = .ok (.invokestatic 67, 3) := by decide +kernel
theorem dJ2_charAt_3b067_5 : decode cJ2_charAt_3b067 5 = .ok (.aload_n 0, 1) := by decide +kernel
theorem dJ2_charAt_3b067_6 : decode cJ2_charAt_3b067 6 = .ok (.iload_n 1, 1) := by decide +kernel
theorem dJ2_charAt_3b067_7 : decode cJ2_charAt_3b067 7 = .ok (.invokestatic 71, 3) := by decide +kernel
theorem dJ2_charAt_3b067_10 : decode cJ2_charAt_3b067 10 = .ok (.ireturn, 1) := by decide +kernel
theorem dJ2_checkIndex_2214a_0 : decode cJ2_checkIndex_2214a 0 = .ok (.iload_n 0, 1) := by decide +kernel
theorem dJ2_checkIndex_2214a_1 : decode cJ2_checkIndex_2214a 1 = .ok (.aload_n 1, 1) := by decide +kernel
theorem dJ2_checkIndex_2214a_2 : decode cJ2_checkIndex_2214a 2 = .ok (.invokestatic 48, 3) := by decide +kernel
theorem dJ2_checkIndex_2214a_5 : decode cJ2_checkIndex_2214a 5 = .ok (.invokestatic 414, 3) := by decide +kernel
theorem dJ2_checkIndex_2214a_8 : decode cJ2_checkIndex_2214a 8 = .ok (.return_, 1) := by decide +kernel
theorem dJ7_fill_53178_0 : decode cJ7_fill_53178 0 = .ok (.iconst 0, 1) := by decide +kernel
theorem dJ7_fill_53178_1 : decode cJ7_fill_53178 1 = .ok (.istore_n 2, 1) := by decide +kernel
theorem dJ7_fill_53178_2 : decode cJ7_fill_53178 2 = .ok (.aload_n 0, 1) := by decide +kernel
theorem dJ7_fill_53178_3 : decode cJ7_fill_53178 3 = .ok (.arraylength, 1) := by decide +kernel
theorem dJ7_fill_53178_4 : decode cJ7_fill_53178 4 = .ok (.istore_n 3, 1) := by decide +kernel
theorem dJ7_fill_53178_5 : decode cJ7_fill_53178 5 = .ok (.iload_n 2, 1) := by decide +kernel
theorem dJ7_fill_53178_6 : decode cJ7_fill_53178 6 = .ok (.iload_n 3, 1) := by decide +kernel
theorem dJ7_fill_53178_7 : decode cJ7_fill_53178 7 = .ok (.if_icmp .ge 13, 3) := by decide +kernel
theorem dJ7_fill_53178_10 : decode cJ7_fill_53178 10 = .ok (.aload_n 0, 1) := by decide +kernel
theorem dJ7_fill_53178_11 : decode cJ7_fill_53178 11 = .ok (.iload_n 2, 1) := by decide +kernel
theorem dJ7_fill_53178_12 : decode cJ7_fill_53178 12 = .ok (.iload_n 1, 1) := by decide +kernel
theorem dJ7_fill_53178_13 : decode cJ7_fill_53178 13 = .ok (.iastore, 1) := by decide +kernel
theorem dJ7_fill_53178_14 : decode cJ7_fill_53178 14 = .ok (.iinc 2 1, 3) := by decide +kernel
theorem dJ7_fill_53178_17 : decode cJ7_fill_53178 17 = .ok (.goto (-12), 3) := by decide +kernel
theorem dJ7_fill_53178_20 : decode cJ7_fill_53178 20 = .ok (.return_, 1) := by decide +kernel
theorem dJ3_checkIndex_8e157_0 : decode cJ3_checkIndex_8e157 0 = .ok (.iload_n 0, 1) := by decide +kernel
theorem dJ3_checkIndex_8e157_1 : decode cJ3_checkIndex_8e157 1 = .ok (.ifCond .lt 8, 3) := by decide +kernel
theorem dJ3_checkIndex_8e157_4 : decode cJ3_checkIndex_8e157 4 = .ok (.iload_n 0, 1) := by decide +kernel
theorem dJ3_checkIndex_8e157_5 : decode cJ3_checkIndex_8e157 5 = .ok (.iload_n 1, 1) := by decide +kernel
theorem dJ3_checkIndex_8e157_6 : decode cJ3_checkIndex_8e157 6 = .ok (.if_icmp .lt 10, 3) := by decide +kernel
theorem dJ3_checkIndex_8e157_9 : decode cJ3_checkIndex_8e157 9 = .ok (.aload_n 2, 1) := by decide +kernel
theorem dJ3_checkIndex_8e157_10 : decode cJ3_checkIndex_8e157 10 = .ok (.iload_n 0, 1) := by decide +kernel
theorem dJ3_checkIndex_8e157_11 : decode cJ3_checkIndex_8e157 11 = .ok (.iload_n 1, 1) := by decide +kernel
theorem dJ3_checkIndex_8e157_12 : decode cJ3_checkIndex_8e157 12 = .ok (.invokestatic 95, 3) := by decide +kernel
theorem dJ3_checkIndex_8e157_15 : decode cJ3_checkIndex_8e157 15 = .ok (.athrow, 1) := by decide +kernel
theorem dJ3_checkIndex_8e157_16 : decode cJ3_checkIndex_8e157 16 = .ok (.iload_n 0, 1) := by decide +kernel
theorem dJ3_checkIndex_8e157_17 : decode cJ3_checkIndex_8e157 17 = .ok (.ireturn, 1) := by decide +kernel
end
section
theorem dX4_init_0 : decode cX4_init 0 = .ok (.aload_n 0, 1) := by decide +kernel
theorem dX4_init_1 : decode cX4_init 1 = .ok (.invokespecial 1, 3) := by decide +kernel
theorem dX4_init_4 : decode cX4_init 4 = .ok (.aload_n 0, 1) := by decide +kernel
theorem dX4_init_5 : decode cX4_init 5 = .ok (.new 7, 3) := by decide +kernel
theorem dX4_init_8 : decode cX4_init 8 = .ok (.dup, 1) := by decide +kernel
theorem dX4_init_9 : decode cX4_init 9 = .ok (.invokespecial 9, 3) := by decide +kernel
theorem dX4_init_12 : decode cX4_init 12 = .ok (.putfield 10, 3) := by decide +kernel
theorem dX4_init_15 : decode cX4_init 15 = .ok (.aload_n 0, 1) := by decide +kernel
theorem dX4_init_16 : decode cX4_init 16 = .ok (.new 7, 3) := by decide +kernel
theorem dX4_init_19 : decode cX4_init 19 = .ok (.dup, 1) := by decide +kernel
theorem dX4_init_20 : decode cX4_init 20 = .ok (.invokespecial 9, 3) := by decide +kernel
theorem dX4_init_23 : decode cX4_init 23 = .ok (.putfield 16, 3) := by decide +kernel
theorem dX4_init_26 : decode cX4_init 26 = .ok (.aload_n 0, 1) := by decide +kernel
theorem dX4_init_27 : decode cX4_init 27 = .ok (.new 7, 3) := by decide +kernel
theorem dX4_init_30 : decode cX4_init 30 = .ok (.dup, 1) := by decide +kernel
theorem dX4_init_31 : decode cX4_init 31 = .ok (.invokespecial 9, 3) := by decide +kernel
theorem dX4_init_34 : decode cX4_init 34 = .ok (.putfield 19, 3) := by decide +kernel
theorem dX4_init_37 : decode cX4_init 37 = .ok (.aload_n 0, 1) := by decide +kernel
theorem dX4_init_38 : decode cX4_init 38 = .ok (.iconst 0, 1) := by decide +kernel
theorem dX4_init_39 : decode cX4_init 39 = .ok (.putfield 22, 3) := by decide +kernel
theorem dX4_init_42 : decode cX4_init 42 = .ok (.aload_n 0, 1) := by decide +kernel
theorem dX4_init_43 : decode cX4_init 43 = .ok (.new 26, 3) := by decide +kernel
theorem dX4_init_46 : decode cX4_init 46 = .ok (.dup, 1) := by decide +kernel
theorem dX4_init_47 : decode cX4_init 47 = .ok (.invokespecial 28, 3) := by decide +kernel
theorem dX4_init_50 : decode cX4_init 50 = .ok (.putfield 29, 3) := by decide +kernel
theorem dX4_init_53 : decode cX4_init 53 = .ok (.aload_n 0, 1) := by decide +kernel
theorem dX4_init_54 : decode cX4_init 54 = .ok (.new 33, 3) := by decide +kernel
theorem dX4_init_57 : decode cX4_init 57 = .ok (.dup, 1) := by decide +kernel
theorem dX4_init_58 : decode cX4_init 58 = .ok (.aload_n 0, 1) := by decide +kernel
theorem dX4_init_59 : decode cX4_init 59 = .ok (.getfield 29, 3) := by decide +kernel
theorem dX4_init_62 : decode cX4_init 62 = .ok (.aload_n 0, 1) := by decide +kernel
theorem dX4_init_63 : decode cX4_init 63 = .ok (.getfield 16, 3) := by decide +kernel
theorem dX4_init_66 : decode cX4_init 66 = .ok (.invokespecial 35, 3) := by decide +kernel
theorem dX4_init_69 : decode cX4_init 69 = .ok (.putfield 38, 3) := by decide +kernel
theorem dX4_init_72 : decode cX4_init 72 = .ok (.aload_n 0, 1) := by decide +kernel
theorem dX4_init_73 : decode cX4_init 73 = .ok (.new 42, 3) := by decide +kernel
theorem dX4_init_76 : decode cX4_init 76 = .ok (.dup, 1) := by decide +kernel
theorem dX4_init_77 : decode cX4_init 77 = .ok (.invokespecial 44, 3) := by decide +kernel
theorem dX4_init_80 : decode cX4_init 80 = .ok (.putfield 45, 3) := by decide +kernel
theorem dX4_init_83 : decode cX4_init 83 = .ok (.aload_n 0, 1) := by decide +kernel
theorem dX4_init_84 : decode cX4_init 84 = .ok (.bipush 7, 2) := by decide +kernel
theorem dX4_init_86 : decode cX4_init 86 = .ok (.newarray .int, 2) := by decide +kernel
theorem dX4_init_88 : decode cX4_init 88 = .ok (.putfield 49, 3) := by decide +kernel
theorem dX4_init_91 : decode cX4_init 91 = .ok (.return_, 1) := by decide +kernel
theorem dX4_clay_0 : decode cX4_clay 0 = .ok (.iload_n 1, 1) := by decide +kernel
theorem dX4_clay_1 : decode cX4_clay 1 = .ok (.iconst 1, 1) := by decide +kernel
theorem dX4_clay_2 : decode cX4_clay 2 = .ok (.bipush 20, 2) := by decide +kernel
theorem dX4_clay_4 : decode cX4_clay 4 = .ok (.invokestatic 53, 3) := by decide +kernel
theorem dX4_clay_7 : decode cX4_clay 7 = .ok (.ifCond .ne 9, 3) := by decide +kernel
theorem dX4_clay_10 : decode cX4_clay 10 = .ok (.aload_n 0, 1) := by decide +kernel
theorem dX4_clay_11 : decode cX4_clay 11 = .ok (.iconst 0, 1) := by decide +kernel
theorem dX4_clay_12 : decode cX4_clay 12 = .ok (.invokevirtual 57, 3) := by decide +kernel
theorem dX4_clay_15 : decode cX4_clay 15 = .ok (.ireturn, 1) := by decide +kernel
theorem dX4_clay_16 : decode cX4_clay 16 = .ok (.aload_n 0, 1) := by decide +kernel
theorem dX4_clay_17 : decode cX4_clay 17 = .ok (.getfield 10, 3) := by decide +kernel
theorem dX4_clay_20 : decode cX4_clay 20 = .ok (.getfield 61, 3) := by decide +kernel
theorem dX4_clay_23 : decode cX4_clay 23 = .ok (.istore_n 2, 1) := by decide +kernel
theorem dX4_clay_24 : decode cX4_clay 24 = .ok (.aload_n 0, 1) := by decide +kernel
theorem dX4_clay_25 : decode cX4_clay 25 = .ok (.getfield 10, 3) := by decide +kernel
theorem dX4_clay_28 : decode cX4_clay 28 = .ok (.iload_n 1, 1) := by decide +kernel
theorem dX4_clay_29 : decode cX4_clay 29 = .ok (.putfield 61, 3) := by decide +kernel
theorem dX4_clay_32 : decode cX4_clay 32 = .ok (.iload_n 2, 1) := by decide +kernel
theorem dX4_clay_33 : decode cX4_clay 33 = .ok (.ireturn, 1) := by decide +kernel
theorem dX4_pair_0 : decode cX4_pair 0 = .ok (.iload_n 1, 1) := by decide +kernel
theorem dX4_pair_1 : decode cX4_pair 1 = .ok (.iconst 0, 1) := by decide +kernel
theorem dX4_pair_2 : decode cX4_pair 2 = .ok (.iconst 5, 1) := by decide +kernel
theorem dX4_pair_3 : decode cX4_pair 3 = .ok (.invokestatic 53, 3) := by decide +kernel
theorem dX4_pair_6 : decode cX4_pair 6 = .ok (.ifCond .eq 23, 3) := by decide +kernel
theorem dX4_pair_9 : decode cX4_pair 9 = .ok (.iload_n 2, 1) := by decide +kernel
theorem dX4_pair_10 : decode cX4_pair 10 = .ok (.iconst 0, 1) := by decide +kernel
theorem dX4_pair_11 : decode cX4_pair 11 = .ok (.bipush 7, 2) := by decide +kernel
theorem dX4_pair_13 : decode cX4_pair 13 = .ok (.invokestatic 53, 3) := by decide +kernel
theorem dX4_pair_16 : decode cX4_pair 16 = .ok (.ifCond .eq 13, 3) := by decide +kernel
theorem dX4_pair_19 : decode cX4_pair 19 = .ok (.iload_n 3, 1) := by decide +kernel
theorem dX4_pair_20 : decode cX4_pair 20 = .ok (.iconst 0, 1) := by decide +kernel
theorem dX4_pair_21 : decode cX4_pair 21 = .ok (.bipush 7, 2) := by decide +kernel
theorem dX4_pair_23 : decode cX4_pair 23 = .ok (.invokestatic 53, 3) := by decide +kernel
theorem dX4_pair_26 : decode cX4_pair 26 = .ok (.ifCond .ne 9, 3) := by decide +kernel
theorem dX4_pair_29 : decode cX4_pair 29 = .ok (.aload_n 0, 1) := by decide +kernel
theorem dX4_pair_30 : decode cX4_pair 30 = .ok (.iconst 0, 1) := by decide +kernel
theorem dX4_pair_31 : decode cX4_pair 31 = .ok (.invokevirtual 57, 3) := by decide +kernel
theorem dX4_pair_34 : decode cX4_pair 34 = .ok (.ireturn, 1) := by decide +kernel
theorem dX4_pair_35 : decode cX4_pair 35 = .ok (.aload_n 0, 1) := by decide +kernel
theorem dX4_pair_36 : decode cX4_pair 36 = .ok (.getfield 10, 3) := by decide +kernel
theorem dX4_pair_39 : decode cX4_pair 39 = .ok (.getfield 65, 3) := by decide +kernel
theorem dX4_pair_42 : decode cX4_pair 42 = .ok (.iload_n 1, 1) := by decide +kernel
theorem dX4_pair_43 : decode cX4_pair 43 = .ok (.iaload, 1) := by decide +kernel
theorem dX4_pair_44 : decode cX4_pair 44 = .ok (.istore 4, 2) := by decide +kernel
theorem dX4_pair_46 : decode cX4_pair 46 = .ok (.aload_n 0, 1) := by decide +kernel
theorem dX4_pair_47 : decode cX4_pair 47 = .ok (.getfield 10, 3) := by decide +kernel
theorem dX4_pair_50 : decode cX4_pair 50 = .ok (.getfield 65, 3) := by decide +kernel
theorem dX4_pair_53 : decode cX4_pair 53 = .ok (.iload_n 1, 1) := by decide +kernel
theorem dX4_pair_54 : decode cX4_pair 54 = .ok (.bipush 10, 2) := by decide +kernel
theorem dX4_pair_56 : decode cX4_pair 56 = .ok (.iload_n 2, 1) := by decide +kernel
theorem dX4_pair_57 : decode cX4_pair 57 = .ok (.imul, 1) := by decide +kernel
theorem dX4_pair_58 : decode cX4_pair 58 = .ok (.iload_n 3, 1) := by decide +kernel
theorem dX4_pair_59 : decode cX4_pair 59 = .ok (.iadd, 1) := by decide +kernel
theorem dX4_pair_60 : decode cX4_pair 60 = .ok (.iastore, 1) := by decide +kernel
theorem dX4_pair_61 : decode cX4_pair 61 = .ok (.iload 4, 2) := by decide +kernel
theorem dX4_pair_63 : decode cX4_pair 63 = .ok (.ireturn, 1) := by decide +kernel
theorem dX4_listed_0 : decode cX4_listed 0 = .ok (.iload_n 1, 1) := by decide +kernel
theorem dX4_listed_1 : decode cX4_listed 1 = .ok (.iconst 0, 1) := by decide +kernel
theorem dX4_listed_2 : decode cX4_listed 2 = .ok (.iconst 5, 1) := by decide +kernel
theorem dX4_listed_3 : decode cX4_listed 3 = .ok (.invokestatic 53, 3) := by decide +kernel
theorem dX4_listed_6 : decode cX4_listed 6 = .ok (.ifCond .ne 9, 3) := by decide +kernel
theorem dX4_listed_9 : decode cX4_listed 9 = .ok (.aload_n 0, 1) := by decide +kernel
theorem dX4_listed_10 : decode cX4_listed 10 = .ok (.iconst 0, 1) := by decide +kernel
theorem dX4_listed_11 : decode cX4_listed 11 = .ok (.invokevirtual 57, 3) := by decide +kernel
theorem dX4_listed_14 : decode cX4_listed 14 = .ok (.ireturn, 1) := by decide +kernel
theorem dX4_listed_15 : decode cX4_listed 15 = .ok (.aload_n 0, 1) := by decide +kernel
theorem dX4_listed_16 : decode cX4_listed 16 = .ok (.getfield 10, 3) := by decide +kernel
theorem dX4_listed_19 : decode cX4_listed 19 = .ok (.getfield 65, 3) := by decide +kernel
theorem dX4_listed_22 : decode cX4_listed 22 = .ok (.iload_n 1, 1) := by decide +kernel
theorem dX4_listed_23 : decode cX4_listed 23 = .ok (.iaload, 1) := by decide +kernel
theorem dX4_listed_24 : decode cX4_listed 24 = .ok (.ireturn, 1) := by decide +kernel
theorem dX4_potter_0 : decode cX4_potter 0 = .ok (.iload_n 1, 1) := by decide +kernel
theorem dX4_potter_1 : decode cX4_potter 1 = .ok (.iconst 0, 1) := by decide +kernel
theorem dX4_potter_2 : decode cX4_potter 2 = .ok (.bipush 6, 2) := by decide +kernel
theorem dX4_potter_4 : decode cX4_potter 4 = .ok (.invokestatic 53, 3) := by decide +kernel
theorem dX4_potter_7 : decode cX4_potter 7 = .ok (.ifCond .eq 13, 3) := by decide +kernel
theorem dX4_potter_10 : decode cX4_potter 10 = .ok (.iload_n 2, 1) := by decide +kernel
theorem dX4_potter_11 : decode cX4_potter 11 = .ok (.iconst 0, 1) := by decide +kernel
theorem dX4_potter_12 : decode cX4_potter 12 = .ok (.bipush 99, 2) := by decide +kernel
theorem dX4_potter_14 : decode cX4_potter 14 = .ok (.invokestatic 53, 3) := by decide +kernel
theorem dX4_potter_17 : decode cX4_potter 17 = .ok (.ifCond .ne 9, 3) := by decide +kernel
theorem dX4_potter_20 : decode cX4_potter 20 = .ok (.aload_n 0, 1) := by decide +kernel
theorem dX4_potter_21 : decode cX4_potter 21 = .ok (.iconst 0, 1) := by decide +kernel
theorem dX4_potter_22 : decode cX4_potter 22 = .ok (.invokevirtual 57, 3) := by decide +kernel
theorem dX4_potter_25 : decode cX4_potter 25 = .ok (.ireturn, 1) := by decide +kernel
theorem dX4_potter_26 : decode cX4_potter 26 = .ok (.aload_n 0, 1) := by decide +kernel
theorem dX4_potter_27 : decode cX4_potter 27 = .ok (.getfield 10, 3) := by decide +kernel
theorem dX4_potter_30 : decode cX4_potter 30 = .ok (.invokevirtual 68, 3) := by decide +kernel
theorem dX4_potter_33 : decode cX4_potter 33 = .ok (.ifCond .eq 9, 3) := by decide +kernel
theorem dX4_potter_36 : decode cX4_potter 36 = .ok (.aload_n 0, 1) := by decide +kernel
theorem dX4_potter_37 : decode cX4_potter 37 = .ok (.iconst 1, 1) := by decide +kernel
theorem dX4_potter_38 : decode cX4_potter 38 = .ok (.invokevirtual 57, 3) := by decide +kernel
theorem dX4_potter_41 : decode cX4_potter 41 = .ok (.ireturn, 1) := by decide +kernel
theorem dX4_potter_42 : decode cX4_potter 42 = .ok (.aload_n 0, 1) := by decide +kernel
theorem dX4_potter_43 : decode cX4_potter 43 = .ok (.getfield 10, 3) := by decide +kernel
theorem dX4_potter_46 : decode cX4_potter 46 = .ok (.iload_n 1, 1) := by decide +kernel
theorem dX4_potter_47 : decode cX4_potter 47 = .ok (.iload_n 2, 1) := by decide +kernel
theorem dX4_potter_48 : decode cX4_potter 48 = .ok (.bipush 20, 2) := by decide +kernel
theorem dX4_potter_50 : decode cX4_potter 50 = .ok (.iconst 0, 1) := by decide +kernel
theorem dX4_potter_51 : decode cX4_potter 51 = .ok (.invokevirtual 72, 3) := by decide +kernel
theorem dX4_potter_54 : decode cX4_potter 54 = .ok (.ireturn, 1) := by decide +kernel
theorem dX4_of_0 : decode cX4_of 0 = .ok (.aload_n 0, 1) := by decide +kernel
theorem dX4_of_1 : decode cX4_of 1 = .ok (.getfield 10, 3) := by decide +kernel
theorem dX4_of_4 : decode cX4_of 4 = .ok (.iload_n 1, 1) := by decide +kernel
theorem dX4_of_5 : decode cX4_of 5 = .ok (.invokevirtual 76, 3) := by decide +kernel
theorem dX4_of_8 : decode cX4_of 8 = .ok (.ifCond .eq 13, 3) := by decide +kernel
theorem dX4_of_11 : decode cX4_of 11 = .ok (.iload_n 2, 1) := by decide +kernel
theorem dX4_of_12 : decode cX4_of 12 = .ok (.iconst 0, 1) := by decide +kernel
theorem dX4_of_13 : decode cX4_of 13 = .ok (.bipush 9, 2) := by decide +kernel
theorem dX4_of_15 : decode cX4_of 15 = .ok (.invokestatic 53, 3) := by decide +kernel
theorem dX4_of_18 : decode cX4_of 18 = .ok (.ifCond .ne 9, 3) := by decide +kernel
theorem dX4_of_21 : decode cX4_of 21 = .ok (.aload_n 0, 1) := by decide +kernel
theorem dX4_of_22 : decode cX4_of 22 = .ok (.iconst 0, 1) := by decide +kernel
theorem dX4_of_23 : decode cX4_of 23 = .ok (.invokevirtual 57, 3) := by decide +kernel
theorem dX4_of_26 : decode cX4_of 26 = .ok (.ireturn, 1) := by decide +kernel
theorem dX4_of_27 : decode cX4_of 27 = .ok (.aload_n 0, 1) := by decide +kernel
theorem dX4_of_28 : decode cX4_of 28 = .ok (.getfield 10, 3) := by decide +kernel
theorem dX4_of_31 : decode cX4_of 31 = .ok (.iload_n 1, 1) := by decide +kernel
theorem dX4_of_32 : decode cX4_of 32 = .ok (.iload_n 2, 1) := by decide +kernel
theorem dX4_of_33 : decode cX4_of 33 = .ok (.invokevirtual 80, 3) := by decide +kernel
theorem dX4_of_36 : decode cX4_of 36 = .ok (.ireturn, 1) := by decide +kernel
theorem dX4_change_0 : decode cX4_change 0 = .ok (.aload_n 0, 1) := by decide +kernel
theorem dX4_change_1 : decode cX4_change 1 = .ok (.getfield 10, 3) := by decide +kernel
theorem dX4_change_4 : decode cX4_change 4 = .ok (.iload_n 1, 1) := by decide +kernel
theorem dX4_change_5 : decode cX4_change 5 = .ok (.invokevirtual 76, 3) := by decide +kernel
theorem dX4_change_8 : decode cX4_change 8 = .ok (.ifCond .eq 25, 3) := by decide +kernel
theorem dX4_change_11 : decode cX4_change 11 = .ok (.iload_n 2, 1) := by decide +kernel
theorem dX4_change_12 : decode cX4_change 12 = .ok (.iconst 0, 1) := by decide +kernel
theorem dX4_change_13 : decode cX4_change 13 = .ok (.iconst 5, 1) := by decide +kernel
theorem dX4_change_14 : decode cX4_change 14 = .ok (.invokestatic 53, 3) := by decide +kernel
theorem dX4_change_17 : decode cX4_change 17 = .ok (.ifCond .eq 16, 3) := by decide +kernel
theorem dX4_change_20 : decode cX4_change 20 = .ok (.iload_n 3, 1) := by decide +kernel
theorem dX4_change_21 : decode cX4_change 21 = .ok (.iconst 0, 1) := by decide +kernel
theorem dX4_change_22 : decode cX4_change 22 = .ok (.getstatic 84, 3) := by decide +kernel
theorem dX4_change_25 : decode cX4_change 25 = .ok (.iload_n 2, 1) := by decide +kernel
theorem dX4_change_26 : decode cX4_change 26 = .ok (.iaload, 1) := by decide +kernel
theorem dX4_change_27 : decode cX4_change 27 = .ok (.invokestatic 53, 3) := by decide +kernel
theorem dX4_change_30 : decode cX4_change 30 = .ok (.ifCond .ne 9, 3) := by decide +kernel
theorem dX4_change_33 : decode cX4_change 33 = .ok (.aload_n 0, 1) := by decide +kernel
theorem dX4_change_34 : decode cX4_change 34 = .ok (.iconst 0, 1) := by decide +kernel
theorem dX4_change_35 : decode cX4_change 35 = .ok (.invokevirtual 57, 3) := by decide +kernel
theorem dX4_change_38 : decode cX4_change 38 = .ok (.ireturn, 1) := by decide +kernel
theorem dX4_change_39 : decode cX4_change 39 = .ok (.bipush 8, 2) := by decide +kernel
theorem dX4_change_41 : decode cX4_change 41 = .ok (.iload_n 2, 1) := by decide +kernel
theorem dX4_change_42 : decode cX4_change 42 = .ok (.imul, 1) := by decide +kernel
theorem dX4_change_43 : decode cX4_change 43 = .ok (.iload_n 1, 1) := by decide +kernel
theorem dX4_change_44 : decode cX4_change 44 = .ok (.iadd, 1) := by decide +kernel
theorem dX4_change_45 : decode cX4_change 45 = .ok (.istore 4, 2) := by decide +kernel
theorem dX4_change_47 : decode cX4_change 47 = .ok (.aload_n 0, 1) := by decide +kernel
theorem dX4_change_48 : decode cX4_change 48 = .ok (.getfield 10, 3) := by decide +kernel
theorem dX4_change_51 : decode cX4_change 51 = .ok (.getfield 87, 3) := by decide +kernel
theorem dX4_change_54 : decode cX4_change 54 = .ok (.iload 4, 2) := by decide +kernel
theorem dX4_change_56 : decode cX4_change 56 = .ok (.iaload, 1) := by decide +kernel
theorem dX4_change_57 : decode cX4_change 57 = .ok (.istore 5, 2) := by decide +kernel
theorem dX4_change_59 : decode cX4_change 59 = .ok (.aload_n 0, 1) := by decide +kernel
theorem dX4_change_60 : decode cX4_change 60 = .ok (.getfield 10, 3) := by decide +kernel
theorem dX4_change_63 : decode cX4_change 63 = .ok (.getfield 87, 3) := by decide +kernel
theorem dX4_change_66 : decode cX4_change 66 = .ok (.iload 4, 2) := by decide +kernel
theorem dX4_change_68 : decode cX4_change 68 = .ok (.iload_n 3, 1) := by decide +kernel
theorem dX4_change_69 : decode cX4_change 69 = .ok (.iastore, 1) := by decide +kernel
theorem dX4_change_70 : decode cX4_change 70 = .ok (.iload 5, 2) := by decide +kernel
theorem dX4_change_72 : decode cX4_change 72 = .ok (.ireturn, 1) := by decide +kernel
theorem dX4_rift_0 : decode cX4_rift 0 = .ok (.aload_n 0, 1) := by decide +kernel
theorem dX4_rift_1 : decode cX4_rift 1 = .ok (.getfield 10, 3) := by decide +kernel
theorem dX4_rift_4 : decode cX4_rift 4 = .ok (.iload_n 1, 1) := by decide +kernel
theorem dX4_rift_5 : decode cX4_rift 5 = .ok (.iload_n 2, 1) := by decide +kernel
theorem dX4_rift_6 : decode cX4_rift 6 = .ok (.invokevirtual 90, 3) := by decide +kernel
theorem dX4_rift_9 : decode cX4_rift 9 = .ok (.ifCond .eq 13, 3) := by decide +kernel
theorem dX4_rift_12 : decode cX4_rift 12 = .ok (.iload_n 3, 1) := by decide +kernel
theorem dX4_rift_13 : decode cX4_rift 13 = .ok (.iconst 0, 1) := by decide +kernel
theorem dX4_rift_14 : decode cX4_rift 14 = .ok (.bipush 99, 2) := by decide +kernel
theorem dX4_rift_16 : decode cX4_rift 16 = .ok (.invokestatic 53, 3) := by decide +kernel
theorem dX4_rift_19 : decode cX4_rift 19 = .ok (.ifCond .ne 9, 3) := by decide +kernel
theorem dX4_rift_22 : decode cX4_rift 22 = .ok (.aload_n 0, 1) := by decide +kernel
theorem dX4_rift_23 : decode cX4_rift 23 = .ok (.iconst 0, 1) := by decide +kernel
theorem dX4_rift_24 : decode cX4_rift 24 = .ok (.invokevirtual 57, 3) := by decide +kernel
theorem dX4_rift_27 : decode cX4_rift 27 = .ok (.ireturn, 1) := by decide +kernel
theorem dX4_rift_28 : decode cX4_rift 28 = .ok (.aload_n 0, 1) := by decide +kernel
theorem dX4_rift_29 : decode cX4_rift 29 = .ok (.getfield 10, 3) := by decide +kernel
theorem dX4_rift_32 : decode cX4_rift 32 = .ok (.iload_n 1, 1) := by decide +kernel
theorem dX4_rift_33 : decode cX4_rift 33 = .ok (.iload_n 2, 1) := by decide +kernel
theorem dX4_rift_34 : decode cX4_rift 34 = .ok (.invokevirtual 94, 3) := by decide +kernel
theorem dX4_rift_37 : decode cX4_rift 37 = .ok (.istore 4, 2) := by decide +kernel
theorem dX4_rift_39 : decode cX4_rift 39 = .ok (.aload_n 0, 1) := by decide +kernel
theorem dX4_rift_40 : decode cX4_rift 40 = .ok (.getfield 10, 3) := by decide +kernel
theorem dX4_rift_43 : decode cX4_rift 43 = .ok (.iload_n 1, 1) := by decide +kernel
theorem dX4_rift_44 : decode cX4_rift 44 = .ok (.iload_n 2, 1) := by decide +kernel
theorem dX4_rift_45 : decode cX4_rift 45 = .ok (.iload_n 3, 1) := by decide +kernel
theorem dX4_rift_46 : decode cX4_rift 46 = .ok (.invokevirtual 97, 3) := by decide +kernel
theorem dX4_rift_49 : decode cX4_rift 49 = .ok (.iload 4, 2) := by decide +kernel
theorem dX4_rift_51 : decode cX4_rift 51 = .ok (.ireturn, 1) := by decide +kernel
theorem dX4_two_0 : decode cX4_two 0 = .ok (.aload_n 0, 1) := by decide +kernel
theorem dX4_two_1 : decode cX4_two 1 = .ok (.getfield 10, 3) := by decide +kernel
theorem dX4_two_4 : decode cX4_two 4 = .ok (.iload_n 1, 1) := by decide +kernel
theorem dX4_two_5 : decode cX4_two 5 = .ok (.iload_n 2, 1) := by decide +kernel
theorem dX4_two_6 : decode cX4_two 6 = .ok (.invokevirtual 90, 3) := by decide +kernel
theorem dX4_two_9 : decode cX4_two 9 = .ok (.ifCond .eq 12, 3) := by decide +kernel
theorem dX4_two_12 : decode cX4_two 12 = .ok (.iload_n 3, 1) := by decide +kernel
theorem dX4_two_13 : decode cX4_two 13 = .ok (.iconst 0, 1) := by decide +kernel
theorem dX4_two_14 : decode cX4_two 14 = .ok (.iconst 3, 1) := by decide +kernel
theorem dX4_two_15 : decode cX4_two 15 = .ok (.invokestatic 53, 3) := by decide +kernel
theorem dX4_two_18 : decode cX4_two 18 = .ok (.ifCond .ne 9, 3) := by decide +kernel
theorem dX4_two_21 : decode cX4_two 21 = .ok (.aload_n 0, 1) := by decide +kernel
theorem dX4_two_22 : decode cX4_two 22 = .ok (.iconst 0, 1) := by decide +kernel
theorem dX4_two_23 : decode cX4_two 23 = .ok (.invokevirtual 57, 3) := by decide +kernel
theorem dX4_two_26 : decode cX4_two 26 = .ok (.ireturn, 1) := by decide +kernel
theorem dX4_two_27 : decode cX4_two 27 = .ok (.iload_n 3, 1) := by decide +kernel
theorem dX4_two_28 : decode cX4_two 28 = .ok (.tableswitch 65 0 2 #[28, 38, 55], 28) := by decide +kernel
theorem dX4_two_56 : decode cX4_two 56 = .ok (.aload_n 0, 1) := by decide +kernel
theorem dX4_two_57 : decode cX4_two 57 = .ok (.getfield 10, 3) := by decide +kernel
theorem dX4_two_60 : decode cX4_two 60 = .ok (.iload_n 1, 1) := by decide +kernel
theorem dX4_two_61 : decode cX4_two 61 = .ok (.iload_n 2, 1) := by decide +kernel
theorem dX4_two_62 : decode cX4_two 62 = .ok (.invokevirtual 94, 3) := by decide +kernel
theorem dX4_two_65 : decode cX4_two 65 = .ok (.ireturn, 1) := by decide +kernel
theorem dX4_two_66 : decode cX4_two 66 = .ok (.aload_n 0, 1) := by decide +kernel
theorem dX4_two_67 : decode cX4_two 67 = .ok (.getfield 10, 3) := by decide +kernel
theorem dX4_two_70 : decode cX4_two 70 = .ok (.iload_n 1, 1) := by decide +kernel
theorem dX4_two_71 : decode cX4_two 71 = .ok (.iload_n 2, 1) := by decide +kernel
theorem dX4_two_72 : decode cX4_two 72 = .ok (.aload_n 0, 1) := by decide +kernel
theorem dX4_two_73 : decode cX4_two 73 = .ok (.getfield 10, 3) := by decide +kernel
theorem dX4_two_76 : decode cX4_two 76 = .ok (.getfield 61, 3) := by decide +kernel
theorem dX4_two_79 : decode cX4_two 79 = .ok (.invokevirtual 101, 3) := by decide +kernel
theorem dX4_two_82 : decode cX4_two 82 = .ok (.ireturn, 1) := by decide +kernel
theorem dX4_two_83 : decode cX4_two 83 = .ok (.aload_n 0, 1) := by decide +kernel
theorem dX4_two_84 : decode cX4_two 84 = .ok (.getfield 10, 3) := by decide +kernel
theorem dX4_two_87 : decode cX4_two 87 = .ok (.iload_n 1, 1) := by decide +kernel
theorem dX4_two_88 : decode cX4_two 88 = .ok (.iload_n 2, 1) := by decide +kernel
theorem dX4_two_89 : decode cX4_two 89 = .ok (.invokevirtual 105, 3) := by decide +kernel
theorem dX4_two_92 : decode cX4_two 92 = .ok (.ireturn, 1) := by decide +kernel
theorem dX4_two_93 : decode cX4_two 93 = .ok (.aload_n 0, 1) := by decide +kernel
theorem dX4_two_94 : decode cX4_two 94 = .ok (.getfield 10, 3) := by decide +kernel
theorem dX4_two_97 : decode cX4_two 97 = .ok (.iload_n 1, 1) := by decide +kernel
theorem dX4_two_98 : decode cX4_two 98 = .ok (.iload_n 2, 1) := by decide +kernel
theorem dX4_two_99 : decode cX4_two 99 = .ok (.aload_n 0, 1) := by decide +kernel
theorem dX4_two_100 : decode cX4_two 100 = .ok (.getfield 10, 3) := by decide +kernel
theorem dX4_two_103 : decode cX4_two 103 = .ok (.getfield 61, 3) := by decide +kernel
theorem dX4_two_106 : decode cX4_two 106 = .ok (.invokevirtual 101, 3) := by decide +kernel
theorem dX4_two_109 : decode cX4_two 109 = .ok (.aload_n 0, 1) := by decide +kernel
theorem dX4_two_110 : decode cX4_two 110 = .ok (.getfield 10, 3) := by decide +kernel
theorem dX4_two_113 : decode cX4_two 113 = .ok (.iload_n 1, 1) := by decide +kernel
theorem dX4_two_114 : decode cX4_two 114 = .ok (.iload_n 2, 1) := by decide +kernel
theorem dX4_two_115 : decode cX4_two 115 = .ok (.invokevirtual 105, 3) := by decide +kernel
theorem dX4_two_118 : decode cX4_two 118 = .ok (.invokestatic 108, 3) := by decide +kernel
theorem dX4_two_121 : decode cX4_two 121 = .ok (.ifCond .eq 7, 3) := by decide +kernel
theorem dX4_two_124 : decode cX4_two 124 = .ok (.iconst 1, 1) := by decide +kernel
theorem dX4_two_125 : decode cX4_two 125 = .ok (.goto 4, 3) := by decide +kernel
theorem dX4_two_128 : decode cX4_two 128 = .ok (.iconst 0, 1) := by decide +kernel
theorem dX4_two_129 : decode cX4_two 129 = .ok (.ireturn, 1) := by decide +kernel
theorem dX4_go_0 : decode cX4_go 0 = .ok (.iload_n 1, 1) := by decide +kernel
theorem dX4_go_1 : decode cX4_go 1 = .ok (.iconst 1, 1) := by decide +kernel
theorem dX4_go_2 : decode cX4_go 2 = .ok (.bipush 60, 2) := by decide +kernel
theorem dX4_go_4 : decode cX4_go 4 = .ok (.invokestatic 53, 3) := by decide +kernel
theorem dX4_go_7 : decode cX4_go 7 = .ok (.ifCond .ne 9, 3) := by decide +kernel
theorem dX4_go_10 : decode cX4_go 10 = .ok (.aload_n 0, 1) := by decide +kernel
theorem dX4_go_11 : decode cX4_go 11 = .ok (.iconst 0, 1) := by decide +kernel
theorem dX4_go_12 : decode cX4_go 12 = .ok (.invokevirtual 57, 3) := by decide +kernel
theorem dX4_go_15 : decode cX4_go 15 = .ok (.ireturn, 1) := by decide +kernel
theorem dX4_go_16 : decode cX4_go 16 = .ok (.aload_n 0, 1) := by decide +kernel
theorem dX4_go_17 : decode cX4_go 17 = .ok (.getfield 10, 3) := by decide +kernel
theorem dX4_go_20 : decode cX4_go 20 = .ok (.getfield 111, 3) := by decide +kernel
theorem dX4_go_23 : decode cX4_go 23 = .ok (.iload_n 1, 1) := by decide +kernel
theorem dX4_go_24 : decode cX4_go 24 = .ok (.iadd, 1) := by decide +kernel
theorem dX4_go_25 : decode cX4_go 25 = .ok (.ldc 114, 2) := by decide +kernel
theorem dX4_go_27 : decode cX4_go 27 = .ok (.if_icmp .le 9, 3) := by decide +kernel
theorem dX4_go_30 : decode cX4_go 30 = .ok (.aload_n 0, 1) := by decide +kernel
theorem dX4_go_31 : decode cX4_go 31 = .ok (.iconst 4, 1) := by decide +kernel
theorem dX4_go_32 : decode cX4_go 32 = .ok (.invokevirtual 57, 3) := by decide +kernel
theorem dX4_go_35 : decode cX4_go 35 = .ok (.ireturn, 1) := by decide +kernel
theorem dX4_go_36 : decode cX4_go 36 = .ok (.aload_n 0, 1) := by decide +kernel
theorem dX4_go_37 : decode cX4_go 37 = .ok (.getfield 10, 3) := by decide +kernel
theorem dX4_go_40 : decode cX4_go 40 = .ok (.iload_n 1, 1) := by decide +kernel
theorem dX4_go_41 : decode cX4_go 41 = .ok (.invokevirtual 115, 3) := by decide +kernel
theorem dX4_go_44 : decode cX4_go 44 = .ok (.aload_n 0, 1) := by decide +kernel
theorem dX4_go_45 : decode cX4_go 45 = .ok (.getfield 10, 3) := by decide +kernel
theorem dX4_go_48 : decode cX4_go 48 = .ok (.getfield 119, 3) := by decide +kernel
theorem dX4_go_51 : decode cX4_go 51 = .ok (.ireturn, 1) := by decide +kernel
theorem dX4_now_0 : decode cX4_now 0 = .ok (.iload_n 1, 1) := by decide +kernel
theorem dX4_now_1 : decode cX4_now 1 = .ok (.tableswitch 123 0 7 #[47, 55, 63, 71, 79, 89, 97, 107], 47) := by decide +kernel
theorem dX4_now_48 : decode cX4_now 48 = .ok (.aload_n 0, 1) := by decide +kernel
theorem dX4_now_49 : decode cX4_now 49 = .ok (.getfield 10, 3) := by decide +kernel
theorem dX4_now_52 : decode cX4_now 52 = .ok (.getfield 111, 3) := by decide +kernel
theorem dX4_now_55 : decode cX4_now 55 = .ok (.ireturn, 1) := by decide +kernel
theorem dX4_now_56 : decode cX4_now 56 = .ok (.aload_n 0, 1) := by decide +kernel
theorem dX4_now_57 : decode cX4_now 57 = .ok (.getfield 10, 3) := by decide +kernel
theorem dX4_now_60 : decode cX4_now 60 = .ok (.getfield 119, 3) := by decide +kernel
theorem dX4_now_63 : decode cX4_now 63 = .ok (.ireturn, 1) := by decide +kernel
theorem dX4_now_64 : decode cX4_now 64 = .ok (.aload_n 0, 1) := by decide +kernel
theorem dX4_now_65 : decode cX4_now 65 = .ok (.getfield 10, 3) := by decide +kernel
theorem dX4_now_68 : decode cX4_now 68 = .ok (.getfield 122, 3) := by decide +kernel
theorem dX4_now_71 : decode cX4_now 71 = .ok (.ireturn, 1) := by decide +kernel
theorem dX4_now_72 : decode cX4_now 72 = .ok (.aload_n 0, 1) := by decide +kernel
theorem dX4_now_73 : decode cX4_now 73 = .ok (.getfield 10, 3) := by decide +kernel
theorem dX4_now_76 : decode cX4_now 76 = .ok (.getfield 125, 3) := by decide +kernel
theorem dX4_now_79 : decode cX4_now 79 = .ok (.ireturn, 1) := by decide +kernel
theorem dX4_now_80 : decode cX4_now 80 = .ok (.aload_n 0, 1) := by decide +kernel
theorem dX4_now_81 : decode cX4_now 81 = .ok (.getfield 10, 3) := by decide +kernel
theorem dX4_now_84 : decode cX4_now 84 = .ok (.bipush 8, 2) := by decide +kernel
theorem dX4_now_86 : decode cX4_now 86 = .ok (.invokevirtual 128, 3) := by decide +kernel
theorem dX4_now_89 : decode cX4_now 89 = .ok (.ireturn, 1) := by decide +kernel
theorem dX4_now_90 : decode cX4_now 90 = .ok (.aload_n 0, 1) := by decide +kernel
theorem dX4_now_91 : decode cX4_now 91 = .ok (.getfield 10, 3) := by decide +kernel
theorem dX4_now_94 : decode cX4_now 94 = .ok (.invokevirtual 131, 3) := by decide +kernel
theorem dX4_now_97 : decode cX4_now 97 = .ok (.ireturn, 1) := by decide +kernel
theorem dX4_now_98 : decode cX4_now 98 = .ok (.aload_n 0, 1) := by decide +kernel
theorem dX4_now_99 : decode cX4_now 99 = .ok (.getfield 10, 3) := by decide +kernel
theorem dX4_now_102 : decode cX4_now 102 = .ok (.bipush 40, 2) := by decide +kernel
theorem dX4_now_104 : decode cX4_now 104 = .ok (.invokevirtual 128, 3) := by decide +kernel
theorem dX4_now_107 : decode cX4_now 107 = .ok (.ireturn, 1) := by decide +kernel
theorem dX4_now_108 : decode cX4_now 108 = .ok (.aload_n 0, 1) := by decide +kernel
theorem dX4_now_109 : decode cX4_now 109 = .ok (.getfield 10, 3) := by decide +kernel
theorem dX4_now_112 : decode cX4_now 112 = .ok (.invokevirtual 135, 3) := by decide +kernel
theorem dX4_now_115 : decode cX4_now 115 = .ok (.ifCond .eq 7, 3) := by decide +kernel
theorem dX4_now_118 : decode cX4_now 118 = .ok (.iconst 1, 1) := by decide +kernel
theorem dX4_now_119 : decode cX4_now 119 = .ok (.goto 4, 3) := by decide +kernel
theorem dX4_now_122 : decode cX4_now 122 = .ok (.iconst 0, 1) := by decide +kernel
theorem dX4_now_123 : decode cX4_now 123 = .ok (.ireturn, 1) := by decide +kernel
theorem dX4_now_124 : decode cX4_now 124 = .ok (.aload_n 0, 1) := by decide +kernel
theorem dX4_now_125 : decode cX4_now 125 = .ok (.iconst 0, 1) := by decide +kernel
theorem dX4_now_126 : decode cX4_now 126 = .ok (.invokevirtual 57, 3) := by decide +kernel
theorem dX4_now_129 : decode cX4_now 129 = .ok (.ireturn, 1) := by decide +kernel
theorem dX4_ahead_0 : decode cX4_ahead 0 = .ok (.iload_n 2, 1) := by decide +kernel
theorem dX4_ahead_1 : decode cX4_ahead 1 = .ok (.iconst 1, 1) := by decide +kernel
theorem dX4_ahead_2 : decode cX4_ahead 2 = .ok (.if_icmp .eq 13, 3) := by decide +kernel
theorem dX4_ahead_5 : decode cX4_ahead 5 = .ok (.iload_n 2, 1) := by decide +kernel
theorem dX4_ahead_6 : decode cX4_ahead 6 = .ok (.iconst 3, 1) := by decide +kernel
theorem dX4_ahead_7 : decode cX4_ahead 7 = .ok (.bipush 6, 2) := by decide +kernel
theorem dX4_ahead_9 : decode cX4_ahead 9 = .ok (.invokestatic 53, 3) := by decide +kernel
theorem dX4_ahead_12 : decode cX4_ahead 12 = .ok (.ifCond .eq 7, 3) := by decide +kernel
theorem dX4_ahead_15 : decode cX4_ahead 15 = .ok (.iconst 1, 1) := by decide +kernel
theorem dX4_ahead_16 : decode cX4_ahead 16 = .ok (.goto 4, 3) := by decide +kernel
theorem dX4_ahead_19 : decode cX4_ahead 19 = .ok (.iconst 0, 1) := by decide +kernel
theorem dX4_ahead_20 : decode cX4_ahead 20 = .ok (.istore 4, 2) := by decide +kernel
theorem dX4_ahead_22 : decode cX4_ahead 22 = .ok (.aload_n 0, 1) := by decide +kernel
theorem dX4_ahead_23 : decode cX4_ahead 23 = .ok (.getfield 10, 3) := by decide +kernel
theorem dX4_ahead_26 : decode cX4_ahead 26 = .ok (.iload_n 1, 1) := by decide +kernel
theorem dX4_ahead_27 : decode cX4_ahead 27 = .ok (.invokevirtual 76, 3) := by decide +kernel
theorem dX4_ahead_30 : decode cX4_ahead 30 = .ok (.ifCond .eq 18, 3) := by decide +kernel
theorem dX4_ahead_33 : decode cX4_ahead 33 = .ok (.iload 4, 2) := by decide +kernel
theorem dX4_ahead_35 : decode cX4_ahead 35 = .ok (.ifCond .eq 13, 3) := by decide +kernel
theorem dX4_ahead_38 : decode cX4_ahead 38 = .ok (.iload_n 3, 1) := by decide +kernel
theorem dX4_ahead_39 : decode cX4_ahead 39 = .ok (.iconst 0, 1) := by decide +kernel
theorem dX4_ahead_40 : decode cX4_ahead 40 = .ok (.bipush 100, 2) := by decide +kernel
theorem dX4_ahead_42 : decode cX4_ahead 42 = .ok (.invokestatic 53, 3) := by decide +kernel
theorem dX4_ahead_45 : decode cX4_ahead 45 = .ok (.ifCond .ne 9, 3) := by decide +kernel
theorem dX4_ahead_48 : decode cX4_ahead 48 = .ok (.aload_n 0, 1) := by decide +kernel
theorem dX4_ahead_49 : decode cX4_ahead 49 = .ok (.iconst 0, 1) := by decide +kernel
theorem dX4_ahead_50 : decode cX4_ahead 50 = .ok (.invokevirtual 57, 3) := by decide +kernel
theorem dX4_ahead_53 : decode cX4_ahead 53 = .ok (.ireturn, 1) := by decide +kernel
theorem dX4_ahead_54 : decode cX4_ahead 54 = .ok (.aload_n 0, 1) := by decide +kernel
theorem dX4_ahead_55 : decode cX4_ahead 55 = .ok (.getfield 16, 3) := by decide +kernel
theorem dX4_ahead_58 : decode cX4_ahead 58 = .ok (.aload_n 0, 1) := by decide +kernel
theorem dX4_ahead_59 : decode cX4_ahead 59 = .ok (.getfield 10, 3) := by decide +kernel
theorem dX4_ahead_62 : decode cX4_ahead 62 = .ok (.invokevirtual 138, 3) := by decide +kernel
theorem dX4_ahead_65 : decode cX4_ahead 65 = .ok (.aload_n 0, 1) := by decide +kernel
theorem dX4_ahead_66 : decode cX4_ahead 66 = .ok (.getfield 16, 3) := by decide +kernel
theorem dX4_ahead_69 : decode cX4_ahead 69 = .ok (.iload_n 3, 1) := by decide +kernel
theorem dX4_ahead_70 : decode cX4_ahead 70 = .ok (.invokevirtual 115, 3) := by decide +kernel
theorem dX4_ahead_73 : decode cX4_ahead 73 = .ok (.aload_n 0, 1) := by decide +kernel
theorem dX4_ahead_74 : decode cX4_ahead 74 = .ok (.getfield 16, 3) := by decide +kernel
theorem dX4_ahead_77 : decode cX4_ahead 77 = .ok (.iload_n 1, 1) := by decide +kernel
theorem dX4_ahead_78 : decode cX4_ahead 78 = .ok (.iload_n 2, 1) := by decide +kernel
theorem dX4_ahead_79 : decode cX4_ahead 79 = .ok (.invokevirtual 80, 3) := by decide +kernel
theorem dX4_ahead_82 : decode cX4_ahead 82 = .ok (.ireturn, 1) := by decide +kernel
theorem dX4_terms_0 : decode cX4_terms 0 = .ok (.aload_n 0, 1) := by decide +kernel
theorem dX4_terms_1 : decode cX4_terms 1 = .ok (.getfield 10, 3) := by decide +kernel
theorem dX4_terms_4 : decode cX4_terms 4 = .ok (.iload_n 1, 1) := by decide +kernel
theorem dX4_terms_5 : decode cX4_terms 5 = .ok (.iload_n 2, 1) := by decide +kernel
theorem dX4_terms_6 : decode cX4_terms 6 = .ok (.invokevirtual 90, 3) := by decide +kernel
theorem dX4_terms_9 : decode cX4_terms 9 = .ok (.ifCond .eq 13, 3) := by decide +kernel
theorem dX4_terms_12 : decode cX4_terms 12 = .ok (.iload_n 3, 1) := by decide +kernel
theorem dX4_terms_13 : decode cX4_terms 13 = .ok (.iconst 0, 1) := by decide +kernel
theorem dX4_terms_14 : decode cX4_terms 14 = .ok (.bipush 100, 2) := by decide +kernel
theorem dX4_terms_16 : decode cX4_terms 16 = .ok (.invokestatic 53, 3) := by decide +kernel
theorem dX4_terms_19 : decode cX4_terms 19 = .ok (.ifCond .ne 9, 3) := by decide +kernel
theorem dX4_terms_22 : decode cX4_terms 22 = .ok (.aload_n 0, 1) := by decide +kernel
theorem dX4_terms_23 : decode cX4_terms 23 = .ok (.iconst 0, 1) := by decide +kernel
theorem dX4_terms_24 : decode cX4_terms 24 = .ok (.invokevirtual 57, 3) := by decide +kernel
theorem dX4_terms_27 : decode cX4_terms 27 = .ok (.ireturn, 1) := by decide +kernel
theorem dX4_terms_28 : decode cX4_terms 28 = .ok (.aload_n 0, 1) := by decide +kernel
theorem dX4_terms_29 : decode cX4_terms 29 = .ok (.getfield 16, 3) := by decide +kernel
theorem dX4_terms_32 : decode cX4_terms 32 = .ok (.aload_n 0, 1) := by decide +kernel
theorem dX4_terms_33 : decode cX4_terms 33 = .ok (.getfield 10, 3) := by decide +kernel
theorem dX4_terms_36 : decode cX4_terms 36 = .ok (.invokevirtual 138, 3) := by decide +kernel
theorem dX4_terms_39 : decode cX4_terms 39 = .ok (.aload_n 0, 1) := by decide +kernel
theorem dX4_terms_40 : decode cX4_terms 40 = .ok (.getfield 16, 3) := by decide +kernel
theorem dX4_terms_43 : decode cX4_terms 43 = .ok (.iload_n 3, 1) := by decide +kernel
theorem dX4_terms_44 : decode cX4_terms 44 = .ok (.invokevirtual 115, 3) := by decide +kernel
theorem dX4_terms_47 : decode cX4_terms 47 = .ok (.aload_n 0, 1) := by decide +kernel
theorem dX4_terms_48 : decode cX4_terms 48 = .ok (.getfield 16, 3) := by decide +kernel
theorem dX4_terms_51 : decode cX4_terms 51 = .ok (.iload_n 1, 1) := by decide +kernel
theorem dX4_terms_52 : decode cX4_terms 52 = .ok (.iload_n 2, 1) := by decide +kernel
theorem dX4_terms_53 : decode cX4_terms 53 = .ok (.invokevirtual 94, 3) := by decide +kernel
theorem dX4_terms_56 : decode cX4_terms 56 = .ok (.ireturn, 1) := by decide +kernel
theorem dX4_next_0 : decode cX4_next 0 = .ok (.iload_n 1, 1) := by decide +kernel
theorem dX4_next_1 : decode cX4_next 1 = .ok (.iconst 0, 1) := by decide +kernel
theorem dX4_next_2 : decode cX4_next 2 = .ok (.iconst 1, 1) := by decide +kernel
theorem dX4_next_3 : decode cX4_next 3 = .ok (.invokestatic 53, 3) := by decide +kernel
theorem dX4_next_6 : decode cX4_next 6 = .ok (.ifCond .ne 9, 3) := by decide +kernel
theorem dX4_next_9 : decode cX4_next 9 = .ok (.aload_n 0, 1) := by decide +kernel
theorem dX4_next_10 : decode cX4_next 10 = .ok (.iconst 0, 1) := by decide +kernel
theorem dX4_next_11 : decode cX4_next 11 = .ok (.invokevirtual 57, 3) := by decide +kernel
theorem dX4_next_14 : decode cX4_next 14 = .ok (.ireturn, 1) := by decide +kernel
theorem dX4_next_15 : decode cX4_next 15 = .ok (.aload_n 0, 1) := by decide +kernel
theorem dX4_next_16 : decode cX4_next 16 = .ok (.getfield 16, 3) := by decide +kernel
theorem dX4_next_19 : decode cX4_next 19 = .ok (.aload_n 0, 1) := by decide +kernel
theorem dX4_next_20 : decode cX4_next 20 = .ok (.getfield 10, 3) := by decide +kernel
theorem dX4_next_23 : decode cX4_next 23 = .ok (.invokevirtual 138, 3) := by decide +kernel
theorem dX4_next_26 : decode cX4_next 26 = .ok (.iconst 1, 1) := by decide +kernel
theorem dX4_next_27 : decode cX4_next 27 = .ok (.istore_n 2, 1) := by decide +kernel
theorem dX4_next_28 : decode cX4_next 28 = .ok (.iload_n 2, 1) := by decide +kernel
theorem dX4_next_29 : decode cX4_next 29 = .ok (.sipush 200, 3) := by decide +kernel
theorem dX4_next_32 : decode cX4_next 32 = .ok (.if_icmp .gt 75, 3) := by decide +kernel
theorem dX4_next_35 : decode cX4_next 35 = .ok (.aload_n 0, 1) := by decide +kernel
theorem dX4_next_36 : decode cX4_next 36 = .ok (.getfield 16, 3) := by decide +kernel
theorem dX4_next_39 : decode cX4_next 39 = .ok (.iconst 1, 1) := by decide +kernel
theorem dX4_next_40 : decode cX4_next 40 = .ok (.invokevirtual 115, 3) := by decide +kernel
theorem dX4_next_43 : decode cX4_next 43 = .ok (.iload_n 1, 1) := by decide +kernel
theorem dX4_next_44 : decode cX4_next 44 = .ok (.ifCond .ne 28, 3) := by decide +kernel
theorem dX4_next_47 : decode cX4_next 47 = .ok (.aload_n 0, 1) := by decide +kernel
theorem dX4_next_48 : decode cX4_next 48 = .ok (.getfield 16, 3) := by decide +kernel
theorem dX4_next_51 : decode cX4_next 51 = .ok (.getfield 122, 3) := by decide +kernel
theorem dX4_next_54 : decode cX4_next 54 = .ok (.aload_n 0, 1) := by decide +kernel
theorem dX4_next_55 : decode cX4_next 55 = .ok (.getfield 10, 3) := by decide +kernel
theorem dX4_next_58 : decode cX4_next 58 = .ok (.getfield 122, 3) := by decide +kernel
theorem dX4_next_61 : decode cX4_next 61 = .ok (.if_icmp .le 7, 3) := by decide +kernel
theorem dX4_next_64 : decode cX4_next 64 = .ok (.iconst 1, 1) := by decide +kernel
theorem dX4_next_65 : decode cX4_next 65 = .ok (.goto 29, 3) := by decide +kernel
theorem dX4_next_68 : decode cX4_next 68 = .ok (.iconst 0, 1) := by decide +kernel
theorem dX4_next_69 : decode cX4_next 69 = .ok (.goto 25, 3) := by decide +kernel
theorem dX4_next_72 : decode cX4_next 72 = .ok (.aload_n 0, 1) := by decide +kernel
theorem dX4_next_73 : decode cX4_next 73 = .ok (.getfield 16, 3) := by decide +kernel
theorem dX4_next_76 : decode cX4_next 76 = .ok (.getfield 125, 3) := by decide +kernel
theorem dX4_next_79 : decode cX4_next 79 = .ok (.aload_n 0, 1) := by decide +kernel
theorem dX4_next_80 : decode cX4_next 80 = .ok (.getfield 10, 3) := by decide +kernel
theorem dX4_next_83 : decode cX4_next 83 = .ok (.getfield 125, 3) := by decide +kernel
theorem dX4_next_86 : decode cX4_next 86 = .ok (.if_icmp .le 7, 3) := by decide +kernel
theorem dX4_next_89 : decode cX4_next 89 = .ok (.iconst 1, 1) := by decide +kernel
theorem dX4_next_90 : decode cX4_next 90 = .ok (.goto 4, 3) := by decide +kernel
theorem dX4_next_93 : decode cX4_next 93 = .ok (.iconst 0, 1) := by decide +kernel
theorem dX4_next_94 : decode cX4_next 94 = .ok (.istore_n 3, 1) := by decide +kernel
theorem dX4_next_95 : decode cX4_next 95 = .ok (.iload_n 3, 1) := by decide +kernel
theorem dX4_next_96 : decode cX4_next 96 = .ok (.ifCond .eq 5, 3) := by decide +kernel
theorem dX4_next_99 : decode cX4_next 99 = .ok (.iload_n 2, 1) := by decide +kernel
theorem dX4_next_100 : decode cX4_next 100 = .ok (.ireturn, 1) := by decide +kernel
theorem dX4_next_101 : decode cX4_next 101 = .ok (.iinc 2 1, 3) := by decide +kernel
theorem dX4_next_104 : decode cX4_next 104 = .ok (.goto (-76), 3) := by decide +kernel
theorem dX4_next_107 : decode cX4_next 107 = .ok (.aload_n 0, 1) := by decide +kernel
theorem dX4_next_108 : decode cX4_next 108 = .ok (.iconst 3, 1) := by decide +kernel
theorem dX4_next_109 : decode cX4_next 109 = .ok (.invokevirtual 57, 3) := by decide +kernel
theorem dX4_next_112 : decode cX4_next 112 = .ok (.ireturn, 1) := by decide +kernel
theorem dX4_peace_0 : decode cX4_peace 0 = .ok (.aload_n 0, 1) := by decide +kernel
theorem dX4_peace_1 : decode cX4_peace 1 = .ok (.getfield 10, 3) := by decide +kernel
theorem dX4_peace_4 : decode cX4_peace 4 = .ok (.iload_n 1, 1) := by decide +kernel
theorem dX4_peace_5 : decode cX4_peace 5 = .ok (.iload_n 2, 1) := by decide +kernel
theorem dX4_peace_6 : decode cX4_peace 6 = .ok (.invokevirtual 90, 3) := by decide +kernel
theorem dX4_peace_9 : decode cX4_peace 9 = .ok (.ifCond .eq 13, 3) := by decide +kernel
theorem dX4_peace_12 : decode cX4_peace 12 = .ok (.iload_n 3, 1) := by decide +kernel
theorem dX4_peace_13 : decode cX4_peace 13 = .ok (.iconst 0, 1) := by decide +kernel
theorem dX4_peace_14 : decode cX4_peace 14 = .ok (.bipush 99, 2) := by decide +kernel
theorem dX4_peace_16 : decode cX4_peace 16 = .ok (.invokestatic 53, 3) := by decide +kernel
theorem dX4_peace_19 : decode cX4_peace 19 = .ok (.ifCond .ne 9, 3) := by decide +kernel
theorem dX4_peace_22 : decode cX4_peace 22 = .ok (.aload_n 0, 1) := by decide +kernel
theorem dX4_peace_23 : decode cX4_peace 23 = .ok (.iconst 0, 1) := by decide +kernel
theorem dX4_peace_24 : decode cX4_peace 24 = .ok (.invokevirtual 57, 3) := by decide +kernel
theorem dX4_peace_27 : decode cX4_peace 27 = .ok (.ireturn, 1) := by decide +kernel
theorem dX4_peace_28 : decode cX4_peace 28 = .ok (.aload_n 0, 1) := by decide +kernel
theorem dX4_peace_29 : decode cX4_peace 29 = .ok (.getfield 16, 3) := by decide +kernel
theorem dX4_peace_32 : decode cX4_peace 32 = .ok (.aload_n 0, 1) := by decide +kernel
theorem dX4_peace_33 : decode cX4_peace 33 = .ok (.getfield 10, 3) := by decide +kernel
theorem dX4_peace_36 : decode cX4_peace 36 = .ok (.invokevirtual 138, 3) := by decide +kernel
theorem dX4_peace_39 : decode cX4_peace 39 = .ok (.iconst 0, 1) := by decide +kernel
theorem dX4_peace_40 : decode cX4_peace 40 = .ok (.istore 4, 2) := by decide +kernel
theorem dX4_peace_42 : decode cX4_peace 42 = .ok (.iload 4, 2) := by decide +kernel
theorem dX4_peace_44 : decode cX4_peace 44 = .ok (.sipush 200, 3) := by decide +kernel
theorem dX4_peace_47 : decode cX4_peace 47 = .ok (.if_icmp .gt 33, 3) := by decide +kernel
theorem dX4_peace_50 : decode cX4_peace 50 = .ok (.aload_n 0, 1) := by decide +kernel
theorem dX4_peace_51 : decode cX4_peace 51 = .ok (.getfield 16, 3) := by decide +kernel
theorem dX4_peace_54 : decode cX4_peace 54 = .ok (.iload_n 1, 1) := by decide +kernel
theorem dX4_peace_55 : decode cX4_peace 55 = .ok (.iload_n 2, 1) := by decide +kernel
theorem dX4_peace_56 : decode cX4_peace 56 = .ok (.invokevirtual 94, 3) := by decide +kernel
theorem dX4_peace_59 : decode cX4_peace 59 = .ok (.iload_n 3, 1) := by decide +kernel
theorem dX4_peace_60 : decode cX4_peace 60 = .ok (.if_icmp .gt 6, 3) := by decide +kernel
theorem dX4_peace_63 : decode cX4_peace 63 = .ok (.iload 4, 2) := by decide +kernel
theorem dX4_peace_65 : decode cX4_peace 65 = .ok (.ireturn, 1) := by decide +kernel
theorem dX4_peace_66 : decode cX4_peace 66 = .ok (.aload_n 0, 1) := by decide +kernel
theorem dX4_peace_67 : decode cX4_peace 67 = .ok (.getfield 16, 3) := by decide +kernel
theorem dX4_peace_70 : decode cX4_peace 70 = .ok (.iconst 1, 1) := by decide +kernel
theorem dX4_peace_71 : decode cX4_peace 71 = .ok (.invokevirtual 115, 3) := by decide +kernel
theorem dX4_peace_74 : decode cX4_peace 74 = .ok (.iinc 4 1, 3) := by decide +kernel
theorem dX4_peace_77 : decode cX4_peace 77 = .ok (.goto (-35), 3) := by decide +kernel
theorem dX4_peace_80 : decode cX4_peace 80 = .ok (.aload_n 0, 1) := by decide +kernel
theorem dX4_peace_81 : decode cX4_peace 81 = .ok (.iconst 3, 1) := by decide +kernel
theorem dX4_peace_82 : decode cX4_peace 82 = .ok (.invokevirtual 57, 3) := by decide +kernel
theorem dX4_peace_85 : decode cX4_peace 85 = .ok (.ireturn, 1) := by decide +kernel
theorem dX4_when_0 : decode cX4_when 0 = .ok (.aload_n 0, 1) := by decide +kernel
theorem dX4_when_1 : decode cX4_when 1 = .ok (.getfield 10, 3) := by decide +kernel
theorem dX4_when_4 : decode cX4_when 4 = .ok (.iload_n 1, 1) := by decide +kernel
theorem dX4_when_5 : decode cX4_when 5 = .ok (.invokevirtual 76, 3) := by decide +kernel
theorem dX4_when_8 : decode cX4_when 8 = .ok (.ifCond .eq 14, 3) := by decide +kernel
theorem dX4_when_11 : decode cX4_when 11 = .ok (.iload_n 2, 1) := by decide +kernel
theorem dX4_when_12 : decode cX4_when 12 = .ok (.iconst 0, 1) := by decide +kernel
theorem dX4_when_13 : decode cX4_when 13 = .ok (.sipush 9999, 3) := by decide +kernel
theorem dX4_when_16 : decode cX4_when 16 = .ok (.invokestatic 53, 3) := by decide +kernel
theorem dX4_when_19 : decode cX4_when 19 = .ok (.ifCond .ne 9, 3) := by decide +kernel
theorem dX4_when_22 : decode cX4_when 22 = .ok (.aload_n 0, 1) := by decide +kernel
theorem dX4_when_23 : decode cX4_when 23 = .ok (.iconst 0, 1) := by decide +kernel
theorem dX4_when_24 : decode cX4_when 24 = .ok (.invokevirtual 57, 3) := by decide +kernel
theorem dX4_when_27 : decode cX4_when 27 = .ok (.ireturn, 1) := by decide +kernel
theorem dX4_when_28 : decode cX4_when 28 = .ok (.aload_n 0, 1) := by decide +kernel
theorem dX4_when_29 : decode cX4_when 29 = .ok (.getfield 16, 3) := by decide +kernel
theorem dX4_when_32 : decode cX4_when 32 = .ok (.aload_n 0, 1) := by decide +kernel
theorem dX4_when_33 : decode cX4_when 33 = .ok (.getfield 10, 3) := by decide +kernel
theorem dX4_when_36 : decode cX4_when 36 = .ok (.invokevirtual 138, 3) := by decide +kernel
theorem dX4_when_39 : decode cX4_when 39 = .ok (.iconst 0, 1) := by decide +kernel
theorem dX4_when_40 : decode cX4_when 40 = .ok (.istore_n 3, 1) := by decide +kernel
theorem dX4_when_41 : decode cX4_when 41 = .ok (.iload_n 3, 1) := by decide +kernel
theorem dX4_when_42 : decode cX4_when 42 = .ok (.sipush 200, 3) := by decide +kernel
theorem dX4_when_45 : decode cX4_when 45 = .ok (.if_icmp .gt 35, 3) := by decide +kernel
theorem dX4_when_48 : decode cX4_when 48 = .ok (.aload_n 0, 1) := by decide +kernel
theorem dX4_when_49 : decode cX4_when 49 = .ok (.getfield 16, 3) := by decide +kernel
theorem dX4_when_52 : decode cX4_when 52 = .ok (.getfield 87, 3) := by decide +kernel
theorem dX4_when_55 : decode cX4_when 55 = .ok (.bipush 32, 2) := by decide +kernel
theorem dX4_when_57 : decode cX4_when 57 = .ok (.iload_n 1, 1) := by decide +kernel
theorem dX4_when_58 : decode cX4_when 58 = .ok (.iadd, 1) := by decide +kernel
theorem dX4_when_59 : decode cX4_when 59 = .ok (.iaload, 1) := by decide +kernel
theorem dX4_when_60 : decode cX4_when 60 = .ok (.iload_n 2, 1) := by decide +kernel
theorem dX4_when_61 : decode cX4_when 61 = .ok (.if_icmp .lt 5, 3) := by decide +kernel
theorem dX4_when_64 : decode cX4_when 64 = .ok (.iload_n 3, 1) := by decide +kernel
theorem dX4_when_65 : decode cX4_when 65 = .ok (.ireturn, 1) := by decide +kernel
theorem dX4_when_66 : decode cX4_when 66 = .ok (.aload_n 0, 1) := by decide +kernel
theorem dX4_when_67 : decode cX4_when 67 = .ok (.getfield 16, 3) := by decide +kernel
theorem dX4_when_70 : decode cX4_when 70 = .ok (.iconst 1, 1) := by decide +kernel
theorem dX4_when_71 : decode cX4_when 71 = .ok (.invokevirtual 115, 3) := by decide +kernel
theorem dX4_when_74 : decode cX4_when 74 = .ok (.iinc 3 1, 3) := by decide +kernel
theorem dX4_when_77 : decode cX4_when 77 = .ok (.goto (-36), 3) := by decide +kernel
theorem dX4_when_80 : decode cX4_when 80 = .ok (.aload_n 0, 1) := by decide +kernel
theorem dX4_when_81 : decode cX4_when 81 = .ok (.iconst 3, 1) := by decide +kernel
theorem dX4_when_82 : decode cX4_when 82 = .ok (.invokevirtual 57, 3) := by decide +kernel
theorem dX4_when_85 : decode cX4_when 85 = .ok (.ireturn, 1) := by decide +kernel
theorem dX4_setWith_0 : decode cX4_setWith 0 = .ok (.iload_n 1, 1) := by decide +kernel
theorem dX4_setWith_1 : decode cX4_setWith 1 = .ok (.iconst 0, 1) := by decide +kernel
theorem dX4_setWith_2 : decode cX4_setWith 2 = .ok (.iconst 5, 1) := by decide +kernel
theorem dX4_setWith_3 : decode cX4_setWith 3 = .ok (.invokestatic 53, 3) := by decide +kernel
theorem dX4_setWith_6 : decode cX4_setWith 6 = .ok (.ifCond .eq 24, 3) := by decide +kernel
theorem dX4_setWith_9 : decode cX4_setWith 9 = .ok (.aload_n 0, 1) := by decide +kernel
theorem dX4_setWith_10 : decode cX4_setWith 10 = .ok (.getfield 10, 3) := by decide +kernel
theorem dX4_setWith_13 : decode cX4_setWith 13 = .ok (.iload_n 2, 1) := by decide +kernel
theorem dX4_setWith_14 : decode cX4_setWith 14 = .ok (.invokevirtual 76, 3) := by decide +kernel
theorem dX4_setWith_17 : decode cX4_setWith 17 = .ok (.ifCond .eq 13, 3) := by decide +kernel
theorem dX4_setWith_20 : decode cX4_setWith 20 = .ok (.iload_n 3, 1) := by decide +kernel
theorem dX4_setWith_21 : decode cX4_setWith 21 = .ok (.iconst 0, 1) := by decide +kernel
theorem dX4_setWith_22 : decode cX4_setWith 22 = .ok (.bipush 60, 2) := by decide +kernel
theorem dX4_setWith_24 : decode cX4_setWith 24 = .ok (.invokestatic 53, 3) := by decide +kernel
theorem dX4_setWith_27 : decode cX4_setWith 27 = .ok (.ifCond .ne 9, 3) := by decide +kernel
theorem dX4_setWith_30 : decode cX4_setWith 30 = .ok (.aload_n 0, 1) := by decide +kernel
theorem dX4_setWith_31 : decode cX4_setWith 31 = .ok (.iconst 0, 1) := by decide +kernel
theorem dX4_setWith_32 : decode cX4_setWith 32 = .ok (.invokevirtual 57, 3) := by decide +kernel
theorem dX4_setWith_35 : decode cX4_setWith 35 = .ok (.ireturn, 1) := by decide +kernel
theorem dX4_setWith_36 : decode cX4_setWith 36 = .ok (.iconst (-1), 1) := by decide +kernel
theorem dX4_setWith_37 : decode cX4_setWith 37 = .ok (.istore 4, 2) := by decide +kernel
theorem dX4_setWith_39 : decode cX4_setWith 39 = .ok (.iconst (-1), 1) := by decide +kernel
theorem dX4_setWith_40 : decode cX4_setWith 40 = .ok (.istore 5, 2) := by decide +kernel
theorem dX4_setWith_42 : decode cX4_setWith 42 = .ok (.iconst 0, 1) := by decide +kernel
theorem dX4_setWith_43 : decode cX4_setWith 43 = .ok (.istore 6, 2) := by decide +kernel
theorem dX4_setWith_45 : decode cX4_setWith 45 = .ok (.iload 6, 2) := by decide +kernel
theorem dX4_setWith_47 : decode cX4_setWith 47 = .ok (.aload_n 0, 1) := by decide +kernel
theorem dX4_setWith_48 : decode cX4_setWith 48 = .ok (.getfield 10, 3) := by decide +kernel
theorem dX4_setWith_51 : decode cX4_setWith 51 = .ok (.getfield 142, 3) := by decide +kernel
theorem dX4_setWith_54 : decode cX4_setWith 54 = .ok (.if_icmp .ge 78, 3) := by decide +kernel
theorem dX4_setWith_57 : decode cX4_setWith 57 = .ok (.iload 6, 2) := by decide +kernel
theorem dX4_setWith_59 : decode cX4_setWith 59 = .ok (.iload_n 2, 1) := by decide +kernel
theorem dX4_setWith_60 : decode cX4_setWith 60 = .ok (.if_icmp .ne 6, 3) := by decide +kernel
theorem dX4_setWith_63 : decode cX4_setWith 63 = .ok (.goto 63, 3) := by decide +kernel
theorem dX4_setWith_66 : decode cX4_setWith 66 = .ok (.aload_n 0, 1) := by decide +kernel
theorem dX4_setWith_67 : decode cX4_setWith 67 = .ok (.getfield 16, 3) := by decide +kernel
theorem dX4_setWith_70 : decode cX4_setWith 70 = .ok (.aload_n 0, 1) := by decide +kernel
theorem dX4_setWith_71 : decode cX4_setWith 71 = .ok (.getfield 10, 3) := by decide +kernel
theorem dX4_setWith_74 : decode cX4_setWith 74 = .ok (.invokevirtual 138, 3) := by decide +kernel
theorem dX4_setWith_77 : decode cX4_setWith 77 = .ok (.aload_n 0, 1) := by decide +kernel
theorem dX4_setWith_78 : decode cX4_setWith 78 = .ok (.getfield 16, 3) := by decide +kernel
theorem dX4_setWith_81 : decode cX4_setWith 81 = .ok (.getfield 65, 3) := by decide +kernel
theorem dX4_setWith_84 : decode cX4_setWith 84 = .ok (.iload_n 1, 1) := by decide +kernel
theorem dX4_setWith_85 : decode cX4_setWith 85 = .ok (.bipush 10, 2) := by decide +kernel
theorem dX4_setWith_87 : decode cX4_setWith 87 = .ok (.iload_n 2, 1) := by decide +kernel
theorem dX4_setWith_88 : decode cX4_setWith 88 = .ok (.imul, 1) := by decide +kernel
theorem dX4_setWith_89 : decode cX4_setWith 89 = .ok (.iload 6, 2) := by decide +kernel
theorem dX4_setWith_91 : decode cX4_setWith 91 = .ok (.iadd, 1) := by decide +kernel
theorem dX4_setWith_92 : decode cX4_setWith 92 = .ok (.iastore, 1) := by decide +kernel
theorem dX4_setWith_93 : decode cX4_setWith 93 = .ok (.aload_n 0, 1) := by decide +kernel
theorem dX4_setWith_94 : decode cX4_setWith 94 = .ok (.getfield 16, 3) := by decide +kernel
theorem dX4_setWith_97 : decode cX4_setWith 97 = .ok (.iload_n 3, 1) := by decide +kernel
theorem dX4_setWith_98 : decode cX4_setWith 98 = .ok (.invokevirtual 115, 3) := by decide +kernel
theorem dX4_setWith_101 : decode cX4_setWith 101 = .ok (.aload_n 0, 1) := by decide +kernel
theorem dX4_setWith_102 : decode cX4_setWith 102 = .ok (.getfield 16, 3) := by decide +kernel
theorem dX4_setWith_105 : decode cX4_setWith 105 = .ok (.getfield 119, 3) := by decide +kernel
theorem dX4_setWith_108 : decode cX4_setWith 108 = .ok (.iload 5, 2) := by decide +kernel
theorem dX4_setWith_110 : decode cX4_setWith 110 = .ok (.if_icmp .le 16, 3) := by decide +kernel
theorem dX4_setWith_113 : decode cX4_setWith 113 = .ok (.aload_n 0, 1) := by decide +kernel
theorem dX4_setWith_114 : decode cX4_setWith 114 = .ok (.getfield 16, 3) := by decide +kernel
theorem dX4_setWith_117 : decode cX4_setWith 117 = .ok (.getfield 119, 3) := by decide +kernel
theorem dX4_setWith_120 : decode cX4_setWith 120 = .ok (.istore 5, 2) := by decide +kernel
theorem dX4_setWith_122 : decode cX4_setWith 122 = .ok (.iload 6, 2) := by decide +kernel
theorem dX4_setWith_124 : decode cX4_setWith 124 = .ok (.istore 4, 2) := by decide +kernel
theorem dX4_setWith_126 : decode cX4_setWith 126 = .ok (.iinc 6 1, 3) := by decide +kernel
theorem dX4_setWith_129 : decode cX4_setWith 129 = .ok (.goto (-84), 3) := by decide +kernel
theorem dX4_setWith_132 : decode cX4_setWith 132 = .ok (.iload 4, 2) := by decide +kernel
theorem dX4_setWith_134 : decode cX4_setWith 134 = .ok (.iconst (-1), 1) := by decide +kernel
theorem dX4_setWith_135 : decode cX4_setWith 135 = .ok (.if_icmp .ne 11, 3) := by decide +kernel
theorem dX4_setWith_138 : decode cX4_setWith 138 = .ok (.aload_n 0, 1) := by decide +kernel
theorem dX4_setWith_139 : decode cX4_setWith 139 = .ok (.iconst 3, 1) := by decide +kernel
theorem dX4_setWith_140 : decode cX4_setWith 140 = .ok (.invokevirtual 57, 3) := by decide +kernel
theorem dX4_setWith_143 : decode cX4_setWith 143 = .ok (.goto 5, 3) := by decide +kernel
theorem dX4_setWith_146 : decode cX4_setWith 146 = .ok (.iload 4, 2) := by decide +kernel
theorem dX4_setWith_148 : decode cX4_setWith 148 = .ok (.ireturn, 1) := by decide +kernel
theorem dX4_heatFor_0 : decode cX4_heatFor 0 = .ok (.aload_n 0, 1) := by decide +kernel
theorem dX4_heatFor_1 : decode cX4_heatFor 1 = .ok (.getfield 10, 3) := by decide +kernel
theorem dX4_heatFor_4 : decode cX4_heatFor 4 = .ok (.iload_n 1, 1) := by decide +kernel
theorem dX4_heatFor_5 : decode cX4_heatFor 5 = .ok (.invokevirtual 76, 3) := by decide +kernel
theorem dX4_heatFor_8 : decode cX4_heatFor 8 = .ok (.ifCond .eq 13, 3) := by decide +kernel
theorem dX4_heatFor_11 : decode cX4_heatFor 11 = .ok (.iload_n 2, 1) := by decide +kernel
theorem dX4_heatFor_12 : decode cX4_heatFor 12 = .ok (.iconst 0, 1) := by decide +kernel
theorem dX4_heatFor_13 : decode cX4_heatFor 13 = .ok (.bipush 60, 2) := by decide +kernel
theorem dX4_heatFor_15 : decode cX4_heatFor 15 = .ok (.invokestatic 53, 3) := by decide +kernel
theorem dX4_heatFor_18 : decode cX4_heatFor 18 = .ok (.ifCond .ne 9, 3) := by decide +kernel
theorem dX4_heatFor_21 : decode cX4_heatFor 21 = .ok (.aload_n 0, 1) := by decide +kernel
theorem dX4_heatFor_22 : decode cX4_heatFor 22 = .ok (.iconst 0, 1) := by decide +kernel
theorem dX4_heatFor_23 : decode cX4_heatFor 23 = .ok (.invokevirtual 57, 3) := by decide +kernel
theorem dX4_heatFor_26 : decode cX4_heatFor 26 = .ok (.ireturn, 1) := by decide +kernel
theorem dX4_heatFor_27 : decode cX4_heatFor 27 = .ok (.aload_n 0, 1) := by decide +kernel
theorem dX4_heatFor_28 : decode cX4_heatFor 28 = .ok (.bipush 8, 2) := by decide +kernel
theorem dX4_heatFor_30 : decode cX4_heatFor 30 = .ok (.iload_n 1, 1) := by decide +kernel
theorem dX4_heatFor_31 : decode cX4_heatFor 31 = .ok (.iadd, 1) := by decide +kernel
theorem dX4_heatFor_32 : decode cX4_heatFor 32 = .ok (.bipush 99, 2) := by decide +kernel
theorem dX4_heatFor_34 : decode cX4_heatFor 34 = .ok (.iload_n 2, 1) := by decide +kernel
theorem dX4_heatFor_35 : decode cX4_heatFor 35 = .ok (.invokevirtual 145, 3) := by decide +kernel
theorem dX4_heatFor_38 : decode cX4_heatFor 38 = .ok (.ireturn, 1) := by decide +kernel
theorem dX4_kindFor_0 : decode cX4_kindFor 0 = .ok (.aload_n 0, 1) := by decide +kernel
theorem dX4_kindFor_1 : decode cX4_kindFor 1 = .ok (.getfield 10, 3) := by decide +kernel
theorem dX4_kindFor_4 : decode cX4_kindFor 4 = .ok (.iload_n 1, 1) := by decide +kernel
theorem dX4_kindFor_5 : decode cX4_kindFor 5 = .ok (.invokevirtual 76, 3) := by decide +kernel
theorem dX4_kindFor_8 : decode cX4_kindFor 8 = .ok (.ifCond .eq 13, 3) := by decide +kernel
theorem dX4_kindFor_11 : decode cX4_kindFor 11 = .ok (.iload_n 2, 1) := by decide +kernel
theorem dX4_kindFor_12 : decode cX4_kindFor 12 = .ok (.iconst 0, 1) := by decide +kernel
theorem dX4_kindFor_13 : decode cX4_kindFor 13 = .ok (.bipush 60, 2) := by decide +kernel
theorem dX4_kindFor_15 : decode cX4_kindFor 15 = .ok (.invokestatic 53, 3) := by decide +kernel
theorem dX4_kindFor_18 : decode cX4_kindFor 18 = .ok (.ifCond .ne 9, 3) := by decide +kernel
theorem dX4_kindFor_21 : decode cX4_kindFor 21 = .ok (.aload_n 0, 1) := by decide +kernel
theorem dX4_kindFor_22 : decode cX4_kindFor 22 = .ok (.iconst 0, 1) := by decide +kernel
theorem dX4_kindFor_23 : decode cX4_kindFor 23 = .ok (.invokevirtual 57, 3) := by decide +kernel
theorem dX4_kindFor_26 : decode cX4_kindFor 26 = .ok (.ireturn, 1) := by decide +kernel
theorem dX4_kindFor_27 : decode cX4_kindFor 27 = .ok (.aload_n 0, 1) := by decide +kernel
theorem dX4_kindFor_28 : decode cX4_kindFor 28 = .ok (.iconst 0, 1) := by decide +kernel
theorem dX4_kindFor_29 : decode cX4_kindFor 29 = .ok (.iload_n 1, 1) := by decide +kernel
theorem dX4_kindFor_30 : decode cX4_kindFor 30 = .ok (.iadd, 1) := by decide +kernel
theorem dX4_kindFor_31 : decode cX4_kindFor 31 = .ok (.bipush 6, 2) := by decide +kernel
theorem dX4_kindFor_33 : decode cX4_kindFor 33 = .ok (.iload_n 2, 1) := by decide +kernel
theorem dX4_kindFor_34 : decode cX4_kindFor 34 = .ok (.invokevirtual 145, 3) := by decide +kernel
theorem dX4_kindFor_37 : decode cX4_kindFor 37 = .ok (.ireturn, 1) := by decide +kernel
theorem dX4_clayFor_0 : decode cX4_clayFor 0 = .ok (.aload_n 0, 1) := by decide +kernel
theorem dX4_clayFor_1 : decode cX4_clayFor 1 = .ok (.getfield 10, 3) := by decide +kernel
theorem dX4_clayFor_4 : decode cX4_clayFor 4 = .ok (.iload_n 1, 1) := by decide +kernel
theorem dX4_clayFor_5 : decode cX4_clayFor 5 = .ok (.invokevirtual 76, 3) := by decide +kernel
theorem dX4_clayFor_8 : decode cX4_clayFor 8 = .ok (.ifCond .eq 13, 3) := by decide +kernel
theorem dX4_clayFor_11 : decode cX4_clayFor 11 = .ok (.iload_n 2, 1) := by decide +kernel
theorem dX4_clayFor_12 : decode cX4_clayFor 12 = .ok (.iconst 0, 1) := by decide +kernel
theorem dX4_clayFor_13 : decode cX4_clayFor 13 = .ok (.bipush 60, 2) := by decide +kernel
theorem dX4_clayFor_15 : decode cX4_clayFor 15 = .ok (.invokestatic 53, 3) := by decide +kernel
theorem dX4_clayFor_18 : decode cX4_clayFor 18 = .ok (.ifCond .ne 9, 3) := by decide +kernel
theorem dX4_clayFor_21 : decode cX4_clayFor 21 = .ok (.aload_n 0, 1) := by decide +kernel
theorem dX4_clayFor_22 : decode cX4_clayFor 22 = .ok (.iconst 0, 1) := by decide +kernel
theorem dX4_clayFor_23 : decode cX4_clayFor 23 = .ok (.invokevirtual 57, 3) := by decide +kernel
theorem dX4_clayFor_26 : decode cX4_clayFor 26 = .ok (.ireturn, 1) := by decide +kernel
theorem dX4_clayFor_27 : decode cX4_clayFor 27 = .ok (.bipush 40, 2) := by decide +kernel
theorem dX4_clayFor_29 : decode cX4_clayFor 29 = .ok (.iload_n 1, 1) := by decide +kernel
theorem dX4_clayFor_30 : decode cX4_clayFor 30 = .ok (.iadd, 1) := by decide +kernel
theorem dX4_clayFor_31 : decode cX4_clayFor 31 = .ok (.istore_n 3, 1) := by decide +kernel
theorem dX4_clayFor_32 : decode cX4_clayFor 32 = .ok (.iconst 1, 1) := by decide +kernel
theorem dX4_clayFor_33 : decode cX4_clayFor 33 = .ok (.istore 4, 2) := by decide +kernel
theorem dX4_clayFor_35 : decode cX4_clayFor 35 = .ok (.iload 4, 2) := by decide +kernel
theorem dX4_clayFor_37 : decode cX4_clayFor 37 = .ok (.bipush 20, 2) := by decide +kernel
theorem dX4_clayFor_39 : decode cX4_clayFor 39 = .ok (.if_icmp .gt 61, 3) := by decide +kernel
theorem dX4_clayFor_42 : decode cX4_clayFor 42 = .ok (.aload_n 0, 1) := by decide +kernel
theorem dX4_clayFor_43 : decode cX4_clayFor 43 = .ok (.getfield 16, 3) := by decide +kernel
theorem dX4_clayFor_46 : decode cX4_clayFor 46 = .ok (.aload_n 0, 1) := by decide +kernel
theorem dX4_clayFor_47 : decode cX4_clayFor 47 = .ok (.getfield 10, 3) := by decide +kernel
theorem dX4_clayFor_50 : decode cX4_clayFor 50 = .ok (.invokevirtual 138, 3) := by decide +kernel
theorem dX4_clayFor_53 : decode cX4_clayFor 53 = .ok (.aload_n 0, 1) := by decide +kernel
theorem dX4_clayFor_54 : decode cX4_clayFor 54 = .ok (.getfield 16, 3) := by decide +kernel
theorem dX4_clayFor_57 : decode cX4_clayFor 57 = .ok (.iload 4, 2) := by decide +kernel
theorem dX4_clayFor_59 : decode cX4_clayFor 59 = .ok (.putfield 61, 3) := by decide +kernel
theorem dX4_clayFor_62 : decode cX4_clayFor 62 = .ok (.aload_n 0, 1) := by decide +kernel
theorem dX4_clayFor_63 : decode cX4_clayFor 63 = .ok (.getfield 16, 3) := by decide +kernel
theorem dX4_clayFor_66 : decode cX4_clayFor 66 = .ok (.iload_n 2, 1) := by decide +kernel
theorem dX4_clayFor_67 : decode cX4_clayFor 67 = .ok (.invokevirtual 115, 3) := by decide +kernel
theorem dX4_clayFor_70 : decode cX4_clayFor 70 = .ok (.aload_n 0, 1) := by decide +kernel
theorem dX4_clayFor_71 : decode cX4_clayFor 71 = .ok (.getfield 16, 3) := by decide +kernel
theorem dX4_clayFor_74 : decode cX4_clayFor 74 = .ok (.getfield 87, 3) := by decide +kernel
theorem dX4_clayFor_77 : decode cX4_clayFor 77 = .ok (.iload_n 3, 1) := by decide +kernel
theorem dX4_clayFor_78 : decode cX4_clayFor 78 = .ok (.iaload, 1) := by decide +kernel
theorem dX4_clayFor_79 : decode cX4_clayFor 79 = .ok (.aload_n 0, 1) := by decide +kernel
theorem dX4_clayFor_80 : decode cX4_clayFor 80 = .ok (.getfield 10, 3) := by decide +kernel
theorem dX4_clayFor_83 : decode cX4_clayFor 83 = .ok (.getfield 87, 3) := by decide +kernel
theorem dX4_clayFor_86 : decode cX4_clayFor 86 = .ok (.iload_n 3, 1) := by decide +kernel
theorem dX4_clayFor_87 : decode cX4_clayFor 87 = .ok (.iaload, 1) := by decide +kernel
theorem dX4_clayFor_88 : decode cX4_clayFor 88 = .ok (.if_icmp .ne 6, 3) := by decide +kernel
theorem dX4_clayFor_91 : decode cX4_clayFor 91 = .ok (.iload 4, 2) := by decide +kernel
theorem dX4_clayFor_93 : decode cX4_clayFor 93 = .ok (.ireturn, 1) := by decide +kernel
theorem dX4_clayFor_94 : decode cX4_clayFor 94 = .ok (.iinc 4 1, 3) := by decide +kernel
theorem dX4_clayFor_97 : decode cX4_clayFor 97 = .ok (.goto (-62), 3) := by decide +kernel
theorem dX4_clayFor_100 : decode cX4_clayFor 100 = .ok (.aload_n 0, 1) := by decide +kernel
theorem dX4_clayFor_101 : decode cX4_clayFor 101 = .ok (.iconst 3, 1) := by decide +kernel
theorem dX4_clayFor_102 : decode cX4_clayFor 102 = .ok (.invokevirtual 57, 3) := by decide +kernel
theorem dX4_clayFor_105 : decode cX4_clayFor 105 = .ok (.ireturn, 1) := by decide +kernel
theorem dX4_reconcile_0 : decode cX4_reconcile 0 = .ok (.iload_n 1, 1) := by decide +kernel
theorem dX4_reconcile_1 : decode cX4_reconcile 1 = .ok (.iconst 0, 1) := by decide +kernel
theorem dX4_reconcile_2 : decode cX4_reconcile 2 = .ok (.bipush 20, 2) := by decide +kernel
theorem dX4_reconcile_4 : decode cX4_reconcile 4 = .ok (.invokestatic 53, 3) := by decide +kernel
theorem dX4_reconcile_7 : decode cX4_reconcile 7 = .ok (.ifCond .ne 9, 3) := by decide +kernel
theorem dX4_reconcile_10 : decode cX4_reconcile 10 = .ok (.aload_n 0, 1) := by decide +kernel
theorem dX4_reconcile_11 : decode cX4_reconcile 11 = .ok (.iconst 0, 1) := by decide +kernel
theorem dX4_reconcile_12 : decode cX4_reconcile 12 = .ok (.invokevirtual 57, 3) := by decide +kernel
theorem dX4_reconcile_15 : decode cX4_reconcile 15 = .ok (.ireturn, 1) := by decide +kernel
theorem dX4_reconcile_16 : decode cX4_reconcile 16 = .ok (.iconst 1, 1) := by decide +kernel
theorem dX4_reconcile_17 : decode cX4_reconcile 17 = .ok (.aload_n 0, 1) := by decide +kernel
theorem dX4_reconcile_18 : decode cX4_reconcile 18 = .ok (.getfield 10, 3) := by decide +kernel
theorem dX4_reconcile_21 : decode cX4_reconcile 21 = .ok (.getfield 142, 3) := by decide +kernel
theorem dX4_reconcile_24 : decode cX4_reconcile 24 = .ok (.ishl, 1) := by decide +kernel
theorem dX4_reconcile_25 : decode cX4_reconcile 25 = .ok (.istore_n 2, 1) := by decide +kernel
theorem dX4_reconcile_26 : decode cX4_reconcile 26 = .ok (.iconst (-1), 1) := by decide +kernel
theorem dX4_reconcile_27 : decode cX4_reconcile 27 = .ok (.istore_n 3, 1) := by decide +kernel
theorem dX4_reconcile_28 : decode cX4_reconcile 28 = .ok (.iconst 0, 1) := by decide +kernel
theorem dX4_reconcile_29 : decode cX4_reconcile 29 = .ok (.istore 4, 2) := by decide +kernel
theorem dX4_reconcile_31 : decode cX4_reconcile 31 = .ok (.iload 4, 2) := by decide +kernel
theorem dX4_reconcile_33 : decode cX4_reconcile 33 = .ok (.iload_n 2, 1) := by decide +kernel
theorem dX4_reconcile_34 : decode cX4_reconcile 34 = .ok (.if_icmp .ge 50, 3) := by decide +kernel
theorem dX4_reconcile_37 : decode cX4_reconcile 37 = .ok (.iload_n 3, 1) := by decide +kernel
theorem dX4_reconcile_38 : decode cX4_reconcile 38 = .ok (.ifCond .lt 15, 3) := by decide +kernel
theorem dX4_reconcile_41 : decode cX4_reconcile 41 = .ok (.iload 4, 2) := by decide +kernel
theorem dX4_reconcile_43 : decode cX4_reconcile 43 = .ok (.invokestatic 148, 3) := by decide +kernel
theorem dX4_reconcile_46 : decode cX4_reconcile 46 = .ok (.iload_n 3, 1) := by decide +kernel
theorem dX4_reconcile_47 : decode cX4_reconcile 47 = .ok (.invokestatic 148, 3) := by decide +kernel
theorem dX4_reconcile_50 : decode cX4_reconcile 50 = .ok (.if_icmp .ge 7, 3) := by decide +kernel
theorem dX4_reconcile_53 : decode cX4_reconcile 53 = .ok (.iconst 1, 1) := by decide +kernel
theorem dX4_reconcile_54 : decode cX4_reconcile 54 = .ok (.goto 4, 3) := by decide +kernel
theorem dX4_reconcile_57 : decode cX4_reconcile 57 = .ok (.iconst 0, 1) := by decide +kernel
theorem dX4_reconcile_58 : decode cX4_reconcile 58 = .ok (.istore 5, 2) := by decide +kernel
theorem dX4_reconcile_60 : decode cX4_reconcile 60 = .ok (.iload 5, 2) := by decide +kernel
theorem dX4_reconcile_62 : decode cX4_reconcile 62 = .ok (.ifCond .eq 16, 3) := by decide +kernel
theorem dX4_reconcile_65 : decode cX4_reconcile 65 = .ok (.aload_n 0, 1) := by decide +kernel
theorem dX4_reconcile_66 : decode cX4_reconcile 66 = .ok (.iload 4, 2) := by decide +kernel
theorem dX4_reconcile_68 : decode cX4_reconcile 68 = .ok (.iload_n 1, 1) := by decide +kernel
theorem dX4_reconcile_69 : decode cX4_reconcile 69 = .ok (.invokevirtual 153, 3) := by decide +kernel
theorem dX4_reconcile_72 : decode cX4_reconcile 72 = .ok (.ifCond .eq 6, 3) := by decide +kernel
theorem dX4_reconcile_75 : decode cX4_reconcile 75 = .ok (.iload 4, 2) := by decide +kernel
theorem dX4_reconcile_77 : decode cX4_reconcile 77 = .ok (.istore_n 3, 1) := by decide +kernel
theorem dX4_reconcile_78 : decode cX4_reconcile 78 = .ok (.iinc 4 1, 3) := by decide +kernel
theorem dX4_reconcile_81 : decode cX4_reconcile 81 = .ok (.goto (-50), 3) := by decide +kernel
theorem dX4_reconcile_84 : decode cX4_reconcile 84 = .ok (.iload_n 3, 1) := by decide +kernel
theorem dX4_reconcile_85 : decode cX4_reconcile 85 = .ok (.ifCond .ge 11, 3) := by decide +kernel
theorem dX4_reconcile_88 : decode cX4_reconcile 88 = .ok (.aload_n 0, 1) := by decide +kernel
theorem dX4_reconcile_89 : decode cX4_reconcile 89 = .ok (.iconst 3, 1) := by decide +kernel
theorem dX4_reconcile_90 : decode cX4_reconcile 90 = .ok (.invokevirtual 57, 3) := by decide +kernel
theorem dX4_reconcile_93 : decode cX4_reconcile 93 = .ok (.goto 4, 3) := by decide +kernel
theorem dX4_reconcile_96 : decode cX4_reconcile 96 = .ok (.iload_n 3, 1) := by decide +kernel
theorem dX4_reconcile_97 : decode cX4_reconcile 97 = .ok (.ireturn, 1) := by decide +kernel
theorem dX4_fits_0 : decode cX4_fits 0 = .ok (.iload_n 1, 1) := by decide +kernel
theorem dX4_fits_1 : decode cX4_fits 1 = .ok (.iconst 0, 1) := by decide +kernel
theorem dX4_fits_2 : decode cX4_fits 2 = .ok (.iconst 3, 1) := by decide +kernel
theorem dX4_fits_3 : decode cX4_fits 3 = .ok (.invokestatic 53, 3) := by decide +kernel
theorem dX4_fits_6 : decode cX4_fits 6 = .ok (.ifCond .ne 9, 3) := by decide +kernel
theorem dX4_fits_9 : decode cX4_fits 9 = .ok (.aload_n 0, 1) := by decide +kernel
theorem dX4_fits_10 : decode cX4_fits 10 = .ok (.iconst 0, 1) := by decide +kernel
theorem dX4_fits_11 : decode cX4_fits 11 = .ok (.invokevirtual 57, 3) := by decide +kernel
theorem dX4_fits_14 : decode cX4_fits 14 = .ok (.ireturn, 1) := by decide +kernel
theorem dX4_fits_15 : decode cX4_fits 15 = .ok (.aload_n 0, 1) := by decide +kernel
theorem dX4_fits_16 : decode cX4_fits 16 = .ok (.getfield 45, 3) := by decide +kernel
theorem dX4_fits_19 : decode cX4_fits 19 = .ok (.iload_n 1, 1) := by decide +kernel
theorem dX4_fits_20 : decode cX4_fits 20 = .ok (.invokevirtual 156, 3) := by decide +kernel
theorem dX4_fits_23 : decode cX4_fits 23 = .ok (.ifCond .eq 9, 3) := by decide +kernel
theorem dX4_fits_26 : decode cX4_fits 26 = .ok (.aload_n 0, 1) := by decide +kernel
theorem dX4_fits_27 : decode cX4_fits 27 = .ok (.iconst 5, 1) := by decide +kernel
theorem dX4_fits_28 : decode cX4_fits 28 = .ok (.invokevirtual 57, 3) := by decide +kernel
theorem dX4_fits_31 : decode cX4_fits 31 = .ok (.ireturn, 1) := by decide +kernel
theorem dX4_fits_32 : decode cX4_fits 32 = .ok (.aload_n 0, 1) := by decide +kernel
theorem dX4_fits_33 : decode cX4_fits 33 = .ok (.getfield 10, 3) := by decide +kernel
theorem dX4_fits_36 : decode cX4_fits 36 = .ok (.iload_n 2, 1) := by decide +kernel
theorem dX4_fits_37 : decode cX4_fits 37 = .ok (.iload_n 3, 1) := by decide +kernel
theorem dX4_fits_38 : decode cX4_fits 38 = .ok (.invokevirtual 90, 3) := by decide +kernel
theorem dX4_fits_41 : decode cX4_fits 41 = .ok (.ifCond .ne 9, 3) := by decide +kernel
theorem dX4_fits_44 : decode cX4_fits 44 = .ok (.aload_n 0, 1) := by decide +kernel
theorem dX4_fits_45 : decode cX4_fits 45 = .ok (.iconst 0, 1) := by decide +kernel
theorem dX4_fits_46 : decode cX4_fits 46 = .ok (.invokevirtual 57, 3) := by decide +kernel
theorem dX4_fits_49 : decode cX4_fits 49 = .ok (.ireturn, 1) := by decide +kernel
theorem dX4_fits_50 : decode cX4_fits 50 = .ok (.iconst 0, 1) := by decide +kernel
theorem dX4_fits_51 : decode cX4_fits 51 = .ok (.istore 4, 2) := by decide +kernel
theorem dX4_fits_53 : decode cX4_fits 53 = .ok (.iconst 0, 1) := by decide +kernel
theorem dX4_fits_54 : decode cX4_fits 54 = .ok (.istore 5, 2) := by decide +kernel
theorem dX4_fits_56 : decode cX4_fits 56 = .ok (.iload 5, 2) := by decide +kernel
theorem dX4_fits_58 : decode cX4_fits 58 = .ok (.bipush 99, 2) := by decide +kernel
theorem dX4_fits_60 : decode cX4_fits 60 = .ok (.if_icmp .gt 44, 3) := by decide +kernel
theorem dX4_fits_63 : decode cX4_fits 63 = .ok (.aload_n 0, 1) := by decide +kernel
theorem dX4_fits_64 : decode cX4_fits 64 = .ok (.getfield 16, 3) := by decide +kernel
theorem dX4_fits_67 : decode cX4_fits 67 = .ok (.aload_n 0, 1) := by decide +kernel
theorem dX4_fits_68 : decode cX4_fits 68 = .ok (.getfield 10, 3) := by decide +kernel
theorem dX4_fits_71 : decode cX4_fits 71 = .ok (.invokevirtual 138, 3) := by decide +kernel
theorem dX4_fits_74 : decode cX4_fits 74 = .ok (.aload_n 0, 1) := by decide +kernel
theorem dX4_fits_75 : decode cX4_fits 75 = .ok (.getfield 16, 3) := by decide +kernel
theorem dX4_fits_78 : decode cX4_fits 78 = .ok (.iload_n 2, 1) := by decide +kernel
theorem dX4_fits_79 : decode cX4_fits 79 = .ok (.iload_n 3, 1) := by decide +kernel
theorem dX4_fits_80 : decode cX4_fits 80 = .ok (.iload 5, 2) := by decide +kernel
theorem dX4_fits_82 : decode cX4_fits 82 = .ok (.invokevirtual 97, 3) := by decide +kernel
theorem dX4_fits_85 : decode cX4_fits 85 = .ok (.aload_n 0, 1) := by decide +kernel
theorem dX4_fits_86 : decode cX4_fits 86 = .ok (.iload_n 1, 1) := by decide +kernel
theorem dX4_fits_87 : decode cX4_fits 87 = .ok (.iload_n 2, 1) := by decide +kernel
theorem dX4_fits_88 : decode cX4_fits 88 = .ok (.iload_n 3, 1) := by decide +kernel
theorem dX4_fits_89 : decode cX4_fits 89 = .ok (.invokevirtual 159, 3) := by decide +kernel
theorem dX4_fits_92 : decode cX4_fits 92 = .ok (.ifCond .eq 6, 3) := by decide +kernel
theorem dX4_fits_95 : decode cX4_fits 95 = .ok (.iinc 4 1, 3) := by decide +kernel
theorem dX4_fits_98 : decode cX4_fits 98 = .ok (.iinc 5 1, 3) := by decide +kernel
theorem dX4_fits_101 : decode cX4_fits 101 = .ok (.goto (-45), 3) := by decide +kernel
theorem dX4_fits_104 : decode cX4_fits 104 = .ok (.iload 4, 2) := by decide +kernel
theorem dX4_fits_106 : decode cX4_fits 106 = .ok (.ireturn, 1) := by decide +kernel
theorem dX4_kinds_0 : decode cX4_kinds 0 = .ok (.iload_n 1, 1) := by decide +kernel
theorem dX4_kinds_1 : decode cX4_kinds 1 = .ok (.iconst 0, 1) := by decide +kernel
theorem dX4_kinds_2 : decode cX4_kinds 2 = .ok (.iconst 3, 1) := by decide +kernel
theorem dX4_kinds_3 : decode cX4_kinds 3 = .ok (.invokestatic 53, 3) := by decide +kernel
theorem dX4_kinds_6 : decode cX4_kinds 6 = .ok (.ifCond .ne 9, 3) := by decide +kernel
theorem dX4_kinds_9 : decode cX4_kinds 9 = .ok (.aload_n 0, 1) := by decide +kernel
theorem dX4_kinds_10 : decode cX4_kinds 10 = .ok (.iconst 0, 1) := by decide +kernel
theorem dX4_kinds_11 : decode cX4_kinds 11 = .ok (.invokevirtual 57, 3) := by decide +kernel
theorem dX4_kinds_14 : decode cX4_kinds 14 = .ok (.ireturn, 1) := by decide +kernel
theorem dX4_kinds_15 : decode cX4_kinds 15 = .ok (.aload_n 0, 1) := by decide +kernel
theorem dX4_kinds_16 : decode cX4_kinds 16 = .ok (.getfield 45, 3) := by decide +kernel
theorem dX4_kinds_19 : decode cX4_kinds 19 = .ok (.iload_n 1, 1) := by decide +kernel
theorem dX4_kinds_20 : decode cX4_kinds 20 = .ok (.invokevirtual 156, 3) := by decide +kernel
theorem dX4_kinds_23 : decode cX4_kinds 23 = .ok (.ifCond .eq 9, 3) := by decide +kernel
theorem dX4_kinds_26 : decode cX4_kinds 26 = .ok (.aload_n 0, 1) := by decide +kernel
theorem dX4_kinds_27 : decode cX4_kinds 27 = .ok (.iconst 5, 1) := by decide +kernel
theorem dX4_kinds_28 : decode cX4_kinds 28 = .ok (.invokevirtual 57, 3) := by decide +kernel
theorem dX4_kinds_31 : decode cX4_kinds 31 = .ok (.ireturn, 1) := by decide +kernel
theorem dX4_kinds_32 : decode cX4_kinds 32 = .ok (.aload_n 0, 1) := by decide +kernel
theorem dX4_kinds_33 : decode cX4_kinds 33 = .ok (.getfield 10, 3) := by decide +kernel
theorem dX4_kinds_36 : decode cX4_kinds 36 = .ok (.iload_n 2, 1) := by decide +kernel
theorem dX4_kinds_37 : decode cX4_kinds 37 = .ok (.invokevirtual 76, 3) := by decide +kernel
theorem dX4_kinds_40 : decode cX4_kinds 40 = .ok (.ifCond .ne 9, 3) := by decide +kernel
theorem dX4_kinds_43 : decode cX4_kinds 43 = .ok (.aload_n 0, 1) := by decide +kernel
theorem dX4_kinds_44 : decode cX4_kinds 44 = .ok (.iconst 0, 1) := by decide +kernel
theorem dX4_kinds_45 : decode cX4_kinds 45 = .ok (.invokevirtual 57, 3) := by decide +kernel
theorem dX4_kinds_48 : decode cX4_kinds 48 = .ok (.ireturn, 1) := by decide +kernel
theorem dX4_kinds_49 : decode cX4_kinds 49 = .ok (.iconst 0, 1) := by decide +kernel
theorem dX4_kinds_50 : decode cX4_kinds 50 = .ok (.istore_n 3, 1) := by decide +kernel
theorem dX4_kinds_51 : decode cX4_kinds 51 = .ok (.iconst 0, 1) := by decide +kernel
theorem dX4_kinds_52 : decode cX4_kinds 52 = .ok (.istore 4, 2) := by decide +kernel
theorem dX4_kinds_54 : decode cX4_kinds 54 = .ok (.iload 4, 2) := by decide +kernel
theorem dX4_kinds_56 : decode cX4_kinds 56 = .ok (.bipush 6, 2) := by decide +kernel
theorem dX4_kinds_58 : decode cX4_kinds 58 = .ok (.if_icmp .gt 49, 3) := by decide +kernel
theorem dX4_kinds_61 : decode cX4_kinds 61 = .ok (.aload_n 0, 1) := by decide +kernel
theorem dX4_kinds_62 : decode cX4_kinds 62 = .ok (.getfield 16, 3) := by decide +kernel
theorem dX4_kinds_65 : decode cX4_kinds 65 = .ok (.aload_n 0, 1) := by decide +kernel
theorem dX4_kinds_66 : decode cX4_kinds 66 = .ok (.getfield 10, 3) := by decide +kernel
theorem dX4_kinds_69 : decode cX4_kinds 69 = .ok (.invokevirtual 138, 3) := by decide +kernel
theorem dX4_kinds_72 : decode cX4_kinds 72 = .ok (.aload_n 0, 1) := by decide +kernel
theorem dX4_kinds_73 : decode cX4_kinds 73 = .ok (.getfield 16, 3) := by decide +kernel
theorem dX4_kinds_76 : decode cX4_kinds 76 = .ok (.getfield 87, 3) := by decide +kernel
theorem dX4_kinds_79 : decode cX4_kinds 79 = .ok (.iconst 0, 1) := by decide +kernel
theorem dX4_kinds_80 : decode cX4_kinds 80 = .ok (.iload_n 2, 1) := by decide +kernel
theorem dX4_kinds_81 : decode cX4_kinds 81 = .ok (.iadd, 1) := by decide +kernel
theorem dX4_kinds_82 : decode cX4_kinds 82 = .ok (.iload 4, 2) := by decide +kernel
theorem dX4_kinds_84 : decode cX4_kinds 84 = .ok (.iastore, 1) := by decide +kernel
theorem dX4_kinds_85 : decode cX4_kinds 85 = .ok (.aload_n 0, 1) := by decide +kernel
theorem dX4_kinds_86 : decode cX4_kinds 86 = .ok (.iload_n 1, 1) := by decide +kernel
theorem dX4_kinds_87 : decode cX4_kinds 87 = .ok (.iload_n 2, 1) := by decide +kernel
theorem dX4_kinds_88 : decode cX4_kinds 88 = .ok (.invokevirtual 162, 3) := by decide +kernel
theorem dX4_kinds_91 : decode cX4_kinds 91 = .ok (.ifCond .eq 10, 3) := by decide +kernel
theorem dX4_kinds_94 : decode cX4_kinds 94 = .ok (.iload_n 3, 1) := by decide +kernel
theorem dX4_kinds_95 : decode cX4_kinds 95 = .ok (.iconst 1, 1) := by decide +kernel
theorem dX4_kinds_96 : decode cX4_kinds 96 = .ok (.iload 4, 2) := by decide +kernel
theorem dX4_kinds_98 : decode cX4_kinds 98 = .ok (.ishl, 1) := by decide +kernel
theorem dX4_kinds_99 : decode cX4_kinds 99 = .ok (.ior, 1) := by decide +kernel
theorem dX4_kinds_100 : decode cX4_kinds 100 = .ok (.istore_n 3, 1) := by decide +kernel
theorem dX4_kinds_101 : decode cX4_kinds 101 = .ok (.iinc 4 1, 3) := by decide +kernel
theorem dX4_kinds_104 : decode cX4_kinds 104 = .ok (.goto (-50), 3) := by decide +kernel
theorem dX4_kinds_107 : decode cX4_kinds 107 = .ok (.iload_n 3, 1) := by decide +kernel
theorem dX4_kinds_108 : decode cX4_kinds 108 = .ok (.ireturn, 1) := by decide +kernel
theorem dX4_market_0 : decode cX4_market 0 = .ok (.iload_n 1, 1) := by decide +kernel
theorem dX4_market_1 : decode cX4_market 1 = .ok (.iconst 1, 1) := by decide +kernel
theorem dX4_market_2 : decode cX4_market 2 = .ok (.bipush 20, 2) := by decide +kernel
theorem dX4_market_4 : decode cX4_market 4 = .ok (.invokestatic 53, 3) := by decide +kernel
theorem dX4_market_7 : decode cX4_market 7 = .ok (.ifCond .ne 9, 3) := by decide +kernel
theorem dX4_market_10 : decode cX4_market 10 = .ok (.aload_n 0, 1) := by decide +kernel
theorem dX4_market_11 : decode cX4_market 11 = .ok (.iconst 0, 1) := by decide +kernel
theorem dX4_market_12 : decode cX4_market 12 = .ok (.invokevirtual 57, 3) := by decide +kernel
theorem dX4_market_15 : decode cX4_market 15 = .ok (.ireturn, 1) := by decide +kernel
theorem dX4_market_16 : decode cX4_market 16 = .ok (.aload_n 0, 1) := by decide +kernel
theorem dX4_market_17 : decode cX4_market 17 = .ok (.getfield 10, 3) := by decide +kernel
theorem dX4_market_20 : decode cX4_market 20 = .ok (.getfield 111, 3) := by decide +kernel
theorem dX4_market_23 : decode cX4_market 23 = .ok (.iload_n 1, 1) := by decide +kernel
theorem dX4_market_24 : decode cX4_market 24 = .ok (.iadd, 1) := by decide +kernel
theorem dX4_market_25 : decode cX4_market 25 = .ok (.ldc 114, 2) := by decide +kernel
theorem dX4_market_27 : decode cX4_market 27 = .ok (.if_icmp .le 9, 3) := by decide +kernel
theorem dX4_market_30 : decode cX4_market 30 = .ok (.aload_n 0, 1) := by decide +kernel
theorem dX4_market_31 : decode cX4_market 31 = .ok (.iconst 4, 1) := by decide +kernel
theorem dX4_market_32 : decode cX4_market 32 = .ok (.invokevirtual 57, 3) := by decide +kernel
theorem dX4_market_35 : decode cX4_market 35 = .ok (.ireturn, 1) := by decide +kernel
theorem dX4_market_36 : decode cX4_market 36 = .ok (.iconst 0, 1) := by decide +kernel
theorem dX4_market_37 : decode cX4_market 37 = .ok (.istore_n 2, 1) := by decide +kernel
theorem dX4_market_38 : decode cX4_market 38 = .ok (.iload_n 2, 1) := by decide +kernel
theorem dX4_market_39 : decode cX4_market 39 = .ok (.iload_n 1, 1) := by decide +kernel
theorem dX4_market_40 : decode cX4_market 40 = .ok (.if_icmp .ge 24, 3) := by decide +kernel
theorem dX4_market_43 : decode cX4_market 43 = .ok (.aload_n 0, 1) := by decide +kernel
theorem dX4_market_44 : decode cX4_market 44 = .ok (.getfield 10, 3) := by decide +kernel
theorem dX4_market_47 : decode cX4_market 47 = .ok (.invokevirtual 165, 3) := by decide +kernel
theorem dX4_market_50 : decode cX4_market 50 = .ok (.aload_n 0, 1) := by decide +kernel
theorem dX4_market_51 : decode cX4_market 51 = .ok (.getfield 10, 3) := by decide +kernel
theorem dX4_market_54 : decode cX4_market 54 = .ok (.iconst 1, 1) := by decide +kernel
theorem dX4_market_55 : decode cX4_market 55 = .ok (.invokevirtual 115, 3) := by decide +kernel
theorem dX4_market_58 : decode cX4_market 58 = .ok (.iinc 2 1, 3) := by decide +kernel
theorem dX4_market_61 : decode cX4_market 61 = .ok (.goto (-23), 3) := by decide +kernel
theorem dX4_market_64 : decode cX4_market 64 = .ok (.aload_n 0, 1) := by decide +kernel
theorem dX4_market_65 : decode cX4_market 65 = .ok (.getfield 10, 3) := by decide +kernel
theorem dX4_market_68 : decode cX4_market 68 = .ok (.getfield 119, 3) := by decide +kernel
theorem dX4_market_71 : decode cX4_market 71 = .ok (.ireturn, 1) := by decide +kernel
theorem dX4_odds_0 : decode cX4_odds 0 = .ok (.aload_n 0, 1) := by decide +kernel
theorem dX4_odds_1 : decode cX4_odds 1 = .ok (.getfield 10, 3) := by decide +kernel
theorem dX4_odds_4 : decode cX4_odds 4 = .ok (.iload_n 1, 1) := by decide +kernel
theorem dX4_odds_5 : decode cX4_odds 5 = .ok (.iload_n 2, 1) := by decide +kernel
theorem dX4_odds_6 : decode cX4_odds 6 = .ok (.invokevirtual 90, 3) := by decide +kernel
theorem dX4_odds_9 : decode cX4_odds 9 = .ok (.ifCond .eq 23, 3) := by decide +kernel
theorem dX4_odds_12 : decode cX4_odds 12 = .ok (.iload_n 3, 1) := by decide +kernel
theorem dX4_odds_13 : decode cX4_odds 13 = .ok (.iconst 0, 1) := by decide +kernel
theorem dX4_odds_14 : decode cX4_odds 14 = .ok (.bipush 14, 2) := by decide +kernel
theorem dX4_odds_16 : decode cX4_odds 16 = .ok (.invokestatic 53, 3) := by decide +kernel
theorem dX4_odds_19 : decode cX4_odds 19 = .ok (.ifCond .eq 13, 3) := by decide +kernel
theorem dX4_odds_22 : decode cX4_odds 22 = .ok (.iload 4, 2) := by decide +kernel
theorem dX4_odds_24 : decode cX4_odds 24 = .ok (.iconst 0, 1) := by decide +kernel
theorem dX4_odds_25 : decode cX4_odds 25 = .ok (.iconst 1, 1) := by decide +kernel
theorem dX4_odds_26 : decode cX4_odds 26 = .ok (.invokestatic 53, 3) := by decide +kernel
theorem dX4_odds_29 : decode cX4_odds 29 = .ok (.ifCond .ne 10, 3) := by decide +kernel
theorem dX4_odds_32 : decode cX4_odds 32 = .ok (.aload_n 0, 1) := by decide +kernel
theorem dX4_odds_33 : decode cX4_odds 33 = .ok (.iconst 0, 1) := by decide +kernel
theorem dX4_odds_34 : decode cX4_odds 34 = .ok (.invokevirtual 57, 3) := by decide +kernel
theorem dX4_odds_37 : decode cX4_odds 37 = .ok (.i2l, 1) := by decide +kernel
theorem dX4_odds_38 : decode cX4_odds 38 = .ok (.lreturn, 1) := by decide +kernel
theorem dX4_odds_39 : decode cX4_odds 39 = .ok (.aload_n 0, 1) := by decide +kernel
theorem dX4_odds_40 : decode cX4_odds 40 = .ok (.getfield 10, 3) := by decide +kernel
theorem dX4_odds_43 : decode cX4_odds 43 = .ok (.iload_n 1, 1) := by decide +kernel
theorem dX4_odds_44 : decode cX4_odds 44 = .ok (.iload_n 2, 1) := by decide +kernel
theorem dX4_odds_45 : decode cX4_odds 45 = .ok (.invokevirtual 168, 3) := by decide +kernel
theorem dX4_odds_48 : decode cX4_odds 48 = .ok (.istore 5, 2) := by decide +kernel
theorem dX4_odds_50 : decode cX4_odds 50 = .ok (.iload 5, 2) := by decide +kernel
theorem dX4_odds_52 : decode cX4_odds 52 = .ok (.bipush 20, 2) := by decide +kernel
theorem dX4_odds_54 : decode cX4_odds 54 = .ok (.invokestatic 171, 3) := by decide +kernel
theorem dX4_odds_57 : decode cX4_odds 57 = .ok (.istore 6, 2) := by decide +kernel
theorem dX4_odds_59 : decode cX4_odds 59 = .ok (.iload 4, 2) := by decide +kernel
theorem dX4_odds_61 : decode cX4_odds 61 = .ok (.ifCond .ne 8, 3) := by decide +kernel
theorem dX4_odds_64 : decode cX4_odds 64 = .ok (.iload 5, 2) := by decide +kernel
theorem dX4_odds_66 : decode cX4_odds 66 = .ok (.goto 5, 3) := by decide +kernel
theorem dX4_odds_69 : decode cX4_odds 69 = .ok (.bipush 20, 2) := by decide +kernel
theorem dX4_odds_71 : decode cX4_odds 71 = .ok (.istore 7, 2) := by decide +kernel
theorem dX4_odds_73 : decode cX4_odds 73 = .ok (.iload 7, 2) := by decide +kernel
theorem dX4_odds_75 : decode cX4_odds 75 = .ok (.iload 6, 2) := by decide +kernel
theorem dX4_odds_77 : decode cX4_odds 77 = .ok (.idiv, 1) := by decide +kernel
theorem dX4_odds_78 : decode cX4_odds 78 = .ok (.iload_n 3, 1) := by decide +kernel
theorem dX4_odds_79 : decode cX4_odds 79 = .ok (.invokestatic 174, 3) := by decide +kernel
theorem dX4_odds_82 : decode cX4_odds 82 = .ok (.lreturn, 1) := by decide +kernel
theorem dX4_seed_0 : decode cX4_seed 0 = .ok (.aload_n 0, 1) := by decide +kernel
theorem dX4_seed_1 : decode cX4_seed 1 = .ok (.getfield 10, 3) := by decide +kernel
theorem dX4_seed_4 : decode cX4_seed 4 = .ok (.getfield 178, 3) := by decide +kernel
theorem dX4_seed_7 : decode cX4_seed 7 = .ok (.istore_n 2, 1) := by decide +kernel
theorem dX4_seed_8 : decode cX4_seed 8 = .ok (.aload_n 0, 1) := by decide +kernel
theorem dX4_seed_9 : decode cX4_seed 9 = .ok (.getfield 10, 3) := by decide +kernel
theorem dX4_seed_12 : decode cX4_seed 12 = .ok (.iload_n 1, 1) := by decide +kernel
theorem dX4_seed_13 : decode cX4_seed 13 = .ok (.putfield 178, 3) := by decide +kernel
theorem dX4_seed_16 : decode cX4_seed 16 = .ok (.iload_n 2, 1) := by decide +kernel
theorem dX4_seed_17 : decode cX4_seed 17 = .ok (.ireturn, 1) := by decide +kernel
theorem dX4_feed_0 : decode cX4_feed 0 = .ok (.iload_n 2, 1) := by decide +kernel
theorem dX4_feed_1 : decode cX4_feed 1 = .ok (.iconst 1, 1) := by decide +kernel
theorem dX4_feed_2 : decode cX4_feed 2 = .ok (.iconst 4, 1) := by decide +kernel
theorem dX4_feed_3 : decode cX4_feed 3 = .ok (.invokestatic 53, 3) := by decide +kernel
theorem dX4_feed_6 : decode cX4_feed 6 = .ok (.ifCond .ne 9, 3) := by decide +kernel
theorem dX4_feed_9 : decode cX4_feed 9 = .ok (.aload_n 0, 1) := by decide +kernel
theorem dX4_feed_10 : decode cX4_feed 10 = .ok (.iconst 0, 1) := by decide +kernel
theorem dX4_feed_11 : decode cX4_feed 11 = .ok (.invokevirtual 57, 3) := by decide +kernel
theorem dX4_feed_14 : decode cX4_feed 14 = .ok (.ireturn, 1) := by decide +kernel
theorem dX4_feed_15 : decode cX4_feed 15 = .ok (.aload_n 0, 1) := by decide +kernel
theorem dX4_feed_16 : decode cX4_feed 16 = .ok (.getfield 29, 3) := by decide +kernel
theorem dX4_feed_19 : decode cX4_feed 19 = .ok (.getfield 181, 3) := by decide +kernel
theorem dX4_feed_22 : decode cX4_feed 22 = .ok (.iload_n 2, 1) := by decide +kernel
theorem dX4_feed_23 : decode cX4_feed 23 = .ok (.iadd, 1) := by decide +kernel
theorem dX4_feed_24 : decode cX4_feed 24 = .ok (.bipush 120, 2) := by decide +kernel
theorem dX4_feed_26 : decode cX4_feed 26 = .ok (.if_icmp .le 9, 3) := by decide +kernel
theorem dX4_feed_29 : decode cX4_feed 29 = .ok (.aload_n 0, 1) := by decide +kernel
theorem dX4_feed_30 : decode cX4_feed 30 = .ok (.iconst 1, 1) := by decide +kernel
theorem dX4_feed_31 : decode cX4_feed 31 = .ok (.invokevirtual 57, 3) := by decide +kernel
theorem dX4_feed_34 : decode cX4_feed 34 = .ok (.ireturn, 1) := by decide +kernel
theorem dX4_feed_35 : decode cX4_feed 35 = .ok (.iload_n 2, 1) := by decide +kernel
theorem dX4_feed_36 : decode cX4_feed 36 = .ok (.iconst 1, 1) := by decide +kernel
theorem dX4_feed_37 : decode cX4_feed 37 = .ok (.isub, 1) := by decide +kernel
theorem dX4_feed_38 : decode cX4_feed 38 = .ok (.istore_n 3, 1) := by decide +kernel
theorem dX4_feed_39 : decode cX4_feed 39 = .ok (.iload_n 3, 1) := by decide +kernel
theorem dX4_feed_40 : decode cX4_feed 40 = .ok (.ifCond .lt 26, 3) := by decide +kernel
theorem dX4_feed_43 : decode cX4_feed 43 = .ok (.aload_n 0, 1) := by decide +kernel
theorem dX4_feed_44 : decode cX4_feed 44 = .ok (.getfield 29, 3) := by decide +kernel
theorem dX4_feed_47 : decode cX4_feed 47 = .ok (.iload_n 1, 1) := by decide +kernel
theorem dX4_feed_48 : decode cX4_feed 48 = .ok (.bipush 8, 2) := by decide +kernel
theorem dX4_feed_50 : decode cX4_feed 50 = .ok (.iload_n 3, 1) := by decide +kernel
theorem dX4_feed_51 : decode cX4_feed 51 = .ok (.imul, 1) := by decide +kernel
theorem dX4_feed_52 : decode cX4_feed 52 = .ok (.iushr, 1) := by decide +kernel
theorem dX4_feed_53 : decode cX4_feed 53 = .ok (.sipush 255, 3) := by decide +kernel
theorem dX4_feed_56 : decode cX4_feed 56 = .ok (.iand, 1) := by decide +kernel
theorem dX4_feed_57 : decode cX4_feed 57 = .ok (.invokevirtual 184, 3) := by decide +kernel
theorem dX4_feed_60 : decode cX4_feed 60 = .ok (.iinc 3 (-1), 3) := by decide +kernel
theorem dX4_feed_63 : decode cX4_feed 63 = .ok (.goto (-24), 3) := by decide +kernel
theorem dX4_feed_66 : decode cX4_feed 66 = .ok (.aload_n 0, 1) := by decide +kernel
theorem dX4_feed_67 : decode cX4_feed 67 = .ok (.getfield 29, 3) := by decide +kernel
theorem dX4_feed_70 : decode cX4_feed 70 = .ok (.getfield 181, 3) := by decide +kernel
theorem dX4_feed_73 : decode cX4_feed 73 = .ok (.ireturn, 1) := by decide +kernel
theorem dX4_wipe_0 : decode cX4_wipe 0 = .ok (.aload_n 0, 1) := by decide +kernel
theorem dX4_wipe_1 : decode cX4_wipe 1 = .ok (.getfield 29, 3) := by decide +kernel
theorem dX4_wipe_4 : decode cX4_wipe 4 = .ok (.getfield 181, 3) := by decide +kernel
theorem dX4_wipe_7 : decode cX4_wipe 7 = .ok (.istore_n 1, 1) := by decide +kernel
theorem dX4_wipe_8 : decode cX4_wipe 8 = .ok (.aload_n 0, 1) := by decide +kernel
theorem dX4_wipe_9 : decode cX4_wipe 9 = .ok (.getfield 29, 3) := by decide +kernel
theorem dX4_wipe_12 : decode cX4_wipe 12 = .ok (.iconst 0, 1) := by decide +kernel
theorem dX4_wipe_13 : decode cX4_wipe 13 = .ok (.putfield 181, 3) := by decide +kernel
theorem dX4_wipe_16 : decode cX4_wipe 16 = .ok (.iload_n 1, 1) := by decide +kernel
theorem dX4_wipe_17 : decode cX4_wipe 17 = .ok (.ireturn, 1) := by decide +kernel
theorem dX4_text_0 : decode cX4_text 0 = .ok (.aload_n 0, 1) := by decide +kernel
theorem dX4_text_1 : decode cX4_text 1 = .ok (.getfield 16, 3) := by decide +kernel
theorem dX4_text_4 : decode cX4_text 4 = .ok (.aload_n 0, 1) := by decide +kernel
theorem dX4_text_5 : decode cX4_text 5 = .ok (.getfield 10, 3) := by decide +kernel
theorem dX4_text_8 : decode cX4_text 8 = .ok (.invokevirtual 138, 3) := by decide +kernel
theorem dX4_text_11 : decode cX4_text 11 = .ok (.aload_n 0, 1) := by decide +kernel
theorem dX4_text_12 : decode cX4_text 12 = .ok (.getfield 38, 3) := by decide +kernel
theorem dX4_text_15 : decode cX4_text 15 = .ok (.invokevirtual 187, 3) := by decide +kernel
theorem dX4_text_18 : decode cX4_text 18 = .ok (.aload_n 0, 1) := by decide +kernel
theorem dX4_text_19 : decode cX4_text 19 = .ok (.getfield 38, 3) := by decide +kernel
theorem dX4_text_22 : decode cX4_text 22 = .ok (.invokevirtual 190, 3) := by decide +kernel
theorem dX4_text_25 : decode cX4_text 25 = .ok (.istore_n 1, 1) := by decide +kernel
theorem dX4_text_26 : decode cX4_text 26 = .ok (.aload_n 0, 1) := by decide +kernel
theorem dX4_text_27 : decode cX4_text 27 = .ok (.getfield 29, 3) := by decide +kernel
theorem dX4_text_30 : decode cX4_text 30 = .ok (.iconst 0, 1) := by decide +kernel
theorem dX4_text_31 : decode cX4_text 31 = .ok (.putfield 181, 3) := by decide +kernel
theorem dX4_text_34 : decode cX4_text 34 = .ok (.aload_n 0, 1) := by decide +kernel
theorem dX4_text_35 : decode cX4_text 35 = .ok (.getfield 38, 3) := by decide +kernel
theorem dX4_text_38 : decode cX4_text 38 = .ok (.invokevirtual 193, 3) := by decide +kernel
theorem dX4_text_41 : decode cX4_text 41 = .ok (.ifCond .eq 13, 3) := by decide +kernel
theorem dX4_text_44 : decode cX4_text 44 = .ok (.iconst (-1), 1) := by decide +kernel
theorem dX4_text_45 : decode cX4_text 45 = .ok (.aload_n 0, 1) := by decide +kernel
theorem dX4_text_46 : decode cX4_text 46 = .ok (.getfield 38, 3) := by decide +kernel
theorem dX4_text_49 : decode cX4_text 49 = .ok (.getfield 196, 3) := by decide +kernel
theorem dX4_text_52 : decode cX4_text 52 = .ok (.isub, 1) := by decide +kernel
theorem dX4_text_53 : decode cX4_text 53 = .ok (.ireturn, 1) := by decide +kernel
theorem dX4_text_54 : decode cX4_text 54 = .ok (.aload_n 0, 1) := by decide +kernel
theorem dX4_text_55 : decode cX4_text 55 = .ok (.getfield 10, 3) := by decide +kernel
theorem dX4_text_58 : decode cX4_text 58 = .ok (.aload_n 0, 1) := by decide +kernel
theorem dX4_text_59 : decode cX4_text 59 = .ok (.getfield 16, 3) := by decide +kernel
theorem dX4_text_62 : decode cX4_text 62 = .ok (.invokevirtual 138, 3) := by decide +kernel
theorem dX4_text_65 : decode cX4_text 65 = .ok (.iload_n 1, 1) := by decide +kernel
theorem dX4_text_66 : decode cX4_text 66 = .ok (.ireturn, 1) := by decide +kernel
theorem dX4_hold_0 : decode cX4_hold 0 = .ok (.iload_n 1, 1) := by decide +kernel
theorem dX4_hold_1 : decode cX4_hold 1 = .ok (.iconst 0, 1) := by decide +kernel
theorem dX4_hold_2 : decode cX4_hold 2 = .ok (.bipush 9, 2) := by decide +kernel
theorem dX4_hold_4 : decode cX4_hold 4 = .ok (.invokestatic 53, 3) := by decide +kernel
theorem dX4_hold_7 : decode cX4_hold 7 = .ok (.ifCond .eq 19, 3) := by decide +kernel
theorem dX4_hold_10 : decode cX4_hold 10 = .ok (.iload_n 2, 1) := by decide +kernel
theorem dX4_hold_11 : decode cX4_hold 11 = .ok (.iconst (-1), 1) := by decide +kernel
theorem dX4_hold_12 : decode cX4_hold 12 = .ok (.if_icmp .eq 20, 3) := by decide +kernel
theorem dX4_hold_15 : decode cX4_hold 15 = .ok (.aload_n 0, 1) := by decide +kernel
theorem dX4_hold_16 : decode cX4_hold 16 = .ok (.getfield 10, 3) := by decide +kernel
theorem dX4_hold_19 : decode cX4_hold 19 = .ok (.iload_n 2, 1) := by decide +kernel
theorem dX4_hold_20 : decode cX4_hold 20 = .ok (.invokevirtual 76, 3) := by decide +kernel
theorem dX4_hold_23 : decode cX4_hold 23 = .ok (.ifCond .ne 9, 3) := by decide +kernel
theorem dX4_hold_26 : decode cX4_hold 26 = .ok (.aload_n 0, 1) := by decide +kernel
theorem dX4_hold_27 : decode cX4_hold 27 = .ok (.iconst 0, 1) := by decide +kernel
theorem dX4_hold_28 : decode cX4_hold 28 = .ok (.invokevirtual 57, 3) := by decide +kernel
theorem dX4_hold_31 : decode cX4_hold 31 = .ok (.ireturn, 1) := by decide +kernel
theorem dX4_hold_32 : decode cX4_hold 32 = .ok (.aload_n 0, 1) := by decide +kernel
theorem dX4_hold_33 : decode cX4_hold 33 = .ok (.getfield 10, 3) := by decide +kernel
theorem dX4_hold_36 : decode cX4_hold 36 = .ok (.getfield 199, 3) := by decide +kernel
theorem dX4_hold_39 : decode cX4_hold 39 = .ok (.iload_n 1, 1) := by decide +kernel
theorem dX4_hold_40 : decode cX4_hold 40 = .ok (.iload_n 2, 1) := by decide +kernel
theorem dX4_hold_41 : decode cX4_hold 41 = .ok (.iastore, 1) := by decide +kernel
theorem dX4_hold_42 : decode cX4_hold 42 = .ok (.iconst 1, 1) := by decide +kernel
theorem dX4_hold_43 : decode cX4_hold 43 = .ok (.ireturn, 1) := by decide +kernel
theorem dX4_as_0 : decode cX4_as 0 = .ok (.iload_n 1, 1) := by decide +kernel
theorem dX4_as_1 : decode cX4_as 1 = .ok (.iconst 0, 1) := by decide +kernel
theorem dX4_as_2 : decode cX4_as 2 = .ok (.bipush 9, 2) := by decide +kernel
theorem dX4_as_4 : decode cX4_as 4 = .ok (.invokestatic 53, 3) := by decide +kernel
theorem dX4_as_7 : decode cX4_as 7 = .ok (.ifCond .eq 13, 3) := by decide +kernel
theorem dX4_as_10 : decode cX4_as 10 = .ok (.iload_n 2, 1) := by decide +kernel
theorem dX4_as_11 : decode cX4_as 11 = .ok (.iconst 0, 1) := by decide +kernel
theorem dX4_as_12 : decode cX4_as 12 = .ok (.bipush 6, 2) := by decide +kernel
theorem dX4_as_14 : decode cX4_as 14 = .ok (.invokestatic 53, 3) := by decide +kernel
theorem dX4_as_17 : decode cX4_as 17 = .ok (.ifCond .ne 9, 3) := by decide +kernel
theorem dX4_as_20 : decode cX4_as 20 = .ok (.aload_n 0, 1) := by decide +kernel
theorem dX4_as_21 : decode cX4_as 21 = .ok (.iconst 0, 1) := by decide +kernel
theorem dX4_as_22 : decode cX4_as 22 = .ok (.invokevirtual 57, 3) := by decide +kernel
theorem dX4_as_25 : decode cX4_as 25 = .ok (.ireturn, 1) := by decide +kernel
theorem dX4_as_26 : decode cX4_as 26 = .ok (.aload_n 0, 1) := by decide +kernel
theorem dX4_as_27 : decode cX4_as 27 = .ok (.getfield 10, 3) := by decide +kernel
theorem dX4_as_30 : decode cX4_as 30 = .ok (.getfield 199, 3) := by decide +kernel
theorem dX4_as_33 : decode cX4_as 33 = .ok (.iload_n 1, 1) := by decide +kernel
theorem dX4_as_34 : decode cX4_as 34 = .ok (.iaload, 1) := by decide +kernel
theorem dX4_as_35 : decode cX4_as 35 = .ok (.istore_n 3, 1) := by decide +kernel
theorem dX4_as_36 : decode cX4_as 36 = .ok (.aload_n 0, 1) := by decide +kernel
theorem dX4_as_37 : decode cX4_as 37 = .ok (.getfield 10, 3) := by decide +kernel
theorem dX4_as_40 : decode cX4_as 40 = .ok (.iload_n 3, 1) := by decide +kernel
theorem dX4_as_41 : decode cX4_as 41 = .ok (.invokevirtual 76, 3) := by decide +kernel
theorem dX4_as_44 : decode cX4_as 44 = .ok (.ifCond .ne 9, 3) := by decide +kernel
theorem dX4_as_47 : decode cX4_as 47 = .ok (.aload_n 0, 1) := by decide +kernel
theorem dX4_as_48 : decode cX4_as 48 = .ok (.iconst 5, 1) := by decide +kernel
theorem dX4_as_49 : decode cX4_as 49 = .ok (.invokevirtual 57, 3) := by decide +kernel
theorem dX4_as_52 : decode cX4_as 52 = .ok (.ireturn, 1) := by decide +kernel
theorem dX4_as_53 : decode cX4_as 53 = .ok (.aload_n 0, 1) := by decide +kernel
theorem dX4_as_54 : decode cX4_as 54 = .ok (.getfield 10, 3) := by decide +kernel
theorem dX4_as_57 : decode cX4_as 57 = .ok (.getfield 87, 3) := by decide +kernel
theorem dX4_as_60 : decode cX4_as 60 = .ok (.iconst 0, 1) := by decide +kernel
theorem dX4_as_61 : decode cX4_as 61 = .ok (.iload_n 3, 1) := by decide +kernel
theorem dX4_as_62 : decode cX4_as 62 = .ok (.iadd, 1) := by decide +kernel
theorem dX4_as_63 : decode cX4_as 63 = .ok (.iaload, 1) := by decide +kernel
theorem dX4_as_64 : decode cX4_as 64 = .ok (.iload_n 2, 1) := by decide +kernel
theorem dX4_as_65 : decode cX4_as 65 = .ok (.invokestatic 202, 3) := by decide +kernel
theorem dX4_as_68 : decode cX4_as 68 = .ok (.ifCond .ne 9, 3) := by decide +kernel
theorem dX4_as_71 : decode cX4_as 71 = .ok (.aload_n 0, 1) := by decide +kernel
theorem dX4_as_72 : decode cX4_as 72 = .ok (.iconst 2, 1) := by decide +kernel
theorem dX4_as_73 : decode cX4_as 73 = .ok (.invokevirtual 57, 3) := by decide +kernel
theorem dX4_as_76 : decode cX4_as 76 = .ok (.ireturn, 1) := by decide +kernel
theorem dX4_as_77 : decode cX4_as 77 = .ok (.iload_n 3, 1) := by decide +kernel
theorem dX4_as_78 : decode cX4_as 78 = .ok (.ireturn, 1) := by decide +kernel
theorem dX4_sheet_0 : decode cX4_sheet 0 = .ok (.iload_n 2, 1) := by decide +kernel
theorem dX4_sheet_1 : decode cX4_sheet 1 = .ok (.ifCond .eq 21, 3) := by decide +kernel
theorem dX4_sheet_4 : decode cX4_sheet 4 = .ok (.iload_n 2, 1) := by decide +kernel
theorem dX4_sheet_5 : decode cX4_sheet 5 = .ok (.bipush 8, 2) := by decide +kernel
theorem dX4_sheet_7 : decode cX4_sheet 7 = .ok (.if_icmp .eq 15, 3) := by decide +kernel
theorem dX4_sheet_10 : decode cX4_sheet 10 = .ok (.iload_n 2, 1) := by decide +kernel
theorem dX4_sheet_11 : decode cX4_sheet 11 = .ok (.bipush 16, 2) := by decide +kernel
theorem dX4_sheet_13 : decode cX4_sheet 13 = .ok (.if_icmp .eq 9, 3) := by decide +kernel
theorem dX4_sheet_16 : decode cX4_sheet 16 = .ok (.iload_n 2, 1) := by decide +kernel
theorem dX4_sheet_17 : decode cX4_sheet 17 = .ok (.bipush 32, 2) := by decide +kernel
theorem dX4_sheet_19 : decode cX4_sheet 19 = .ok (.if_icmp .ne 7, 3) := by decide +kernel
theorem dX4_sheet_22 : decode cX4_sheet 22 = .ok (.iconst 1, 1) := by decide +kernel
theorem dX4_sheet_23 : decode cX4_sheet 23 = .ok (.goto 4, 3) := by decide +kernel
theorem dX4_sheet_26 : decode cX4_sheet 26 = .ok (.iconst 0, 1) := by decide +kernel
theorem dX4_sheet_27 : decode cX4_sheet 27 = .ok (.istore 4, 2) := by decide +kernel
theorem dX4_sheet_29 : decode cX4_sheet 29 = .ok (.iload_n 1, 1) := by decide +kernel
theorem dX4_sheet_30 : decode cX4_sheet 30 = .ok (.iconst 0, 1) := by decide +kernel
theorem dX4_sheet_31 : decode cX4_sheet 31 = .ok (.iconst 3, 1) := by decide +kernel
theorem dX4_sheet_32 : decode cX4_sheet 32 = .ok (.invokestatic 53, 3) := by decide +kernel
theorem dX4_sheet_35 : decode cX4_sheet 35 = .ok (.ifCond .eq 8, 3) := by decide +kernel
theorem dX4_sheet_38 : decode cX4_sheet 38 = .ok (.iload 4, 2) := by decide +kernel
theorem dX4_sheet_40 : decode cX4_sheet 40 = .ok (.ifCond .ne 9, 3) := by decide +kernel
theorem dX4_sheet_43 : decode cX4_sheet 43 = .ok (.aload_n 0, 1) := by decide +kernel
theorem dX4_sheet_44 : decode cX4_sheet 44 = .ok (.iconst 0, 1) := by decide +kernel
theorem dX4_sheet_45 : decode cX4_sheet 45 = .ok (.invokevirtual 57, 3) := by decide +kernel
theorem dX4_sheet_48 : decode cX4_sheet 48 = .ok (.ireturn, 1) := by decide +kernel
theorem dX4_sheet_49 : decode cX4_sheet 49 = .ok (.iload_n 3, 1) := by decide +kernel
theorem dX4_sheet_50 : decode cX4_sheet 50 = .ok (.ifCond .ge 10, 3) := by decide +kernel
theorem dX4_sheet_53 : decode cX4_sheet 53 = .ok (.aload_n 0, 1) := by decide +kernel
theorem dX4_sheet_54 : decode cX4_sheet 54 = .ok (.bipush 6, 2) := by decide +kernel
theorem dX4_sheet_56 : decode cX4_sheet 56 = .ok (.invokevirtual 57, 3) := by decide +kernel
theorem dX4_sheet_59 : decode cX4_sheet 59 = .ok (.ireturn, 1) := by decide +kernel
theorem dX4_sheet_60 : decode cX4_sheet 60 = .ok (.iload_n 3, 1) := by decide +kernel
theorem dX4_sheet_61 : decode cX4_sheet 61 = .ok (.bipush 40, 2) := by decide +kernel
theorem dX4_sheet_63 : decode cX4_sheet 63 = .ok (.if_icmp .le 9, 3) := by decide +kernel
theorem dX4_sheet_66 : decode cX4_sheet 66 = .ok (.aload_n 0, 1) := by decide +kernel
theorem dX4_sheet_67 : decode cX4_sheet 67 = .ok (.iconst 0, 1) := by decide +kernel
theorem dX4_sheet_68 : decode cX4_sheet 68 = .ok (.invokevirtual 57, 3) := by decide +kernel
theorem dX4_sheet_71 : decode cX4_sheet 71 = .ok (.ireturn, 1) := by decide +kernel
theorem dX4_sheet_72 : decode cX4_sheet 72 = .ok (.iload_n 2, 1) := by decide +kernel
theorem dX4_sheet_73 : decode cX4_sheet 73 = .ok (.ifCond .ne 7, 3) := by decide +kernel
theorem dX4_sheet_76 : decode cX4_sheet 76 = .ok (.iconst 0, 1) := by decide +kernel
theorem dX4_sheet_77 : decode cX4_sheet 77 = .ok (.goto 4, 3) := by decide +kernel
theorem dX4_sheet_80 : decode cX4_sheet 80 = .ok (.iload_n 3, 1) := by decide +kernel
theorem dX4_sheet_81 : decode cX4_sheet 81 = .ok (.istore 5, 2) := by decide +kernel
theorem dX4_sheet_83 : decode cX4_sheet 83 = .ok (.aload_n 0, 1) := by decide +kernel
theorem dX4_sheet_84 : decode cX4_sheet 84 = .ok (.getfield 45, 3) := by decide +kernel
theorem dX4_sheet_87 : decode cX4_sheet 87 = .ok (.iload_n 1, 1) := by decide +kernel
theorem dX4_sheet_88 : decode cX4_sheet 88 = .ok (.iload_n 2, 1) := by decide +kernel
theorem dX4_sheet_89 : decode cX4_sheet 89 = .ok (.iload 5, 2) := by decide +kernel
theorem dX4_sheet_91 : decode cX4_sheet 91 = .ok (.invokevirtual 205, 3) := by decide +kernel
theorem dX4_sheet_94 : decode cX4_sheet 94 = .ok (.iload 5, 2) := by decide +kernel
theorem dX4_sheet_96 : decode cX4_sheet 96 = .ok (.ireturn, 1) := by decide +kernel
theorem dX4_write_0 : decode cX4_write 0 = .ok (.iload_n 1, 1) := by decide +kernel
theorem dX4_write_1 : decode cX4_write 1 = .ok (.iconst 0, 1) := by decide +kernel
theorem dX4_write_2 : decode cX4_write 2 = .ok (.iconst 3, 1) := by decide +kernel
theorem dX4_write_3 : decode cX4_write 3 = .ok (.invokestatic 53, 3) := by decide +kernel
theorem dX4_write_6 : decode cX4_write 6 = .ok (.ifCond .ne 9, 3) := by decide +kernel
theorem dX4_write_9 : decode cX4_write 9 = .ok (.aload_n 0, 1) := by decide +kernel
theorem dX4_write_10 : decode cX4_write 10 = .ok (.iconst 0, 1) := by decide +kernel
theorem dX4_write_11 : decode cX4_write 11 = .ok (.invokevirtual 57, 3) := by decide +kernel
theorem dX4_write_14 : decode cX4_write 14 = .ok (.ireturn, 1) := by decide +kernel
theorem dX4_write_15 : decode cX4_write 15 = .ok (.aload_n 0, 1) := by decide +kernel
theorem dX4_write_16 : decode cX4_write 16 = .ok (.getfield 45, 3) := by decide +kernel
theorem dX4_write_19 : decode cX4_write 19 = .ok (.iload_n 1, 1) := by decide +kernel
theorem dX4_write_20 : decode cX4_write 20 = .ok (.invokevirtual 156, 3) := by decide +kernel
theorem dX4_write_23 : decode cX4_write 23 = .ok (.ifCond .eq 9, 3) := by decide +kernel
theorem dX4_write_26 : decode cX4_write 26 = .ok (.aload_n 0, 1) := by decide +kernel
theorem dX4_write_27 : decode cX4_write 27 = .ok (.iconst 5, 1) := by decide +kernel
theorem dX4_write_28 : decode cX4_write 28 = .ok (.invokevirtual 57, 3) := by decide +kernel
theorem dX4_write_31 : decode cX4_write 31 = .ok (.ireturn, 1) := by decide +kernel
theorem dX4_write_32 : decode cX4_write 32 = .ok (.iload_n 2, 1) := by decide +kernel
theorem dX4_write_33 : decode cX4_write 33 = .ok (.iconst 0, 1) := by decide +kernel
theorem dX4_write_34 : decode cX4_write 34 = .ok (.aload_n 0, 1) := by decide +kernel
theorem dX4_write_35 : decode cX4_write 35 = .ok (.getfield 45, 3) := by decide +kernel
theorem dX4_write_38 : decode cX4_write 38 = .ok (.getfield 208, 3) := by decide +kernel
theorem dX4_write_41 : decode cX4_write 41 = .ok (.iload_n 1, 1) := by decide +kernel
theorem dX4_write_42 : decode cX4_write 42 = .ok (.iaload, 1) := by decide +kernel
theorem dX4_write_43 : decode cX4_write 43 = .ok (.iconst 1, 1) := by decide +kernel
theorem dX4_write_44 : decode cX4_write 44 = .ok (.isub, 1) := by decide +kernel
theorem dX4_write_45 : decode cX4_write 45 = .ok (.invokestatic 53, 3) := by decide +kernel
theorem dX4_write_48 : decode cX4_write 48 = .ok (.ifCond .ne 9, 3) := by decide +kernel
theorem dX4_write_51 : decode cX4_write 51 = .ok (.aload_n 0, 1) := by decide +kernel
theorem dX4_write_52 : decode cX4_write 52 = .ok (.iconst 0, 1) := by decide +kernel
theorem dX4_write_53 : decode cX4_write 53 = .ok (.invokevirtual 57, 3) := by decide +kernel
theorem dX4_write_56 : decode cX4_write 56 = .ok (.ireturn, 1) := by decide +kernel
theorem dX4_write_57 : decode cX4_write 57 = .ok (.aload_n 0, 1) := by decide +kernel
theorem dX4_write_58 : decode cX4_write 58 = .ok (.getfield 45, 3) := by decide +kernel
theorem dX4_write_61 : decode cX4_write 61 = .ok (.iload_n 1, 1) := by decide +kernel
theorem dX4_write_62 : decode cX4_write 62 = .ok (.iload_n 2, 1) := by decide +kernel
theorem dX4_write_63 : decode cX4_write 63 = .ok (.iload_n 3, 1) := by decide +kernel
theorem dX4_write_64 : decode cX4_write 64 = .ok (.invokevirtual 211, 3) := by decide +kernel
theorem dX4_write_67 : decode cX4_write 67 = .ok (.iconst 1, 1) := by decide +kernel
theorem dX4_write_68 : decode cX4_write 68 = .ok (.ireturn, 1) := by decide +kernel
theorem dX4_copy_0 : decode cX4_copy 0 = .ok (.iload_n 1, 1) := by decide +kernel
theorem dX4_copy_1 : decode cX4_copy 1 = .ok (.iconst 0, 1) := by decide +kernel
theorem dX4_copy_2 : decode cX4_copy 2 = .ok (.iconst 3, 1) := by decide +kernel
theorem dX4_copy_3 : decode cX4_copy 3 = .ok (.invokestatic 53, 3) := by decide +kernel
theorem dX4_copy_6 : decode cX4_copy 6 = .ok (.ifCond .eq 12, 3) := by decide +kernel
theorem dX4_copy_9 : decode cX4_copy 9 = .ok (.iload_n 3, 1) := by decide +kernel
theorem dX4_copy_10 : decode cX4_copy 10 = .ok (.iconst 0, 1) := by decide +kernel
theorem dX4_copy_11 : decode cX4_copy 11 = .ok (.iconst 3, 1) := by decide +kernel
theorem dX4_copy_12 : decode cX4_copy 12 = .ok (.invokestatic 53, 3) := by decide +kernel
theorem dX4_copy_15 : decode cX4_copy 15 = .ok (.ifCond .ne 9, 3) := by decide +kernel
theorem dX4_copy_18 : decode cX4_copy 18 = .ok (.aload_n 0, 1) := by decide +kernel
theorem dX4_copy_19 : decode cX4_copy 19 = .ok (.iconst 0, 1) := by decide +kernel
theorem dX4_copy_20 : decode cX4_copy 20 = .ok (.invokevirtual 57, 3) := by decide +kernel
theorem dX4_copy_23 : decode cX4_copy 23 = .ok (.ireturn, 1) := by decide +kernel
theorem dX4_copy_24 : decode cX4_copy 24 = .ok (.aload_n 0, 1) := by decide +kernel
theorem dX4_copy_25 : decode cX4_copy 25 = .ok (.getfield 45, 3) := by decide +kernel
theorem dX4_copy_28 : decode cX4_copy 28 = .ok (.iload_n 1, 1) := by decide +kernel
theorem dX4_copy_29 : decode cX4_copy 29 = .ok (.invokevirtual 156, 3) := by decide +kernel
theorem dX4_copy_32 : decode cX4_copy 32 = .ok (.ifCond .ne 14, 3) := by decide +kernel
theorem dX4_copy_35 : decode cX4_copy 35 = .ok (.aload_n 0, 1) := by decide +kernel
theorem dX4_copy_36 : decode cX4_copy 36 = .ok (.getfield 45, 3) := by decide +kernel
theorem dX4_copy_39 : decode cX4_copy 39 = .ok (.iload_n 3, 1) := by decide +kernel
theorem dX4_copy_40 : decode cX4_copy 40 = .ok (.invokevirtual 156, 3) := by decide +kernel
theorem dX4_copy_43 : decode cX4_copy 43 = .ok (.ifCond .eq 9, 3) := by decide +kernel
theorem dX4_copy_46 : decode cX4_copy 46 = .ok (.aload_n 0, 1) := by decide +kernel
theorem dX4_copy_47 : decode cX4_copy 47 = .ok (.iconst 5, 1) := by decide +kernel
theorem dX4_copy_48 : decode cX4_copy 48 = .ok (.invokevirtual 57, 3) := by decide +kernel
theorem dX4_copy_51 : decode cX4_copy 51 = .ok (.ireturn, 1) := by decide +kernel
theorem dX4_copy_52 : decode cX4_copy 52 = .ok (.aload_n 0, 1) := by decide +kernel
theorem dX4_copy_53 : decode cX4_copy 53 = .ok (.getfield 45, 3) := by decide +kernel
theorem dX4_copy_56 : decode cX4_copy 56 = .ok (.getfield 214, 3) := by decide +kernel
theorem dX4_copy_59 : decode cX4_copy 59 = .ok (.iload_n 1, 1) := by decide +kernel
theorem dX4_copy_60 : decode cX4_copy 60 = .ok (.iaload, 1) := by decide +kernel
theorem dX4_copy_61 : decode cX4_copy 61 = .ok (.aload_n 0, 1) := by decide +kernel
theorem dX4_copy_62 : decode cX4_copy 62 = .ok (.getfield 45, 3) := by decide +kernel
theorem dX4_copy_65 : decode cX4_copy 65 = .ok (.getfield 214, 3) := by decide +kernel
theorem dX4_copy_68 : decode cX4_copy 68 = .ok (.iload_n 3, 1) := by decide +kernel
theorem dX4_copy_69 : decode cX4_copy 69 = .ok (.iaload, 1) := by decide +kernel
theorem dX4_copy_70 : decode cX4_copy 70 = .ok (.if_icmp .eq 9, 3) := by decide +kernel
theorem dX4_copy_73 : decode cX4_copy 73 = .ok (.aload_n 0, 1) := by decide +kernel
theorem dX4_copy_74 : decode cX4_copy 74 = .ok (.iconst 2, 1) := by decide +kernel
theorem dX4_copy_75 : decode cX4_copy 75 = .ok (.invokevirtual 57, 3) := by decide +kernel
theorem dX4_copy_78 : decode cX4_copy 78 = .ok (.ireturn, 1) := by decide +kernel
theorem dX4_copy_79 : decode cX4_copy 79 = .ok (.aload_n 0, 1) := by decide +kernel
theorem dX4_copy_80 : decode cX4_copy 80 = .ok (.getfield 45, 3) := by decide +kernel
theorem dX4_copy_83 : decode cX4_copy 83 = .ok (.iload_n 1, 1) := by decide +kernel
theorem dX4_copy_84 : decode cX4_copy 84 = .ok (.iload_n 2, 1) := by decide +kernel
theorem dX4_copy_85 : decode cX4_copy 85 = .ok (.iload 5, 2) := by decide +kernel
theorem dX4_copy_87 : decode cX4_copy 87 = .ok (.invokevirtual 217, 3) := by decide +kernel
theorem dX4_copy_90 : decode cX4_copy 90 = .ok (.ifCond .eq 18, 3) := by decide +kernel
theorem dX4_copy_93 : decode cX4_copy 93 = .ok (.aload_n 0, 1) := by decide +kernel
theorem dX4_copy_94 : decode cX4_copy 94 = .ok (.getfield 45, 3) := by decide +kernel
theorem dX4_copy_97 : decode cX4_copy 97 = .ok (.iload_n 3, 1) := by decide +kernel
theorem dX4_copy_98 : decode cX4_copy 98 = .ok (.iload 4, 2) := by decide +kernel
theorem dX4_copy_100 : decode cX4_copy 100 = .ok (.iload 5, 2) := by decide +kernel
theorem dX4_copy_102 : decode cX4_copy 102 = .ok (.invokevirtual 217, 3) := by decide +kernel
theorem dX4_copy_105 : decode cX4_copy 105 = .ok (.ifCond .ne 9, 3) := by decide +kernel
theorem dX4_copy_108 : decode cX4_copy 108 = .ok (.aload_n 0, 1) := by decide +kernel
theorem dX4_copy_109 : decode cX4_copy 109 = .ok (.iconst 0, 1) := by decide +kernel
theorem dX4_copy_110 : decode cX4_copy 110 = .ok (.invokevirtual 57, 3) := by decide +kernel
theorem dX4_copy_113 : decode cX4_copy 113 = .ok (.ireturn, 1) := by decide +kernel
theorem dX4_copy_114 : decode cX4_copy 114 = .ok (.aload_n 0, 1) := by decide +kernel
theorem dX4_copy_115 : decode cX4_copy 115 = .ok (.getfield 45, 3) := by decide +kernel
theorem dX4_copy_118 : decode cX4_copy 118 = .ok (.iload_n 1, 1) := by decide +kernel
theorem dX4_copy_119 : decode cX4_copy 119 = .ok (.iload_n 2, 1) := by decide +kernel
theorem dX4_copy_120 : decode cX4_copy 120 = .ok (.iload_n 3, 1) := by decide +kernel
theorem dX4_copy_121 : decode cX4_copy 121 = .ok (.iload 4, 2) := by decide +kernel
theorem dX4_copy_123 : decode cX4_copy 123 = .ok (.iload 5, 2) := by decide +kernel
theorem dX4_copy_125 : decode cX4_copy 125 = .ok (.invokevirtual 220, 3) := by decide +kernel
theorem dX4_copy_128 : decode cX4_copy 128 = .ok (.iload 5, 2) := by decide +kernel
theorem dX4_copy_130 : decode cX4_copy 130 = .ok (.ireturn, 1) := by decide +kernel
theorem dX4_load_0 : decode cX4_load 0 = .ok (.iload_n 1, 1) := by decide +kernel
theorem dX4_load_1 : decode cX4_load 1 = .ok (.iconst 0, 1) := by decide +kernel
theorem dX4_load_2 : decode cX4_load 2 = .ok (.iconst 3, 1) := by decide +kernel
theorem dX4_load_3 : decode cX4_load 3 = .ok (.invokestatic 53, 3) := by decide +kernel
theorem dX4_load_6 : decode cX4_load 6 = .ok (.ifCond .ne 9, 3) := by decide +kernel
theorem dX4_load_9 : decode cX4_load 9 = .ok (.aload_n 0, 1) := by decide +kernel
theorem dX4_load_10 : decode cX4_load 10 = .ok (.iconst 0, 1) := by decide +kernel
theorem dX4_load_11 : decode cX4_load 11 = .ok (.invokevirtual 57, 3) := by decide +kernel
theorem dX4_load_14 : decode cX4_load 14 = .ok (.ireturn, 1) := by decide +kernel
theorem dX4_load_15 : decode cX4_load 15 = .ok (.aload_n 0, 1) := by decide +kernel
theorem dX4_load_16 : decode cX4_load 16 = .ok (.getfield 45, 3) := by decide +kernel
theorem dX4_load_19 : decode cX4_load 19 = .ok (.iload_n 1, 1) := by decide +kernel
theorem dX4_load_20 : decode cX4_load 20 = .ok (.invokevirtual 156, 3) := by decide +kernel
theorem dX4_load_23 : decode cX4_load 23 = .ok (.ifCond .eq 9, 3) := by decide +kernel
theorem dX4_load_26 : decode cX4_load 26 = .ok (.aload_n 0, 1) := by decide +kernel
theorem dX4_load_27 : decode cX4_load 27 = .ok (.iconst 5, 1) := by decide +kernel
theorem dX4_load_28 : decode cX4_load 28 = .ok (.invokevirtual 57, 3) := by decide +kernel
theorem dX4_load_31 : decode cX4_load 31 = .ok (.ireturn, 1) := by decide +kernel
theorem dX4_load_32 : decode cX4_load 32 = .ok (.aload_n 0, 1) := by decide +kernel
theorem dX4_load_33 : decode cX4_load 33 = .ok (.getfield 45, 3) := by decide +kernel
theorem dX4_load_36 : decode cX4_load 36 = .ok (.getfield 208, 3) := by decide +kernel
theorem dX4_load_39 : decode cX4_load 39 = .ok (.iload_n 1, 1) := by decide +kernel
theorem dX4_load_40 : decode cX4_load 40 = .ok (.iaload, 1) := by decide +kernel
theorem dX4_load_41 : decode cX4_load 41 = .ok (.aload_n 0, 1) := by decide +kernel
theorem dX4_load_42 : decode cX4_load 42 = .ok (.getfield 10, 3) := by decide +kernel
theorem dX4_load_45 : decode cX4_load 45 = .ok (.getfield 142, 3) := by decide +kernel
theorem dX4_load_48 : decode cX4_load 48 = .ok (.invokestatic 224, 3) := by decide +kernel
theorem dX4_load_51 : decode cX4_load 51 = .ok (.istore_n 2, 1) := by decide +kernel
theorem dX4_load_52 : decode cX4_load 52 = .ok (.iconst 0, 1) := by decide +kernel
theorem dX4_load_53 : decode cX4_load 53 = .ok (.istore_n 3, 1) := by decide +kernel
theorem dX4_load_54 : decode cX4_load 54 = .ok (.iload_n 3, 1) := by decide +kernel
theorem dX4_load_55 : decode cX4_load 55 = .ok (.iload_n 2, 1) := by decide +kernel
theorem dX4_load_56 : decode cX4_load 56 = .ok (.if_icmp .ge 47, 3) := by decide +kernel
theorem dX4_load_59 : decode cX4_load 59 = .ok (.aload_n 0, 1) := by decide +kernel
theorem dX4_load_60 : decode cX4_load 60 = .ok (.getfield 45, 3) := by decide +kernel
theorem dX4_load_63 : decode cX4_load 63 = .ok (.iload_n 1, 1) := by decide +kernel
theorem dX4_load_64 : decode cX4_load 64 = .ok (.iload_n 3, 1) := by decide +kernel
theorem dX4_load_65 : decode cX4_load 65 = .ok (.invokevirtual 229, 3) := by decide +kernel
theorem dX4_load_68 : decode cX4_load 68 = .ok (.istore 4, 2) := by decide +kernel
theorem dX4_load_70 : decode cX4_load 70 = .ok (.iload 4, 2) := by decide +kernel
theorem dX4_load_72 : decode cX4_load 72 = .ok (.iconst 0, 1) := by decide +kernel
theorem dX4_load_73 : decode cX4_load 73 = .ok (.bipush 99, 2) := by decide +kernel
theorem dX4_load_75 : decode cX4_load 75 = .ok (.invokestatic 53, 3) := by decide +kernel
theorem dX4_load_78 : decode cX4_load 78 = .ok (.ifCond .ne 5, 3) := by decide +kernel
theorem dX4_load_81 : decode cX4_load 81 = .ok (.iload_n 3, 1) := by decide +kernel
theorem dX4_load_82 : decode cX4_load 82 = .ok (.ireturn, 1) := by decide +kernel
theorem dX4_load_83 : decode cX4_load 83 = .ok (.aload_n 0, 1) := by decide +kernel
theorem dX4_load_84 : decode cX4_load 84 = .ok (.getfield 10, 3) := by decide +kernel
theorem dX4_load_87 : decode cX4_load 87 = .ok (.getfield 87, 3) := by decide +kernel
theorem dX4_load_90 : decode cX4_load 90 = .ok (.bipush 16, 2) := by decide +kernel
theorem dX4_load_92 : decode cX4_load 92 = .ok (.iload_n 3, 1) := by decide +kernel
theorem dX4_load_93 : decode cX4_load 93 = .ok (.iadd, 1) := by decide +kernel
theorem dX4_load_94 : decode cX4_load 94 = .ok (.iload 4, 2) := by decide +kernel
theorem dX4_load_96 : decode cX4_load 96 = .ok (.iastore, 1) := by decide +kernel
theorem dX4_load_97 : decode cX4_load 97 = .ok (.iinc 3 1, 3) := by decide +kernel
theorem dX4_load_100 : decode cX4_load 100 = .ok (.goto (-46), 3) := by decide +kernel
theorem dX4_load_103 : decode cX4_load 103 = .ok (.iload_n 2, 1) := by decide +kernel
theorem dX4_load_104 : decode cX4_load 104 = .ok (.ireturn, 1) := by decide +kernel
theorem dX4_judge_0 : decode cX4_judge 0 = .ok (.iload_n 1, 1) := by decide +kernel
theorem dX4_judge_1 : decode cX4_judge 1 = .ok (.iconst 0, 1) := by decide +kernel
theorem dX4_judge_2 : decode cX4_judge 2 = .ok (.iconst 3, 1) := by decide +kernel
theorem dX4_judge_3 : decode cX4_judge 3 = .ok (.invokestatic 53, 3) := by decide +kernel
theorem dX4_judge_6 : decode cX4_judge 6 = .ok (.ifCond .ne 9, 3) := by decide +kernel
theorem dX4_judge_9 : decode cX4_judge 9 = .ok (.aload_n 0, 1) := by decide +kernel
theorem dX4_judge_10 : decode cX4_judge 10 = .ok (.iconst 0, 1) := by decide +kernel
theorem dX4_judge_11 : decode cX4_judge 11 = .ok (.invokevirtual 57, 3) := by decide +kernel
theorem dX4_judge_14 : decode cX4_judge 14 = .ok (.ireturn, 1) := by decide +kernel
theorem dX4_judge_15 : decode cX4_judge 15 = .ok (.aload_n 0, 1) := by decide +kernel
theorem dX4_judge_16 : decode cX4_judge 16 = .ok (.getfield 45, 3) := by decide +kernel
theorem dX4_judge_19 : decode cX4_judge 19 = .ok (.iload_n 1, 1) := by decide +kernel
theorem dX4_judge_20 : decode cX4_judge 20 = .ok (.invokevirtual 156, 3) := by decide +kernel
theorem dX4_judge_23 : decode cX4_judge 23 = .ok (.ifCond .eq 9, 3) := by decide +kernel
theorem dX4_judge_26 : decode cX4_judge 26 = .ok (.aload_n 0, 1) := by decide +kernel
theorem dX4_judge_27 : decode cX4_judge 27 = .ok (.iconst 5, 1) := by decide +kernel
theorem dX4_judge_28 : decode cX4_judge 28 = .ok (.invokevirtual 57, 3) := by decide +kernel
theorem dX4_judge_31 : decode cX4_judge 31 = .ok (.ireturn, 1) := by decide +kernel
theorem dX4_judge_32 : decode cX4_judge 32 = .ok (.iconst 0, 1) := by decide +kernel
theorem dX4_judge_33 : decode cX4_judge 33 = .ok (.istore_n 2, 1) := by decide +kernel
theorem dX4_judge_34 : decode cX4_judge 34 = .ok (.iload_n 2, 1) := by decide +kernel
theorem dX4_judge_35 : decode cX4_judge 35 = .ok (.aload_n 0, 1) := by decide +kernel
theorem dX4_judge_36 : decode cX4_judge 36 = .ok (.getfield 45, 3) := by decide +kernel
theorem dX4_judge_39 : decode cX4_judge 39 = .ok (.getfield 208, 3) := by decide +kernel
theorem dX4_judge_42 : decode cX4_judge 42 = .ok (.iload_n 1, 1) := by decide +kernel
theorem dX4_judge_43 : decode cX4_judge 43 = .ok (.iaload, 1) := by decide +kernel
theorem dX4_judge_44 : decode cX4_judge 44 = .ok (.if_icmp .ge 48, 3) := by decide +kernel
theorem dX4_judge_47 : decode cX4_judge 47 = .ok (.aload_n 0, 1) := by decide +kernel
theorem dX4_judge_48 : decode cX4_judge 48 = .ok (.getfield 10, 3) := by decide +kernel
theorem dX4_judge_51 : decode cX4_judge 51 = .ok (.iload_n 2, 1) := by decide +kernel
theorem dX4_judge_52 : decode cX4_judge 52 = .ok (.invokevirtual 76, 3) := by decide +kernel
theorem dX4_judge_55 : decode cX4_judge 55 = .ok (.ifCond .eq 27, 3) := by decide +kernel
theorem dX4_judge_58 : decode cX4_judge 58 = .ok (.aload_n 0, 1) := by decide +kernel
theorem dX4_judge_59 : decode cX4_judge 59 = .ok (.getfield 10, 3) := by decide +kernel
theorem dX4_judge_62 : decode cX4_judge 62 = .ok (.getfield 87, 3) := by decide +kernel
theorem dX4_judge_65 : decode cX4_judge 65 = .ok (.bipush 32, 2) := by decide +kernel
theorem dX4_judge_67 : decode cX4_judge 67 = .ok (.iload_n 2, 1) := by decide +kernel
theorem dX4_judge_68 : decode cX4_judge 68 = .ok (.iadd, 1) := by decide +kernel
theorem dX4_judge_69 : decode cX4_judge 69 = .ok (.iaload, 1) := by decide +kernel
theorem dX4_judge_70 : decode cX4_judge 70 = .ok (.aload_n 0, 1) := by decide +kernel
theorem dX4_judge_71 : decode cX4_judge 71 = .ok (.getfield 45, 3) := by decide +kernel
theorem dX4_judge_74 : decode cX4_judge 74 = .ok (.iload_n 1, 1) := by decide +kernel
theorem dX4_judge_75 : decode cX4_judge 75 = .ok (.iload_n 2, 1) := by decide +kernel
theorem dX4_judge_76 : decode cX4_judge 76 = .ok (.invokevirtual 229, 3) := by decide +kernel
theorem dX4_judge_79 : decode cX4_judge 79 = .ok (.if_icmp .eq 7, 3) := by decide +kernel
theorem dX4_judge_82 : decode cX4_judge 82 = .ok (.iconst 1, 1) := by decide +kernel
theorem dX4_judge_83 : decode cX4_judge 83 = .ok (.iload_n 2, 1) := by decide +kernel
theorem dX4_judge_84 : decode cX4_judge 84 = .ok (.iadd, 1) := by decide +kernel
theorem dX4_judge_85 : decode cX4_judge 85 = .ok (.ireturn, 1) := by decide +kernel
theorem dX4_judge_86 : decode cX4_judge 86 = .ok (.iinc 2 1, 3) := by decide +kernel
theorem dX4_judge_89 : decode cX4_judge 89 = .ok (.goto (-55), 3) := by decide +kernel
theorem dX4_judge_92 : decode cX4_judge 92 = .ok (.iconst 0, 1) := by decide +kernel
theorem dX4_judge_93 : decode cX4_judge 93 = .ok (.ireturn, 1) := by decide +kernel
theorem dX4_image_0 : decode cX4_image 0 = .ok (.aload_n 0, 1) := by decide +kernel
theorem dX4_image_1 : decode cX4_image 1 = .ok (.getfield 19, 3) := by decide +kernel
theorem dX4_image_4 : decode cX4_image 4 = .ok (.aload_n 0, 1) := by decide +kernel
theorem dX4_image_5 : decode cX4_image 5 = .ok (.getfield 10, 3) := by decide +kernel
theorem dX4_image_8 : decode cX4_image 8 = .ok (.invokevirtual 138, 3) := by decide +kernel
theorem dX4_image_11 : decode cX4_image 11 = .ok (.aload_n 0, 1) := by decide +kernel
theorem dX4_image_12 : decode cX4_image 12 = .ok (.iconst 1, 1) := by decide +kernel
theorem dX4_image_13 : decode cX4_image 13 = .ok (.putfield 22, 3) := by decide +kernel
theorem dX4_image_16 : decode cX4_image 16 = .ok (.iconst 1, 1) := by decide +kernel
theorem dX4_image_17 : decode cX4_image 17 = .ok (.ireturn, 1) := by decide +kernel
theorem dX4_undo_0 : decode cX4_undo 0 = .ok (.aload_n 0, 1) := by decide +kernel
theorem dX4_undo_1 : decode cX4_undo 1 = .ok (.getfield 22, 3) := by decide +kernel
theorem dX4_undo_4 : decode cX4_undo 4 = .ok (.ifCond .ne 9, 3) := by decide +kernel
theorem dX4_undo_7 : decode cX4_undo 7 = .ok (.aload_n 0, 1) := by decide +kernel
theorem dX4_undo_8 : decode cX4_undo 8 = .ok (.iconst 3, 1) := by decide +kernel
theorem dX4_undo_9 : decode cX4_undo 9 = .ok (.invokevirtual 57, 3) := by decide +kernel
theorem dX4_undo_12 : decode cX4_undo 12 = .ok (.ireturn, 1) := by decide +kernel
theorem dX4_undo_13 : decode cX4_undo 13 = .ok (.aload_n 0, 1) := by decide +kernel
theorem dX4_undo_14 : decode cX4_undo 14 = .ok (.getfield 10, 3) := by decide +kernel
theorem dX4_undo_17 : decode cX4_undo 17 = .ok (.aload_n 0, 1) := by decide +kernel
theorem dX4_undo_18 : decode cX4_undo 18 = .ok (.getfield 19, 3) := by decide +kernel
theorem dX4_undo_21 : decode cX4_undo 21 = .ok (.invokevirtual 138, 3) := by decide +kernel
theorem dX4_undo_24 : decode cX4_undo 24 = .ok (.aload_n 0, 1) := by decide +kernel
theorem dX4_undo_25 : decode cX4_undo 25 = .ok (.getfield 10, 3) := by decide +kernel
theorem dX4_undo_28 : decode cX4_undo 28 = .ok (.getfield 111, 3) := by decide +kernel
theorem dX4_undo_31 : decode cX4_undo 31 = .ok (.ireturn, 1) := by decide +kernel
theorem dX4_tear_0 : decode cX4_tear 0 = .ok (.aload_n 0, 1) := by decide +kernel
theorem dX4_tear_1 : decode cX4_tear 1 = .ok (.getfield 22, 3) := by decide +kernel
theorem dX4_tear_4 : decode cX4_tear 4 = .ok (.ifCond .eq 7, 3) := by decide +kernel
theorem dX4_tear_7 : decode cX4_tear 7 = .ok (.iconst 1, 1) := by decide +kernel
theorem dX4_tear_8 : decode cX4_tear 8 = .ok (.goto 4, 3) := by decide +kernel
theorem dX4_tear_11 : decode cX4_tear 11 = .ok (.iconst 0, 1) := by decide +kernel
theorem dX4_tear_12 : decode cX4_tear 12 = .ok (.istore_n 1, 1) := by decide +kernel
theorem dX4_tear_13 : decode cX4_tear 13 = .ok (.aload_n 0, 1) := by decide +kernel
theorem dX4_tear_14 : decode cX4_tear 14 = .ok (.iconst 0, 1) := by decide +kernel
theorem dX4_tear_15 : decode cX4_tear 15 = .ok (.putfield 22, 3) := by decide +kernel
theorem dX4_tear_18 : decode cX4_tear 18 = .ok (.iload_n 1, 1) := by decide +kernel
theorem dX4_tear_19 : decode cX4_tear 19 = .ok (.ireturn, 1) := by decide +kernel
theorem dX4_count_0 : decode cX4_count 0 = .ok (.iload_n 1, 1) := by decide +kernel
theorem dX4_count_1 : decode cX4_count 1 = .ok (.tableswitch 113 0 7 #[47, 55, 63, 71, 79, 89, 97, 105], 47) := by decide +kernel
theorem dX4_count_48 : decode cX4_count 48 = .ok (.aload_n 0, 1) := by decide +kernel
theorem dX4_count_49 : decode cX4_count 49 = .ok (.getfield 10, 3) := by decide +kernel
theorem dX4_count_52 : decode cX4_count 52 = .ok (.getfield 111, 3) := by decide +kernel
theorem dX4_count_55 : decode cX4_count 55 = .ok (.ireturn, 1) := by decide +kernel
theorem dX4_count_56 : decode cX4_count 56 = .ok (.aload_n 0, 1) := by decide +kernel
theorem dX4_count_57 : decode cX4_count 57 = .ok (.getfield 10, 3) := by decide +kernel
theorem dX4_count_60 : decode cX4_count 60 = .ok (.getfield 142, 3) := by decide +kernel
theorem dX4_count_63 : decode cX4_count 63 = .ok (.ireturn, 1) := by decide +kernel
theorem dX4_count_64 : decode cX4_count 64 = .ok (.aload_n 0, 1) := by decide +kernel
theorem dX4_count_65 : decode cX4_count 65 = .ok (.getfield 10, 3) := by decide +kernel
theorem dX4_count_68 : decode cX4_count 68 = .ok (.getfield 119, 3) := by decide +kernel
theorem dX4_count_71 : decode cX4_count 71 = .ok (.ireturn, 1) := by decide +kernel
theorem dX4_count_72 : decode cX4_count 72 = .ok (.aload_n 0, 1) := by decide +kernel
theorem dX4_count_73 : decode cX4_count 73 = .ok (.getfield 10, 3) := by decide +kernel
theorem dX4_count_76 : decode cX4_count 76 = .ok (.getfield 122, 3) := by decide +kernel
theorem dX4_count_79 : decode cX4_count 79 = .ok (.ireturn, 1) := by decide +kernel
theorem dX4_count_80 : decode cX4_count 80 = .ok (.aload_n 0, 1) := by decide +kernel
theorem dX4_count_81 : decode cX4_count 81 = .ok (.getfield 10, 3) := by decide +kernel
theorem dX4_count_84 : decode cX4_count 84 = .ok (.bipush 40, 2) := by decide +kernel
theorem dX4_count_86 : decode cX4_count 86 = .ok (.invokevirtual 128, 3) := by decide +kernel
theorem dX4_count_89 : decode cX4_count 89 = .ok (.ireturn, 1) := by decide +kernel
theorem dX4_count_90 : decode cX4_count 90 = .ok (.aload_n 0, 1) := by decide +kernel
theorem dX4_count_91 : decode cX4_count 91 = .ok (.getfield 29, 3) := by decide +kernel
theorem dX4_count_94 : decode cX4_count 94 = .ok (.getfield 181, 3) := by decide +kernel
theorem dX4_count_97 : decode cX4_count 97 = .ok (.ireturn, 1) := by decide +kernel
theorem dX4_count_98 : decode cX4_count 98 = .ok (.aload_n 0, 1) := by decide +kernel
theorem dX4_count_99 : decode cX4_count 99 = .ok (.getfield 10, 3) := by decide +kernel
theorem dX4_count_102 : decode cX4_count 102 = .ok (.getfield 178, 3) := by decide +kernel
theorem dX4_count_105 : decode cX4_count 105 = .ok (.ireturn, 1) := by decide +kernel
theorem dX4_count_106 : decode cX4_count 106 = .ok (.aload_n 0, 1) := by decide +kernel
theorem dX4_count_107 : decode cX4_count 107 = .ok (.getfield 10, 3) := by decide +kernel
theorem dX4_count_110 : decode cX4_count 110 = .ok (.invokevirtual 232, 3) := by decide +kernel
theorem dX4_count_113 : decode cX4_count 113 = .ok (.ireturn, 1) := by decide +kernel
theorem dX4_count_114 : decode cX4_count 114 = .ok (.aload_n 0, 1) := by decide +kernel
theorem dX4_count_115 : decode cX4_count 115 = .ok (.iconst 0, 1) := by decide +kernel
theorem dX4_count_116 : decode cX4_count 116 = .ok (.invokevirtual 57, 3) := by decide +kernel
theorem dX4_count_119 : decode cX4_count 119 = .ok (.ireturn, 1) := by decide +kernel
theorem dX4_status_0 : decode cX4_status 0 = .ok (.iload_n 1, 1) := by decide +kernel
theorem dX4_status_1 : decode cX4_status 1 = .ok (.iconst (-1), 1) := by decide +kernel
theorem dX4_status_2 : decode cX4_status 2 = .ok (.bipush 6, 2) := by decide +kernel
theorem dX4_status_4 : decode cX4_status 4 = .ok (.invokestatic 53, 3) := by decide +kernel
theorem dX4_status_7 : decode cX4_status 7 = .ok (.ifCond .ne 9, 3) := by decide +kernel
theorem dX4_status_10 : decode cX4_status 10 = .ok (.aload_n 0, 1) := by decide +kernel
theorem dX4_status_11 : decode cX4_status 11 = .ok (.iconst 0, 1) := by decide +kernel
theorem dX4_status_12 : decode cX4_status 12 = .ok (.invokevirtual 57, 3) := by decide +kernel
theorem dX4_status_15 : decode cX4_status 15 = .ok (.ireturn, 1) := by decide +kernel
theorem dX4_status_16 : decode cX4_status 16 = .ok (.iload_n 1, 1) := by decide +kernel
theorem dX4_status_17 : decode cX4_status 17 = .ok (.ifCond .lt 10, 3) := by decide +kernel
theorem dX4_status_20 : decode cX4_status 20 = .ok (.aload_n 0, 1) := by decide +kernel
theorem dX4_status_21 : decode cX4_status 21 = .ok (.getfield 49, 3) := by decide +kernel
theorem dX4_status_24 : decode cX4_status 24 = .ok (.iload_n 1, 1) := by decide +kernel
theorem dX4_status_25 : decode cX4_status 25 = .ok (.iaload, 1) := by decide +kernel
theorem dX4_status_26 : decode cX4_status 26 = .ok (.ireturn, 1) := by decide +kernel
theorem dX4_status_27 : decode cX4_status 27 = .ok (.iconst 0, 1) := by decide +kernel
theorem dX4_status_28 : decode cX4_status 28 = .ok (.istore_n 2, 1) := by decide +kernel
theorem dX4_status_29 : decode cX4_status 29 = .ok (.iconst 0, 1) := by decide +kernel
theorem dX4_status_30 : decode cX4_status 30 = .ok (.istore_n 3, 1) := by decide +kernel
theorem dX4_status_31 : decode cX4_status 31 = .ok (.iload_n 3, 1) := by decide +kernel
theorem dX4_status_32 : decode cX4_status 32 = .ok (.bipush 7, 2) := by decide +kernel
theorem dX4_status_34 : decode cX4_status 34 = .ok (.if_icmp .ge 18, 3) := by decide +kernel
theorem dX4_status_37 : decode cX4_status 37 = .ok (.iload_n 2, 1) := by decide +kernel
theorem dX4_status_38 : decode cX4_status 38 = .ok (.aload_n 0, 1) := by decide +kernel
theorem dX4_status_39 : decode cX4_status 39 = .ok (.getfield 49, 3) := by decide +kernel
theorem dX4_status_42 : decode cX4_status 42 = .ok (.iload_n 3, 1) := by decide +kernel
theorem dX4_status_43 : decode cX4_status 43 = .ok (.iaload, 1) := by decide +kernel
theorem dX4_status_44 : decode cX4_status 44 = .ok (.iadd, 1) := by decide +kernel
theorem dX4_status_45 : decode cX4_status 45 = .ok (.istore_n 2, 1) := by decide +kernel
theorem dX4_status_46 : decode cX4_status 46 = .ok (.iinc 3 1, 3) := by decide +kernel
theorem dX4_status_49 : decode cX4_status 49 = .ok (.goto (-18), 3) := by decide +kernel
theorem dX4_status_52 : decode cX4_status 52 = .ok (.iload_n 2, 1) := by decide +kernel
theorem dX4_status_53 : decode cX4_status 53 = .ok (.ireturn, 1) := by decide +kernel
theorem dX4_found_0 : decode cX4_found 0 = .ok (.aload_n 0, 1) := by decide +kernel
theorem dX4_found_1 : decode cX4_found 1 = .ok (.getfield 49, 3) := by decide +kernel
theorem dX4_found_4 : decode cX4_found 4 = .ok (.iload_n 1, 1) := by decide +kernel
theorem dX4_found_5 : decode cX4_found 5 = .ok (.dup2, 1) := by decide +kernel
theorem dX4_found_6 : decode cX4_found 6 = .ok (.iaload, 1) := by decide +kernel
theorem dX4_found_7 : decode cX4_found 7 = .ok (.iconst 1, 1) := by decide +kernel
theorem dX4_found_8 : decode cX4_found 8 = .ok (.iadd, 1) := by decide +kernel
theorem dX4_found_9 : decode cX4_found 9 = .ok (.iastore, 1) := by decide +kernel
theorem dX4_found_10 : decode cX4_found 10 = .ok (.ldc 235, 2) := by decide +kernel
theorem dX4_found_12 : decode cX4_found 12 = .ok (.iload_n 1, 1) := by decide +kernel
theorem dX4_found_13 : decode cX4_found 13 = .ok (.isub, 1) := by decide +kernel
theorem dX4_found_14 : decode cX4_found 14 = .ok (.ireturn, 1) := by decide +kernel
theorem dX4_dearestTrait_0 : decode cX4_dearestTrait 0 = .ok (.iconst 0, 1) := by decide +kernel
theorem dX4_dearestTrait_1 : decode cX4_dearestTrait 1 = .ok (.istore 4, 2) := by decide +kernel
theorem dX4_dearestTrait_3 : decode cX4_dearestTrait 3 = .ok (.iconst (-1), 1) := by decide +kernel
theorem dX4_dearestTrait_4 : decode cX4_dearestTrait 4 = .ok (.istore 5, 2) := by decide +kernel
theorem dX4_dearestTrait_6 : decode cX4_dearestTrait 6 = .ok (.iconst 0, 1) := by decide +kernel
theorem dX4_dearestTrait_7 : decode cX4_dearestTrait 7 = .ok (.istore 6, 2) := by decide +kernel
theorem dX4_dearestTrait_9 : decode cX4_dearestTrait 9 = .ok (.iload 6, 2) := by decide +kernel
theorem dX4_dearestTrait_11 : decode cX4_dearestTrait 11 = .ok (.iload_n 2, 1) := by decide +kernel
theorem dX4_dearestTrait_12 : decode cX4_dearestTrait 12 = .ok (.if_icmp .gt 64, 3) := by decide +kernel
theorem dX4_dearestTrait_15 : decode cX4_dearestTrait 15 = .ok (.aload_n 0, 1) := by decide +kernel
theorem dX4_dearestTrait_16 : decode cX4_dearestTrait 16 = .ok (.getfield 16, 3) := by decide +kernel
theorem dX4_dearestTrait_19 : decode cX4_dearestTrait 19 = .ok (.aload_n 0, 1) := by decide +kernel
theorem dX4_dearestTrait_20 : decode cX4_dearestTrait 20 = .ok (.getfield 10, 3) := by decide +kernel
theorem dX4_dearestTrait_23 : decode cX4_dearestTrait 23 = .ok (.invokevirtual 138, 3) := by decide +kernel
theorem dX4_dearestTrait_26 : decode cX4_dearestTrait 26 = .ok (.aload_n 0, 1) := by decide +kernel
theorem dX4_dearestTrait_27 : decode cX4_dearestTrait 27 = .ok (.getfield 16, 3) := by decide +kernel
theorem dX4_dearestTrait_30 : decode cX4_dearestTrait 30 = .ok (.getfield 87, 3) := by decide +kernel
theorem dX4_dearestTrait_33 : decode cX4_dearestTrait 33 = .ok (.iload_n 1, 1) := by decide +kernel
theorem dX4_dearestTrait_34 : decode cX4_dearestTrait 34 = .ok (.iload 6, 2) := by decide +kernel
theorem dX4_dearestTrait_36 : decode cX4_dearestTrait 36 = .ok (.iastore, 1) := by decide +kernel
theorem dX4_dearestTrait_37 : decode cX4_dearestTrait 37 = .ok (.aload_n 0, 1) := by decide +kernel
theorem dX4_dearestTrait_38 : decode cX4_dearestTrait 38 = .ok (.getfield 16, 3) := by decide +kernel
theorem dX4_dearestTrait_41 : decode cX4_dearestTrait 41 = .ok (.iload_n 3, 1) := by decide +kernel
theorem dX4_dearestTrait_42 : decode cX4_dearestTrait 42 = .ok (.invokevirtual 115, 3) := by decide +kernel
theorem dX4_dearestTrait_45 : decode cX4_dearestTrait 45 = .ok (.aload_n 0, 1) := by decide +kernel
theorem dX4_dearestTrait_46 : decode cX4_dearestTrait 46 = .ok (.getfield 16, 3) := by decide +kernel
theorem dX4_dearestTrait_49 : decode cX4_dearestTrait 49 = .ok (.getfield 119, 3) := by decide +kernel
theorem dX4_dearestTrait_52 : decode cX4_dearestTrait 52 = .ok (.iload 5, 2) := by decide +kernel
theorem dX4_dearestTrait_54 : decode cX4_dearestTrait 54 = .ok (.if_icmp .le 16, 3) := by decide +kernel
theorem dX4_dearestTrait_57 : decode cX4_dearestTrait 57 = .ok (.aload_n 0, 1) := by decide +kernel
theorem dX4_dearestTrait_58 : decode cX4_dearestTrait 58 = .ok (.getfield 16, 3) := by decide +kernel
theorem dX4_dearestTrait_61 : decode cX4_dearestTrait 61 = .ok (.getfield 119, 3) := by decide +kernel
theorem dX4_dearestTrait_64 : decode cX4_dearestTrait 64 = .ok (.istore 5, 2) := by decide +kernel
theorem dX4_dearestTrait_66 : decode cX4_dearestTrait 66 = .ok (.iload 6, 2) := by decide +kernel
theorem dX4_dearestTrait_68 : decode cX4_dearestTrait 68 = .ok (.istore 4, 2) := by decide +kernel
theorem dX4_dearestTrait_70 : decode cX4_dearestTrait 70 = .ok (.iinc 6 1, 3) := by decide +kernel
theorem dX4_dearestTrait_73 : decode cX4_dearestTrait 73 = .ok (.goto (-64), 3) := by decide +kernel
theorem dX4_dearestTrait_76 : decode cX4_dearestTrait 76 = .ok (.iload 4, 2) := by decide +kernel
theorem dX4_dearestTrait_78 : decode cX4_dearestTrait 78 = .ok (.ireturn, 1) := by decide +kernel
theorem dX4_keepsRound_0 : decode cX4_keepsRound 0 = .ok (.aload_n 0, 1) := by decide +kernel
theorem dX4_keepsRound_1 : decode cX4_keepsRound 1 = .ok (.getfield 16, 3) := by decide +kernel
theorem dX4_keepsRound_4 : decode cX4_keepsRound 4 = .ok (.aload_n 0, 1) := by decide +kernel
theorem dX4_keepsRound_5 : decode cX4_keepsRound 5 = .ok (.getfield 10, 3) := by decide +kernel
theorem dX4_keepsRound_8 : decode cX4_keepsRound 8 = .ok (.invokevirtual 138, 3) := by decide +kernel
theorem dX4_keepsRound_11 : decode cX4_keepsRound 11 = .ok (.aload_n 0, 1) := by decide +kernel
theorem dX4_keepsRound_12 : decode cX4_keepsRound 12 = .ok (.getfield 16, 3) := by decide +kernel
theorem dX4_keepsRound_15 : decode cX4_keepsRound 15 = .ok (.iload_n 1, 1) := by decide +kernel
theorem dX4_keepsRound_16 : decode cX4_keepsRound 16 = .ok (.invokevirtual 236, 3) := by decide +kernel
theorem dX4_keepsRound_19 : decode cX4_keepsRound 19 = .ok (.aload_n 0, 1) := by decide +kernel
theorem dX4_keepsRound_20 : decode cX4_keepsRound 20 = .ok (.getfield 16, 3) := by decide +kernel
theorem dX4_keepsRound_23 : decode cX4_keepsRound 23 = .ok (.iload_n 2, 1) := by decide +kernel
theorem dX4_keepsRound_24 : decode cX4_keepsRound 24 = .ok (.invokevirtual 115, 3) := by decide +kernel
theorem dX4_keepsRound_27 : decode cX4_keepsRound 27 = .ok (.aload_n 0, 1) := by decide +kernel
theorem dX4_keepsRound_28 : decode cX4_keepsRound 28 = .ok (.getfield 16, 3) := by decide +kernel
theorem dX4_keepsRound_31 : decode cX4_keepsRound 31 = .ok (.getfield 122, 3) := by decide +kernel
theorem dX4_keepsRound_34 : decode cX4_keepsRound 34 = .ok (.aload_n 0, 1) := by decide +kernel
theorem dX4_keepsRound_35 : decode cX4_keepsRound 35 = .ok (.getfield 10, 3) := by decide +kernel
theorem dX4_keepsRound_38 : decode cX4_keepsRound 38 = .ok (.getfield 122, 3) := by decide +kernel
theorem dX4_keepsRound_41 : decode cX4_keepsRound 41 = .ok (.if_icmp .ne 7, 3) := by decide +kernel
theorem dX4_keepsRound_44 : decode cX4_keepsRound 44 = .ok (.iconst 1, 1) := by decide +kernel
theorem dX4_keepsRound_45 : decode cX4_keepsRound 45 = .ok (.goto 4, 3) := by decide +kernel
theorem dX4_keepsRound_48 : decode cX4_keepsRound 48 = .ok (.iconst 0, 1) := by decide +kernel
theorem dX4_keepsRound_49 : decode cX4_keepsRound 49 = .ok (.ireturn, 1) := by decide +kernel
theorem dX4_trialRiftIsTold_0 : decode cX4_trialRiftIsTold 0 = .ok (.iconst 0, 1) := by decide +kernel
theorem dX4_trialRiftIsTold_1 : decode cX4_trialRiftIsTold 1 = .ok (.istore 4, 2) := by decide +kernel
theorem dX4_trialRiftIsTold_3 : decode cX4_trialRiftIsTold 3 = .ok (.iload 4, 2) := by decide +kernel
theorem dX4_trialRiftIsTold_5 : decode cX4_trialRiftIsTold 5 = .ok (.aload_n 0, 1) := by decide +kernel
theorem dX4_trialRiftIsTold_6 : decode cX4_trialRiftIsTold 6 = .ok (.getfield 45, 3) := by decide +kernel
theorem dX4_trialRiftIsTold_9 : decode cX4_trialRiftIsTold 9 = .ok (.getfield 208, 3) := by decide +kernel
theorem dX4_trialRiftIsTold_12 : decode cX4_trialRiftIsTold 12 = .ok (.iload_n 1, 1) := by decide +kernel
theorem dX4_trialRiftIsTold_13 : decode cX4_trialRiftIsTold 13 = .ok (.iaload, 1) := by decide +kernel
theorem dX4_trialRiftIsTold_14 : decode cX4_trialRiftIsTold 14 = .ok (.if_icmp .ge 56, 3) := by decide +kernel
theorem dX4_trialRiftIsTold_17 : decode cX4_trialRiftIsTold 17 = .ok (.iload 4, 2) := by decide +kernel
theorem dX4_trialRiftIsTold_19 : decode cX4_trialRiftIsTold 19 = .ok (.ifCond .le 11, 3) := by decide +kernel
theorem dX4_trialRiftIsTold_22 : decode cX4_trialRiftIsTold 22 = .ok (.aload_n 0, 1) := by decide +kernel
theorem dX4_trialRiftIsTold_23 : decode cX4_trialRiftIsTold 23 = .ok (.getfield 16, 3) := by decide +kernel
theorem dX4_trialRiftIsTold_26 : decode cX4_trialRiftIsTold 26 = .ok (.iconst 1, 1) := by decide +kernel
theorem dX4_trialRiftIsTold_27 : decode cX4_trialRiftIsTold 27 = .ok (.invokevirtual 115, 3) := by decide +kernel
theorem dX4_trialRiftIsTold_30 : decode cX4_trialRiftIsTold 30 = .ok (.aload_n 0, 1) := by decide +kernel
theorem dX4_trialRiftIsTold_31 : decode cX4_trialRiftIsTold 31 = .ok (.getfield 45, 3) := by decide +kernel
theorem dX4_trialRiftIsTold_34 : decode cX4_trialRiftIsTold 34 = .ok (.iload_n 1, 1) := by decide +kernel
theorem dX4_trialRiftIsTold_35 : decode cX4_trialRiftIsTold 35 = .ok (.iload 4, 2) := by decide +kernel
theorem dX4_trialRiftIsTold_37 : decode cX4_trialRiftIsTold 37 = .ok (.invokevirtual 229, 3) := by decide +kernel
theorem dX4_trialRiftIsTold_40 : decode cX4_trialRiftIsTold 40 = .ok (.istore 5, 2) := by decide +kernel
theorem dX4_trialRiftIsTold_42 : decode cX4_trialRiftIsTold 42 = .ok (.iload 5, 2) := by decide +kernel
theorem dX4_trialRiftIsTold_44 : decode cX4_trialRiftIsTold 44 = .ok (.iconst (-1), 1) := by decide +kernel
theorem dX4_trialRiftIsTold_45 : decode cX4_trialRiftIsTold 45 = .ok (.if_icmp .eq 19, 3) := by decide +kernel
theorem dX4_trialRiftIsTold_48 : decode cX4_trialRiftIsTold 48 = .ok (.iload 5, 2) := by decide +kernel
theorem dX4_trialRiftIsTold_50 : decode cX4_trialRiftIsTold 50 = .ok (.aload_n 0, 1) := by decide +kernel
theorem dX4_trialRiftIsTold_51 : decode cX4_trialRiftIsTold 51 = .ok (.getfield 16, 3) := by decide +kernel
theorem dX4_trialRiftIsTold_54 : decode cX4_trialRiftIsTold 54 = .ok (.iload_n 2, 1) := by decide +kernel
theorem dX4_trialRiftIsTold_55 : decode cX4_trialRiftIsTold 55 = .ok (.iload_n 3, 1) := by decide +kernel
theorem dX4_trialRiftIsTold_56 : decode cX4_trialRiftIsTold 56 = .ok (.invokevirtual 94, 3) := by decide +kernel
theorem dX4_trialRiftIsTold_59 : decode cX4_trialRiftIsTold 59 = .ok (.if_icmp .eq 5, 3) := by decide +kernel
theorem dX4_trialRiftIsTold_62 : decode cX4_trialRiftIsTold 62 = .ok (.iconst 0, 1) := by decide +kernel
theorem dX4_trialRiftIsTold_63 : decode cX4_trialRiftIsTold 63 = .ok (.ireturn, 1) := by decide +kernel
theorem dX4_trialRiftIsTold_64 : decode cX4_trialRiftIsTold 64 = .ok (.iinc 4 1, 3) := by decide +kernel
theorem dX4_trialRiftIsTold_67 : decode cX4_trialRiftIsTold 67 = .ok (.goto (-64), 3) := by decide +kernel
theorem dX4_trialRiftIsTold_70 : decode cX4_trialRiftIsTold 70 = .ok (.iconst 1, 1) := by decide +kernel
theorem dX4_trialRiftIsTold_71 : decode cX4_trialRiftIsTold 71 = .ok (.ireturn, 1) := by decide +kernel
theorem dX4_trialHeatIsTold_0 : decode cX4_trialHeatIsTold 0 = .ok (.iconst 0, 1) := by decide +kernel
theorem dX4_trialHeatIsTold_1 : decode cX4_trialHeatIsTold 1 = .ok (.istore_n 3, 1) := by decide +kernel
theorem dX4_trialHeatIsTold_2 : decode cX4_trialHeatIsTold 2 = .ok (.iload_n 3, 1) := by decide +kernel
theorem dX4_trialHeatIsTold_3 : decode cX4_trialHeatIsTold 3 = .ok (.aload_n 0, 1) := by decide +kernel
theorem dX4_trialHeatIsTold_4 : decode cX4_trialHeatIsTold 4 = .ok (.getfield 45, 3) := by decide +kernel
theorem dX4_trialHeatIsTold_7 : decode cX4_trialHeatIsTold 7 = .ok (.getfield 208, 3) := by decide +kernel
theorem dX4_trialHeatIsTold_10 : decode cX4_trialHeatIsTold 10 = .ok (.iload_n 1, 1) := by decide +kernel
theorem dX4_trialHeatIsTold_11 : decode cX4_trialHeatIsTold 11 = .ok (.iaload, 1) := by decide +kernel
theorem dX4_trialHeatIsTold_12 : decode cX4_trialHeatIsTold 12 = .ok (.if_icmp .ge 57, 3) := by decide +kernel
theorem dX4_trialHeatIsTold_15 : decode cX4_trialHeatIsTold 15 = .ok (.iload_n 3, 1) := by decide +kernel
theorem dX4_trialHeatIsTold_16 : decode cX4_trialHeatIsTold 16 = .ok (.ifCond .le 11, 3) := by decide +kernel
theorem dX4_trialHeatIsTold_19 : decode cX4_trialHeatIsTold 19 = .ok (.aload_n 0, 1) := by decide +kernel
theorem dX4_trialHeatIsTold_20 : decode cX4_trialHeatIsTold 20 = .ok (.getfield 16, 3) := by decide +kernel
theorem dX4_trialHeatIsTold_23 : decode cX4_trialHeatIsTold 23 = .ok (.iconst 1, 1) := by decide +kernel
theorem dX4_trialHeatIsTold_24 : decode cX4_trialHeatIsTold 24 = .ok (.invokevirtual 115, 3) := by decide +kernel
theorem dX4_trialHeatIsTold_27 : decode cX4_trialHeatIsTold 27 = .ok (.aload_n 0, 1) := by decide +kernel
theorem dX4_trialHeatIsTold_28 : decode cX4_trialHeatIsTold 28 = .ok (.getfield 45, 3) := by decide +kernel
theorem dX4_trialHeatIsTold_31 : decode cX4_trialHeatIsTold 31 = .ok (.iload_n 1, 1) := by decide +kernel
theorem dX4_trialHeatIsTold_32 : decode cX4_trialHeatIsTold 32 = .ok (.iload_n 3, 1) := by decide +kernel
theorem dX4_trialHeatIsTold_33 : decode cX4_trialHeatIsTold 33 = .ok (.invokevirtual 229, 3) := by decide +kernel
theorem dX4_trialHeatIsTold_36 : decode cX4_trialHeatIsTold 36 = .ok (.istore 4, 2) := by decide +kernel
theorem dX4_trialHeatIsTold_38 : decode cX4_trialHeatIsTold 38 = .ok (.iload 4, 2) := by decide +kernel
theorem dX4_trialHeatIsTold_40 : decode cX4_trialHeatIsTold 40 = .ok (.iconst (-1), 1) := by decide +kernel
theorem dX4_trialHeatIsTold_41 : decode cX4_trialHeatIsTold 41 = .ok (.if_icmp .eq 22, 3) := by decide +kernel
theorem dX4_trialHeatIsTold_44 : decode cX4_trialHeatIsTold 44 = .ok (.iload 4, 2) := by decide +kernel
theorem dX4_trialHeatIsTold_46 : decode cX4_trialHeatIsTold 46 = .ok (.aload_n 0, 1) := by decide +kernel
theorem dX4_trialHeatIsTold_47 : decode cX4_trialHeatIsTold 47 = .ok (.getfield 16, 3) := by decide +kernel
theorem dX4_trialHeatIsTold_50 : decode cX4_trialHeatIsTold 50 = .ok (.getfield 87, 3) := by decide +kernel
theorem dX4_trialHeatIsTold_53 : decode cX4_trialHeatIsTold 53 = .ok (.bipush 8, 2) := by decide +kernel
theorem dX4_trialHeatIsTold_55 : decode cX4_trialHeatIsTold 55 = .ok (.iload_n 2, 1) := by decide +kernel
theorem dX4_trialHeatIsTold_56 : decode cX4_trialHeatIsTold 56 = .ok (.iadd, 1) := by decide +kernel
theorem dX4_trialHeatIsTold_57 : decode cX4_trialHeatIsTold 57 = .ok (.iaload, 1) := by decide +kernel
theorem dX4_trialHeatIsTold_58 : decode cX4_trialHeatIsTold 58 = .ok (.if_icmp .eq 5, 3) := by decide +kernel
theorem dX4_trialHeatIsTold_61 : decode cX4_trialHeatIsTold 61 = .ok (.iconst 0, 1) := by decide +kernel
theorem dX4_trialHeatIsTold_62 : decode cX4_trialHeatIsTold 62 = .ok (.ireturn, 1) := by decide +kernel
theorem dX4_trialHeatIsTold_63 : decode cX4_trialHeatIsTold 63 = .ok (.iinc 3 1, 3) := by decide +kernel
theorem dX4_trialHeatIsTold_66 : decode cX4_trialHeatIsTold 66 = .ok (.goto (-64), 3) := by decide +kernel
theorem dX4_trialHeatIsTold_69 : decode cX4_trialHeatIsTold 69 = .ok (.iconst 1, 1) := by decide +kernel
theorem dX4_trialHeatIsTold_70 : decode cX4_trialHeatIsTold 70 = .ok (.ireturn, 1) := by decide +kernel
theorem dX4_within_0 : decode cX4_within 0 = .ok (.iload_n 0, 1) := by decide +kernel
theorem dX4_within_1 : decode cX4_within 1 = .ok (.iload_n 1, 1) := by decide +kernel
theorem dX4_within_2 : decode cX4_within 2 = .ok (.if_icmp .lt 12, 3) := by decide +kernel
theorem dX4_within_5 : decode cX4_within 5 = .ok (.iload_n 0, 1) := by decide +kernel
theorem dX4_within_6 : decode cX4_within 6 = .ok (.iload_n 2, 1) := by decide +kernel
theorem dX4_within_7 : decode cX4_within 7 = .ok (.if_icmp .gt 7, 3) := by decide +kernel
theorem dX4_within_10 : decode cX4_within 10 = .ok (.iconst 1, 1) := by decide +kernel
theorem dX4_within_11 : decode cX4_within 11 = .ok (.goto 4, 3) := by decide +kernel
theorem dX4_within_14 : decode cX4_within 14 = .ok (.iconst 0, 1) := by decide +kernel
theorem dX4_within_15 : decode cX4_within 15 = .ok (.ireturn, 1) := by decide +kernel
theorem dX4_wouldFlop_0 : decode cX4_wouldFlop 0 = .ok (.iload_n 0, 1) := by decide +kernel
theorem dX4_wouldFlop_1 : decode cX4_wouldFlop 1 = .ok (.ifCond .eq 11, 3) := by decide +kernel
theorem dX4_wouldFlop_4 : decode cX4_wouldFlop 4 = .ok (.iload_n 1, 1) := by decide +kernel
theorem dX4_wouldFlop_5 : decode cX4_wouldFlop 5 = .ok (.invokestatic 239, 3) := by decide +kernel
theorem dX4_wouldFlop_8 : decode cX4_wouldFlop 8 = .ok (.iload_n 0, 1) := by decide +kernel
theorem dX4_wouldFlop_9 : decode cX4_wouldFlop 9 = .ok (.if_icmp .le 7, 3) := by decide +kernel
theorem dX4_wouldFlop_12 : decode cX4_wouldFlop 12 = .ok (.iconst 1, 1) := by decide +kernel
theorem dX4_wouldFlop_13 : decode cX4_wouldFlop 13 = .ok (.goto 4, 3) := by decide +kernel
theorem dX4_wouldFlop_16 : decode cX4_wouldFlop 16 = .ok (.iconst 0, 1) := by decide +kernel
theorem dX4_wouldFlop_17 : decode cX4_wouldFlop 17 = .ok (.ireturn, 1) := by decide +kernel
theorem dX4_isOrIsUnder_0 : decode cX4_isOrIsUnder 0 = .ok (.iload_n 0, 1) := by decide +kernel
theorem dX4_isOrIsUnder_1 : decode cX4_isOrIsUnder 1 = .ok (.istore_n 2, 1) := by decide +kernel
theorem dX4_isOrIsUnder_2 : decode cX4_isOrIsUnder 2 = .ok (.iconst 0, 1) := by decide +kernel
theorem dX4_isOrIsUnder_3 : decode cX4_isOrIsUnder 3 = .ok (.istore_n 3, 1) := by decide +kernel
theorem dX4_isOrIsUnder_4 : decode cX4_isOrIsUnder 4 = .ok (.iload_n 3, 1) := by decide +kernel
theorem dX4_isOrIsUnder_5 : decode cX4_isOrIsUnder 5 = .ok (.bipush 6, 2) := by decide +kernel
theorem dX4_isOrIsUnder_7 : decode cX4_isOrIsUnder 7 = .ok (.if_icmp .gt 26, 3) := by decide +kernel
theorem dX4_isOrIsUnder_10 : decode cX4_isOrIsUnder 10 = .ok (.iload_n 2, 1) := by decide +kernel
theorem dX4_isOrIsUnder_11 : decode cX4_isOrIsUnder 11 = .ok (.ifCond .lt 22, 3) := by decide +kernel
theorem dX4_isOrIsUnder_14 : decode cX4_isOrIsUnder 14 = .ok (.iload_n 2, 1) := by decide +kernel
theorem dX4_isOrIsUnder_15 : decode cX4_isOrIsUnder 15 = .ok (.iload_n 1, 1) := by decide +kernel
theorem dX4_isOrIsUnder_16 : decode cX4_isOrIsUnder 16 = .ok (.if_icmp .ne 5, 3) := by decide +kernel
theorem dX4_isOrIsUnder_19 : decode cX4_isOrIsUnder 19 = .ok (.iconst 1, 1) := by decide +kernel
theorem dX4_isOrIsUnder_20 : decode cX4_isOrIsUnder 20 = .ok (.ireturn, 1) := by decide +kernel
theorem dX4_isOrIsUnder_21 : decode cX4_isOrIsUnder 21 = .ok (.getstatic 242, 3) := by decide +kernel
theorem dX4_isOrIsUnder_24 : decode cX4_isOrIsUnder 24 = .ok (.iload_n 2, 1) := by decide +kernel
theorem dX4_isOrIsUnder_25 : decode cX4_isOrIsUnder 25 = .ok (.iaload, 1) := by decide +kernel
theorem dX4_isOrIsUnder_26 : decode cX4_isOrIsUnder 26 = .ok (.istore_n 2, 1) := by decide +kernel
theorem dX4_isOrIsUnder_27 : decode cX4_isOrIsUnder 27 = .ok (.iinc 3 1, 3) := by decide +kernel
theorem dX4_isOrIsUnder_30 : decode cX4_isOrIsUnder 30 = .ok (.goto (-26), 3) := by decide +kernel
theorem dX4_isOrIsUnder_33 : decode cX4_isOrIsUnder 33 = .ok (.iconst 0, 1) := by decide +kernel
theorem dX4_isOrIsUnder_34 : decode cX4_isOrIsUnder 34 = .ok (.ireturn, 1) := by decide +kernel
theorem dX4_commonDivisor_0 : decode cX4_commonDivisor 0 = .ok (.iload_n 0, 1) := by decide +kernel
theorem dX4_commonDivisor_1 : decode cX4_commonDivisor 1 = .ok (.iload_n 1, 1) := by decide +kernel
theorem dX4_commonDivisor_2 : decode cX4_commonDivisor 2 = .ok (.invokestatic 245, 3) := by decide +kernel
theorem dX4_commonDivisor_5 : decode cX4_commonDivisor 5 = .ok (.istore_n 2, 1) := by decide +kernel
theorem dX4_commonDivisor_6 : decode cX4_commonDivisor 6 = .ok (.iload_n 2, 1) := by decide +kernel
theorem dX4_commonDivisor_7 : decode cX4_commonDivisor 7 = .ok (.iconst 1, 1) := by decide +kernel
theorem dX4_commonDivisor_8 : decode cX4_commonDivisor 8 = .ok (.if_icmp .le 23, 3) := by decide +kernel
theorem dX4_commonDivisor_11 : decode cX4_commonDivisor 11 = .ok (.iload_n 0, 1) := by decide +kernel
theorem dX4_commonDivisor_12 : decode cX4_commonDivisor 12 = .ok (.iload_n 2, 1) := by decide +kernel
theorem dX4_commonDivisor_13 : decode cX4_commonDivisor 13 = .ok (.irem, 1) := by decide +kernel
theorem dX4_commonDivisor_14 : decode cX4_commonDivisor 14 = .ok (.ifCond .ne 11, 3) := by decide +kernel
theorem dX4_commonDivisor_17 : decode cX4_commonDivisor 17 = .ok (.iload_n 1, 1) := by decide +kernel
theorem dX4_commonDivisor_18 : decode cX4_commonDivisor 18 = .ok (.iload_n 2, 1) := by decide +kernel
theorem dX4_commonDivisor_19 : decode cX4_commonDivisor 19 = .ok (.irem, 1) := by decide +kernel
theorem dX4_commonDivisor_20 : decode cX4_commonDivisor 20 = .ok (.ifCond .ne 5, 3) := by decide +kernel
theorem dX4_commonDivisor_23 : decode cX4_commonDivisor 23 = .ok (.iload_n 2, 1) := by decide +kernel
theorem dX4_commonDivisor_24 : decode cX4_commonDivisor 24 = .ok (.ireturn, 1) := by decide +kernel
theorem dX4_commonDivisor_25 : decode cX4_commonDivisor 25 = .ok (.iinc 2 (-1), 3) := by decide +kernel
theorem dX4_commonDivisor_28 : decode cX4_commonDivisor 28 = .ok (.goto (-22), 3) := by decide +kernel
theorem dX4_commonDivisor_31 : decode cX4_commonDivisor 31 = .ok (.iconst 1, 1) := by decide +kernel
theorem dX4_commonDivisor_32 : decode cX4_commonDivisor 32 = .ok (.ireturn, 1) := by decide +kernel
theorem dX4_power_0 : decode cX4_power 0 = .ok (.lconst 1, 1) := by decide +kernel
theorem dX4_power_1 : decode cX4_power 1 = .ok (.lstore_n 2, 1) := by decide +kernel
theorem dX4_power_2 : decode cX4_power 2 = .ok (.iconst 0, 1) := by decide +kernel
theorem dX4_power_3 : decode cX4_power 3 = .ok (.istore 4, 2) := by decide +kernel
theorem dX4_power_5 : decode cX4_power 5 = .ok (.iload 4, 2) := by decide +kernel
theorem dX4_power_7 : decode cX4_power 7 = .ok (.iload_n 1, 1) := by decide +kernel
theorem dX4_power_8 : decode cX4_power 8 = .ok (.if_icmp .ge 14, 3) := by decide +kernel
theorem dX4_power_11 : decode cX4_power 11 = .ok (.lload_n 2, 1) := by decide +kernel
theorem dX4_power_12 : decode cX4_power 12 = .ok (.iload_n 0, 1) := by decide +kernel
theorem dX4_power_13 : decode cX4_power 13 = .ok (.i2l, 1) := by decide +kernel
theorem dX4_power_14 : decode cX4_power 14 = .ok (.lmul, 1) := by decide +kernel
theorem dX4_power_15 : decode cX4_power 15 = .ok (.lstore_n 2, 1) := by decide +kernel
theorem dX4_power_16 : decode cX4_power 16 = .ok (.iinc 4 1, 3) := by decide +kernel
theorem dX4_power_19 : decode cX4_power 19 = .ok (.goto (-14), 3) := by decide +kernel
theorem dX4_power_22 : decode cX4_power 22 = .ok (.lload_n 2, 1) := by decide +kernel
theorem dX4_power_23 : decode cX4_power 23 = .ok (.lreturn, 1) := by decide +kernel
end
section
theorem dX5_init_0 : decode cX5_init 0 = .ok (.aload_n 0, 1) := by decide +kernel
theorem dX5_init_1 : decode cX5_init 1 = .ok (.invokespecial 1, 3) := by decide +kernel
theorem dX5_init_4 : decode cX5_init 4 = .ok (.aload_n 0, 1) := by decide +kernel
theorem dX5_init_5 : decode cX5_init 5 = .ok (.sipush 135, 3) := by decide +kernel
theorem dX5_init_8 : decode cX5_init 8 = .ok (.newarray .int, 2) := by decide +kernel
theorem dX5_init_10 : decode cX5_init 10 = .ok (.putfield 7, 3) := by decide +kernel
theorem dX5_init_13 : decode cX5_init 13 = .ok (.aload_n 0, 1) := by decide +kernel
theorem dX5_init_14 : decode cX5_init 14 = .ok (.sipush 135, 3) := by decide +kernel
theorem dX5_init_17 : decode cX5_init 17 = .ok (.newarray .int, 2) := by decide +kernel
theorem dX5_init_19 : decode cX5_init 19 = .ok (.putfield 13, 3) := by decide +kernel
theorem dX5_init_22 : decode cX5_init 22 = .ok (.aload_n 0, 1) := by decide +kernel
theorem dX5_init_23 : decode cX5_init 23 = .ok (.sipush 135, 3) := by decide +kernel
theorem dX5_init_26 : decode cX5_init 26 = .ok (.newarray .int, 2) := by decide +kernel
theorem dX5_init_28 : decode cX5_init 28 = .ok (.putfield 16, 3) := by decide +kernel
theorem dX5_init_31 : decode cX5_init 31 = .ok (.aload_n 0, 1) := by decide +kernel
theorem dX5_init_32 : decode cX5_init 32 = .ok (.sipush 135, 3) := by decide +kernel
theorem dX5_init_35 : decode cX5_init 35 = .ok (.newarray .int, 2) := by decide +kernel
theorem dX5_init_37 : decode cX5_init 37 = .ok (.putfield 19, 3) := by decide +kernel
theorem dX5_init_40 : decode cX5_init 40 = .ok (.aload_n 0, 1) := by decide +kernel
theorem dX5_init_41 : decode cX5_init 41 = .ok (.bipush 7, 2) := by decide +kernel
theorem dX5_init_43 : decode cX5_init 43 = .ok (.newarray .int, 2) := by decide +kernel
theorem dX5_init_45 : decode cX5_init 45 = .ok (.putfield 22, 3) := by decide +kernel
theorem dX5_init_48 : decode cX5_init 48 = .ok (.aload_n 0, 1) := by decide +kernel
theorem dX5_init_49 : decode cX5_init 49 = .ok (.bipush 120, 2) := by decide +kernel
theorem dX5_init_51 : decode cX5_init 51 = .ok (.newarray .byte, 2) := by decide +kernel
theorem dX5_init_53 : decode cX5_init 53 = .ok (.putfield 25, 3) := by decide +kernel
theorem dX5_init_56 : decode cX5_init 56 = .ok (.aload_n 0, 1) := by decide +kernel
theorem dX5_init_57 : decode cX5_init 57 = .ok (.iconst 4, 1) := by decide +kernel
theorem dX5_init_58 : decode cX5_init 58 = .ok (.newarray .int, 2) := by decide +kernel
theorem dX5_init_60 : decode cX5_init 60 = .ok (.putfield 29, 3) := by decide +kernel
theorem dX5_init_63 : decode cX5_init 63 = .ok (.aload_n 0, 1) := by decide +kernel
theorem dX5_init_64 : decode cX5_init 64 = .ok (.iconst 4, 1) := by decide +kernel
theorem dX5_init_65 : decode cX5_init 65 = .ok (.newarray .int, 2) := by decide +kernel
theorem dX5_init_67 : decode cX5_init 67 = .ok (.putfield 32, 3) := by decide +kernel
theorem dX5_init_70 : decode cX5_init 70 = .ok (.aload_n 0, 1) := by decide +kernel
theorem dX5_init_71 : decode cX5_init 71 = .ok (.sipush 160, 3) := by decide +kernel
theorem dX5_init_74 : decode cX5_init 74 = .ok (.newarray .int, 2) := by decide +kernel
theorem dX5_init_76 : decode cX5_init 76 = .ok (.putfield 35, 3) := by decide +kernel
theorem dX5_init_79 : decode cX5_init 79 = .ok (.aload_n 0, 1) := by decide +kernel
theorem dX5_init_80 : decode cX5_init 80 = .ok (.bipush 40, 2) := by decide +kernel
theorem dX5_init_82 : decode cX5_init 82 = .ok (.newarray .int, 2) := by decide +kernel
theorem dX5_init_84 : decode cX5_init 84 = .ok (.putfield 38, 3) := by decide +kernel
theorem dX5_init_87 : decode cX5_init 87 = .ok (.aload_n 0, 1) := by decide +kernel
theorem dX5_init_88 : decode cX5_init 88 = .ok (.getfield 7, 3) := by decide +kernel
theorem dX5_init_91 : decode cX5_init 91 = .ok (.iconst 2, 1) := by decide +kernel
theorem dX5_init_92 : decode cX5_init 92 = .ok (.iconst 1, 1) := by decide +kernel
theorem dX5_init_93 : decode cX5_init 93 = .ok (.iastore, 1) := by decide +kernel
theorem dX5_init_94 : decode cX5_init 94 = .ok (.aload_n 0, 1) := by decide +kernel
theorem dX5_init_95 : decode cX5_init 95 = .ok (.getfield 7, 3) := by decide +kernel
theorem dX5_init_98 : decode cX5_init 98 = .ok (.iconst 3, 1) := by decide +kernel
theorem dX5_init_99 : decode cX5_init 99 = .ok (.bipush 10, 2) := by decide +kernel
theorem dX5_init_101 : decode cX5_init 101 = .ok (.iastore, 1) := by decide +kernel
theorem dX5_init_102 : decode cX5_init 102 = .ok (.iconst 0, 1) := by decide +kernel
theorem dX5_init_103 : decode cX5_init 103 = .ok (.istore_n 1, 1) := by decide +kernel
theorem dX5_init_104 : decode cX5_init 104 = .ok (.iload_n 1, 1) := by decide +kernel
theorem dX5_init_105 : decode cX5_init 105 = .ok (.bipush 6, 2) := by decide +kernel
theorem dX5_init_107 : decode cX5_init 107 = .ok (.if_icmp .ge 19, 3) := by decide +kernel
theorem dX5_init_110 : decode cX5_init 110 = .ok (.aload_n 0, 1) := by decide +kernel
theorem dX5_init_111 : decode cX5_init 111 = .ok (.getfield 7, 3) := by decide +kernel
theorem dX5_init_114 : decode cX5_init 114 = .ok (.bipush 7, 2) := by decide +kernel
theorem dX5_init_116 : decode cX5_init 116 = .ok (.iload_n 1, 1) := by decide +kernel
theorem dX5_init_117 : decode cX5_init 117 = .ok (.iadd, 1) := by decide +kernel
theorem dX5_init_118 : decode cX5_init 118 = .ok (.iconst 1, 1) := by decide +kernel
theorem dX5_init_119 : decode cX5_init 119 = .ok (.iastore, 1) := by decide +kernel
theorem dX5_init_120 : decode cX5_init 120 = .ok (.iinc 1 1, 3) := by decide +kernel
theorem dX5_init_123 : decode cX5_init 123 = .ok (.goto (-19), 3) := by decide +kernel
theorem dX5_init_126 : decode cX5_init 126 = .ok (.iconst 0, 1) := by decide +kernel
theorem dX5_init_127 : decode cX5_init 127 = .ok (.istore_n 1, 1) := by decide +kernel
theorem dX5_init_128 : decode cX5_init 128 = .ok (.iload_n 1, 1) := by decide +kernel
theorem dX5_init_129 : decode cX5_init 129 = .ok (.bipush 64, 2) := by decide +kernel
theorem dX5_init_131 : decode cX5_init 131 = .ok (.if_icmp .ge 20, 3) := by decide +kernel
theorem dX5_init_134 : decode cX5_init 134 = .ok (.aload_n 0, 1) := by decide +kernel
theorem dX5_init_135 : decode cX5_init 135 = .ok (.getfield 7, 3) := by decide +kernel
theorem dX5_init_138 : decode cX5_init 138 = .ok (.bipush 61, 2) := by decide +kernel
theorem dX5_init_140 : decode cX5_init 140 = .ok (.iload_n 1, 1) := by decide +kernel
theorem dX5_init_141 : decode cX5_init 141 = .ok (.iadd, 1) := by decide +kernel
theorem dX5_init_142 : decode cX5_init 142 = .ok (.bipush 20, 2) := by decide +kernel
theorem dX5_init_144 : decode cX5_init 144 = .ok (.iastore, 1) := by decide +kernel
theorem dX5_init_145 : decode cX5_init 145 = .ok (.iinc 1 1, 3) := by decide +kernel
theorem dX5_init_148 : decode cX5_init 148 = .ok (.goto (-20), 3) := by decide +kernel
theorem dX5_init_151 : decode cX5_init 151 = .ok (.return_, 1) := by decide +kernel
theorem dX5_finds_0 : decode cX5_finds 0 = .ok (.aload_n 0, 1) := by decide +kernel
theorem dX5_finds_1 : decode cX5_finds 1 = .ok (.getfield 22, 3) := by decide +kernel
theorem dX5_finds_4 : decode cX5_finds 4 = .ok (.iload_n 1, 1) := by decide +kernel
theorem dX5_finds_5 : decode cX5_finds 5 = .ok (.dup2, 1) := by decide +kernel
theorem dX5_finds_6 : decode cX5_finds 6 = .ok (.iaload, 1) := by decide +kernel
theorem dX5_finds_7 : decode cX5_finds 7 = .ok (.iconst 1, 1) := by decide +kernel
theorem dX5_finds_8 : decode cX5_finds 8 = .ok (.iadd, 1) := by decide +kernel
theorem dX5_finds_9 : decode cX5_finds 9 = .ok (.iastore, 1) := by decide +kernel
theorem dX5_finds_10 : decode cX5_finds 10 = .ok (.ldc 41, 2) := by decide +kernel
theorem dX5_finds_12 : decode cX5_finds 12 = .ok (.iload_n 1, 1) := by decide +kernel
theorem dX5_finds_13 : decode cX5_finds 13 = .ok (.isub, 1) := by decide +kernel
theorem dX5_finds_14 : decode cX5_finds 14 = .ok (.ireturn, 1) := by decide +kernel
theorem dX5_in_0 : decode cX5_in 0 = .ok (.lload_n 0, 1) := by decide +kernel
theorem dX5_in_1 : decode cX5_in 1 = .ok (.lload_n 2, 1) := by decide +kernel
theorem dX5_in_2 : decode cX5_in 2 = .ok (.lcmp, 1) := by decide +kernel
theorem dX5_in_3 : decode cX5_in 3 = .ok (.ifCond .lt 14, 3) := by decide +kernel
theorem dX5_in_6 : decode cX5_in 6 = .ok (.lload_n 0, 1) := by decide +kernel
theorem dX5_in_7 : decode cX5_in 7 = .ok (.lload 4, 2) := by decide +kernel
theorem dX5_in_9 : decode cX5_in 9 = .ok (.lcmp, 1) := by decide +kernel
theorem dX5_in_10 : decode cX5_in 10 = .ok (.ifCond .gt 7, 3) := by decide +kernel
theorem dX5_in_13 : decode cX5_in 13 = .ok (.iconst 1, 1) := by decide +kernel
theorem dX5_in_14 : decode cX5_in 14 = .ok (.goto 4, 3) := by decide +kernel
theorem dX5_in_17 : decode cX5_in 17 = .ok (.iconst 0, 1) := by decide +kernel
theorem dX5_in_18 : decode cX5_in 18 = .ok (.ireturn, 1) := by decide +kernel
theorem dX5_held_0 : decode cX5_held 0 = .ok (.iload_n 0, 1) := by decide +kernel
theorem dX5_held_1 : decode cX5_held 1 = .ok (.iload_n 1, 1) := by decide +kernel
theorem dX5_held_2 : decode cX5_held 2 = .ok (.if_icmp .ge 7, 3) := by decide +kernel
theorem dX5_held_5 : decode cX5_held 5 = .ok (.iload_n 1, 1) := by decide +kernel
theorem dX5_held_6 : decode cX5_held 6 = .ok (.goto 13, 3) := by decide +kernel
theorem dX5_held_9 : decode cX5_held 9 = .ok (.iload_n 0, 1) := by decide +kernel
theorem dX5_held_10 : decode cX5_held 10 = .ok (.iload_n 2, 1) := by decide +kernel
theorem dX5_held_11 : decode cX5_held 11 = .ok (.if_icmp .le 7, 3) := by decide +kernel
theorem dX5_held_14 : decode cX5_held 14 = .ok (.iload_n 2, 1) := by decide +kernel
theorem dX5_held_15 : decode cX5_held 15 = .ok (.goto 4, 3) := by decide +kernel
theorem dX5_held_18 : decode cX5_held 18 = .ok (.iload_n 0, 1) := by decide +kernel
theorem dX5_held_19 : decode cX5_held 19 = .ok (.ireturn, 1) := by decide +kernel
theorem dX5_size_0 : decode cX5_size 0 = .ok (.iload_n 0, 1) := by decide +kernel
theorem dX5_size_1 : decode cX5_size 1 = .ok (.ifCond .ge 8, 3) := by decide +kernel
theorem dX5_size_4 : decode cX5_size 4 = .ok (.iload_n 0, 1) := by decide +kernel
theorem dX5_size_5 : decode cX5_size 5 = .ok (.ineg, 1) := by decide +kernel
theorem dX5_size_6 : decode cX5_size 6 = .ok (.goto 4, 3) := by decide +kernel
theorem dX5_size_9 : decode cX5_size 9 = .ok (.iload_n 0, 1) := by decide +kernel
theorem dX5_size_10 : decode cX5_size 10 = .ok (.ireturn, 1) := by decide +kernel
theorem dX5_copies_0 : decode cX5_copies 0 = .ok (.iconst 0, 1) := by decide +kernel
theorem dX5_copies_1 : decode cX5_copies 1 = .ok (.istore_n 2, 1) := by decide +kernel
theorem dX5_copies_2 : decode cX5_copies 2 = .ok (.iload_n 2, 1) := by decide +kernel
theorem dX5_copies_3 : decode cX5_copies 3 = .ok (.sipush 135, 3) := by decide +kernel
theorem dX5_copies_6 : decode cX5_copies 6 = .ok (.if_icmp .ge 15, 3) := by decide +kernel
theorem dX5_copies_9 : decode cX5_copies 9 = .ok (.aload_n 1, 1) := by decide +kernel
theorem dX5_copies_10 : decode cX5_copies 10 = .ok (.iload_n 2, 1) := by decide +kernel
theorem dX5_copies_11 : decode cX5_copies 11 = .ok (.aload_n 0, 1) := by decide +kernel
theorem dX5_copies_12 : decode cX5_copies 12 = .ok (.iload_n 2, 1) := by decide +kernel
theorem dX5_copies_13 : decode cX5_copies 13 = .ok (.iaload, 1) := by decide +kernel
theorem dX5_copies_14 : decode cX5_copies 14 = .ok (.iastore, 1) := by decide +kernel
theorem dX5_copies_15 : decode cX5_copies 15 = .ok (.iinc 2 1, 3) := by decide +kernel
theorem dX5_copies_18 : decode cX5_copies 18 = .ok (.goto (-16), 3) := by decide +kernel
theorem dX5_copies_21 : decode cX5_copies 21 = .ok (.return_, 1) := by decide +kernel
theorem dX5_isPotter_0 : decode cX5_isPotter 0 = .ok (.iload_n 1, 1) := by decide +kernel
theorem dX5_isPotter_1 : decode cX5_isPotter 1 = .ok (.i2l, 1) := by decide +kernel
theorem dX5_isPotter_2 : decode cX5_isPotter 2 = .ok (.lconst 0, 1) := by decide +kernel
theorem dX5_isPotter_3 : decode cX5_isPotter 3 = .ok (.aload_n 0, 1) := by decide +kernel
theorem dX5_isPotter_4 : decode cX5_isPotter 4 = .ok (.getfield 7, 3) := by decide +kernel
theorem dX5_isPotter_7 : decode cX5_isPotter 7 = .ok (.iconst 0, 1) := by decide +kernel
theorem dX5_isPotter_8 : decode cX5_isPotter 8 = .ok (.iaload, 1) := by decide +kernel
theorem dX5_isPotter_9 : decode cX5_isPotter 9 = .ok (.iconst 1, 1) := by decide +kernel
theorem dX5_isPotter_10 : decode cX5_isPotter 10 = .ok (.isub, 1) := by decide +kernel
theorem dX5_isPotter_11 : decode cX5_isPotter 11 = .ok (.i2l, 1) := by decide +kernel
theorem dX5_isPotter_12 : decode cX5_isPotter 12 = .ok (.invokestatic 42, 3) := by decide +kernel
theorem dX5_isPotter_15 : decode cX5_isPotter 15 = .ok (.ireturn, 1) := by decide +kernel
theorem dX5_areTwo_0 : decode cX5_areTwo 0 = .ok (.aload_n 0, 1) := by decide +kernel
theorem dX5_areTwo_1 : decode cX5_areTwo 1 = .ok (.iload_n 1, 1) := by decide +kernel
theorem dX5_areTwo_2 : decode cX5_areTwo 2 = .ok (.invokevirtual 46, 3) := by decide +kernel
theorem dX5_areTwo_5 : decode cX5_areTwo 5 = .ok (.ifCond .eq 20, 3) := by decide +kernel
theorem dX5_areTwo_8 : decode cX5_areTwo 8 = .ok (.aload_n 0, 1) := by decide +kernel
theorem dX5_areTwo_9 : decode cX5_areTwo 9 = .ok (.iload_n 2, 1) := by decide +kernel
theorem dX5_areTwo_10 : decode cX5_areTwo 10 = .ok (.invokevirtual 46, 3) := by decide +kernel
theorem dX5_areTwo_13 : decode cX5_areTwo 13 = .ok (.ifCond .eq 12, 3) := by decide +kernel
theorem dX5_areTwo_16 : decode cX5_areTwo 16 = .ok (.iload_n 1, 1) := by decide +kernel
theorem dX5_areTwo_17 : decode cX5_areTwo 17 = .ok (.iload_n 2, 1) := by decide +kernel
theorem dX5_areTwo_18 : decode cX5_areTwo 18 = .ok (.if_icmp .eq 7, 3) := by decide +kernel
theorem dX5_areTwo_21 : decode cX5_areTwo 21 = .ok (.iconst 1, 1) := by decide +kernel
theorem dX5_areTwo_22 : decode cX5_areTwo 22 = .ok (.goto 4, 3) := by decide +kernel
theorem dX5_areTwo_25 : decode cX5_areTwo 25 = .ok (.iconst 0, 1) := by decide +kernel
theorem dX5_areTwo_26 : decode cX5_areTwo 26 = .ok (.ireturn, 1) := by decide +kernel
theorem dX5_its_0 : decode cX5_its 0 = .ok (.aload_n 0, 1) := by decide +kernel
theorem dX5_its_1 : decode cX5_its 1 = .ok (.getfield 7, 3) := by decide +kernel
theorem dX5_its_4 : decode cX5_its 4 = .ok (.bipush 13, 2) := by decide +kernel
theorem dX5_its_6 : decode cX5_its 6 = .ok (.bipush 8, 2) := by decide +kernel
theorem dX5_its_8 : decode cX5_its 8 = .ok (.iload_n 2, 1) := by decide +kernel
theorem dX5_its_9 : decode cX5_its 9 = .ok (.imul, 1) := by decide +kernel
theorem dX5_its_10 : decode cX5_its 10 = .ok (.iadd, 1) := by decide +kernel
theorem dX5_its_11 : decode cX5_its 11 = .ok (.iload_n 1, 1) := by decide +kernel
theorem dX5_its_12 : decode cX5_its 12 = .ok (.iadd, 1) := by decide +kernel
theorem dX5_its_13 : decode cX5_its 13 = .ok (.iaload, 1) := by decide +kernel
theorem dX5_its_14 : decode cX5_its 14 = .ok (.ireturn, 1) := by decide +kernel
theorem dX5_sets_0 : decode cX5_sets 0 = .ok (.aload_n 0, 1) := by decide +kernel
theorem dX5_sets_1 : decode cX5_sets 1 = .ok (.getfield 7, 3) := by decide +kernel
theorem dX5_sets_4 : decode cX5_sets 4 = .ok (.bipush 13, 2) := by decide +kernel
theorem dX5_sets_6 : decode cX5_sets 6 = .ok (.bipush 8, 2) := by decide +kernel
theorem dX5_sets_8 : decode cX5_sets 8 = .ok (.iload_n 2, 1) := by decide +kernel
theorem dX5_sets_9 : decode cX5_sets 9 = .ok (.imul, 1) := by decide +kernel
theorem dX5_sets_10 : decode cX5_sets 10 = .ok (.iadd, 1) := by decide +kernel
theorem dX5_sets_11 : decode cX5_sets 11 = .ok (.iload_n 1, 1) := by decide +kernel
theorem dX5_sets_12 : decode cX5_sets 12 = .ok (.iadd, 1) := by decide +kernel
theorem dX5_sets_13 : decode cX5_sets 13 = .ok (.iload_n 3, 1) := by decide +kernel
theorem dX5_sets_14 : decode cX5_sets 14 = .ok (.iastore, 1) := by decide +kernel
theorem dX5_sets_15 : decode cX5_sets 15 = .ok (.return_, 1) := by decide +kernel
theorem dX5_adds_0 : decode cX5_adds 0 = .ok (.aload_n 0, 1) := by decide +kernel
theorem dX5_adds_1 : decode cX5_adds 1 = .ok (.getfield 7, 3) := by decide +kernel
theorem dX5_adds_4 : decode cX5_adds 4 = .ok (.iload_n 1, 1) := by decide +kernel
theorem dX5_adds_5 : decode cX5_adds 5 = .ok (.aload_n 0, 1) := by decide +kernel
theorem dX5_adds_6 : decode cX5_adds 6 = .ok (.getfield 7, 3) := by decide +kernel
theorem dX5_adds_9 : decode cX5_adds 9 = .ok (.iload_n 1, 1) := by decide +kernel
theorem dX5_adds_10 : decode cX5_adds 10 = .ok (.iaload, 1) := by decide +kernel
theorem dX5_adds_11 : decode cX5_adds 11 = .ok (.iload_n 2, 1) := by decide +kernel
theorem dX5_adds_12 : decode cX5_adds 12 = .ok (.iadd, 1) := by decide +kernel
theorem dX5_adds_13 : decode cX5_adds 13 = .ok (.iconst 0, 1) := by decide +kernel
theorem dX5_adds_14 : decode cX5_adds 14 = .ok (.iload_n 3, 1) := by decide +kernel
theorem dX5_adds_15 : decode cX5_adds 15 = .ok (.invokestatic 50, 3) := by decide +kernel
theorem dX5_adds_18 : decode cX5_adds 18 = .ok (.iastore, 1) := by decide +kernel
theorem dX5_adds_19 : decode cX5_adds 19 = .ok (.return_, 1) := by decide +kernel
theorem dX5_becomes_0 : decode cX5_becomes 0 = .ok (.aload_n 0, 1) := by decide +kernel
theorem dX5_becomes_1 : decode cX5_becomes 1 = .ok (.getfield 7, 3) := by decide +kernel
theorem dX5_becomes_4 : decode cX5_becomes 4 = .ok (.iload_n 1, 1) := by decide +kernel
theorem dX5_becomes_5 : decode cX5_becomes 5 = .ok (.iaload, 1) := by decide +kernel
theorem dX5_becomes_6 : decode cX5_becomes 6 = .ok (.istore_n 3, 1) := by decide +kernel
theorem dX5_becomes_7 : decode cX5_becomes 7 = .ok (.aload_n 0, 1) := by decide +kernel
theorem dX5_becomes_8 : decode cX5_becomes 8 = .ok (.getfield 7, 3) := by decide +kernel
theorem dX5_becomes_11 : decode cX5_becomes 11 = .ok (.iload_n 1, 1) := by decide +kernel
theorem dX5_becomes_12 : decode cX5_becomes 12 = .ok (.iload_n 2, 1) := by decide +kernel
theorem dX5_becomes_13 : decode cX5_becomes 13 = .ok (.iastore, 1) := by decide +kernel
theorem dX5_becomes_14 : decode cX5_becomes 14 = .ok (.iload_n 3, 1) := by decide +kernel
theorem dX5_becomes_15 : decode cX5_becomes 15 = .ok (.ireturn, 1) := by decide +kernel
theorem dX5_ones_0 : decode cX5_ones 0 = .ok (.iconst 0, 1) := by decide +kernel
theorem dX5_ones_1 : decode cX5_ones 1 = .ok (.istore_n 1, 1) := by decide +kernel
theorem dX5_ones_2 : decode cX5_ones 2 = .ok (.iconst 0, 1) := by decide +kernel
theorem dX5_ones_3 : decode cX5_ones 3 = .ok (.istore_n 2, 1) := by decide +kernel
theorem dX5_ones_4 : decode cX5_ones 4 = .ok (.iload_n 2, 1) := by decide +kernel
theorem dX5_ones_5 : decode cX5_ones 5 = .ok (.bipush 8, 2) := by decide +kernel
theorem dX5_ones_7 : decode cX5_ones 7 = .ok (.if_icmp .ge 17, 3) := by decide +kernel
theorem dX5_ones_10 : decode cX5_ones 10 = .ok (.iload_n 1, 1) := by decide +kernel
theorem dX5_ones_11 : decode cX5_ones 11 = .ok (.iload_n 0, 1) := by decide +kernel
theorem dX5_ones_12 : decode cX5_ones 12 = .ok (.iload_n 2, 1) := by decide +kernel
theorem dX5_ones_13 : decode cX5_ones 13 = .ok (.ishr, 1) := by decide +kernel
theorem dX5_ones_14 : decode cX5_ones 14 = .ok (.iconst 1, 1) := by decide +kernel
theorem dX5_ones_15 : decode cX5_ones 15 = .ok (.iand, 1) := by decide +kernel
theorem dX5_ones_16 : decode cX5_ones 16 = .ok (.iadd, 1) := by decide +kernel
theorem dX5_ones_17 : decode cX5_ones 17 = .ok (.istore_n 1, 1) := by decide +kernel
theorem dX5_ones_18 : decode cX5_ones 18 = .ok (.iinc 2 1, 3) := by decide +kernel
theorem dX5_ones_21 : decode cX5_ones 21 = .ok (.goto (-17), 3) := by decide +kernel
theorem dX5_ones_24 : decode cX5_ones 24 = .ok (.iload_n 1, 1) := by decide +kernel
theorem dX5_ones_25 : decode cX5_ones 25 = .ok (.ireturn, 1) := by decide +kernel
theorem dX5_between_0 : decode cX5_between 0 = .ok (.bipush 61, 2) := by decide +kernel
theorem dX5_between_2 : decode cX5_between 2 = .ok (.iload_n 0, 1) := by decide +kernel
theorem dX5_between_3 : decode cX5_between 3 = .ok (.iload_n 1, 1) := by decide +kernel
theorem dX5_between_4 : decode cX5_between 4 = .ok (.if_icmp .ge 12, 3) := by decide +kernel
theorem dX5_between_7 : decode cX5_between 7 = .ok (.bipush 8, 2) := by decide +kernel
theorem dX5_between_9 : decode cX5_between 9 = .ok (.iload_n 0, 1) := by decide +kernel
theorem dX5_between_10 : decode cX5_between 10 = .ok (.imul, 1) := by decide +kernel
theorem dX5_between_11 : decode cX5_between 11 = .ok (.iload_n 1, 1) := by decide +kernel
theorem dX5_between_12 : decode cX5_between 12 = .ok (.iadd, 1) := by decide +kernel
theorem dX5_between_13 : decode cX5_between 13 = .ok (.goto 9, 3) := by decide +kernel
theorem dX5_between_16 : decode cX5_between 16 = .ok (.bipush 8, 2) := by decide +kernel
theorem dX5_between_18 : decode cX5_between 18 = .ok (.iload_n 1, 1) := by decide +kernel
theorem dX5_between_19 : decode cX5_between 19 = .ok (.imul, 1) := by decide +kernel
theorem dX5_between_20 : decode cX5_between 20 = .ok (.iload_n 0, 1) := by decide +kernel
theorem dX5_between_21 : decode cX5_between 21 = .ok (.iadd, 1) := by decide +kernel
theorem dX5_between_22 : decode cX5_between 22 = .ok (.iadd, 1) := by decide +kernel
theorem dX5_between_23 : decode cX5_between 23 = .ok (.ireturn, 1) := by decide +kernel
theorem dX5_pushes_0 : decode cX5_pushes 0 = .ok (.aload_n 0, 1) := by decide +kernel
theorem dX5_pushes_1 : decode cX5_pushes 1 = .ok (.iload_n 1, 1) := by decide +kernel
theorem dX5_pushes_2 : decode cX5_pushes 2 = .ok (.iconst 1, 1) := by decide +kernel
theorem dX5_pushes_3 : decode cX5_pushes 3 = .ok (.invokevirtual 54, 3) := by decide +kernel
theorem dX5_pushes_6 : decode cX5_pushes 6 = .ok (.bipush 10, 2) := by decide +kernel
theorem dX5_pushes_8 : decode cX5_pushes 8 = .ok (.idiv, 1) := by decide +kernel
theorem dX5_pushes_9 : decode cX5_pushes 9 = .ok (.istore_n 2, 1) := by decide +kernel
theorem dX5_pushes_10 : decode cX5_pushes 10 = .ok (.iload_n 2, 1) := by decide +kernel
theorem dX5_pushes_11 : decode cX5_pushes 11 = .ok (.aload_n 0, 1) := by decide +kernel
theorem dX5_pushes_12 : decode cX5_pushes 12 = .ok (.iload_n 1, 1) := by decide +kernel
theorem dX5_pushes_13 : decode cX5_pushes 13 = .ok (.iconst 3, 1) := by decide +kernel
theorem dX5_pushes_14 : decode cX5_pushes 14 = .ok (.invokevirtual 54, 3) := by decide +kernel
theorem dX5_pushes_17 : decode cX5_pushes 17 = .ok (.bipush 10, 2) := by decide +kernel
theorem dX5_pushes_19 : decode cX5_pushes 19 = .ok (.idiv, 1) := by decide +kernel
theorem dX5_pushes_20 : decode cX5_pushes 20 = .ok (.iadd, 1) := by decide +kernel
theorem dX5_pushes_21 : decode cX5_pushes 21 = .ok (.istore_n 3, 1) := by decide +kernel
theorem dX5_pushes_22 : decode cX5_pushes 22 = .ok (.iload_n 3, 1) := by decide +kernel
theorem dX5_pushes_23 : decode cX5_pushes 23 = .ok (.aload_n 0, 1) := by decide +kernel
theorem dX5_pushes_24 : decode cX5_pushes 24 = .ok (.iload_n 1, 1) := by decide +kernel
theorem dX5_pushes_25 : decode cX5_pushes 25 = .ok (.iconst 2, 1) := by decide +kernel
theorem dX5_pushes_26 : decode cX5_pushes 26 = .ok (.invokevirtual 54, 3) := by decide +kernel
theorem dX5_pushes_29 : decode cX5_pushes 29 = .ok (.bipush 10, 2) := by decide +kernel
theorem dX5_pushes_31 : decode cX5_pushes 31 = .ok (.idiv, 1) := by decide +kernel
theorem dX5_pushes_32 : decode cX5_pushes 32 = .ok (.isub, 1) := by decide +kernel
theorem dX5_pushes_33 : decode cX5_pushes 33 = .ok (.iconst 0, 1) := by decide +kernel
theorem dX5_pushes_34 : decode cX5_pushes 34 = .ok (.sipush 9999, 3) := by decide +kernel
theorem dX5_pushes_37 : decode cX5_pushes 37 = .ok (.invokestatic 50, 3) := by decide +kernel
theorem dX5_pushes_40 : decode cX5_pushes 40 = .ok (.istore 4, 2) := by decide +kernel
theorem dX5_pushes_42 : decode cX5_pushes 42 = .ok (.aload_n 0, 1) := by decide +kernel
theorem dX5_pushes_43 : decode cX5_pushes 43 = .ok (.iload_n 1, 1) := by decide +kernel
theorem dX5_pushes_44 : decode cX5_pushes 44 = .ok (.iconst 0, 1) := by decide +kernel
theorem dX5_pushes_45 : decode cX5_pushes 45 = .ok (.invokevirtual 54, 3) := by decide +kernel
theorem dX5_pushes_48 : decode cX5_pushes 48 = .ok (.tableswitch 76 1 6 #[40, 50, 42, 45, 74, 54], 40) := by decide +kernel
theorem dX5_pushes_88 : decode cX5_pushes 88 = .ok (.iload_n 3, 1) := by decide +kernel
theorem dX5_pushes_89 : decode cX5_pushes 89 = .ok (.ireturn, 1) := by decide +kernel
theorem dX5_pushes_90 : decode cX5_pushes 90 = .ok (.iload 4, 2) := by decide +kernel
theorem dX5_pushes_92 : decode cX5_pushes 92 = .ok (.ireturn, 1) := by decide +kernel
theorem dX5_pushes_93 : decode cX5_pushes 93 = .ok (.iload 4, 2) := by decide +kernel
theorem dX5_pushes_95 : decode cX5_pushes 95 = .ok (.iconst 2, 1) := by decide +kernel
theorem dX5_pushes_96 : decode cX5_pushes 96 = .ok (.iadd, 1) := by decide +kernel
theorem dX5_pushes_97 : decode cX5_pushes 97 = .ok (.ireturn, 1) := by decide +kernel
theorem dX5_pushes_98 : decode cX5_pushes 98 = .ok (.iconst 2, 1) := by decide +kernel
theorem dX5_pushes_99 : decode cX5_pushes 99 = .ok (.iload_n 2, 1) := by decide +kernel
theorem dX5_pushes_100 : decode cX5_pushes 100 = .ok (.imul, 1) := by decide +kernel
theorem dX5_pushes_101 : decode cX5_pushes 101 = .ok (.ireturn, 1) := by decide +kernel
theorem dX5_pushes_102 : decode cX5_pushes 102 = .ok (.iconst 2, 1) := by decide +kernel
theorem dX5_pushes_103 : decode cX5_pushes 103 = .ok (.iload_n 2, 1) := by decide +kernel
theorem dX5_pushes_104 : decode cX5_pushes 104 = .ok (.imul, 1) := by decide +kernel
theorem dX5_pushes_105 : decode cX5_pushes 105 = .ok (.aload_n 0, 1) := by decide +kernel
theorem dX5_pushes_106 : decode cX5_pushes 106 = .ok (.iload_n 1, 1) := by decide +kernel
theorem dX5_pushes_107 : decode cX5_pushes 107 = .ok (.iconst 2, 1) := by decide +kernel
theorem dX5_pushes_108 : decode cX5_pushes 108 = .ok (.invokevirtual 54, 3) := by decide +kernel
theorem dX5_pushes_111 : decode cX5_pushes 111 = .ok (.iconst 5, 1) := by decide +kernel
theorem dX5_pushes_112 : decode cX5_pushes 112 = .ok (.idiv, 1) := by decide +kernel
theorem dX5_pushes_113 : decode cX5_pushes 113 = .ok (.isub, 1) := by decide +kernel
theorem dX5_pushes_114 : decode cX5_pushes 114 = .ok (.iconst 0, 1) := by decide +kernel
theorem dX5_pushes_115 : decode cX5_pushes 115 = .ok (.sipush 9999, 3) := by decide +kernel
theorem dX5_pushes_118 : decode cX5_pushes 118 = .ok (.invokestatic 50, 3) := by decide +kernel
theorem dX5_pushes_121 : decode cX5_pushes 121 = .ok (.ireturn, 1) := by decide +kernel
theorem dX5_pushes_122 : decode cX5_pushes 122 = .ok (.iconst 1, 1) := by decide +kernel
theorem dX5_pushes_123 : decode cX5_pushes 123 = .ok (.ireturn, 1) := by decide +kernel
theorem dX5_pushes_124 : decode cX5_pushes 124 = .ok (.iload_n 2, 1) := by decide +kernel
theorem dX5_pushes_125 : decode cX5_pushes 125 = .ok (.ireturn, 1) := by decide +kernel
theorem dX5_says_0 : decode cX5_says 0 = .ok (.aload_n 0, 1) := by decide +kernel
theorem dX5_says_1 : decode cX5_says 1 = .ok (.iload_n 1, 1) := by decide +kernel
theorem dX5_says_2 : decode cX5_says 2 = .ok (.iconst 1, 1) := by decide +kernel
theorem dX5_says_3 : decode cX5_says 3 = .ok (.invokevirtual 54, 3) := by decide +kernel
theorem dX5_says_6 : decode cX5_says 6 = .ok (.bipush 50, 2) := by decide +kernel
theorem dX5_says_8 : decode cX5_says 8 = .ok (.if_icmp .lt 7, 3) := by decide +kernel
theorem dX5_says_11 : decode cX5_says 11 = .ok (.iconst 1, 1) := by decide +kernel
theorem dX5_says_12 : decode cX5_says 12 = .ok (.goto 4, 3) := by decide +kernel
theorem dX5_says_15 : decode cX5_says 15 = .ok (.iconst (-1), 1) := by decide +kernel
theorem dX5_says_16 : decode cX5_says 16 = .ok (.istore_n 2, 1) := by decide +kernel
theorem dX5_says_17 : decode cX5_says 17 = .ok (.aload_n 0, 1) := by decide +kernel
theorem dX5_says_18 : decode cX5_says 18 = .ok (.iload_n 1, 1) := by decide +kernel
theorem dX5_says_19 : decode cX5_says 19 = .ok (.iconst 0, 1) := by decide +kernel
theorem dX5_says_20 : decode cX5_says 20 = .ok (.invokevirtual 54, 3) := by decide +kernel
theorem dX5_says_23 : decode cX5_says 23 = .ok (.tableswitch 84 1 6 #[37, 84, 41, 61, 82, 64], 37) := by decide +kernel
theorem dX5_says_60 : decode cX5_says 60 = .ok (.iload_n 2, 1) := by decide +kernel
theorem dX5_says_61 : decode cX5_says 61 = .ok (.iconst 1, 1) := by decide +kernel
theorem dX5_says_62 : decode cX5_says 62 = .ok (.iadd, 1) := by decide +kernel
theorem dX5_says_63 : decode cX5_says 63 = .ok (.ireturn, 1) := by decide +kernel
theorem dX5_says_64 : decode cX5_says 64 = .ok (.aload_n 0, 1) := by decide +kernel
theorem dX5_says_65 : decode cX5_says 65 = .ok (.iload_n 1, 1) := by decide +kernel
theorem dX5_says_66 : decode cX5_says 66 = .ok (.iconst 2, 1) := by decide +kernel
theorem dX5_says_67 : decode cX5_says 67 = .ok (.invokevirtual 54, 3) := by decide +kernel
theorem dX5_says_70 : decode cX5_says 70 = .ok (.bipush 60, 2) := by decide +kernel
theorem dX5_says_72 : decode cX5_says 72 = .ok (.if_icmp .lt 8, 3) := by decide +kernel
theorem dX5_says_75 : decode cX5_says 75 = .ok (.bipush (-3), 2) := by decide +kernel
theorem dX5_says_77 : decode cX5_says 77 = .ok (.goto 6, 3) := by decide +kernel
theorem dX5_says_80 : decode cX5_says 80 = .ok (.iload_n 2, 1) := by decide +kernel
theorem dX5_says_81 : decode cX5_says 81 = .ok (.iconst 1, 1) := by decide +kernel
theorem dX5_says_82 : decode cX5_says 82 = .ok (.iadd, 1) := by decide +kernel
theorem dX5_says_83 : decode cX5_says 83 = .ok (.ireturn, 1) := by decide +kernel
theorem dX5_says_84 : decode cX5_says 84 = .ok (.bipush (-2), 2) := by decide +kernel
theorem dX5_says_86 : decode cX5_says 86 = .ok (.ireturn, 1) := by decide +kernel
theorem dX5_says_87 : decode cX5_says 87 = .ok (.aload_n 0, 1) := by decide +kernel
theorem dX5_says_88 : decode cX5_says 88 = .ok (.iload_n 1, 1) := by decide +kernel
theorem dX5_says_89 : decode cX5_says 89 = .ok (.iconst 2, 1) := by decide +kernel
theorem dX5_says_90 : decode cX5_says 90 = .ok (.invokevirtual 54, 3) := by decide +kernel
theorem dX5_says_93 : decode cX5_says 93 = .ok (.bipush 10, 2) := by decide +kernel
theorem dX5_says_95 : decode cX5_says 95 = .ok (.if_icmp .ge 8, 3) := by decide +kernel
theorem dX5_says_98 : decode cX5_says 98 = .ok (.bipush 20, 2) := by decide +kernel
theorem dX5_says_100 : decode cX5_says 100 = .ok (.goto 4, 3) := by decide +kernel
theorem dX5_says_103 : decode cX5_says 103 = .ok (.iload_n 2, 1) := by decide +kernel
theorem dX5_says_104 : decode cX5_says 104 = .ok (.ireturn, 1) := by decide +kernel
theorem dX5_says_105 : decode cX5_says 105 = .ok (.iconst 0, 1) := by decide +kernel
theorem dX5_says_106 : decode cX5_says 106 = .ok (.ireturn, 1) := by decide +kernel
theorem dX5_says_107 : decode cX5_says 107 = .ok (.iload_n 2, 1) := by decide +kernel
theorem dX5_says_108 : decode cX5_says 108 = .ok (.ireturn, 1) := by decide +kernel
theorem dX5_cools_0 : decode cX5_cools 0 = .ok (.aload_n 0, 1) := by decide +kernel
theorem dX5_cools_1 : decode cX5_cools 1 = .ok (.iload_n 1, 1) := by decide +kernel
theorem dX5_cools_2 : decode cX5_cools 2 = .ok (.iconst 0, 1) := by decide +kernel
theorem dX5_cools_3 : decode cX5_cools 3 = .ok (.invokevirtual 54, 3) := by decide +kernel
theorem dX5_cools_6 : decode cX5_cools 6 = .ok (.tableswitch 44 1 6 #[38, 40, 38, 44, 42, 40], 38) := by decide +kernel
theorem dX5_cools_44 : decode cX5_cools 44 = .ok (.iconst 1, 1) := by decide +kernel
theorem dX5_cools_45 : decode cX5_cools 45 = .ok (.ireturn, 1) := by decide +kernel
theorem dX5_cools_46 : decode cX5_cools 46 = .ok (.iconst 5, 1) := by decide +kernel
theorem dX5_cools_47 : decode cX5_cools 47 = .ok (.ireturn, 1) := by decide +kernel
theorem dX5_cools_48 : decode cX5_cools 48 = .ok (.iconst 0, 1) := by decide +kernel
theorem dX5_cools_49 : decode cX5_cools 49 = .ok (.ireturn, 1) := by decide +kernel
theorem dX5_cools_50 : decode cX5_cools 50 = .ok (.iconst 2, 1) := by decide +kernel
theorem dX5_cools_51 : decode cX5_cools 51 = .ok (.ireturn, 1) := by decide +kernel
theorem dX5_boils_0 : decode cX5_boils 0 = .ok (.aload_n 0, 1) := by decide +kernel
theorem dX5_boils_1 : decode cX5_boils 1 = .ok (.iload_n 1, 1) := by decide +kernel
theorem dX5_boils_2 : decode cX5_boils 2 = .ok (.iconst 0, 1) := by decide +kernel
theorem dX5_boils_3 : decode cX5_boils 3 = .ok (.invokevirtual 54, 3) := by decide +kernel
theorem dX5_boils_6 : decode cX5_boils 6 = .ok (.tableswitch 41 2 6 #[37, 34, 34, 39, 37], 34) := by decide +kernel
theorem dX5_boils_40 : decode cX5_boils 40 = .ok (.bipush 10, 2) := by decide +kernel
theorem dX5_boils_42 : decode cX5_boils 42 = .ok (.ireturn, 1) := by decide +kernel
theorem dX5_boils_43 : decode cX5_boils 43 = .ok (.iconst 3, 1) := by decide +kernel
theorem dX5_boils_44 : decode cX5_boils 44 = .ok (.ireturn, 1) := by decide +kernel
theorem dX5_boils_45 : decode cX5_boils 45 = .ok (.iconst 1, 1) := by decide +kernel
theorem dX5_boils_46 : decode cX5_boils 46 = .ok (.ireturn, 1) := by decide +kernel
theorem dX5_boils_47 : decode cX5_boils 47 = .ok (.iconst 5, 1) := by decide +kernel
theorem dX5_boils_48 : decode cX5_boils 48 = .ok (.ireturn, 1) := by decide +kernel
theorem dX5_rises_0 : decode cX5_rises 0 = .ok (.aload_n 0, 1) := by decide +kernel
theorem dX5_rises_1 : decode cX5_rises 1 = .ok (.getfield 7, 3) := by decide +kernel
theorem dX5_rises_4 : decode cX5_rises 4 = .ok (.iconst 3, 1) := by decide +kernel
theorem dX5_rises_5 : decode cX5_rises 5 = .ok (.iaload, 1) := by decide +kernel
theorem dX5_rises_6 : decode cX5_rises 6 = .ok (.aload_n 0, 1) := by decide +kernel
theorem dX5_rises_7 : decode cX5_rises 7 = .ok (.getfield 7, 3) := by decide +kernel
theorem dX5_rises_10 : decode cX5_rises 10 = .ok (.iload_n 1, 1) := by decide +kernel
theorem dX5_rises_11 : decode cX5_rises 11 = .ok (.iload_n 2, 1) := by decide +kernel
theorem dX5_rises_12 : decode cX5_rises 12 = .ok (.invokestatic 58, 3) := by decide +kernel
theorem dX5_rises_15 : decode cX5_rises 15 = .ok (.iaload, 1) := by decide +kernel
theorem dX5_rises_16 : decode cX5_rises 16 = .ok (.imul, 1) := by decide +kernel
theorem dX5_rises_17 : decode cX5_rises 17 = .ok (.bipush 20, 2) := by decide +kernel
theorem dX5_rises_19 : decode cX5_rises 19 = .ok (.idiv, 1) := by decide +kernel
theorem dX5_rises_20 : decode cX5_rises 20 = .ok (.ireturn, 1) := by decide +kernel
theorem dX5_leans_0 : decode cX5_leans 0 = .ok (.aload_n 0, 1) := by decide +kernel
theorem dX5_leans_1 : decode cX5_leans 1 = .ok (.iload_n 1, 1) := by decide +kernel
theorem dX5_leans_2 : decode cX5_leans 2 = .ok (.invokevirtual 61, 3) := by decide +kernel
theorem dX5_leans_5 : decode cX5_leans 5 = .ok (.aload_n 0, 1) := by decide +kernel
theorem dX5_leans_6 : decode cX5_leans 6 = .ok (.iload_n 2, 1) := by decide +kernel
theorem dX5_leans_7 : decode cX5_leans 7 = .ok (.invokevirtual 61, 3) := by decide +kernel
theorem dX5_leans_10 : decode cX5_leans 10 = .ok (.isub, 1) := by decide +kernel
theorem dX5_leans_11 : decode cX5_leans 11 = .ok (.ireturn, 1) := by decide +kernel
theorem dX5_isFlop_0 : decode cX5_isFlop 0 = .ok (.aload_n 0, 1) := by decide +kernel
theorem dX5_isFlop_1 : decode cX5_isFlop 1 = .ok (.iload_n 1, 1) := by decide +kernel
theorem dX5_isFlop_2 : decode cX5_isFlop 2 = .ok (.iload_n 2, 1) := by decide +kernel
theorem dX5_isFlop_3 : decode cX5_isFlop 3 = .ok (.invokevirtual 65, 3) := by decide +kernel
theorem dX5_isFlop_6 : decode cX5_isFlop 6 = .ok (.ifCond .eq 21, 3) := by decide +kernel
theorem dX5_isFlop_9 : decode cX5_isFlop 9 = .ok (.aload_n 0, 1) := by decide +kernel
theorem dX5_isFlop_10 : decode cX5_isFlop 10 = .ok (.iload_n 1, 1) := by decide +kernel
theorem dX5_isFlop_11 : decode cX5_isFlop 11 = .ok (.iload_n 2, 1) := by decide +kernel
theorem dX5_isFlop_12 : decode cX5_isFlop 12 = .ok (.invokevirtual 68, 3) := by decide +kernel
theorem dX5_isFlop_15 : decode cX5_isFlop 15 = .ok (.invokestatic 71, 3) := by decide +kernel
theorem dX5_isFlop_18 : decode cX5_isFlop 18 = .ok (.aload_n 0, 1) := by decide +kernel
theorem dX5_isFlop_19 : decode cX5_isFlop 19 = .ok (.iload_n 1, 1) := by decide +kernel
theorem dX5_isFlop_20 : decode cX5_isFlop 20 = .ok (.iload_n 2, 1) := by decide +kernel
theorem dX5_isFlop_21 : decode cX5_isFlop 21 = .ok (.invokevirtual 65, 3) := by decide +kernel
theorem dX5_isFlop_24 : decode cX5_isFlop 24 = .ok (.if_icmp .le 7, 3) := by decide +kernel
theorem dX5_isFlop_27 : decode cX5_isFlop 27 = .ok (.iconst 1, 1) := by decide +kernel
theorem dX5_isFlop_28 : decode cX5_isFlop 28 = .ok (.goto 4, 3) := by decide +kernel
theorem dX5_isFlop_31 : decode cX5_isFlop 31 = .ok (.iconst 0, 1) := by decide +kernel
theorem dX5_isFlop_32 : decode cX5_isFlop 32 = .ok (.ireturn, 1) := by decide +kernel
theorem dX5_flops_0 : decode cX5_flops 0 = .ok (.aload_n 0, 1) := by decide +kernel
theorem dX5_flops_1 : decode cX5_flops 1 = .ok (.bipush 53, 2) := by decide +kernel
theorem dX5_flops_3 : decode cX5_flops 3 = .ok (.iload_n 1, 1) := by decide +kernel
theorem dX5_flops_4 : decode cX5_flops 4 = .ok (.iadd, 1) := by decide +kernel
theorem dX5_flops_5 : decode cX5_flops 5 = .ok (.iconst 1, 1) := by decide +kernel
theorem dX5_flops_6 : decode cX5_flops 6 = .ok (.sipush 9999, 3) := by decide +kernel
theorem dX5_flops_9 : decode cX5_flops 9 = .ok (.invokevirtual 74, 3) := by decide +kernel
theorem dX5_flops_12 : decode cX5_flops 12 = .ok (.aload_n 0, 1) := by decide +kernel
theorem dX5_flops_13 : decode cX5_flops 13 = .ok (.bipush 21, 2) := by decide +kernel
theorem dX5_flops_15 : decode cX5_flops 15 = .ok (.iload_n 1, 1) := by decide +kernel
theorem dX5_flops_16 : decode cX5_flops 16 = .ok (.iadd, 1) := by decide +kernel
theorem dX5_flops_17 : decode cX5_flops 17 = .ok (.aload_n 0, 1) := by decide +kernel
theorem dX5_flops_18 : decode cX5_flops 18 = .ok (.iload_n 1, 1) := by decide +kernel
theorem dX5_flops_19 : decode cX5_flops 19 = .ok (.invokevirtual 78, 3) := by decide +kernel
theorem dX5_flops_22 : decode cX5_flops 22 = .ok (.bipush 99, 2) := by decide +kernel
theorem dX5_flops_24 : decode cX5_flops 24 = .ok (.invokevirtual 74, 3) := by decide +kernel
theorem dX5_flops_27 : decode cX5_flops 27 = .ok (.return_, 1) := by decide +kernel
theorem dX5_throwsOne_0 : decode cX5_throwsOne 0 = .ok (.aload_n 0, 1) := by decide +kernel
theorem dX5_throwsOne_1 : decode cX5_throwsOne 1 = .ok (.bipush 45, 2) := by decide +kernel
theorem dX5_throwsOne_3 : decode cX5_throwsOne 3 = .ok (.iload_n 1, 1) := by decide +kernel
theorem dX5_throwsOne_4 : decode cX5_throwsOne 4 = .ok (.iadd, 1) := by decide +kernel
theorem dX5_throwsOne_5 : decode cX5_throwsOne 5 = .ok (.iconst 1, 1) := by decide +kernel
theorem dX5_throwsOne_6 : decode cX5_throwsOne 6 = .ok (.sipush 9999, 3) := by decide +kernel
theorem dX5_throwsOne_9 : decode cX5_throwsOne 9 = .ok (.invokevirtual 74, 3) := by decide +kernel
theorem dX5_throwsOne_12 : decode cX5_throwsOne 12 = .ok (.aload_n 0, 1) := by decide +kernel
theorem dX5_throwsOne_13 : decode cX5_throwsOne 13 = .ok (.bipush 21, 2) := by decide +kernel
theorem dX5_throwsOne_15 : decode cX5_throwsOne 15 = .ok (.iload_n 1, 1) := by decide +kernel
theorem dX5_throwsOne_16 : decode cX5_throwsOne 16 = .ok (.iadd, 1) := by decide +kernel
theorem dX5_throwsOne_17 : decode cX5_throwsOne 17 = .ok (.aload_n 0, 1) := by decide +kernel
theorem dX5_throwsOne_18 : decode cX5_throwsOne 18 = .ok (.iload_n 1, 1) := by decide +kernel
theorem dX5_throwsOne_19 : decode cX5_throwsOne 19 = .ok (.invokevirtual 81, 3) := by decide +kernel
theorem dX5_throwsOne_22 : decode cX5_throwsOne 22 = .ok (.ineg, 1) := by decide +kernel
theorem dX5_throwsOne_23 : decode cX5_throwsOne 23 = .ok (.bipush 99, 2) := by decide +kernel
theorem dX5_throwsOne_25 : decode cX5_throwsOne 25 = .ok (.invokevirtual 74, 3) := by decide +kernel
theorem dX5_throwsOne_28 : decode cX5_throwsOne 28 = .ok (.return_, 1) := by decide +kernel
theorem dX5_pots_0 : decode cX5_pots 0 = .ok (.aload_n 0, 1) := by decide +kernel
theorem dX5_pots_1 : decode cX5_pots 1 = .ok (.iload_n 1, 1) := by decide +kernel
theorem dX5_pots_2 : decode cX5_pots 2 = .ok (.invokevirtual 84, 3) := by decide +kernel
theorem dX5_pots_5 : decode cX5_pots 5 = .ok (.aload_n 0, 1) := by decide +kernel
theorem dX5_pots_6 : decode cX5_pots 6 = .ok (.iload_n 2, 1) := by decide +kernel
theorem dX5_pots_7 : decode cX5_pots 7 = .ok (.invokevirtual 84, 3) := by decide +kernel
theorem dX5_pots_10 : decode cX5_pots 10 = .ok (.iadd, 1) := by decide +kernel
theorem dX5_pots_11 : decode cX5_pots 11 = .ok (.istore_n 3, 1) := by decide +kernel
theorem dX5_pots_12 : decode cX5_pots 12 = .ok (.aload_n 0, 1) := by decide +kernel
theorem dX5_pots_13 : decode cX5_pots 13 = .ok (.iload_n 1, 1) := by decide +kernel
theorem dX5_pots_14 : decode cX5_pots 14 = .ok (.iload_n 2, 1) := by decide +kernel
theorem dX5_pots_15 : decode cX5_pots 15 = .ok (.invokevirtual 65, 3) := by decide +kernel
theorem dX5_pots_18 : decode cX5_pots 18 = .ok (.istore 4, 2) := by decide +kernel
theorem dX5_pots_20 : decode cX5_pots 20 = .ok (.aload_n 0, 1) := by decide +kernel
theorem dX5_pots_21 : decode cX5_pots 21 = .ok (.iload_n 1, 1) := by decide +kernel
theorem dX5_pots_22 : decode cX5_pots 22 = .ok (.iload_n 2, 1) := by decide +kernel
theorem dX5_pots_23 : decode cX5_pots 23 = .ok (.invokevirtual 68, 3) := by decide +kernel
theorem dX5_pots_26 : decode cX5_pots 26 = .ok (.istore 5, 2) := by decide +kernel
theorem dX5_pots_28 : decode cX5_pots 28 = .ok (.aload_n 0, 1) := by decide +kernel
theorem dX5_pots_29 : decode cX5_pots 29 = .ok (.iload_n 1, 1) := by decide +kernel
theorem dX5_pots_30 : decode cX5_pots 30 = .ok (.iload_n 2, 1) := by decide +kernel
theorem dX5_pots_31 : decode cX5_pots 31 = .ok (.invokevirtual 87, 3) := by decide +kernel
theorem dX5_pots_34 : decode cX5_pots 34 = .ok (.ifCond .eq 16, 3) := by decide +kernel
theorem dX5_pots_37 : decode cX5_pots 37 = .ok (.aload_n 0, 1) := by decide +kernel
theorem dX5_pots_38 : decode cX5_pots 38 = .ok (.iload_n 1, 1) := by decide +kernel
theorem dX5_pots_39 : decode cX5_pots 39 = .ok (.invokevirtual 91, 3) := by decide +kernel
theorem dX5_pots_42 : decode cX5_pots 42 = .ok (.aload_n 0, 1) := by decide +kernel
theorem dX5_pots_43 : decode cX5_pots 43 = .ok (.iload_n 2, 1) := by decide +kernel
theorem dX5_pots_44 : decode cX5_pots 44 = .ok (.invokevirtual 91, 3) := by decide +kernel
theorem dX5_pots_47 : decode cX5_pots 47 = .ok (.goto 72, 3) := by decide +kernel
theorem dX5_pots_50 : decode cX5_pots 50 = .ok (.aload_n 0, 1) := by decide +kernel
theorem dX5_pots_51 : decode cX5_pots 51 = .ok (.iload_n 1, 1) := by decide +kernel
theorem dX5_pots_52 : decode cX5_pots 52 = .ok (.invokevirtual 95, 3) := by decide +kernel
theorem dX5_pots_55 : decode cX5_pots 55 = .ok (.aload_n 0, 1) := by decide +kernel
theorem dX5_pots_56 : decode cX5_pots 56 = .ok (.iload_n 2, 1) := by decide +kernel
theorem dX5_pots_57 : decode cX5_pots 57 = .ok (.invokevirtual 95, 3) := by decide +kernel
theorem dX5_pots_60 : decode cX5_pots 60 = .ok (.aload_n 0, 1) := by decide +kernel
theorem dX5_pots_61 : decode cX5_pots 61 = .ok (.iconst 4, 1) := by decide +kernel
theorem dX5_pots_62 : decode cX5_pots 62 = .ok (.iload 4, 2) := by decide +kernel
theorem dX5_pots_64 : decode cX5_pots 64 = .ok (.iload 5, 2) := by decide +kernel
theorem dX5_pots_66 : decode cX5_pots 66 = .ok (.invokestatic 71, 3) := by decide +kernel
theorem dX5_pots_69 : decode cX5_pots 69 = .ok (.iadd, 1) := by decide +kernel
theorem dX5_pots_70 : decode cX5_pots 70 = .ok (.ldc 98, 2) := by decide +kernel
theorem dX5_pots_72 : decode cX5_pots 72 = .ok (.invokevirtual 74, 3) := by decide +kernel
theorem dX5_pots_75 : decode cX5_pots 75 = .ok (.aload_n 0, 1) := by decide +kernel
theorem dX5_pots_76 : decode cX5_pots 76 = .ok (.iconst 5, 1) := by decide +kernel
theorem dX5_pots_77 : decode cX5_pots 77 = .ok (.iload 5, 2) := by decide +kernel
theorem dX5_pots_79 : decode cX5_pots 79 = .ok (.ifCond .ne 7, 3) := by decide +kernel
theorem dX5_pots_82 : decode cX5_pots 82 = .ok (.iconst 1, 1) := by decide +kernel
theorem dX5_pots_83 : decode cX5_pots 83 = .ok (.goto 4, 3) := by decide +kernel
theorem dX5_pots_86 : decode cX5_pots 86 = .ok (.iconst 0, 1) := by decide +kernel
theorem dX5_pots_87 : decode cX5_pots 87 = .ok (.sipush 9999, 3) := by decide +kernel
theorem dX5_pots_90 : decode cX5_pots 90 = .ok (.invokevirtual 74, 3) := by decide +kernel
theorem dX5_pots_93 : decode cX5_pots 93 = .ok (.aload_n 0, 1) := by decide +kernel
theorem dX5_pots_94 : decode cX5_pots 94 = .ok (.bipush 6, 2) := by decide +kernel
theorem dX5_pots_96 : decode cX5_pots 96 = .ok (.iload 5, 2) := by decide +kernel
theorem dX5_pots_98 : decode cX5_pots 98 = .ok (.ifCond .ne 14, 3) := by decide +kernel
theorem dX5_pots_101 : decode cX5_pots 101 = .ok (.iload 4, 2) := by decide +kernel
theorem dX5_pots_103 : decode cX5_pots 103 = .ok (.bipush 40, 2) := by decide +kernel
theorem dX5_pots_105 : decode cX5_pots 105 = .ok (.if_icmp .lt 7, 3) := by decide +kernel
theorem dX5_pots_108 : decode cX5_pots 108 = .ok (.iconst 1, 1) := by decide +kernel
theorem dX5_pots_109 : decode cX5_pots 109 = .ok (.goto 4, 3) := by decide +kernel
theorem dX5_pots_112 : decode cX5_pots 112 = .ok (.iconst 0, 1) := by decide +kernel
theorem dX5_pots_113 : decode cX5_pots 113 = .ok (.sipush 9999, 3) := by decide +kernel
theorem dX5_pots_116 : decode cX5_pots 116 = .ok (.invokevirtual 74, 3) := by decide +kernel
theorem dX5_pots_119 : decode cX5_pots 119 = .ok (.aload_n 0, 1) := by decide +kernel
theorem dX5_pots_120 : decode cX5_pots 120 = .ok (.iload_n 1, 1) := by decide +kernel
theorem dX5_pots_121 : decode cX5_pots 121 = .ok (.iload_n 2, 1) := by decide +kernel
theorem dX5_pots_122 : decode cX5_pots 122 = .ok (.invokestatic 58, 3) := by decide +kernel
theorem dX5_pots_125 : decode cX5_pots 125 = .ok (.iload_n 3, 1) := by decide +kernel
theorem dX5_pots_126 : decode cX5_pots 126 = .ok (.bipush 99, 2) := by decide +kernel
theorem dX5_pots_128 : decode cX5_pots 128 = .ok (.invokevirtual 74, 3) := by decide +kernel
theorem dX5_pots_131 : decode cX5_pots 131 = .ok (.return_, 1) := by decide +kernel
theorem dX5_todays_0 : decode cX5_todays 0 = .ok (.aload_n 0, 1) := by decide +kernel
theorem dX5_todays_1 : decode cX5_todays 1 = .ok (.getfield 7, 3) := by decide +kernel
theorem dX5_todays_4 : decode cX5_todays 4 = .ok (.bipush 7, 2) := by decide +kernel
theorem dX5_todays_6 : decode cX5_todays 6 = .ok (.aload_n 0, 1) := by decide +kernel
theorem dX5_todays_7 : decode cX5_todays 7 = .ok (.getfield 7, 3) := by decide +kernel
theorem dX5_todays_10 : decode cX5_todays 10 = .ok (.iconst 1, 1) := by decide +kernel
theorem dX5_todays_11 : decode cX5_todays 11 = .ok (.iaload, 1) := by decide +kernel
theorem dX5_todays_12 : decode cX5_todays 12 = .ok (.bipush 6, 2) := by decide +kernel
theorem dX5_todays_14 : decode cX5_todays 14 = .ok (.irem, 1) := by decide +kernel
theorem dX5_todays_15 : decode cX5_todays 15 = .ok (.iadd, 1) := by decide +kernel
theorem dX5_todays_16 : decode cX5_todays 16 = .ok (.iaload, 1) := by decide +kernel
theorem dX5_todays_17 : decode cX5_todays 17 = .ok (.ireturn, 1) := by decide +kernel
theorem dX5_dayGoes_0 : decode cX5_dayGoes 0 = .ok (.aload_n 0, 1) := by decide +kernel
theorem dX5_dayGoes_1 : decode cX5_dayGoes 1 = .ok (.invokevirtual 99, 3) := by decide +kernel
theorem dX5_dayGoes_4 : decode cX5_dayGoes 4 = .ok (.bipush 10, 2) := by decide +kernel
theorem dX5_dayGoes_6 : decode cX5_dayGoes 6 = .ok (.idiv, 1) := by decide +kernel
theorem dX5_dayGoes_7 : decode cX5_dayGoes 7 = .ok (.istore_n 1, 1) := by decide +kernel
theorem dX5_dayGoes_8 : decode cX5_dayGoes 8 = .ok (.aload_n 0, 1) := by decide +kernel
theorem dX5_dayGoes_9 : decode cX5_dayGoes 9 = .ok (.invokevirtual 99, 3) := by decide +kernel
theorem dX5_dayGoes_12 : decode cX5_dayGoes 12 = .ok (.bipush 10, 2) := by decide +kernel
theorem dX5_dayGoes_14 : decode cX5_dayGoes 14 = .ok (.irem, 1) := by decide +kernel
theorem dX5_dayGoes_15 : decode cX5_dayGoes 15 = .ok (.istore_n 2, 1) := by decide +kernel
theorem dX5_dayGoes_16 : decode cX5_dayGoes 16 = .ok (.aload_n 0, 1) := by decide +kernel
theorem dX5_dayGoes_17 : decode cX5_dayGoes 17 = .ok (.iload_n 1, 1) := by decide +kernel
theorem dX5_dayGoes_18 : decode cX5_dayGoes 18 = .ok (.iload_n 2, 1) := by decide +kernel
theorem dX5_dayGoes_19 : decode cX5_dayGoes 19 = .ok (.invokevirtual 103, 3) := by decide +kernel
theorem dX5_dayGoes_22 : decode cX5_dayGoes 22 = .ok (.ifCond .eq 9, 3) := by decide +kernel
theorem dX5_dayGoes_25 : decode cX5_dayGoes 25 = .ok (.aload_n 0, 1) := by decide +kernel
theorem dX5_dayGoes_26 : decode cX5_dayGoes 26 = .ok (.iload_n 1, 1) := by decide +kernel
theorem dX5_dayGoes_27 : decode cX5_dayGoes 27 = .ok (.iload_n 2, 1) := by decide +kernel
theorem dX5_dayGoes_28 : decode cX5_dayGoes 28 = .ok (.invokevirtual 106, 3) := by decide +kernel
theorem dX5_dayGoes_31 : decode cX5_dayGoes 31 = .ok (.aload_n 0, 1) := by decide +kernel
theorem dX5_dayGoes_32 : decode cX5_dayGoes 32 = .ok (.getfield 7, 3) := by decide +kernel
theorem dX5_dayGoes_35 : decode cX5_dayGoes 35 = .ok (.iconst 1, 1) := by decide +kernel
theorem dX5_dayGoes_36 : decode cX5_dayGoes 36 = .ok (.iaload, 1) := by decide +kernel
theorem dX5_dayGoes_37 : decode cX5_dayGoes 37 = .ok (.bipush 10, 2) := by decide +kernel
theorem dX5_dayGoes_39 : decode cX5_dayGoes 39 = .ok (.irem, 1) := by decide +kernel
theorem dX5_dayGoes_40 : decode cX5_dayGoes 40 = .ok (.bipush 9, 2) := by decide +kernel
theorem dX5_dayGoes_42 : decode cX5_dayGoes 42 = .ok (.if_icmp .ne 32, 3) := by decide +kernel
theorem dX5_dayGoes_45 : decode cX5_dayGoes 45 = .ok (.iconst 0, 1) := by decide +kernel
theorem dX5_dayGoes_46 : decode cX5_dayGoes 46 = .ok (.istore_n 3, 1) := by decide +kernel
theorem dX5_dayGoes_47 : decode cX5_dayGoes 47 = .ok (.iload_n 3, 1) := by decide +kernel
theorem dX5_dayGoes_48 : decode cX5_dayGoes 48 = .ok (.aload_n 0, 1) := by decide +kernel
theorem dX5_dayGoes_49 : decode cX5_dayGoes 49 = .ok (.getfield 7, 3) := by decide +kernel
theorem dX5_dayGoes_52 : decode cX5_dayGoes 52 = .ok (.iconst 0, 1) := by decide +kernel
theorem dX5_dayGoes_53 : decode cX5_dayGoes 53 = .ok (.iaload, 1) := by decide +kernel
theorem dX5_dayGoes_54 : decode cX5_dayGoes 54 = .ok (.if_icmp .ge 20, 3) := by decide +kernel
theorem dX5_dayGoes_57 : decode cX5_dayGoes 57 = .ok (.aload_n 0, 1) := by decide +kernel
theorem dX5_dayGoes_58 : decode cX5_dayGoes 58 = .ok (.bipush 37, 2) := by decide +kernel
theorem dX5_dayGoes_60 : decode cX5_dayGoes 60 = .ok (.iload_n 3, 1) := by decide +kernel
theorem dX5_dayGoes_61 : decode cX5_dayGoes 61 = .ok (.iadd, 1) := by decide +kernel
theorem dX5_dayGoes_62 : decode cX5_dayGoes 62 = .ok (.iconst 1, 1) := by decide +kernel
theorem dX5_dayGoes_63 : decode cX5_dayGoes 63 = .ok (.bipush 99, 2) := by decide +kernel
theorem dX5_dayGoes_65 : decode cX5_dayGoes 65 = .ok (.invokevirtual 74, 3) := by decide +kernel
theorem dX5_dayGoes_68 : decode cX5_dayGoes 68 = .ok (.iinc 3 1, 3) := by decide +kernel
theorem dX5_dayGoes_71 : decode cX5_dayGoes 71 = .ok (.goto (-24), 3) := by decide +kernel
theorem dX5_dayGoes_74 : decode cX5_dayGoes 74 = .ok (.aload_n 0, 1) := by decide +kernel
theorem dX5_dayGoes_75 : decode cX5_dayGoes 75 = .ok (.iconst 1, 1) := by decide +kernel
theorem dX5_dayGoes_76 : decode cX5_dayGoes 76 = .ok (.iconst 1, 1) := by decide +kernel
theorem dX5_dayGoes_77 : decode cX5_dayGoes 77 = .ok (.ldc 98, 2) := by decide +kernel
theorem dX5_dayGoes_79 : decode cX5_dayGoes 79 = .ok (.invokevirtual 74, 3) := by decide +kernel
theorem dX5_dayGoes_82 : decode cX5_dayGoes 82 = .ok (.return_, 1) := by decide +kernel
theorem dX5_daysGo_0 : decode cX5_daysGo 0 = .ok (.iconst 0, 1) := by decide +kernel
theorem dX5_daysGo_1 : decode cX5_daysGo 1 = .ok (.istore_n 2, 1) := by decide +kernel
theorem dX5_daysGo_2 : decode cX5_daysGo 2 = .ok (.iload_n 2, 1) := by decide +kernel
theorem dX5_daysGo_3 : decode cX5_daysGo 3 = .ok (.iload_n 1, 1) := by decide +kernel
theorem dX5_daysGo_4 : decode cX5_daysGo 4 = .ok (.if_icmp .ge 13, 3) := by decide +kernel
theorem dX5_daysGo_7 : decode cX5_daysGo 7 = .ok (.aload_n 0, 1) := by decide +kernel
theorem dX5_daysGo_8 : decode cX5_daysGo 8 = .ok (.invokevirtual 110, 3) := by decide +kernel
theorem dX5_daysGo_11 : decode cX5_daysGo 11 = .ok (.iinc 2 1, 3) := by decide +kernel
theorem dX5_daysGo_14 : decode cX5_daysGo 14 = .ok (.goto (-12), 3) := by decide +kernel
theorem dX5_daysGo_17 : decode cX5_daysGo 17 = .ok (.return_, 1) := by decide +kernel
theorem dX5_sumOf_0 : decode cX5_sumOf 0 = .ok (.iconst 0, 1) := by decide +kernel
theorem dX5_sumOf_1 : decode cX5_sumOf 1 = .ok (.istore_n 2, 1) := by decide +kernel
theorem dX5_sumOf_2 : decode cX5_sumOf 2 = .ok (.iconst 0, 1) := by decide +kernel
theorem dX5_sumOf_3 : decode cX5_sumOf 3 = .ok (.istore_n 3, 1) := by decide +kernel
theorem dX5_sumOf_4 : decode cX5_sumOf 4 = .ok (.iload_n 3, 1) := by decide +kernel
theorem dX5_sumOf_5 : decode cX5_sumOf 5 = .ok (.aload_n 0, 1) := by decide +kernel
theorem dX5_sumOf_6 : decode cX5_sumOf 6 = .ok (.getfield 7, 3) := by decide +kernel
theorem dX5_sumOf_9 : decode cX5_sumOf 9 = .ok (.iconst 0, 1) := by decide +kernel
theorem dX5_sumOf_10 : decode cX5_sumOf 10 = .ok (.iaload, 1) := by decide +kernel
theorem dX5_sumOf_11 : decode cX5_sumOf 11 = .ok (.if_icmp .ge 18, 3) := by decide +kernel
theorem dX5_sumOf_14 : decode cX5_sumOf 14 = .ok (.iload_n 2, 1) := by decide +kernel
theorem dX5_sumOf_15 : decode cX5_sumOf 15 = .ok (.aload_n 0, 1) := by decide +kernel
theorem dX5_sumOf_16 : decode cX5_sumOf 16 = .ok (.iload_n 3, 1) := by decide +kernel
theorem dX5_sumOf_17 : decode cX5_sumOf 17 = .ok (.iload_n 1, 1) := by decide +kernel
theorem dX5_sumOf_18 : decode cX5_sumOf 18 = .ok (.invokevirtual 54, 3) := by decide +kernel
theorem dX5_sumOf_21 : decode cX5_sumOf 21 = .ok (.iadd, 1) := by decide +kernel
theorem dX5_sumOf_22 : decode cX5_sumOf 22 = .ok (.istore_n 2, 1) := by decide +kernel
theorem dX5_sumOf_23 : decode cX5_sumOf 23 = .ok (.iinc 3 1, 3) := by decide +kernel
theorem dX5_sumOf_26 : decode cX5_sumOf 26 = .ok (.goto (-22), 3) := by decide +kernel
theorem dX5_sumOf_29 : decode cX5_sumOf 29 = .ok (.iload_n 2, 1) := by decide +kernel
theorem dX5_sumOf_30 : decode cX5_sumOf 30 = .ok (.ireturn, 1) := by decide +kernel
theorem dX5_clay_0 : decode cX5_clay 0 = .ok (.iload_n 1, 1) := by decide +kernel
theorem dX5_clay_1 : decode cX5_clay 1 = .ok (.i2l, 1) := by decide +kernel
theorem dX5_clay_2 : decode cX5_clay 2 = .ok (.lconst 1, 1) := by decide +kernel
theorem dX5_clay_3 : decode cX5_clay 3 = .ok (.ldc2_w 113, 3) := by decide +kernel
theorem dX5_clay_6 : decode cX5_clay 6 = .ok (.invokestatic 42, 3) := by decide +kernel
theorem dX5_clay_9 : decode cX5_clay 9 = .ok (.ifCond .eq 12, 3) := by decide +kernel
theorem dX5_clay_12 : decode cX5_clay 12 = .ok (.aload_n 0, 1) := by decide +kernel
theorem dX5_clay_13 : decode cX5_clay 13 = .ok (.iconst 3, 1) := by decide +kernel
theorem dX5_clay_14 : decode cX5_clay 14 = .ok (.iload_n 1, 1) := by decide +kernel
theorem dX5_clay_15 : decode cX5_clay 15 = .ok (.invokevirtual 115, 3) := by decide +kernel
theorem dX5_clay_18 : decode cX5_clay 18 = .ok (.goto 8, 3) := by decide +kernel
theorem dX5_clay_21 : decode cX5_clay 21 = .ok (.aload_n 0, 1) := by decide +kernel
theorem dX5_clay_22 : decode cX5_clay 22 = .ok (.iconst 0, 1) := by decide +kernel
theorem dX5_clay_23 : decode cX5_clay 23 = .ok (.invokevirtual 118, 3) := by decide +kernel
theorem dX5_clay_26 : decode cX5_clay 26 = .ok (.ireturn, 1) := by decide +kernel
theorem dX5_pair_0 : decode cX5_pair 0 = .ok (.iload_n 1, 1) := by decide +kernel
theorem dX5_pair_1 : decode cX5_pair 1 = .ok (.i2l, 1) := by decide +kernel
theorem dX5_pair_2 : decode cX5_pair 2 = .ok (.lconst 0, 1) := by decide +kernel
theorem dX5_pair_3 : decode cX5_pair 3 = .ok (.ldc2_w 121, 3) := by decide +kernel
theorem dX5_pair_6 : decode cX5_pair 6 = .ok (.invokestatic 42, 3) := by decide +kernel
theorem dX5_pair_9 : decode cX5_pair 9 = .ok (.ifCond .eq 44, 3) := by decide +kernel
theorem dX5_pair_12 : decode cX5_pair 12 = .ok (.iload_n 2, 1) := by decide +kernel
theorem dX5_pair_13 : decode cX5_pair 13 = .ok (.i2l, 1) := by decide +kernel
theorem dX5_pair_14 : decode cX5_pair 14 = .ok (.lconst 0, 1) := by decide +kernel
theorem dX5_pair_15 : decode cX5_pair 15 = .ok (.ldc2_w 123, 3) := by decide +kernel
theorem dX5_pair_18 : decode cX5_pair 18 = .ok (.invokestatic 42, 3) := by decide +kernel
theorem dX5_pair_21 : decode cX5_pair 21 = .ok (.ifCond .eq 32, 3) := by decide +kernel
theorem dX5_pair_24 : decode cX5_pair 24 = .ok (.iload_n 3, 1) := by decide +kernel
theorem dX5_pair_25 : decode cX5_pair 25 = .ok (.i2l, 1) := by decide +kernel
theorem dX5_pair_26 : decode cX5_pair 26 = .ok (.lconst 0, 1) := by decide +kernel
theorem dX5_pair_27 : decode cX5_pair 27 = .ok (.ldc2_w 123, 3) := by decide +kernel
theorem dX5_pair_30 : decode cX5_pair 30 = .ok (.invokestatic 42, 3) := by decide +kernel
theorem dX5_pair_33 : decode cX5_pair 33 = .ok (.ifCond .eq 20, 3) := by decide +kernel
theorem dX5_pair_36 : decode cX5_pair 36 = .ok (.aload_n 0, 1) := by decide +kernel
theorem dX5_pair_37 : decode cX5_pair 37 = .ok (.bipush 7, 2) := by decide +kernel
theorem dX5_pair_39 : decode cX5_pair 39 = .ok (.iload_n 1, 1) := by decide +kernel
theorem dX5_pair_40 : decode cX5_pair 40 = .ok (.iadd, 1) := by decide +kernel
theorem dX5_pair_41 : decode cX5_pair 41 = .ok (.bipush 10, 2) := by decide +kernel
theorem dX5_pair_43 : decode cX5_pair 43 = .ok (.iload_n 2, 1) := by decide +kernel
theorem dX5_pair_44 : decode cX5_pair 44 = .ok (.imul, 1) := by decide +kernel
theorem dX5_pair_45 : decode cX5_pair 45 = .ok (.iload_n 3, 1) := by decide +kernel
theorem dX5_pair_46 : decode cX5_pair 46 = .ok (.iadd, 1) := by decide +kernel
theorem dX5_pair_47 : decode cX5_pair 47 = .ok (.invokevirtual 115, 3) := by decide +kernel
theorem dX5_pair_50 : decode cX5_pair 50 = .ok (.goto 8, 3) := by decide +kernel
theorem dX5_pair_53 : decode cX5_pair 53 = .ok (.aload_n 0, 1) := by decide +kernel
theorem dX5_pair_54 : decode cX5_pair 54 = .ok (.iconst 0, 1) := by decide +kernel
theorem dX5_pair_55 : decode cX5_pair 55 = .ok (.invokevirtual 118, 3) := by decide +kernel
theorem dX5_pair_58 : decode cX5_pair 58 = .ok (.ireturn, 1) := by decide +kernel
theorem dX5_listed_0 : decode cX5_listed 0 = .ok (.iload_n 1, 1) := by decide +kernel
theorem dX5_listed_1 : decode cX5_listed 1 = .ok (.i2l, 1) := by decide +kernel
theorem dX5_listed_2 : decode cX5_listed 2 = .ok (.lconst 0, 1) := by decide +kernel
theorem dX5_listed_3 : decode cX5_listed 3 = .ok (.ldc2_w 121, 3) := by decide +kernel
theorem dX5_listed_6 : decode cX5_listed 6 = .ok (.invokestatic 42, 3) := by decide +kernel
theorem dX5_listed_9 : decode cX5_listed 9 = .ok (.ifCond .eq 15, 3) := by decide +kernel
theorem dX5_listed_12 : decode cX5_listed 12 = .ok (.aload_n 0, 1) := by decide +kernel
theorem dX5_listed_13 : decode cX5_listed 13 = .ok (.getfield 7, 3) := by decide +kernel
theorem dX5_listed_16 : decode cX5_listed 16 = .ok (.bipush 7, 2) := by decide +kernel
theorem dX5_listed_18 : decode cX5_listed 18 = .ok (.iload_n 1, 1) := by decide +kernel
theorem dX5_listed_19 : decode cX5_listed 19 = .ok (.iadd, 1) := by decide +kernel
theorem dX5_listed_20 : decode cX5_listed 20 = .ok (.iaload, 1) := by decide +kernel
theorem dX5_listed_21 : decode cX5_listed 21 = .ok (.goto 8, 3) := by decide +kernel
theorem dX5_listed_24 : decode cX5_listed 24 = .ok (.aload_n 0, 1) := by decide +kernel
theorem dX5_listed_25 : decode cX5_listed 25 = .ok (.iconst 0, 1) := by decide +kernel
theorem dX5_listed_26 : decode cX5_listed 26 = .ok (.invokevirtual 118, 3) := by decide +kernel
theorem dX5_listed_29 : decode cX5_listed 29 = .ok (.ireturn, 1) := by decide +kernel
theorem dX5_comes_0 : decode cX5_comes 0 = .ok (.aload_n 0, 1) := by decide +kernel
theorem dX5_comes_1 : decode cX5_comes 1 = .ok (.getfield 7, 3) := by decide +kernel
theorem dX5_comes_4 : decode cX5_comes 4 = .ok (.iconst 0, 1) := by decide +kernel
theorem dX5_comes_5 : decode cX5_comes 5 = .ok (.iaload, 1) := by decide +kernel
theorem dX5_comes_6 : decode cX5_comes 6 = .ok (.istore_n 3, 1) := by decide +kernel
theorem dX5_comes_7 : decode cX5_comes 7 = .ok (.iconst 0, 1) := by decide +kernel
theorem dX5_comes_8 : decode cX5_comes 8 = .ok (.istore 4, 2) := by decide +kernel
theorem dX5_comes_10 : decode cX5_comes 10 = .ok (.iload 4, 2) := by decide +kernel
theorem dX5_comes_12 : decode cX5_comes 12 = .ok (.iconst 5, 1) := by decide +kernel
theorem dX5_comes_13 : decode cX5_comes 13 = .ok (.if_icmp .gt 17, 3) := by decide +kernel
theorem dX5_comes_16 : decode cX5_comes 16 = .ok (.aload_n 0, 1) := by decide +kernel
theorem dX5_comes_17 : decode cX5_comes 17 = .ok (.iload_n 3, 1) := by decide +kernel
theorem dX5_comes_18 : decode cX5_comes 18 = .ok (.iload 4, 2) := by decide +kernel
theorem dX5_comes_20 : decode cX5_comes 20 = .ok (.iconst 0, 1) := by decide +kernel
theorem dX5_comes_21 : decode cX5_comes 21 = .ok (.invokevirtual 125, 3) := by decide +kernel
theorem dX5_comes_24 : decode cX5_comes 24 = .ok (.iinc 4 1, 3) := by decide +kernel
theorem dX5_comes_27 : decode cX5_comes 27 = .ok (.goto (-17), 3) := by decide +kernel
theorem dX5_comes_30 : decode cX5_comes 30 = .ok (.aload_n 0, 1) := by decide +kernel
theorem dX5_comes_31 : decode cX5_comes 31 = .ok (.iload_n 3, 1) := by decide +kernel
theorem dX5_comes_32 : decode cX5_comes 32 = .ok (.iconst 0, 1) := by decide +kernel
theorem dX5_comes_33 : decode cX5_comes 33 = .ok (.iload_n 1, 1) := by decide +kernel
theorem dX5_comes_34 : decode cX5_comes 34 = .ok (.invokevirtual 125, 3) := by decide +kernel
theorem dX5_comes_37 : decode cX5_comes 37 = .ok (.aload_n 0, 1) := by decide +kernel
theorem dX5_comes_38 : decode cX5_comes 38 = .ok (.iload_n 3, 1) := by decide +kernel
theorem dX5_comes_39 : decode cX5_comes 39 = .ok (.iconst 1, 1) := by decide +kernel
theorem dX5_comes_40 : decode cX5_comes 40 = .ok (.iload_n 2, 1) := by decide +kernel
theorem dX5_comes_41 : decode cX5_comes 41 = .ok (.invokevirtual 125, 3) := by decide +kernel
theorem dX5_comes_44 : decode cX5_comes 44 = .ok (.aload_n 0, 1) := by decide +kernel
theorem dX5_comes_45 : decode cX5_comes 45 = .ok (.iload_n 3, 1) := by decide +kernel
theorem dX5_comes_46 : decode cX5_comes 46 = .ok (.iconst 2, 1) := by decide +kernel
theorem dX5_comes_47 : decode cX5_comes 47 = .ok (.bipush 20, 2) := by decide +kernel
theorem dX5_comes_49 : decode cX5_comes 49 = .ok (.invokevirtual 125, 3) := by decide +kernel
theorem dX5_comes_52 : decode cX5_comes 52 = .ok (.aload_n 0, 1) := by decide +kernel
theorem dX5_comes_53 : decode cX5_comes 53 = .ok (.getfield 7, 3) := by decide +kernel
theorem dX5_comes_56 : decode cX5_comes 56 = .ok (.iconst 0, 1) := by decide +kernel
theorem dX5_comes_57 : decode cX5_comes 57 = .ok (.dup2, 1) := by decide +kernel
theorem dX5_comes_58 : decode cX5_comes 58 = .ok (.iaload, 1) := by decide +kernel
theorem dX5_comes_59 : decode cX5_comes 59 = .ok (.iconst 1, 1) := by decide +kernel
theorem dX5_comes_60 : decode cX5_comes 60 = .ok (.iadd, 1) := by decide +kernel
theorem dX5_comes_61 : decode cX5_comes 61 = .ok (.iastore, 1) := by decide +kernel
theorem dX5_comes_62 : decode cX5_comes 62 = .ok (.iload_n 3, 1) := by decide +kernel
theorem dX5_comes_63 : decode cX5_comes 63 = .ok (.ireturn, 1) := by decide +kernel
theorem dX5_potter_0 : decode cX5_potter 0 = .ok (.iload_n 1, 1) := by decide +kernel
theorem dX5_potter_1 : decode cX5_potter 1 = .ok (.i2l, 1) := by decide +kernel
theorem dX5_potter_2 : decode cX5_potter 2 = .ok (.lconst 0, 1) := by decide +kernel
theorem dX5_potter_3 : decode cX5_potter 3 = .ok (.ldc2_w 128, 3) := by decide +kernel
theorem dX5_potter_6 : decode cX5_potter 6 = .ok (.invokestatic 42, 3) := by decide +kernel
theorem dX5_potter_9 : decode cX5_potter 9 = .ok (.ifCond .eq 15, 3) := by decide +kernel
theorem dX5_potter_12 : decode cX5_potter 12 = .ok (.iload_n 2, 1) := by decide +kernel
theorem dX5_potter_13 : decode cX5_potter 13 = .ok (.i2l, 1) := by decide +kernel
theorem dX5_potter_14 : decode cX5_potter 14 = .ok (.lconst 0, 1) := by decide +kernel
theorem dX5_potter_15 : decode cX5_potter 15 = .ok (.ldc2_w 130, 3) := by decide +kernel
theorem dX5_potter_18 : decode cX5_potter 18 = .ok (.invokestatic 42, 3) := by decide +kernel
theorem dX5_potter_21 : decode cX5_potter 21 = .ok (.ifCond .ne 9, 3) := by decide +kernel
theorem dX5_potter_24 : decode cX5_potter 24 = .ok (.aload_n 0, 1) := by decide +kernel
theorem dX5_potter_25 : decode cX5_potter 25 = .ok (.iconst 0, 1) := by decide +kernel
theorem dX5_potter_26 : decode cX5_potter 26 = .ok (.invokevirtual 118, 3) := by decide +kernel
theorem dX5_potter_29 : decode cX5_potter 29 = .ok (.ireturn, 1) := by decide +kernel
theorem dX5_potter_30 : decode cX5_potter 30 = .ok (.aload_n 0, 1) := by decide +kernel
theorem dX5_potter_31 : decode cX5_potter 31 = .ok (.getfield 7, 3) := by decide +kernel
theorem dX5_potter_34 : decode cX5_potter 34 = .ok (.iconst 0, 1) := by decide +kernel
theorem dX5_potter_35 : decode cX5_potter 35 = .ok (.iaload, 1) := by decide +kernel
theorem dX5_potter_36 : decode cX5_potter 36 = .ok (.bipush 8, 2) := by decide +kernel
theorem dX5_potter_38 : decode cX5_potter 38 = .ok (.if_icmp .ne 11, 3) := by decide +kernel
theorem dX5_potter_41 : decode cX5_potter 41 = .ok (.aload_n 0, 1) := by decide +kernel
theorem dX5_potter_42 : decode cX5_potter 42 = .ok (.iconst 1, 1) := by decide +kernel
theorem dX5_potter_43 : decode cX5_potter 43 = .ok (.invokevirtual 118, 3) := by decide +kernel
theorem dX5_potter_46 : decode cX5_potter 46 = .ok (.goto 9, 3) := by decide +kernel
theorem dX5_potter_49 : decode cX5_potter 49 = .ok (.aload_n 0, 1) := by decide +kernel
theorem dX5_potter_50 : decode cX5_potter 50 = .ok (.iload_n 1, 1) := by decide +kernel
theorem dX5_potter_51 : decode cX5_potter 51 = .ok (.iload_n 2, 1) := by decide +kernel
theorem dX5_potter_52 : decode cX5_potter 52 = .ok (.invokevirtual 132, 3) := by decide +kernel
theorem dX5_potter_55 : decode cX5_potter 55 = .ok (.ireturn, 1) := by decide +kernel
theorem dX5_of_0 : decode cX5_of 0 = .ok (.aload_n 0, 1) := by decide +kernel
theorem dX5_of_1 : decode cX5_of 1 = .ok (.iload_n 1, 1) := by decide +kernel
theorem dX5_of_2 : decode cX5_of 2 = .ok (.invokevirtual 46, 3) := by decide +kernel
theorem dX5_of_5 : decode cX5_of 5 = .ok (.ifCond .eq 15, 3) := by decide +kernel
theorem dX5_of_8 : decode cX5_of 8 = .ok (.iload_n 2, 1) := by decide +kernel
theorem dX5_of_9 : decode cX5_of 9 = .ok (.i2l, 1) := by decide +kernel
theorem dX5_of_10 : decode cX5_of 10 = .ok (.lconst 0, 1) := by decide +kernel
theorem dX5_of_11 : decode cX5_of 11 = .ok (.ldc2_w 135, 3) := by decide +kernel
theorem dX5_of_14 : decode cX5_of 14 = .ok (.invokestatic 42, 3) := by decide +kernel
theorem dX5_of_17 : decode cX5_of 17 = .ok (.ifCond .ne 9, 3) := by decide +kernel
theorem dX5_of_20 : decode cX5_of 20 = .ok (.aload_n 0, 1) := by decide +kernel
theorem dX5_of_21 : decode cX5_of 21 = .ok (.iconst 0, 1) := by decide +kernel
theorem dX5_of_22 : decode cX5_of 22 = .ok (.invokevirtual 118, 3) := by decide +kernel
theorem dX5_of_25 : decode cX5_of 25 = .ok (.ireturn, 1) := by decide +kernel
theorem dX5_of_26 : decode cX5_of 26 = .ok (.iload_n 2, 1) := by decide +kernel
theorem dX5_of_27 : decode cX5_of 27 = .ok (.tableswitch 53 6 9 #[29, 35, 41, 47], 29) := by decide +kernel
theorem dX5_of_56 : decode cX5_of 56 = .ok (.aload_n 0, 1) := by decide +kernel
theorem dX5_of_57 : decode cX5_of 57 = .ok (.iload_n 1, 1) := by decide +kernel
theorem dX5_of_58 : decode cX5_of 58 = .ok (.invokevirtual 61, 3) := by decide +kernel
theorem dX5_of_61 : decode cX5_of 61 = .ok (.ireturn, 1) := by decide +kernel
theorem dX5_of_62 : decode cX5_of 62 = .ok (.aload_n 0, 1) := by decide +kernel
theorem dX5_of_63 : decode cX5_of 63 = .ok (.iload_n 1, 1) := by decide +kernel
theorem dX5_of_64 : decode cX5_of 64 = .ok (.invokevirtual 84, 3) := by decide +kernel
theorem dX5_of_67 : decode cX5_of 67 = .ok (.ireturn, 1) := by decide +kernel
theorem dX5_of_68 : decode cX5_of 68 = .ok (.aload_n 0, 1) := by decide +kernel
theorem dX5_of_69 : decode cX5_of 69 = .ok (.iload_n 1, 1) := by decide +kernel
theorem dX5_of_70 : decode cX5_of 70 = .ok (.invokevirtual 81, 3) := by decide +kernel
theorem dX5_of_73 : decode cX5_of 73 = .ok (.ireturn, 1) := by decide +kernel
theorem dX5_of_74 : decode cX5_of 74 = .ok (.aload_n 0, 1) := by decide +kernel
theorem dX5_of_75 : decode cX5_of 75 = .ok (.iload_n 1, 1) := by decide +kernel
theorem dX5_of_76 : decode cX5_of 76 = .ok (.invokevirtual 78, 3) := by decide +kernel
theorem dX5_of_79 : decode cX5_of 79 = .ok (.ireturn, 1) := by decide +kernel
theorem dX5_of_80 : decode cX5_of 80 = .ok (.aload_n 0, 1) := by decide +kernel
theorem dX5_of_81 : decode cX5_of 81 = .ok (.iload_n 1, 1) := by decide +kernel
theorem dX5_of_82 : decode cX5_of 82 = .ok (.iload_n 2, 1) := by decide +kernel
theorem dX5_of_83 : decode cX5_of 83 = .ok (.invokevirtual 54, 3) := by decide +kernel
theorem dX5_of_86 : decode cX5_of 86 = .ok (.ireturn, 1) := by decide +kernel
theorem dX5_mostOf_0 : decode cX5_mostOf 0 = .ok (.iload_n 0, 1) := by decide +kernel
theorem dX5_mostOf_1 : decode cX5_mostOf 1 = .ok (.ifCond .ne 8, 3) := by decide +kernel
theorem dX5_mostOf_4 : decode cX5_mostOf 4 = .ok (.bipush 6, 2) := by decide +kernel
theorem dX5_mostOf_6 : decode cX5_mostOf 6 = .ok (.goto 16, 3) := by decide +kernel
theorem dX5_mostOf_9 : decode cX5_mostOf 9 = .ok (.iload_n 0, 1) := by decide +kernel
theorem dX5_mostOf_10 : decode cX5_mostOf 10 = .ok (.iconst 4, 1) := by decide +kernel
theorem dX5_mostOf_11 : decode cX5_mostOf 11 = .ok (.if_icmp .ge 8, 3) := by decide +kernel
theorem dX5_mostOf_14 : decode cX5_mostOf 14 = .ok (.bipush 99, 2) := by decide +kernel
theorem dX5_mostOf_16 : decode cX5_mostOf 16 = .ok (.goto 6, 3) := by decide +kernel
theorem dX5_mostOf_19 : decode cX5_mostOf 19 = .ok (.sipush 9999, 3) := by decide +kernel
theorem dX5_mostOf_22 : decode cX5_mostOf 22 = .ok (.ireturn, 1) := by decide +kernel
theorem dX5_change_0 : decode cX5_change 0 = .ok (.aload_n 0, 1) := by decide +kernel
theorem dX5_change_1 : decode cX5_change 1 = .ok (.iload_n 1, 1) := by decide +kernel
theorem dX5_change_2 : decode cX5_change 2 = .ok (.invokevirtual 46, 3) := by decide +kernel
theorem dX5_change_5 : decode cX5_change 5 = .ok (.ifCond .eq 46, 3) := by decide +kernel
theorem dX5_change_8 : decode cX5_change 8 = .ok (.iload_n 2, 1) := by decide +kernel
theorem dX5_change_9 : decode cX5_change 9 = .ok (.i2l, 1) := by decide +kernel
theorem dX5_change_10 : decode cX5_change 10 = .ok (.lconst 0, 1) := by decide +kernel
theorem dX5_change_11 : decode cX5_change 11 = .ok (.ldc2_w 121, 3) := by decide +kernel
theorem dX5_change_14 : decode cX5_change 14 = .ok (.invokestatic 42, 3) := by decide +kernel
theorem dX5_change_17 : decode cX5_change 17 = .ok (.ifCond .eq 34, 3) := by decide +kernel
theorem dX5_change_20 : decode cX5_change 20 = .ok (.iload_n 3, 1) := by decide +kernel
theorem dX5_change_21 : decode cX5_change 21 = .ok (.i2l, 1) := by decide +kernel
theorem dX5_change_22 : decode cX5_change 22 = .ok (.lconst 0, 1) := by decide +kernel
theorem dX5_change_23 : decode cX5_change 23 = .ok (.iload_n 2, 1) := by decide +kernel
theorem dX5_change_24 : decode cX5_change 24 = .ok (.invokestatic 137, 3) := by decide +kernel
theorem dX5_change_27 : decode cX5_change 27 = .ok (.i2l, 1) := by decide +kernel
theorem dX5_change_28 : decode cX5_change 28 = .ok (.invokestatic 42, 3) := by decide +kernel
theorem dX5_change_31 : decode cX5_change 31 = .ok (.ifCond .eq 20, 3) := by decide +kernel
theorem dX5_change_34 : decode cX5_change 34 = .ok (.aload_n 0, 1) := by decide +kernel
theorem dX5_change_35 : decode cX5_change 35 = .ok (.bipush 13, 2) := by decide +kernel
theorem dX5_change_37 : decode cX5_change 37 = .ok (.bipush 8, 2) := by decide +kernel
theorem dX5_change_39 : decode cX5_change 39 = .ok (.iload_n 2, 1) := by decide +kernel
theorem dX5_change_40 : decode cX5_change 40 = .ok (.imul, 1) := by decide +kernel
theorem dX5_change_41 : decode cX5_change 41 = .ok (.iadd, 1) := by decide +kernel
theorem dX5_change_42 : decode cX5_change 42 = .ok (.iload_n 1, 1) := by decide +kernel
theorem dX5_change_43 : decode cX5_change 43 = .ok (.iadd, 1) := by decide +kernel
theorem dX5_change_44 : decode cX5_change 44 = .ok (.iload_n 3, 1) := by decide +kernel
theorem dX5_change_45 : decode cX5_change 45 = .ok (.invokevirtual 115, 3) := by decide +kernel
theorem dX5_change_48 : decode cX5_change 48 = .ok (.goto 8, 3) := by decide +kernel
theorem dX5_change_51 : decode cX5_change 51 = .ok (.aload_n 0, 1) := by decide +kernel
theorem dX5_change_52 : decode cX5_change 52 = .ok (.iconst 0, 1) := by decide +kernel
theorem dX5_change_53 : decode cX5_change 53 = .ok (.invokevirtual 118, 3) := by decide +kernel
theorem dX5_change_56 : decode cX5_change 56 = .ok (.ireturn, 1) := by decide +kernel
theorem dX5_rift_0 : decode cX5_rift 0 = .ok (.aload_n 0, 1) := by decide +kernel
theorem dX5_rift_1 : decode cX5_rift 1 = .ok (.iload_n 1, 1) := by decide +kernel
theorem dX5_rift_2 : decode cX5_rift 2 = .ok (.iload_n 2, 1) := by decide +kernel
theorem dX5_rift_3 : decode cX5_rift 3 = .ok (.invokevirtual 103, 3) := by decide +kernel
theorem dX5_rift_6 : decode cX5_rift 6 = .ok (.ifCond .eq 28, 3) := by decide +kernel
theorem dX5_rift_9 : decode cX5_rift 9 = .ok (.iload_n 3, 1) := by decide +kernel
theorem dX5_rift_10 : decode cX5_rift 10 = .ok (.i2l, 1) := by decide +kernel
theorem dX5_rift_11 : decode cX5_rift 11 = .ok (.lconst 0, 1) := by decide +kernel
theorem dX5_rift_12 : decode cX5_rift 12 = .ok (.ldc2_w 130, 3) := by decide +kernel
theorem dX5_rift_15 : decode cX5_rift 15 = .ok (.invokestatic 42, 3) := by decide +kernel
theorem dX5_rift_18 : decode cX5_rift 18 = .ok (.ifCond .eq 16, 3) := by decide +kernel
theorem dX5_rift_21 : decode cX5_rift 21 = .ok (.aload_n 0, 1) := by decide +kernel
theorem dX5_rift_22 : decode cX5_rift 22 = .ok (.iload_n 1, 1) := by decide +kernel
theorem dX5_rift_23 : decode cX5_rift 23 = .ok (.iload_n 2, 1) := by decide +kernel
theorem dX5_rift_24 : decode cX5_rift 24 = .ok (.invokestatic 58, 3) := by decide +kernel
theorem dX5_rift_27 : decode cX5_rift 27 = .ok (.iload_n 3, 1) := by decide +kernel
theorem dX5_rift_28 : decode cX5_rift 28 = .ok (.invokevirtual 115, 3) := by decide +kernel
theorem dX5_rift_31 : decode cX5_rift 31 = .ok (.goto 8, 3) := by decide +kernel
theorem dX5_rift_34 : decode cX5_rift 34 = .ok (.aload_n 0, 1) := by decide +kernel
theorem dX5_rift_35 : decode cX5_rift 35 = .ok (.iconst 0, 1) := by decide +kernel
theorem dX5_rift_36 : decode cX5_rift 36 = .ok (.invokevirtual 118, 3) := by decide +kernel
theorem dX5_rift_39 : decode cX5_rift 39 = .ok (.ireturn, 1) := by decide +kernel
theorem dX5_two_0 : decode cX5_two 0 = .ok (.aload_n 0, 1) := by decide +kernel
theorem dX5_two_1 : decode cX5_two 1 = .ok (.iload_n 1, 1) := by decide +kernel
theorem dX5_two_2 : decode cX5_two 2 = .ok (.iload_n 2, 1) := by decide +kernel
theorem dX5_two_3 : decode cX5_two 3 = .ok (.invokevirtual 103, 3) := by decide +kernel
theorem dX5_two_6 : decode cX5_two 6 = .ok (.ifCond .eq 15, 3) := by decide +kernel
theorem dX5_two_9 : decode cX5_two 9 = .ok (.iload_n 3, 1) := by decide +kernel
theorem dX5_two_10 : decode cX5_two 10 = .ok (.i2l, 1) := by decide +kernel
theorem dX5_two_11 : decode cX5_two 11 = .ok (.lconst 0, 1) := by decide +kernel
theorem dX5_two_12 : decode cX5_two 12 = .ok (.ldc2_w 140, 3) := by decide +kernel
theorem dX5_two_15 : decode cX5_two 15 = .ok (.invokestatic 42, 3) := by decide +kernel
theorem dX5_two_18 : decode cX5_two 18 = .ok (.ifCond .ne 9, 3) := by decide +kernel
theorem dX5_two_21 : decode cX5_two 21 = .ok (.aload_n 0, 1) := by decide +kernel
theorem dX5_two_22 : decode cX5_two 22 = .ok (.iconst 0, 1) := by decide +kernel
theorem dX5_two_23 : decode cX5_two 23 = .ok (.invokevirtual 118, 3) := by decide +kernel
theorem dX5_two_26 : decode cX5_two 26 = .ok (.ireturn, 1) := by decide +kernel
theorem dX5_two_27 : decode cX5_two 27 = .ok (.iload_n 3, 1) := by decide +kernel
theorem dX5_two_28 : decode cX5_two 28 = .ok (.ifCond .ne 16, 3) := by decide +kernel
theorem dX5_two_31 : decode cX5_two 31 = .ok (.aload_n 0, 1) := by decide +kernel
theorem dX5_two_32 : decode cX5_two 32 = .ok (.getfield 7, 3) := by decide +kernel
theorem dX5_two_35 : decode cX5_two 35 = .ok (.iload_n 1, 1) := by decide +kernel
theorem dX5_two_36 : decode cX5_two 36 = .ok (.iload_n 2, 1) := by decide +kernel
theorem dX5_two_37 : decode cX5_two 37 = .ok (.invokestatic 58, 3) := by decide +kernel
theorem dX5_two_40 : decode cX5_two 40 = .ok (.iaload, 1) := by decide +kernel
theorem dX5_two_41 : decode cX5_two 41 = .ok (.goto 45, 3) := by decide +kernel
theorem dX5_two_44 : decode cX5_two 44 = .ok (.iload_n 3, 1) := by decide +kernel
theorem dX5_two_45 : decode cX5_two 45 = .ok (.iconst 1, 1) := by decide +kernel
theorem dX5_two_46 : decode cX5_two 46 = .ok (.if_icmp .ne 12, 3) := by decide +kernel
theorem dX5_two_49 : decode cX5_two 49 = .ok (.aload_n 0, 1) := by decide +kernel
theorem dX5_two_50 : decode cX5_two 50 = .ok (.iload_n 1, 1) := by decide +kernel
theorem dX5_two_51 : decode cX5_two 51 = .ok (.iload_n 2, 1) := by decide +kernel
theorem dX5_two_52 : decode cX5_two 52 = .ok (.invokevirtual 65, 3) := by decide +kernel
theorem dX5_two_55 : decode cX5_two 55 = .ok (.goto 31, 3) := by decide +kernel
theorem dX5_two_58 : decode cX5_two 58 = .ok (.iload_n 3, 1) := by decide +kernel
theorem dX5_two_59 : decode cX5_two 59 = .ok (.iconst 2, 1) := by decide +kernel
theorem dX5_two_60 : decode cX5_two 60 = .ok (.if_icmp .ne 12, 3) := by decide +kernel
theorem dX5_two_63 : decode cX5_two 63 = .ok (.aload_n 0, 1) := by decide +kernel
theorem dX5_two_64 : decode cX5_two 64 = .ok (.iload_n 1, 1) := by decide +kernel
theorem dX5_two_65 : decode cX5_two 65 = .ok (.iload_n 2, 1) := by decide +kernel
theorem dX5_two_66 : decode cX5_two 66 = .ok (.invokevirtual 68, 3) := by decide +kernel
theorem dX5_two_69 : decode cX5_two 69 = .ok (.goto 17, 3) := by decide +kernel
theorem dX5_two_72 : decode cX5_two 72 = .ok (.aload_n 0, 1) := by decide +kernel
theorem dX5_two_73 : decode cX5_two 73 = .ok (.iload_n 1, 1) := by decide +kernel
theorem dX5_two_74 : decode cX5_two 74 = .ok (.iload_n 2, 1) := by decide +kernel
theorem dX5_two_75 : decode cX5_two 75 = .ok (.invokevirtual 87, 3) := by decide +kernel
theorem dX5_two_78 : decode cX5_two 78 = .ok (.ifCond .eq 7, 3) := by decide +kernel
theorem dX5_two_81 : decode cX5_two 81 = .ok (.iconst 1, 1) := by decide +kernel
theorem dX5_two_82 : decode cX5_two 82 = .ok (.goto 4, 3) := by decide +kernel
theorem dX5_two_85 : decode cX5_two 85 = .ok (.iconst 0, 1) := by decide +kernel
theorem dX5_two_86 : decode cX5_two 86 = .ok (.ireturn, 1) := by decide +kernel
theorem dX5_go_0 : decode cX5_go 0 = .ok (.iload_n 1, 1) := by decide +kernel
theorem dX5_go_1 : decode cX5_go 1 = .ok (.i2l, 1) := by decide +kernel
theorem dX5_go_2 : decode cX5_go 2 = .ok (.lconst 1, 1) := by decide +kernel
theorem dX5_go_3 : decode cX5_go 3 = .ok (.ldc2_w 142, 3) := by decide +kernel
theorem dX5_go_6 : decode cX5_go 6 = .ok (.invokestatic 42, 3) := by decide +kernel
theorem dX5_go_9 : decode cX5_go 9 = .ok (.ifCond .ne 9, 3) := by decide +kernel
theorem dX5_go_12 : decode cX5_go 12 = .ok (.aload_n 0, 1) := by decide +kernel
theorem dX5_go_13 : decode cX5_go 13 = .ok (.iconst 0, 1) := by decide +kernel
theorem dX5_go_14 : decode cX5_go 14 = .ok (.invokevirtual 118, 3) := by decide +kernel
theorem dX5_go_17 : decode cX5_go 17 = .ok (.ireturn, 1) := by decide +kernel
theorem dX5_go_18 : decode cX5_go 18 = .ok (.aload_n 0, 1) := by decide +kernel
theorem dX5_go_19 : decode cX5_go 19 = .ok (.getfield 7, 3) := by decide +kernel
theorem dX5_go_22 : decode cX5_go 22 = .ok (.iconst 1, 1) := by decide +kernel
theorem dX5_go_23 : decode cX5_go 23 = .ok (.iaload, 1) := by decide +kernel
theorem dX5_go_24 : decode cX5_go 24 = .ok (.iload_n 1, 1) := by decide +kernel
theorem dX5_go_25 : decode cX5_go 25 = .ok (.iadd, 1) := by decide +kernel
theorem dX5_go_26 : decode cX5_go 26 = .ok (.ldc 98, 2) := by decide +kernel
theorem dX5_go_28 : decode cX5_go 28 = .ok (.if_icmp .le 9, 3) := by decide +kernel
theorem dX5_go_31 : decode cX5_go 31 = .ok (.aload_n 0, 1) := by decide +kernel
theorem dX5_go_32 : decode cX5_go 32 = .ok (.iconst 4, 1) := by decide +kernel
theorem dX5_go_33 : decode cX5_go 33 = .ok (.invokevirtual 118, 3) := by decide +kernel
theorem dX5_go_36 : decode cX5_go 36 = .ok (.ireturn, 1) := by decide +kernel
theorem dX5_go_37 : decode cX5_go 37 = .ok (.aload_n 0, 1) := by decide +kernel
theorem dX5_go_38 : decode cX5_go 38 = .ok (.iload_n 1, 1) := by decide +kernel
theorem dX5_go_39 : decode cX5_go 39 = .ok (.invokevirtual 144, 3) := by decide +kernel
theorem dX5_go_42 : decode cX5_go 42 = .ok (.aload_n 0, 1) := by decide +kernel
theorem dX5_go_43 : decode cX5_go 43 = .ok (.getfield 7, 3) := by decide +kernel
theorem dX5_go_46 : decode cX5_go 46 = .ok (.iconst 4, 1) := by decide +kernel
theorem dX5_go_47 : decode cX5_go 47 = .ok (.iaload, 1) := by decide +kernel
theorem dX5_go_48 : decode cX5_go 48 = .ok (.ireturn, 1) := by decide +kernel
theorem dX5_farthest_0 : decode cX5_farthest 0 = .ok (.iconst (-1), 1) := by decide +kernel
theorem dX5_farthest_1 : decode cX5_farthest 1 = .ok (.istore_n 1, 1) := by decide +kernel
theorem dX5_farthest_2 : decode cX5_farthest 2 = .ok (.iconst 0, 1) := by decide +kernel
theorem dX5_farthest_3 : decode cX5_farthest 3 = .ok (.istore_n 2, 1) := by decide +kernel
theorem dX5_farthest_4 : decode cX5_farthest 4 = .ok (.iload_n 2, 1) := by decide +kernel
theorem dX5_farthest_5 : decode cX5_farthest 5 = .ok (.aload_n 0, 1) := by decide +kernel
theorem dX5_farthest_6 : decode cX5_farthest 6 = .ok (.getfield 7, 3) := by decide +kernel
theorem dX5_farthest_9 : decode cX5_farthest 9 = .ok (.iconst 0, 1) := by decide +kernel
theorem dX5_farthest_10 : decode cX5_farthest 10 = .ok (.iaload, 1) := by decide +kernel
theorem dX5_farthest_11 : decode cX5_farthest 11 = .ok (.if_icmp .ge 70, 3) := by decide +kernel
theorem dX5_farthest_14 : decode cX5_farthest 14 = .ok (.iload_n 2, 1) := by decide +kernel
theorem dX5_farthest_15 : decode cX5_farthest 15 = .ok (.iconst 1, 1) := by decide +kernel
theorem dX5_farthest_16 : decode cX5_farthest 16 = .ok (.iadd, 1) := by decide +kernel
theorem dX5_farthest_17 : decode cX5_farthest 17 = .ok (.istore_n 3, 1) := by decide +kernel
theorem dX5_farthest_18 : decode cX5_farthest 18 = .ok (.iload_n 3, 1) := by decide +kernel
theorem dX5_farthest_19 : decode cX5_farthest 19 = .ok (.aload_n 0, 1) := by decide +kernel
theorem dX5_farthest_20 : decode cX5_farthest 20 = .ok (.getfield 7, 3) := by decide +kernel
theorem dX5_farthest_23 : decode cX5_farthest 23 = .ok (.iconst 0, 1) := by decide +kernel
theorem dX5_farthest_24 : decode cX5_farthest 24 = .ok (.iaload, 1) := by decide +kernel
theorem dX5_farthest_25 : decode cX5_farthest 25 = .ok (.if_icmp .ge 50, 3) := by decide +kernel
theorem dX5_farthest_28 : decode cX5_farthest 28 = .ok (.iload_n 1, 1) := by decide +kernel
theorem dX5_farthest_29 : decode cX5_farthest 29 = .ok (.ifCond .lt 29, 3) := by decide +kernel
theorem dX5_farthest_32 : decode cX5_farthest 32 = .ok (.aload_n 0, 1) := by decide +kernel
theorem dX5_farthest_33 : decode cX5_farthest 33 = .ok (.getfield 7, 3) := by decide +kernel
theorem dX5_farthest_36 : decode cX5_farthest 36 = .ok (.bipush 61, 2) := by decide +kernel
theorem dX5_farthest_38 : decode cX5_farthest 38 = .ok (.bipush 8, 2) := by decide +kernel
theorem dX5_farthest_40 : decode cX5_farthest 40 = .ok (.iload_n 2, 1) := by decide +kernel
theorem dX5_farthest_41 : decode cX5_farthest 41 = .ok (.imul, 1) := by decide +kernel
theorem dX5_farthest_42 : decode cX5_farthest 42 = .ok (.iadd, 1) := by decide +kernel
theorem dX5_farthest_43 : decode cX5_farthest 43 = .ok (.iload_n 3, 1) := by decide +kernel
theorem dX5_farthest_44 : decode cX5_farthest 44 = .ok (.iadd, 1) := by decide +kernel
theorem dX5_farthest_45 : decode cX5_farthest 45 = .ok (.iaload, 1) := by decide +kernel
theorem dX5_farthest_46 : decode cX5_farthest 46 = .ok (.aload_n 0, 1) := by decide +kernel
theorem dX5_farthest_47 : decode cX5_farthest 47 = .ok (.getfield 7, 3) := by decide +kernel
theorem dX5_farthest_50 : decode cX5_farthest 50 = .ok (.bipush 61, 2) := by decide +kernel
theorem dX5_farthest_52 : decode cX5_farthest 52 = .ok (.iload_n 1, 1) := by decide +kernel
theorem dX5_farthest_53 : decode cX5_farthest 53 = .ok (.iadd, 1) := by decide +kernel
theorem dX5_farthest_54 : decode cX5_farthest 54 = .ok (.iaload, 1) := by decide +kernel
theorem dX5_farthest_55 : decode cX5_farthest 55 = .ok (.if_icmp .le 12, 3) := by decide +kernel
theorem dX5_farthest_58 : decode cX5_farthest 58 = .ok (.bipush 8, 2) := by decide +kernel
theorem dX5_farthest_60 : decode cX5_farthest 60 = .ok (.iload_n 2, 1) := by decide +kernel
theorem dX5_farthest_61 : decode cX5_farthest 61 = .ok (.imul, 1) := by decide +kernel
theorem dX5_farthest_62 : decode cX5_farthest 62 = .ok (.iload_n 3, 1) := by decide +kernel
theorem dX5_farthest_63 : decode cX5_farthest 63 = .ok (.iadd, 1) := by decide +kernel
theorem dX5_farthest_64 : decode cX5_farthest 64 = .ok (.goto 4, 3) := by decide +kernel
theorem dX5_farthest_67 : decode cX5_farthest 67 = .ok (.iload_n 1, 1) := by decide +kernel
theorem dX5_farthest_68 : decode cX5_farthest 68 = .ok (.istore_n 1, 1) := by decide +kernel
theorem dX5_farthest_69 : decode cX5_farthest 69 = .ok (.iinc 3 1, 3) := by decide +kernel
theorem dX5_farthest_72 : decode cX5_farthest 72 = .ok (.goto (-54), 3) := by decide +kernel
theorem dX5_farthest_75 : decode cX5_farthest 75 = .ok (.iinc 2 1, 3) := by decide +kernel
theorem dX5_farthest_78 : decode cX5_farthest 78 = .ok (.goto (-74), 3) := by decide +kernel
theorem dX5_farthest_81 : decode cX5_farthest 81 = .ok (.iload_n 1, 1) := by decide +kernel
theorem dX5_farthest_82 : decode cX5_farthest 82 = .ok (.ireturn, 1) := by decide +kernel
theorem dX5_now_0 : decode cX5_now 0 = .ok (.iload_n 1, 1) := by decide +kernel
theorem dX5_now_1 : decode cX5_now 1 = .ok (.tableswitch 120 0 7 #[47, 54, 61, 68, 76, 82, 87, 93], 47) := by decide +kernel
theorem dX5_now_48 : decode cX5_now 48 = .ok (.aload_n 0, 1) := by decide +kernel
theorem dX5_now_49 : decode cX5_now 49 = .ok (.getfield 7, 3) := by decide +kernel
theorem dX5_now_52 : decode cX5_now 52 = .ok (.iconst 1, 1) := by decide +kernel
theorem dX5_now_53 : decode cX5_now 53 = .ok (.iaload, 1) := by decide +kernel
theorem dX5_now_54 : decode cX5_now 54 = .ok (.ireturn, 1) := by decide +kernel
theorem dX5_now_55 : decode cX5_now 55 = .ok (.aload_n 0, 1) := by decide +kernel
theorem dX5_now_56 : decode cX5_now 56 = .ok (.getfield 7, 3) := by decide +kernel
theorem dX5_now_59 : decode cX5_now 59 = .ok (.iconst 4, 1) := by decide +kernel
theorem dX5_now_60 : decode cX5_now 60 = .ok (.iaload, 1) := by decide +kernel
theorem dX5_now_61 : decode cX5_now 61 = .ok (.ireturn, 1) := by decide +kernel
theorem dX5_now_62 : decode cX5_now 62 = .ok (.aload_n 0, 1) := by decide +kernel
theorem dX5_now_63 : decode cX5_now 63 = .ok (.getfield 7, 3) := by decide +kernel
theorem dX5_now_66 : decode cX5_now 66 = .ok (.iconst 5, 1) := by decide +kernel
theorem dX5_now_67 : decode cX5_now 67 = .ok (.iaload, 1) := by decide +kernel
theorem dX5_now_68 : decode cX5_now 68 = .ok (.ireturn, 1) := by decide +kernel
theorem dX5_now_69 : decode cX5_now 69 = .ok (.aload_n 0, 1) := by decide +kernel
theorem dX5_now_70 : decode cX5_now 70 = .ok (.getfield 7, 3) := by decide +kernel
theorem dX5_now_73 : decode cX5_now 73 = .ok (.bipush 6, 2) := by decide +kernel
theorem dX5_now_75 : decode cX5_now 75 = .ok (.iaload, 1) := by decide +kernel
theorem dX5_now_76 : decode cX5_now 76 = .ok (.ireturn, 1) := by decide +kernel
theorem dX5_now_77 : decode cX5_now 77 = .ok (.aload_n 0, 1) := by decide +kernel
theorem dX5_now_78 : decode cX5_now 78 = .ok (.iconst 1, 1) := by decide +kernel
theorem dX5_now_79 : decode cX5_now 79 = .ok (.invokevirtual 147, 3) := by decide +kernel
theorem dX5_now_82 : decode cX5_now 82 = .ok (.ireturn, 1) := by decide +kernel
theorem dX5_now_83 : decode cX5_now 83 = .ok (.aload_n 0, 1) := by decide +kernel
theorem dX5_now_84 : decode cX5_now 84 = .ok (.invokevirtual 150, 3) := by decide +kernel
theorem dX5_now_87 : decode cX5_now 87 = .ok (.ireturn, 1) := by decide +kernel
theorem dX5_now_88 : decode cX5_now 88 = .ok (.aload_n 0, 1) := by decide +kernel
theorem dX5_now_89 : decode cX5_now 89 = .ok (.iconst 5, 1) := by decide +kernel
theorem dX5_now_90 : decode cX5_now 90 = .ok (.invokevirtual 147, 3) := by decide +kernel
theorem dX5_now_93 : decode cX5_now 93 = .ok (.ireturn, 1) := by decide +kernel
theorem dX5_now_94 : decode cX5_now 94 = .ok (.aload_n 0, 1) := by decide +kernel
theorem dX5_now_95 : decode cX5_now 95 = .ok (.aload_n 0, 1) := by decide +kernel
theorem dX5_now_96 : decode cX5_now 96 = .ok (.invokevirtual 99, 3) := by decide +kernel
theorem dX5_now_99 : decode cX5_now 99 = .ok (.bipush 10, 2) := by decide +kernel
theorem dX5_now_101 : decode cX5_now 101 = .ok (.idiv, 1) := by decide +kernel
theorem dX5_now_102 : decode cX5_now 102 = .ok (.aload_n 0, 1) := by decide +kernel
theorem dX5_now_103 : decode cX5_now 103 = .ok (.invokevirtual 99, 3) := by decide +kernel
theorem dX5_now_106 : decode cX5_now 106 = .ok (.bipush 10, 2) := by decide +kernel
theorem dX5_now_108 : decode cX5_now 108 = .ok (.irem, 1) := by decide +kernel
theorem dX5_now_109 : decode cX5_now 109 = .ok (.invokevirtual 103, 3) := by decide +kernel
theorem dX5_now_112 : decode cX5_now 112 = .ok (.ifCond .eq 7, 3) := by decide +kernel
theorem dX5_now_115 : decode cX5_now 115 = .ok (.iconst 1, 1) := by decide +kernel
theorem dX5_now_116 : decode cX5_now 116 = .ok (.goto 4, 3) := by decide +kernel
theorem dX5_now_119 : decode cX5_now 119 = .ok (.iconst 0, 1) := by decide +kernel
theorem dX5_now_120 : decode cX5_now 120 = .ok (.ireturn, 1) := by decide +kernel
theorem dX5_now_121 : decode cX5_now 121 = .ok (.aload_n 0, 1) := by decide +kernel
theorem dX5_now_122 : decode cX5_now 122 = .ok (.iconst 0, 1) := by decide +kernel
theorem dX5_now_123 : decode cX5_now 123 = .ok (.invokevirtual 118, 3) := by decide +kernel
theorem dX5_now_126 : decode cX5_now 126 = .ok (.ireturn, 1) := by decide +kernel
theorem dX5_behind_0 : decode cX5_behind 0 = .ok (.aload_n 0, 1) := by decide +kernel
theorem dX5_behind_1 : decode cX5_behind 1 = .ok (.iload_n 1, 1) := by decide +kernel
theorem dX5_behind_2 : decode cX5_behind 2 = .ok (.invokevirtual 144, 3) := by decide +kernel
theorem dX5_behind_5 : decode cX5_behind 5 = .ok (.aload_n 0, 1) := by decide +kernel
theorem dX5_behind_6 : decode cX5_behind 6 = .ok (.getfield 7, 3) := by decide +kernel
theorem dX5_behind_9 : decode cX5_behind 9 = .ok (.iload_n 2, 1) := by decide +kernel
theorem dX5_behind_10 : decode cX5_behind 10 = .ok (.iaload, 1) := by decide +kernel
theorem dX5_behind_11 : decode cX5_behind 11 = .ok (.istore_n 3, 1) := by decide +kernel
theorem dX5_behind_12 : decode cX5_behind 12 = .ok (.aload_n 0, 1) := by decide +kernel
theorem dX5_behind_13 : decode cX5_behind 13 = .ok (.getfield 16, 3) := by decide +kernel
theorem dX5_behind_16 : decode cX5_behind 16 = .ok (.aload_n 0, 1) := by decide +kernel
theorem dX5_behind_17 : decode cX5_behind 17 = .ok (.getfield 7, 3) := by decide +kernel
theorem dX5_behind_20 : decode cX5_behind 20 = .ok (.invokestatic 153, 3) := by decide +kernel
theorem dX5_behind_23 : decode cX5_behind 23 = .ok (.iload_n 3, 1) := by decide +kernel
theorem dX5_behind_24 : decode cX5_behind 24 = .ok (.ireturn, 1) := by decide +kernel
theorem dX5_ahead_0 : decode cX5_ahead 0 = .ok (.aload_n 0, 1) := by decide +kernel
theorem dX5_ahead_1 : decode cX5_ahead 1 = .ok (.iload_n 1, 1) := by decide +kernel
theorem dX5_ahead_2 : decode cX5_ahead 2 = .ok (.invokevirtual 46, 3) := by decide +kernel
theorem dX5_ahead_5 : decode cX5_ahead 5 = .ok (.ifCond .eq 34, 3) := by decide +kernel
theorem dX5_ahead_8 : decode cX5_ahead 8 = .ok (.iload_n 2, 1) := by decide +kernel
theorem dX5_ahead_9 : decode cX5_ahead 9 = .ok (.iconst 1, 1) := by decide +kernel
theorem dX5_ahead_10 : decode cX5_ahead 10 = .ok (.if_icmp .eq 17, 3) := by decide +kernel
theorem dX5_ahead_13 : decode cX5_ahead 13 = .ok (.iload_n 2, 1) := by decide +kernel
theorem dX5_ahead_14 : decode cX5_ahead 14 = .ok (.i2l, 1) := by decide +kernel
theorem dX5_ahead_15 : decode cX5_ahead 15 = .ok (.ldc2_w 140, 3) := by decide +kernel
theorem dX5_ahead_18 : decode cX5_ahead 18 = .ok (.ldc2_w 128, 3) := by decide +kernel
theorem dX5_ahead_21 : decode cX5_ahead 21 = .ok (.invokestatic 42, 3) := by decide +kernel
theorem dX5_ahead_24 : decode cX5_ahead 24 = .ok (.ifCond .eq 15, 3) := by decide +kernel
theorem dX5_ahead_27 : decode cX5_ahead 27 = .ok (.iload_n 3, 1) := by decide +kernel
theorem dX5_ahead_28 : decode cX5_ahead 28 = .ok (.i2l, 1) := by decide +kernel
theorem dX5_ahead_29 : decode cX5_ahead 29 = .ok (.lconst 0, 1) := by decide +kernel
theorem dX5_ahead_30 : decode cX5_ahead 30 = .ok (.ldc2_w 157, 3) := by decide +kernel
theorem dX5_ahead_33 : decode cX5_ahead 33 = .ok (.invokestatic 42, 3) := by decide +kernel
theorem dX5_ahead_36 : decode cX5_ahead 36 = .ok (.ifCond .ne 9, 3) := by decide +kernel
theorem dX5_ahead_39 : decode cX5_ahead 39 = .ok (.aload_n 0, 1) := by decide +kernel
theorem dX5_ahead_40 : decode cX5_ahead 40 = .ok (.iconst 0, 1) := by decide +kernel
theorem dX5_ahead_41 : decode cX5_ahead 41 = .ok (.invokevirtual 118, 3) := by decide +kernel
theorem dX5_ahead_44 : decode cX5_ahead 44 = .ok (.ireturn, 1) := by decide +kernel
theorem dX5_ahead_45 : decode cX5_ahead 45 = .ok (.aload_n 0, 1) := by decide +kernel
theorem dX5_ahead_46 : decode cX5_ahead 46 = .ok (.getfield 7, 3) := by decide +kernel
theorem dX5_ahead_49 : decode cX5_ahead 49 = .ok (.aload_n 0, 1) := by decide +kernel
theorem dX5_ahead_50 : decode cX5_ahead 50 = .ok (.getfield 16, 3) := by decide +kernel
theorem dX5_ahead_53 : decode cX5_ahead 53 = .ok (.invokestatic 153, 3) := by decide +kernel
theorem dX5_ahead_56 : decode cX5_ahead 56 = .ok (.aload_n 0, 1) := by decide +kernel
theorem dX5_ahead_57 : decode cX5_ahead 57 = .ok (.iload_n 3, 1) := by decide +kernel
theorem dX5_ahead_58 : decode cX5_ahead 58 = .ok (.invokevirtual 144, 3) := by decide +kernel
theorem dX5_ahead_61 : decode cX5_ahead 61 = .ok (.iload_n 2, 1) := by decide +kernel
theorem dX5_ahead_62 : decode cX5_ahead 62 = .ok (.bipush 6, 2) := by decide +kernel
theorem dX5_ahead_64 : decode cX5_ahead 64 = .ok (.if_icmp .ne 11, 3) := by decide +kernel
theorem dX5_ahead_67 : decode cX5_ahead 67 = .ok (.aload_n 0, 1) := by decide +kernel
theorem dX5_ahead_68 : decode cX5_ahead 68 = .ok (.iload_n 1, 1) := by decide +kernel
theorem dX5_ahead_69 : decode cX5_ahead 69 = .ok (.invokevirtual 61, 3) := by decide +kernel
theorem dX5_ahead_72 : decode cX5_ahead 72 = .ok (.goto 9, 3) := by decide +kernel
theorem dX5_ahead_75 : decode cX5_ahead 75 = .ok (.aload_n 0, 1) := by decide +kernel
theorem dX5_ahead_76 : decode cX5_ahead 76 = .ok (.iload_n 1, 1) := by decide +kernel
theorem dX5_ahead_77 : decode cX5_ahead 77 = .ok (.iload_n 2, 1) := by decide +kernel
theorem dX5_ahead_78 : decode cX5_ahead 78 = .ok (.invokevirtual 54, 3) := by decide +kernel
theorem dX5_ahead_81 : decode cX5_ahead 81 = .ok (.istore 4, 2) := by decide +kernel
theorem dX5_ahead_83 : decode cX5_ahead 83 = .ok (.aload_n 0, 1) := by decide +kernel
theorem dX5_ahead_84 : decode cX5_ahead 84 = .ok (.getfield 16, 3) := by decide +kernel
theorem dX5_ahead_87 : decode cX5_ahead 87 = .ok (.aload_n 0, 1) := by decide +kernel
theorem dX5_ahead_88 : decode cX5_ahead 88 = .ok (.getfield 7, 3) := by decide +kernel
theorem dX5_ahead_91 : decode cX5_ahead 91 = .ok (.invokestatic 153, 3) := by decide +kernel
theorem dX5_ahead_94 : decode cX5_ahead 94 = .ok (.iload 4, 2) := by decide +kernel
theorem dX5_ahead_96 : decode cX5_ahead 96 = .ok (.ireturn, 1) := by decide +kernel
theorem dX5_terms_0 : decode cX5_terms 0 = .ok (.aload_n 0, 1) := by decide +kernel
theorem dX5_terms_1 : decode cX5_terms 1 = .ok (.iload_n 1, 1) := by decide +kernel
theorem dX5_terms_2 : decode cX5_terms 2 = .ok (.iload_n 2, 1) := by decide +kernel
theorem dX5_terms_3 : decode cX5_terms 3 = .ok (.invokevirtual 103, 3) := by decide +kernel
theorem dX5_terms_6 : decode cX5_terms 6 = .ok (.ifCond .eq 15, 3) := by decide +kernel
theorem dX5_terms_9 : decode cX5_terms 9 = .ok (.iload_n 3, 1) := by decide +kernel
theorem dX5_terms_10 : decode cX5_terms 10 = .ok (.i2l, 1) := by decide +kernel
theorem dX5_terms_11 : decode cX5_terms 11 = .ok (.lconst 0, 1) := by decide +kernel
theorem dX5_terms_12 : decode cX5_terms 12 = .ok (.ldc2_w 157, 3) := by decide +kernel
theorem dX5_terms_15 : decode cX5_terms 15 = .ok (.invokestatic 42, 3) := by decide +kernel
theorem dX5_terms_18 : decode cX5_terms 18 = .ok (.ifCond .ne 9, 3) := by decide +kernel
theorem dX5_terms_21 : decode cX5_terms 21 = .ok (.aload_n 0, 1) := by decide +kernel
theorem dX5_terms_22 : decode cX5_terms 22 = .ok (.iconst 0, 1) := by decide +kernel
theorem dX5_terms_23 : decode cX5_terms 23 = .ok (.invokevirtual 118, 3) := by decide +kernel
theorem dX5_terms_26 : decode cX5_terms 26 = .ok (.ireturn, 1) := by decide +kernel
theorem dX5_terms_27 : decode cX5_terms 27 = .ok (.aload_n 0, 1) := by decide +kernel
theorem dX5_terms_28 : decode cX5_terms 28 = .ok (.getfield 7, 3) := by decide +kernel
theorem dX5_terms_31 : decode cX5_terms 31 = .ok (.aload_n 0, 1) := by decide +kernel
theorem dX5_terms_32 : decode cX5_terms 32 = .ok (.getfield 16, 3) := by decide +kernel
theorem dX5_terms_35 : decode cX5_terms 35 = .ok (.invokestatic 153, 3) := by decide +kernel
theorem dX5_terms_38 : decode cX5_terms 38 = .ok (.aload_n 0, 1) := by decide +kernel
theorem dX5_terms_39 : decode cX5_terms 39 = .ok (.iload_n 3, 1) := by decide +kernel
theorem dX5_terms_40 : decode cX5_terms 40 = .ok (.iload_n 1, 1) := by decide +kernel
theorem dX5_terms_41 : decode cX5_terms 41 = .ok (.iload_n 2, 1) := by decide +kernel
theorem dX5_terms_42 : decode cX5_terms 42 = .ok (.invokestatic 58, 3) := by decide +kernel
theorem dX5_terms_45 : decode cX5_terms 45 = .ok (.invokevirtual 159, 3) := by decide +kernel
theorem dX5_terms_48 : decode cX5_terms 48 = .ok (.ireturn, 1) := by decide +kernel
theorem dX5_firstOf_0 : decode cX5_firstOf 0 = .ok (.aload_n 0, 1) := by decide +kernel
theorem dX5_firstOf_1 : decode cX5_firstOf 1 = .ok (.getfield 7, 3) := by decide +kernel
theorem dX5_firstOf_4 : decode cX5_firstOf 4 = .ok (.aload_n 0, 1) := by decide +kernel
theorem dX5_firstOf_5 : decode cX5_firstOf 5 = .ok (.getfield 16, 3) := by decide +kernel
theorem dX5_firstOf_8 : decode cX5_firstOf 8 = .ok (.invokestatic 153, 3) := by decide +kernel
theorem dX5_firstOf_11 : decode cX5_firstOf 11 = .ok (.iconst 0, 1) := by decide +kernel
theorem dX5_firstOf_12 : decode cX5_firstOf 12 = .ok (.istore 4, 2) := by decide +kernel
theorem dX5_firstOf_14 : decode cX5_firstOf 14 = .ok (.iload 4, 2) := by decide +kernel
theorem dX5_firstOf_16 : decode cX5_firstOf 16 = .ok (.sipush 200, 3) := by decide +kernel
theorem dX5_firstOf_19 : decode cX5_firstOf 19 = .ok (.if_icmp .ge 30, 3) := by decide +kernel
theorem dX5_firstOf_22 : decode cX5_firstOf 22 = .ok (.aload_n 0, 1) := by decide +kernel
theorem dX5_firstOf_23 : decode cX5_firstOf 23 = .ok (.getfield 7, 3) := by decide +kernel
theorem dX5_firstOf_26 : decode cX5_firstOf 26 = .ok (.iload_n 1, 1) := by decide +kernel
theorem dX5_firstOf_27 : decode cX5_firstOf 27 = .ok (.iaload, 1) := by decide +kernel
theorem dX5_firstOf_28 : decode cX5_firstOf 28 = .ok (.i2l, 1) := by decide +kernel
theorem dX5_firstOf_29 : decode cX5_firstOf 29 = .ok (.iload_n 2, 1) := by decide +kernel
theorem dX5_firstOf_30 : decode cX5_firstOf 30 = .ok (.i2l, 1) := by decide +kernel
theorem dX5_firstOf_31 : decode cX5_firstOf 31 = .ok (.iload_n 3, 1) := by decide +kernel
theorem dX5_firstOf_32 : decode cX5_firstOf 32 = .ok (.i2l, 1) := by decide +kernel
theorem dX5_firstOf_33 : decode cX5_firstOf 33 = .ok (.invokestatic 42, 3) := by decide +kernel
theorem dX5_firstOf_36 : decode cX5_firstOf 36 = .ok (.ifCond .ne 13, 3) := by decide +kernel
theorem dX5_firstOf_39 : decode cX5_firstOf 39 = .ok (.aload_n 0, 1) := by decide +kernel
theorem dX5_firstOf_40 : decode cX5_firstOf 40 = .ok (.invokevirtual 110, 3) := by decide +kernel
theorem dX5_firstOf_43 : decode cX5_firstOf 43 = .ok (.iinc 4 1, 3) := by decide +kernel
theorem dX5_firstOf_46 : decode cX5_firstOf 46 = .ok (.goto (-32), 3) := by decide +kernel
theorem dX5_firstOf_49 : decode cX5_firstOf 49 = .ok (.aload_n 0, 1) := by decide +kernel
theorem dX5_firstOf_50 : decode cX5_firstOf 50 = .ok (.getfield 7, 3) := by decide +kernel
theorem dX5_firstOf_53 : decode cX5_firstOf 53 = .ok (.iload_n 1, 1) := by decide +kernel
theorem dX5_firstOf_54 : decode cX5_firstOf 54 = .ok (.iaload, 1) := by decide +kernel
theorem dX5_firstOf_55 : decode cX5_firstOf 55 = .ok (.i2l, 1) := by decide +kernel
theorem dX5_firstOf_56 : decode cX5_firstOf 56 = .ok (.iload_n 2, 1) := by decide +kernel
theorem dX5_firstOf_57 : decode cX5_firstOf 57 = .ok (.i2l, 1) := by decide +kernel
theorem dX5_firstOf_58 : decode cX5_firstOf 58 = .ok (.iload_n 3, 1) := by decide +kernel
theorem dX5_firstOf_59 : decode cX5_firstOf 59 = .ok (.i2l, 1) := by decide +kernel
theorem dX5_firstOf_60 : decode cX5_firstOf 60 = .ok (.invokestatic 42, 3) := by decide +kernel
theorem dX5_firstOf_63 : decode cX5_firstOf 63 = .ok (.istore 5, 2) := by decide +kernel
theorem dX5_firstOf_65 : decode cX5_firstOf 65 = .ok (.aload_n 0, 1) := by decide +kernel
theorem dX5_firstOf_66 : decode cX5_firstOf 66 = .ok (.getfield 16, 3) := by decide +kernel
theorem dX5_firstOf_69 : decode cX5_firstOf 69 = .ok (.aload_n 0, 1) := by decide +kernel
theorem dX5_firstOf_70 : decode cX5_firstOf 70 = .ok (.getfield 7, 3) := by decide +kernel
theorem dX5_firstOf_73 : decode cX5_firstOf 73 = .ok (.invokestatic 153, 3) := by decide +kernel
theorem dX5_firstOf_76 : decode cX5_firstOf 76 = .ok (.iload 5, 2) := by decide +kernel
theorem dX5_firstOf_78 : decode cX5_firstOf 78 = .ok (.ifCond .eq 8, 3) := by decide +kernel
theorem dX5_firstOf_81 : decode cX5_firstOf 81 = .ok (.iload 4, 2) := by decide +kernel
theorem dX5_firstOf_83 : decode cX5_firstOf 83 = .ok (.goto 8, 3) := by decide +kernel
theorem dX5_firstOf_86 : decode cX5_firstOf 86 = .ok (.aload_n 0, 1) := by decide +kernel
theorem dX5_firstOf_87 : decode cX5_firstOf 87 = .ok (.iconst 3, 1) := by decide +kernel
theorem dX5_firstOf_88 : decode cX5_firstOf 88 = .ok (.invokevirtual 118, 3) := by decide +kernel
theorem dX5_firstOf_91 : decode cX5_firstOf 91 = .ok (.ireturn, 1) := by decide +kernel
theorem dX5_next_0 : decode cX5_next 0 = .ok (.iload_n 1, 1) := by decide +kernel
theorem dX5_next_1 : decode cX5_next 1 = .ok (.i2l, 1) := by decide +kernel
theorem dX5_next_2 : decode cX5_next 2 = .ok (.lconst 0, 1) := by decide +kernel
theorem dX5_next_3 : decode cX5_next 3 = .ok (.lconst 1, 1) := by decide +kernel
theorem dX5_next_4 : decode cX5_next 4 = .ok (.invokestatic 42, 3) := by decide +kernel
theorem dX5_next_7 : decode cX5_next 7 = .ok (.ifCond .eq 26, 3) := by decide +kernel
theorem dX5_next_10 : decode cX5_next 10 = .ok (.aload_n 0, 1) := by decide +kernel
theorem dX5_next_11 : decode cX5_next 11 = .ok (.iconst 5, 1) := by decide +kernel
theorem dX5_next_12 : decode cX5_next 12 = .ok (.iload_n 1, 1) := by decide +kernel
theorem dX5_next_13 : decode cX5_next 13 = .ok (.iadd, 1) := by decide +kernel
theorem dX5_next_14 : decode cX5_next 14 = .ok (.aload_n 0, 1) := by decide +kernel
theorem dX5_next_15 : decode cX5_next 15 = .ok (.getfield 7, 3) := by decide +kernel
theorem dX5_next_18 : decode cX5_next 18 = .ok (.iconst 5, 1) := by decide +kernel
theorem dX5_next_19 : decode cX5_next 19 = .ok (.iload_n 1, 1) := by decide +kernel
theorem dX5_next_20 : decode cX5_next 20 = .ok (.iadd, 1) := by decide +kernel
theorem dX5_next_21 : decode cX5_next 21 = .ok (.iaload, 1) := by decide +kernel
theorem dX5_next_22 : decode cX5_next 22 = .ok (.iconst 1, 1) := by decide +kernel
theorem dX5_next_23 : decode cX5_next 23 = .ok (.iadd, 1) := by decide +kernel
theorem dX5_next_24 : decode cX5_next 24 = .ok (.sipush 9999, 3) := by decide +kernel
theorem dX5_next_27 : decode cX5_next 27 = .ok (.invokevirtual 162, 3) := by decide +kernel
theorem dX5_next_30 : decode cX5_next 30 = .ok (.goto 8, 3) := by decide +kernel
theorem dX5_next_33 : decode cX5_next 33 = .ok (.aload_n 0, 1) := by decide +kernel
theorem dX5_next_34 : decode cX5_next 34 = .ok (.iconst 0, 1) := by decide +kernel
theorem dX5_next_35 : decode cX5_next 35 = .ok (.invokevirtual 118, 3) := by decide +kernel
theorem dX5_next_38 : decode cX5_next 38 = .ok (.ireturn, 1) := by decide +kernel
theorem dX5_peace_0 : decode cX5_peace 0 = .ok (.aload_n 0, 1) := by decide +kernel
theorem dX5_peace_1 : decode cX5_peace 1 = .ok (.iload_n 1, 1) := by decide +kernel
theorem dX5_peace_2 : decode cX5_peace 2 = .ok (.iload_n 2, 1) := by decide +kernel
theorem dX5_peace_3 : decode cX5_peace 3 = .ok (.invokevirtual 103, 3) := by decide +kernel
theorem dX5_peace_6 : decode cX5_peace 6 = .ok (.ifCond .eq 29, 3) := by decide +kernel
theorem dX5_peace_9 : decode cX5_peace 9 = .ok (.iload_n 3, 1) := by decide +kernel
theorem dX5_peace_10 : decode cX5_peace 10 = .ok (.i2l, 1) := by decide +kernel
theorem dX5_peace_11 : decode cX5_peace 11 = .ok (.lconst 0, 1) := by decide +kernel
theorem dX5_peace_12 : decode cX5_peace 12 = .ok (.ldc2_w 130, 3) := by decide +kernel
theorem dX5_peace_15 : decode cX5_peace 15 = .ok (.invokestatic 42, 3) := by decide +kernel
theorem dX5_peace_18 : decode cX5_peace 18 = .ok (.ifCond .eq 17, 3) := by decide +kernel
theorem dX5_peace_21 : decode cX5_peace 21 = .ok (.aload_n 0, 1) := by decide +kernel
theorem dX5_peace_22 : decode cX5_peace 22 = .ok (.iload_n 1, 1) := by decide +kernel
theorem dX5_peace_23 : decode cX5_peace 23 = .ok (.iload_n 2, 1) := by decide +kernel
theorem dX5_peace_24 : decode cX5_peace 24 = .ok (.invokestatic 58, 3) := by decide +kernel
theorem dX5_peace_27 : decode cX5_peace 27 = .ok (.iconst 0, 1) := by decide +kernel
theorem dX5_peace_28 : decode cX5_peace 28 = .ok (.iload_n 3, 1) := by decide +kernel
theorem dX5_peace_29 : decode cX5_peace 29 = .ok (.invokevirtual 162, 3) := by decide +kernel
theorem dX5_peace_32 : decode cX5_peace 32 = .ok (.goto 8, 3) := by decide +kernel
theorem dX5_peace_35 : decode cX5_peace 35 = .ok (.aload_n 0, 1) := by decide +kernel
theorem dX5_peace_36 : decode cX5_peace 36 = .ok (.iconst 0, 1) := by decide +kernel
theorem dX5_peace_37 : decode cX5_peace 37 = .ok (.invokevirtual 118, 3) := by decide +kernel
theorem dX5_peace_40 : decode cX5_peace 40 = .ok (.ireturn, 1) := by decide +kernel
theorem dX5_when_0 : decode cX5_when 0 = .ok (.aload_n 0, 1) := by decide +kernel
theorem dX5_when_1 : decode cX5_when 1 = .ok (.iload_n 1, 1) := by decide +kernel
theorem dX5_when_2 : decode cX5_when 2 = .ok (.invokevirtual 46, 3) := by decide +kernel
theorem dX5_when_5 : decode cX5_when 5 = .ok (.ifCond .eq 30, 3) := by decide +kernel
theorem dX5_when_8 : decode cX5_when 8 = .ok (.iload_n 2, 1) := by decide +kernel
theorem dX5_when_9 : decode cX5_when 9 = .ok (.i2l, 1) := by decide +kernel
theorem dX5_when_10 : decode cX5_when 10 = .ok (.lconst 0, 1) := by decide +kernel
theorem dX5_when_11 : decode cX5_when 11 = .ok (.ldc2_w 165, 3) := by decide +kernel
theorem dX5_when_14 : decode cX5_when 14 = .ok (.invokestatic 42, 3) := by decide +kernel
theorem dX5_when_17 : decode cX5_when 17 = .ok (.ifCond .eq 18, 3) := by decide +kernel
theorem dX5_when_20 : decode cX5_when 20 = .ok (.aload_n 0, 1) := by decide +kernel
theorem dX5_when_21 : decode cX5_when 21 = .ok (.bipush 45, 2) := by decide +kernel
theorem dX5_when_23 : decode cX5_when 23 = .ok (.iload_n 1, 1) := by decide +kernel
theorem dX5_when_24 : decode cX5_when 24 = .ok (.iadd, 1) := by decide +kernel
theorem dX5_when_25 : decode cX5_when 25 = .ok (.iload_n 2, 1) := by decide +kernel
theorem dX5_when_26 : decode cX5_when 26 = .ok (.sipush 9999, 3) := by decide +kernel
theorem dX5_when_29 : decode cX5_when 29 = .ok (.invokevirtual 162, 3) := by decide +kernel
theorem dX5_when_32 : decode cX5_when 32 = .ok (.goto 8, 3) := by decide +kernel
theorem dX5_when_35 : decode cX5_when 35 = .ok (.aload_n 0, 1) := by decide +kernel
theorem dX5_when_36 : decode cX5_when 36 = .ok (.iconst 0, 1) := by decide +kernel
theorem dX5_when_37 : decode cX5_when 37 = .ok (.invokevirtual 118, 3) := by decide +kernel
theorem dX5_when_40 : decode cX5_when 40 = .ok (.ireturn, 1) := by decide +kernel
theorem dX5_isShort_0 : decode cX5_isShort 0 = .ok (.iload_n 0, 1) := by decide +kernel
theorem dX5_isShort_1 : decode cX5_isShort 1 = .ok (.i2l, 1) := by decide +kernel
theorem dX5_isShort_2 : decode cX5_isShort 2 = .ok (.lconst 0, 1) := by decide +kernel
theorem dX5_isShort_3 : decode cX5_isShort 3 = .ok (.ldc2_w 142, 3) := by decide +kernel
theorem dX5_isShort_6 : decode cX5_isShort 6 = .ok (.invokestatic 42, 3) := by decide +kernel
theorem dX5_isShort_9 : decode cX5_isShort 9 = .ok (.ireturn, 1) := by decide +kernel
theorem dX5_setWith_0 : decode cX5_setWith 0 = .ok (.iload_n 1, 1) := by decide +kernel
theorem dX5_setWith_1 : decode cX5_setWith 1 = .ok (.i2l, 1) := by decide +kernel
theorem dX5_setWith_2 : decode cX5_setWith 2 = .ok (.lconst 0, 1) := by decide +kernel
theorem dX5_setWith_3 : decode cX5_setWith 3 = .ok (.ldc2_w 121, 3) := by decide +kernel
theorem dX5_setWith_6 : decode cX5_setWith 6 = .ok (.invokestatic 42, 3) := by decide +kernel
theorem dX5_setWith_9 : decode cX5_setWith 9 = .ok (.ifCond .eq 18, 3) := by decide +kernel
theorem dX5_setWith_12 : decode cX5_setWith 12 = .ok (.aload_n 0, 1) := by decide +kernel
theorem dX5_setWith_13 : decode cX5_setWith 13 = .ok (.iload_n 2, 1) := by decide +kernel
theorem dX5_setWith_14 : decode cX5_setWith 14 = .ok (.invokevirtual 46, 3) := by decide +kernel
theorem dX5_setWith_17 : decode cX5_setWith 17 = .ok (.ifCond .eq 10, 3) := by decide +kernel
theorem dX5_setWith_20 : decode cX5_setWith 20 = .ok (.iload_n 3, 1) := by decide +kernel
theorem dX5_setWith_21 : decode cX5_setWith 21 = .ok (.invokestatic 167, 3) := by decide +kernel
theorem dX5_setWith_24 : decode cX5_setWith 24 = .ok (.ifCond .ne 9, 3) := by decide +kernel
theorem dX5_setWith_27 : decode cX5_setWith 27 = .ok (.aload_n 0, 1) := by decide +kernel
theorem dX5_setWith_28 : decode cX5_setWith 28 = .ok (.iconst 0, 1) := by decide +kernel
theorem dX5_setWith_29 : decode cX5_setWith 29 = .ok (.invokevirtual 118, 3) := by decide +kernel
theorem dX5_setWith_32 : decode cX5_setWith 32 = .ok (.ireturn, 1) := by decide +kernel
theorem dX5_setWith_33 : decode cX5_setWith 33 = .ok (.aload_n 0, 1) := by decide +kernel
theorem dX5_setWith_34 : decode cX5_setWith 34 = .ok (.getfield 7, 3) := by decide +kernel
theorem dX5_setWith_37 : decode cX5_setWith 37 = .ok (.aload_n 0, 1) := by decide +kernel
theorem dX5_setWith_38 : decode cX5_setWith 38 = .ok (.getfield 16, 3) := by decide +kernel
theorem dX5_setWith_41 : decode cX5_setWith 41 = .ok (.invokestatic 153, 3) := by decide +kernel
theorem dX5_setWith_44 : decode cX5_setWith 44 = .ok (.iconst (-1), 1) := by decide +kernel
theorem dX5_setWith_45 : decode cX5_setWith 45 = .ok (.istore 4, 2) := by decide +kernel
theorem dX5_setWith_47 : decode cX5_setWith 47 = .ok (.iconst (-1), 1) := by decide +kernel
theorem dX5_setWith_48 : decode cX5_setWith 48 = .ok (.istore 5, 2) := by decide +kernel
theorem dX5_setWith_50 : decode cX5_setWith 50 = .ok (.iconst 0, 1) := by decide +kernel
theorem dX5_setWith_51 : decode cX5_setWith 51 = .ok (.istore 6, 2) := by decide +kernel
theorem dX5_setWith_53 : decode cX5_setWith 53 = .ok (.iload 6, 2) := by decide +kernel
theorem dX5_setWith_55 : decode cX5_setWith 55 = .ok (.aload_n 0, 1) := by decide +kernel
theorem dX5_setWith_56 : decode cX5_setWith 56 = .ok (.getfield 7, 3) := by decide +kernel
theorem dX5_setWith_59 : decode cX5_setWith 59 = .ok (.iconst 0, 1) := by decide +kernel
theorem dX5_setWith_60 : decode cX5_setWith 60 = .ok (.iaload, 1) := by decide +kernel
theorem dX5_setWith_61 : decode cX5_setWith 61 = .ok (.if_icmp .ge 54, 3) := by decide +kernel
theorem dX5_setWith_64 : decode cX5_setWith 64 = .ok (.iload 6, 2) := by decide +kernel
theorem dX5_setWith_66 : decode cX5_setWith 66 = .ok (.iload_n 2, 1) := by decide +kernel
theorem dX5_setWith_67 : decode cX5_setWith 67 = .ok (.if_icmp .eq 42, 3) := by decide +kernel
theorem dX5_setWith_70 : decode cX5_setWith 70 = .ok (.aload_n 0, 1) := by decide +kernel
theorem dX5_setWith_71 : decode cX5_setWith 71 = .ok (.getfield 7, 3) := by decide +kernel
theorem dX5_setWith_74 : decode cX5_setWith 74 = .ok (.bipush 7, 2) := by decide +kernel
theorem dX5_setWith_76 : decode cX5_setWith 76 = .ok (.iload_n 1, 1) := by decide +kernel
theorem dX5_setWith_77 : decode cX5_setWith 77 = .ok (.iadd, 1) := by decide +kernel
theorem dX5_setWith_78 : decode cX5_setWith 78 = .ok (.bipush 10, 2) := by decide +kernel
theorem dX5_setWith_80 : decode cX5_setWith 80 = .ok (.iload_n 2, 1) := by decide +kernel
theorem dX5_setWith_81 : decode cX5_setWith 81 = .ok (.imul, 1) := by decide +kernel
theorem dX5_setWith_82 : decode cX5_setWith 82 = .ok (.iload 6, 2) := by decide +kernel
theorem dX5_setWith_84 : decode cX5_setWith 84 = .ok (.iadd, 1) := by decide +kernel
theorem dX5_setWith_85 : decode cX5_setWith 85 = .ok (.iastore, 1) := by decide +kernel
theorem dX5_setWith_86 : decode cX5_setWith 86 = .ok (.aload_n 0, 1) := by decide +kernel
theorem dX5_setWith_87 : decode cX5_setWith 87 = .ok (.iload_n 3, 1) := by decide +kernel
theorem dX5_setWith_88 : decode cX5_setWith 88 = .ok (.iconst 4, 1) := by decide +kernel
theorem dX5_setWith_89 : decode cX5_setWith 89 = .ok (.invokevirtual 159, 3) := by decide +kernel
theorem dX5_setWith_92 : decode cX5_setWith 92 = .ok (.istore 7, 2) := by decide +kernel
theorem dX5_setWith_94 : decode cX5_setWith 94 = .ok (.iload 7, 2) := by decide +kernel
theorem dX5_setWith_96 : decode cX5_setWith 96 = .ok (.iload 5, 2) := by decide +kernel
theorem dX5_setWith_98 : decode cX5_setWith 98 = .ok (.if_icmp .le 11, 3) := by decide +kernel
theorem dX5_setWith_101 : decode cX5_setWith 101 = .ok (.iload 6, 2) := by decide +kernel
theorem dX5_setWith_103 : decode cX5_setWith 103 = .ok (.istore 4, 2) := by decide +kernel
theorem dX5_setWith_105 : decode cX5_setWith 105 = .ok (.iload 7, 2) := by decide +kernel
theorem dX5_setWith_107 : decode cX5_setWith 107 = .ok (.istore 5, 2) := by decide +kernel
theorem dX5_setWith_109 : decode cX5_setWith 109 = .ok (.iinc 6 1, 3) := by decide +kernel
theorem dX5_setWith_112 : decode cX5_setWith 112 = .ok (.goto (-59), 3) := by decide +kernel
theorem dX5_setWith_115 : decode cX5_setWith 115 = .ok (.iload 4, 2) := by decide +kernel
theorem dX5_setWith_117 : decode cX5_setWith 117 = .ok (.ifCond .ge 11, 3) := by decide +kernel
theorem dX5_setWith_120 : decode cX5_setWith 120 = .ok (.aload_n 0, 1) := by decide +kernel
theorem dX5_setWith_121 : decode cX5_setWith 121 = .ok (.iconst 3, 1) := by decide +kernel
theorem dX5_setWith_122 : decode cX5_setWith 122 = .ok (.invokevirtual 118, 3) := by decide +kernel
theorem dX5_setWith_125 : decode cX5_setWith 125 = .ok (.goto 5, 3) := by decide +kernel
theorem dX5_setWith_128 : decode cX5_setWith 128 = .ok (.iload 4, 2) := by decide +kernel
theorem dX5_setWith_130 : decode cX5_setWith 130 = .ok (.ireturn, 1) := by decide +kernel
theorem dX5_bestOf_0 : decode cX5_bestOf 0 = .ok (.aload_n 0, 1) := by decide +kernel
theorem dX5_bestOf_1 : decode cX5_bestOf 1 = .ok (.getfield 7, 3) := by decide +kernel
theorem dX5_bestOf_4 : decode cX5_bestOf 4 = .ok (.aload_n 0, 1) := by decide +kernel
theorem dX5_bestOf_5 : decode cX5_bestOf 5 = .ok (.getfield 16, 3) := by decide +kernel
theorem dX5_bestOf_8 : decode cX5_bestOf 8 = .ok (.invokestatic 153, 3) := by decide +kernel
theorem dX5_bestOf_11 : decode cX5_bestOf 11 = .ok (.iconst 0, 1) := by decide +kernel
theorem dX5_bestOf_12 : decode cX5_bestOf 12 = .ok (.istore 4, 2) := by decide +kernel
theorem dX5_bestOf_14 : decode cX5_bestOf 14 = .ok (.iconst (-1), 1) := by decide +kernel
theorem dX5_bestOf_15 : decode cX5_bestOf 15 = .ok (.istore 5, 2) := by decide +kernel
theorem dX5_bestOf_17 : decode cX5_bestOf 17 = .ok (.iconst 0, 1) := by decide +kernel
theorem dX5_bestOf_18 : decode cX5_bestOf 18 = .ok (.istore 6, 2) := by decide +kernel
theorem dX5_bestOf_20 : decode cX5_bestOf 20 = .ok (.iload 6, 2) := by decide +kernel
theorem dX5_bestOf_22 : decode cX5_bestOf 22 = .ok (.iload_n 2, 1) := by decide +kernel
theorem dX5_bestOf_23 : decode cX5_bestOf 23 = .ok (.if_icmp .gt 40, 3) := by decide +kernel
theorem dX5_bestOf_26 : decode cX5_bestOf 26 = .ok (.aload_n 0, 1) := by decide +kernel
theorem dX5_bestOf_27 : decode cX5_bestOf 27 = .ok (.getfield 7, 3) := by decide +kernel
theorem dX5_bestOf_30 : decode cX5_bestOf 30 = .ok (.iload_n 1, 1) := by decide +kernel
theorem dX5_bestOf_31 : decode cX5_bestOf 31 = .ok (.iload 6, 2) := by decide +kernel
theorem dX5_bestOf_33 : decode cX5_bestOf 33 = .ok (.iastore, 1) := by decide +kernel
theorem dX5_bestOf_34 : decode cX5_bestOf 34 = .ok (.aload_n 0, 1) := by decide +kernel
theorem dX5_bestOf_35 : decode cX5_bestOf 35 = .ok (.iload_n 3, 1) := by decide +kernel
theorem dX5_bestOf_36 : decode cX5_bestOf 36 = .ok (.iconst 4, 1) := by decide +kernel
theorem dX5_bestOf_37 : decode cX5_bestOf 37 = .ok (.invokevirtual 159, 3) := by decide +kernel
theorem dX5_bestOf_40 : decode cX5_bestOf 40 = .ok (.istore 7, 2) := by decide +kernel
theorem dX5_bestOf_42 : decode cX5_bestOf 42 = .ok (.iload 7, 2) := by decide +kernel
theorem dX5_bestOf_44 : decode cX5_bestOf 44 = .ok (.iload 5, 2) := by decide +kernel
theorem dX5_bestOf_46 : decode cX5_bestOf 46 = .ok (.if_icmp .le 11, 3) := by decide +kernel
theorem dX5_bestOf_49 : decode cX5_bestOf 49 = .ok (.iload 6, 2) := by decide +kernel
theorem dX5_bestOf_51 : decode cX5_bestOf 51 = .ok (.istore 4, 2) := by decide +kernel
theorem dX5_bestOf_53 : decode cX5_bestOf 53 = .ok (.iload 7, 2) := by decide +kernel
theorem dX5_bestOf_55 : decode cX5_bestOf 55 = .ok (.istore 5, 2) := by decide +kernel
theorem dX5_bestOf_57 : decode cX5_bestOf 57 = .ok (.iinc 6 1, 3) := by decide +kernel
theorem dX5_bestOf_60 : decode cX5_bestOf 60 = .ok (.goto (-40), 3) := by decide +kernel
theorem dX5_bestOf_63 : decode cX5_bestOf 63 = .ok (.iload 4, 2) := by decide +kernel
theorem dX5_bestOf_65 : decode cX5_bestOf 65 = .ok (.ireturn, 1) := by decide +kernel
theorem dX5_heatFor_0 : decode cX5_heatFor 0 = .ok (.aload_n 0, 1) := by decide +kernel
theorem dX5_heatFor_1 : decode cX5_heatFor 1 = .ok (.iload_n 1, 1) := by decide +kernel
theorem dX5_heatFor_2 : decode cX5_heatFor 2 = .ok (.invokevirtual 46, 3) := by decide +kernel
theorem dX5_heatFor_5 : decode cX5_heatFor 5 = .ok (.ifCond .eq 24, 3) := by decide +kernel
theorem dX5_heatFor_8 : decode cX5_heatFor 8 = .ok (.iload_n 2, 1) := by decide +kernel
theorem dX5_heatFor_9 : decode cX5_heatFor 9 = .ok (.invokestatic 167, 3) := by decide +kernel
theorem dX5_heatFor_12 : decode cX5_heatFor 12 = .ok (.ifCond .eq 17, 3) := by decide +kernel
theorem dX5_heatFor_15 : decode cX5_heatFor 15 = .ok (.aload_n 0, 1) := by decide +kernel
theorem dX5_heatFor_16 : decode cX5_heatFor 16 = .ok (.bipush 21, 2) := by decide +kernel
theorem dX5_heatFor_18 : decode cX5_heatFor 18 = .ok (.iload_n 1, 1) := by decide +kernel
theorem dX5_heatFor_19 : decode cX5_heatFor 19 = .ok (.iadd, 1) := by decide +kernel
theorem dX5_heatFor_20 : decode cX5_heatFor 20 = .ok (.bipush 99, 2) := by decide +kernel
theorem dX5_heatFor_22 : decode cX5_heatFor 22 = .ok (.iload_n 2, 1) := by decide +kernel
theorem dX5_heatFor_23 : decode cX5_heatFor 23 = .ok (.invokevirtual 170, 3) := by decide +kernel
theorem dX5_heatFor_26 : decode cX5_heatFor 26 = .ok (.goto 8, 3) := by decide +kernel
theorem dX5_heatFor_29 : decode cX5_heatFor 29 = .ok (.aload_n 0, 1) := by decide +kernel
theorem dX5_heatFor_30 : decode cX5_heatFor 30 = .ok (.iconst 0, 1) := by decide +kernel
theorem dX5_heatFor_31 : decode cX5_heatFor 31 = .ok (.invokevirtual 118, 3) := by decide +kernel
theorem dX5_heatFor_34 : decode cX5_heatFor 34 = .ok (.ireturn, 1) := by decide +kernel
theorem dX5_kindFor_0 : decode cX5_kindFor 0 = .ok (.aload_n 0, 1) := by decide +kernel
theorem dX5_kindFor_1 : decode cX5_kindFor 1 = .ok (.iload_n 1, 1) := by decide +kernel
theorem dX5_kindFor_2 : decode cX5_kindFor 2 = .ok (.invokevirtual 46, 3) := by decide +kernel
theorem dX5_kindFor_5 : decode cX5_kindFor 5 = .ok (.ifCond .eq 24, 3) := by decide +kernel
theorem dX5_kindFor_8 : decode cX5_kindFor 8 = .ok (.iload_n 2, 1) := by decide +kernel
theorem dX5_kindFor_9 : decode cX5_kindFor 9 = .ok (.invokestatic 167, 3) := by decide +kernel
theorem dX5_kindFor_12 : decode cX5_kindFor 12 = .ok (.ifCond .eq 17, 3) := by decide +kernel
theorem dX5_kindFor_15 : decode cX5_kindFor 15 = .ok (.aload_n 0, 1) := by decide +kernel
theorem dX5_kindFor_16 : decode cX5_kindFor 16 = .ok (.bipush 13, 2) := by decide +kernel
theorem dX5_kindFor_18 : decode cX5_kindFor 18 = .ok (.iload_n 1, 1) := by decide +kernel
theorem dX5_kindFor_19 : decode cX5_kindFor 19 = .ok (.iadd, 1) := by decide +kernel
theorem dX5_kindFor_20 : decode cX5_kindFor 20 = .ok (.bipush 6, 2) := by decide +kernel
theorem dX5_kindFor_22 : decode cX5_kindFor 22 = .ok (.iload_n 2, 1) := by decide +kernel
theorem dX5_kindFor_23 : decode cX5_kindFor 23 = .ok (.invokevirtual 170, 3) := by decide +kernel
theorem dX5_kindFor_26 : decode cX5_kindFor 26 = .ok (.goto 8, 3) := by decide +kernel
theorem dX5_kindFor_29 : decode cX5_kindFor 29 = .ok (.aload_n 0, 1) := by decide +kernel
theorem dX5_kindFor_30 : decode cX5_kindFor 30 = .ok (.iconst 0, 1) := by decide +kernel
theorem dX5_kindFor_31 : decode cX5_kindFor 31 = .ok (.invokevirtual 118, 3) := by decide +kernel
theorem dX5_kindFor_34 : decode cX5_kindFor 34 = .ok (.ireturn, 1) := by decide +kernel
theorem dX5_clayFor_0 : decode cX5_clayFor 0 = .ok (.aload_n 0, 1) := by decide +kernel
theorem dX5_clayFor_1 : decode cX5_clayFor 1 = .ok (.iload_n 1, 1) := by decide +kernel
theorem dX5_clayFor_2 : decode cX5_clayFor 2 = .ok (.invokevirtual 46, 3) := by decide +kernel
theorem dX5_clayFor_5 : decode cX5_clayFor 5 = .ok (.ifCond .eq 10, 3) := by decide +kernel
theorem dX5_clayFor_8 : decode cX5_clayFor 8 = .ok (.iload_n 2, 1) := by decide +kernel
theorem dX5_clayFor_9 : decode cX5_clayFor 9 = .ok (.invokestatic 167, 3) := by decide +kernel
theorem dX5_clayFor_12 : decode cX5_clayFor 12 = .ok (.ifCond .ne 9, 3) := by decide +kernel
theorem dX5_clayFor_15 : decode cX5_clayFor 15 = .ok (.aload_n 0, 1) := by decide +kernel
theorem dX5_clayFor_16 : decode cX5_clayFor 16 = .ok (.iconst 0, 1) := by decide +kernel
theorem dX5_clayFor_17 : decode cX5_clayFor 17 = .ok (.invokevirtual 118, 3) := by decide +kernel
theorem dX5_clayFor_20 : decode cX5_clayFor 20 = .ok (.ireturn, 1) := by decide +kernel
theorem dX5_clayFor_21 : decode cX5_clayFor 21 = .ok (.aload_n 0, 1) := by decide +kernel
theorem dX5_clayFor_22 : decode cX5_clayFor 22 = .ok (.getfield 7, 3) := by decide +kernel
theorem dX5_clayFor_25 : decode cX5_clayFor 25 = .ok (.aload_n 0, 1) := by decide +kernel
theorem dX5_clayFor_26 : decode cX5_clayFor 26 = .ok (.getfield 16, 3) := by decide +kernel
theorem dX5_clayFor_29 : decode cX5_clayFor 29 = .ok (.invokestatic 153, 3) := by decide +kernel
theorem dX5_clayFor_32 : decode cX5_clayFor 32 = .ok (.iconst 1, 1) := by decide +kernel
theorem dX5_clayFor_33 : decode cX5_clayFor 33 = .ok (.istore_n 3, 1) := by decide +kernel
theorem dX5_clayFor_34 : decode cX5_clayFor 34 = .ok (.iload_n 3, 1) := by decide +kernel
theorem dX5_clayFor_35 : decode cX5_clayFor 35 = .ok (.bipush 20, 2) := by decide +kernel
theorem dX5_clayFor_37 : decode cX5_clayFor 37 = .ok (.if_icmp .gt 36, 3) := by decide +kernel
theorem dX5_clayFor_40 : decode cX5_clayFor 40 = .ok (.aload_n 0, 1) := by decide +kernel
theorem dX5_clayFor_41 : decode cX5_clayFor 41 = .ok (.getfield 7, 3) := by decide +kernel
theorem dX5_clayFor_44 : decode cX5_clayFor 44 = .ok (.iconst 3, 1) := by decide +kernel
theorem dX5_clayFor_45 : decode cX5_clayFor 45 = .ok (.iload_n 3, 1) := by decide +kernel
theorem dX5_clayFor_46 : decode cX5_clayFor 46 = .ok (.iastore, 1) := by decide +kernel
theorem dX5_clayFor_47 : decode cX5_clayFor 47 = .ok (.aload_n 0, 1) := by decide +kernel
theorem dX5_clayFor_48 : decode cX5_clayFor 48 = .ok (.iload_n 2, 1) := by decide +kernel
theorem dX5_clayFor_49 : decode cX5_clayFor 49 = .ok (.bipush 53, 2) := by decide +kernel
theorem dX5_clayFor_51 : decode cX5_clayFor 51 = .ok (.iload_n 1, 1) := by decide +kernel
theorem dX5_clayFor_52 : decode cX5_clayFor 52 = .ok (.iadd, 1) := by decide +kernel
theorem dX5_clayFor_53 : decode cX5_clayFor 53 = .ok (.invokevirtual 159, 3) := by decide +kernel
theorem dX5_clayFor_56 : decode cX5_clayFor 56 = .ok (.aload_n 0, 1) := by decide +kernel
theorem dX5_clayFor_57 : decode cX5_clayFor 57 = .ok (.iload_n 1, 1) := by decide +kernel
theorem dX5_clayFor_58 : decode cX5_clayFor 58 = .ok (.iconst 5, 1) := by decide +kernel
theorem dX5_clayFor_59 : decode cX5_clayFor 59 = .ok (.invokevirtual 54, 3) := by decide +kernel
theorem dX5_clayFor_62 : decode cX5_clayFor 62 = .ok (.if_icmp .ne 5, 3) := by decide +kernel
theorem dX5_clayFor_65 : decode cX5_clayFor 65 = .ok (.iload_n 3, 1) := by decide +kernel
theorem dX5_clayFor_66 : decode cX5_clayFor 66 = .ok (.ireturn, 1) := by decide +kernel
theorem dX5_clayFor_67 : decode cX5_clayFor 67 = .ok (.iinc 3 1, 3) := by decide +kernel
theorem dX5_clayFor_70 : decode cX5_clayFor 70 = .ok (.goto (-36), 3) := by decide +kernel
theorem dX5_clayFor_73 : decode cX5_clayFor 73 = .ok (.aload_n 0, 1) := by decide +kernel
theorem dX5_clayFor_74 : decode cX5_clayFor 74 = .ok (.iconst 3, 1) := by decide +kernel
theorem dX5_clayFor_75 : decode cX5_clayFor 75 = .ok (.invokevirtual 118, 3) := by decide +kernel
theorem dX5_clayFor_78 : decode cX5_clayFor 78 = .ok (.ireturn, 1) := by decide +kernel
theorem dX5_reconciles_0 : decode cX5_reconciles 0 = .ok (.iconst 0, 1) := by decide +kernel
theorem dX5_reconciles_1 : decode cX5_reconciles 1 = .ok (.istore_n 2, 1) := by decide +kernel
theorem dX5_reconciles_2 : decode cX5_reconciles 2 = .ok (.iload_n 2, 1) := by decide +kernel
theorem dX5_reconciles_3 : decode cX5_reconciles 3 = .ok (.aload_n 0, 1) := by decide +kernel
theorem dX5_reconciles_4 : decode cX5_reconciles 4 = .ok (.getfield 7, 3) := by decide +kernel
theorem dX5_reconciles_7 : decode cX5_reconciles 7 = .ok (.iconst 0, 1) := by decide +kernel
theorem dX5_reconciles_8 : decode cX5_reconciles 8 = .ok (.iaload, 1) := by decide +kernel
theorem dX5_reconciles_9 : decode cX5_reconciles 9 = .ok (.if_icmp .ge 62, 3) := by decide +kernel
theorem dX5_reconciles_12 : decode cX5_reconciles 12 = .ok (.iload_n 2, 1) := by decide +kernel
theorem dX5_reconciles_13 : decode cX5_reconciles 13 = .ok (.iconst 1, 1) := by decide +kernel
theorem dX5_reconciles_14 : decode cX5_reconciles 14 = .ok (.iadd, 1) := by decide +kernel
theorem dX5_reconciles_15 : decode cX5_reconciles 15 = .ok (.istore_n 3, 1) := by decide +kernel
theorem dX5_reconciles_16 : decode cX5_reconciles 16 = .ok (.iload_n 3, 1) := by decide +kernel
theorem dX5_reconciles_17 : decode cX5_reconciles 17 = .ok (.aload_n 0, 1) := by decide +kernel
theorem dX5_reconciles_18 : decode cX5_reconciles 18 = .ok (.getfield 7, 3) := by decide +kernel
theorem dX5_reconciles_21 : decode cX5_reconciles 21 = .ok (.iconst 0, 1) := by decide +kernel
theorem dX5_reconciles_22 : decode cX5_reconciles 22 = .ok (.iaload, 1) := by decide +kernel
theorem dX5_reconciles_23 : decode cX5_reconciles 23 = .ok (.if_icmp .ge 42, 3) := by decide +kernel
theorem dX5_reconciles_26 : decode cX5_reconciles 26 = .ok (.iload_n 1, 1) := by decide +kernel
theorem dX5_reconciles_27 : decode cX5_reconciles 27 = .ok (.iload_n 2, 1) := by decide +kernel
theorem dX5_reconciles_28 : decode cX5_reconciles 28 = .ok (.ishr, 1) := by decide +kernel
theorem dX5_reconciles_29 : decode cX5_reconciles 29 = .ok (.iconst 1, 1) := by decide +kernel
theorem dX5_reconciles_30 : decode cX5_reconciles 30 = .ok (.iand, 1) := by decide +kernel
theorem dX5_reconciles_31 : decode cX5_reconciles 31 = .ok (.iconst 1, 1) := by decide +kernel
theorem dX5_reconciles_32 : decode cX5_reconciles 32 = .ok (.if_icmp .ne 27, 3) := by decide +kernel
theorem dX5_reconciles_35 : decode cX5_reconciles 35 = .ok (.iload_n 1, 1) := by decide +kernel
theorem dX5_reconciles_36 : decode cX5_reconciles 36 = .ok (.iload_n 3, 1) := by decide +kernel
theorem dX5_reconciles_37 : decode cX5_reconciles 37 = .ok (.ishr, 1) := by decide +kernel
theorem dX5_reconciles_38 : decode cX5_reconciles 38 = .ok (.iconst 1, 1) := by decide +kernel
theorem dX5_reconciles_39 : decode cX5_reconciles 39 = .ok (.iand, 1) := by decide +kernel
theorem dX5_reconciles_40 : decode cX5_reconciles 40 = .ok (.iconst 1, 1) := by decide +kernel
theorem dX5_reconciles_41 : decode cX5_reconciles 41 = .ok (.if_icmp .ne 18, 3) := by decide +kernel
theorem dX5_reconciles_44 : decode cX5_reconciles 44 = .ok (.aload_n 0, 1) := by decide +kernel
theorem dX5_reconciles_45 : decode cX5_reconciles 45 = .ok (.getfield 7, 3) := by decide +kernel
theorem dX5_reconciles_48 : decode cX5_reconciles 48 = .ok (.bipush 61, 2) := by decide +kernel
theorem dX5_reconciles_50 : decode cX5_reconciles 50 = .ok (.bipush 8, 2) := by decide +kernel
theorem dX5_reconciles_52 : decode cX5_reconciles 52 = .ok (.iload_n 2, 1) := by decide +kernel
theorem dX5_reconciles_53 : decode cX5_reconciles 53 = .ok (.imul, 1) := by decide +kernel
theorem dX5_reconciles_54 : decode cX5_reconciles 54 = .ok (.iadd, 1) := by decide +kernel
theorem dX5_reconciles_55 : decode cX5_reconciles 55 = .ok (.iload_n 3, 1) := by decide +kernel
theorem dX5_reconciles_56 : decode cX5_reconciles 56 = .ok (.iadd, 1) := by decide +kernel
theorem dX5_reconciles_57 : decode cX5_reconciles 57 = .ok (.iconst 0, 1) := by decide +kernel
theorem dX5_reconciles_58 : decode cX5_reconciles 58 = .ok (.iastore, 1) := by decide +kernel
theorem dX5_reconciles_59 : decode cX5_reconciles 59 = .ok (.iinc 3 1, 3) := by decide +kernel
theorem dX5_reconciles_62 : decode cX5_reconciles 62 = .ok (.goto (-46), 3) := by decide +kernel
theorem dX5_reconciles_65 : decode cX5_reconciles 65 = .ok (.iinc 2 1, 3) := by decide +kernel
theorem dX5_reconciles_68 : decode cX5_reconciles 68 = .ok (.goto (-66), 3) := by decide +kernel
theorem dX5_reconciles_71 : decode cX5_reconciles 71 = .ok (.return_, 1) := by decide +kernel
theorem dX5_reconcile_0 : decode cX5_reconcile 0 = .ok (.iload_n 1, 1) := by decide +kernel
theorem dX5_reconcile_1 : decode cX5_reconcile 1 = .ok (.i2l, 1) := by decide +kernel
theorem dX5_reconcile_2 : decode cX5_reconcile 2 = .ok (.lconst 0, 1) := by decide +kernel
theorem dX5_reconcile_3 : decode cX5_reconcile 3 = .ok (.ldc2_w 113, 3) := by decide +kernel
theorem dX5_reconcile_6 : decode cX5_reconcile 6 = .ok (.invokestatic 42, 3) := by decide +kernel
theorem dX5_reconcile_9 : decode cX5_reconcile 9 = .ok (.ifCond .ne 9, 3) := by decide +kernel
theorem dX5_reconcile_12 : decode cX5_reconcile 12 = .ok (.aload_n 0, 1) := by decide +kernel
theorem dX5_reconcile_13 : decode cX5_reconcile 13 = .ok (.iconst 0, 1) := by decide +kernel
theorem dX5_reconcile_14 : decode cX5_reconcile 14 = .ok (.invokevirtual 118, 3) := by decide +kernel
theorem dX5_reconcile_17 : decode cX5_reconcile 17 = .ok (.ireturn, 1) := by decide +kernel
theorem dX5_reconcile_18 : decode cX5_reconcile 18 = .ok (.aload_n 0, 1) := by decide +kernel
theorem dX5_reconcile_19 : decode cX5_reconcile 19 = .ok (.getfield 7, 3) := by decide +kernel
theorem dX5_reconcile_22 : decode cX5_reconcile 22 = .ok (.aload_n 0, 1) := by decide +kernel
theorem dX5_reconcile_23 : decode cX5_reconcile 23 = .ok (.getfield 16, 3) := by decide +kernel
theorem dX5_reconcile_26 : decode cX5_reconcile 26 = .ok (.invokestatic 153, 3) := by decide +kernel
theorem dX5_reconcile_29 : decode cX5_reconcile 29 = .ok (.iconst (-1), 1) := by decide +kernel
theorem dX5_reconcile_30 : decode cX5_reconcile 30 = .ok (.istore_n 2, 1) := by decide +kernel
theorem dX5_reconcile_31 : decode cX5_reconcile 31 = .ok (.iconst 0, 1) := by decide +kernel
theorem dX5_reconcile_32 : decode cX5_reconcile 32 = .ok (.istore_n 3, 1) := by decide +kernel
theorem dX5_reconcile_33 : decode cX5_reconcile 33 = .ok (.iload_n 3, 1) := by decide +kernel
theorem dX5_reconcile_34 : decode cX5_reconcile 34 = .ok (.iconst 1, 1) := by decide +kernel
theorem dX5_reconcile_35 : decode cX5_reconcile 35 = .ok (.aload_n 0, 1) := by decide +kernel
theorem dX5_reconcile_36 : decode cX5_reconcile 36 = .ok (.getfield 7, 3) := by decide +kernel
theorem dX5_reconcile_39 : decode cX5_reconcile 39 = .ok (.iconst 0, 1) := by decide +kernel
theorem dX5_reconcile_40 : decode cX5_reconcile 40 = .ok (.iaload, 1) := by decide +kernel
theorem dX5_reconcile_41 : decode cX5_reconcile 41 = .ok (.ishl, 1) := by decide +kernel
theorem dX5_reconcile_42 : decode cX5_reconcile 42 = .ok (.if_icmp .ge 53, 3) := by decide +kernel
theorem dX5_reconcile_45 : decode cX5_reconcile 45 = .ok (.iload_n 2, 1) := by decide +kernel
theorem dX5_reconcile_46 : decode cX5_reconcile 46 = .ok (.ifCond .lt 17, 3) := by decide +kernel
theorem dX5_reconcile_49 : decode cX5_reconcile 49 = .ok (.iload_n 3, 1) := by decide +kernel
theorem dX5_reconcile_50 : decode cX5_reconcile 50 = .ok (.invokestatic 173, 3) := by decide +kernel
theorem dX5_reconcile_53 : decode cX5_reconcile 53 = .ok (.iload_n 2, 1) := by decide +kernel
theorem dX5_reconcile_54 : decode cX5_reconcile 54 = .ok (.invokestatic 173, 3) := by decide +kernel
theorem dX5_reconcile_57 : decode cX5_reconcile 57 = .ok (.if_icmp .lt 6, 3) := by decide +kernel
theorem dX5_reconcile_60 : decode cX5_reconcile 60 = .ok (.goto 29, 3) := by decide +kernel
theorem dX5_reconcile_63 : decode cX5_reconcile 63 = .ok (.aload_n 0, 1) := by decide +kernel
theorem dX5_reconcile_64 : decode cX5_reconcile 64 = .ok (.iload_n 3, 1) := by decide +kernel
theorem dX5_reconcile_65 : decode cX5_reconcile 65 = .ok (.invokevirtual 176, 3) := by decide +kernel
theorem dX5_reconcile_68 : decode cX5_reconcile 68 = .ok (.aload_n 0, 1) := by decide +kernel
theorem dX5_reconcile_69 : decode cX5_reconcile 69 = .ok (.iload_n 1, 1) := by decide +kernel
theorem dX5_reconcile_70 : decode cX5_reconcile 70 = .ok (.iconst 5, 1) := by decide +kernel
theorem dX5_reconcile_71 : decode cX5_reconcile 71 = .ok (.invokevirtual 159, 3) := by decide +kernel
theorem dX5_reconcile_74 : decode cX5_reconcile 74 = .ok (.aload_n 0, 1) := by decide +kernel
theorem dX5_reconcile_75 : decode cX5_reconcile 75 = .ok (.getfield 7, 3) := by decide +kernel
theorem dX5_reconcile_78 : decode cX5_reconcile 78 = .ok (.iconst 5, 1) := by decide +kernel
theorem dX5_reconcile_79 : decode cX5_reconcile 79 = .ok (.iaload, 1) := by decide +kernel
theorem dX5_reconcile_80 : decode cX5_reconcile 80 = .ok (.if_icmp .ne 7, 3) := by decide +kernel
theorem dX5_reconcile_83 : decode cX5_reconcile 83 = .ok (.iload_n 3, 1) := by decide +kernel
theorem dX5_reconcile_84 : decode cX5_reconcile 84 = .ok (.goto 4, 3) := by decide +kernel
theorem dX5_reconcile_87 : decode cX5_reconcile 87 = .ok (.iload_n 2, 1) := by decide +kernel
theorem dX5_reconcile_88 : decode cX5_reconcile 88 = .ok (.istore_n 2, 1) := by decide +kernel
theorem dX5_reconcile_89 : decode cX5_reconcile 89 = .ok (.iinc 3 1, 3) := by decide +kernel
theorem dX5_reconcile_92 : decode cX5_reconcile 92 = .ok (.goto (-59), 3) := by decide +kernel
theorem dX5_reconcile_95 : decode cX5_reconcile 95 = .ok (.iload_n 2, 1) := by decide +kernel
theorem dX5_reconcile_96 : decode cX5_reconcile 96 = .ok (.ifCond .ge 11, 3) := by decide +kernel
theorem dX5_reconcile_99 : decode cX5_reconcile 99 = .ok (.aload_n 0, 1) := by decide +kernel
theorem dX5_reconcile_100 : decode cX5_reconcile 100 = .ok (.iconst 3, 1) := by decide +kernel
theorem dX5_reconcile_101 : decode cX5_reconcile 101 = .ok (.invokevirtual 118, 3) := by decide +kernel
theorem dX5_reconcile_104 : decode cX5_reconcile 104 = .ok (.goto 4, 3) := by decide +kernel
theorem dX5_reconcile_107 : decode cX5_reconcile 107 = .ok (.iload_n 2, 1) := by decide +kernel
theorem dX5_reconcile_108 : decode cX5_reconcile 108 = .ok (.ireturn, 1) := by decide +kernel
theorem dX5_fitting_0 : decode cX5_fitting 0 = .ok (.aload_n 0, 1) := by decide +kernel
theorem dX5_fitting_1 : decode cX5_fitting 1 = .ok (.getfield 7, 3) := by decide +kernel
theorem dX5_fitting_4 : decode cX5_fitting 4 = .ok (.aload_n 0, 1) := by decide +kernel
theorem dX5_fitting_5 : decode cX5_fitting 5 = .ok (.getfield 16, 3) := by decide +kernel
theorem dX5_fitting_8 : decode cX5_fitting 8 = .ok (.invokestatic 153, 3) := by decide +kernel
theorem dX5_fitting_11 : decode cX5_fitting 11 = .ok (.iconst 0, 1) := by decide +kernel
theorem dX5_fitting_12 : decode cX5_fitting 12 = .ok (.istore 6, 2) := by decide +kernel
theorem dX5_fitting_14 : decode cX5_fitting 14 = .ok (.iconst 0, 1) := by decide +kernel
theorem dX5_fitting_15 : decode cX5_fitting 15 = .ok (.istore 7, 2) := by decide +kernel
theorem dX5_fitting_17 : decode cX5_fitting 17 = .ok (.iconst 0, 1) := by decide +kernel
theorem dX5_fitting_18 : decode cX5_fitting 18 = .ok (.istore 8, 2) := by decide +kernel
theorem dX5_fitting_20 : decode cX5_fitting 20 = .ok (.iload 8, 2) := by decide +kernel
theorem dX5_fitting_22 : decode cX5_fitting 22 = .ok (.iload_n 3, 1) := by decide +kernel
theorem dX5_fitting_23 : decode cX5_fitting 23 = .ok (.if_icmp .gt 137, 3) := by decide +kernel
theorem dX5_fitting_26 : decode cX5_fitting 26 = .ok (.aload_n 0, 1) := by decide +kernel
theorem dX5_fitting_27 : decode cX5_fitting 27 = .ok (.getfield 7, 3) := by decide +kernel
theorem dX5_fitting_30 : decode cX5_fitting 30 = .ok (.iload_n 2, 1) := by decide +kernel
theorem dX5_fitting_31 : decode cX5_fitting 31 = .ok (.iload 8, 2) := by decide +kernel
theorem dX5_fitting_33 : decode cX5_fitting 33 = .ok (.iastore, 1) := by decide +kernel
theorem dX5_fitting_34 : decode cX5_fitting 34 = .ok (.iconst 1, 1) := by decide +kernel
theorem dX5_fitting_35 : decode cX5_fitting 35 = .ok (.istore 9, 2) := by decide +kernel
theorem dX5_fitting_37 : decode cX5_fitting 37 = .ok (.iconst 0, 1) := by decide +kernel
theorem dX5_fitting_38 : decode cX5_fitting 38 = .ok (.istore 10, 2) := by decide +kernel
theorem dX5_fitting_40 : decode cX5_fitting 40 = .ok (.iload 10, 2) := by decide +kernel
theorem dX5_fitting_42 : decode cX5_fitting 42 = .ok (.aload_n 0, 1) := by decide +kernel
theorem dX5_fitting_43 : decode cX5_fitting 43 = .ok (.getfield 32, 3) := by decide +kernel
theorem dX5_fitting_46 : decode cX5_fitting 46 = .ok (.iload_n 1, 1) := by decide +kernel
theorem dX5_fitting_47 : decode cX5_fitting 47 = .ok (.iaload, 1) := by decide +kernel
theorem dX5_fitting_48 : decode cX5_fitting 48 = .ok (.if_icmp .ge 57, 3) := by decide +kernel
theorem dX5_fitting_51 : decode cX5_fitting 51 = .ok (.iload 9, 2) := by decide +kernel
theorem dX5_fitting_53 : decode cX5_fitting 53 = .ok (.ifCond .eq 52, 3) := by decide +kernel
theorem dX5_fitting_56 : decode cX5_fitting 56 = .ok (.aload_n 0, 1) := by decide +kernel
theorem dX5_fitting_57 : decode cX5_fitting 57 = .ok (.getfield 35, 3) := by decide +kernel
theorem dX5_fitting_60 : decode cX5_fitting 60 = .ok (.bipush 40, 2) := by decide +kernel
theorem dX5_fitting_62 : decode cX5_fitting 62 = .ok (.iload_n 1, 1) := by decide +kernel
theorem dX5_fitting_63 : decode cX5_fitting 63 = .ok (.imul, 1) := by decide +kernel
theorem dX5_fitting_64 : decode cX5_fitting 64 = .ok (.iload 10, 2) := by decide +kernel
theorem dX5_fitting_66 : decode cX5_fitting 66 = .ok (.iadd, 1) := by decide +kernel
theorem dX5_fitting_67 : decode cX5_fitting 67 = .ok (.iaload, 1) := by decide +kernel
theorem dX5_fitting_68 : decode cX5_fitting 68 = .ok (.istore 11, 2) := by decide +kernel
theorem dX5_fitting_70 : decode cX5_fitting 70 = .ok (.iload 11, 2) := by decide +kernel
theorem dX5_fitting_72 : decode cX5_fitting 72 = .ok (.iconst (-1), 1) := by decide +kernel
theorem dX5_fitting_73 : decode cX5_fitting 73 = .ok (.if_icmp .eq 15, 3) := by decide +kernel
theorem dX5_fitting_76 : decode cX5_fitting 76 = .ok (.iload 11, 2) := by decide +kernel
theorem dX5_fitting_78 : decode cX5_fitting 78 = .ok (.aload_n 0, 1) := by decide +kernel
theorem dX5_fitting_79 : decode cX5_fitting 79 = .ok (.getfield 7, 3) := by decide +kernel
theorem dX5_fitting_82 : decode cX5_fitting 82 = .ok (.iload 4, 2) := by decide +kernel
theorem dX5_fitting_84 : decode cX5_fitting 84 = .ok (.iaload, 1) := by decide +kernel
theorem dX5_fitting_85 : decode cX5_fitting 85 = .ok (.if_icmp .ne 7, 3) := by decide +kernel
theorem dX5_fitting_88 : decode cX5_fitting 88 = .ok (.iconst 1, 1) := by decide +kernel
theorem dX5_fitting_89 : decode cX5_fitting 89 = .ok (.goto 4, 3) := by decide +kernel
theorem dX5_fitting_92 : decode cX5_fitting 92 = .ok (.iconst 0, 1) := by decide +kernel
theorem dX5_fitting_93 : decode cX5_fitting 93 = .ok (.istore 9, 2) := by decide +kernel
theorem dX5_fitting_95 : decode cX5_fitting 95 = .ok (.aload_n 0, 1) := by decide +kernel
theorem dX5_fitting_96 : decode cX5_fitting 96 = .ok (.invokevirtual 110, 3) := by decide +kernel
theorem dX5_fitting_99 : decode cX5_fitting 99 = .ok (.iinc 10 1, 3) := by decide +kernel
theorem dX5_fitting_102 : decode cX5_fitting 102 = .ok (.goto (-62), 3) := by decide +kernel
theorem dX5_fitting_105 : decode cX5_fitting 105 = .ok (.aload_n 0, 1) := by decide +kernel
theorem dX5_fitting_106 : decode cX5_fitting 106 = .ok (.getfield 16, 3) := by decide +kernel
theorem dX5_fitting_109 : decode cX5_fitting 109 = .ok (.aload_n 0, 1) := by decide +kernel
theorem dX5_fitting_110 : decode cX5_fitting 110 = .ok (.getfield 7, 3) := by decide +kernel
theorem dX5_fitting_113 : decode cX5_fitting 113 = .ok (.invokestatic 153, 3) := by decide +kernel
theorem dX5_fitting_116 : decode cX5_fitting 116 = .ok (.iload 6, 2) := by decide +kernel
theorem dX5_fitting_118 : decode cX5_fitting 118 = .ok (.iload 9, 2) := by decide +kernel
theorem dX5_fitting_120 : decode cX5_fitting 120 = .ok (.ifCond .eq 15, 3) := by decide +kernel
theorem dX5_fitting_123 : decode cX5_fitting 123 = .ok (.iload 5, 2) := by decide +kernel
theorem dX5_fitting_125 : decode cX5_fitting 125 = .ok (.ifCond .eq 10, 3) := by decide +kernel
theorem dX5_fitting_128 : decode cX5_fitting 128 = .ok (.iconst 1, 1) := by decide +kernel
theorem dX5_fitting_129 : decode cX5_fitting 129 = .ok (.iload 8, 2) := by decide +kernel
theorem dX5_fitting_131 : decode cX5_fitting 131 = .ok (.ishl, 1) := by decide +kernel
theorem dX5_fitting_132 : decode cX5_fitting 132 = .ok (.goto 4, 3) := by decide +kernel
theorem dX5_fitting_135 : decode cX5_fitting 135 = .ok (.iconst 0, 1) := by decide +kernel
theorem dX5_fitting_136 : decode cX5_fitting 136 = .ok (.ior, 1) := by decide +kernel
theorem dX5_fitting_137 : decode cX5_fitting 137 = .ok (.istore 6, 2) := by decide +kernel
theorem dX5_fitting_139 : decode cX5_fitting 139 = .ok (.iload 7, 2) := by decide +kernel
theorem dX5_fitting_141 : decode cX5_fitting 141 = .ok (.iload 9, 2) := by decide +kernel
theorem dX5_fitting_143 : decode cX5_fitting 143 = .ok (.ifCond .eq 7, 3) := by decide +kernel
theorem dX5_fitting_146 : decode cX5_fitting 146 = .ok (.iconst 1, 1) := by decide +kernel
theorem dX5_fitting_147 : decode cX5_fitting 147 = .ok (.goto 4, 3) := by decide +kernel
theorem dX5_fitting_150 : decode cX5_fitting 150 = .ok (.iconst 0, 1) := by decide +kernel
theorem dX5_fitting_151 : decode cX5_fitting 151 = .ok (.iadd, 1) := by decide +kernel
theorem dX5_fitting_152 : decode cX5_fitting 152 = .ok (.istore 7, 2) := by decide +kernel
theorem dX5_fitting_154 : decode cX5_fitting 154 = .ok (.iinc 8 1, 3) := by decide +kernel
theorem dX5_fitting_157 : decode cX5_fitting 157 = .ok (.goto (-137), 3) := by decide +kernel
theorem dX5_fitting_160 : decode cX5_fitting 160 = .ok (.iload 5, 2) := by decide +kernel
theorem dX5_fitting_162 : decode cX5_fitting 162 = .ok (.ifCond .eq 8, 3) := by decide +kernel
theorem dX5_fitting_165 : decode cX5_fitting 165 = .ok (.iload 6, 2) := by decide +kernel
theorem dX5_fitting_167 : decode cX5_fitting 167 = .ok (.goto 5, 3) := by decide +kernel
theorem dX5_fitting_170 : decode cX5_fitting 170 = .ok (.iload 7, 2) := by decide +kernel
theorem dX5_fitting_172 : decode cX5_fitting 172 = .ok (.ireturn, 1) := by decide +kernel
theorem dX5_fits_0 : decode cX5_fits 0 = .ok (.aload_n 0, 1) := by decide +kernel
theorem dX5_fits_1 : decode cX5_fits 1 = .ok (.iload_n 1, 1) := by decide +kernel
theorem dX5_fits_2 : decode cX5_fits 2 = .ok (.invokevirtual 179, 3) := by decide +kernel
theorem dX5_fits_5 : decode cX5_fits 5 = .ok (.istore 4, 2) := by decide +kernel
theorem dX5_fits_7 : decode cX5_fits 7 = .ok (.iload 4, 2) := by decide +kernel
theorem dX5_fits_9 : decode cX5_fits 9 = .ok (.ifCond .lt 10, 3) := by decide +kernel
theorem dX5_fits_12 : decode cX5_fits 12 = .ok (.aload_n 0, 1) := by decide +kernel
theorem dX5_fits_13 : decode cX5_fits 13 = .ok (.iload 4, 2) := by decide +kernel
theorem dX5_fits_15 : decode cX5_fits 15 = .ok (.invokevirtual 118, 3) := by decide +kernel
theorem dX5_fits_18 : decode cX5_fits 18 = .ok (.ireturn, 1) := by decide +kernel
theorem dX5_fits_19 : decode cX5_fits 19 = .ok (.aload_n 0, 1) := by decide +kernel
theorem dX5_fits_20 : decode cX5_fits 20 = .ok (.iload_n 2, 1) := by decide +kernel
theorem dX5_fits_21 : decode cX5_fits 21 = .ok (.iload_n 3, 1) := by decide +kernel
theorem dX5_fits_22 : decode cX5_fits 22 = .ok (.invokevirtual 103, 3) := by decide +kernel
theorem dX5_fits_25 : decode cX5_fits 25 = .ok (.ifCond .eq 24, 3) := by decide +kernel
theorem dX5_fits_28 : decode cX5_fits 28 = .ok (.aload_n 0, 1) := by decide +kernel
theorem dX5_fits_29 : decode cX5_fits 29 = .ok (.iload_n 1, 1) := by decide +kernel
theorem dX5_fits_30 : decode cX5_fits 30 = .ok (.iload_n 2, 1) := by decide +kernel
theorem dX5_fits_31 : decode cX5_fits 31 = .ok (.iload_n 3, 1) := by decide +kernel
theorem dX5_fits_32 : decode cX5_fits 32 = .ok (.invokestatic 58, 3) := by decide +kernel
theorem dX5_fits_35 : decode cX5_fits 35 = .ok (.bipush 99, 2) := by decide +kernel
theorem dX5_fits_37 : decode cX5_fits 37 = .ok (.iload_n 2, 1) := by decide +kernel
theorem dX5_fits_38 : decode cX5_fits 38 = .ok (.iload_n 3, 1) := by decide +kernel
theorem dX5_fits_39 : decode cX5_fits 39 = .ok (.invokestatic 58, 3) := by decide +kernel
theorem dX5_fits_42 : decode cX5_fits 42 = .ok (.iconst 0, 1) := by decide +kernel
theorem dX5_fits_43 : decode cX5_fits 43 = .ok (.invokevirtual 182, 3) := by decide +kernel
theorem dX5_fits_46 : decode cX5_fits 46 = .ok (.goto 8, 3) := by decide +kernel
theorem dX5_fits_49 : decode cX5_fits 49 = .ok (.aload_n 0, 1) := by decide +kernel
theorem dX5_fits_50 : decode cX5_fits 50 = .ok (.iconst 0, 1) := by decide +kernel
theorem dX5_fits_51 : decode cX5_fits 51 = .ok (.invokevirtual 118, 3) := by decide +kernel
theorem dX5_fits_54 : decode cX5_fits 54 = .ok (.ireturn, 1) := by decide +kernel
theorem dX5_kinds_0 : decode cX5_kinds 0 = .ok (.aload_n 0, 1) := by decide +kernel
theorem dX5_kinds_1 : decode cX5_kinds 1 = .ok (.iload_n 1, 1) := by decide +kernel
theorem dX5_kinds_2 : decode cX5_kinds 2 = .ok (.invokevirtual 179, 3) := by decide +kernel
theorem dX5_kinds_5 : decode cX5_kinds 5 = .ok (.istore_n 3, 1) := by decide +kernel
theorem dX5_kinds_6 : decode cX5_kinds 6 = .ok (.iload_n 3, 1) := by decide +kernel
theorem dX5_kinds_7 : decode cX5_kinds 7 = .ok (.ifCond .lt 9, 3) := by decide +kernel
theorem dX5_kinds_10 : decode cX5_kinds 10 = .ok (.aload_n 0, 1) := by decide +kernel
theorem dX5_kinds_11 : decode cX5_kinds 11 = .ok (.iload_n 3, 1) := by decide +kernel
theorem dX5_kinds_12 : decode cX5_kinds 12 = .ok (.invokevirtual 118, 3) := by decide +kernel
theorem dX5_kinds_15 : decode cX5_kinds 15 = .ok (.ireturn, 1) := by decide +kernel
theorem dX5_kinds_16 : decode cX5_kinds 16 = .ok (.aload_n 0, 1) := by decide +kernel
theorem dX5_kinds_17 : decode cX5_kinds 17 = .ok (.iload_n 2, 1) := by decide +kernel
theorem dX5_kinds_18 : decode cX5_kinds 18 = .ok (.invokevirtual 46, 3) := by decide +kernel
theorem dX5_kinds_21 : decode cX5_kinds 21 = .ok (.ifCond .eq 22, 3) := by decide +kernel
theorem dX5_kinds_24 : decode cX5_kinds 24 = .ok (.aload_n 0, 1) := by decide +kernel
theorem dX5_kinds_25 : decode cX5_kinds 25 = .ok (.iload_n 1, 1) := by decide +kernel
theorem dX5_kinds_26 : decode cX5_kinds 26 = .ok (.bipush 13, 2) := by decide +kernel
theorem dX5_kinds_28 : decode cX5_kinds 28 = .ok (.iload_n 2, 1) := by decide +kernel
theorem dX5_kinds_29 : decode cX5_kinds 29 = .ok (.iadd, 1) := by decide +kernel
theorem dX5_kinds_30 : decode cX5_kinds 30 = .ok (.bipush 6, 2) := by decide +kernel
theorem dX5_kinds_32 : decode cX5_kinds 32 = .ok (.bipush 21, 2) := by decide +kernel
theorem dX5_kinds_34 : decode cX5_kinds 34 = .ok (.iload_n 2, 1) := by decide +kernel
theorem dX5_kinds_35 : decode cX5_kinds 35 = .ok (.iadd, 1) := by decide +kernel
theorem dX5_kinds_36 : decode cX5_kinds 36 = .ok (.iconst 1, 1) := by decide +kernel
theorem dX5_kinds_37 : decode cX5_kinds 37 = .ok (.invokevirtual 182, 3) := by decide +kernel
theorem dX5_kinds_40 : decode cX5_kinds 40 = .ok (.goto 8, 3) := by decide +kernel
theorem dX5_kinds_43 : decode cX5_kinds 43 = .ok (.aload_n 0, 1) := by decide +kernel
theorem dX5_kinds_44 : decode cX5_kinds 44 = .ok (.iconst 0, 1) := by decide +kernel
theorem dX5_kinds_45 : decode cX5_kinds 45 = .ok (.invokevirtual 118, 3) := by decide +kernel
theorem dX5_kinds_48 : decode cX5_kinds 48 = .ok (.ireturn, 1) := by decide +kernel
theorem dX5_draw_0 : decode cX5_draw 0 = .ok (.aload_n 0, 1) := by decide +kernel
theorem dX5_draw_1 : decode cX5_draw 1 = .ok (.getfield 7, 3) := by decide +kernel
theorem dX5_draw_4 : decode cX5_draw 4 = .ok (.iconst 2, 1) := by decide +kernel
theorem dX5_draw_5 : decode cX5_draw 5 = .ok (.aload_n 0, 1) := by decide +kernel
theorem dX5_draw_6 : decode cX5_draw 6 = .ok (.getfield 7, 3) := by decide +kernel
theorem dX5_draw_9 : decode cX5_draw 9 = .ok (.iconst 2, 1) := by decide +kernel
theorem dX5_draw_10 : decode cX5_draw 10 = .ok (.iaload, 1) := by decide +kernel
theorem dX5_draw_11 : decode cX5_draw 11 = .ok (.ldc 186, 2) := by decide +kernel
theorem dX5_draw_13 : decode cX5_draw 13 = .ok (.imul, 1) := by decide +kernel
theorem dX5_draw_14 : decode cX5_draw 14 = .ok (.sipush 12345, 3) := by decide +kernel
theorem dX5_draw_17 : decode cX5_draw 17 = .ok (.iadd, 1) := by decide +kernel
theorem dX5_draw_18 : decode cX5_draw 18 = .ok (.iastore, 1) := by decide +kernel
theorem dX5_draw_19 : decode cX5_draw 19 = .ok (.aload_n 0, 1) := by decide +kernel
theorem dX5_draw_20 : decode cX5_draw 20 = .ok (.getfield 7, 3) := by decide +kernel
theorem dX5_draw_23 : decode cX5_draw 23 = .ok (.iconst 2, 1) := by decide +kernel
theorem dX5_draw_24 : decode cX5_draw 24 = .ok (.iaload, 1) := by decide +kernel
theorem dX5_draw_25 : decode cX5_draw 25 = .ok (.bipush 8, 2) := by decide +kernel
theorem dX5_draw_27 : decode cX5_draw 27 = .ok (.iushr, 1) := by decide +kernel
theorem dX5_draw_28 : decode cX5_draw 28 = .ok (.ireturn, 1) := by decide +kernel
theorem dX5_market_0 : decode cX5_market 0 = .ok (.iload_n 1, 1) := by decide +kernel
theorem dX5_market_1 : decode cX5_market 1 = .ok (.i2l, 1) := by decide +kernel
theorem dX5_market_2 : decode cX5_market 2 = .ok (.lconst 1, 1) := by decide +kernel
theorem dX5_market_3 : decode cX5_market 3 = .ok (.ldc2_w 113, 3) := by decide +kernel
theorem dX5_market_6 : decode cX5_market 6 = .ok (.invokestatic 42, 3) := by decide +kernel
theorem dX5_market_9 : decode cX5_market 9 = .ok (.ifCond .ne 9, 3) := by decide +kernel
theorem dX5_market_12 : decode cX5_market 12 = .ok (.aload_n 0, 1) := by decide +kernel
theorem dX5_market_13 : decode cX5_market 13 = .ok (.iconst 0, 1) := by decide +kernel
theorem dX5_market_14 : decode cX5_market 14 = .ok (.invokevirtual 118, 3) := by decide +kernel
theorem dX5_market_17 : decode cX5_market 17 = .ok (.ireturn, 1) := by decide +kernel
theorem dX5_market_18 : decode cX5_market 18 = .ok (.aload_n 0, 1) := by decide +kernel
theorem dX5_market_19 : decode cX5_market 19 = .ok (.getfield 7, 3) := by decide +kernel
theorem dX5_market_22 : decode cX5_market 22 = .ok (.iconst 1, 1) := by decide +kernel
theorem dX5_market_23 : decode cX5_market 23 = .ok (.iaload, 1) := by decide +kernel
theorem dX5_market_24 : decode cX5_market 24 = .ok (.iload_n 1, 1) := by decide +kernel
theorem dX5_market_25 : decode cX5_market 25 = .ok (.iadd, 1) := by decide +kernel
theorem dX5_market_26 : decode cX5_market 26 = .ok (.ldc 98, 2) := by decide +kernel
theorem dX5_market_28 : decode cX5_market 28 = .ok (.if_icmp .le 9, 3) := by decide +kernel
theorem dX5_market_31 : decode cX5_market 31 = .ok (.aload_n 0, 1) := by decide +kernel
theorem dX5_market_32 : decode cX5_market 32 = .ok (.iconst 4, 1) := by decide +kernel
theorem dX5_market_33 : decode cX5_market 33 = .ok (.invokevirtual 118, 3) := by decide +kernel
theorem dX5_market_36 : decode cX5_market 36 = .ok (.ireturn, 1) := by decide +kernel
theorem dX5_market_37 : decode cX5_market 37 = .ok (.iconst 0, 1) := by decide +kernel
theorem dX5_market_38 : decode cX5_market 38 = .ok (.istore_n 2, 1) := by decide +kernel
theorem dX5_market_39 : decode cX5_market 39 = .ok (.iload_n 2, 1) := by decide +kernel
theorem dX5_market_40 : decode cX5_market 40 = .ok (.iload_n 1, 1) := by decide +kernel
theorem dX5_market_41 : decode cX5_market 41 = .ok (.if_icmp .ge 69, 3) := by decide +kernel
theorem dX5_market_44 : decode cX5_market 44 = .ok (.aload_n 0, 1) := by decide +kernel
theorem dX5_market_45 : decode cX5_market 45 = .ok (.invokevirtual 187, 3) := by decide +kernel
theorem dX5_market_48 : decode cX5_market 48 = .ok (.bipush 8, 2) := by decide +kernel
theorem dX5_market_50 : decode cX5_market 50 = .ok (.irem, 1) := by decide +kernel
theorem dX5_market_51 : decode cX5_market 51 = .ok (.istore_n 3, 1) := by decide +kernel
theorem dX5_market_52 : decode cX5_market 52 = .ok (.aload_n 0, 1) := by decide +kernel
theorem dX5_market_53 : decode cX5_market 53 = .ok (.invokevirtual 187, 3) := by decide +kernel
theorem dX5_market_56 : decode cX5_market 56 = .ok (.bipush 8, 2) := by decide +kernel
theorem dX5_market_58 : decode cX5_market 58 = .ok (.irem, 1) := by decide +kernel
theorem dX5_market_59 : decode cX5_market 59 = .ok (.istore 4, 2) := by decide +kernel
theorem dX5_market_61 : decode cX5_market 61 = .ok (.aload_n 0, 1) := by decide +kernel
theorem dX5_market_62 : decode cX5_market 62 = .ok (.getfield 7, 3) := by decide +kernel
theorem dX5_market_65 : decode cX5_market 65 = .ok (.bipush 7, 2) := by decide +kernel
theorem dX5_market_67 : decode cX5_market 67 = .ok (.aload_n 0, 1) := by decide +kernel
theorem dX5_market_68 : decode cX5_market 68 = .ok (.getfield 7, 3) := by decide +kernel
theorem dX5_market_71 : decode cX5_market 71 = .ok (.iconst 1, 1) := by decide +kernel
theorem dX5_market_72 : decode cX5_market 72 = .ok (.iaload, 1) := by decide +kernel
theorem dX5_market_73 : decode cX5_market 73 = .ok (.bipush 6, 2) := by decide +kernel
theorem dX5_market_75 : decode cX5_market 75 = .ok (.irem, 1) := by decide +kernel
theorem dX5_market_76 : decode cX5_market 76 = .ok (.iadd, 1) := by decide +kernel
theorem dX5_market_77 : decode cX5_market 77 = .ok (.bipush 10, 2) := by decide +kernel
theorem dX5_market_79 : decode cX5_market 79 = .ok (.iload_n 3, 1) := by decide +kernel
theorem dX5_market_80 : decode cX5_market 80 = .ok (.imul, 1) := by decide +kernel
theorem dX5_market_81 : decode cX5_market 81 = .ok (.iload 4, 2) := by decide +kernel
theorem dX5_market_83 : decode cX5_market 83 = .ok (.iadd, 1) := by decide +kernel
theorem dX5_market_84 : decode cX5_market 84 = .ok (.iastore, 1) := by decide +kernel
theorem dX5_market_85 : decode cX5_market 85 = .ok (.aload_n 0, 1) := by decide +kernel
theorem dX5_market_86 : decode cX5_market 86 = .ok (.getfield 7, 3) := by decide +kernel
theorem dX5_market_89 : decode cX5_market 89 = .ok (.iconst 3, 1) := by decide +kernel
theorem dX5_market_90 : decode cX5_market 90 = .ok (.iconst 1, 1) := by decide +kernel
theorem dX5_market_91 : decode cX5_market 91 = .ok (.aload_n 0, 1) := by decide +kernel
theorem dX5_market_92 : decode cX5_market 92 = .ok (.invokevirtual 187, 3) := by decide +kernel
theorem dX5_market_95 : decode cX5_market 95 = .ok (.bipush 20, 2) := by decide +kernel
theorem dX5_market_97 : decode cX5_market 97 = .ok (.irem, 1) := by decide +kernel
theorem dX5_market_98 : decode cX5_market 98 = .ok (.iadd, 1) := by decide +kernel
theorem dX5_market_99 : decode cX5_market 99 = .ok (.iastore, 1) := by decide +kernel
theorem dX5_market_100 : decode cX5_market 100 = .ok (.aload_n 0, 1) := by decide +kernel
theorem dX5_market_101 : decode cX5_market 101 = .ok (.invokevirtual 110, 3) := by decide +kernel
theorem dX5_market_104 : decode cX5_market 104 = .ok (.iinc 2 1, 3) := by decide +kernel
theorem dX5_market_107 : decode cX5_market 107 = .ok (.goto (-68), 3) := by decide +kernel
theorem dX5_market_110 : decode cX5_market 110 = .ok (.aload_n 0, 1) := by decide +kernel
theorem dX5_market_111 : decode cX5_market 111 = .ok (.getfield 7, 3) := by decide +kernel
theorem dX5_market_114 : decode cX5_market 114 = .ok (.iconst 4, 1) := by decide +kernel
theorem dX5_market_115 : decode cX5_market 115 = .ok (.iaload, 1) := by decide +kernel
theorem dX5_market_116 : decode cX5_market 116 = .ok (.ireturn, 1) := by decide +kernel
theorem dX5_common_0 : decode cX5_common 0 = .ok (.iload_n 0, 1) := by decide +kernel
theorem dX5_common_1 : decode cX5_common 1 = .ok (.istore_n 2, 1) := by decide +kernel
theorem dX5_common_2 : decode cX5_common 2 = .ok (.iload_n 1, 1) := by decide +kernel
theorem dX5_common_3 : decode cX5_common 3 = .ok (.istore_n 3, 1) := by decide +kernel
theorem dX5_common_4 : decode cX5_common 4 = .ok (.iload_n 3, 1) := by decide +kernel
theorem dX5_common_5 : decode cX5_common 5 = .ok (.ifCond .eq 16, 3) := by decide +kernel
theorem dX5_common_8 : decode cX5_common 8 = .ok (.iload_n 2, 1) := by decide +kernel
theorem dX5_common_9 : decode cX5_common 9 = .ok (.iload_n 3, 1) := by decide +kernel
theorem dX5_common_10 : decode cX5_common 10 = .ok (.irem, 1) := by decide +kernel
theorem dX5_common_11 : decode cX5_common 11 = .ok (.istore 4, 2) := by decide +kernel
theorem dX5_common_13 : decode cX5_common 13 = .ok (.iload_n 3, 1) := by decide +kernel
theorem dX5_common_14 : decode cX5_common 14 = .ok (.istore_n 2, 1) := by decide +kernel
theorem dX5_common_15 : decode cX5_common 15 = .ok (.iload 4, 2) := by decide +kernel
theorem dX5_common_17 : decode cX5_common 17 = .ok (.istore_n 3, 1) := by decide +kernel
theorem dX5_common_18 : decode cX5_common 18 = .ok (.goto (-14), 3) := by decide +kernel
theorem dX5_common_21 : decode cX5_common 21 = .ok (.iload_n 2, 1) := by decide +kernel
theorem dX5_common_22 : decode cX5_common 22 = .ok (.ireturn, 1) := by decide +kernel
theorem dX5_odds_0 : decode cX5_odds 0 = .ok (.aload_n 0, 1) := by decide +kernel
theorem dX5_odds_1 : decode cX5_odds 1 = .ok (.iload_n 1, 1) := by decide +kernel
theorem dX5_odds_2 : decode cX5_odds 2 = .ok (.iload_n 2, 1) := by decide +kernel
theorem dX5_odds_3 : decode cX5_odds 3 = .ok (.invokevirtual 103, 3) := by decide +kernel
theorem dX5_odds_6 : decode cX5_odds 6 = .ok (.ifCond .eq 26, 3) := by decide +kernel
theorem dX5_odds_9 : decode cX5_odds 9 = .ok (.iload_n 3, 1) := by decide +kernel
theorem dX5_odds_10 : decode cX5_odds 10 = .ok (.i2l, 1) := by decide +kernel
theorem dX5_odds_11 : decode cX5_odds 11 = .ok (.lconst 0, 1) := by decide +kernel
theorem dX5_odds_12 : decode cX5_odds 12 = .ok (.ldc2_w 190, 3) := by decide +kernel
theorem dX5_odds_15 : decode cX5_odds 15 = .ok (.invokestatic 42, 3) := by decide +kernel
theorem dX5_odds_18 : decode cX5_odds 18 = .ok (.ifCond .eq 14, 3) := by decide +kernel
theorem dX5_odds_21 : decode cX5_odds 21 = .ok (.iload 4, 2) := by decide +kernel
theorem dX5_odds_23 : decode cX5_odds 23 = .ok (.i2l, 1) := by decide +kernel
theorem dX5_odds_24 : decode cX5_odds 24 = .ok (.lconst 0, 1) := by decide +kernel
theorem dX5_odds_25 : decode cX5_odds 25 = .ok (.lconst 1, 1) := by decide +kernel
theorem dX5_odds_26 : decode cX5_odds 26 = .ok (.invokestatic 42, 3) := by decide +kernel
theorem dX5_odds_29 : decode cX5_odds 29 = .ok (.ifCond .ne 10, 3) := by decide +kernel
theorem dX5_odds_32 : decode cX5_odds 32 = .ok (.aload_n 0, 1) := by decide +kernel
theorem dX5_odds_33 : decode cX5_odds 33 = .ok (.iconst 0, 1) := by decide +kernel
theorem dX5_odds_34 : decode cX5_odds 34 = .ok (.invokevirtual 118, 3) := by decide +kernel
theorem dX5_odds_37 : decode cX5_odds 37 = .ok (.i2l, 1) := by decide +kernel
theorem dX5_odds_38 : decode cX5_odds 38 = .ok (.lreturn, 1) := by decide +kernel
theorem dX5_odds_39 : decode cX5_odds 39 = .ok (.aload_n 0, 1) := by decide +kernel
theorem dX5_odds_40 : decode cX5_odds 40 = .ok (.getfield 7, 3) := by decide +kernel
theorem dX5_odds_43 : decode cX5_odds 43 = .ok (.iconst 3, 1) := by decide +kernel
theorem dX5_odds_44 : decode cX5_odds 44 = .ok (.iaload, 1) := by decide +kernel
theorem dX5_odds_45 : decode cX5_odds 45 = .ok (.istore 5, 2) := by decide +kernel
theorem dX5_odds_47 : decode cX5_odds 47 = .ok (.iconst 0, 1) := by decide +kernel
theorem dX5_odds_48 : decode cX5_odds 48 = .ok (.istore 6, 2) := by decide +kernel
theorem dX5_odds_50 : decode cX5_odds 50 = .ok (.iconst 1, 1) := by decide +kernel
theorem dX5_odds_51 : decode cX5_odds 51 = .ok (.istore 7, 2) := by decide +kernel
theorem dX5_odds_53 : decode cX5_odds 53 = .ok (.iload 7, 2) := by decide +kernel
theorem dX5_odds_55 : decode cX5_odds 55 = .ok (.bipush 20, 2) := by decide +kernel
theorem dX5_odds_57 : decode cX5_odds 57 = .ok (.if_icmp .gt 36, 3) := by decide +kernel
theorem dX5_odds_60 : decode cX5_odds 60 = .ok (.aload_n 0, 1) := by decide +kernel
theorem dX5_odds_61 : decode cX5_odds 61 = .ok (.getfield 7, 3) := by decide +kernel
theorem dX5_odds_64 : decode cX5_odds 64 = .ok (.iconst 3, 1) := by decide +kernel
theorem dX5_odds_65 : decode cX5_odds 65 = .ok (.iload 7, 2) := by decide +kernel
theorem dX5_odds_67 : decode cX5_odds 67 = .ok (.iastore, 1) := by decide +kernel
theorem dX5_odds_68 : decode cX5_odds 68 = .ok (.iload 6, 2) := by decide +kernel
theorem dX5_odds_70 : decode cX5_odds 70 = .ok (.aload_n 0, 1) := by decide +kernel
theorem dX5_odds_71 : decode cX5_odds 71 = .ok (.iload_n 1, 1) := by decide +kernel
theorem dX5_odds_72 : decode cX5_odds 72 = .ok (.iload_n 2, 1) := by decide +kernel
theorem dX5_odds_73 : decode cX5_odds 73 = .ok (.invokevirtual 87, 3) := by decide +kernel
theorem dX5_odds_76 : decode cX5_odds 76 = .ok (.ifCond .eq 7, 3) := by decide +kernel
theorem dX5_odds_79 : decode cX5_odds 79 = .ok (.iconst 0, 1) := by decide +kernel
theorem dX5_odds_80 : decode cX5_odds 80 = .ok (.goto 4, 3) := by decide +kernel
theorem dX5_odds_83 : decode cX5_odds 83 = .ok (.iconst 1, 1) := by decide +kernel
theorem dX5_odds_84 : decode cX5_odds 84 = .ok (.iadd, 1) := by decide +kernel
theorem dX5_odds_85 : decode cX5_odds 85 = .ok (.istore 6, 2) := by decide +kernel
theorem dX5_odds_87 : decode cX5_odds 87 = .ok (.iinc 7 1, 3) := by decide +kernel
theorem dX5_odds_90 : decode cX5_odds 90 = .ok (.goto (-37), 3) := by decide +kernel
theorem dX5_odds_93 : decode cX5_odds 93 = .ok (.aload_n 0, 1) := by decide +kernel
theorem dX5_odds_94 : decode cX5_odds 94 = .ok (.getfield 7, 3) := by decide +kernel
theorem dX5_odds_97 : decode cX5_odds 97 = .ok (.iconst 3, 1) := by decide +kernel
theorem dX5_odds_98 : decode cX5_odds 98 = .ok (.iload 5, 2) := by decide +kernel
theorem dX5_odds_100 : decode cX5_odds 100 = .ok (.iastore, 1) := by decide +kernel
theorem dX5_odds_101 : decode cX5_odds 101 = .ok (.iload 6, 2) := by decide +kernel
theorem dX5_odds_103 : decode cX5_odds 103 = .ok (.bipush 20, 2) := by decide +kernel
theorem dX5_odds_105 : decode cX5_odds 105 = .ok (.invokestatic 192, 3) := by decide +kernel
theorem dX5_odds_108 : decode cX5_odds 108 = .ok (.istore 7, 2) := by decide +kernel
theorem dX5_odds_110 : decode cX5_odds 110 = .ok (.lconst 1, 1) := by decide +kernel
theorem dX5_odds_111 : decode cX5_odds 111 = .ok (.lstore 8, 2) := by decide +kernel
theorem dX5_odds_113 : decode cX5_odds 113 = .ok (.iconst 0, 1) := by decide +kernel
theorem dX5_odds_114 : decode cX5_odds 114 = .ok (.istore 10, 2) := by decide +kernel
theorem dX5_odds_116 : decode cX5_odds 116 = .ok (.iload 10, 2) := by decide +kernel
theorem dX5_odds_118 : decode cX5_odds 118 = .ok (.iload_n 3, 1) := by decide +kernel
theorem dX5_odds_119 : decode cX5_odds 119 = .ok (.if_icmp .ge 34, 3) := by decide +kernel
theorem dX5_odds_122 : decode cX5_odds 122 = .ok (.lload 8, 2) := by decide +kernel
theorem dX5_odds_124 : decode cX5_odds 124 = .ok (.iload 4, 2) := by decide +kernel
theorem dX5_odds_126 : decode cX5_odds 126 = .ok (.ifCond .ne 12, 3) := by decide +kernel
theorem dX5_odds_129 : decode cX5_odds 129 = .ok (.iload 6, 2) := by decide +kernel
theorem dX5_odds_131 : decode cX5_odds 131 = .ok (.iload 7, 2) := by decide +kernel
theorem dX5_odds_133 : decode cX5_odds 133 = .ok (.idiv, 1) := by decide +kernel
theorem dX5_odds_134 : decode cX5_odds 134 = .ok (.i2l, 1) := by decide +kernel
theorem dX5_odds_135 : decode cX5_odds 135 = .ok (.goto 9, 3) := by decide +kernel
theorem dX5_odds_138 : decode cX5_odds 138 = .ok (.bipush 20, 2) := by decide +kernel
theorem dX5_odds_140 : decode cX5_odds 140 = .ok (.iload 7, 2) := by decide +kernel
theorem dX5_odds_142 : decode cX5_odds 142 = .ok (.idiv, 1) := by decide +kernel
theorem dX5_odds_143 : decode cX5_odds 143 = .ok (.i2l, 1) := by decide +kernel
theorem dX5_odds_144 : decode cX5_odds 144 = .ok (.lmul, 1) := by decide +kernel
theorem dX5_odds_145 : decode cX5_odds 145 = .ok (.lstore 8, 2) := by decide +kernel
theorem dX5_odds_147 : decode cX5_odds 147 = .ok (.iinc 10 1, 3) := by decide +kernel
theorem dX5_odds_150 : decode cX5_odds 150 = .ok (.goto (-34), 3) := by decide +kernel
theorem dX5_odds_153 : decode cX5_odds 153 = .ok (.lload 8, 2) := by decide +kernel
theorem dX5_odds_155 : decode cX5_odds 155 = .ok (.lreturn, 1) := by decide +kernel
theorem dX5_seed_0 : decode cX5_seed 0 = .ok (.aload_n 0, 1) := by decide +kernel
theorem dX5_seed_1 : decode cX5_seed 1 = .ok (.iconst 2, 1) := by decide +kernel
theorem dX5_seed_2 : decode cX5_seed 2 = .ok (.iload_n 1, 1) := by decide +kernel
theorem dX5_seed_3 : decode cX5_seed 3 = .ok (.invokevirtual 115, 3) := by decide +kernel
theorem dX5_seed_6 : decode cX5_seed 6 = .ok (.ireturn, 1) := by decide +kernel
theorem dX5_feed_0 : decode cX5_feed 0 = .ok (.iload_n 2, 1) := by decide +kernel
theorem dX5_feed_1 : decode cX5_feed 1 = .ok (.i2l, 1) := by decide +kernel
theorem dX5_feed_2 : decode cX5_feed 2 = .ok (.lconst 1, 1) := by decide +kernel
theorem dX5_feed_3 : decode cX5_feed 3 = .ok (.ldc2_w 195, 3) := by decide +kernel
theorem dX5_feed_6 : decode cX5_feed 6 = .ok (.invokestatic 42, 3) := by decide +kernel
theorem dX5_feed_9 : decode cX5_feed 9 = .ok (.ifCond .ne 9, 3) := by decide +kernel
theorem dX5_feed_12 : decode cX5_feed 12 = .ok (.aload_n 0, 1) := by decide +kernel
theorem dX5_feed_13 : decode cX5_feed 13 = .ok (.iconst 0, 1) := by decide +kernel
theorem dX5_feed_14 : decode cX5_feed 14 = .ok (.invokevirtual 118, 3) := by decide +kernel
theorem dX5_feed_17 : decode cX5_feed 17 = .ok (.ireturn, 1) := by decide +kernel
theorem dX5_feed_18 : decode cX5_feed 18 = .ok (.aload_n 0, 1) := by decide +kernel
theorem dX5_feed_19 : decode cX5_feed 19 = .ok (.getfield 197, 3) := by decide +kernel
theorem dX5_feed_22 : decode cX5_feed 22 = .ok (.iload_n 2, 1) := by decide +kernel
theorem dX5_feed_23 : decode cX5_feed 23 = .ok (.iadd, 1) := by decide +kernel
theorem dX5_feed_24 : decode cX5_feed 24 = .ok (.bipush 120, 2) := by decide +kernel
theorem dX5_feed_26 : decode cX5_feed 26 = .ok (.if_icmp .le 9, 3) := by decide +kernel
theorem dX5_feed_29 : decode cX5_feed 29 = .ok (.aload_n 0, 1) := by decide +kernel
theorem dX5_feed_30 : decode cX5_feed 30 = .ok (.iconst 1, 1) := by decide +kernel
theorem dX5_feed_31 : decode cX5_feed 31 = .ok (.invokevirtual 118, 3) := by decide +kernel
theorem dX5_feed_34 : decode cX5_feed 34 = .ok (.ireturn, 1) := by decide +kernel
theorem dX5_feed_35 : decode cX5_feed 35 = .ok (.iload_n 2, 1) := by decide +kernel
theorem dX5_feed_36 : decode cX5_feed 36 = .ok (.iconst 1, 1) := by decide +kernel
theorem dX5_feed_37 : decode cX5_feed 37 = .ok (.isub, 1) := by decide +kernel
theorem dX5_feed_38 : decode cX5_feed 38 = .ok (.istore_n 3, 1) := by decide +kernel
theorem dX5_feed_39 : decode cX5_feed 39 = .ok (.iload_n 3, 1) := by decide +kernel
theorem dX5_feed_40 : decode cX5_feed 40 = .ok (.ifCond .lt 35, 3) := by decide +kernel
theorem dX5_feed_43 : decode cX5_feed 43 = .ok (.aload_n 0, 1) := by decide +kernel
theorem dX5_feed_44 : decode cX5_feed 44 = .ok (.getfield 25, 3) := by decide +kernel
theorem dX5_feed_47 : decode cX5_feed 47 = .ok (.aload_n 0, 1) := by decide +kernel
theorem dX5_feed_48 : decode cX5_feed 48 = .ok (.getfield 197, 3) := by decide +kernel
theorem dX5_feed_51 : decode cX5_feed 51 = .ok (.iload_n 1, 1) := by decide +kernel
theorem dX5_feed_52 : decode cX5_feed 52 = .ok (.bipush 8, 2) := by decide +kernel
theorem dX5_feed_54 : decode cX5_feed 54 = .ok (.iload_n 3, 1) := by decide +kernel
theorem dX5_feed_55 : decode cX5_feed 55 = .ok (.imul, 1) := by decide +kernel
theorem dX5_feed_56 : decode cX5_feed 56 = .ok (.ishr, 1) := by decide +kernel
theorem dX5_feed_57 : decode cX5_feed 57 = .ok (.i2b, 1) := by decide +kernel
theorem dX5_feed_58 : decode cX5_feed 58 = .ok (.bastore, 1) := by decide +kernel
theorem dX5_feed_59 : decode cX5_feed 59 = .ok (.aload_n 0, 1) := by decide +kernel
theorem dX5_feed_60 : decode cX5_feed 60 = .ok (.dup, 1) := by decide +kernel
theorem dX5_feed_61 : decode cX5_feed 61 = .ok (.getfield 197, 3) := by decide +kernel
theorem dX5_feed_64 : decode cX5_feed 64 = .ok (.iconst 1, 1) := by decide +kernel
theorem dX5_feed_65 : decode cX5_feed 65 = .ok (.iadd, 1) := by decide +kernel
theorem dX5_feed_66 : decode cX5_feed 66 = .ok (.putfield 197, 3) := by decide +kernel
theorem dX5_feed_69 : decode cX5_feed 69 = .ok (.iinc 3 (-1), 3) := by decide +kernel
theorem dX5_feed_72 : decode cX5_feed 72 = .ok (.goto (-33), 3) := by decide +kernel
theorem dX5_feed_75 : decode cX5_feed 75 = .ok (.aload_n 0, 1) := by decide +kernel
theorem dX5_feed_76 : decode cX5_feed 76 = .ok (.getfield 197, 3) := by decide +kernel
theorem dX5_feed_79 : decode cX5_feed 79 = .ok (.ireturn, 1) := by decide +kernel
theorem dX5_wipe_0 : decode cX5_wipe 0 = .ok (.aload_n 0, 1) := by decide +kernel
theorem dX5_wipe_1 : decode cX5_wipe 1 = .ok (.getfield 197, 3) := by decide +kernel
theorem dX5_wipe_4 : decode cX5_wipe 4 = .ok (.istore_n 1, 1) := by decide +kernel
theorem dX5_wipe_5 : decode cX5_wipe 5 = .ok (.aload_n 0, 1) := by decide +kernel
theorem dX5_wipe_6 : decode cX5_wipe 6 = .ok (.iconst 0, 1) := by decide +kernel
theorem dX5_wipe_7 : decode cX5_wipe 7 = .ok (.putfield 197, 3) := by decide +kernel
theorem dX5_wipe_10 : decode cX5_wipe 10 = .ok (.iload_n 1, 1) := by decide +kernel
theorem dX5_wipe_11 : decode cX5_wipe 11 = .ok (.ireturn, 1) := by decide +kernel
theorem dX5_letter_0 : decode cX5_letter 0 = .ok (.iload_n 0, 1) := by decide +kernel
theorem dX5_letter_1 : decode cX5_letter 1 = .ok (.bipush 97, 2) := by decide +kernel
theorem dX5_letter_3 : decode cX5_letter 3 = .ok (.if_icmp .lt 18, 3) := by decide +kernel
theorem dX5_letter_6 : decode cX5_letter 6 = .ok (.iload_n 0, 1) := by decide +kernel
theorem dX5_letter_7 : decode cX5_letter 7 = .ok (.bipush 122, 2) := by decide +kernel
theorem dX5_letter_9 : decode cX5_letter 9 = .ok (.if_icmp .gt 12, 3) := by decide +kernel
theorem dX5_letter_12 : decode cX5_letter 12 = .ok (.iload_n 0, 1) := by decide +kernel
theorem dX5_letter_13 : decode cX5_letter 13 = .ok (.bipush 97, 2) := by decide +kernel
theorem dX5_letter_15 : decode cX5_letter 15 = .ok (.isub, 1) := by decide +kernel
theorem dX5_letter_16 : decode cX5_letter 16 = .ok (.iconst 1, 1) := by decide +kernel
theorem dX5_letter_17 : decode cX5_letter 17 = .ok (.iadd, 1) := by decide +kernel
theorem dX5_letter_18 : decode cX5_letter 18 = .ok (.goto 4, 3) := by decide +kernel
theorem dX5_letter_21 : decode cX5_letter 21 = .ok (.iconst 0, 1) := by decide +kernel
theorem dX5_letter_22 : decode cX5_letter 22 = .ok (.ireturn, 1) := by decide +kernel
theorem dX5_isDigit_0 : decode cX5_isDigit 0 = .ok (.iload_n 0, 1) := by decide +kernel
theorem dX5_isDigit_1 : decode cX5_isDigit 1 = .ok (.bipush 48, 2) := by decide +kernel
theorem dX5_isDigit_3 : decode cX5_isDigit 3 = .ok (.if_icmp .lt 13, 3) := by decide +kernel
theorem dX5_isDigit_6 : decode cX5_isDigit 6 = .ok (.iload_n 0, 1) := by decide +kernel
theorem dX5_isDigit_7 : decode cX5_isDigit 7 = .ok (.bipush 57, 2) := by decide +kernel
theorem dX5_isDigit_9 : decode cX5_isDigit 9 = .ok (.if_icmp .gt 7, 3) := by decide +kernel
theorem dX5_isDigit_12 : decode cX5_isDigit 12 = .ok (.iconst 1, 1) := by decide +kernel
theorem dX5_isDigit_13 : decode cX5_isDigit 13 = .ok (.goto 4, 3) := by decide +kernel
theorem dX5_isDigit_16 : decode cX5_isDigit 16 = .ok (.iconst 0, 1) := by decide +kernel
theorem dX5_isDigit_17 : decode cX5_isDigit 17 = .ok (.ireturn, 1) := by decide +kernel
theorem dX5_byteAt_0 : decode cX5_byteAt 0 = .ok (.iload_n 1, 1) := by decide +kernel
theorem dX5_byteAt_1 : decode cX5_byteAt 1 = .ok (.aload_n 0, 1) := by decide +kernel
theorem dX5_byteAt_2 : decode cX5_byteAt 2 = .ok (.getfield 197, 3) := by decide +kernel
theorem dX5_byteAt_5 : decode cX5_byteAt 5 = .ok (.if_icmp .ge 12, 3) := by decide +kernel
theorem dX5_byteAt_8 : decode cX5_byteAt 8 = .ok (.aload_n 0, 1) := by decide +kernel
theorem dX5_byteAt_9 : decode cX5_byteAt 9 = .ok (.getfield 25, 3) := by decide +kernel
theorem dX5_byteAt_12 : decode cX5_byteAt 12 = .ok (.iload_n 1, 1) := by decide +kernel
theorem dX5_byteAt_13 : decode cX5_byteAt 13 = .ok (.baload, 1) := by decide +kernel
theorem dX5_byteAt_14 : decode cX5_byteAt 14 = .ok (.goto 4, 3) := by decide +kernel
theorem dX5_byteAt_17 : decode cX5_byteAt 17 = .ok (.iconst (-1), 1) := by decide +kernel
theorem dX5_byteAt_18 : decode cX5_byteAt 18 = .ok (.ireturn, 1) := by decide +kernel
theorem dX5_next__0 : decode cX5_next_ 0 = .ok (.aload_n 0, 1) := by decide +kernel
theorem dX5_next__1 : decode cX5_next_ 1 = .ok (.aload_n 0, 1) := by decide +kernel
theorem dX5_next__2 : decode cX5_next_ 2 = .ok (.getfield 201, 3) := by decide +kernel
theorem dX5_next__5 : decode cX5_next_ 5 = .ok (.invokevirtual 204, 3) := by decide +kernel
theorem dX5_next__8 : decode cX5_next_ 8 = .ok (.bipush 32, 2) := by decide +kernel
theorem dX5_next__10 : decode cX5_next_ 10 = .ok (.if_icmp .ne 16, 3) := by decide +kernel
theorem dX5_next__13 : decode cX5_next_ 13 = .ok (.aload_n 0, 1) := by decide +kernel
theorem dX5_next__14 : decode cX5_next_ 14 = .ok (.dup, 1) := by decide +kernel
theorem dX5_next__15 : decode cX5_next_ 15 = .ok (.getfield 201, 3) := by decide +kernel
theorem dX5_next__18 : decode cX5_next_ 18 = .ok (.iconst 1, 1) := by decide +kernel
theorem dX5_next__19 : decode cX5_next_ 19 = .ok (.iadd, 1) := by decide +kernel
theorem dX5_next__20 : decode cX5_next_ 20 = .ok (.putfield 201, 3) := by decide +kernel
theorem dX5_next__23 : decode cX5_next_ 23 = .ok (.goto (-23), 3) := by decide +kernel
theorem dX5_next__26 : decode cX5_next_ 26 = .ok (.aload_n 0, 1) := by decide +kernel
theorem dX5_next__27 : decode cX5_next_ 27 = .ok (.aload_n 0, 1) := by decide +kernel
theorem dX5_next__28 : decode cX5_next_ 28 = .ok (.getfield 201, 3) := by decide +kernel
theorem dX5_next__31 : decode cX5_next_ 31 = .ok (.putfield 207, 3) := by decide +kernel
theorem dX5_next__34 : decode cX5_next_ 34 = .ok (.aload_n 0, 1) := by decide +kernel
theorem dX5_next__35 : decode cX5_next_ 35 = .ok (.lconst 0, 1) := by decide +kernel
theorem dX5_next__36 : decode cX5_next_ 36 = .ok (.putfield 210, 3) := by decide +kernel
theorem dX5_next__39 : decode cX5_next_ 39 = .ok (.aload_n 0, 1) := by decide +kernel
theorem dX5_next__40 : decode cX5_next_ 40 = .ok (.aload_n 0, 1) := by decide +kernel
theorem dX5_next__41 : decode cX5_next_ 41 = .ok (.getfield 201, 3) := by decide +kernel
theorem dX5_next__44 : decode cX5_next_ 44 = .ok (.invokevirtual 204, 3) := by decide +kernel
theorem dX5_next__47 : decode cX5_next_ 47 = .ok (.istore_n 1, 1) := by decide +kernel
theorem dX5_next__48 : decode cX5_next_ 48 = .ok (.aload_n 0, 1) := by decide +kernel
theorem dX5_next__49 : decode cX5_next_ 49 = .ok (.getfield 201, 3) := by decide +kernel
theorem dX5_next__52 : decode cX5_next_ 52 = .ok (.aload_n 0, 1) := by decide +kernel
theorem dX5_next__53 : decode cX5_next_ 53 = .ok (.getfield 197, 3) := by decide +kernel
theorem dX5_next__56 : decode cX5_next_ 56 = .ok (.if_icmp .ne 11, 3) := by decide +kernel
theorem dX5_next__59 : decode cX5_next_ 59 = .ok (.aload_n 0, 1) := by decide +kernel
theorem dX5_next__60 : decode cX5_next_ 60 = .ok (.iconst 0, 1) := by decide +kernel
theorem dX5_next__61 : decode cX5_next_ 61 = .ok (.putfield 214, 3) := by decide +kernel
theorem dX5_next__64 : decode cX5_next_ 64 = .ok (.goto 197, 3) := by decide +kernel
theorem dX5_next__67 : decode cX5_next_ 67 = .ok (.iload_n 1, 1) := by decide +kernel
theorem dX5_next__68 : decode cX5_next_ 68 = .ok (.bipush 59, 2) := by decide +kernel
theorem dX5_next__70 : decode cX5_next_ 70 = .ok (.if_icmp .ne 21, 3) := by decide +kernel
theorem dX5_next__73 : decode cX5_next_ 73 = .ok (.aload_n 0, 1) := by decide +kernel
theorem dX5_next__74 : decode cX5_next_ 74 = .ok (.iconst 3, 1) := by decide +kernel
theorem dX5_next__75 : decode cX5_next_ 75 = .ok (.putfield 214, 3) := by decide +kernel
theorem dX5_next__78 : decode cX5_next_ 78 = .ok (.aload_n 0, 1) := by decide +kernel
theorem dX5_next__79 : decode cX5_next_ 79 = .ok (.dup, 1) := by decide +kernel
theorem dX5_next__80 : decode cX5_next_ 80 = .ok (.getfield 201, 3) := by decide +kernel
theorem dX5_next__83 : decode cX5_next_ 83 = .ok (.iconst 1, 1) := by decide +kernel
theorem dX5_next__84 : decode cX5_next_ 84 = .ok (.iadd, 1) := by decide +kernel
theorem dX5_next__85 : decode cX5_next_ 85 = .ok (.putfield 201, 3) := by decide +kernel
theorem dX5_next__88 : decode cX5_next_ 88 = .ok (.goto 173, 3) := by decide +kernel
theorem dX5_next__91 : decode cX5_next_ 91 = .ok (.iload_n 1, 1) := by decide +kernel
theorem dX5_next__92 : decode cX5_next_ 92 = .ok (.invokestatic 217, 3) := by decide +kernel
theorem dX5_next__95 : decode cX5_next_ 95 = .ok (.ifCond .le 78, 3) := by decide +kernel
theorem dX5_next__98 : decode cX5_next_ 98 = .ok (.aload_n 0, 1) := by decide +kernel
theorem dX5_next__99 : decode cX5_next_ 99 = .ok (.iconst 1, 1) := by decide +kernel
theorem dX5_next__100 : decode cX5_next_ 100 = .ok (.putfield 214, 3) := by decide +kernel
theorem dX5_next__103 : decode cX5_next_ 103 = .ok (.aload_n 0, 1) := by decide +kernel
theorem dX5_next__104 : decode cX5_next_ 104 = .ok (.aload_n 0, 1) := by decide +kernel
theorem dX5_next__105 : decode cX5_next_ 105 = .ok (.getfield 201, 3) := by decide +kernel
theorem dX5_next__108 : decode cX5_next_ 108 = .ok (.invokevirtual 204, 3) := by decide +kernel
theorem dX5_next__111 : decode cX5_next_ 111 = .ok (.invokestatic 217, 3) := by decide +kernel
theorem dX5_next__114 : decode cX5_next_ 114 = .ok (.ifCond .le 147, 3) := by decide +kernel
theorem dX5_next__117 : decode cX5_next_ 117 = .ok (.aload_n 0, 1) := by decide +kernel
theorem dX5_next__118 : decode cX5_next_ 118 = .ok (.aload_n 0, 1) := by decide +kernel
theorem dX5_next__119 : decode cX5_next_ 119 = .ok (.getfield 210, 3) := by decide +kernel
theorem dX5_next__122 : decode cX5_next_ 122 = .ok (.ldc2_w 220, 3) := by decide +kernel
theorem dX5_next__125 : decode cX5_next_ 125 = .ok (.lcmp, 1) := by decide +kernel
theorem dX5_next__126 : decode cX5_next_ 126 = .ok (.ifCond .le 10, 3) := by decide +kernel
theorem dX5_next__129 : decode cX5_next_ 129 = .ok (.aload_n 0, 1) := by decide +kernel
theorem dX5_next__130 : decode cX5_next_ 130 = .ok (.getfield 210, 3) := by decide +kernel
theorem dX5_next__133 : decode cX5_next_ 133 = .ok (.goto 24, 3) := by decide +kernel
theorem dX5_next__136 : decode cX5_next_ 136 = .ok (.aload_n 0, 1) := by decide +kernel
theorem dX5_next__137 : decode cX5_next_ 137 = .ok (.getfield 210, 3) := by decide +kernel
theorem dX5_next__140 : decode cX5_next_ 140 = .ok (.ldc2_w 222, 3) := by decide +kernel
theorem dX5_next__143 : decode cX5_next_ 143 = .ok (.lmul, 1) := by decide +kernel
theorem dX5_next__144 : decode cX5_next_ 144 = .ok (.aload_n 0, 1) := by decide +kernel
theorem dX5_next__145 : decode cX5_next_ 145 = .ok (.aload_n 0, 1) := by decide +kernel
theorem dX5_next__146 : decode cX5_next_ 146 = .ok (.getfield 201, 3) := by decide +kernel
theorem dX5_next__149 : decode cX5_next_ 149 = .ok (.invokevirtual 204, 3) := by decide +kernel
theorem dX5_next__152 : decode cX5_next_ 152 = .ok (.invokestatic 217, 3) := by decide +kernel
theorem dX5_next__155 : decode cX5_next_ 155 = .ok (.i2l, 1) := by decide +kernel
theorem dX5_next__156 : decode cX5_next_ 156 = .ok (.ladd, 1) := by decide +kernel
theorem dX5_next__157 : decode cX5_next_ 157 = .ok (.putfield 210, 3) := by decide +kernel
theorem dX5_next__160 : decode cX5_next_ 160 = .ok (.aload_n 0, 1) := by decide +kernel
theorem dX5_next__161 : decode cX5_next_ 161 = .ok (.dup, 1) := by decide +kernel
theorem dX5_next__162 : decode cX5_next_ 162 = .ok (.getfield 201, 3) := by decide +kernel
theorem dX5_next__165 : decode cX5_next_ 165 = .ok (.iconst 1, 1) := by decide +kernel
theorem dX5_next__166 : decode cX5_next_ 166 = .ok (.iadd, 1) := by decide +kernel
theorem dX5_next__167 : decode cX5_next_ 167 = .ok (.putfield 201, 3) := by decide +kernel
theorem dX5_next__170 : decode cX5_next_ 170 = .ok (.goto (-67), 3) := by decide +kernel
theorem dX5_next__173 : decode cX5_next_ 173 = .ok (.iload_n 1, 1) := by decide +kernel
theorem dX5_next__174 : decode cX5_next_ 174 = .ok (.invokestatic 224, 3) := by decide +kernel
theorem dX5_next__177 : decode cX5_next_ 177 = .ok (.ifCond .eq 79, 3) := by decide +kernel
theorem dX5_next__180 : decode cX5_next_ 180 = .ok (.aload_n 0, 1) := by decide +kernel
theorem dX5_next__181 : decode cX5_next_ 181 = .ok (.iconst 2, 1) := by decide +kernel
theorem dX5_next__182 : decode cX5_next_ 182 = .ok (.putfield 214, 3) := by decide +kernel
theorem dX5_next__185 : decode cX5_next_ 185 = .ok (.aload_n 0, 1) := by decide +kernel
theorem dX5_next__186 : decode cX5_next_ 186 = .ok (.aload_n 0, 1) := by decide +kernel
theorem dX5_next__187 : decode cX5_next_ 187 = .ok (.getfield 201, 3) := by decide +kernel
theorem dX5_next__190 : decode cX5_next_ 190 = .ok (.invokevirtual 204, 3) := by decide +kernel
theorem dX5_next__193 : decode cX5_next_ 193 = .ok (.invokestatic 224, 3) := by decide +kernel
theorem dX5_next__196 : decode cX5_next_ 196 = .ok (.ifCond .eq 65, 3) := by decide +kernel
theorem dX5_next__199 : decode cX5_next_ 199 = .ok (.aload_n 0, 1) := by decide +kernel
theorem dX5_next__200 : decode cX5_next_ 200 = .ok (.aload_n 0, 1) := by decide +kernel
theorem dX5_next__201 : decode cX5_next_ 201 = .ok (.getfield 210, 3) := by decide +kernel
theorem dX5_next__204 : decode cX5_next_ 204 = .ok (.ldc2_w 227, 3) := by decide +kernel
theorem dX5_next__207 : decode cX5_next_ 207 = .ok (.lcmp, 1) := by decide +kernel
theorem dX5_next__208 : decode cX5_next_ 208 = .ok (.ifCond .le 10, 3) := by decide +kernel
theorem dX5_next__211 : decode cX5_next_ 211 = .ok (.aload_n 0, 1) := by decide +kernel
theorem dX5_next__212 : decode cX5_next_ 212 = .ok (.getfield 210, 3) := by decide +kernel
theorem dX5_next__215 : decode cX5_next_ 215 = .ok (.goto 25, 3) := by decide +kernel
theorem dX5_next__218 : decode cX5_next_ 218 = .ok (.aload_n 0, 1) := by decide +kernel
theorem dX5_next__219 : decode cX5_next_ 219 = .ok (.getfield 210, 3) := by decide +kernel
theorem dX5_next__222 : decode cX5_next_ 222 = .ok (.ldc2_w 229, 3) := by decide +kernel
theorem dX5_next__225 : decode cX5_next_ 225 = .ok (.lmul, 1) := by decide +kernel
theorem dX5_next__226 : decode cX5_next_ 226 = .ok (.aload_n 0, 1) := by decide +kernel
theorem dX5_next__227 : decode cX5_next_ 227 = .ok (.aload_n 0, 1) := by decide +kernel
theorem dX5_next__228 : decode cX5_next_ 228 = .ok (.getfield 201, 3) := by decide +kernel
theorem dX5_next__231 : decode cX5_next_ 231 = .ok (.invokevirtual 204, 3) := by decide +kernel
theorem dX5_next__234 : decode cX5_next_ 234 = .ok (.i2l, 1) := by decide +kernel
theorem dX5_next__235 : decode cX5_next_ 235 = .ok (.ladd, 1) := by decide +kernel
theorem dX5_next__236 : decode cX5_next_ 236 = .ok (.ldc2_w 231, 3) := by decide +kernel
theorem dX5_next__239 : decode cX5_next_ 239 = .ok (.lsub, 1) := by decide +kernel
theorem dX5_next__240 : decode cX5_next_ 240 = .ok (.putfield 210, 3) := by decide +kernel
theorem dX5_next__243 : decode cX5_next_ 243 = .ok (.aload_n 0, 1) := by decide +kernel
theorem dX5_next__244 : decode cX5_next_ 244 = .ok (.dup, 1) := by decide +kernel
theorem dX5_next__245 : decode cX5_next_ 245 = .ok (.getfield 201, 3) := by decide +kernel
theorem dX5_next__248 : decode cX5_next_ 248 = .ok (.iconst 1, 1) := by decide +kernel
theorem dX5_next__249 : decode cX5_next_ 249 = .ok (.iadd, 1) := by decide +kernel
theorem dX5_next__250 : decode cX5_next_ 250 = .ok (.putfield 201, 3) := by decide +kernel
theorem dX5_next__253 : decode cX5_next_ 253 = .ok (.goto (-68), 3) := by decide +kernel
theorem dX5_next__256 : decode cX5_next_ 256 = .ok (.aload_n 0, 1) := by decide +kernel
theorem dX5_next__257 : decode cX5_next_ 257 = .ok (.iconst 4, 1) := by decide +kernel
theorem dX5_next__258 : decode cX5_next_ 258 = .ok (.putfield 214, 3) := by decide +kernel
theorem dX5_next__261 : decode cX5_next_ 261 = .ok (.return_, 1) := by decide +kernel
theorem dX5_wrongHere_0 : decode cX5_wrongHere 0 = .ok (.aload_n 0, 1) := by decide +kernel
theorem dX5_wrongHere_1 : decode cX5_wrongHere 1 = .ok (.aload_n 0, 1) := by decide +kernel
theorem dX5_wrongHere_2 : decode cX5_wrongHere 2 = .ok (.getfield 233, 3) := by decide +kernel
theorem dX5_wrongHere_5 : decode cX5_wrongHere 5 = .ok (.ifCond .ge 10, 3) := by decide +kernel
theorem dX5_wrongHere_8 : decode cX5_wrongHere 8 = .ok (.aload_n 0, 1) := by decide +kernel
theorem dX5_wrongHere_9 : decode cX5_wrongHere 9 = .ok (.getfield 207, 3) := by decide +kernel
theorem dX5_wrongHere_12 : decode cX5_wrongHere 12 = .ok (.goto 7, 3) := by decide +kernel
theorem dX5_wrongHere_15 : decode cX5_wrongHere 15 = .ok (.aload_n 0, 1) := by decide +kernel
theorem dX5_wrongHere_16 : decode cX5_wrongHere 16 = .ok (.getfield 233, 3) := by decide +kernel
theorem dX5_wrongHere_19 : decode cX5_wrongHere 19 = .ok (.putfield 233, 3) := by decide +kernel
theorem dX5_wrongHere_22 : decode cX5_wrongHere 22 = .ok (.return_, 1) := by decide +kernel
theorem dX5_isWord_0 : decode cX5_isWord 0 = .ok (.aload_n 0, 1) := by decide +kernel
theorem dX5_isWord_1 : decode cX5_isWord 1 = .ok (.getfield 214, 3) := by decide +kernel
theorem dX5_isWord_4 : decode cX5_isWord 4 = .ok (.iconst 1, 1) := by decide +kernel
theorem dX5_isWord_5 : decode cX5_isWord 5 = .ok (.if_icmp .ne 16, 3) := by decide +kernel
theorem dX5_isWord_8 : decode cX5_isWord 8 = .ok (.aload_n 0, 1) := by decide +kernel
theorem dX5_isWord_9 : decode cX5_isWord 9 = .ok (.getfield 210, 3) := by decide +kernel
theorem dX5_isWord_12 : decode cX5_isWord 12 = .ok (.lload_n 1, 1) := by decide +kernel
theorem dX5_isWord_13 : decode cX5_isWord 13 = .ok (.lcmp, 1) := by decide +kernel
theorem dX5_isWord_14 : decode cX5_isWord 14 = .ok (.ifCond .ne 7, 3) := by decide +kernel
theorem dX5_isWord_17 : decode cX5_isWord 17 = .ok (.iconst 1, 1) := by decide +kernel
theorem dX5_isWord_18 : decode cX5_isWord 18 = .ok (.goto 4, 3) := by decide +kernel
theorem dX5_isWord_21 : decode cX5_isWord 21 = .ok (.iconst 0, 1) := by decide +kernel
theorem dX5_isWord_22 : decode cX5_isWord 22 = .ok (.ireturn, 1) := by decide +kernel
theorem dX5_kindHere_0 : decode cX5_kindHere 0 = .ok (.aload_n 0, 1) := by decide +kernel
theorem dX5_kindHere_1 : decode cX5_kindHere 1 = .ok (.ldc2_w 236, 3) := by decide +kernel
theorem dX5_kindHere_4 : decode cX5_kindHere 4 = .ok (.invokevirtual 238, 3) := by decide +kernel
theorem dX5_kindHere_7 : decode cX5_kindHere 7 = .ok (.ifCond .eq 7, 3) := by decide +kernel
theorem dX5_kindHere_10 : decode cX5_kindHere 10 = .ok (.iconst 0, 1) := by decide +kernel
theorem dX5_kindHere_11 : decode cX5_kindHere 11 = .ok (.goto 89, 3) := by decide +kernel
theorem dX5_kindHere_14 : decode cX5_kindHere 14 = .ok (.aload_n 0, 1) := by decide +kernel
theorem dX5_kindHere_15 : decode cX5_kindHere 15 = .ok (.ldc2_w 242, 3) := by decide +kernel
theorem dX5_kindHere_18 : decode cX5_kindHere 18 = .ok (.invokevirtual 238, 3) := by decide +kernel
theorem dX5_kindHere_21 : decode cX5_kindHere 21 = .ok (.ifCond .eq 7, 3) := by decide +kernel
theorem dX5_kindHere_24 : decode cX5_kindHere 24 = .ok (.iconst 1, 1) := by decide +kernel
theorem dX5_kindHere_25 : decode cX5_kindHere 25 = .ok (.goto 75, 3) := by decide +kernel
theorem dX5_kindHere_28 : decode cX5_kindHere 28 = .ok (.aload_n 0, 1) := by decide +kernel
theorem dX5_kindHere_29 : decode cX5_kindHere 29 = .ok (.ldc2_w 244, 3) := by decide +kernel
theorem dX5_kindHere_32 : decode cX5_kindHere 32 = .ok (.invokevirtual 238, 3) := by decide +kernel
theorem dX5_kindHere_35 : decode cX5_kindHere 35 = .ok (.ifCond .eq 7, 3) := by decide +kernel
theorem dX5_kindHere_38 : decode cX5_kindHere 38 = .ok (.iconst 2, 1) := by decide +kernel
theorem dX5_kindHere_39 : decode cX5_kindHere 39 = .ok (.goto 61, 3) := by decide +kernel
theorem dX5_kindHere_42 : decode cX5_kindHere 42 = .ok (.aload_n 0, 1) := by decide +kernel
theorem dX5_kindHere_43 : decode cX5_kindHere 43 = .ok (.ldc2_w 246, 3) := by decide +kernel
theorem dX5_kindHere_46 : decode cX5_kindHere 46 = .ok (.invokevirtual 238, 3) := by decide +kernel
theorem dX5_kindHere_49 : decode cX5_kindHere 49 = .ok (.ifCond .eq 7, 3) := by decide +kernel
theorem dX5_kindHere_52 : decode cX5_kindHere 52 = .ok (.iconst 3, 1) := by decide +kernel
theorem dX5_kindHere_53 : decode cX5_kindHere 53 = .ok (.goto 47, 3) := by decide +kernel
theorem dX5_kindHere_56 : decode cX5_kindHere 56 = .ok (.aload_n 0, 1) := by decide +kernel
theorem dX5_kindHere_57 : decode cX5_kindHere 57 = .ok (.ldc2_w 248, 3) := by decide +kernel
theorem dX5_kindHere_60 : decode cX5_kindHere 60 = .ok (.invokevirtual 238, 3) := by decide +kernel
theorem dX5_kindHere_63 : decode cX5_kindHere 63 = .ok (.ifCond .eq 7, 3) := by decide +kernel
theorem dX5_kindHere_66 : decode cX5_kindHere 66 = .ok (.iconst 4, 1) := by decide +kernel
theorem dX5_kindHere_67 : decode cX5_kindHere 67 = .ok (.goto 33, 3) := by decide +kernel
theorem dX5_kindHere_70 : decode cX5_kindHere 70 = .ok (.aload_n 0, 1) := by decide +kernel
theorem dX5_kindHere_71 : decode cX5_kindHere 71 = .ok (.ldc2_w 250, 3) := by decide +kernel
theorem dX5_kindHere_74 : decode cX5_kindHere 74 = .ok (.invokevirtual 238, 3) := by decide +kernel
theorem dX5_kindHere_77 : decode cX5_kindHere 77 = .ok (.ifCond .eq 7, 3) := by decide +kernel
theorem dX5_kindHere_80 : decode cX5_kindHere 80 = .ok (.iconst 5, 1) := by decide +kernel
theorem dX5_kindHere_81 : decode cX5_kindHere 81 = .ok (.goto 19, 3) := by decide +kernel
theorem dX5_kindHere_84 : decode cX5_kindHere 84 = .ok (.aload_n 0, 1) := by decide +kernel
theorem dX5_kindHere_85 : decode cX5_kindHere 85 = .ok (.ldc2_w 252, 3) := by decide +kernel
theorem dX5_kindHere_88 : decode cX5_kindHere 88 = .ok (.invokevirtual 238, 3) := by decide +kernel
theorem dX5_kindHere_91 : decode cX5_kindHere 91 = .ok (.ifCond .eq 8, 3) := by decide +kernel
theorem dX5_kindHere_94 : decode cX5_kindHere 94 = .ok (.bipush 6, 2) := by decide +kernel
theorem dX5_kindHere_96 : decode cX5_kindHere 96 = .ok (.goto 4, 3) := by decide +kernel
theorem dX5_kindHere_99 : decode cX5_kindHere 99 = .ok (.iconst (-1), 1) := by decide +kernel
theorem dX5_kindHere_100 : decode cX5_kindHere 100 = .ok (.ireturn, 1) := by decide +kernel
theorem dX5_numberHere_0 : decode cX5_numberHere 0 = .ok (.aload_n 0, 1) := by decide +kernel
theorem dX5_numberHere_1 : decode cX5_numberHere 1 = .ok (.getfield 210, 3) := by decide +kernel
theorem dX5_numberHere_4 : decode cX5_numberHere 4 = .ok (.l2i, 1) := by decide +kernel
theorem dX5_numberHere_5 : decode cX5_numberHere 5 = .ok (.istore 4, 2) := by decide +kernel
theorem dX5_numberHere_7 : decode cX5_numberHere 7 = .ok (.aload_n 0, 1) := by decide +kernel
theorem dX5_numberHere_8 : decode cX5_numberHere 8 = .ok (.getfield 214, 3) := by decide +kernel
theorem dX5_numberHere_11 : decode cX5_numberHere 11 = .ok (.iconst 2, 1) := by decide +kernel
theorem dX5_numberHere_12 : decode cX5_numberHere 12 = .ok (.if_icmp .ne 23, 3) := by decide +kernel
theorem dX5_numberHere_15 : decode cX5_numberHere 15 = .ok (.aload_n 0, 1) := by decide +kernel
theorem dX5_numberHere_16 : decode cX5_numberHere 16 = .ok (.getfield 210, 3) := by decide +kernel
theorem dX5_numberHere_19 : decode cX5_numberHere 19 = .ok (.iload_n 1, 1) := by decide +kernel
theorem dX5_numberHere_20 : decode cX5_numberHere 20 = .ok (.i2l, 1) := by decide +kernel
theorem dX5_numberHere_21 : decode cX5_numberHere 21 = .ok (.iload_n 2, 1) := by decide +kernel
theorem dX5_numberHere_22 : decode cX5_numberHere 22 = .ok (.i2l, 1) := by decide +kernel
theorem dX5_numberHere_23 : decode cX5_numberHere 23 = .ok (.invokestatic 42, 3) := by decide +kernel
theorem dX5_numberHere_26 : decode cX5_numberHere 26 = .ok (.ifCond .eq 9, 3) := by decide +kernel
theorem dX5_numberHere_29 : decode cX5_numberHere 29 = .ok (.iload 4, 2) := by decide +kernel
theorem dX5_numberHere_31 : decode cX5_numberHere 31 = .ok (.iload_n 3, 1) := by decide +kernel
theorem dX5_numberHere_32 : decode cX5_numberHere 32 = .ok (.if_icmp .ne 9, 3) := by decide +kernel
theorem dX5_numberHere_35 : decode cX5_numberHere 35 = .ok (.aload_n 0, 1) := by decide +kernel
theorem dX5_numberHere_36 : decode cX5_numberHere 36 = .ok (.invokevirtual 254, 3) := by decide +kernel
theorem dX5_numberHere_39 : decode cX5_numberHere 39 = .ok (.iconst 0, 1) := by decide +kernel
theorem dX5_numberHere_40 : decode cX5_numberHere 40 = .ok (.ireturn, 1) := by decide +kernel
theorem dX5_numberHere_41 : decode cX5_numberHere 41 = .ok (.aload_n 0, 1) := by decide +kernel
theorem dX5_numberHere_42 : decode cX5_numberHere 42 = .ok (.invokevirtual 257, 3) := by decide +kernel
theorem dX5_numberHere_45 : decode cX5_numberHere 45 = .ok (.iload 4, 2) := by decide +kernel
theorem dX5_numberHere_47 : decode cX5_numberHere 47 = .ok (.ireturn, 1) := by decide +kernel
theorem dX5_perhaps_0 : decode cX5_perhaps 0 = .ok (.aload_n 0, 1) := by decide +kernel
theorem dX5_perhaps_1 : decode cX5_perhaps 1 = .ok (.getfield 233, 3) := by decide +kernel
theorem dX5_perhaps_4 : decode cX5_perhaps 4 = .ok (.ifCond .ge 41, 3) := by decide +kernel
theorem dX5_perhaps_7 : decode cX5_perhaps 7 = .ok (.aload_n 0, 1) := by decide +kernel
theorem dX5_perhaps_8 : decode cX5_perhaps 8 = .ok (.lload_n 1, 1) := by decide +kernel
theorem dX5_perhaps_9 : decode cX5_perhaps 9 = .ok (.invokevirtual 238, 3) := by decide +kernel
theorem dX5_perhaps_12 : decode cX5_perhaps 12 = .ok (.ifCond .eq 33, 3) := by decide +kernel
theorem dX5_perhaps_15 : decode cX5_perhaps 15 = .ok (.aload_n 0, 1) := by decide +kernel
theorem dX5_perhaps_16 : decode cX5_perhaps 16 = .ok (.invokevirtual 257, 3) := by decide +kernel
theorem dX5_perhaps_19 : decode cX5_perhaps 19 = .ok (.aload_n 0, 1) := by decide +kernel
theorem dX5_perhaps_20 : decode cX5_perhaps 20 = .ok (.iconst 0, 1) := by decide +kernel
theorem dX5_perhaps_21 : decode cX5_perhaps 21 = .ok (.bipush 99, 2) := by decide +kernel
theorem dX5_perhaps_23 : decode cX5_perhaps 23 = .ok (.iconst (-1), 1) := by decide +kernel
theorem dX5_perhaps_24 : decode cX5_perhaps 24 = .ok (.invokevirtual 260, 3) := by decide +kernel
theorem dX5_perhaps_27 : decode cX5_perhaps 27 = .ok (.istore 5, 2) := by decide +kernel
theorem dX5_perhaps_29 : decode cX5_perhaps 29 = .ok (.aload_n 0, 1) := by decide +kernel
theorem dX5_perhaps_30 : decode cX5_perhaps 30 = .ok (.getfield 233, 3) := by decide +kernel
theorem dX5_perhaps_33 : decode cX5_perhaps 33 = .ok (.ifCond .ge 12, 3) := by decide +kernel
theorem dX5_perhaps_36 : decode cX5_perhaps 36 = .ok (.aload_n 0, 1) := by decide +kernel
theorem dX5_perhaps_37 : decode cX5_perhaps 37 = .ok (.iload_n 3, 1) := by decide +kernel
theorem dX5_perhaps_38 : decode cX5_perhaps 38 = .ok (.iload 4, 2) := by decide +kernel
theorem dX5_perhaps_40 : decode cX5_perhaps 40 = .ok (.iload 5, 2) := by decide +kernel
theorem dX5_perhaps_42 : decode cX5_perhaps 42 = .ok (.invokevirtual 125, 3) := by decide +kernel
theorem dX5_perhaps_45 : decode cX5_perhaps 45 = .ok (.return_, 1) := by decide +kernel
theorem dX5_potterHere_0 : decode cX5_potterHere 0 = .ok (.aload_n 0, 1) := by decide +kernel
theorem dX5_potterHere_1 : decode cX5_potterHere 1 = .ok (.getfield 7, 3) := by decide +kernel
theorem dX5_potterHere_4 : decode cX5_potterHere 4 = .ok (.iconst 0, 1) := by decide +kernel
theorem dX5_potterHere_5 : decode cX5_potterHere 5 = .ok (.iaload, 1) := by decide +kernel
theorem dX5_potterHere_6 : decode cX5_potterHere 6 = .ok (.bipush 8, 2) := by decide +kernel
theorem dX5_potterHere_8 : decode cX5_potterHere 8 = .ok (.if_icmp .ne 8, 3) := by decide +kernel
theorem dX5_potterHere_11 : decode cX5_potterHere 11 = .ok (.aload_n 0, 1) := by decide +kernel
theorem dX5_potterHere_12 : decode cX5_potterHere 12 = .ok (.invokevirtual 254, 3) := by decide +kernel
theorem dX5_potterHere_15 : decode cX5_potterHere 15 = .ok (.return_, 1) := by decide +kernel
theorem dX5_potterHere_16 : decode cX5_potterHere 16 = .ok (.aload_n 0, 1) := by decide +kernel
theorem dX5_potterHere_17 : decode cX5_potterHere 17 = .ok (.invokevirtual 257, 3) := by decide +kernel
theorem dX5_potterHere_20 : decode cX5_potterHere 20 = .ok (.aload_n 0, 1) := by decide +kernel
theorem dX5_potterHere_21 : decode cX5_potterHere 21 = .ok (.iload_n 1, 1) := by decide +kernel
theorem dX5_potterHere_22 : decode cX5_potterHere 22 = .ok (.bipush 30, 2) := by decide +kernel
theorem dX5_potterHere_24 : decode cX5_potterHere 24 = .ok (.invokevirtual 132, 3) := by decide +kernel
theorem dX5_potterHere_27 : decode cX5_potterHere 27 = .ok (.istore_n 2, 1) := by decide +kernel
theorem dX5_potterHere_28 : decode cX5_potterHere 28 = .ok (.aload_n 0, 1) := by decide +kernel
theorem dX5_potterHere_29 : decode cX5_potterHere 29 = .ok (.ldc2_w 263, 3) := by decide +kernel
theorem dX5_potterHere_32 : decode cX5_potterHere 32 = .ok (.iload_n 2, 1) := by decide +kernel
theorem dX5_potterHere_33 : decode cX5_potterHere 33 = .ok (.iconst 1, 1) := by decide +kernel
theorem dX5_potterHere_34 : decode cX5_potterHere 34 = .ok (.invokevirtual 265, 3) := by decide +kernel
theorem dX5_potterHere_37 : decode cX5_potterHere 37 = .ok (.aload_n 0, 1) := by decide +kernel
theorem dX5_potterHere_38 : decode cX5_potterHere 38 = .ok (.ldc2_w 269, 3) := by decide +kernel
theorem dX5_potterHere_41 : decode cX5_potterHere 41 = .ok (.iload_n 2, 1) := by decide +kernel
theorem dX5_potterHere_42 : decode cX5_potterHere 42 = .ok (.iconst 2, 1) := by decide +kernel
theorem dX5_potterHere_43 : decode cX5_potterHere 43 = .ok (.invokevirtual 265, 3) := by decide +kernel
theorem dX5_potterHere_46 : decode cX5_potterHere 46 = .ok (.aload_n 0, 1) := by decide +kernel
theorem dX5_potterHere_47 : decode cX5_potterHere 47 = .ok (.ldc2_w 271, 3) := by decide +kernel
theorem dX5_potterHere_50 : decode cX5_potterHere 50 = .ok (.iload_n 2, 1) := by decide +kernel
theorem dX5_potterHere_51 : decode cX5_potterHere 51 = .ok (.iconst 3, 1) := by decide +kernel
theorem dX5_potterHere_52 : decode cX5_potterHere 52 = .ok (.invokevirtual 265, 3) := by decide +kernel
theorem dX5_potterHere_55 : decode cX5_potterHere 55 = .ok (.return_, 1) := by decide +kernel
theorem dX5_riftHere_0 : decode cX5_riftHere 0 = .ok (.aload_n 0, 1) := by decide +kernel
theorem dX5_riftHere_1 : decode cX5_riftHere 1 = .ok (.invokevirtual 257, 3) := by decide +kernel
theorem dX5_riftHere_4 : decode cX5_riftHere 4 = .ok (.aload_n 0, 1) := by decide +kernel
theorem dX5_riftHere_5 : decode cX5_riftHere 5 = .ok (.iconst 0, 1) := by decide +kernel
theorem dX5_riftHere_6 : decode cX5_riftHere 6 = .ok (.aload_n 0, 1) := by decide +kernel
theorem dX5_riftHere_7 : decode cX5_riftHere 7 = .ok (.getfield 7, 3) := by decide +kernel
theorem dX5_riftHere_10 : decode cX5_riftHere 10 = .ok (.iconst 0, 1) := by decide +kernel
theorem dX5_riftHere_11 : decode cX5_riftHere 11 = .ok (.iaload, 1) := by decide +kernel
theorem dX5_riftHere_12 : decode cX5_riftHere 12 = .ok (.iconst 1, 1) := by decide +kernel
theorem dX5_riftHere_13 : decode cX5_riftHere 13 = .ok (.isub, 1) := by decide +kernel
theorem dX5_riftHere_14 : decode cX5_riftHere 14 = .ok (.iconst (-1), 1) := by decide +kernel
theorem dX5_riftHere_15 : decode cX5_riftHere 15 = .ok (.invokevirtual 260, 3) := by decide +kernel
theorem dX5_riftHere_18 : decode cX5_riftHere 18 = .ok (.istore_n 1, 1) := by decide +kernel
theorem dX5_riftHere_19 : decode cX5_riftHere 19 = .ok (.aload_n 0, 1) := by decide +kernel
theorem dX5_riftHere_20 : decode cX5_riftHere 20 = .ok (.getfield 233, 3) := by decide +kernel
theorem dX5_riftHere_23 : decode cX5_riftHere 23 = .ok (.ifCond .ge 20, 3) := by decide +kernel
theorem dX5_riftHere_26 : decode cX5_riftHere 26 = .ok (.aload_n 0, 1) := by decide +kernel
theorem dX5_riftHere_27 : decode cX5_riftHere 27 = .ok (.iconst 0, 1) := by decide +kernel
theorem dX5_riftHere_28 : decode cX5_riftHere 28 = .ok (.aload_n 0, 1) := by decide +kernel
theorem dX5_riftHere_29 : decode cX5_riftHere 29 = .ok (.getfield 7, 3) := by decide +kernel
theorem dX5_riftHere_32 : decode cX5_riftHere 32 = .ok (.iconst 0, 1) := by decide +kernel
theorem dX5_riftHere_33 : decode cX5_riftHere 33 = .ok (.iaload, 1) := by decide +kernel
theorem dX5_riftHere_34 : decode cX5_riftHere 34 = .ok (.iconst 1, 1) := by decide +kernel
theorem dX5_riftHere_35 : decode cX5_riftHere 35 = .ok (.isub, 1) := by decide +kernel
theorem dX5_riftHere_36 : decode cX5_riftHere 36 = .ok (.iload_n 1, 1) := by decide +kernel
theorem dX5_riftHere_37 : decode cX5_riftHere 37 = .ok (.invokevirtual 260, 3) := by decide +kernel
theorem dX5_riftHere_40 : decode cX5_riftHere 40 = .ok (.goto 4, 3) := by decide +kernel
theorem dX5_riftHere_43 : decode cX5_riftHere 43 = .ok (.iconst 0, 1) := by decide +kernel
theorem dX5_riftHere_44 : decode cX5_riftHere 44 = .ok (.istore_n 2, 1) := by decide +kernel
theorem dX5_riftHere_45 : decode cX5_riftHere 45 = .ok (.aload_n 0, 1) := by decide +kernel
theorem dX5_riftHere_46 : decode cX5_riftHere 46 = .ok (.getfield 233, 3) := by decide +kernel
theorem dX5_riftHere_49 : decode cX5_riftHere 49 = .ok (.ifCond .ge 14, 3) := by decide +kernel
theorem dX5_riftHere_52 : decode cX5_riftHere 52 = .ok (.aload_n 0, 1) := by decide +kernel
theorem dX5_riftHere_53 : decode cX5_riftHere 53 = .ok (.iconst 0, 1) := by decide +kernel
theorem dX5_riftHere_54 : decode cX5_riftHere 54 = .ok (.bipush 99, 2) := by decide +kernel
theorem dX5_riftHere_56 : decode cX5_riftHere 56 = .ok (.iconst (-1), 1) := by decide +kernel
theorem dX5_riftHere_57 : decode cX5_riftHere 57 = .ok (.invokevirtual 260, 3) := by decide +kernel
theorem dX5_riftHere_60 : decode cX5_riftHere 60 = .ok (.goto 4, 3) := by decide +kernel
theorem dX5_riftHere_63 : decode cX5_riftHere 63 = .ok (.iconst 0, 1) := by decide +kernel
theorem dX5_riftHere_64 : decode cX5_riftHere 64 = .ok (.istore_n 3, 1) := by decide +kernel
theorem dX5_riftHere_65 : decode cX5_riftHere 65 = .ok (.aload_n 0, 1) := by decide +kernel
theorem dX5_riftHere_66 : decode cX5_riftHere 66 = .ok (.getfield 233, 3) := by decide +kernel
theorem dX5_riftHere_69 : decode cX5_riftHere 69 = .ok (.ifCond .ge 14, 3) := by decide +kernel
theorem dX5_riftHere_72 : decode cX5_riftHere 72 = .ok (.aload_n 0, 1) := by decide +kernel
theorem dX5_riftHere_73 : decode cX5_riftHere 73 = .ok (.getfield 7, 3) := by decide +kernel
theorem dX5_riftHere_76 : decode cX5_riftHere 76 = .ok (.iload_n 1, 1) := by decide +kernel
theorem dX5_riftHere_77 : decode cX5_riftHere 77 = .ok (.iload_n 2, 1) := by decide +kernel
theorem dX5_riftHere_78 : decode cX5_riftHere 78 = .ok (.invokestatic 58, 3) := by decide +kernel
theorem dX5_riftHere_81 : decode cX5_riftHere 81 = .ok (.iload_n 3, 1) := by decide +kernel
theorem dX5_riftHere_82 : decode cX5_riftHere 82 = .ok (.iastore, 1) := by decide +kernel
theorem dX5_riftHere_83 : decode cX5_riftHere 83 = .ok (.return_, 1) := by decide +kernel
theorem dX5_pairHere_0 : decode cX5_pairHere 0 = .ok (.aload_n 0, 1) := by decide +kernel
theorem dX5_pairHere_1 : decode cX5_pairHere 1 = .ok (.invokevirtual 257, 3) := by decide +kernel
theorem dX5_pairHere_4 : decode cX5_pairHere 4 = .ok (.aload_n 0, 1) := by decide +kernel
theorem dX5_pairHere_5 : decode cX5_pairHere 5 = .ok (.iconst 0, 1) := by decide +kernel
theorem dX5_pairHere_6 : decode cX5_pairHere 6 = .ok (.iconst 5, 1) := by decide +kernel
theorem dX5_pairHere_7 : decode cX5_pairHere 7 = .ok (.iconst (-1), 1) := by decide +kernel
theorem dX5_pairHere_8 : decode cX5_pairHere 8 = .ok (.invokevirtual 260, 3) := by decide +kernel
theorem dX5_pairHere_11 : decode cX5_pairHere 11 = .ok (.istore_n 1, 1) := by decide +kernel
theorem dX5_pairHere_12 : decode cX5_pairHere 12 = .ok (.aload_n 0, 1) := by decide +kernel
theorem dX5_pairHere_13 : decode cX5_pairHere 13 = .ok (.getfield 233, 3) := by decide +kernel
theorem dX5_pairHere_16 : decode cX5_pairHere 16 = .ok (.ifCond .ge 14, 3) := by decide +kernel
theorem dX5_pairHere_19 : decode cX5_pairHere 19 = .ok (.aload_n 0, 1) := by decide +kernel
theorem dX5_pairHere_20 : decode cX5_pairHere 20 = .ok (.iconst 0, 1) := by decide +kernel
theorem dX5_pairHere_21 : decode cX5_pairHere 21 = .ok (.bipush 7, 2) := by decide +kernel
theorem dX5_pairHere_23 : decode cX5_pairHere 23 = .ok (.iconst (-1), 1) := by decide +kernel
theorem dX5_pairHere_24 : decode cX5_pairHere 24 = .ok (.invokevirtual 260, 3) := by decide +kernel
theorem dX5_pairHere_27 : decode cX5_pairHere 27 = .ok (.goto 4, 3) := by decide +kernel
theorem dX5_pairHere_30 : decode cX5_pairHere 30 = .ok (.iconst 0, 1) := by decide +kernel
theorem dX5_pairHere_31 : decode cX5_pairHere 31 = .ok (.istore_n 2, 1) := by decide +kernel
theorem dX5_pairHere_32 : decode cX5_pairHere 32 = .ok (.aload_n 0, 1) := by decide +kernel
theorem dX5_pairHere_33 : decode cX5_pairHere 33 = .ok (.getfield 233, 3) := by decide +kernel
theorem dX5_pairHere_36 : decode cX5_pairHere 36 = .ok (.ifCond .ge 14, 3) := by decide +kernel
theorem dX5_pairHere_39 : decode cX5_pairHere 39 = .ok (.aload_n 0, 1) := by decide +kernel
theorem dX5_pairHere_40 : decode cX5_pairHere 40 = .ok (.iconst 0, 1) := by decide +kernel
theorem dX5_pairHere_41 : decode cX5_pairHere 41 = .ok (.bipush 7, 2) := by decide +kernel
theorem dX5_pairHere_43 : decode cX5_pairHere 43 = .ok (.iconst (-1), 1) := by decide +kernel
theorem dX5_pairHere_44 : decode cX5_pairHere 44 = .ok (.invokevirtual 260, 3) := by decide +kernel
theorem dX5_pairHere_47 : decode cX5_pairHere 47 = .ok (.goto 4, 3) := by decide +kernel
theorem dX5_pairHere_50 : decode cX5_pairHere 50 = .ok (.iconst 0, 1) := by decide +kernel
theorem dX5_pairHere_51 : decode cX5_pairHere 51 = .ok (.istore_n 3, 1) := by decide +kernel
theorem dX5_pairHere_52 : decode cX5_pairHere 52 = .ok (.aload_n 0, 1) := by decide +kernel
theorem dX5_pairHere_53 : decode cX5_pairHere 53 = .ok (.getfield 233, 3) := by decide +kernel
theorem dX5_pairHere_56 : decode cX5_pairHere 56 = .ok (.ifCond .ge 18, 3) := by decide +kernel
theorem dX5_pairHere_59 : decode cX5_pairHere 59 = .ok (.aload_n 0, 1) := by decide +kernel
theorem dX5_pairHere_60 : decode cX5_pairHere 60 = .ok (.getfield 7, 3) := by decide +kernel
theorem dX5_pairHere_63 : decode cX5_pairHere 63 = .ok (.bipush 7, 2) := by decide +kernel
theorem dX5_pairHere_65 : decode cX5_pairHere 65 = .ok (.iload_n 1, 1) := by decide +kernel
theorem dX5_pairHere_66 : decode cX5_pairHere 66 = .ok (.iadd, 1) := by decide +kernel
theorem dX5_pairHere_67 : decode cX5_pairHere 67 = .ok (.bipush 10, 2) := by decide +kernel
theorem dX5_pairHere_69 : decode cX5_pairHere 69 = .ok (.iload_n 2, 1) := by decide +kernel
theorem dX5_pairHere_70 : decode cX5_pairHere 70 = .ok (.imul, 1) := by decide +kernel
theorem dX5_pairHere_71 : decode cX5_pairHere 71 = .ok (.iload_n 3, 1) := by decide +kernel
theorem dX5_pairHere_72 : decode cX5_pairHere 72 = .ok (.iadd, 1) := by decide +kernel
theorem dX5_pairHere_73 : decode cX5_pairHere 73 = .ok (.iastore, 1) := by decide +kernel
theorem dX5_pairHere_74 : decode cX5_pairHere 74 = .ok (.return_, 1) := by decide +kernel
theorem dX5_item_0 : decode cX5_item 0 = .ok (.aload_n 0, 1) := by decide +kernel
theorem dX5_item_1 : decode cX5_item 1 = .ok (.invokevirtual 273, 3) := by decide +kernel
theorem dX5_item_4 : decode cX5_item 4 = .ok (.istore_n 1, 1) := by decide +kernel
theorem dX5_item_5 : decode cX5_item 5 = .ok (.iload_n 1, 1) := by decide +kernel
theorem dX5_item_6 : decode cX5_item 6 = .ok (.ifCond .lt 11, 3) := by decide +kernel
theorem dX5_item_9 : decode cX5_item 9 = .ok (.aload_n 0, 1) := by decide +kernel
theorem dX5_item_10 : decode cX5_item 10 = .ok (.iload_n 1, 1) := by decide +kernel
theorem dX5_item_11 : decode cX5_item 11 = .ok (.invokevirtual 276, 3) := by decide +kernel
theorem dX5_item_14 : decode cX5_item 14 = .ok (.goto 72, 3) := by decide +kernel
theorem dX5_item_17 : decode cX5_item 17 = .ok (.aload_n 0, 1) := by decide +kernel
theorem dX5_item_18 : decode cX5_item 18 = .ok (.ldc2_w 279, 3) := by decide +kernel
theorem dX5_item_21 : decode cX5_item 21 = .ok (.invokevirtual 238, 3) := by decide +kernel
theorem dX5_item_24 : decode cX5_item 24 = .ok (.ifCond .eq 10, 3) := by decide +kernel
theorem dX5_item_27 : decode cX5_item 27 = .ok (.aload_n 0, 1) := by decide +kernel
theorem dX5_item_28 : decode cX5_item 28 = .ok (.invokevirtual 281, 3) := by decide +kernel
theorem dX5_item_31 : decode cX5_item 31 = .ok (.goto 55, 3) := by decide +kernel
theorem dX5_item_34 : decode cX5_item 34 = .ok (.aload_n 0, 1) := by decide +kernel
theorem dX5_item_35 : decode cX5_item 35 = .ok (.ldc2_w 284, 3) := by decide +kernel
theorem dX5_item_38 : decode cX5_item 38 = .ok (.invokevirtual 238, 3) := by decide +kernel
theorem dX5_item_41 : decode cX5_item 41 = .ok (.ifCond .eq 10, 3) := by decide +kernel
theorem dX5_item_44 : decode cX5_item 44 = .ok (.aload_n 0, 1) := by decide +kernel
theorem dX5_item_45 : decode cX5_item 45 = .ok (.invokevirtual 286, 3) := by decide +kernel
theorem dX5_item_48 : decode cX5_item 48 = .ok (.goto 38, 3) := by decide +kernel
theorem dX5_item_51 : decode cX5_item 51 = .ok (.aload_n 0, 1) := by decide +kernel
theorem dX5_item_52 : decode cX5_item 52 = .ok (.ldc2_w 289, 3) := by decide +kernel
theorem dX5_item_55 : decode cX5_item 55 = .ok (.invokevirtual 238, 3) := by decide +kernel
theorem dX5_item_58 : decode cX5_item 58 = .ok (.ifCond .eq 24, 3) := by decide +kernel
theorem dX5_item_61 : decode cX5_item 61 = .ok (.aload_n 0, 1) := by decide +kernel
theorem dX5_item_62 : decode cX5_item 62 = .ok (.invokevirtual 257, 3) := by decide +kernel
theorem dX5_item_65 : decode cX5_item 65 = .ok (.aload_n 0, 1) := by decide +kernel
theorem dX5_item_66 : decode cX5_item 66 = .ok (.getfield 7, 3) := by decide +kernel
theorem dX5_item_69 : decode cX5_item 69 = .ok (.iconst 3, 1) := by decide +kernel
theorem dX5_item_70 : decode cX5_item 70 = .ok (.aload_n 0, 1) := by decide +kernel
theorem dX5_item_71 : decode cX5_item 71 = .ok (.iconst 1, 1) := by decide +kernel
theorem dX5_item_72 : decode cX5_item 72 = .ok (.bipush 20, 2) := by decide +kernel
theorem dX5_item_74 : decode cX5_item 74 = .ok (.iconst (-1), 1) := by decide +kernel
theorem dX5_item_75 : decode cX5_item 75 = .ok (.invokevirtual 260, 3) := by decide +kernel
theorem dX5_item_78 : decode cX5_item 78 = .ok (.iastore, 1) := by decide +kernel
theorem dX5_item_79 : decode cX5_item 79 = .ok (.goto 7, 3) := by decide +kernel
theorem dX5_item_82 : decode cX5_item 82 = .ok (.aload_n 0, 1) := by decide +kernel
theorem dX5_item_83 : decode cX5_item 83 = .ok (.invokevirtual 254, 3) := by decide +kernel
theorem dX5_item_86 : decode cX5_item 86 = .ok (.return_, 1) := by decide +kernel
theorem dX5_items_0 : decode cX5_items 0 = .ok (.aload_n 0, 1) := by decide +kernel
theorem dX5_items_1 : decode cX5_items 1 = .ok (.iconst 0, 1) := by decide +kernel
theorem dX5_items_2 : decode cX5_items 2 = .ok (.putfield 201, 3) := by decide +kernel
theorem dX5_items_5 : decode cX5_items 5 = .ok (.aload_n 0, 1) := by decide +kernel
theorem dX5_items_6 : decode cX5_items 6 = .ok (.iconst (-1), 1) := by decide +kernel
theorem dX5_items_7 : decode cX5_items 7 = .ok (.putfield 233, 3) := by decide +kernel
theorem dX5_items_10 : decode cX5_items 10 = .ok (.aload_n 0, 1) := by decide +kernel
theorem dX5_items_11 : decode cX5_items 11 = .ok (.invokevirtual 257, 3) := by decide +kernel
theorem dX5_items_14 : decode cX5_items 14 = .ok (.aload_n 0, 1) := by decide +kernel
theorem dX5_items_15 : decode cX5_items 15 = .ok (.invokevirtual 291, 3) := by decide +kernel
theorem dX5_items_18 : decode cX5_items 18 = .ok (.iconst 1, 1) := by decide +kernel
theorem dX5_items_19 : decode cX5_items 19 = .ok (.istore_n 1, 1) := by decide +kernel
theorem dX5_items_20 : decode cX5_items 20 = .ok (.aload_n 0, 1) := by decide +kernel
theorem dX5_items_21 : decode cX5_items 21 = .ok (.getfield 233, 3) := by decide +kernel
theorem dX5_items_24 : decode cX5_items 24 = .ok (.ifCond .ge 25, 3) := by decide +kernel
theorem dX5_items_27 : decode cX5_items 27 = .ok (.aload_n 0, 1) := by decide +kernel
theorem dX5_items_28 : decode cX5_items 28 = .ok (.getfield 214, 3) := by decide +kernel
theorem dX5_items_31 : decode cX5_items 31 = .ok (.iconst 3, 1) := by decide +kernel
theorem dX5_items_32 : decode cX5_items 32 = .ok (.if_icmp .ne 17, 3) := by decide +kernel
theorem dX5_items_35 : decode cX5_items 35 = .ok (.aload_n 0, 1) := by decide +kernel
theorem dX5_items_36 : decode cX5_items 36 = .ok (.invokevirtual 257, 3) := by decide +kernel
theorem dX5_items_39 : decode cX5_items 39 = .ok (.aload_n 0, 1) := by decide +kernel
theorem dX5_items_40 : decode cX5_items 40 = .ok (.invokevirtual 291, 3) := by decide +kernel
theorem dX5_items_43 : decode cX5_items 43 = .ok (.iinc 1 1, 3) := by decide +kernel
theorem dX5_items_46 : decode cX5_items 46 = .ok (.goto (-26), 3) := by decide +kernel
theorem dX5_items_49 : decode cX5_items 49 = .ok (.aload_n 0, 1) := by decide +kernel
theorem dX5_items_50 : decode cX5_items 50 = .ok (.getfield 233, 3) := by decide +kernel
theorem dX5_items_53 : decode cX5_items 53 = .ok (.ifCond .ge 14, 3) := by decide +kernel
theorem dX5_items_56 : decode cX5_items 56 = .ok (.aload_n 0, 1) := by decide +kernel
theorem dX5_items_57 : decode cX5_items 57 = .ok (.getfield 214, 3) := by decide +kernel
theorem dX5_items_60 : decode cX5_items 60 = .ok (.ifCond .eq 7, 3) := by decide +kernel
theorem dX5_items_63 : decode cX5_items 63 = .ok (.aload_n 0, 1) := by decide +kernel
theorem dX5_items_64 : decode cX5_items 64 = .ok (.invokevirtual 254, 3) := by decide +kernel
theorem dX5_items_67 : decode cX5_items 67 = .ok (.iload_n 1, 1) := by decide +kernel
theorem dX5_items_68 : decode cX5_items 68 = .ok (.ireturn, 1) := by decide +kernel
theorem dX5_text_0 : decode cX5_text 0 = .ok (.aload_n 0, 1) := by decide +kernel
theorem dX5_text_1 : decode cX5_text 1 = .ok (.getfield 7, 3) := by decide +kernel
theorem dX5_text_4 : decode cX5_text 4 = .ok (.aload_n 0, 1) := by decide +kernel
theorem dX5_text_5 : decode cX5_text 5 = .ok (.getfield 13, 3) := by decide +kernel
theorem dX5_text_8 : decode cX5_text 8 = .ok (.invokestatic 153, 3) := by decide +kernel
theorem dX5_text_11 : decode cX5_text 11 = .ok (.aload_n 0, 1) := by decide +kernel
theorem dX5_text_12 : decode cX5_text 12 = .ok (.invokevirtual 294, 3) := by decide +kernel
theorem dX5_text_15 : decode cX5_text 15 = .ok (.istore_n 1, 1) := by decide +kernel
theorem dX5_text_16 : decode cX5_text 16 = .ok (.aload_n 0, 1) := by decide +kernel
theorem dX5_text_17 : decode cX5_text 17 = .ok (.iconst 0, 1) := by decide +kernel
theorem dX5_text_18 : decode cX5_text 18 = .ok (.putfield 197, 3) := by decide +kernel
theorem dX5_text_21 : decode cX5_text 21 = .ok (.aload_n 0, 1) := by decide +kernel
theorem dX5_text_22 : decode cX5_text 22 = .ok (.getfield 233, 3) := by decide +kernel
theorem dX5_text_25 : decode cX5_text 25 = .ok (.ifCond .lt 21, 3) := by decide +kernel
theorem dX5_text_28 : decode cX5_text 28 = .ok (.aload_n 0, 1) := by decide +kernel
theorem dX5_text_29 : decode cX5_text 29 = .ok (.getfield 13, 3) := by decide +kernel
theorem dX5_text_32 : decode cX5_text 32 = .ok (.aload_n 0, 1) := by decide +kernel
theorem dX5_text_33 : decode cX5_text 33 = .ok (.getfield 7, 3) := by decide +kernel
theorem dX5_text_36 : decode cX5_text 36 = .ok (.invokestatic 153, 3) := by decide +kernel
theorem dX5_text_39 : decode cX5_text 39 = .ok (.iconst (-1), 1) := by decide +kernel
theorem dX5_text_40 : decode cX5_text 40 = .ok (.aload_n 0, 1) := by decide +kernel
theorem dX5_text_41 : decode cX5_text 41 = .ok (.getfield 233, 3) := by decide +kernel
theorem dX5_text_44 : decode cX5_text 44 = .ok (.isub, 1) := by decide +kernel
theorem dX5_text_45 : decode cX5_text 45 = .ok (.ireturn, 1) := by decide +kernel
theorem dX5_text_46 : decode cX5_text 46 = .ok (.iload_n 1, 1) := by decide +kernel
theorem dX5_text_47 : decode cX5_text 47 = .ok (.ireturn, 1) := by decide +kernel
theorem dX5_hold_0 : decode cX5_hold 0 = .ok (.iload_n 1, 1) := by decide +kernel
theorem dX5_hold_1 : decode cX5_hold 1 = .ok (.i2l, 1) := by decide +kernel
theorem dX5_hold_2 : decode cX5_hold 2 = .ok (.lconst 0, 1) := by decide +kernel
theorem dX5_hold_3 : decode cX5_hold 3 = .ok (.ldc2_w 135, 3) := by decide +kernel
theorem dX5_hold_6 : decode cX5_hold 6 = .ok (.invokestatic 42, 3) := by decide +kernel
theorem dX5_hold_9 : decode cX5_hold 9 = .ok (.ifCond .eq 23, 3) := by decide +kernel
theorem dX5_hold_12 : decode cX5_hold 12 = .ok (.iload_n 2, 1) := by decide +kernel
theorem dX5_hold_13 : decode cX5_hold 13 = .ok (.i2l, 1) := by decide +kernel
theorem dX5_hold_14 : decode cX5_hold 14 = .ok (.ldc2_w 297, 3) := by decide +kernel
theorem dX5_hold_17 : decode cX5_hold 17 = .ok (.aload_n 0, 1) := by decide +kernel
theorem dX5_hold_18 : decode cX5_hold 18 = .ok (.getfield 7, 3) := by decide +kernel
theorem dX5_hold_21 : decode cX5_hold 21 = .ok (.iconst 0, 1) := by decide +kernel
theorem dX5_hold_22 : decode cX5_hold 22 = .ok (.iaload, 1) := by decide +kernel
theorem dX5_hold_23 : decode cX5_hold 23 = .ok (.iconst 1, 1) := by decide +kernel
theorem dX5_hold_24 : decode cX5_hold 24 = .ok (.isub, 1) := by decide +kernel
theorem dX5_hold_25 : decode cX5_hold 25 = .ok (.i2l, 1) := by decide +kernel
theorem dX5_hold_26 : decode cX5_hold 26 = .ok (.invokestatic 42, 3) := by decide +kernel
theorem dX5_hold_29 : decode cX5_hold 29 = .ok (.ifCond .ne 9, 3) := by decide +kernel
theorem dX5_hold_32 : decode cX5_hold 32 = .ok (.aload_n 0, 1) := by decide +kernel
theorem dX5_hold_33 : decode cX5_hold 33 = .ok (.iconst 0, 1) := by decide +kernel
theorem dX5_hold_34 : decode cX5_hold 34 = .ok (.invokevirtual 118, 3) := by decide +kernel
theorem dX5_hold_37 : decode cX5_hold 37 = .ok (.ireturn, 1) := by decide +kernel
theorem dX5_hold_38 : decode cX5_hold 38 = .ok (.aload_n 0, 1) := by decide +kernel
theorem dX5_hold_39 : decode cX5_hold 39 = .ok (.getfield 7, 3) := by decide +kernel
theorem dX5_hold_42 : decode cX5_hold 42 = .ok (.bipush 125, 2) := by decide +kernel
theorem dX5_hold_44 : decode cX5_hold 44 = .ok (.iload_n 1, 1) := by decide +kernel
theorem dX5_hold_45 : decode cX5_hold 45 = .ok (.iadd, 1) := by decide +kernel
theorem dX5_hold_46 : decode cX5_hold 46 = .ok (.iload_n 2, 1) := by decide +kernel
theorem dX5_hold_47 : decode cX5_hold 47 = .ok (.iconst 1, 1) := by decide +kernel
theorem dX5_hold_48 : decode cX5_hold 48 = .ok (.iadd, 1) := by decide +kernel
theorem dX5_hold_49 : decode cX5_hold 49 = .ok (.iastore, 1) := by decide +kernel
theorem dX5_hold_50 : decode cX5_hold 50 = .ok (.iconst 1, 1) := by decide +kernel
theorem dX5_hold_51 : decode cX5_hold 51 = .ok (.ireturn, 1) := by decide +kernel
theorem dX5_above_0 : decode cX5_above 0 = .ok (.iload_n 0, 1) := by decide +kernel
theorem dX5_above_1 : decode cX5_above 1 = .ok (.iconst 3, 1) := by decide +kernel
theorem dX5_above_2 : decode cX5_above 2 = .ok (.if_icmp .ne 7, 3) := by decide +kernel
theorem dX5_above_5 : decode cX5_above 5 = .ok (.iconst 1, 1) := by decide +kernel
theorem dX5_above_6 : decode cX5_above 6 = .ok (.goto 23, 3) := by decide +kernel
theorem dX5_above_9 : decode cX5_above 9 = .ok (.iload_n 0, 1) := by decide +kernel
theorem dX5_above_10 : decode cX5_above 10 = .ok (.iconst 4, 1) := by decide +kernel
theorem dX5_above_11 : decode cX5_above 11 = .ok (.if_icmp .ne 7, 3) := by decide +kernel
theorem dX5_above_14 : decode cX5_above 14 = .ok (.iconst 3, 1) := by decide +kernel
theorem dX5_above_15 : decode cX5_above 15 = .ok (.goto 14, 3) := by decide +kernel
theorem dX5_above_18 : decode cX5_above 18 = .ok (.iload_n 0, 1) := by decide +kernel
theorem dX5_above_19 : decode cX5_above 19 = .ok (.bipush 6, 2) := by decide +kernel
theorem dX5_above_21 : decode cX5_above 21 = .ok (.if_icmp .ne 7, 3) := by decide +kernel
theorem dX5_above_24 : decode cX5_above 24 = .ok (.iconst 2, 1) := by decide +kernel
theorem dX5_above_25 : decode cX5_above 25 = .ok (.goto 4, 3) := by decide +kernel
theorem dX5_above_28 : decode cX5_above 28 = .ok (.iconst 0, 1) := by decide +kernel
theorem dX5_above_29 : decode cX5_above 29 = .ok (.ireturn, 1) := by decide +kernel
theorem dX5_as_0 : decode cX5_as 0 = .ok (.iload_n 1, 1) := by decide +kernel
theorem dX5_as_1 : decode cX5_as 1 = .ok (.i2l, 1) := by decide +kernel
theorem dX5_as_2 : decode cX5_as 2 = .ok (.lconst 0, 1) := by decide +kernel
theorem dX5_as_3 : decode cX5_as 3 = .ok (.ldc2_w 135, 3) := by decide +kernel
theorem dX5_as_6 : decode cX5_as 6 = .ok (.invokestatic 42, 3) := by decide +kernel
theorem dX5_as_9 : decode cX5_as 9 = .ok (.ifCond .eq 15, 3) := by decide +kernel
theorem dX5_as_12 : decode cX5_as 12 = .ok (.iload_n 2, 1) := by decide +kernel
theorem dX5_as_13 : decode cX5_as 13 = .ok (.i2l, 1) := by decide +kernel
theorem dX5_as_14 : decode cX5_as 14 = .ok (.lconst 0, 1) := by decide +kernel
theorem dX5_as_15 : decode cX5_as 15 = .ok (.ldc2_w 128, 3) := by decide +kernel
theorem dX5_as_18 : decode cX5_as 18 = .ok (.invokestatic 42, 3) := by decide +kernel
theorem dX5_as_21 : decode cX5_as 21 = .ok (.ifCond .ne 9, 3) := by decide +kernel
theorem dX5_as_24 : decode cX5_as 24 = .ok (.aload_n 0, 1) := by decide +kernel
theorem dX5_as_25 : decode cX5_as 25 = .ok (.iconst 0, 1) := by decide +kernel
theorem dX5_as_26 : decode cX5_as 26 = .ok (.invokevirtual 118, 3) := by decide +kernel
theorem dX5_as_29 : decode cX5_as 29 = .ok (.ireturn, 1) := by decide +kernel
theorem dX5_as_30 : decode cX5_as 30 = .ok (.aload_n 0, 1) := by decide +kernel
theorem dX5_as_31 : decode cX5_as 31 = .ok (.getfield 7, 3) := by decide +kernel
theorem dX5_as_34 : decode cX5_as 34 = .ok (.bipush 125, 2) := by decide +kernel
theorem dX5_as_36 : decode cX5_as 36 = .ok (.iload_n 1, 1) := by decide +kernel
theorem dX5_as_37 : decode cX5_as 37 = .ok (.iadd, 1) := by decide +kernel
theorem dX5_as_38 : decode cX5_as 38 = .ok (.iaload, 1) := by decide +kernel
theorem dX5_as_39 : decode cX5_as 39 = .ok (.ifCond .ne 9, 3) := by decide +kernel
theorem dX5_as_42 : decode cX5_as 42 = .ok (.aload_n 0, 1) := by decide +kernel
theorem dX5_as_43 : decode cX5_as 43 = .ok (.iconst 5, 1) := by decide +kernel
theorem dX5_as_44 : decode cX5_as 44 = .ok (.invokevirtual 118, 3) := by decide +kernel
theorem dX5_as_47 : decode cX5_as 47 = .ok (.ireturn, 1) := by decide +kernel
theorem dX5_as_48 : decode cX5_as 48 = .ok (.aload_n 0, 1) := by decide +kernel
theorem dX5_as_49 : decode cX5_as 49 = .ok (.getfield 7, 3) := by decide +kernel
theorem dX5_as_52 : decode cX5_as 52 = .ok (.bipush 125, 2) := by decide +kernel
theorem dX5_as_54 : decode cX5_as 54 = .ok (.iload_n 1, 1) := by decide +kernel
theorem dX5_as_55 : decode cX5_as 55 = .ok (.iadd, 1) := by decide +kernel
theorem dX5_as_56 : decode cX5_as 56 = .ok (.iaload, 1) := by decide +kernel
theorem dX5_as_57 : decode cX5_as 57 = .ok (.iconst 1, 1) := by decide +kernel
theorem dX5_as_58 : decode cX5_as 58 = .ok (.isub, 1) := by decide +kernel
theorem dX5_as_59 : decode cX5_as 59 = .ok (.istore_n 3, 1) := by decide +kernel
theorem dX5_as_60 : decode cX5_as 60 = .ok (.aload_n 0, 1) := by decide +kernel
theorem dX5_as_61 : decode cX5_as 61 = .ok (.iload_n 3, 1) := by decide +kernel
theorem dX5_as_62 : decode cX5_as 62 = .ok (.iconst 0, 1) := by decide +kernel
theorem dX5_as_63 : decode cX5_as 63 = .ok (.invokevirtual 54, 3) := by decide +kernel
theorem dX5_as_66 : decode cX5_as 66 = .ok (.istore 4, 2) := by decide +kernel
theorem dX5_as_68 : decode cX5_as 68 = .ok (.iload_n 2, 1) := by decide +kernel
theorem dX5_as_69 : decode cX5_as 69 = .ok (.ifCond .eq 30, 3) := by decide +kernel
theorem dX5_as_72 : decode cX5_as 72 = .ok (.iload_n 2, 1) := by decide +kernel
theorem dX5_as_73 : decode cX5_as 73 = .ok (.iload 4, 2) := by decide +kernel
theorem dX5_as_75 : decode cX5_as 75 = .ok (.if_icmp .eq 24, 3) := by decide +kernel
theorem dX5_as_78 : decode cX5_as 78 = .ok (.iload_n 2, 1) := by decide +kernel
theorem dX5_as_79 : decode cX5_as 79 = .ok (.iload 4, 2) := by decide +kernel
theorem dX5_as_81 : decode cX5_as 81 = .ok (.invokestatic 299, 3) := by decide +kernel
theorem dX5_as_84 : decode cX5_as 84 = .ok (.if_icmp .eq 15, 3) := by decide +kernel
theorem dX5_as_87 : decode cX5_as 87 = .ok (.iload_n 2, 1) := by decide +kernel
theorem dX5_as_88 : decode cX5_as 88 = .ok (.iload 4, 2) := by decide +kernel
theorem dX5_as_90 : decode cX5_as 90 = .ok (.invokestatic 299, 3) := by decide +kernel
theorem dX5_as_93 : decode cX5_as 93 = .ok (.invokestatic 299, 3) := by decide +kernel
theorem dX5_as_96 : decode cX5_as 96 = .ok (.if_icmp .ne 7, 3) := by decide +kernel
theorem dX5_as_99 : decode cX5_as 99 = .ok (.iload_n 3, 1) := by decide +kernel
theorem dX5_as_100 : decode cX5_as 100 = .ok (.goto 8, 3) := by decide +kernel
theorem dX5_as_103 : decode cX5_as 103 = .ok (.aload_n 0, 1) := by decide +kernel
theorem dX5_as_104 : decode cX5_as 104 = .ok (.iconst 2, 1) := by decide +kernel
theorem dX5_as_105 : decode cX5_as 105 = .ok (.invokevirtual 118, 3) := by decide +kernel
theorem dX5_as_108 : decode cX5_as 108 = .ok (.ireturn, 1) := by decide +kernel
theorem dX5_isSheet_0 : decode cX5_isSheet 0 = .ok (.iload_n 0, 1) := by decide +kernel
theorem dX5_isSheet_1 : decode cX5_isSheet 1 = .ok (.i2l, 1) := by decide +kernel
theorem dX5_isSheet_2 : decode cX5_isSheet 2 = .ok (.lconst 0, 1) := by decide +kernel
theorem dX5_isSheet_3 : decode cX5_isSheet 3 = .ok (.ldc2_w 140, 3) := by decide +kernel
theorem dX5_isSheet_6 : decode cX5_isSheet 6 = .ok (.invokestatic 42, 3) := by decide +kernel
theorem dX5_isSheet_9 : decode cX5_isSheet 9 = .ok (.ireturn, 1) := by decide +kernel
theorem dX5_sheet_0 : decode cX5_sheet 0 = .ok (.iload_n 1, 1) := by decide +kernel
theorem dX5_sheet_1 : decode cX5_sheet 1 = .ok (.invokestatic 302, 3) := by decide +kernel
theorem dX5_sheet_4 : decode cX5_sheet 4 = .ok (.ifCond .eq 25, 3) := by decide +kernel
theorem dX5_sheet_7 : decode cX5_sheet 7 = .ok (.iload_n 2, 1) := by decide +kernel
theorem dX5_sheet_8 : decode cX5_sheet 8 = .ok (.ifCond .eq 27, 3) := by decide +kernel
theorem dX5_sheet_11 : decode cX5_sheet 11 = .ok (.iload_n 2, 1) := by decide +kernel
theorem dX5_sheet_12 : decode cX5_sheet 12 = .ok (.bipush 8, 2) := by decide +kernel
theorem dX5_sheet_14 : decode cX5_sheet 14 = .ok (.if_icmp .eq 21, 3) := by decide +kernel
theorem dX5_sheet_17 : decode cX5_sheet 17 = .ok (.iload_n 2, 1) := by decide +kernel
theorem dX5_sheet_18 : decode cX5_sheet 18 = .ok (.bipush 16, 2) := by decide +kernel
theorem dX5_sheet_20 : decode cX5_sheet 20 = .ok (.if_icmp .eq 15, 3) := by decide +kernel
theorem dX5_sheet_23 : decode cX5_sheet 23 = .ok (.iload_n 2, 1) := by decide +kernel
theorem dX5_sheet_24 : decode cX5_sheet 24 = .ok (.bipush 32, 2) := by decide +kernel
theorem dX5_sheet_26 : decode cX5_sheet 26 = .ok (.if_icmp .eq 9, 3) := by decide +kernel
theorem dX5_sheet_29 : decode cX5_sheet 29 = .ok (.aload_n 0, 1) := by decide +kernel
theorem dX5_sheet_30 : decode cX5_sheet 30 = .ok (.iconst 0, 1) := by decide +kernel
theorem dX5_sheet_31 : decode cX5_sheet 31 = .ok (.invokevirtual 118, 3) := by decide +kernel
theorem dX5_sheet_34 : decode cX5_sheet 34 = .ok (.ireturn, 1) := by decide +kernel
theorem dX5_sheet_35 : decode cX5_sheet 35 = .ok (.iload_n 3, 1) := by decide +kernel
theorem dX5_sheet_36 : decode cX5_sheet 36 = .ok (.ifCond .ge 10, 3) := by decide +kernel
theorem dX5_sheet_39 : decode cX5_sheet 39 = .ok (.aload_n 0, 1) := by decide +kernel
theorem dX5_sheet_40 : decode cX5_sheet 40 = .ok (.bipush 6, 2) := by decide +kernel
theorem dX5_sheet_42 : decode cX5_sheet 42 = .ok (.invokevirtual 118, 3) := by decide +kernel
theorem dX5_sheet_45 : decode cX5_sheet 45 = .ok (.ireturn, 1) := by decide +kernel
theorem dX5_sheet_46 : decode cX5_sheet 46 = .ok (.iload_n 3, 1) := by decide +kernel
theorem dX5_sheet_47 : decode cX5_sheet 47 = .ok (.bipush 40, 2) := by decide +kernel
theorem dX5_sheet_49 : decode cX5_sheet 49 = .ok (.if_icmp .le 9, 3) := by decide +kernel
theorem dX5_sheet_52 : decode cX5_sheet 52 = .ok (.aload_n 0, 1) := by decide +kernel
theorem dX5_sheet_53 : decode cX5_sheet 53 = .ok (.iconst 0, 1) := by decide +kernel
theorem dX5_sheet_54 : decode cX5_sheet 54 = .ok (.invokevirtual 118, 3) := by decide +kernel
theorem dX5_sheet_57 : decode cX5_sheet 57 = .ok (.ireturn, 1) := by decide +kernel
theorem dX5_sheet_58 : decode cX5_sheet 58 = .ok (.aload_n 0, 1) := by decide +kernel
theorem dX5_sheet_59 : decode cX5_sheet 59 = .ok (.getfield 29, 3) := by decide +kernel
theorem dX5_sheet_62 : decode cX5_sheet 62 = .ok (.iload_n 1, 1) := by decide +kernel
theorem dX5_sheet_63 : decode cX5_sheet 63 = .ok (.iload_n 2, 1) := by decide +kernel
theorem dX5_sheet_64 : decode cX5_sheet 64 = .ok (.iastore, 1) := by decide +kernel
theorem dX5_sheet_65 : decode cX5_sheet 65 = .ok (.aload_n 0, 1) := by decide +kernel
theorem dX5_sheet_66 : decode cX5_sheet 66 = .ok (.getfield 32, 3) := by decide +kernel
theorem dX5_sheet_69 : decode cX5_sheet 69 = .ok (.iload_n 1, 1) := by decide +kernel
theorem dX5_sheet_70 : decode cX5_sheet 70 = .ok (.iload_n 2, 1) := by decide +kernel
theorem dX5_sheet_71 : decode cX5_sheet 71 = .ok (.ifCond .ne 7, 3) := by decide +kernel
theorem dX5_sheet_74 : decode cX5_sheet 74 = .ok (.iconst 0, 1) := by decide +kernel
theorem dX5_sheet_75 : decode cX5_sheet 75 = .ok (.goto 4, 3) := by decide +kernel
theorem dX5_sheet_78 : decode cX5_sheet 78 = .ok (.iload_n 3, 1) := by decide +kernel
theorem dX5_sheet_79 : decode cX5_sheet 79 = .ok (.iastore, 1) := by decide +kernel
theorem dX5_sheet_80 : decode cX5_sheet 80 = .ok (.iconst 0, 1) := by decide +kernel
theorem dX5_sheet_81 : decode cX5_sheet 81 = .ok (.istore 4, 2) := by decide +kernel
theorem dX5_sheet_83 : decode cX5_sheet 83 = .ok (.iload 4, 2) := by decide +kernel
theorem dX5_sheet_85 : decode cX5_sheet 85 = .ok (.bipush 40, 2) := by decide +kernel
theorem dX5_sheet_87 : decode cX5_sheet 87 = .ok (.if_icmp .ge 22, 3) := by decide +kernel
theorem dX5_sheet_90 : decode cX5_sheet 90 = .ok (.aload_n 0, 1) := by decide +kernel
theorem dX5_sheet_91 : decode cX5_sheet 91 = .ok (.getfield 35, 3) := by decide +kernel
theorem dX5_sheet_94 : decode cX5_sheet 94 = .ok (.bipush 40, 2) := by decide +kernel
theorem dX5_sheet_96 : decode cX5_sheet 96 = .ok (.iload_n 1, 1) := by decide +kernel
theorem dX5_sheet_97 : decode cX5_sheet 97 = .ok (.imul, 1) := by decide +kernel
theorem dX5_sheet_98 : decode cX5_sheet 98 = .ok (.iload 4, 2) := by decide +kernel
theorem dX5_sheet_100 : decode cX5_sheet 100 = .ok (.iadd, 1) := by decide +kernel
theorem dX5_sheet_101 : decode cX5_sheet 101 = .ok (.iconst 0, 1) := by decide +kernel
theorem dX5_sheet_102 : decode cX5_sheet 102 = .ok (.iastore, 1) := by decide +kernel
theorem dX5_sheet_103 : decode cX5_sheet 103 = .ok (.iinc 4 1, 3) := by decide +kernel
theorem dX5_sheet_106 : decode cX5_sheet 106 = .ok (.goto (-23), 3) := by decide +kernel
theorem dX5_sheet_109 : decode cX5_sheet 109 = .ok (.aload_n 0, 1) := by decide +kernel
theorem dX5_sheet_110 : decode cX5_sheet 110 = .ok (.getfield 32, 3) := by decide +kernel
theorem dX5_sheet_113 : decode cX5_sheet 113 = .ok (.iload_n 1, 1) := by decide +kernel
theorem dX5_sheet_114 : decode cX5_sheet 114 = .ok (.iaload, 1) := by decide +kernel
theorem dX5_sheet_115 : decode cX5_sheet 115 = .ok (.ireturn, 1) := by decide +kernel
theorem dX5_whyNone_0 : decode cX5_whyNone 0 = .ok (.iload_n 1, 1) := by decide +kernel
theorem dX5_whyNone_1 : decode cX5_whyNone 1 = .ok (.invokestatic 302, 3) := by decide +kernel
theorem dX5_whyNone_4 : decode cX5_whyNone 4 = .ok (.ifCond .ne 7, 3) := by decide +kernel
theorem dX5_whyNone_7 : decode cX5_whyNone 7 = .ok (.iconst 0, 1) := by decide +kernel
theorem dX5_whyNone_8 : decode cX5_whyNone 8 = .ok (.goto 17, 3) := by decide +kernel
theorem dX5_whyNone_11 : decode cX5_whyNone 11 = .ok (.aload_n 0, 1) := by decide +kernel
theorem dX5_whyNone_12 : decode cX5_whyNone 12 = .ok (.getfield 29, 3) := by decide +kernel
theorem dX5_whyNone_15 : decode cX5_whyNone 15 = .ok (.iload_n 1, 1) := by decide +kernel
theorem dX5_whyNone_16 : decode cX5_whyNone 16 = .ok (.iaload, 1) := by decide +kernel
theorem dX5_whyNone_17 : decode cX5_whyNone 17 = .ok (.ifCond .ne 7, 3) := by decide +kernel
theorem dX5_whyNone_20 : decode cX5_whyNone 20 = .ok (.iconst 5, 1) := by decide +kernel
theorem dX5_whyNone_21 : decode cX5_whyNone 21 = .ok (.goto 4, 3) := by decide +kernel
theorem dX5_whyNone_24 : decode cX5_whyNone 24 = .ok (.iconst (-1), 1) := by decide +kernel
theorem dX5_whyNone_25 : decode cX5_whyNone 25 = .ok (.ireturn, 1) := by decide +kernel
theorem dX5_write_0 : decode cX5_write 0 = .ok (.aload_n 0, 1) := by decide +kernel
theorem dX5_write_1 : decode cX5_write 1 = .ok (.iload_n 1, 1) := by decide +kernel
theorem dX5_write_2 : decode cX5_write 2 = .ok (.invokevirtual 179, 3) := by decide +kernel
theorem dX5_write_5 : decode cX5_write 5 = .ok (.istore 4, 2) := by decide +kernel
theorem dX5_write_7 : decode cX5_write 7 = .ok (.iload 4, 2) := by decide +kernel
theorem dX5_write_9 : decode cX5_write 9 = .ok (.ifCond .ge 25, 3) := by decide +kernel
theorem dX5_write_12 : decode cX5_write 12 = .ok (.iload_n 2, 1) := by decide +kernel
theorem dX5_write_13 : decode cX5_write 13 = .ok (.i2l, 1) := by decide +kernel
theorem dX5_write_14 : decode cX5_write 14 = .ok (.lconst 0, 1) := by decide +kernel
theorem dX5_write_15 : decode cX5_write 15 = .ok (.aload_n 0, 1) := by decide +kernel
theorem dX5_write_16 : decode cX5_write 16 = .ok (.getfield 32, 3) := by decide +kernel
theorem dX5_write_19 : decode cX5_write 19 = .ok (.iload_n 1, 1) := by decide +kernel
theorem dX5_write_20 : decode cX5_write 20 = .ok (.iaload, 1) := by decide +kernel
theorem dX5_write_21 : decode cX5_write 21 = .ok (.iconst 1, 1) := by decide +kernel
theorem dX5_write_22 : decode cX5_write 22 = .ok (.isub, 1) := by decide +kernel
theorem dX5_write_23 : decode cX5_write 23 = .ok (.i2l, 1) := by decide +kernel
theorem dX5_write_24 : decode cX5_write 24 = .ok (.invokestatic 42, 3) := by decide +kernel
theorem dX5_write_27 : decode cX5_write 27 = .ok (.ifCond .ne 7, 3) := by decide +kernel
theorem dX5_write_30 : decode cX5_write 30 = .ok (.iconst 0, 1) := by decide +kernel
theorem dX5_write_31 : decode cX5_write 31 = .ok (.goto 5, 3) := by decide +kernel
theorem dX5_write_34 : decode cX5_write 34 = .ok (.iload 4, 2) := by decide +kernel
theorem dX5_write_36 : decode cX5_write 36 = .ok (.istore 4, 2) := by decide +kernel
theorem dX5_write_38 : decode cX5_write 38 = .ok (.iload 4, 2) := by decide +kernel
theorem dX5_write_40 : decode cX5_write 40 = .ok (.ifCond .lt 10, 3) := by decide +kernel
theorem dX5_write_43 : decode cX5_write 43 = .ok (.aload_n 0, 1) := by decide +kernel
theorem dX5_write_44 : decode cX5_write 44 = .ok (.iload 4, 2) := by decide +kernel
theorem dX5_write_46 : decode cX5_write 46 = .ok (.invokevirtual 118, 3) := by decide +kernel
theorem dX5_write_49 : decode cX5_write 49 = .ok (.ireturn, 1) := by decide +kernel
theorem dX5_write_50 : decode cX5_write 50 = .ok (.aload_n 0, 1) := by decide +kernel
theorem dX5_write_51 : decode cX5_write 51 = .ok (.getfield 35, 3) := by decide +kernel
theorem dX5_write_54 : decode cX5_write 54 = .ok (.bipush 40, 2) := by decide +kernel
theorem dX5_write_56 : decode cX5_write 56 = .ok (.iload_n 1, 1) := by decide +kernel
theorem dX5_write_57 : decode cX5_write 57 = .ok (.imul, 1) := by decide +kernel
theorem dX5_write_58 : decode cX5_write 58 = .ok (.iload_n 2, 1) := by decide +kernel
theorem dX5_write_59 : decode cX5_write 59 = .ok (.iadd, 1) := by decide +kernel
theorem dX5_write_60 : decode cX5_write 60 = .ok (.aload_n 0, 1) := by decide +kernel
theorem dX5_write_61 : decode cX5_write 61 = .ok (.getfield 29, 3) := by decide +kernel
theorem dX5_write_64 : decode cX5_write 64 = .ok (.iload_n 1, 1) := by decide +kernel
theorem dX5_write_65 : decode cX5_write 65 = .ok (.iaload, 1) := by decide +kernel
theorem dX5_write_66 : decode cX5_write 66 = .ok (.bipush 8, 2) := by decide +kernel
theorem dX5_write_68 : decode cX5_write 68 = .ok (.if_icmp .ne 8, 3) := by decide +kernel
theorem dX5_write_71 : decode cX5_write 71 = .ok (.iload_n 3, 1) := by decide +kernel
theorem dX5_write_72 : decode cX5_write 72 = .ok (.i2b, 1) := by decide +kernel
theorem dX5_write_73 : decode cX5_write 73 = .ok (.goto 20, 3) := by decide +kernel
theorem dX5_write_76 : decode cX5_write 76 = .ok (.aload_n 0, 1) := by decide +kernel
theorem dX5_write_77 : decode cX5_write 77 = .ok (.getfield 29, 3) := by decide +kernel
theorem dX5_write_80 : decode cX5_write 80 = .ok (.iload_n 1, 1) := by decide +kernel
theorem dX5_write_81 : decode cX5_write 81 = .ok (.iaload, 1) := by decide +kernel
theorem dX5_write_82 : decode cX5_write 82 = .ok (.bipush 16, 2) := by decide +kernel
theorem dX5_write_84 : decode cX5_write 84 = .ok (.if_icmp .ne 8, 3) := by decide +kernel
theorem dX5_write_87 : decode cX5_write 87 = .ok (.iload_n 3, 1) := by decide +kernel
theorem dX5_write_88 : decode cX5_write 88 = .ok (.i2s, 1) := by decide +kernel
theorem dX5_write_89 : decode cX5_write 89 = .ok (.goto 4, 3) := by decide +kernel
theorem dX5_write_92 : decode cX5_write 92 = .ok (.iload_n 3, 1) := by decide +kernel
theorem dX5_write_93 : decode cX5_write 93 = .ok (.iastore, 1) := by decide +kernel
theorem dX5_write_94 : decode cX5_write 94 = .ok (.iconst 1, 1) := by decide +kernel
theorem dX5_write_95 : decode cX5_write 95 = .ok (.ireturn, 1) := by decide +kernel
theorem dX5_copy_0 : decode cX5_copy 0 = .ok (.iload_n 1, 1) := by decide +kernel
theorem dX5_copy_1 : decode cX5_copy 1 = .ok (.invokestatic 302, 3) := by decide +kernel
theorem dX5_copy_4 : decode cX5_copy 4 = .ok (.ifCond .eq 10, 3) := by decide +kernel
theorem dX5_copy_7 : decode cX5_copy 7 = .ok (.iload_n 3, 1) := by decide +kernel
theorem dX5_copy_8 : decode cX5_copy 8 = .ok (.invokestatic 302, 3) := by decide +kernel
theorem dX5_copy_11 : decode cX5_copy 11 = .ok (.ifCond .ne 9, 3) := by decide +kernel
theorem dX5_copy_14 : decode cX5_copy 14 = .ok (.aload_n 0, 1) := by decide +kernel
theorem dX5_copy_15 : decode cX5_copy 15 = .ok (.iconst 0, 1) := by decide +kernel
theorem dX5_copy_16 : decode cX5_copy 16 = .ok (.invokevirtual 118, 3) := by decide +kernel
theorem dX5_copy_19 : decode cX5_copy 19 = .ok (.ireturn, 1) := by decide +kernel
theorem dX5_copy_20 : decode cX5_copy 20 = .ok (.aload_n 0, 1) := by decide +kernel
theorem dX5_copy_21 : decode cX5_copy 21 = .ok (.getfield 29, 3) := by decide +kernel
theorem dX5_copy_24 : decode cX5_copy 24 = .ok (.iload_n 1, 1) := by decide +kernel
theorem dX5_copy_25 : decode cX5_copy 25 = .ok (.iaload, 1) := by decide +kernel
theorem dX5_copy_26 : decode cX5_copy 26 = .ok (.ifCond .eq 12, 3) := by decide +kernel
theorem dX5_copy_29 : decode cX5_copy 29 = .ok (.aload_n 0, 1) := by decide +kernel
theorem dX5_copy_30 : decode cX5_copy 30 = .ok (.getfield 29, 3) := by decide +kernel
theorem dX5_copy_33 : decode cX5_copy 33 = .ok (.iload_n 3, 1) := by decide +kernel
theorem dX5_copy_34 : decode cX5_copy 34 = .ok (.iaload, 1) := by decide +kernel
theorem dX5_copy_35 : decode cX5_copy 35 = .ok (.ifCond .ne 9, 3) := by decide +kernel
theorem dX5_copy_38 : decode cX5_copy 38 = .ok (.aload_n 0, 1) := by decide +kernel
theorem dX5_copy_39 : decode cX5_copy 39 = .ok (.iconst 5, 1) := by decide +kernel
theorem dX5_copy_40 : decode cX5_copy 40 = .ok (.invokevirtual 118, 3) := by decide +kernel
theorem dX5_copy_43 : decode cX5_copy 43 = .ok (.ireturn, 1) := by decide +kernel
theorem dX5_copy_44 : decode cX5_copy 44 = .ok (.aload_n 0, 1) := by decide +kernel
theorem dX5_copy_45 : decode cX5_copy 45 = .ok (.getfield 29, 3) := by decide +kernel
theorem dX5_copy_48 : decode cX5_copy 48 = .ok (.iload_n 1, 1) := by decide +kernel
theorem dX5_copy_49 : decode cX5_copy 49 = .ok (.iaload, 1) := by decide +kernel
theorem dX5_copy_50 : decode cX5_copy 50 = .ok (.aload_n 0, 1) := by decide +kernel
theorem dX5_copy_51 : decode cX5_copy 51 = .ok (.getfield 29, 3) := by decide +kernel
theorem dX5_copy_54 : decode cX5_copy 54 = .ok (.iload_n 3, 1) := by decide +kernel
theorem dX5_copy_55 : decode cX5_copy 55 = .ok (.iaload, 1) := by decide +kernel
theorem dX5_copy_56 : decode cX5_copy 56 = .ok (.if_icmp .eq 9, 3) := by decide +kernel
theorem dX5_copy_59 : decode cX5_copy 59 = .ok (.aload_n 0, 1) := by decide +kernel
theorem dX5_copy_60 : decode cX5_copy 60 = .ok (.iconst 2, 1) := by decide +kernel
theorem dX5_copy_61 : decode cX5_copy 61 = .ok (.invokevirtual 118, 3) := by decide +kernel
theorem dX5_copy_64 : decode cX5_copy 64 = .ok (.ireturn, 1) := by decide +kernel
theorem dX5_copy_65 : decode cX5_copy 65 = .ok (.iload_n 2, 1) := by decide +kernel
theorem dX5_copy_66 : decode cX5_copy 66 = .ok (.ifCond .lt 48, 3) := by decide +kernel
theorem dX5_copy_69 : decode cX5_copy 69 = .ok (.iload 4, 2) := by decide +kernel
theorem dX5_copy_71 : decode cX5_copy 71 = .ok (.ifCond .lt 43, 3) := by decide +kernel
theorem dX5_copy_74 : decode cX5_copy 74 = .ok (.iload 5, 2) := by decide +kernel
theorem dX5_copy_76 : decode cX5_copy 76 = .ok (.ifCond .lt 38, 3) := by decide +kernel
theorem dX5_copy_79 : decode cX5_copy 79 = .ok (.iload_n 2, 1) := by decide +kernel
theorem dX5_copy_80 : decode cX5_copy 80 = .ok (.i2l, 1) := by decide +kernel
theorem dX5_copy_81 : decode cX5_copy 81 = .ok (.iload 5, 2) := by decide +kernel
theorem dX5_copy_83 : decode cX5_copy 83 = .ok (.i2l, 1) := by decide +kernel
theorem dX5_copy_84 : decode cX5_copy 84 = .ok (.ladd, 1) := by decide +kernel
theorem dX5_copy_85 : decode cX5_copy 85 = .ok (.aload_n 0, 1) := by decide +kernel
theorem dX5_copy_86 : decode cX5_copy 86 = .ok (.getfield 32, 3) := by decide +kernel
theorem dX5_copy_89 : decode cX5_copy 89 = .ok (.iload_n 1, 1) := by decide +kernel
theorem dX5_copy_90 : decode cX5_copy 90 = .ok (.iaload, 1) := by decide +kernel
theorem dX5_copy_91 : decode cX5_copy 91 = .ok (.i2l, 1) := by decide +kernel
theorem dX5_copy_92 : decode cX5_copy 92 = .ok (.lcmp, 1) := by decide +kernel
theorem dX5_copy_93 : decode cX5_copy 93 = .ok (.ifCond .gt 21, 3) := by decide +kernel
theorem dX5_copy_96 : decode cX5_copy 96 = .ok (.iload 4, 2) := by decide +kernel
theorem dX5_copy_98 : decode cX5_copy 98 = .ok (.i2l, 1) := by decide +kernel
theorem dX5_copy_99 : decode cX5_copy 99 = .ok (.iload 5, 2) := by decide +kernel
theorem dX5_copy_101 : decode cX5_copy 101 = .ok (.i2l, 1) := by decide +kernel
theorem dX5_copy_102 : decode cX5_copy 102 = .ok (.ladd, 1) := by decide +kernel
theorem dX5_copy_103 : decode cX5_copy 103 = .ok (.aload_n 0, 1) := by decide +kernel
theorem dX5_copy_104 : decode cX5_copy 104 = .ok (.getfield 32, 3) := by decide +kernel
theorem dX5_copy_107 : decode cX5_copy 107 = .ok (.iload_n 3, 1) := by decide +kernel
theorem dX5_copy_108 : decode cX5_copy 108 = .ok (.iaload, 1) := by decide +kernel
theorem dX5_copy_109 : decode cX5_copy 109 = .ok (.i2l, 1) := by decide +kernel
theorem dX5_copy_110 : decode cX5_copy 110 = .ok (.lcmp, 1) := by decide +kernel
theorem dX5_copy_111 : decode cX5_copy 111 = .ok (.ifCond .le 9, 3) := by decide +kernel
theorem dX5_copy_114 : decode cX5_copy 114 = .ok (.aload_n 0, 1) := by decide +kernel
theorem dX5_copy_115 : decode cX5_copy 115 = .ok (.iconst 0, 1) := by decide +kernel
theorem dX5_copy_116 : decode cX5_copy 116 = .ok (.invokevirtual 118, 3) := by decide +kernel
theorem dX5_copy_119 : decode cX5_copy 119 = .ok (.ireturn, 1) := by decide +kernel
theorem dX5_copy_120 : decode cX5_copy 120 = .ok (.iconst 0, 1) := by decide +kernel
theorem dX5_copy_121 : decode cX5_copy 121 = .ok (.istore 6, 2) := by decide +kernel
theorem dX5_copy_123 : decode cX5_copy 123 = .ok (.iload 6, 2) := by decide +kernel
theorem dX5_copy_125 : decode cX5_copy 125 = .ok (.iload 5, 2) := by decide +kernel
theorem dX5_copy_127 : decode cX5_copy 127 = .ok (.if_icmp .ge 30, 3) := by decide +kernel
theorem dX5_copy_130 : decode cX5_copy 130 = .ok (.aload_n 0, 1) := by decide +kernel
theorem dX5_copy_131 : decode cX5_copy 131 = .ok (.getfield 38, 3) := by decide +kernel
theorem dX5_copy_134 : decode cX5_copy 134 = .ok (.iload 6, 2) := by decide +kernel
theorem dX5_copy_136 : decode cX5_copy 136 = .ok (.aload_n 0, 1) := by decide +kernel
theorem dX5_copy_137 : decode cX5_copy 137 = .ok (.getfield 35, 3) := by decide +kernel
theorem dX5_copy_140 : decode cX5_copy 140 = .ok (.bipush 40, 2) := by decide +kernel
theorem dX5_copy_142 : decode cX5_copy 142 = .ok (.iload_n 1, 1) := by decide +kernel
theorem dX5_copy_143 : decode cX5_copy 143 = .ok (.imul, 1) := by decide +kernel
theorem dX5_copy_144 : decode cX5_copy 144 = .ok (.iload_n 2, 1) := by decide +kernel
theorem dX5_copy_145 : decode cX5_copy 145 = .ok (.iadd, 1) := by decide +kernel
theorem dX5_copy_146 : decode cX5_copy 146 = .ok (.iload 6, 2) := by decide +kernel
theorem dX5_copy_148 : decode cX5_copy 148 = .ok (.iadd, 1) := by decide +kernel
theorem dX5_copy_149 : decode cX5_copy 149 = .ok (.iaload, 1) := by decide +kernel
theorem dX5_copy_150 : decode cX5_copy 150 = .ok (.iastore, 1) := by decide +kernel
theorem dX5_copy_151 : decode cX5_copy 151 = .ok (.iinc 6 1, 3) := by decide +kernel
theorem dX5_copy_154 : decode cX5_copy 154 = .ok (.goto (-31), 3) := by decide +kernel
theorem dX5_copy_157 : decode cX5_copy 157 = .ok (.iconst 0, 1) := by decide +kernel
theorem dX5_copy_158 : decode cX5_copy 158 = .ok (.istore 6, 2) := by decide +kernel
theorem dX5_copy_160 : decode cX5_copy 160 = .ok (.iload 6, 2) := by decide +kernel
theorem dX5_copy_162 : decode cX5_copy 162 = .ok (.iload 5, 2) := by decide +kernel
theorem dX5_copy_164 : decode cX5_copy 164 = .ok (.if_icmp .ge 31, 3) := by decide +kernel
theorem dX5_copy_167 : decode cX5_copy 167 = .ok (.aload_n 0, 1) := by decide +kernel
theorem dX5_copy_168 : decode cX5_copy 168 = .ok (.getfield 35, 3) := by decide +kernel
theorem dX5_copy_171 : decode cX5_copy 171 = .ok (.bipush 40, 2) := by decide +kernel
theorem dX5_copy_173 : decode cX5_copy 173 = .ok (.iload_n 3, 1) := by decide +kernel
theorem dX5_copy_174 : decode cX5_copy 174 = .ok (.imul, 1) := by decide +kernel
theorem dX5_copy_175 : decode cX5_copy 175 = .ok (.iload 4, 2) := by decide +kernel
theorem dX5_copy_177 : decode cX5_copy 177 = .ok (.iadd, 1) := by decide +kernel
theorem dX5_copy_178 : decode cX5_copy 178 = .ok (.iload 6, 2) := by decide +kernel
theorem dX5_copy_180 : decode cX5_copy 180 = .ok (.iadd, 1) := by decide +kernel
theorem dX5_copy_181 : decode cX5_copy 181 = .ok (.aload_n 0, 1) := by decide +kernel
theorem dX5_copy_182 : decode cX5_copy 182 = .ok (.getfield 38, 3) := by decide +kernel
theorem dX5_copy_185 : decode cX5_copy 185 = .ok (.iload 6, 2) := by decide +kernel
theorem dX5_copy_187 : decode cX5_copy 187 = .ok (.iaload, 1) := by decide +kernel
theorem dX5_copy_188 : decode cX5_copy 188 = .ok (.iastore, 1) := by decide +kernel
theorem dX5_copy_189 : decode cX5_copy 189 = .ok (.iinc 6 1, 3) := by decide +kernel
theorem dX5_copy_192 : decode cX5_copy 192 = .ok (.goto (-32), 3) := by decide +kernel
theorem dX5_copy_195 : decode cX5_copy 195 = .ok (.iload 5, 2) := by decide +kernel
theorem dX5_copy_197 : decode cX5_copy 197 = .ok (.ireturn, 1) := by decide +kernel
theorem dX5_load_0 : decode cX5_load 0 = .ok (.aload_n 0, 1) := by decide +kernel
theorem dX5_load_1 : decode cX5_load 1 = .ok (.iload_n 1, 1) := by decide +kernel
theorem dX5_load_2 : decode cX5_load 2 = .ok (.invokevirtual 179, 3) := by decide +kernel
theorem dX5_load_5 : decode cX5_load 5 = .ok (.istore_n 2, 1) := by decide +kernel
theorem dX5_load_6 : decode cX5_load 6 = .ok (.iload_n 2, 1) := by decide +kernel
theorem dX5_load_7 : decode cX5_load 7 = .ok (.ifCond .lt 9, 3) := by decide +kernel
theorem dX5_load_10 : decode cX5_load 10 = .ok (.aload_n 0, 1) := by decide +kernel
theorem dX5_load_11 : decode cX5_load 11 = .ok (.iload_n 2, 1) := by decide +kernel
theorem dX5_load_12 : decode cX5_load 12 = .ok (.invokevirtual 118, 3) := by decide +kernel
theorem dX5_load_15 : decode cX5_load 15 = .ok (.ireturn, 1) := by decide +kernel
theorem dX5_load_16 : decode cX5_load 16 = .ok (.iconst 0, 1) := by decide +kernel
theorem dX5_load_17 : decode cX5_load 17 = .ok (.istore_n 3, 1) := by decide +kernel
theorem dX5_load_18 : decode cX5_load 18 = .ok (.iload_n 3, 1) := by decide +kernel
theorem dX5_load_19 : decode cX5_load 19 = .ok (.aload_n 0, 1) := by decide +kernel
theorem dX5_load_20 : decode cX5_load 20 = .ok (.getfield 32, 3) := by decide +kernel
theorem dX5_load_23 : decode cX5_load 23 = .ok (.iload_n 1, 1) := by decide +kernel
theorem dX5_load_24 : decode cX5_load 24 = .ok (.iaload, 1) := by decide +kernel
theorem dX5_load_25 : decode cX5_load 25 = .ok (.if_icmp .ge 58, 3) := by decide +kernel
theorem dX5_load_28 : decode cX5_load 28 = .ok (.iload_n 3, 1) := by decide +kernel
theorem dX5_load_29 : decode cX5_load 29 = .ok (.aload_n 0, 1) := by decide +kernel
theorem dX5_load_30 : decode cX5_load 30 = .ok (.getfield 7, 3) := by decide +kernel
theorem dX5_load_33 : decode cX5_load 33 = .ok (.iconst 0, 1) := by decide +kernel
theorem dX5_load_34 : decode cX5_load 34 = .ok (.iaload, 1) := by decide +kernel
theorem dX5_load_35 : decode cX5_load 35 = .ok (.if_icmp .ge 48, 3) := by decide +kernel
theorem dX5_load_38 : decode cX5_load 38 = .ok (.aload_n 0, 1) := by decide +kernel
theorem dX5_load_39 : decode cX5_load 39 = .ok (.getfield 35, 3) := by decide +kernel
theorem dX5_load_42 : decode cX5_load 42 = .ok (.bipush 40, 2) := by decide +kernel
theorem dX5_load_44 : decode cX5_load 44 = .ok (.iload_n 1, 1) := by decide +kernel
theorem dX5_load_45 : decode cX5_load 45 = .ok (.imul, 1) := by decide +kernel
theorem dX5_load_46 : decode cX5_load 46 = .ok (.iload_n 3, 1) := by decide +kernel
theorem dX5_load_47 : decode cX5_load 47 = .ok (.iadd, 1) := by decide +kernel
theorem dX5_load_48 : decode cX5_load 48 = .ok (.iaload, 1) := by decide +kernel
theorem dX5_load_49 : decode cX5_load 49 = .ok (.i2l, 1) := by decide +kernel
theorem dX5_load_50 : decode cX5_load 50 = .ok (.lconst 0, 1) := by decide +kernel
theorem dX5_load_51 : decode cX5_load 51 = .ok (.ldc2_w 130, 3) := by decide +kernel
theorem dX5_load_54 : decode cX5_load 54 = .ok (.invokestatic 42, 3) := by decide +kernel
theorem dX5_load_57 : decode cX5_load 57 = .ok (.ifCond .eq 26, 3) := by decide +kernel
theorem dX5_load_60 : decode cX5_load 60 = .ok (.aload_n 0, 1) := by decide +kernel
theorem dX5_load_61 : decode cX5_load 61 = .ok (.iload_n 3, 1) := by decide +kernel
theorem dX5_load_62 : decode cX5_load 62 = .ok (.iconst 2, 1) := by decide +kernel
theorem dX5_load_63 : decode cX5_load 63 = .ok (.aload_n 0, 1) := by decide +kernel
theorem dX5_load_64 : decode cX5_load 64 = .ok (.getfield 35, 3) := by decide +kernel
theorem dX5_load_67 : decode cX5_load 67 = .ok (.bipush 40, 2) := by decide +kernel
theorem dX5_load_69 : decode cX5_load 69 = .ok (.iload_n 1, 1) := by decide +kernel
theorem dX5_load_70 : decode cX5_load 70 = .ok (.imul, 1) := by decide +kernel
theorem dX5_load_71 : decode cX5_load 71 = .ok (.iload_n 3, 1) := by decide +kernel
theorem dX5_load_72 : decode cX5_load 72 = .ok (.iadd, 1) := by decide +kernel
theorem dX5_load_73 : decode cX5_load 73 = .ok (.iaload, 1) := by decide +kernel
theorem dX5_load_74 : decode cX5_load 74 = .ok (.invokevirtual 125, 3) := by decide +kernel
theorem dX5_load_77 : decode cX5_load 77 = .ok (.iinc 3 1, 3) := by decide +kernel
theorem dX5_load_80 : decode cX5_load 80 = .ok (.goto (-62), 3) := by decide +kernel
theorem dX5_load_83 : decode cX5_load 83 = .ok (.iload_n 3, 1) := by decide +kernel
theorem dX5_load_84 : decode cX5_load 84 = .ok (.ireturn, 1) := by decide +kernel
theorem dX5_judge_0 : decode cX5_judge 0 = .ok (.aload_n 0, 1) := by decide +kernel
theorem dX5_judge_1 : decode cX5_judge 1 = .ok (.iload_n 1, 1) := by decide +kernel
theorem dX5_judge_2 : decode cX5_judge 2 = .ok (.invokevirtual 179, 3) := by decide +kernel
theorem dX5_judge_5 : decode cX5_judge 5 = .ok (.istore_n 2, 1) := by decide +kernel
theorem dX5_judge_6 : decode cX5_judge 6 = .ok (.iload_n 2, 1) := by decide +kernel
theorem dX5_judge_7 : decode cX5_judge 7 = .ok (.ifCond .lt 9, 3) := by decide +kernel
theorem dX5_judge_10 : decode cX5_judge 10 = .ok (.aload_n 0, 1) := by decide +kernel
theorem dX5_judge_11 : decode cX5_judge 11 = .ok (.iload_n 2, 1) := by decide +kernel
theorem dX5_judge_12 : decode cX5_judge 12 = .ok (.invokevirtual 118, 3) := by decide +kernel
theorem dX5_judge_15 : decode cX5_judge 15 = .ok (.ireturn, 1) := by decide +kernel
theorem dX5_judge_16 : decode cX5_judge 16 = .ok (.iconst 0, 1) := by decide +kernel
theorem dX5_judge_17 : decode cX5_judge 17 = .ok (.istore_n 3, 1) := by decide +kernel
theorem dX5_judge_18 : decode cX5_judge 18 = .ok (.iload_n 3, 1) := by decide +kernel
theorem dX5_judge_19 : decode cX5_judge 19 = .ok (.aload_n 0, 1) := by decide +kernel
theorem dX5_judge_20 : decode cX5_judge 20 = .ok (.getfield 32, 3) := by decide +kernel
theorem dX5_judge_23 : decode cX5_judge 23 = .ok (.iload_n 1, 1) := by decide +kernel
theorem dX5_judge_24 : decode cX5_judge 24 = .ok (.iaload, 1) := by decide +kernel
theorem dX5_judge_25 : decode cX5_judge 25 = .ok (.if_icmp .ge 41, 3) := by decide +kernel
theorem dX5_judge_28 : decode cX5_judge 28 = .ok (.aload_n 0, 1) := by decide +kernel
theorem dX5_judge_29 : decode cX5_judge 29 = .ok (.iload_n 3, 1) := by decide +kernel
theorem dX5_judge_30 : decode cX5_judge 30 = .ok (.invokevirtual 46, 3) := by decide +kernel
theorem dX5_judge_33 : decode cX5_judge 33 = .ok (.ifCond .eq 23, 3) := by decide +kernel
theorem dX5_judge_36 : decode cX5_judge 36 = .ok (.aload_n 0, 1) := by decide +kernel
theorem dX5_judge_37 : decode cX5_judge 37 = .ok (.getfield 35, 3) := by decide +kernel
theorem dX5_judge_40 : decode cX5_judge 40 = .ok (.bipush 40, 2) := by decide +kernel
theorem dX5_judge_42 : decode cX5_judge 42 = .ok (.iload_n 1, 1) := by decide +kernel
theorem dX5_judge_43 : decode cX5_judge 43 = .ok (.imul, 1) := by decide +kernel
theorem dX5_judge_44 : decode cX5_judge 44 = .ok (.iload_n 3, 1) := by decide +kernel
theorem dX5_judge_45 : decode cX5_judge 45 = .ok (.iadd, 1) := by decide +kernel
theorem dX5_judge_46 : decode cX5_judge 46 = .ok (.iaload, 1) := by decide +kernel
theorem dX5_judge_47 : decode cX5_judge 47 = .ok (.aload_n 0, 1) := by decide +kernel
theorem dX5_judge_48 : decode cX5_judge 48 = .ok (.iload_n 3, 1) := by decide +kernel
theorem dX5_judge_49 : decode cX5_judge 49 = .ok (.iconst 4, 1) := by decide +kernel
theorem dX5_judge_50 : decode cX5_judge 50 = .ok (.invokevirtual 54, 3) := by decide +kernel
theorem dX5_judge_53 : decode cX5_judge 53 = .ok (.if_icmp .eq 7, 3) := by decide +kernel
theorem dX5_judge_56 : decode cX5_judge 56 = .ok (.iconst 1, 1) := by decide +kernel
theorem dX5_judge_57 : decode cX5_judge 57 = .ok (.iload_n 3, 1) := by decide +kernel
theorem dX5_judge_58 : decode cX5_judge 58 = .ok (.iadd, 1) := by decide +kernel
theorem dX5_judge_59 : decode cX5_judge 59 = .ok (.ireturn, 1) := by decide +kernel
theorem dX5_judge_60 : decode cX5_judge 60 = .ok (.iinc 3 1, 3) := by decide +kernel
theorem dX5_judge_63 : decode cX5_judge 63 = .ok (.goto (-45), 3) := by decide +kernel
theorem dX5_judge_66 : decode cX5_judge 66 = .ok (.iconst 0, 1) := by decide +kernel
theorem dX5_judge_67 : decode cX5_judge 67 = .ok (.ireturn, 1) := by decide +kernel
theorem dX5_image_0 : decode cX5_image 0 = .ok (.aload_n 0, 1) := by decide +kernel
theorem dX5_image_1 : decode cX5_image 1 = .ok (.getfield 7, 3) := by decide +kernel
theorem dX5_image_4 : decode cX5_image 4 = .ok (.aload_n 0, 1) := by decide +kernel
theorem dX5_image_5 : decode cX5_image 5 = .ok (.getfield 19, 3) := by decide +kernel
theorem dX5_image_8 : decode cX5_image 8 = .ok (.invokestatic 153, 3) := by decide +kernel
theorem dX5_image_11 : decode cX5_image 11 = .ok (.aload_n 0, 1) := by decide +kernel
theorem dX5_image_12 : decode cX5_image 12 = .ok (.iconst 1, 1) := by decide +kernel
theorem dX5_image_13 : decode cX5_image 13 = .ok (.putfield 305, 3) := by decide +kernel
theorem dX5_image_16 : decode cX5_image 16 = .ok (.iconst 1, 1) := by decide +kernel
theorem dX5_image_17 : decode cX5_image 17 = .ok (.ireturn, 1) := by decide +kernel
theorem dX5_undo_0 : decode cX5_undo 0 = .ok (.aload_n 0, 1) := by decide +kernel
theorem dX5_undo_1 : decode cX5_undo 1 = .ok (.getfield 305, 3) := by decide +kernel
theorem dX5_undo_4 : decode cX5_undo 4 = .ok (.ifCond .ne 9, 3) := by decide +kernel
theorem dX5_undo_7 : decode cX5_undo 7 = .ok (.aload_n 0, 1) := by decide +kernel
theorem dX5_undo_8 : decode cX5_undo 8 = .ok (.iconst 3, 1) := by decide +kernel
theorem dX5_undo_9 : decode cX5_undo 9 = .ok (.invokevirtual 118, 3) := by decide +kernel
theorem dX5_undo_12 : decode cX5_undo 12 = .ok (.ireturn, 1) := by decide +kernel
theorem dX5_undo_13 : decode cX5_undo 13 = .ok (.aload_n 0, 1) := by decide +kernel
theorem dX5_undo_14 : decode cX5_undo 14 = .ok (.getfield 19, 3) := by decide +kernel
theorem dX5_undo_17 : decode cX5_undo 17 = .ok (.aload_n 0, 1) := by decide +kernel
theorem dX5_undo_18 : decode cX5_undo 18 = .ok (.getfield 7, 3) := by decide +kernel
theorem dX5_undo_21 : decode cX5_undo 21 = .ok (.invokestatic 153, 3) := by decide +kernel
theorem dX5_undo_24 : decode cX5_undo 24 = .ok (.aload_n 0, 1) := by decide +kernel
theorem dX5_undo_25 : decode cX5_undo 25 = .ok (.getfield 7, 3) := by decide +kernel
theorem dX5_undo_28 : decode cX5_undo 28 = .ok (.iconst 1, 1) := by decide +kernel
theorem dX5_undo_29 : decode cX5_undo 29 = .ok (.iaload, 1) := by decide +kernel
theorem dX5_undo_30 : decode cX5_undo 30 = .ok (.ireturn, 1) := by decide +kernel
theorem dX5_tear_0 : decode cX5_tear 0 = .ok (.aload_n 0, 1) := by decide +kernel
theorem dX5_tear_1 : decode cX5_tear 1 = .ok (.getfield 305, 3) := by decide +kernel
theorem dX5_tear_4 : decode cX5_tear 4 = .ok (.ifCond .eq 7, 3) := by decide +kernel
theorem dX5_tear_7 : decode cX5_tear 7 = .ok (.iconst 1, 1) := by decide +kernel
theorem dX5_tear_8 : decode cX5_tear 8 = .ok (.goto 4, 3) := by decide +kernel
theorem dX5_tear_11 : decode cX5_tear 11 = .ok (.iconst 0, 1) := by decide +kernel
theorem dX5_tear_12 : decode cX5_tear 12 = .ok (.istore_n 1, 1) := by decide +kernel
theorem dX5_tear_13 : decode cX5_tear 13 = .ok (.aload_n 0, 1) := by decide +kernel
theorem dX5_tear_14 : decode cX5_tear 14 = .ok (.iconst 0, 1) := by decide +kernel
theorem dX5_tear_15 : decode cX5_tear 15 = .ok (.putfield 305, 3) := by decide +kernel
theorem dX5_tear_18 : decode cX5_tear 18 = .ok (.iload_n 1, 1) := by decide +kernel
theorem dX5_tear_19 : decode cX5_tear 19 = .ok (.ireturn, 1) := by decide +kernel
theorem dX5_holding_0 : decode cX5_holding 0 = .ok (.iconst 0, 1) := by decide +kernel
theorem dX5_holding_1 : decode cX5_holding 1 = .ok (.istore_n 1, 1) := by decide +kernel
theorem dX5_holding_2 : decode cX5_holding 2 = .ok (.iconst 0, 1) := by decide +kernel
theorem dX5_holding_3 : decode cX5_holding 3 = .ok (.istore_n 2, 1) := by decide +kernel
theorem dX5_holding_4 : decode cX5_holding 4 = .ok (.iload_n 2, 1) := by decide +kernel
theorem dX5_holding_5 : decode cX5_holding 5 = .ok (.bipush 10, 2) := by decide +kernel
theorem dX5_holding_7 : decode cX5_holding 7 = .ok (.if_icmp .ge 29, 3) := by decide +kernel
theorem dX5_holding_10 : decode cX5_holding 10 = .ok (.iload_n 1, 1) := by decide +kernel
theorem dX5_holding_11 : decode cX5_holding 11 = .ok (.aload_n 0, 1) := by decide +kernel
theorem dX5_holding_12 : decode cX5_holding 12 = .ok (.getfield 7, 3) := by decide +kernel
theorem dX5_holding_15 : decode cX5_holding 15 = .ok (.bipush 125, 2) := by decide +kernel
theorem dX5_holding_17 : decode cX5_holding 17 = .ok (.iload_n 2, 1) := by decide +kernel
theorem dX5_holding_18 : decode cX5_holding 18 = .ok (.iadd, 1) := by decide +kernel
theorem dX5_holding_19 : decode cX5_holding 19 = .ok (.iaload, 1) := by decide +kernel
theorem dX5_holding_20 : decode cX5_holding 20 = .ok (.ifCond .le 7, 3) := by decide +kernel
theorem dX5_holding_23 : decode cX5_holding 23 = .ok (.iconst 1, 1) := by decide +kernel
theorem dX5_holding_24 : decode cX5_holding 24 = .ok (.goto 4, 3) := by decide +kernel
theorem dX5_holding_27 : decode cX5_holding 27 = .ok (.iconst 0, 1) := by decide +kernel
theorem dX5_holding_28 : decode cX5_holding 28 = .ok (.iadd, 1) := by decide +kernel
theorem dX5_holding_29 : decode cX5_holding 29 = .ok (.istore_n 1, 1) := by decide +kernel
theorem dX5_holding_30 : decode cX5_holding 30 = .ok (.iinc 2 1, 3) := by decide +kernel
theorem dX5_holding_33 : decode cX5_holding 33 = .ok (.goto (-29), 3) := by decide +kernel
theorem dX5_holding_36 : decode cX5_holding 36 = .ok (.iload_n 1, 1) := by decide +kernel
theorem dX5_holding_37 : decode cX5_holding 37 = .ok (.ireturn, 1) := by decide +kernel
theorem dX5_count_0 : decode cX5_count 0 = .ok (.iload_n 1, 1) := by decide +kernel
theorem dX5_count_1 : decode cX5_count 1 = .ok (.tableswitch 98 0 7 #[47, 54, 61, 68, 75, 81, 86, 93], 47) := by decide +kernel
theorem dX5_count_48 : decode cX5_count 48 = .ok (.aload_n 0, 1) := by decide +kernel
theorem dX5_count_49 : decode cX5_count 49 = .ok (.getfield 7, 3) := by decide +kernel
theorem dX5_count_52 : decode cX5_count 52 = .ok (.iconst 1, 1) := by decide +kernel
theorem dX5_count_53 : decode cX5_count 53 = .ok (.iaload, 1) := by decide +kernel
theorem dX5_count_54 : decode cX5_count 54 = .ok (.ireturn, 1) := by decide +kernel
theorem dX5_count_55 : decode cX5_count 55 = .ok (.aload_n 0, 1) := by decide +kernel
theorem dX5_count_56 : decode cX5_count 56 = .ok (.getfield 7, 3) := by decide +kernel
theorem dX5_count_59 : decode cX5_count 59 = .ok (.iconst 0, 1) := by decide +kernel
theorem dX5_count_60 : decode cX5_count 60 = .ok (.iaload, 1) := by decide +kernel
theorem dX5_count_61 : decode cX5_count 61 = .ok (.ireturn, 1) := by decide +kernel
theorem dX5_count_62 : decode cX5_count 62 = .ok (.aload_n 0, 1) := by decide +kernel
theorem dX5_count_63 : decode cX5_count 63 = .ok (.getfield 7, 3) := by decide +kernel
theorem dX5_count_66 : decode cX5_count 66 = .ok (.iconst 4, 1) := by decide +kernel
theorem dX5_count_67 : decode cX5_count 67 = .ok (.iaload, 1) := by decide +kernel
theorem dX5_count_68 : decode cX5_count 68 = .ok (.ireturn, 1) := by decide +kernel
theorem dX5_count_69 : decode cX5_count 69 = .ok (.aload_n 0, 1) := by decide +kernel
theorem dX5_count_70 : decode cX5_count 70 = .ok (.getfield 7, 3) := by decide +kernel
theorem dX5_count_73 : decode cX5_count 73 = .ok (.iconst 5, 1) := by decide +kernel
theorem dX5_count_74 : decode cX5_count 74 = .ok (.iaload, 1) := by decide +kernel
theorem dX5_count_75 : decode cX5_count 75 = .ok (.ireturn, 1) := by decide +kernel
theorem dX5_count_76 : decode cX5_count 76 = .ok (.aload_n 0, 1) := by decide +kernel
theorem dX5_count_77 : decode cX5_count 77 = .ok (.iconst 5, 1) := by decide +kernel
theorem dX5_count_78 : decode cX5_count 78 = .ok (.invokevirtual 147, 3) := by decide +kernel
theorem dX5_count_81 : decode cX5_count 81 = .ok (.ireturn, 1) := by decide +kernel
theorem dX5_count_82 : decode cX5_count 82 = .ok (.aload_n 0, 1) := by decide +kernel
theorem dX5_count_83 : decode cX5_count 83 = .ok (.getfield 197, 3) := by decide +kernel
theorem dX5_count_86 : decode cX5_count 86 = .ok (.ireturn, 1) := by decide +kernel
theorem dX5_count_87 : decode cX5_count 87 = .ok (.aload_n 0, 1) := by decide +kernel
theorem dX5_count_88 : decode cX5_count 88 = .ok (.getfield 7, 3) := by decide +kernel
theorem dX5_count_91 : decode cX5_count 91 = .ok (.iconst 2, 1) := by decide +kernel
theorem dX5_count_92 : decode cX5_count 92 = .ok (.iaload, 1) := by decide +kernel
theorem dX5_count_93 : decode cX5_count 93 = .ok (.ireturn, 1) := by decide +kernel
theorem dX5_count_94 : decode cX5_count 94 = .ok (.aload_n 0, 1) := by decide +kernel
theorem dX5_count_95 : decode cX5_count 95 = .ok (.invokevirtual 309, 3) := by decide +kernel
theorem dX5_count_98 : decode cX5_count 98 = .ok (.ireturn, 1) := by decide +kernel
theorem dX5_count_99 : decode cX5_count 99 = .ok (.aload_n 0, 1) := by decide +kernel
theorem dX5_count_100 : decode cX5_count 100 = .ok (.iconst 0, 1) := by decide +kernel
theorem dX5_count_101 : decode cX5_count 101 = .ok (.invokevirtual 118, 3) := by decide +kernel
theorem dX5_count_104 : decode cX5_count 104 = .ok (.ireturn, 1) := by decide +kernel
theorem dX5_status_0 : decode cX5_status 0 = .ok (.iload_n 1, 1) := by decide +kernel
theorem dX5_status_1 : decode cX5_status 1 = .ok (.i2l, 1) := by decide +kernel
theorem dX5_status_2 : decode cX5_status 2 = .ok (.ldc2_w 297, 3) := by decide +kernel
theorem dX5_status_5 : decode cX5_status 5 = .ok (.ldc2_w 128, 3) := by decide +kernel
theorem dX5_status_8 : decode cX5_status 8 = .ok (.invokestatic 42, 3) := by decide +kernel
theorem dX5_status_11 : decode cX5_status 11 = .ok (.ifCond .ne 9, 3) := by decide +kernel
theorem dX5_status_14 : decode cX5_status 14 = .ok (.aload_n 0, 1) := by decide +kernel
theorem dX5_status_15 : decode cX5_status 15 = .ok (.iconst 0, 1) := by decide +kernel
theorem dX5_status_16 : decode cX5_status 16 = .ok (.invokevirtual 118, 3) := by decide +kernel
theorem dX5_status_19 : decode cX5_status 19 = .ok (.ireturn, 1) := by decide +kernel
theorem dX5_status_20 : decode cX5_status 20 = .ok (.iconst 0, 1) := by decide +kernel
theorem dX5_status_21 : decode cX5_status 21 = .ok (.istore_n 2, 1) := by decide +kernel
theorem dX5_status_22 : decode cX5_status 22 = .ok (.iconst 0, 1) := by decide +kernel
theorem dX5_status_23 : decode cX5_status 23 = .ok (.istore_n 3, 1) := by decide +kernel
theorem dX5_status_24 : decode cX5_status 24 = .ok (.iload_n 3, 1) := by decide +kernel
theorem dX5_status_25 : decode cX5_status 25 = .ok (.bipush 7, 2) := by decide +kernel
theorem dX5_status_27 : decode cX5_status 27 = .ok (.if_icmp .ge 18, 3) := by decide +kernel
theorem dX5_status_30 : decode cX5_status 30 = .ok (.iload_n 2, 1) := by decide +kernel
theorem dX5_status_31 : decode cX5_status 31 = .ok (.aload_n 0, 1) := by decide +kernel
theorem dX5_status_32 : decode cX5_status 32 = .ok (.getfield 22, 3) := by decide +kernel
theorem dX5_status_35 : decode cX5_status 35 = .ok (.iload_n 3, 1) := by decide +kernel
theorem dX5_status_36 : decode cX5_status 36 = .ok (.iaload, 1) := by decide +kernel
theorem dX5_status_37 : decode cX5_status 37 = .ok (.iadd, 1) := by decide +kernel
theorem dX5_status_38 : decode cX5_status 38 = .ok (.istore_n 2, 1) := by decide +kernel
theorem dX5_status_39 : decode cX5_status 39 = .ok (.iinc 3 1, 3) := by decide +kernel
theorem dX5_status_42 : decode cX5_status 42 = .ok (.goto (-18), 3) := by decide +kernel
theorem dX5_status_45 : decode cX5_status 45 = .ok (.iload_n 1, 1) := by decide +kernel
theorem dX5_status_46 : decode cX5_status 46 = .ok (.ifCond .ge 7, 3) := by decide +kernel
theorem dX5_status_49 : decode cX5_status 49 = .ok (.iload_n 2, 1) := by decide +kernel
theorem dX5_status_50 : decode cX5_status 50 = .ok (.goto 9, 3) := by decide +kernel
theorem dX5_status_53 : decode cX5_status 53 = .ok (.aload_n 0, 1) := by decide +kernel
theorem dX5_status_54 : decode cX5_status 54 = .ok (.getfield 22, 3) := by decide +kernel
theorem dX5_status_57 : decode cX5_status 57 = .ok (.iload_n 1, 1) := by decide +kernel
theorem dX5_status_58 : decode cX5_status 58 = .ok (.iaload, 1) := by decide +kernel
theorem dX5_status_59 : decode cX5_status 59 = .ok (.ireturn, 1) := by decide +kernel
end
section
theorem dL_law_0 : decode cL_law 0 = .ok (.new 7, 3) := by decide +kernel
theorem dL_law_3 : decode cL_law 3 = .ok (.dup, 1) := by decide +kernel
theorem dL_law_4 : decode cL_law 4 = .ok (.invokespecial 9, 3) := by decide +kernel
theorem dL_law_7 : decode cL_law 7 = .ok (.astore_n 1, 1) := by decide +kernel
theorem dL_law_8 : decode cL_law 8 = .ok (.new 10, 3) := by decide +kernel
theorem dL_law_11 : decode cL_law 11 = .ok (.dup, 1) := by decide +kernel
theorem dL_law_12 : decode cL_law 12 = .ok (.invokespecial 12, 3) := by decide +kernel
theorem dL_law_15 : decode cL_law 15 = .ok (.astore_n 2, 1) := by decide +kernel
theorem dL_law_16 : decode cL_law 16 = .ok (.iconst 0, 1) := by decide +kernel
theorem dL_law_17 : decode cL_law 17 = .ok (.istore_n 3, 1) := by decide +kernel
theorem dL_law_18 : decode cL_law 18 = .ok (.iload_n 3, 1) := by decide +kernel
theorem dL_law_19 : decode cL_law 19 = .ok (.aload_n 0, 1) := by decide +kernel
theorem dL_law_20 : decode cL_law 20 = .ok (.arraylength, 1) := by decide +kernel
theorem dL_law_21 : decode cL_law 21 = .ok (.bipush 6, 2) := by decide +kernel
theorem dL_law_23 : decode cL_law 23 = .ok (.isub, 1) := by decide +kernel
theorem dL_law_24 : decode cL_law 24 = .ok (.if_icmp .gt 1451, 3) := by decide +kernel
theorem dL_law_27 : decode cL_law 27 = .ok (.aload_n 0, 1) := by decide +kernel
theorem dL_law_28 : decode cL_law 28 = .ok (.iload_n 3, 1) := by decide +kernel
theorem dL_law_29 : decode cL_law 29 = .ok (.iaload, 1) := by decide +kernel
theorem dL_law_30 : decode cL_law 30 = .ok (.bipush 63, 2) := by decide +kernel
theorem dL_law_32 : decode cL_law 32 = .ok (.iand, 1) := by decide +kernel
theorem dL_law_33 : decode cL_law 33 = .ok (.tableswitch 1436 0 39 #[175, 198, 241, 264, 297, 330, 373, 416, 459, 482, 505, 548, 591, 614, 657, 690, 733, 766, 799, 832, 855, 898, 931, 954, 1008, 1031, 1064, 1077, 1090, 1123, 1156, 1199, 1242, 1305, 1328, 1351, 1364, 1377, 1390, 1413], 175) := by decide +kernel
theorem dL_law_208 : decode cL_law 208 = .ok (.aload_n 1, 1) := by decide +kernel
theorem dL_law_209 : decode cL_law 209 = .ok (.aload_n 0, 1) := by decide +kernel
theorem dL_law_210 : decode cL_law 210 = .ok (.iload_n 3, 1) := by decide +kernel
theorem dL_law_211 : decode cL_law 211 = .ok (.iconst 1, 1) := by decide +kernel
theorem dL_law_212 : decode cL_law 212 = .ok (.iadd, 1) := by decide +kernel
theorem dL_law_213 : decode cL_law 213 = .ok (.iaload, 1) := by decide +kernel
theorem dL_law_214 : decode cL_law 214 = .ok (.invokevirtual 13, 3) := by decide +kernel
theorem dL_law_217 : decode cL_law 217 = .ok (.aload_n 2, 1) := by decide +kernel
theorem dL_law_218 : decode cL_law 218 = .ok (.aload_n 0, 1) := by decide +kernel
theorem dL_law_219 : decode cL_law 219 = .ok (.iload_n 3, 1) := by decide +kernel
theorem dL_law_220 : decode cL_law 220 = .ok (.iconst 1, 1) := by decide +kernel
theorem dL_law_221 : decode cL_law 221 = .ok (.iadd, 1) := by decide +kernel
theorem dL_law_222 : decode cL_law 222 = .ok (.iaload, 1) := by decide +kernel
theorem dL_law_223 : decode cL_law 223 = .ok (.invokevirtual 17, 3) := by decide +kernel
theorem dL_law_226 : decode cL_law 226 = .ok (.if_icmp .eq 1243, 3) := by decide +kernel
theorem dL_law_229 : decode cL_law 229 = .ok (.iconst 0, 1) := by decide +kernel
theorem dL_law_230 : decode cL_law 230 = .ok (.ireturn, 1) := by decide +kernel
theorem dL_law_231 : decode cL_law 231 = .ok (.aload_n 1, 1) := by decide +kernel
theorem dL_law_232 : decode cL_law 232 = .ok (.aload_n 0, 1) := by decide +kernel
theorem dL_law_233 : decode cL_law 233 = .ok (.iload_n 3, 1) := by decide +kernel
theorem dL_law_234 : decode cL_law 234 = .ok (.iconst 1, 1) := by decide +kernel
theorem dL_law_235 : decode cL_law 235 = .ok (.iadd, 1) := by decide +kernel
theorem dL_law_236 : decode cL_law 236 = .ok (.iaload, 1) := by decide +kernel
theorem dL_law_237 : decode cL_law 237 = .ok (.aload_n 0, 1) := by decide +kernel
theorem dL_law_238 : decode cL_law 238 = .ok (.iload_n 3, 1) := by decide +kernel
theorem dL_law_239 : decode cL_law 239 = .ok (.iconst 2, 1) := by decide +kernel
theorem dL_law_240 : decode cL_law 240 = .ok (.iadd, 1) := by decide +kernel
theorem dL_law_241 : decode cL_law 241 = .ok (.iaload, 1) := by decide +kernel
theorem dL_law_242 : decode cL_law 242 = .ok (.aload_n 0, 1) := by decide +kernel
theorem dL_law_243 : decode cL_law 243 = .ok (.iload_n 3, 1) := by decide +kernel
theorem dL_law_244 : decode cL_law 244 = .ok (.iconst 3, 1) := by decide +kernel
theorem dL_law_245 : decode cL_law 245 = .ok (.iadd, 1) := by decide +kernel
theorem dL_law_246 : decode cL_law 246 = .ok (.iaload, 1) := by decide +kernel
theorem dL_law_247 : decode cL_law 247 = .ok (.invokevirtual 18, 3) := by decide +kernel
theorem dL_law_250 : decode cL_law 250 = .ok (.aload_n 2, 1) := by decide +kernel
theorem dL_law_251 : decode cL_law 251 = .ok (.aload_n 0, 1) := by decide +kernel
theorem dL_law_252 : decode cL_law 252 = .ok (.iload_n 3, 1) := by decide +kernel
theorem dL_law_253 : decode cL_law 253 = .ok (.iconst 1, 1) := by decide +kernel
theorem dL_law_254 : decode cL_law 254 = .ok (.iadd, 1) := by decide +kernel
theorem dL_law_255 : decode cL_law 255 = .ok (.iaload, 1) := by decide +kernel
theorem dL_law_256 : decode cL_law 256 = .ok (.aload_n 0, 1) := by decide +kernel
theorem dL_law_257 : decode cL_law 257 = .ok (.iload_n 3, 1) := by decide +kernel
theorem dL_law_258 : decode cL_law 258 = .ok (.iconst 2, 1) := by decide +kernel
theorem dL_law_259 : decode cL_law 259 = .ok (.iadd, 1) := by decide +kernel
theorem dL_law_260 : decode cL_law 260 = .ok (.iaload, 1) := by decide +kernel
theorem dL_law_261 : decode cL_law 261 = .ok (.aload_n 0, 1) := by decide +kernel
theorem dL_law_262 : decode cL_law 262 = .ok (.iload_n 3, 1) := by decide +kernel
theorem dL_law_263 : decode cL_law 263 = .ok (.iconst 3, 1) := by decide +kernel
theorem dL_law_264 : decode cL_law 264 = .ok (.iadd, 1) := by decide +kernel
theorem dL_law_265 : decode cL_law 265 = .ok (.iaload, 1) := by decide +kernel
theorem dL_law_266 : decode cL_law 266 = .ok (.invokevirtual 22, 3) := by decide +kernel
theorem dL_law_269 : decode cL_law 269 = .ok (.if_icmp .eq 1200, 3) := by decide +kernel
theorem dL_law_272 : decode cL_law 272 = .ok (.iconst 0, 1) := by decide +kernel
theorem dL_law_273 : decode cL_law 273 = .ok (.ireturn, 1) := by decide +kernel
theorem dL_law_274 : decode cL_law 274 = .ok (.aload_n 1, 1) := by decide +kernel
theorem dL_law_275 : decode cL_law 275 = .ok (.aload_n 0, 1) := by decide +kernel
theorem dL_law_276 : decode cL_law 276 = .ok (.iload_n 3, 1) := by decide +kernel
theorem dL_law_277 : decode cL_law 277 = .ok (.iconst 1, 1) := by decide +kernel
theorem dL_law_278 : decode cL_law 278 = .ok (.iadd, 1) := by decide +kernel
theorem dL_law_279 : decode cL_law 279 = .ok (.iaload, 1) := by decide +kernel
theorem dL_law_280 : decode cL_law 280 = .ok (.invokevirtual 23, 3) := by decide +kernel
theorem dL_law_283 : decode cL_law 283 = .ok (.aload_n 2, 1) := by decide +kernel
theorem dL_law_284 : decode cL_law 284 = .ok (.aload_n 0, 1) := by decide +kernel
theorem dL_law_285 : decode cL_law 285 = .ok (.iload_n 3, 1) := by decide +kernel
theorem dL_law_286 : decode cL_law 286 = .ok (.iconst 1, 1) := by decide +kernel
theorem dL_law_287 : decode cL_law 287 = .ok (.iadd, 1) := by decide +kernel
theorem dL_law_288 : decode cL_law 288 = .ok (.iaload, 1) := by decide +kernel
theorem dL_law_289 : decode cL_law 289 = .ok (.invokevirtual 26, 3) := by decide +kernel
theorem dL_law_292 : decode cL_law 292 = .ok (.if_icmp .eq 1177, 3) := by decide +kernel
theorem dL_law_295 : decode cL_law 295 = .ok (.iconst 0, 1) := by decide +kernel
theorem dL_law_296 : decode cL_law 296 = .ok (.ireturn, 1) := by decide +kernel
theorem dL_law_297 : decode cL_law 297 = .ok (.aload_n 1, 1) := by decide +kernel
theorem dL_law_298 : decode cL_law 298 = .ok (.aload_n 0, 1) := by decide +kernel
theorem dL_law_299 : decode cL_law 299 = .ok (.iload_n 3, 1) := by decide +kernel
theorem dL_law_300 : decode cL_law 300 = .ok (.iconst 1, 1) := by decide +kernel
theorem dL_law_301 : decode cL_law 301 = .ok (.iadd, 1) := by decide +kernel
theorem dL_law_302 : decode cL_law 302 = .ok (.iaload, 1) := by decide +kernel
theorem dL_law_303 : decode cL_law 303 = .ok (.aload_n 0, 1) := by decide +kernel
theorem dL_law_304 : decode cL_law 304 = .ok (.iload_n 3, 1) := by decide +kernel
theorem dL_law_305 : decode cL_law 305 = .ok (.iconst 2, 1) := by decide +kernel
theorem dL_law_306 : decode cL_law 306 = .ok (.iadd, 1) := by decide +kernel
theorem dL_law_307 : decode cL_law 307 = .ok (.iaload, 1) := by decide +kernel
theorem dL_law_308 : decode cL_law 308 = .ok (.invokevirtual 27, 3) := by decide +kernel
theorem dL_law_311 : decode cL_law 311 = .ok (.aload_n 2, 1) := by decide +kernel
theorem dL_law_312 : decode cL_law 312 = .ok (.aload_n 0, 1) := by decide +kernel
theorem dL_law_313 : decode cL_law 313 = .ok (.iload_n 3, 1) := by decide +kernel
theorem dL_law_314 : decode cL_law 314 = .ok (.iconst 1, 1) := by decide +kernel
theorem dL_law_315 : decode cL_law 315 = .ok (.iadd, 1) := by decide +kernel
theorem dL_law_316 : decode cL_law 316 = .ok (.iaload, 1) := by decide +kernel
theorem dL_law_317 : decode cL_law 317 = .ok (.aload_n 0, 1) := by decide +kernel
theorem dL_law_318 : decode cL_law 318 = .ok (.iload_n 3, 1) := by decide +kernel
theorem dL_law_319 : decode cL_law 319 = .ok (.iconst 2, 1) := by decide +kernel
theorem dL_law_320 : decode cL_law 320 = .ok (.iadd, 1) := by decide +kernel
theorem dL_law_321 : decode cL_law 321 = .ok (.iaload, 1) := by decide +kernel
theorem dL_law_322 : decode cL_law 322 = .ok (.invokevirtual 31, 3) := by decide +kernel
theorem dL_law_325 : decode cL_law 325 = .ok (.if_icmp .eq 1144, 3) := by decide +kernel
theorem dL_law_328 : decode cL_law 328 = .ok (.iconst 0, 1) := by decide +kernel
theorem dL_law_329 : decode cL_law 329 = .ok (.ireturn, 1) := by decide +kernel
theorem dL_law_330 : decode cL_law 330 = .ok (.aload_n 1, 1) := by decide +kernel
theorem dL_law_331 : decode cL_law 331 = .ok (.aload_n 0, 1) := by decide +kernel
theorem dL_law_332 : decode cL_law 332 = .ok (.iload_n 3, 1) := by decide +kernel
theorem dL_law_333 : decode cL_law 333 = .ok (.iconst 1, 1) := by decide +kernel
theorem dL_law_334 : decode cL_law 334 = .ok (.iadd, 1) := by decide +kernel
theorem dL_law_335 : decode cL_law 335 = .ok (.iaload, 1) := by decide +kernel
theorem dL_law_336 : decode cL_law 336 = .ok (.aload_n 0, 1) := by decide +kernel
theorem dL_law_337 : decode cL_law 337 = .ok (.iload_n 3, 1) := by decide +kernel
theorem dL_law_338 : decode cL_law 338 = .ok (.iconst 2, 1) := by decide +kernel
theorem dL_law_339 : decode cL_law 339 = .ok (.iadd, 1) := by decide +kernel
theorem dL_law_340 : decode cL_law 340 = .ok (.iaload, 1) := by decide +kernel
theorem dL_law_341 : decode cL_law 341 = .ok (.invokevirtual 32, 3) := by decide +kernel
theorem dL_law_344 : decode cL_law 344 = .ok (.aload_n 2, 1) := by decide +kernel
theorem dL_law_345 : decode cL_law 345 = .ok (.aload_n 0, 1) := by decide +kernel
theorem dL_law_346 : decode cL_law 346 = .ok (.iload_n 3, 1) := by decide +kernel
theorem dL_law_347 : decode cL_law 347 = .ok (.iconst 1, 1) := by decide +kernel
theorem dL_law_348 : decode cL_law 348 = .ok (.iadd, 1) := by decide +kernel
theorem dL_law_349 : decode cL_law 349 = .ok (.iaload, 1) := by decide +kernel
theorem dL_law_350 : decode cL_law 350 = .ok (.aload_n 0, 1) := by decide +kernel
theorem dL_law_351 : decode cL_law 351 = .ok (.iload_n 3, 1) := by decide +kernel
theorem dL_law_352 : decode cL_law 352 = .ok (.iconst 2, 1) := by decide +kernel
theorem dL_law_353 : decode cL_law 353 = .ok (.iadd, 1) := by decide +kernel
theorem dL_law_354 : decode cL_law 354 = .ok (.iaload, 1) := by decide +kernel
theorem dL_law_355 : decode cL_law 355 = .ok (.invokevirtual 35, 3) := by decide +kernel
theorem dL_law_358 : decode cL_law 358 = .ok (.if_icmp .eq 1111, 3) := by decide +kernel
theorem dL_law_361 : decode cL_law 361 = .ok (.iconst 0, 1) := by decide +kernel
theorem dL_law_362 : decode cL_law 362 = .ok (.ireturn, 1) := by decide +kernel
theorem dL_law_363 : decode cL_law 363 = .ok (.aload_n 1, 1) := by decide +kernel
theorem dL_law_364 : decode cL_law 364 = .ok (.aload_n 0, 1) := by decide +kernel
theorem dL_law_365 : decode cL_law 365 = .ok (.iload_n 3, 1) := by decide +kernel
theorem dL_law_366 : decode cL_law 366 = .ok (.iconst 1, 1) := by decide +kernel
theorem dL_law_367 : decode cL_law 367 = .ok (.iadd, 1) := by decide +kernel
theorem dL_law_368 : decode cL_law 368 = .ok (.iaload, 1) := by decide +kernel
theorem dL_law_369 : decode cL_law 369 = .ok (.aload_n 0, 1) := by decide +kernel
theorem dL_law_370 : decode cL_law 370 = .ok (.iload_n 3, 1) := by decide +kernel
theorem dL_law_371 : decode cL_law 371 = .ok (.iconst 2, 1) := by decide +kernel
theorem dL_law_372 : decode cL_law 372 = .ok (.iadd, 1) := by decide +kernel
theorem dL_law_373 : decode cL_law 373 = .ok (.iaload, 1) := by decide +kernel
theorem dL_law_374 : decode cL_law 374 = .ok (.aload_n 0, 1) := by decide +kernel
theorem dL_law_375 : decode cL_law 375 = .ok (.iload_n 3, 1) := by decide +kernel
theorem dL_law_376 : decode cL_law 376 = .ok (.iconst 3, 1) := by decide +kernel
theorem dL_law_377 : decode cL_law 377 = .ok (.iadd, 1) := by decide +kernel
theorem dL_law_378 : decode cL_law 378 = .ok (.iaload, 1) := by decide +kernel
theorem dL_law_379 : decode cL_law 379 = .ok (.invokevirtual 36, 3) := by decide +kernel
theorem dL_law_382 : decode cL_law 382 = .ok (.aload_n 2, 1) := by decide +kernel
theorem dL_law_383 : decode cL_law 383 = .ok (.aload_n 0, 1) := by decide +kernel
theorem dL_law_384 : decode cL_law 384 = .ok (.iload_n 3, 1) := by decide +kernel
theorem dL_law_385 : decode cL_law 385 = .ok (.iconst 1, 1) := by decide +kernel
theorem dL_law_386 : decode cL_law 386 = .ok (.iadd, 1) := by decide +kernel
theorem dL_law_387 : decode cL_law 387 = .ok (.iaload, 1) := by decide +kernel
theorem dL_law_388 : decode cL_law 388 = .ok (.aload_n 0, 1) := by decide +kernel
theorem dL_law_389 : decode cL_law 389 = .ok (.iload_n 3, 1) := by decide +kernel
theorem dL_law_390 : decode cL_law 390 = .ok (.iconst 2, 1) := by decide +kernel
theorem dL_law_391 : decode cL_law 391 = .ok (.iadd, 1) := by decide +kernel
theorem dL_law_392 : decode cL_law 392 = .ok (.iaload, 1) := by decide +kernel
theorem dL_law_393 : decode cL_law 393 = .ok (.aload_n 0, 1) := by decide +kernel
theorem dL_law_394 : decode cL_law 394 = .ok (.iload_n 3, 1) := by decide +kernel
theorem dL_law_395 : decode cL_law 395 = .ok (.iconst 3, 1) := by decide +kernel
theorem dL_law_396 : decode cL_law 396 = .ok (.iadd, 1) := by decide +kernel
theorem dL_law_397 : decode cL_law 397 = .ok (.iaload, 1) := by decide +kernel
theorem dL_law_398 : decode cL_law 398 = .ok (.invokevirtual 39, 3) := by decide +kernel
theorem dL_law_401 : decode cL_law 401 = .ok (.if_icmp .eq 1068, 3) := by decide +kernel
theorem dL_law_404 : decode cL_law 404 = .ok (.iconst 0, 1) := by decide +kernel
theorem dL_law_405 : decode cL_law 405 = .ok (.ireturn, 1) := by decide +kernel
theorem dL_law_406 : decode cL_law 406 = .ok (.aload_n 1, 1) := by decide +kernel
theorem dL_law_407 : decode cL_law 407 = .ok (.aload_n 0, 1) := by decide +kernel
theorem dL_law_408 : decode cL_law 408 = .ok (.iload_n 3, 1) := by decide +kernel
theorem dL_law_409 : decode cL_law 409 = .ok (.iconst 1, 1) := by decide +kernel
theorem dL_law_410 : decode cL_law 410 = .ok (.iadd, 1) := by decide +kernel
theorem dL_law_411 : decode cL_law 411 = .ok (.iaload, 1) := by decide +kernel
theorem dL_law_412 : decode cL_law 412 = .ok (.aload_n 0, 1) := by decide +kernel
theorem dL_law_413 : decode cL_law 413 = .ok (.iload_n 3, 1) := by decide +kernel
theorem dL_law_414 : decode cL_law 414 = .ok (.iconst 2, 1) := by decide +kernel
theorem dL_law_415 : decode cL_law 415 = .ok (.iadd, 1) := by decide +kernel
theorem dL_law_416 : decode cL_law 416 = .ok (.iaload, 1) := by decide +kernel
theorem dL_law_417 : decode cL_law 417 = .ok (.aload_n 0, 1) := by decide +kernel
theorem dL_law_418 : decode cL_law 418 = .ok (.iload_n 3, 1) := by decide +kernel
theorem dL_law_419 : decode cL_law 419 = .ok (.iconst 3, 1) := by decide +kernel
theorem dL_law_420 : decode cL_law 420 = .ok (.iadd, 1) := by decide +kernel
theorem dL_law_421 : decode cL_law 421 = .ok (.iaload, 1) := by decide +kernel
theorem dL_law_422 : decode cL_law 422 = .ok (.invokevirtual 40, 3) := by decide +kernel
theorem dL_law_425 : decode cL_law 425 = .ok (.aload_n 2, 1) := by decide +kernel
theorem dL_law_426 : decode cL_law 426 = .ok (.aload_n 0, 1) := by decide +kernel
theorem dL_law_427 : decode cL_law 427 = .ok (.iload_n 3, 1) := by decide +kernel
theorem dL_law_428 : decode cL_law 428 = .ok (.iconst 1, 1) := by decide +kernel
theorem dL_law_429 : decode cL_law 429 = .ok (.iadd, 1) := by decide +kernel
theorem dL_law_430 : decode cL_law 430 = .ok (.iaload, 1) := by decide +kernel
theorem dL_law_431 : decode cL_law 431 = .ok (.aload_n 0, 1) := by decide +kernel
theorem dL_law_432 : decode cL_law 432 = .ok (.iload_n 3, 1) := by decide +kernel
theorem dL_law_433 : decode cL_law 433 = .ok (.iconst 2, 1) := by decide +kernel
theorem dL_law_434 : decode cL_law 434 = .ok (.iadd, 1) := by decide +kernel
theorem dL_law_435 : decode cL_law 435 = .ok (.iaload, 1) := by decide +kernel
theorem dL_law_436 : decode cL_law 436 = .ok (.aload_n 0, 1) := by decide +kernel
theorem dL_law_437 : decode cL_law 437 = .ok (.iload_n 3, 1) := by decide +kernel
theorem dL_law_438 : decode cL_law 438 = .ok (.iconst 3, 1) := by decide +kernel
theorem dL_law_439 : decode cL_law 439 = .ok (.iadd, 1) := by decide +kernel
theorem dL_law_440 : decode cL_law 440 = .ok (.iaload, 1) := by decide +kernel
theorem dL_law_441 : decode cL_law 441 = .ok (.invokevirtual 43, 3) := by decide +kernel
theorem dL_law_444 : decode cL_law 444 = .ok (.if_icmp .eq 1025, 3) := by decide +kernel
theorem dL_law_447 : decode cL_law 447 = .ok (.iconst 0, 1) := by decide +kernel
theorem dL_law_448 : decode cL_law 448 = .ok (.ireturn, 1) := by decide +kernel
theorem dL_law_449 : decode cL_law 449 = .ok (.aload_n 1, 1) := by decide +kernel
theorem dL_law_450 : decode cL_law 450 = .ok (.aload_n 0, 1) := by decide +kernel
theorem dL_law_451 : decode cL_law 451 = .ok (.iload_n 3, 1) := by decide +kernel
theorem dL_law_452 : decode cL_law 452 = .ok (.iconst 1, 1) := by decide +kernel
theorem dL_law_453 : decode cL_law 453 = .ok (.iadd, 1) := by decide +kernel
theorem dL_law_454 : decode cL_law 454 = .ok (.iaload, 1) := by decide +kernel
theorem dL_law_455 : decode cL_law 455 = .ok (.aload_n 0, 1) := by decide +kernel
theorem dL_law_456 : decode cL_law 456 = .ok (.iload_n 3, 1) := by decide +kernel
theorem dL_law_457 : decode cL_law 457 = .ok (.iconst 2, 1) := by decide +kernel
theorem dL_law_458 : decode cL_law 458 = .ok (.iadd, 1) := by decide +kernel
theorem dL_law_459 : decode cL_law 459 = .ok (.iaload, 1) := by decide +kernel
theorem dL_law_460 : decode cL_law 460 = .ok (.aload_n 0, 1) := by decide +kernel
theorem dL_law_461 : decode cL_law 461 = .ok (.iload_n 3, 1) := by decide +kernel
theorem dL_law_462 : decode cL_law 462 = .ok (.iconst 3, 1) := by decide +kernel
theorem dL_law_463 : decode cL_law 463 = .ok (.iadd, 1) := by decide +kernel
theorem dL_law_464 : decode cL_law 464 = .ok (.iaload, 1) := by decide +kernel
theorem dL_law_465 : decode cL_law 465 = .ok (.invokevirtual 44, 3) := by decide +kernel
theorem dL_law_468 : decode cL_law 468 = .ok (.aload_n 2, 1) := by decide +kernel
theorem dL_law_469 : decode cL_law 469 = .ok (.aload_n 0, 1) := by decide +kernel
theorem dL_law_470 : decode cL_law 470 = .ok (.iload_n 3, 1) := by decide +kernel
theorem dL_law_471 : decode cL_law 471 = .ok (.iconst 1, 1) := by decide +kernel
theorem dL_law_472 : decode cL_law 472 = .ok (.iadd, 1) := by decide +kernel
theorem dL_law_473 : decode cL_law 473 = .ok (.iaload, 1) := by decide +kernel
theorem dL_law_474 : decode cL_law 474 = .ok (.aload_n 0, 1) := by decide +kernel
theorem dL_law_475 : decode cL_law 475 = .ok (.iload_n 3, 1) := by decide +kernel
theorem dL_law_476 : decode cL_law 476 = .ok (.iconst 2, 1) := by decide +kernel
theorem dL_law_477 : decode cL_law 477 = .ok (.iadd, 1) := by decide +kernel
theorem dL_law_478 : decode cL_law 478 = .ok (.iaload, 1) := by decide +kernel
theorem dL_law_479 : decode cL_law 479 = .ok (.aload_n 0, 1) := by decide +kernel
theorem dL_law_480 : decode cL_law 480 = .ok (.iload_n 3, 1) := by decide +kernel
theorem dL_law_481 : decode cL_law 481 = .ok (.iconst 3, 1) := by decide +kernel
theorem dL_law_482 : decode cL_law 482 = .ok (.iadd, 1) := by decide +kernel
theorem dL_law_483 : decode cL_law 483 = .ok (.iaload, 1) := by decide +kernel
theorem dL_law_484 : decode cL_law 484 = .ok (.invokevirtual 47, 3) := by decide +kernel
theorem dL_law_487 : decode cL_law 487 = .ok (.if_icmp .eq 982, 3) := by decide +kernel
theorem dL_law_490 : decode cL_law 490 = .ok (.iconst 0, 1) := by decide +kernel
theorem dL_law_491 : decode cL_law 491 = .ok (.ireturn, 1) := by decide +kernel
theorem dL_law_492 : decode cL_law 492 = .ok (.aload_n 1, 1) := by decide +kernel
theorem dL_law_493 : decode cL_law 493 = .ok (.aload_n 0, 1) := by decide +kernel
theorem dL_law_494 : decode cL_law 494 = .ok (.iload_n 3, 1) := by decide +kernel
theorem dL_law_495 : decode cL_law 495 = .ok (.iconst 1, 1) := by decide +kernel
theorem dL_law_496 : decode cL_law 496 = .ok (.iadd, 1) := by decide +kernel
theorem dL_law_497 : decode cL_law 497 = .ok (.iaload, 1) := by decide +kernel
theorem dL_law_498 : decode cL_law 498 = .ok (.invokevirtual 48, 3) := by decide +kernel
theorem dL_law_501 : decode cL_law 501 = .ok (.aload_n 2, 1) := by decide +kernel
theorem dL_law_502 : decode cL_law 502 = .ok (.aload_n 0, 1) := by decide +kernel
theorem dL_law_503 : decode cL_law 503 = .ok (.iload_n 3, 1) := by decide +kernel
theorem dL_law_504 : decode cL_law 504 = .ok (.iconst 1, 1) := by decide +kernel
theorem dL_law_505 : decode cL_law 505 = .ok (.iadd, 1) := by decide +kernel
theorem dL_law_506 : decode cL_law 506 = .ok (.iaload, 1) := by decide +kernel
theorem dL_law_507 : decode cL_law 507 = .ok (.invokevirtual 51, 3) := by decide +kernel
theorem dL_law_510 : decode cL_law 510 = .ok (.if_icmp .eq 959, 3) := by decide +kernel
theorem dL_law_513 : decode cL_law 513 = .ok (.iconst 0, 1) := by decide +kernel
theorem dL_law_514 : decode cL_law 514 = .ok (.ireturn, 1) := by decide +kernel
theorem dL_law_515 : decode cL_law 515 = .ok (.aload_n 1, 1) := by decide +kernel
theorem dL_law_516 : decode cL_law 516 = .ok (.aload_n 0, 1) := by decide +kernel
theorem dL_law_517 : decode cL_law 517 = .ok (.iload_n 3, 1) := by decide +kernel
theorem dL_law_518 : decode cL_law 518 = .ok (.iconst 1, 1) := by decide +kernel
theorem dL_law_519 : decode cL_law 519 = .ok (.iadd, 1) := by decide +kernel
theorem dL_law_520 : decode cL_law 520 = .ok (.iaload, 1) := by decide +kernel
theorem dL_law_521 : decode cL_law 521 = .ok (.invokevirtual 52, 3) := by decide +kernel
theorem dL_law_524 : decode cL_law 524 = .ok (.aload_n 2, 1) := by decide +kernel
theorem dL_law_525 : decode cL_law 525 = .ok (.aload_n 0, 1) := by decide +kernel
theorem dL_law_526 : decode cL_law 526 = .ok (.iload_n 3, 1) := by decide +kernel
theorem dL_law_527 : decode cL_law 527 = .ok (.iconst 1, 1) := by decide +kernel
theorem dL_law_528 : decode cL_law 528 = .ok (.iadd, 1) := by decide +kernel
theorem dL_law_529 : decode cL_law 529 = .ok (.iaload, 1) := by decide +kernel
theorem dL_law_530 : decode cL_law 530 = .ok (.invokevirtual 55, 3) := by decide +kernel
theorem dL_law_533 : decode cL_law 533 = .ok (.if_icmp .eq 936, 3) := by decide +kernel
theorem dL_law_536 : decode cL_law 536 = .ok (.iconst 0, 1) := by decide +kernel
theorem dL_law_537 : decode cL_law 537 = .ok (.ireturn, 1) := by decide +kernel
theorem dL_law_538 : decode cL_law 538 = .ok (.aload_n 1, 1) := by decide +kernel
theorem dL_law_539 : decode cL_law 539 = .ok (.aload_n 0, 1) := by decide +kernel
theorem dL_law_540 : decode cL_law 540 = .ok (.iload_n 3, 1) := by decide +kernel
theorem dL_law_541 : decode cL_law 541 = .ok (.iconst 1, 1) := by decide +kernel
theorem dL_law_542 : decode cL_law 542 = .ok (.iadd, 1) := by decide +kernel
theorem dL_law_543 : decode cL_law 543 = .ok (.iaload, 1) := by decide +kernel
theorem dL_law_544 : decode cL_law 544 = .ok (.aload_n 0, 1) := by decide +kernel
theorem dL_law_545 : decode cL_law 545 = .ok (.iload_n 3, 1) := by decide +kernel
theorem dL_law_546 : decode cL_law 546 = .ok (.iconst 2, 1) := by decide +kernel
theorem dL_law_547 : decode cL_law 547 = .ok (.iadd, 1) := by decide +kernel
theorem dL_law_548 : decode cL_law 548 = .ok (.iaload, 1) := by decide +kernel
theorem dL_law_549 : decode cL_law 549 = .ok (.aload_n 0, 1) := by decide +kernel
theorem dL_law_550 : decode cL_law 550 = .ok (.iload_n 3, 1) := by decide +kernel
theorem dL_law_551 : decode cL_law 551 = .ok (.iconst 3, 1) := by decide +kernel
theorem dL_law_552 : decode cL_law 552 = .ok (.iadd, 1) := by decide +kernel
theorem dL_law_553 : decode cL_law 553 = .ok (.iaload, 1) := by decide +kernel
theorem dL_law_554 : decode cL_law 554 = .ok (.invokevirtual 56, 3) := by decide +kernel
theorem dL_law_557 : decode cL_law 557 = .ok (.aload_n 2, 1) := by decide +kernel
theorem dL_law_558 : decode cL_law 558 = .ok (.aload_n 0, 1) := by decide +kernel
theorem dL_law_559 : decode cL_law 559 = .ok (.iload_n 3, 1) := by decide +kernel
theorem dL_law_560 : decode cL_law 560 = .ok (.iconst 1, 1) := by decide +kernel
theorem dL_law_561 : decode cL_law 561 = .ok (.iadd, 1) := by decide +kernel
theorem dL_law_562 : decode cL_law 562 = .ok (.iaload, 1) := by decide +kernel
theorem dL_law_563 : decode cL_law 563 = .ok (.aload_n 0, 1) := by decide +kernel
theorem dL_law_564 : decode cL_law 564 = .ok (.iload_n 3, 1) := by decide +kernel
theorem dL_law_565 : decode cL_law 565 = .ok (.iconst 2, 1) := by decide +kernel
theorem dL_law_566 : decode cL_law 566 = .ok (.iadd, 1) := by decide +kernel
theorem dL_law_567 : decode cL_law 567 = .ok (.iaload, 1) := by decide +kernel
theorem dL_law_568 : decode cL_law 568 = .ok (.aload_n 0, 1) := by decide +kernel
theorem dL_law_569 : decode cL_law 569 = .ok (.iload_n 3, 1) := by decide +kernel
theorem dL_law_570 : decode cL_law 570 = .ok (.iconst 3, 1) := by decide +kernel
theorem dL_law_571 : decode cL_law 571 = .ok (.iadd, 1) := by decide +kernel
theorem dL_law_572 : decode cL_law 572 = .ok (.iaload, 1) := by decide +kernel
theorem dL_law_573 : decode cL_law 573 = .ok (.invokevirtual 59, 3) := by decide +kernel
theorem dL_law_576 : decode cL_law 576 = .ok (.if_icmp .eq 893, 3) := by decide +kernel
theorem dL_law_579 : decode cL_law 579 = .ok (.iconst 0, 1) := by decide +kernel
theorem dL_law_580 : decode cL_law 580 = .ok (.ireturn, 1) := by decide +kernel
theorem dL_law_581 : decode cL_law 581 = .ok (.aload_n 1, 1) := by decide +kernel
theorem dL_law_582 : decode cL_law 582 = .ok (.aload_n 0, 1) := by decide +kernel
theorem dL_law_583 : decode cL_law 583 = .ok (.iload_n 3, 1) := by decide +kernel
theorem dL_law_584 : decode cL_law 584 = .ok (.iconst 1, 1) := by decide +kernel
theorem dL_law_585 : decode cL_law 585 = .ok (.iadd, 1) := by decide +kernel
theorem dL_law_586 : decode cL_law 586 = .ok (.iaload, 1) := by decide +kernel
theorem dL_law_587 : decode cL_law 587 = .ok (.aload_n 0, 1) := by decide +kernel
theorem dL_law_588 : decode cL_law 588 = .ok (.iload_n 3, 1) := by decide +kernel
theorem dL_law_589 : decode cL_law 589 = .ok (.iconst 2, 1) := by decide +kernel
theorem dL_law_590 : decode cL_law 590 = .ok (.iadd, 1) := by decide +kernel
theorem dL_law_591 : decode cL_law 591 = .ok (.iaload, 1) := by decide +kernel
theorem dL_law_592 : decode cL_law 592 = .ok (.aload_n 0, 1) := by decide +kernel
theorem dL_law_593 : decode cL_law 593 = .ok (.iload_n 3, 1) := by decide +kernel
theorem dL_law_594 : decode cL_law 594 = .ok (.iconst 3, 1) := by decide +kernel
theorem dL_law_595 : decode cL_law 595 = .ok (.iadd, 1) := by decide +kernel
theorem dL_law_596 : decode cL_law 596 = .ok (.iaload, 1) := by decide +kernel
theorem dL_law_597 : decode cL_law 597 = .ok (.invokevirtual 60, 3) := by decide +kernel
theorem dL_law_600 : decode cL_law 600 = .ok (.aload_n 2, 1) := by decide +kernel
theorem dL_law_601 : decode cL_law 601 = .ok (.aload_n 0, 1) := by decide +kernel
theorem dL_law_602 : decode cL_law 602 = .ok (.iload_n 3, 1) := by decide +kernel
theorem dL_law_603 : decode cL_law 603 = .ok (.iconst 1, 1) := by decide +kernel
theorem dL_law_604 : decode cL_law 604 = .ok (.iadd, 1) := by decide +kernel
theorem dL_law_605 : decode cL_law 605 = .ok (.iaload, 1) := by decide +kernel
theorem dL_law_606 : decode cL_law 606 = .ok (.aload_n 0, 1) := by decide +kernel
theorem dL_law_607 : decode cL_law 607 = .ok (.iload_n 3, 1) := by decide +kernel
theorem dL_law_608 : decode cL_law 608 = .ok (.iconst 2, 1) := by decide +kernel
theorem dL_law_609 : decode cL_law 609 = .ok (.iadd, 1) := by decide +kernel
theorem dL_law_610 : decode cL_law 610 = .ok (.iaload, 1) := by decide +kernel
theorem dL_law_611 : decode cL_law 611 = .ok (.aload_n 0, 1) := by decide +kernel
theorem dL_law_612 : decode cL_law 612 = .ok (.iload_n 3, 1) := by decide +kernel
theorem dL_law_613 : decode cL_law 613 = .ok (.iconst 3, 1) := by decide +kernel
theorem dL_law_614 : decode cL_law 614 = .ok (.iadd, 1) := by decide +kernel
theorem dL_law_615 : decode cL_law 615 = .ok (.iaload, 1) := by decide +kernel
theorem dL_law_616 : decode cL_law 616 = .ok (.invokevirtual 63, 3) := by decide +kernel
theorem dL_law_619 : decode cL_law 619 = .ok (.if_icmp .eq 850, 3) := by decide +kernel
theorem dL_law_622 : decode cL_law 622 = .ok (.iconst 0, 1) := by decide +kernel
theorem dL_law_623 : decode cL_law 623 = .ok (.ireturn, 1) := by decide +kernel
theorem dL_law_624 : decode cL_law 624 = .ok (.aload_n 1, 1) := by decide +kernel
theorem dL_law_625 : decode cL_law 625 = .ok (.aload_n 0, 1) := by decide +kernel
theorem dL_law_626 : decode cL_law 626 = .ok (.iload_n 3, 1) := by decide +kernel
theorem dL_law_627 : decode cL_law 627 = .ok (.iconst 1, 1) := by decide +kernel
theorem dL_law_628 : decode cL_law 628 = .ok (.iadd, 1) := by decide +kernel
theorem dL_law_629 : decode cL_law 629 = .ok (.iaload, 1) := by decide +kernel
theorem dL_law_630 : decode cL_law 630 = .ok (.invokevirtual 64, 3) := by decide +kernel
theorem dL_law_633 : decode cL_law 633 = .ok (.aload_n 2, 1) := by decide +kernel
theorem dL_law_634 : decode cL_law 634 = .ok (.aload_n 0, 1) := by decide +kernel
theorem dL_law_635 : decode cL_law 635 = .ok (.iload_n 3, 1) := by decide +kernel
theorem dL_law_636 : decode cL_law 636 = .ok (.iconst 1, 1) := by decide +kernel
theorem dL_law_637 : decode cL_law 637 = .ok (.iadd, 1) := by decide +kernel
theorem dL_law_638 : decode cL_law 638 = .ok (.iaload, 1) := by decide +kernel
theorem dL_law_639 : decode cL_law 639 = .ok (.invokevirtual 67, 3) := by decide +kernel
theorem dL_law_642 : decode cL_law 642 = .ok (.if_icmp .eq 827, 3) := by decide +kernel
theorem dL_law_645 : decode cL_law 645 = .ok (.iconst 0, 1) := by decide +kernel
theorem dL_law_646 : decode cL_law 646 = .ok (.ireturn, 1) := by decide +kernel
theorem dL_law_647 : decode cL_law 647 = .ok (.aload_n 1, 1) := by decide +kernel
theorem dL_law_648 : decode cL_law 648 = .ok (.aload_n 0, 1) := by decide +kernel
theorem dL_law_649 : decode cL_law 649 = .ok (.iload_n 3, 1) := by decide +kernel
theorem dL_law_650 : decode cL_law 650 = .ok (.iconst 1, 1) := by decide +kernel
theorem dL_law_651 : decode cL_law 651 = .ok (.iadd, 1) := by decide +kernel
theorem dL_law_652 : decode cL_law 652 = .ok (.iaload, 1) := by decide +kernel
theorem dL_law_653 : decode cL_law 653 = .ok (.aload_n 0, 1) := by decide +kernel
theorem dL_law_654 : decode cL_law 654 = .ok (.iload_n 3, 1) := by decide +kernel
theorem dL_law_655 : decode cL_law 655 = .ok (.iconst 2, 1) := by decide +kernel
theorem dL_law_656 : decode cL_law 656 = .ok (.iadd, 1) := by decide +kernel
theorem dL_law_657 : decode cL_law 657 = .ok (.iaload, 1) := by decide +kernel
theorem dL_law_658 : decode cL_law 658 = .ok (.aload_n 0, 1) := by decide +kernel
theorem dL_law_659 : decode cL_law 659 = .ok (.iload_n 3, 1) := by decide +kernel
theorem dL_law_660 : decode cL_law 660 = .ok (.iconst 3, 1) := by decide +kernel
theorem dL_law_661 : decode cL_law 661 = .ok (.iadd, 1) := by decide +kernel
theorem dL_law_662 : decode cL_law 662 = .ok (.iaload, 1) := by decide +kernel
theorem dL_law_663 : decode cL_law 663 = .ok (.invokevirtual 68, 3) := by decide +kernel
theorem dL_law_666 : decode cL_law 666 = .ok (.aload_n 2, 1) := by decide +kernel
theorem dL_law_667 : decode cL_law 667 = .ok (.aload_n 0, 1) := by decide +kernel
theorem dL_law_668 : decode cL_law 668 = .ok (.iload_n 3, 1) := by decide +kernel
theorem dL_law_669 : decode cL_law 669 = .ok (.iconst 1, 1) := by decide +kernel
theorem dL_law_670 : decode cL_law 670 = .ok (.iadd, 1) := by decide +kernel
theorem dL_law_671 : decode cL_law 671 = .ok (.iaload, 1) := by decide +kernel
theorem dL_law_672 : decode cL_law 672 = .ok (.aload_n 0, 1) := by decide +kernel
theorem dL_law_673 : decode cL_law 673 = .ok (.iload_n 3, 1) := by decide +kernel
theorem dL_law_674 : decode cL_law 674 = .ok (.iconst 2, 1) := by decide +kernel
theorem dL_law_675 : decode cL_law 675 = .ok (.iadd, 1) := by decide +kernel
theorem dL_law_676 : decode cL_law 676 = .ok (.iaload, 1) := by decide +kernel
theorem dL_law_677 : decode cL_law 677 = .ok (.aload_n 0, 1) := by decide +kernel
theorem dL_law_678 : decode cL_law 678 = .ok (.iload_n 3, 1) := by decide +kernel
theorem dL_law_679 : decode cL_law 679 = .ok (.iconst 3, 1) := by decide +kernel
theorem dL_law_680 : decode cL_law 680 = .ok (.iadd, 1) := by decide +kernel
theorem dL_law_681 : decode cL_law 681 = .ok (.iaload, 1) := by decide +kernel
theorem dL_law_682 : decode cL_law 682 = .ok (.invokevirtual 71, 3) := by decide +kernel
theorem dL_law_685 : decode cL_law 685 = .ok (.if_icmp .eq 784, 3) := by decide +kernel
theorem dL_law_688 : decode cL_law 688 = .ok (.iconst 0, 1) := by decide +kernel
theorem dL_law_689 : decode cL_law 689 = .ok (.ireturn, 1) := by decide +kernel
theorem dL_law_690 : decode cL_law 690 = .ok (.aload_n 1, 1) := by decide +kernel
theorem dL_law_691 : decode cL_law 691 = .ok (.aload_n 0, 1) := by decide +kernel
theorem dL_law_692 : decode cL_law 692 = .ok (.iload_n 3, 1) := by decide +kernel
theorem dL_law_693 : decode cL_law 693 = .ok (.iconst 1, 1) := by decide +kernel
theorem dL_law_694 : decode cL_law 694 = .ok (.iadd, 1) := by decide +kernel
theorem dL_law_695 : decode cL_law 695 = .ok (.iaload, 1) := by decide +kernel
theorem dL_law_696 : decode cL_law 696 = .ok (.aload_n 0, 1) := by decide +kernel
theorem dL_law_697 : decode cL_law 697 = .ok (.iload_n 3, 1) := by decide +kernel
theorem dL_law_698 : decode cL_law 698 = .ok (.iconst 2, 1) := by decide +kernel
theorem dL_law_699 : decode cL_law 699 = .ok (.iadd, 1) := by decide +kernel
theorem dL_law_700 : decode cL_law 700 = .ok (.iaload, 1) := by decide +kernel
theorem dL_law_701 : decode cL_law 701 = .ok (.invokevirtual 72, 3) := by decide +kernel
theorem dL_law_704 : decode cL_law 704 = .ok (.aload_n 2, 1) := by decide +kernel
theorem dL_law_705 : decode cL_law 705 = .ok (.aload_n 0, 1) := by decide +kernel
theorem dL_law_706 : decode cL_law 706 = .ok (.iload_n 3, 1) := by decide +kernel
theorem dL_law_707 : decode cL_law 707 = .ok (.iconst 1, 1) := by decide +kernel
theorem dL_law_708 : decode cL_law 708 = .ok (.iadd, 1) := by decide +kernel
theorem dL_law_709 : decode cL_law 709 = .ok (.iaload, 1) := by decide +kernel
theorem dL_law_710 : decode cL_law 710 = .ok (.aload_n 0, 1) := by decide +kernel
theorem dL_law_711 : decode cL_law 711 = .ok (.iload_n 3, 1) := by decide +kernel
theorem dL_law_712 : decode cL_law 712 = .ok (.iconst 2, 1) := by decide +kernel
theorem dL_law_713 : decode cL_law 713 = .ok (.iadd, 1) := by decide +kernel
theorem dL_law_714 : decode cL_law 714 = .ok (.iaload, 1) := by decide +kernel
theorem dL_law_715 : decode cL_law 715 = .ok (.invokevirtual 75, 3) := by decide +kernel
theorem dL_law_718 : decode cL_law 718 = .ok (.if_icmp .eq 751, 3) := by decide +kernel
theorem dL_law_721 : decode cL_law 721 = .ok (.iconst 0, 1) := by decide +kernel
theorem dL_law_722 : decode cL_law 722 = .ok (.ireturn, 1) := by decide +kernel
theorem dL_law_723 : decode cL_law 723 = .ok (.aload_n 1, 1) := by decide +kernel
theorem dL_law_724 : decode cL_law 724 = .ok (.aload_n 0, 1) := by decide +kernel
theorem dL_law_725 : decode cL_law 725 = .ok (.iload_n 3, 1) := by decide +kernel
theorem dL_law_726 : decode cL_law 726 = .ok (.iconst 1, 1) := by decide +kernel
theorem dL_law_727 : decode cL_law 727 = .ok (.iadd, 1) := by decide +kernel
theorem dL_law_728 : decode cL_law 728 = .ok (.iaload, 1) := by decide +kernel
theorem dL_law_729 : decode cL_law 729 = .ok (.aload_n 0, 1) := by decide +kernel
theorem dL_law_730 : decode cL_law 730 = .ok (.iload_n 3, 1) := by decide +kernel
theorem dL_law_731 : decode cL_law 731 = .ok (.iconst 2, 1) := by decide +kernel
theorem dL_law_732 : decode cL_law 732 = .ok (.iadd, 1) := by decide +kernel
theorem dL_law_733 : decode cL_law 733 = .ok (.iaload, 1) := by decide +kernel
theorem dL_law_734 : decode cL_law 734 = .ok (.aload_n 0, 1) := by decide +kernel
theorem dL_law_735 : decode cL_law 735 = .ok (.iload_n 3, 1) := by decide +kernel
theorem dL_law_736 : decode cL_law 736 = .ok (.iconst 3, 1) := by decide +kernel
theorem dL_law_737 : decode cL_law 737 = .ok (.iadd, 1) := by decide +kernel
theorem dL_law_738 : decode cL_law 738 = .ok (.iaload, 1) := by decide +kernel
theorem dL_law_739 : decode cL_law 739 = .ok (.invokevirtual 76, 3) := by decide +kernel
theorem dL_law_742 : decode cL_law 742 = .ok (.aload_n 2, 1) := by decide +kernel
theorem dL_law_743 : decode cL_law 743 = .ok (.aload_n 0, 1) := by decide +kernel
theorem dL_law_744 : decode cL_law 744 = .ok (.iload_n 3, 1) := by decide +kernel
theorem dL_law_745 : decode cL_law 745 = .ok (.iconst 1, 1) := by decide +kernel
theorem dL_law_746 : decode cL_law 746 = .ok (.iadd, 1) := by decide +kernel
theorem dL_law_747 : decode cL_law 747 = .ok (.iaload, 1) := by decide +kernel
theorem dL_law_748 : decode cL_law 748 = .ok (.aload_n 0, 1) := by decide +kernel
theorem dL_law_749 : decode cL_law 749 = .ok (.iload_n 3, 1) := by decide +kernel
theorem dL_law_750 : decode cL_law 750 = .ok (.iconst 2, 1) := by decide +kernel
theorem dL_law_751 : decode cL_law 751 = .ok (.iadd, 1) := by decide +kernel
theorem dL_law_752 : decode cL_law 752 = .ok (.iaload, 1) := by decide +kernel
theorem dL_law_753 : decode cL_law 753 = .ok (.aload_n 0, 1) := by decide +kernel
theorem dL_law_754 : decode cL_law 754 = .ok (.iload_n 3, 1) := by decide +kernel
theorem dL_law_755 : decode cL_law 755 = .ok (.iconst 3, 1) := by decide +kernel
theorem dL_law_756 : decode cL_law 756 = .ok (.iadd, 1) := by decide +kernel
theorem dL_law_757 : decode cL_law 757 = .ok (.iaload, 1) := by decide +kernel
theorem dL_law_758 : decode cL_law 758 = .ok (.invokevirtual 79, 3) := by decide +kernel
theorem dL_law_761 : decode cL_law 761 = .ok (.if_icmp .eq 708, 3) := by decide +kernel
theorem dL_law_764 : decode cL_law 764 = .ok (.iconst 0, 1) := by decide +kernel
theorem dL_law_765 : decode cL_law 765 = .ok (.ireturn, 1) := by decide +kernel
theorem dL_law_766 : decode cL_law 766 = .ok (.aload_n 1, 1) := by decide +kernel
theorem dL_law_767 : decode cL_law 767 = .ok (.aload_n 0, 1) := by decide +kernel
theorem dL_law_768 : decode cL_law 768 = .ok (.iload_n 3, 1) := by decide +kernel
theorem dL_law_769 : decode cL_law 769 = .ok (.iconst 1, 1) := by decide +kernel
theorem dL_law_770 : decode cL_law 770 = .ok (.iadd, 1) := by decide +kernel
theorem dL_law_771 : decode cL_law 771 = .ok (.iaload, 1) := by decide +kernel
theorem dL_law_772 : decode cL_law 772 = .ok (.aload_n 0, 1) := by decide +kernel
theorem dL_law_773 : decode cL_law 773 = .ok (.iload_n 3, 1) := by decide +kernel
theorem dL_law_774 : decode cL_law 774 = .ok (.iconst 2, 1) := by decide +kernel
theorem dL_law_775 : decode cL_law 775 = .ok (.iadd, 1) := by decide +kernel
theorem dL_law_776 : decode cL_law 776 = .ok (.iaload, 1) := by decide +kernel
theorem dL_law_777 : decode cL_law 777 = .ok (.invokevirtual 80, 3) := by decide +kernel
theorem dL_law_780 : decode cL_law 780 = .ok (.aload_n 2, 1) := by decide +kernel
theorem dL_law_781 : decode cL_law 781 = .ok (.aload_n 0, 1) := by decide +kernel
theorem dL_law_782 : decode cL_law 782 = .ok (.iload_n 3, 1) := by decide +kernel
theorem dL_law_783 : decode cL_law 783 = .ok (.iconst 1, 1) := by decide +kernel
theorem dL_law_784 : decode cL_law 784 = .ok (.iadd, 1) := by decide +kernel
theorem dL_law_785 : decode cL_law 785 = .ok (.iaload, 1) := by decide +kernel
theorem dL_law_786 : decode cL_law 786 = .ok (.aload_n 0, 1) := by decide +kernel
theorem dL_law_787 : decode cL_law 787 = .ok (.iload_n 3, 1) := by decide +kernel
theorem dL_law_788 : decode cL_law 788 = .ok (.iconst 2, 1) := by decide +kernel
theorem dL_law_789 : decode cL_law 789 = .ok (.iadd, 1) := by decide +kernel
theorem dL_law_790 : decode cL_law 790 = .ok (.iaload, 1) := by decide +kernel
theorem dL_law_791 : decode cL_law 791 = .ok (.invokevirtual 83, 3) := by decide +kernel
theorem dL_law_794 : decode cL_law 794 = .ok (.if_icmp .eq 675, 3) := by decide +kernel
theorem dL_law_797 : decode cL_law 797 = .ok (.iconst 0, 1) := by decide +kernel
theorem dL_law_798 : decode cL_law 798 = .ok (.ireturn, 1) := by decide +kernel
theorem dL_law_799 : decode cL_law 799 = .ok (.aload_n 1, 1) := by decide +kernel
theorem dL_law_800 : decode cL_law 800 = .ok (.aload_n 0, 1) := by decide +kernel
theorem dL_law_801 : decode cL_law 801 = .ok (.iload_n 3, 1) := by decide +kernel
theorem dL_law_802 : decode cL_law 802 = .ok (.iconst 1, 1) := by decide +kernel
theorem dL_law_803 : decode cL_law 803 = .ok (.iadd, 1) := by decide +kernel
theorem dL_law_804 : decode cL_law 804 = .ok (.iaload, 1) := by decide +kernel
theorem dL_law_805 : decode cL_law 805 = .ok (.aload_n 0, 1) := by decide +kernel
theorem dL_law_806 : decode cL_law 806 = .ok (.iload_n 3, 1) := by decide +kernel
theorem dL_law_807 : decode cL_law 807 = .ok (.iconst 2, 1) := by decide +kernel
theorem dL_law_808 : decode cL_law 808 = .ok (.iadd, 1) := by decide +kernel
theorem dL_law_809 : decode cL_law 809 = .ok (.iaload, 1) := by decide +kernel
theorem dL_law_810 : decode cL_law 810 = .ok (.invokevirtual 84, 3) := by decide +kernel
theorem dL_law_813 : decode cL_law 813 = .ok (.aload_n 2, 1) := by decide +kernel
theorem dL_law_814 : decode cL_law 814 = .ok (.aload_n 0, 1) := by decide +kernel
theorem dL_law_815 : decode cL_law 815 = .ok (.iload_n 3, 1) := by decide +kernel
theorem dL_law_816 : decode cL_law 816 = .ok (.iconst 1, 1) := by decide +kernel
theorem dL_law_817 : decode cL_law 817 = .ok (.iadd, 1) := by decide +kernel
theorem dL_law_818 : decode cL_law 818 = .ok (.iaload, 1) := by decide +kernel
theorem dL_law_819 : decode cL_law 819 = .ok (.aload_n 0, 1) := by decide +kernel
theorem dL_law_820 : decode cL_law 820 = .ok (.iload_n 3, 1) := by decide +kernel
theorem dL_law_821 : decode cL_law 821 = .ok (.iconst 2, 1) := by decide +kernel
theorem dL_law_822 : decode cL_law 822 = .ok (.iadd, 1) := by decide +kernel
theorem dL_law_823 : decode cL_law 823 = .ok (.iaload, 1) := by decide +kernel
theorem dL_law_824 : decode cL_law 824 = .ok (.invokevirtual 87, 3) := by decide +kernel
theorem dL_law_827 : decode cL_law 827 = .ok (.if_icmp .eq 642, 3) := by decide +kernel
theorem dL_law_830 : decode cL_law 830 = .ok (.iconst 0, 1) := by decide +kernel
theorem dL_law_831 : decode cL_law 831 = .ok (.ireturn, 1) := by decide +kernel
theorem dL_law_832 : decode cL_law 832 = .ok (.aload_n 1, 1) := by decide +kernel
theorem dL_law_833 : decode cL_law 833 = .ok (.aload_n 0, 1) := by decide +kernel
theorem dL_law_834 : decode cL_law 834 = .ok (.iload_n 3, 1) := by decide +kernel
theorem dL_law_835 : decode cL_law 835 = .ok (.iconst 1, 1) := by decide +kernel
theorem dL_law_836 : decode cL_law 836 = .ok (.iadd, 1) := by decide +kernel
theorem dL_law_837 : decode cL_law 837 = .ok (.iaload, 1) := by decide +kernel
theorem dL_law_838 : decode cL_law 838 = .ok (.aload_n 0, 1) := by decide +kernel
theorem dL_law_839 : decode cL_law 839 = .ok (.iload_n 3, 1) := by decide +kernel
theorem dL_law_840 : decode cL_law 840 = .ok (.iconst 2, 1) := by decide +kernel
theorem dL_law_841 : decode cL_law 841 = .ok (.iadd, 1) := by decide +kernel
theorem dL_law_842 : decode cL_law 842 = .ok (.iaload, 1) := by decide +kernel
theorem dL_law_843 : decode cL_law 843 = .ok (.invokevirtual 88, 3) := by decide +kernel
theorem dL_law_846 : decode cL_law 846 = .ok (.aload_n 2, 1) := by decide +kernel
theorem dL_law_847 : decode cL_law 847 = .ok (.aload_n 0, 1) := by decide +kernel
theorem dL_law_848 : decode cL_law 848 = .ok (.iload_n 3, 1) := by decide +kernel
theorem dL_law_849 : decode cL_law 849 = .ok (.iconst 1, 1) := by decide +kernel
theorem dL_law_850 : decode cL_law 850 = .ok (.iadd, 1) := by decide +kernel
theorem dL_law_851 : decode cL_law 851 = .ok (.iaload, 1) := by decide +kernel
theorem dL_law_852 : decode cL_law 852 = .ok (.aload_n 0, 1) := by decide +kernel
theorem dL_law_853 : decode cL_law 853 = .ok (.iload_n 3, 1) := by decide +kernel
theorem dL_law_854 : decode cL_law 854 = .ok (.iconst 2, 1) := by decide +kernel
theorem dL_law_855 : decode cL_law 855 = .ok (.iadd, 1) := by decide +kernel
theorem dL_law_856 : decode cL_law 856 = .ok (.iaload, 1) := by decide +kernel
theorem dL_law_857 : decode cL_law 857 = .ok (.invokevirtual 91, 3) := by decide +kernel
theorem dL_law_860 : decode cL_law 860 = .ok (.if_icmp .eq 609, 3) := by decide +kernel
theorem dL_law_863 : decode cL_law 863 = .ok (.iconst 0, 1) := by decide +kernel
theorem dL_law_864 : decode cL_law 864 = .ok (.ireturn, 1) := by decide +kernel
theorem dL_law_865 : decode cL_law 865 = .ok (.aload_n 1, 1) := by decide +kernel
theorem dL_law_866 : decode cL_law 866 = .ok (.aload_n 0, 1) := by decide +kernel
theorem dL_law_867 : decode cL_law 867 = .ok (.iload_n 3, 1) := by decide +kernel
theorem dL_law_868 : decode cL_law 868 = .ok (.iconst 1, 1) := by decide +kernel
theorem dL_law_869 : decode cL_law 869 = .ok (.iadd, 1) := by decide +kernel
theorem dL_law_870 : decode cL_law 870 = .ok (.iaload, 1) := by decide +kernel
theorem dL_law_871 : decode cL_law 871 = .ok (.invokevirtual 92, 3) := by decide +kernel
theorem dL_law_874 : decode cL_law 874 = .ok (.aload_n 2, 1) := by decide +kernel
theorem dL_law_875 : decode cL_law 875 = .ok (.aload_n 0, 1) := by decide +kernel
theorem dL_law_876 : decode cL_law 876 = .ok (.iload_n 3, 1) := by decide +kernel
theorem dL_law_877 : decode cL_law 877 = .ok (.iconst 1, 1) := by decide +kernel
theorem dL_law_878 : decode cL_law 878 = .ok (.iadd, 1) := by decide +kernel
theorem dL_law_879 : decode cL_law 879 = .ok (.iaload, 1) := by decide +kernel
theorem dL_law_880 : decode cL_law 880 = .ok (.invokevirtual 95, 3) := by decide +kernel
theorem dL_law_883 : decode cL_law 883 = .ok (.if_icmp .eq 586, 3) := by decide +kernel
theorem dL_law_886 : decode cL_law 886 = .ok (.iconst 0, 1) := by decide +kernel
theorem dL_law_887 : decode cL_law 887 = .ok (.ireturn, 1) := by decide +kernel
theorem dL_law_888 : decode cL_law 888 = .ok (.aload_n 1, 1) := by decide +kernel
theorem dL_law_889 : decode cL_law 889 = .ok (.aload_n 0, 1) := by decide +kernel
theorem dL_law_890 : decode cL_law 890 = .ok (.iload_n 3, 1) := by decide +kernel
theorem dL_law_891 : decode cL_law 891 = .ok (.iconst 1, 1) := by decide +kernel
theorem dL_law_892 : decode cL_law 892 = .ok (.iadd, 1) := by decide +kernel
theorem dL_law_893 : decode cL_law 893 = .ok (.iaload, 1) := by decide +kernel
theorem dL_law_894 : decode cL_law 894 = .ok (.aload_n 0, 1) := by decide +kernel
theorem dL_law_895 : decode cL_law 895 = .ok (.iload_n 3, 1) := by decide +kernel
theorem dL_law_896 : decode cL_law 896 = .ok (.iconst 2, 1) := by decide +kernel
theorem dL_law_897 : decode cL_law 897 = .ok (.iadd, 1) := by decide +kernel
theorem dL_law_898 : decode cL_law 898 = .ok (.iaload, 1) := by decide +kernel
theorem dL_law_899 : decode cL_law 899 = .ok (.aload_n 0, 1) := by decide +kernel
theorem dL_law_900 : decode cL_law 900 = .ok (.iload_n 3, 1) := by decide +kernel
theorem dL_law_901 : decode cL_law 901 = .ok (.iconst 3, 1) := by decide +kernel
theorem dL_law_902 : decode cL_law 902 = .ok (.iadd, 1) := by decide +kernel
theorem dL_law_903 : decode cL_law 903 = .ok (.iaload, 1) := by decide +kernel
theorem dL_law_904 : decode cL_law 904 = .ok (.invokevirtual 96, 3) := by decide +kernel
theorem dL_law_907 : decode cL_law 907 = .ok (.aload_n 2, 1) := by decide +kernel
theorem dL_law_908 : decode cL_law 908 = .ok (.aload_n 0, 1) := by decide +kernel
theorem dL_law_909 : decode cL_law 909 = .ok (.iload_n 3, 1) := by decide +kernel
theorem dL_law_910 : decode cL_law 910 = .ok (.iconst 1, 1) := by decide +kernel
theorem dL_law_911 : decode cL_law 911 = .ok (.iadd, 1) := by decide +kernel
theorem dL_law_912 : decode cL_law 912 = .ok (.iaload, 1) := by decide +kernel
theorem dL_law_913 : decode cL_law 913 = .ok (.aload_n 0, 1) := by decide +kernel
theorem dL_law_914 : decode cL_law 914 = .ok (.iload_n 3, 1) := by decide +kernel
theorem dL_law_915 : decode cL_law 915 = .ok (.iconst 2, 1) := by decide +kernel
theorem dL_law_916 : decode cL_law 916 = .ok (.iadd, 1) := by decide +kernel
theorem dL_law_917 : decode cL_law 917 = .ok (.iaload, 1) := by decide +kernel
theorem dL_law_918 : decode cL_law 918 = .ok (.aload_n 0, 1) := by decide +kernel
theorem dL_law_919 : decode cL_law 919 = .ok (.iload_n 3, 1) := by decide +kernel
theorem dL_law_920 : decode cL_law 920 = .ok (.iconst 3, 1) := by decide +kernel
theorem dL_law_921 : decode cL_law 921 = .ok (.iadd, 1) := by decide +kernel
theorem dL_law_922 : decode cL_law 922 = .ok (.iaload, 1) := by decide +kernel
theorem dL_law_923 : decode cL_law 923 = .ok (.invokevirtual 99, 3) := by decide +kernel
theorem dL_law_926 : decode cL_law 926 = .ok (.if_icmp .eq 543, 3) := by decide +kernel
theorem dL_law_929 : decode cL_law 929 = .ok (.iconst 0, 1) := by decide +kernel
theorem dL_law_930 : decode cL_law 930 = .ok (.ireturn, 1) := by decide +kernel
theorem dL_law_931 : decode cL_law 931 = .ok (.aload_n 1, 1) := by decide +kernel
theorem dL_law_932 : decode cL_law 932 = .ok (.aload_n 0, 1) := by decide +kernel
theorem dL_law_933 : decode cL_law 933 = .ok (.iload_n 3, 1) := by decide +kernel
theorem dL_law_934 : decode cL_law 934 = .ok (.iconst 1, 1) := by decide +kernel
theorem dL_law_935 : decode cL_law 935 = .ok (.iadd, 1) := by decide +kernel
theorem dL_law_936 : decode cL_law 936 = .ok (.iaload, 1) := by decide +kernel
theorem dL_law_937 : decode cL_law 937 = .ok (.aload_n 0, 1) := by decide +kernel
theorem dL_law_938 : decode cL_law 938 = .ok (.iload_n 3, 1) := by decide +kernel
theorem dL_law_939 : decode cL_law 939 = .ok (.iconst 2, 1) := by decide +kernel
theorem dL_law_940 : decode cL_law 940 = .ok (.iadd, 1) := by decide +kernel
theorem dL_law_941 : decode cL_law 941 = .ok (.iaload, 1) := by decide +kernel
theorem dL_law_942 : decode cL_law 942 = .ok (.invokevirtual 100, 3) := by decide +kernel
theorem dL_law_945 : decode cL_law 945 = .ok (.aload_n 2, 1) := by decide +kernel
theorem dL_law_946 : decode cL_law 946 = .ok (.aload_n 0, 1) := by decide +kernel
theorem dL_law_947 : decode cL_law 947 = .ok (.iload_n 3, 1) := by decide +kernel
theorem dL_law_948 : decode cL_law 948 = .ok (.iconst 1, 1) := by decide +kernel
theorem dL_law_949 : decode cL_law 949 = .ok (.iadd, 1) := by decide +kernel
theorem dL_law_950 : decode cL_law 950 = .ok (.iaload, 1) := by decide +kernel
theorem dL_law_951 : decode cL_law 951 = .ok (.aload_n 0, 1) := by decide +kernel
theorem dL_law_952 : decode cL_law 952 = .ok (.iload_n 3, 1) := by decide +kernel
theorem dL_law_953 : decode cL_law 953 = .ok (.iconst 2, 1) := by decide +kernel
theorem dL_law_954 : decode cL_law 954 = .ok (.iadd, 1) := by decide +kernel
theorem dL_law_955 : decode cL_law 955 = .ok (.iaload, 1) := by decide +kernel
theorem dL_law_956 : decode cL_law 956 = .ok (.invokevirtual 103, 3) := by decide +kernel
theorem dL_law_959 : decode cL_law 959 = .ok (.if_icmp .eq 510, 3) := by decide +kernel
theorem dL_law_962 : decode cL_law 962 = .ok (.iconst 0, 1) := by decide +kernel
theorem dL_law_963 : decode cL_law 963 = .ok (.ireturn, 1) := by decide +kernel
theorem dL_law_964 : decode cL_law 964 = .ok (.aload_n 1, 1) := by decide +kernel
theorem dL_law_965 : decode cL_law 965 = .ok (.aload_n 0, 1) := by decide +kernel
theorem dL_law_966 : decode cL_law 966 = .ok (.iload_n 3, 1) := by decide +kernel
theorem dL_law_967 : decode cL_law 967 = .ok (.iconst 1, 1) := by decide +kernel
theorem dL_law_968 : decode cL_law 968 = .ok (.iadd, 1) := by decide +kernel
theorem dL_law_969 : decode cL_law 969 = .ok (.iaload, 1) := by decide +kernel
theorem dL_law_970 : decode cL_law 970 = .ok (.invokevirtual 104, 3) := by decide +kernel
theorem dL_law_973 : decode cL_law 973 = .ok (.aload_n 2, 1) := by decide +kernel
theorem dL_law_974 : decode cL_law 974 = .ok (.aload_n 0, 1) := by decide +kernel
theorem dL_law_975 : decode cL_law 975 = .ok (.iload_n 3, 1) := by decide +kernel
theorem dL_law_976 : decode cL_law 976 = .ok (.iconst 1, 1) := by decide +kernel
theorem dL_law_977 : decode cL_law 977 = .ok (.iadd, 1) := by decide +kernel
theorem dL_law_978 : decode cL_law 978 = .ok (.iaload, 1) := by decide +kernel
theorem dL_law_979 : decode cL_law 979 = .ok (.invokevirtual 107, 3) := by decide +kernel
theorem dL_law_982 : decode cL_law 982 = .ok (.if_icmp .eq 487, 3) := by decide +kernel
theorem dL_law_985 : decode cL_law 985 = .ok (.iconst 0, 1) := by decide +kernel
theorem dL_law_986 : decode cL_law 986 = .ok (.ireturn, 1) := by decide +kernel
theorem dL_law_987 : decode cL_law 987 = .ok (.aload_n 1, 1) := by decide +kernel
theorem dL_law_988 : decode cL_law 988 = .ok (.aload_n 0, 1) := by decide +kernel
theorem dL_law_989 : decode cL_law 989 = .ok (.iload_n 3, 1) := by decide +kernel
theorem dL_law_990 : decode cL_law 990 = .ok (.iconst 1, 1) := by decide +kernel
theorem dL_law_991 : decode cL_law 991 = .ok (.iadd, 1) := by decide +kernel
theorem dL_law_992 : decode cL_law 992 = .ok (.iaload, 1) := by decide +kernel
theorem dL_law_993 : decode cL_law 993 = .ok (.aload_n 0, 1) := by decide +kernel
theorem dL_law_994 : decode cL_law 994 = .ok (.iload_n 3, 1) := by decide +kernel
theorem dL_law_995 : decode cL_law 995 = .ok (.iconst 2, 1) := by decide +kernel
theorem dL_law_996 : decode cL_law 996 = .ok (.iadd, 1) := by decide +kernel
theorem dL_law_997 : decode cL_law 997 = .ok (.iaload, 1) := by decide +kernel
theorem dL_law_998 : decode cL_law 998 = .ok (.aload_n 0, 1) := by decide +kernel
theorem dL_law_999 : decode cL_law 999 = .ok (.iload_n 3, 1) := by decide +kernel
theorem dL_law_1000 : decode cL_law 1000 = .ok (.iconst 3, 1) := by decide +kernel
theorem dL_law_1001 : decode cL_law 1001 = .ok (.iadd, 1) := by decide +kernel
theorem dL_law_1002 : decode cL_law 1002 = .ok (.iaload, 1) := by decide +kernel
theorem dL_law_1003 : decode cL_law 1003 = .ok (.aload_n 0, 1) := by decide +kernel
theorem dL_law_1004 : decode cL_law 1004 = .ok (.iload_n 3, 1) := by decide +kernel
theorem dL_law_1005 : decode cL_law 1005 = .ok (.iconst 4, 1) := by decide +kernel
theorem dL_law_1006 : decode cL_law 1006 = .ok (.iadd, 1) := by decide +kernel
theorem dL_law_1007 : decode cL_law 1007 = .ok (.iaload, 1) := by decide +kernel
theorem dL_law_1008 : decode cL_law 1008 = .ok (.invokevirtual 108, 3) := by decide +kernel
theorem dL_law_1011 : decode cL_law 1011 = .ok (.aload_n 2, 1) := by decide +kernel
theorem dL_law_1012 : decode cL_law 1012 = .ok (.aload_n 0, 1) := by decide +kernel
theorem dL_law_1013 : decode cL_law 1013 = .ok (.iload_n 3, 1) := by decide +kernel
theorem dL_law_1014 : decode cL_law 1014 = .ok (.iconst 1, 1) := by decide +kernel
theorem dL_law_1015 : decode cL_law 1015 = .ok (.iadd, 1) := by decide +kernel
theorem dL_law_1016 : decode cL_law 1016 = .ok (.iaload, 1) := by decide +kernel
theorem dL_law_1017 : decode cL_law 1017 = .ok (.aload_n 0, 1) := by decide +kernel
theorem dL_law_1018 : decode cL_law 1018 = .ok (.iload_n 3, 1) := by decide +kernel
theorem dL_law_1019 : decode cL_law 1019 = .ok (.iconst 2, 1) := by decide +kernel
theorem dL_law_1020 : decode cL_law 1020 = .ok (.iadd, 1) := by decide +kernel
theorem dL_law_1021 : decode cL_law 1021 = .ok (.iaload, 1) := by decide +kernel
theorem dL_law_1022 : decode cL_law 1022 = .ok (.aload_n 0, 1) := by decide +kernel
theorem dL_law_1023 : decode cL_law 1023 = .ok (.iload_n 3, 1) := by decide +kernel
theorem dL_law_1024 : decode cL_law 1024 = .ok (.iconst 3, 1) := by decide +kernel
theorem dL_law_1025 : decode cL_law 1025 = .ok (.iadd, 1) := by decide +kernel
theorem dL_law_1026 : decode cL_law 1026 = .ok (.iaload, 1) := by decide +kernel
theorem dL_law_1027 : decode cL_law 1027 = .ok (.aload_n 0, 1) := by decide +kernel
theorem dL_law_1028 : decode cL_law 1028 = .ok (.iload_n 3, 1) := by decide +kernel
theorem dL_law_1029 : decode cL_law 1029 = .ok (.iconst 4, 1) := by decide +kernel
theorem dL_law_1030 : decode cL_law 1030 = .ok (.iadd, 1) := by decide +kernel
theorem dL_law_1031 : decode cL_law 1031 = .ok (.iaload, 1) := by decide +kernel
theorem dL_law_1032 : decode cL_law 1032 = .ok (.invokevirtual 112, 3) := by decide +kernel
theorem dL_law_1035 : decode cL_law 1035 = .ok (.lcmp, 1) := by decide +kernel
theorem dL_law_1036 : decode cL_law 1036 = .ok (.ifCond .eq 433, 3) := by decide +kernel
theorem dL_law_1039 : decode cL_law 1039 = .ok (.iconst 0, 1) := by decide +kernel
theorem dL_law_1040 : decode cL_law 1040 = .ok (.ireturn, 1) := by decide +kernel
theorem dL_law_1041 : decode cL_law 1041 = .ok (.aload_n 1, 1) := by decide +kernel
theorem dL_law_1042 : decode cL_law 1042 = .ok (.aload_n 0, 1) := by decide +kernel
theorem dL_law_1043 : decode cL_law 1043 = .ok (.iload_n 3, 1) := by decide +kernel
theorem dL_law_1044 : decode cL_law 1044 = .ok (.iconst 1, 1) := by decide +kernel
theorem dL_law_1045 : decode cL_law 1045 = .ok (.iadd, 1) := by decide +kernel
theorem dL_law_1046 : decode cL_law 1046 = .ok (.iaload, 1) := by decide +kernel
theorem dL_law_1047 : decode cL_law 1047 = .ok (.invokevirtual 113, 3) := by decide +kernel
theorem dL_law_1050 : decode cL_law 1050 = .ok (.aload_n 2, 1) := by decide +kernel
theorem dL_law_1051 : decode cL_law 1051 = .ok (.aload_n 0, 1) := by decide +kernel
theorem dL_law_1052 : decode cL_law 1052 = .ok (.iload_n 3, 1) := by decide +kernel
theorem dL_law_1053 : decode cL_law 1053 = .ok (.iconst 1, 1) := by decide +kernel
theorem dL_law_1054 : decode cL_law 1054 = .ok (.iadd, 1) := by decide +kernel
theorem dL_law_1055 : decode cL_law 1055 = .ok (.iaload, 1) := by decide +kernel
theorem dL_law_1056 : decode cL_law 1056 = .ok (.invokevirtual 116, 3) := by decide +kernel
theorem dL_law_1059 : decode cL_law 1059 = .ok (.if_icmp .eq 410, 3) := by decide +kernel
theorem dL_law_1062 : decode cL_law 1062 = .ok (.iconst 0, 1) := by decide +kernel
theorem dL_law_1063 : decode cL_law 1063 = .ok (.ireturn, 1) := by decide +kernel
theorem dL_law_1064 : decode cL_law 1064 = .ok (.aload_n 1, 1) := by decide +kernel
theorem dL_law_1065 : decode cL_law 1065 = .ok (.aload_n 0, 1) := by decide +kernel
theorem dL_law_1066 : decode cL_law 1066 = .ok (.iload_n 3, 1) := by decide +kernel
theorem dL_law_1067 : decode cL_law 1067 = .ok (.iconst 1, 1) := by decide +kernel
theorem dL_law_1068 : decode cL_law 1068 = .ok (.iadd, 1) := by decide +kernel
theorem dL_law_1069 : decode cL_law 1069 = .ok (.iaload, 1) := by decide +kernel
theorem dL_law_1070 : decode cL_law 1070 = .ok (.aload_n 0, 1) := by decide +kernel
theorem dL_law_1071 : decode cL_law 1071 = .ok (.iload_n 3, 1) := by decide +kernel
theorem dL_law_1072 : decode cL_law 1072 = .ok (.iconst 2, 1) := by decide +kernel
theorem dL_law_1073 : decode cL_law 1073 = .ok (.iadd, 1) := by decide +kernel
theorem dL_law_1074 : decode cL_law 1074 = .ok (.iaload, 1) := by decide +kernel
theorem dL_law_1075 : decode cL_law 1075 = .ok (.invokevirtual 117, 3) := by decide +kernel
theorem dL_law_1078 : decode cL_law 1078 = .ok (.aload_n 2, 1) := by decide +kernel
theorem dL_law_1079 : decode cL_law 1079 = .ok (.aload_n 0, 1) := by decide +kernel
theorem dL_law_1080 : decode cL_law 1080 = .ok (.iload_n 3, 1) := by decide +kernel
theorem dL_law_1081 : decode cL_law 1081 = .ok (.iconst 1, 1) := by decide +kernel
theorem dL_law_1082 : decode cL_law 1082 = .ok (.iadd, 1) := by decide +kernel
theorem dL_law_1083 : decode cL_law 1083 = .ok (.iaload, 1) := by decide +kernel
theorem dL_law_1084 : decode cL_law 1084 = .ok (.aload_n 0, 1) := by decide +kernel
theorem dL_law_1085 : decode cL_law 1085 = .ok (.iload_n 3, 1) := by decide +kernel
theorem dL_law_1086 : decode cL_law 1086 = .ok (.iconst 2, 1) := by decide +kernel
theorem dL_law_1087 : decode cL_law 1087 = .ok (.iadd, 1) := by decide +kernel
theorem dL_law_1088 : decode cL_law 1088 = .ok (.iaload, 1) := by decide +kernel
theorem dL_law_1089 : decode cL_law 1089 = .ok (.invokevirtual 120, 3) := by decide +kernel
theorem dL_law_1092 : decode cL_law 1092 = .ok (.if_icmp .eq 377, 3) := by decide +kernel
theorem dL_law_1095 : decode cL_law 1095 = .ok (.iconst 0, 1) := by decide +kernel
theorem dL_law_1096 : decode cL_law 1096 = .ok (.ireturn, 1) := by decide +kernel
theorem dL_law_1097 : decode cL_law 1097 = .ok (.aload_n 1, 1) := by decide +kernel
theorem dL_law_1098 : decode cL_law 1098 = .ok (.invokevirtual 121, 3) := by decide +kernel
theorem dL_law_1101 : decode cL_law 1101 = .ok (.aload_n 2, 1) := by decide +kernel
theorem dL_law_1102 : decode cL_law 1102 = .ok (.invokevirtual 125, 3) := by decide +kernel
theorem dL_law_1105 : decode cL_law 1105 = .ok (.if_icmp .eq 364, 3) := by decide +kernel
theorem dL_law_1108 : decode cL_law 1108 = .ok (.iconst 0, 1) := by decide +kernel
theorem dL_law_1109 : decode cL_law 1109 = .ok (.ireturn, 1) := by decide +kernel
theorem dL_law_1110 : decode cL_law 1110 = .ok (.aload_n 1, 1) := by decide +kernel
theorem dL_law_1111 : decode cL_law 1111 = .ok (.invokevirtual 126, 3) := by decide +kernel
theorem dL_law_1114 : decode cL_law 1114 = .ok (.aload_n 2, 1) := by decide +kernel
theorem dL_law_1115 : decode cL_law 1115 = .ok (.invokevirtual 129, 3) := by decide +kernel
theorem dL_law_1118 : decode cL_law 1118 = .ok (.if_icmp .eq 351, 3) := by decide +kernel
theorem dL_law_1121 : decode cL_law 1121 = .ok (.iconst 0, 1) := by decide +kernel
theorem dL_law_1122 : decode cL_law 1122 = .ok (.ireturn, 1) := by decide +kernel
theorem dL_law_1123 : decode cL_law 1123 = .ok (.aload_n 1, 1) := by decide +kernel
theorem dL_law_1124 : decode cL_law 1124 = .ok (.aload_n 0, 1) := by decide +kernel
theorem dL_law_1125 : decode cL_law 1125 = .ok (.iload_n 3, 1) := by decide +kernel
theorem dL_law_1126 : decode cL_law 1126 = .ok (.iconst 1, 1) := by decide +kernel
theorem dL_law_1127 : decode cL_law 1127 = .ok (.iadd, 1) := by decide +kernel
theorem dL_law_1128 : decode cL_law 1128 = .ok (.iaload, 1) := by decide +kernel
theorem dL_law_1129 : decode cL_law 1129 = .ok (.aload_n 0, 1) := by decide +kernel
theorem dL_law_1130 : decode cL_law 1130 = .ok (.iload_n 3, 1) := by decide +kernel
theorem dL_law_1131 : decode cL_law 1131 = .ok (.iconst 2, 1) := by decide +kernel
theorem dL_law_1132 : decode cL_law 1132 = .ok (.iadd, 1) := by decide +kernel
theorem dL_law_1133 : decode cL_law 1133 = .ok (.iaload, 1) := by decide +kernel
theorem dL_law_1134 : decode cL_law 1134 = .ok (.invokevirtual 130, 3) := by decide +kernel
theorem dL_law_1137 : decode cL_law 1137 = .ok (.aload_n 2, 1) := by decide +kernel
theorem dL_law_1138 : decode cL_law 1138 = .ok (.aload_n 0, 1) := by decide +kernel
theorem dL_law_1139 : decode cL_law 1139 = .ok (.iload_n 3, 1) := by decide +kernel
theorem dL_law_1140 : decode cL_law 1140 = .ok (.iconst 1, 1) := by decide +kernel
theorem dL_law_1141 : decode cL_law 1141 = .ok (.iadd, 1) := by decide +kernel
theorem dL_law_1142 : decode cL_law 1142 = .ok (.iaload, 1) := by decide +kernel
theorem dL_law_1143 : decode cL_law 1143 = .ok (.aload_n 0, 1) := by decide +kernel
theorem dL_law_1144 : decode cL_law 1144 = .ok (.iload_n 3, 1) := by decide +kernel
theorem dL_law_1145 : decode cL_law 1145 = .ok (.iconst 2, 1) := by decide +kernel
theorem dL_law_1146 : decode cL_law 1146 = .ok (.iadd, 1) := by decide +kernel
theorem dL_law_1147 : decode cL_law 1147 = .ok (.iaload, 1) := by decide +kernel
theorem dL_law_1148 : decode cL_law 1148 = .ok (.invokevirtual 133, 3) := by decide +kernel
theorem dL_law_1151 : decode cL_law 1151 = .ok (.if_icmp .eq 318, 3) := by decide +kernel
theorem dL_law_1154 : decode cL_law 1154 = .ok (.iconst 0, 1) := by decide +kernel
theorem dL_law_1155 : decode cL_law 1155 = .ok (.ireturn, 1) := by decide +kernel
theorem dL_law_1156 : decode cL_law 1156 = .ok (.aload_n 1, 1) := by decide +kernel
theorem dL_law_1157 : decode cL_law 1157 = .ok (.aload_n 0, 1) := by decide +kernel
theorem dL_law_1158 : decode cL_law 1158 = .ok (.iload_n 3, 1) := by decide +kernel
theorem dL_law_1159 : decode cL_law 1159 = .ok (.iconst 1, 1) := by decide +kernel
theorem dL_law_1160 : decode cL_law 1160 = .ok (.iadd, 1) := by decide +kernel
theorem dL_law_1161 : decode cL_law 1161 = .ok (.iaload, 1) := by decide +kernel
theorem dL_law_1162 : decode cL_law 1162 = .ok (.aload_n 0, 1) := by decide +kernel
theorem dL_law_1163 : decode cL_law 1163 = .ok (.iload_n 3, 1) := by decide +kernel
theorem dL_law_1164 : decode cL_law 1164 = .ok (.iconst 2, 1) := by decide +kernel
theorem dL_law_1165 : decode cL_law 1165 = .ok (.iadd, 1) := by decide +kernel
theorem dL_law_1166 : decode cL_law 1166 = .ok (.iaload, 1) := by decide +kernel
theorem dL_law_1167 : decode cL_law 1167 = .ok (.invokevirtual 134, 3) := by decide +kernel
theorem dL_law_1170 : decode cL_law 1170 = .ok (.aload_n 2, 1) := by decide +kernel
theorem dL_law_1171 : decode cL_law 1171 = .ok (.aload_n 0, 1) := by decide +kernel
theorem dL_law_1172 : decode cL_law 1172 = .ok (.iload_n 3, 1) := by decide +kernel
theorem dL_law_1173 : decode cL_law 1173 = .ok (.iconst 1, 1) := by decide +kernel
theorem dL_law_1174 : decode cL_law 1174 = .ok (.iadd, 1) := by decide +kernel
theorem dL_law_1175 : decode cL_law 1175 = .ok (.iaload, 1) := by decide +kernel
theorem dL_law_1176 : decode cL_law 1176 = .ok (.aload_n 0, 1) := by decide +kernel
theorem dL_law_1177 : decode cL_law 1177 = .ok (.iload_n 3, 1) := by decide +kernel
theorem dL_law_1178 : decode cL_law 1178 = .ok (.iconst 2, 1) := by decide +kernel
theorem dL_law_1179 : decode cL_law 1179 = .ok (.iadd, 1) := by decide +kernel
theorem dL_law_1180 : decode cL_law 1180 = .ok (.iaload, 1) := by decide +kernel
theorem dL_law_1181 : decode cL_law 1181 = .ok (.invokevirtual 137, 3) := by decide +kernel
theorem dL_law_1184 : decode cL_law 1184 = .ok (.if_icmp .eq 285, 3) := by decide +kernel
theorem dL_law_1187 : decode cL_law 1187 = .ok (.iconst 0, 1) := by decide +kernel
theorem dL_law_1188 : decode cL_law 1188 = .ok (.ireturn, 1) := by decide +kernel
theorem dL_law_1189 : decode cL_law 1189 = .ok (.aload_n 1, 1) := by decide +kernel
theorem dL_law_1190 : decode cL_law 1190 = .ok (.aload_n 0, 1) := by decide +kernel
theorem dL_law_1191 : decode cL_law 1191 = .ok (.iload_n 3, 1) := by decide +kernel
theorem dL_law_1192 : decode cL_law 1192 = .ok (.iconst 1, 1) := by decide +kernel
theorem dL_law_1193 : decode cL_law 1193 = .ok (.iadd, 1) := by decide +kernel
theorem dL_law_1194 : decode cL_law 1194 = .ok (.iaload, 1) := by decide +kernel
theorem dL_law_1195 : decode cL_law 1195 = .ok (.aload_n 0, 1) := by decide +kernel
theorem dL_law_1196 : decode cL_law 1196 = .ok (.iload_n 3, 1) := by decide +kernel
theorem dL_law_1197 : decode cL_law 1197 = .ok (.iconst 2, 1) := by decide +kernel
theorem dL_law_1198 : decode cL_law 1198 = .ok (.iadd, 1) := by decide +kernel
theorem dL_law_1199 : decode cL_law 1199 = .ok (.iaload, 1) := by decide +kernel
theorem dL_law_1200 : decode cL_law 1200 = .ok (.aload_n 0, 1) := by decide +kernel
theorem dL_law_1201 : decode cL_law 1201 = .ok (.iload_n 3, 1) := by decide +kernel
theorem dL_law_1202 : decode cL_law 1202 = .ok (.iconst 3, 1) := by decide +kernel
theorem dL_law_1203 : decode cL_law 1203 = .ok (.iadd, 1) := by decide +kernel
theorem dL_law_1204 : decode cL_law 1204 = .ok (.iaload, 1) := by decide +kernel
theorem dL_law_1205 : decode cL_law 1205 = .ok (.invokevirtual 138, 3) := by decide +kernel
theorem dL_law_1208 : decode cL_law 1208 = .ok (.aload_n 2, 1) := by decide +kernel
theorem dL_law_1209 : decode cL_law 1209 = .ok (.aload_n 0, 1) := by decide +kernel
theorem dL_law_1210 : decode cL_law 1210 = .ok (.iload_n 3, 1) := by decide +kernel
theorem dL_law_1211 : decode cL_law 1211 = .ok (.iconst 1, 1) := by decide +kernel
theorem dL_law_1212 : decode cL_law 1212 = .ok (.iadd, 1) := by decide +kernel
theorem dL_law_1213 : decode cL_law 1213 = .ok (.iaload, 1) := by decide +kernel
theorem dL_law_1214 : decode cL_law 1214 = .ok (.aload_n 0, 1) := by decide +kernel
theorem dL_law_1215 : decode cL_law 1215 = .ok (.iload_n 3, 1) := by decide +kernel
theorem dL_law_1216 : decode cL_law 1216 = .ok (.iconst 2, 1) := by decide +kernel
theorem dL_law_1217 : decode cL_law 1217 = .ok (.iadd, 1) := by decide +kernel
theorem dL_law_1218 : decode cL_law 1218 = .ok (.iaload, 1) := by decide +kernel
theorem dL_law_1219 : decode cL_law 1219 = .ok (.aload_n 0, 1) := by decide +kernel
theorem dL_law_1220 : decode cL_law 1220 = .ok (.iload_n 3, 1) := by decide +kernel
theorem dL_law_1221 : decode cL_law 1221 = .ok (.iconst 3, 1) := by decide +kernel
theorem dL_law_1222 : decode cL_law 1222 = .ok (.iadd, 1) := by decide +kernel
theorem dL_law_1223 : decode cL_law 1223 = .ok (.iaload, 1) := by decide +kernel
theorem dL_law_1224 : decode cL_law 1224 = .ok (.invokevirtual 141, 3) := by decide +kernel
theorem dL_law_1227 : decode cL_law 1227 = .ok (.if_icmp .eq 242, 3) := by decide +kernel
theorem dL_law_1230 : decode cL_law 1230 = .ok (.iconst 0, 1) := by decide +kernel
theorem dL_law_1231 : decode cL_law 1231 = .ok (.ireturn, 1) := by decide +kernel
theorem dL_law_1232 : decode cL_law 1232 = .ok (.aload_n 1, 1) := by decide +kernel
theorem dL_law_1233 : decode cL_law 1233 = .ok (.aload_n 0, 1) := by decide +kernel
theorem dL_law_1234 : decode cL_law 1234 = .ok (.iload_n 3, 1) := by decide +kernel
theorem dL_law_1235 : decode cL_law 1235 = .ok (.iconst 1, 1) := by decide +kernel
theorem dL_law_1236 : decode cL_law 1236 = .ok (.iadd, 1) := by decide +kernel
theorem dL_law_1237 : decode cL_law 1237 = .ok (.iaload, 1) := by decide +kernel
theorem dL_law_1238 : decode cL_law 1238 = .ok (.aload_n 0, 1) := by decide +kernel
theorem dL_law_1239 : decode cL_law 1239 = .ok (.iload_n 3, 1) := by decide +kernel
theorem dL_law_1240 : decode cL_law 1240 = .ok (.iconst 2, 1) := by decide +kernel
theorem dL_law_1241 : decode cL_law 1241 = .ok (.iadd, 1) := by decide +kernel
theorem dL_law_1242 : decode cL_law 1242 = .ok (.iaload, 1) := by decide +kernel
theorem dL_law_1243 : decode cL_law 1243 = .ok (.aload_n 0, 1) := by decide +kernel
theorem dL_law_1244 : decode cL_law 1244 = .ok (.iload_n 3, 1) := by decide +kernel
theorem dL_law_1245 : decode cL_law 1245 = .ok (.iconst 3, 1) := by decide +kernel
theorem dL_law_1246 : decode cL_law 1246 = .ok (.iadd, 1) := by decide +kernel
theorem dL_law_1247 : decode cL_law 1247 = .ok (.iaload, 1) := by decide +kernel
theorem dL_law_1248 : decode cL_law 1248 = .ok (.invokevirtual 142, 3) := by decide +kernel
theorem dL_law_1251 : decode cL_law 1251 = .ok (.aload_n 2, 1) := by decide +kernel
theorem dL_law_1252 : decode cL_law 1252 = .ok (.aload_n 0, 1) := by decide +kernel
theorem dL_law_1253 : decode cL_law 1253 = .ok (.iload_n 3, 1) := by decide +kernel
theorem dL_law_1254 : decode cL_law 1254 = .ok (.iconst 1, 1) := by decide +kernel
theorem dL_law_1255 : decode cL_law 1255 = .ok (.iadd, 1) := by decide +kernel
theorem dL_law_1256 : decode cL_law 1256 = .ok (.iaload, 1) := by decide +kernel
theorem dL_law_1257 : decode cL_law 1257 = .ok (.aload_n 0, 1) := by decide +kernel
theorem dL_law_1258 : decode cL_law 1258 = .ok (.iload_n 3, 1) := by decide +kernel
theorem dL_law_1259 : decode cL_law 1259 = .ok (.iconst 2, 1) := by decide +kernel
theorem dL_law_1260 : decode cL_law 1260 = .ok (.iadd, 1) := by decide +kernel
theorem dL_law_1261 : decode cL_law 1261 = .ok (.iaload, 1) := by decide +kernel
theorem dL_law_1262 : decode cL_law 1262 = .ok (.aload_n 0, 1) := by decide +kernel
theorem dL_law_1263 : decode cL_law 1263 = .ok (.iload_n 3, 1) := by decide +kernel
theorem dL_law_1264 : decode cL_law 1264 = .ok (.iconst 3, 1) := by decide +kernel
theorem dL_law_1265 : decode cL_law 1265 = .ok (.iadd, 1) := by decide +kernel
theorem dL_law_1266 : decode cL_law 1266 = .ok (.iaload, 1) := by decide +kernel
theorem dL_law_1267 : decode cL_law 1267 = .ok (.invokevirtual 145, 3) := by decide +kernel
theorem dL_law_1270 : decode cL_law 1270 = .ok (.if_icmp .eq 199, 3) := by decide +kernel
theorem dL_law_1273 : decode cL_law 1273 = .ok (.iconst 0, 1) := by decide +kernel
theorem dL_law_1274 : decode cL_law 1274 = .ok (.ireturn, 1) := by decide +kernel
theorem dL_law_1275 : decode cL_law 1275 = .ok (.aload_n 1, 1) := by decide +kernel
theorem dL_law_1276 : decode cL_law 1276 = .ok (.aload_n 0, 1) := by decide +kernel
theorem dL_law_1277 : decode cL_law 1277 = .ok (.iload_n 3, 1) := by decide +kernel
theorem dL_law_1278 : decode cL_law 1278 = .ok (.iconst 1, 1) := by decide +kernel
theorem dL_law_1279 : decode cL_law 1279 = .ok (.iadd, 1) := by decide +kernel
theorem dL_law_1280 : decode cL_law 1280 = .ok (.iaload, 1) := by decide +kernel
theorem dL_law_1281 : decode cL_law 1281 = .ok (.aload_n 0, 1) := by decide +kernel
theorem dL_law_1282 : decode cL_law 1282 = .ok (.iload_n 3, 1) := by decide +kernel
theorem dL_law_1283 : decode cL_law 1283 = .ok (.iconst 2, 1) := by decide +kernel
theorem dL_law_1284 : decode cL_law 1284 = .ok (.iadd, 1) := by decide +kernel
theorem dL_law_1285 : decode cL_law 1285 = .ok (.iaload, 1) := by decide +kernel
theorem dL_law_1286 : decode cL_law 1286 = .ok (.aload_n 0, 1) := by decide +kernel
theorem dL_law_1287 : decode cL_law 1287 = .ok (.iload_n 3, 1) := by decide +kernel
theorem dL_law_1288 : decode cL_law 1288 = .ok (.iconst 3, 1) := by decide +kernel
theorem dL_law_1289 : decode cL_law 1289 = .ok (.iadd, 1) := by decide +kernel
theorem dL_law_1290 : decode cL_law 1290 = .ok (.iaload, 1) := by decide +kernel
theorem dL_law_1291 : decode cL_law 1291 = .ok (.aload_n 0, 1) := by decide +kernel
theorem dL_law_1292 : decode cL_law 1292 = .ok (.iload_n 3, 1) := by decide +kernel
theorem dL_law_1293 : decode cL_law 1293 = .ok (.iconst 4, 1) := by decide +kernel
theorem dL_law_1294 : decode cL_law 1294 = .ok (.iadd, 1) := by decide +kernel
theorem dL_law_1295 : decode cL_law 1295 = .ok (.iaload, 1) := by decide +kernel
theorem dL_law_1296 : decode cL_law 1296 = .ok (.aload_n 0, 1) := by decide +kernel
theorem dL_law_1297 : decode cL_law 1297 = .ok (.iload_n 3, 1) := by decide +kernel
theorem dL_law_1298 : decode cL_law 1298 = .ok (.iconst 5, 1) := by decide +kernel
theorem dL_law_1299 : decode cL_law 1299 = .ok (.iadd, 1) := by decide +kernel
theorem dL_law_1300 : decode cL_law 1300 = .ok (.iaload, 1) := by decide +kernel
theorem dL_law_1301 : decode cL_law 1301 = .ok (.invokevirtual 146, 3) := by decide +kernel
theorem dL_law_1304 : decode cL_law 1304 = .ok (.aload_n 2, 1) := by decide +kernel
theorem dL_law_1305 : decode cL_law 1305 = .ok (.aload_n 0, 1) := by decide +kernel
theorem dL_law_1306 : decode cL_law 1306 = .ok (.iload_n 3, 1) := by decide +kernel
theorem dL_law_1307 : decode cL_law 1307 = .ok (.iconst 1, 1) := by decide +kernel
theorem dL_law_1308 : decode cL_law 1308 = .ok (.iadd, 1) := by decide +kernel
theorem dL_law_1309 : decode cL_law 1309 = .ok (.iaload, 1) := by decide +kernel
theorem dL_law_1310 : decode cL_law 1310 = .ok (.aload_n 0, 1) := by decide +kernel
theorem dL_law_1311 : decode cL_law 1311 = .ok (.iload_n 3, 1) := by decide +kernel
theorem dL_law_1312 : decode cL_law 1312 = .ok (.iconst 2, 1) := by decide +kernel
theorem dL_law_1313 : decode cL_law 1313 = .ok (.iadd, 1) := by decide +kernel
theorem dL_law_1314 : decode cL_law 1314 = .ok (.iaload, 1) := by decide +kernel
theorem dL_law_1315 : decode cL_law 1315 = .ok (.aload_n 0, 1) := by decide +kernel
theorem dL_law_1316 : decode cL_law 1316 = .ok (.iload_n 3, 1) := by decide +kernel
theorem dL_law_1317 : decode cL_law 1317 = .ok (.iconst 3, 1) := by decide +kernel
theorem dL_law_1318 : decode cL_law 1318 = .ok (.iadd, 1) := by decide +kernel
theorem dL_law_1319 : decode cL_law 1319 = .ok (.iaload, 1) := by decide +kernel
theorem dL_law_1320 : decode cL_law 1320 = .ok (.aload_n 0, 1) := by decide +kernel
theorem dL_law_1321 : decode cL_law 1321 = .ok (.iload_n 3, 1) := by decide +kernel
theorem dL_law_1322 : decode cL_law 1322 = .ok (.iconst 4, 1) := by decide +kernel
theorem dL_law_1323 : decode cL_law 1323 = .ok (.iadd, 1) := by decide +kernel
theorem dL_law_1324 : decode cL_law 1324 = .ok (.iaload, 1) := by decide +kernel
theorem dL_law_1325 : decode cL_law 1325 = .ok (.aload_n 0, 1) := by decide +kernel
theorem dL_law_1326 : decode cL_law 1326 = .ok (.iload_n 3, 1) := by decide +kernel
theorem dL_law_1327 : decode cL_law 1327 = .ok (.iconst 5, 1) := by decide +kernel
theorem dL_law_1328 : decode cL_law 1328 = .ok (.iadd, 1) := by decide +kernel
theorem dL_law_1329 : decode cL_law 1329 = .ok (.iaload, 1) := by decide +kernel
theorem dL_law_1330 : decode cL_law 1330 = .ok (.invokevirtual 150, 3) := by decide +kernel
theorem dL_law_1333 : decode cL_law 1333 = .ok (.if_icmp .eq 136, 3) := by decide +kernel
theorem dL_law_1336 : decode cL_law 1336 = .ok (.iconst 0, 1) := by decide +kernel
theorem dL_law_1337 : decode cL_law 1337 = .ok (.ireturn, 1) := by decide +kernel
theorem dL_law_1338 : decode cL_law 1338 = .ok (.aload_n 1, 1) := by decide +kernel
theorem dL_law_1339 : decode cL_law 1339 = .ok (.aload_n 0, 1) := by decide +kernel
theorem dL_law_1340 : decode cL_law 1340 = .ok (.iload_n 3, 1) := by decide +kernel
theorem dL_law_1341 : decode cL_law 1341 = .ok (.iconst 1, 1) := by decide +kernel
theorem dL_law_1342 : decode cL_law 1342 = .ok (.iadd, 1) := by decide +kernel
theorem dL_law_1343 : decode cL_law 1343 = .ok (.iaload, 1) := by decide +kernel
theorem dL_law_1344 : decode cL_law 1344 = .ok (.invokevirtual 151, 3) := by decide +kernel
theorem dL_law_1347 : decode cL_law 1347 = .ok (.aload_n 2, 1) := by decide +kernel
theorem dL_law_1348 : decode cL_law 1348 = .ok (.aload_n 0, 1) := by decide +kernel
theorem dL_law_1349 : decode cL_law 1349 = .ok (.iload_n 3, 1) := by decide +kernel
theorem dL_law_1350 : decode cL_law 1350 = .ok (.iconst 1, 1) := by decide +kernel
theorem dL_law_1351 : decode cL_law 1351 = .ok (.iadd, 1) := by decide +kernel
theorem dL_law_1352 : decode cL_law 1352 = .ok (.iaload, 1) := by decide +kernel
theorem dL_law_1353 : decode cL_law 1353 = .ok (.invokevirtual 154, 3) := by decide +kernel
theorem dL_law_1356 : decode cL_law 1356 = .ok (.if_icmp .eq 113, 3) := by decide +kernel
theorem dL_law_1359 : decode cL_law 1359 = .ok (.iconst 0, 1) := by decide +kernel
theorem dL_law_1360 : decode cL_law 1360 = .ok (.ireturn, 1) := by decide +kernel
theorem dL_law_1361 : decode cL_law 1361 = .ok (.aload_n 1, 1) := by decide +kernel
theorem dL_law_1362 : decode cL_law 1362 = .ok (.aload_n 0, 1) := by decide +kernel
theorem dL_law_1363 : decode cL_law 1363 = .ok (.iload_n 3, 1) := by decide +kernel
theorem dL_law_1364 : decode cL_law 1364 = .ok (.iconst 1, 1) := by decide +kernel
theorem dL_law_1365 : decode cL_law 1365 = .ok (.iadd, 1) := by decide +kernel
theorem dL_law_1366 : decode cL_law 1366 = .ok (.iaload, 1) := by decide +kernel
theorem dL_law_1367 : decode cL_law 1367 = .ok (.invokevirtual 155, 3) := by decide +kernel
theorem dL_law_1370 : decode cL_law 1370 = .ok (.aload_n 2, 1) := by decide +kernel
theorem dL_law_1371 : decode cL_law 1371 = .ok (.aload_n 0, 1) := by decide +kernel
theorem dL_law_1372 : decode cL_law 1372 = .ok (.iload_n 3, 1) := by decide +kernel
theorem dL_law_1373 : decode cL_law 1373 = .ok (.iconst 1, 1) := by decide +kernel
theorem dL_law_1374 : decode cL_law 1374 = .ok (.iadd, 1) := by decide +kernel
theorem dL_law_1375 : decode cL_law 1375 = .ok (.iaload, 1) := by decide +kernel
theorem dL_law_1376 : decode cL_law 1376 = .ok (.invokevirtual 158, 3) := by decide +kernel
theorem dL_law_1379 : decode cL_law 1379 = .ok (.if_icmp .eq 90, 3) := by decide +kernel
theorem dL_law_1382 : decode cL_law 1382 = .ok (.iconst 0, 1) := by decide +kernel
theorem dL_law_1383 : decode cL_law 1383 = .ok (.ireturn, 1) := by decide +kernel
theorem dL_law_1384 : decode cL_law 1384 = .ok (.aload_n 1, 1) := by decide +kernel
theorem dL_law_1385 : decode cL_law 1385 = .ok (.invokevirtual 159, 3) := by decide +kernel
theorem dL_law_1388 : decode cL_law 1388 = .ok (.aload_n 2, 1) := by decide +kernel
theorem dL_law_1389 : decode cL_law 1389 = .ok (.invokevirtual 162, 3) := by decide +kernel
theorem dL_law_1392 : decode cL_law 1392 = .ok (.if_icmp .eq 77, 3) := by decide +kernel
theorem dL_law_1395 : decode cL_law 1395 = .ok (.iconst 0, 1) := by decide +kernel
theorem dL_law_1396 : decode cL_law 1396 = .ok (.ireturn, 1) := by decide +kernel
theorem dL_law_1397 : decode cL_law 1397 = .ok (.aload_n 1, 1) := by decide +kernel
theorem dL_law_1398 : decode cL_law 1398 = .ok (.invokevirtual 163, 3) := by decide +kernel
theorem dL_law_1401 : decode cL_law 1401 = .ok (.aload_n 2, 1) := by decide +kernel
theorem dL_law_1402 : decode cL_law 1402 = .ok (.invokevirtual 166, 3) := by decide +kernel
theorem dL_law_1405 : decode cL_law 1405 = .ok (.if_icmp .eq 64, 3) := by decide +kernel
theorem dL_law_1408 : decode cL_law 1408 = .ok (.iconst 0, 1) := by decide +kernel
theorem dL_law_1409 : decode cL_law 1409 = .ok (.ireturn, 1) := by decide +kernel
theorem dL_law_1410 : decode cL_law 1410 = .ok (.aload_n 1, 1) := by decide +kernel
theorem dL_law_1411 : decode cL_law 1411 = .ok (.invokevirtual 167, 3) := by decide +kernel
theorem dL_law_1414 : decode cL_law 1414 = .ok (.aload_n 2, 1) := by decide +kernel
theorem dL_law_1415 : decode cL_law 1415 = .ok (.invokevirtual 170, 3) := by decide +kernel
theorem dL_law_1418 : decode cL_law 1418 = .ok (.if_icmp .eq 51, 3) := by decide +kernel
theorem dL_law_1421 : decode cL_law 1421 = .ok (.iconst 0, 1) := by decide +kernel
theorem dL_law_1422 : decode cL_law 1422 = .ok (.ireturn, 1) := by decide +kernel
theorem dL_law_1423 : decode cL_law 1423 = .ok (.aload_n 1, 1) := by decide +kernel
theorem dL_law_1424 : decode cL_law 1424 = .ok (.aload_n 0, 1) := by decide +kernel
theorem dL_law_1425 : decode cL_law 1425 = .ok (.iload_n 3, 1) := by decide +kernel
theorem dL_law_1426 : decode cL_law 1426 = .ok (.iconst 1, 1) := by decide +kernel
theorem dL_law_1427 : decode cL_law 1427 = .ok (.iadd, 1) := by decide +kernel
theorem dL_law_1428 : decode cL_law 1428 = .ok (.iaload, 1) := by decide +kernel
theorem dL_law_1429 : decode cL_law 1429 = .ok (.invokevirtual 171, 3) := by decide +kernel
theorem dL_law_1432 : decode cL_law 1432 = .ok (.aload_n 2, 1) := by decide +kernel
theorem dL_law_1433 : decode cL_law 1433 = .ok (.aload_n 0, 1) := by decide +kernel
theorem dL_law_1434 : decode cL_law 1434 = .ok (.iload_n 3, 1) := by decide +kernel
theorem dL_law_1435 : decode cL_law 1435 = .ok (.iconst 1, 1) := by decide +kernel
theorem dL_law_1436 : decode cL_law 1436 = .ok (.iadd, 1) := by decide +kernel
theorem dL_law_1437 : decode cL_law 1437 = .ok (.iaload, 1) := by decide +kernel
theorem dL_law_1438 : decode cL_law 1438 = .ok (.invokevirtual 174, 3) := by decide +kernel
theorem dL_law_1441 : decode cL_law 1441 = .ok (.if_icmp .eq 28, 3) := by decide +kernel
theorem dL_law_1444 : decode cL_law 1444 = .ok (.iconst 0, 1) := by decide +kernel
theorem dL_law_1445 : decode cL_law 1445 = .ok (.ireturn, 1) := by decide +kernel
theorem dL_law_1446 : decode cL_law 1446 = .ok (.aload_n 1, 1) := by decide +kernel
theorem dL_law_1447 : decode cL_law 1447 = .ok (.aload_n 0, 1) := by decide +kernel
theorem dL_law_1448 : decode cL_law 1448 = .ok (.iload_n 3, 1) := by decide +kernel
theorem dL_law_1449 : decode cL_law 1449 = .ok (.iconst 1, 1) := by decide +kernel
theorem dL_law_1450 : decode cL_law 1450 = .ok (.iadd, 1) := by decide +kernel
theorem dL_law_1451 : decode cL_law 1451 = .ok (.iaload, 1) := by decide +kernel
theorem dL_law_1452 : decode cL_law 1452 = .ok (.invokevirtual 175, 3) := by decide +kernel
theorem dL_law_1455 : decode cL_law 1455 = .ok (.aload_n 2, 1) := by decide +kernel
theorem dL_law_1456 : decode cL_law 1456 = .ok (.aload_n 0, 1) := by decide +kernel
theorem dL_law_1457 : decode cL_law 1457 = .ok (.iload_n 3, 1) := by decide +kernel
theorem dL_law_1458 : decode cL_law 1458 = .ok (.iconst 1, 1) := by decide +kernel
theorem dL_law_1459 : decode cL_law 1459 = .ok (.iadd, 1) := by decide +kernel
theorem dL_law_1460 : decode cL_law 1460 = .ok (.iaload, 1) := by decide +kernel
theorem dL_law_1461 : decode cL_law 1461 = .ok (.invokevirtual 178, 3) := by decide +kernel
theorem dL_law_1464 : decode cL_law 1464 = .ok (.if_icmp .eq 5, 3) := by decide +kernel
theorem dL_law_1467 : decode cL_law 1467 = .ok (.iconst 0, 1) := by decide +kernel
theorem dL_law_1468 : decode cL_law 1468 = .ok (.ireturn, 1) := by decide +kernel
theorem dL_law_1469 : decode cL_law 1469 = .ok (.iinc 3 6, 3) := by decide +kernel
theorem dL_law_1472 : decode cL_law 1472 = .ok (.goto (-1454), 3) := by decide +kernel
theorem dL_law_1475 : decode cL_law 1475 = .ok (.iconst 1, 1) := by decide +kernel
theorem dL_law_1476 : decode cL_law 1476 = .ok (.ireturn, 1) := by decide +kernel
end
section
/-! ===== the walk over abstract worlds: references are places of the world's list (below 1000) or statics (from 1000 on) ===== -/
abbrev aw_E : Type := (Bool × Nat × (Nat → Int32)) ⊕ (Nat × List Value)
abbrev aw_H : Type := List aw_E
/-- the classes' numbers and slots; the class of int arrays; of byte arrays; the statics' addresses; the formatter (a reference or null) -/
abbrev aw_X : Type := va_G × ClassId × ClassId × (Nat → Nat) × Value
abbrev aw_cl : List vw_C := [(RX0, TX0, 11), (RX1, TX1, 6), (RX2, TX2, 3), (RX3, TX3, 2), (RX4, TX4, 8), (RX5, TX5, 17)]
def aw_tb : List Cond := lw_tbl.filter goodWord
def aw_v (ad : Nat → Nat) (v : Value) : Value := match v with
  | .ref k => .ref (ad k)
  | w => w
def aw_e (X : aw_X) (ad : Nat → Nat) (e : aw_E) : va_E := match e with
  | .inl q => .inl (if q.1 then X.2.2.1 else X.2.1, q.2.1, .inl q.2.2)
  | .inr o => .inr (o.1, o.2.map (aw_v ad))
def aw_w (X : aw_X) (ad : Nat → Nat) (h : aw_H) : va_W := h.mapIdx (fun k e => (ad k, aw_e X ad e))
theorem aw_w_get (X : aw_X) (ad : Nat → Nat) (h : aw_H) (k : Nat) : (aw_w X ad h)[k]? = h[k]?.map (fun e => (ad k, aw_e X ad e)) := by
  simp [aw_w]
theorem aw_w_at {X : aw_X} {ad : Nat → Nat} {h : aw_H} {k : Nat} {e : aw_E} (hk : h[k]? = some e) : (aw_w X ad h)[k]? = some (ad k, aw_e X ad e) := by
  rw [aw_w_get, hk]; rfl
theorem aw_w_set {X : aw_X} {ad : Nat → Nat} {h : aw_H} {k : Nat} {e : aw_E} : (aw_w X ad h).set k (ad k, aw_e X ad e) = aw_w X ad (h.set k e) := by
  apply List.ext_getElem?
  intro i
  rw [aw_w_get]
  by_cases hk : k = i
  · subst hk
    by_cases hl : k < h.length
    · rw [List.getElem?_set_self (by simpa [aw_w] using hl), List.getElem?_set_self hl]; rfl
    · rw [List.getElem?_eq_none (by simp [aw_w]; omega), List.getElem?_eq_none (by simp; omega)]; rfl
  · rw [List.getElem?_set_ne hk, List.getElem?_set_ne hk, aw_w_get]
theorem aw_w_push {X : aw_X} {ad : Nat → Nat} {h : aw_H} {e : aw_E} : aw_w X ad (h ++ [e]) = aw_w X ad h ++ [(ad h.length, aw_e X ad e)] := by
  simp [aw_w]
theorem aw_cat (ad : Nat → Nat) (v : Value) : (aw_v ad v).category = v.category := by cases v <;> rfl
theorem aw_cats (ad : Nat → Nat) (st : List Value) : ((st.map (aw_v ad)).map fun v => v.category).sum = (st.map fun v => v.category).sum := by
  rw [List.map_map]
  congr 1
  apply List.map_congr_left
  intro v _
  exact aw_cat ad v
/-- static int arrays: place, name, length, contents -/
def aw_sa : List (Nat × String × Nat × List Int32) := [(1000, "COOLS", 7, [2, 1, 5, 1, 2, 0, 5]), (1001, "BOILS", 7, [5, 5, 3, 10, 10, 1, 3]), (1002, "UNDER", 7, [-1, 0, 0, 1, 3, 0, 2]), (1003, "MOST_OF_TRAIT", 6, [6, 99, 99, 99, 9999, 9999])]
def aw_nF : List (Nat × String) := [(69, "COOLS"), (72, "BOILS")]
def aw_nM1 : Cond := .methodLinkNest "TwoWheel$Pottery" 94 ⟨"TwoWheel", "wouldFlop", "(II)Z"⟩ "TwoWheel"
def aw_nM2 : Cond := .methodLinkNest "TwoWheel$Reader" 60 ⟨"TwoWheel", "within", "(III)Z"⟩ "TwoWheel"
/-- the words: their places in the pool of the Reader, and their texts -/
def aw_sk : List (Nat × String) := [(145, "potter"), (147, "husband"), (149, "son"), (151, "father"), (153, "partner"), (155, "stranger"), (157, "boy"), (159, "rift"), (161, "pair"), (163, "clay"), (164, "heat"), (166, "care"), (168, "years")]
def aw_sl : List Nat := [6, 7, 3, 6, 7, 8, 3, 4, 4, 4, 4, 4, 5]
def aw_sb : List (List Int32) := [[112, 111, 116, 116, 101, 114], [104, 117, 115, 98, 97, 110, 100], [115, 111, 110], [102, 97, 116, 104, 101, 114], [112, 97, 114, 116, 110, 101, 114], [115, 116, 114, 97, 110, 103, 101, 114], [98, 111, 121], [114, 105, 102, 116], [112, 97, 105, 114], [99, 108, 97, 121], [104, 101, 97, 116], [99, 97, 114, 101], [121, 101, 97, 114, 115]]
/-- what holds of the tables and the statics at a state, while only cells in A change -/
def aw_SX (X : aw_X) (A : Nat → Prop) (U : State) : Prop :=
  va_K X.1 aw_cl [(X.2.1, .int), (X.2.2.1, .byte)] U ∧
  (∀ q ∈ aw_nF, va_Nw (.fieldLinkNest "TwoWheel$Pottery" q.1 "TwoWheel" q.2 "[I" "TwoWheel") U) ∧ va_Nw aw_nM1 U ∧ va_Nw aw_nM2 U ∧
  (∀ q ∈ aw_sa, va_Z "TwoWheel" q.2.1 "[I" (.ref (X.2.2.2.1 q.1)) A U U.heap ∧ va_T .int (X.2.2.2.1 q.1) q.2.2.1 (fun j => .int (q.2.2.2.getD j 0)) A U U.heap) ∧
  va_Z "java/lang/String" "COMPACT_STRINGS" "Z" (.int 1) A U U.heap ∧
  va_Z "jdk/internal/util/Preconditions" "SIOOBE_FORMATTER" "Ljava/util/function/BiFunction;" (aw_v X.2.2.2.1 X.2.2.2.2) A U U.heap ∧
  (∀ j, j < 13 → vk_R "TwoWheel$Reader" (aw_sk.getD j (0, "")).1 (aw_sk.getD j (0, "")).2 (X.2.2.2.1 (1010 + j)) U) ∧
  vk_S 13 aw_sl aw_sb (fun j => X.2.2.2.1 (1010 + j)) (fun j => X.2.2.2.1 (1030 + j)) A U U.heap
theorem aw_SX.call {X : aw_X} {A A' : Nat → Prop} {s U : State} {H : Heap} {locs : List Loc} (h : aw_SX X A s) (hS : va_S A s.heap H locs) (hU : U.heap = H) (hW : s.WarmedH U.vm) (hA : ∀ q, A' q → A q) : aw_SX X A' U := by
  obtain ⟨h1, h2, h3, h4, h5, h6, h7, h8, h9⟩ := h
  subst hU
  refine ⟨va_K.moved hW.alike h1, fun q hq => va_Nw.warmF hW (h2 q hq), va_Nw.warmM hW h3, va_Nw.warmM hW h4, fun q hq => ⟨((h5 q hq).1.moved hW.alike).kept hS.2.1 |>.narrow hA, ((h5 q hq).2.moved hW.alike).kept hS.2.1 |>.narrow hA⟩, (h6.moved hW.alike).kept hS.2.1 |>.narrow hA, (h7.moved hW.alike).kept hS.2.1 |>.narrow hA, fun j hj => (h8 j hj).warm hW, (h9.moved hW.alike).kept hS.2.1 |>.narrow hA⟩
theorem aw_SX.blind {X : aw_X} {A : Nat → Prop} {U : State} {g : JFrame} {mk : MethodId} {a : Array Value} (h : aw_SX X A U) : aw_SX X A (U.calling g mk a) := by
  obtain ⟨h1, h2, h3, h4, h5, h6, h7, h8, h9⟩ := h
  have hr : U.vm.Alike (U.calling g mk a).vm := Vm.Alike.refl U.vm
  refine ⟨va_K.moved hr h1, fun q hq => va_Nw.same rfl rfl (h2 q hq), va_Nw.same rfl rfl h3, va_Nw.same rfl rfl h4, fun q hq => ⟨(h5 q hq).1.moved hr, (h5 q hq).2.moved hr⟩, h6.moved hr, h7.moved hr, fun j hj => (h8 j hj).same rfl, h9.moved hr⟩
/-- a method at work: program, launch, environment, room, its entry state, its own id, arguments, the stack below, method, code, where it comes to, the cells that it may change, cells and slots made, statics, its locals, which addresses are meant -/
abbrev aw_C : Type := Program × Launch × Env × Room × State × MethodId × Array Value × List Frame × Method × Code × (State → Prop) × (Nat → Prop) × Nat × Nat × aw_X × Nat × ((Nat → Nat) → Prop)
def aw_nL (cx : aw_C) : Nat := cx.2.2.2.2.2.2.2.2.2.2.2.2.2.2.2.1
def aw_xX (cx : aw_C) : aw_X := cx.2.2.2.2.2.2.2.2.2.2.2.2.2.2.1
def aw_xl (cx : aw_C) : Launch := cx.2.1
def aw_L (ad : Nat → Nat) (nL : Nat) (lv : List (Option Value)) (ls : Array Slot) : Prop := ls.size = nL ∧ lv_wf ls ∧ ∀ (i : Nat) (v : Value), lv[i]? = some (some v) → ls[i]? = some (.val (aw_v ad v))
def aw_S (X : aw_X) (ad : Nat → Nat) : Prop := ∀ k : Nat, 1000 ≤ k → ad k = X.2.2.2.1 k
def aw_R (cx : aw_C) (pc : Nat) (lv : List (Option Value)) (st : List Value) (h : aw_H) : Prop := match cx with
  | (p, l, e, R, s, m, args, below, meth, c, Q, A, cells, slots, X, nL, Ad) => ∀ (ad : Nat → Nat) (H : Heap) (locs : List Loc) (ls : Array Slot), Ad ad → va_P X.1 aw_cl (aw_w X ad h) H → va_D A (aw_w X ad h) → va_S A s.heap H locs → aw_L ad nL lv ls → W p l e R s m args below meth c H locs cells slots Q (F0 m pc ls (st.map (aw_v ad)))
/-- the instruction that ends a method with an answer -/
def aw_ri (r : Option Value) : Instr := match r with
  | none => .return_
  | some (.long _) => .lreturn
  | some (.ref _) => .areturn
  | _ => .ireturn
/-- the answer r with the world h is what the method owes -/
def aw_ret (cx : aw_C) (r : Option Value) (h : aw_H) : Prop := match cx with
  | (p, l, e, R, s, m, args, below, meth, c, Q, A, cells, slots, X, _, Ad) => ∀ (ad : Nat → Nat) (H : Heap) (locs : List Loc) (ls : Array Slot) (pc : Nat), Ad ad → va_P X.1 aw_cl (aw_w X ad h) H → va_D A (aw_w X ad h) → va_S A s.heap H locs → decode c.code pc = .ok (aw_ri r, 1) → W p l e R s m args below meth c H locs cells slots Q (F0 m pc ls (r.toList.map (aw_v ad)))
/-- what a walk knows of its method -/
def aw_K (cx : aw_C) (cc : ByteArray) (own : String) (rm : Room) : Prop := match cx with
  | (p, _, _, R, s, m, args, _, meth, c, _, A, cells, slots, X, nL, Ad) => p.tables.exec = Jvm.exec ∧ c.code = cc ∧ c.maxLocals = nL ∧ s.vm.findClass own = some m.cls ∧ (∀ w ∈ aw_tb, w.before args s = true) ∧ aw_SX X A s ∧ (∀ q, s.heap.size ≤ q → A q) ∧ meth.locks = false ∧ R = rm ∧ cells ≤ R.cells ∧ slots ≤ R.slots ∧ ∀ ad, Ad ad → aw_S X ad
/-- from here the method ends as the term f says: where f is some q, with the answer and the world of q -/
def af (cx : aw_C) {α : Type} (ρ : α → Option Value × aw_H) (pc : Nat) (lv : List (Option Value)) (st : List Value) (h : aw_H) (f : Option α) : Prop := ∀ q, f = some q → aw_ret cx (ρ q).1 (ρ q).2 → aw_R cx pc lv st h
end
section
/-! ===== rules: one an instruction ===== -/
theorem af_iadd {cx : aw_C} {cc : ByteArray} {own : String} {rm : Room} (K : aw_K cx cc own rm) {α : Type} {ρ : α → Option Value × aw_H} {f : Option α} {pc : Nat} {lv : List (Option Value)} {st : List Value} {h : aw_H} {x y : Int32} (n : Nat) (d : decode cc pc = .ok (.iadd, 1)) (hn : pc + 1 = n)  (k : af cx ρ n lv (.int (x + y) :: st) h f) : af cx ρ pc lv (.int y :: .int x :: st) h f := by
  obtain ⟨p, l, e, R, s, m, args, below, meth, c, Q, A, cells, slots, X, nL, Ad⟩ := cx
  subst hn
  intro q hq hr ad H locs ls h1 h2 h3 h4 h5
  exact lv_iadd K.1 K.2.1 d (k q hq hr ad H locs ls h1 h2 h3 h4 h5)
theorem af_isub {cx : aw_C} {cc : ByteArray} {own : String} {rm : Room} (K : aw_K cx cc own rm) {α : Type} {ρ : α → Option Value × aw_H} {f : Option α} {pc : Nat} {lv : List (Option Value)} {st : List Value} {h : aw_H} {x y : Int32} (n : Nat) (d : decode cc pc = .ok (.isub, 1)) (hn : pc + 1 = n)  (k : af cx ρ n lv (.int (x - y) :: st) h f) : af cx ρ pc lv (.int y :: .int x :: st) h f := by
  obtain ⟨p, l, e, R, s, m, args, below, meth, c, Q, A, cells, slots, X, nL, Ad⟩ := cx
  subst hn
  intro q hq hr ad H locs ls h1 h2 h3 h4 h5
  exact lv_isub K.1 K.2.1 d (k q hq hr ad H locs ls h1 h2 h3 h4 h5)
theorem af_imul {cx : aw_C} {cc : ByteArray} {own : String} {rm : Room} (K : aw_K cx cc own rm) {α : Type} {ρ : α → Option Value × aw_H} {f : Option α} {pc : Nat} {lv : List (Option Value)} {st : List Value} {h : aw_H} {x y : Int32} (n : Nat) (d : decode cc pc = .ok (.imul, 1)) (hn : pc + 1 = n)  (k : af cx ρ n lv (.int (x * y) :: st) h f) : af cx ρ pc lv (.int y :: .int x :: st) h f := by
  obtain ⟨p, l, e, R, s, m, args, below, meth, c, Q, A, cells, slots, X, nL, Ad⟩ := cx
  subst hn
  intro q hq hr ad H locs ls h1 h2 h3 h4 h5
  exact lv_imul K.1 K.2.1 d (k q hq hr ad H locs ls h1 h2 h3 h4 h5)
theorem af_iand {cx : aw_C} {cc : ByteArray} {own : String} {rm : Room} (K : aw_K cx cc own rm) {α : Type} {ρ : α → Option Value × aw_H} {f : Option α} {pc : Nat} {lv : List (Option Value)} {st : List Value} {h : aw_H} {x y : Int32} (n : Nat) (d : decode cc pc = .ok (.iand, 1)) (hn : pc + 1 = n)  (k : af cx ρ n lv (.int (x &&& y) :: st) h f) : af cx ρ pc lv (.int y :: .int x :: st) h f := by
  obtain ⟨p, l, e, R, s, m, args, below, meth, c, Q, A, cells, slots, X, nL, Ad⟩ := cx
  subst hn
  intro q hq hr ad H locs ls h1 h2 h3 h4 h5
  exact lv_iand K.1 K.2.1 d (k q hq hr ad H locs ls h1 h2 h3 h4 h5)
theorem af_ior {cx : aw_C} {cc : ByteArray} {own : String} {rm : Room} (K : aw_K cx cc own rm) {α : Type} {ρ : α → Option Value × aw_H} {f : Option α} {pc : Nat} {lv : List (Option Value)} {st : List Value} {h : aw_H} {x y : Int32} (n : Nat) (d : decode cc pc = .ok (.ior, 1)) (hn : pc + 1 = n)  (k : af cx ρ n lv (.int (x ||| y) :: st) h f) : af cx ρ pc lv (.int y :: .int x :: st) h f := by
  obtain ⟨p, l, e, R, s, m, args, below, meth, c, Q, A, cells, slots, X, nL, Ad⟩ := cx
  subst hn
  intro q hq hr ad H locs ls h1 h2 h3 h4 h5
  exact lv_ior K.1 K.2.1 d (k q hq hr ad H locs ls h1 h2 h3 h4 h5)
theorem af_ixor {cx : aw_C} {cc : ByteArray} {own : String} {rm : Room} (K : aw_K cx cc own rm) {α : Type} {ρ : α → Option Value × aw_H} {f : Option α} {pc : Nat} {lv : List (Option Value)} {st : List Value} {h : aw_H} {x y : Int32} (n : Nat) (d : decode cc pc = .ok (.ixor, 1)) (hn : pc + 1 = n)  (k : af cx ρ n lv (.int (x ^^^ y) :: st) h f) : af cx ρ pc lv (.int y :: .int x :: st) h f := by
  obtain ⟨p, l, e, R, s, m, args, below, meth, c, Q, A, cells, slots, X, nL, Ad⟩ := cx
  subst hn
  intro q hq hr ad H locs ls h1 h2 h3 h4 h5
  exact lv_ixor K.1 K.2.1 d (k q hq hr ad H locs ls h1 h2 h3 h4 h5)
theorem af_ishl {cx : aw_C} {cc : ByteArray} {own : String} {rm : Room} (K : aw_K cx cc own rm) {α : Type} {ρ : α → Option Value × aw_H} {f : Option α} {pc : Nat} {lv : List (Option Value)} {st : List Value} {h : aw_H} {x y : Int32} (n : Nat) (d : decode cc pc = .ok (.ishl, 1)) (hn : pc + 1 = n)  (k : af cx ρ n lv (.int (x <<< (y &&& 31)) :: st) h f) : af cx ρ pc lv (.int y :: .int x :: st) h f := by
  obtain ⟨p, l, e, R, s, m, args, below, meth, c, Q, A, cells, slots, X, nL, Ad⟩ := cx
  subst hn
  intro q hq hr ad H locs ls h1 h2 h3 h4 h5
  exact lv_ishl K.1 K.2.1 d (k q hq hr ad H locs ls h1 h2 h3 h4 h5)
theorem af_ishr {cx : aw_C} {cc : ByteArray} {own : String} {rm : Room} (K : aw_K cx cc own rm) {α : Type} {ρ : α → Option Value × aw_H} {f : Option α} {pc : Nat} {lv : List (Option Value)} {st : List Value} {h : aw_H} {x y : Int32} (n : Nat) (d : decode cc pc = .ok (.ishr, 1)) (hn : pc + 1 = n)  (k : af cx ρ n lv (.int (x >>> (y &&& 31)) :: st) h f) : af cx ρ pc lv (.int y :: .int x :: st) h f := by
  obtain ⟨p, l, e, R, s, m, args, below, meth, c, Q, A, cells, slots, X, nL, Ad⟩ := cx
  subst hn
  intro q hq hr ad H locs ls h1 h2 h3 h4 h5
  exact lv_ishr K.1 K.2.1 d (k q hq hr ad H locs ls h1 h2 h3 h4 h5)
theorem af_ladd {cx : aw_C} {cc : ByteArray} {own : String} {rm : Room} (K : aw_K cx cc own rm) {α : Type} {ρ : α → Option Value × aw_H} {f : Option α} {pc : Nat} {lv : List (Option Value)} {st : List Value} {h : aw_H} {x y : Int64} (n : Nat) (d : decode cc pc = .ok (.ladd, 1)) (hn : pc + 1 = n)  (k : af cx ρ n lv (.long (x + y) :: st) h f) : af cx ρ pc lv (.long y :: .long x :: st) h f := by
  obtain ⟨p, l, e, R, s, m, args, below, meth, c, Q, A, cells, slots, X, nL, Ad⟩ := cx
  subst hn
  intro q hq hr ad H locs ls h1 h2 h3 h4 h5
  exact lv_ladd K.1 K.2.1 d (k q hq hr ad H locs ls h1 h2 h3 h4 h5)
theorem af_lsub {cx : aw_C} {cc : ByteArray} {own : String} {rm : Room} (K : aw_K cx cc own rm) {α : Type} {ρ : α → Option Value × aw_H} {f : Option α} {pc : Nat} {lv : List (Option Value)} {st : List Value} {h : aw_H} {x y : Int64} (n : Nat) (d : decode cc pc = .ok (.lsub, 1)) (hn : pc + 1 = n)  (k : af cx ρ n lv (.long (x - y) :: st) h f) : af cx ρ pc lv (.long y :: .long x :: st) h f := by
  obtain ⟨p, l, e, R, s, m, args, below, meth, c, Q, A, cells, slots, X, nL, Ad⟩ := cx
  subst hn
  intro q hq hr ad H locs ls h1 h2 h3 h4 h5
  exact lv_lsub K.1 K.2.1 d (k q hq hr ad H locs ls h1 h2 h3 h4 h5)
theorem af_lmul {cx : aw_C} {cc : ByteArray} {own : String} {rm : Room} (K : aw_K cx cc own rm) {α : Type} {ρ : α → Option Value × aw_H} {f : Option α} {pc : Nat} {lv : List (Option Value)} {st : List Value} {h : aw_H} {x y : Int64} (n : Nat) (d : decode cc pc = .ok (.lmul, 1)) (hn : pc + 1 = n)  (k : af cx ρ n lv (.long (x * y) :: st) h f) : af cx ρ pc lv (.long y :: .long x :: st) h f := by
  obtain ⟨p, l, e, R, s, m, args, below, meth, c, Q, A, cells, slots, X, nL, Ad⟩ := cx
  subst hn
  intro q hq hr ad H locs ls h1 h2 h3 h4 h5
  exact lv_lmul K.1 K.2.1 d (k q hq hr ad H locs ls h1 h2 h3 h4 h5)
theorem af_ineg {cx : aw_C} {cc : ByteArray} {own : String} {rm : Room} (K : aw_K cx cc own rm) {α : Type} {ρ : α → Option Value × aw_H} {f : Option α} {pc : Nat} {lv : List (Option Value)} {st : List Value} {h : aw_H} {x : Int32} (n : Nat) (d : decode cc pc = .ok (.ineg, 1)) (hn : pc + 1 = n)  (k : af cx ρ n lv (.int (-x) :: st) h f) : af cx ρ pc lv (.int x :: st) h f := by
  obtain ⟨p, l, e, R, s, m, args, below, meth, c, Q, A, cells, slots, X, nL, Ad⟩ := cx
  subst hn
  intro q hq hr ad H locs ls h1 h2 h3 h4 h5
  exact lv_ineg K.1 K.2.1 d (k q hq hr ad H locs ls h1 h2 h3 h4 h5)
theorem af_iushr {cx : aw_C} {cc : ByteArray} {own : String} {rm : Room} (K : aw_K cx cc own rm) {α : Type} {ρ : α → Option Value × aw_H} {f : Option α} {pc : Nat} {lv : List (Option Value)} {st : List Value} {h : aw_H} {x y : Int32} (n : Nat) (d : decode cc pc = .ok (.iushr, 1)) (hn : pc + 1 = n)  (k : af cx ρ n lv (.int (x.toUInt32 >>> (y.toUInt32 &&& Int32.toUInt32 31)).toInt32 :: st) h f) : af cx ρ pc lv (.int y :: .int x :: st) h f := by
  obtain ⟨p, l, e, R, s, m, args, below, meth, c, Q, A, cells, slots, X, nL, Ad⟩ := cx
  subst hn
  intro q hq hr ad H locs ls h1 h2 h3 h4 h5
  exact lv_iushr K.1 K.2.1 d rfl (k q hq hr ad H locs ls h1 h2 h3 h4 h5)
theorem af_i2l {cx : aw_C} {cc : ByteArray} {own : String} {rm : Room} (K : aw_K cx cc own rm) {α : Type} {ρ : α → Option Value × aw_H} {f : Option α} {pc : Nat} {lv : List (Option Value)} {st : List Value} {h : aw_H} {x : Int32} (n : Nat) (d : decode cc pc = .ok (.i2l, 1)) (hn : pc + 1 = n)  (k : af cx ρ n lv (.long x.toInt64 :: st) h f) : af cx ρ pc lv (.int x :: st) h f := by
  obtain ⟨p, l, e, R, s, m, args, below, meth, c, Q, A, cells, slots, X, nL, Ad⟩ := cx
  subst hn
  intro q hq hr ad H locs ls h1 h2 h3 h4 h5
  exact lv_i2l K.1 K.2.1 d rfl (k q hq hr ad H locs ls h1 h2 h3 h4 h5)
theorem af_l2i {cx : aw_C} {cc : ByteArray} {own : String} {rm : Room} (K : aw_K cx cc own rm) {α : Type} {ρ : α → Option Value × aw_H} {f : Option α} {pc : Nat} {lv : List (Option Value)} {st : List Value} {h : aw_H} {x : Int64} (n : Nat) (d : decode cc pc = .ok (.l2i, 1)) (hn : pc + 1 = n)  (k : af cx ρ n lv (.int x.toInt32 :: st) h f) : af cx ρ pc lv (.long x :: st) h f := by
  obtain ⟨p, l, e, R, s, m, args, below, meth, c, Q, A, cells, slots, X, nL, Ad⟩ := cx
  subst hn
  intro q hq hr ad H locs ls h1 h2 h3 h4 h5
  exact lv_l2i K.1 K.2.1 d rfl (k q hq hr ad H locs ls h1 h2 h3 h4 h5)
theorem af_i2b {cx : aw_C} {cc : ByteArray} {own : String} {rm : Room} (K : aw_K cx cc own rm) {α : Type} {ρ : α → Option Value × aw_H} {f : Option α} {pc : Nat} {lv : List (Option Value)} {st : List Value} {h : aw_H} {x : Int32} (n : Nat) (d : decode cc pc = .ok (.i2b, 1)) (hn : pc + 1 = n)  (k : af cx ρ n lv (.int x.toInt8.toInt32 :: st) h f) : af cx ρ pc lv (.int x :: st) h f := by
  obtain ⟨p, l, e, R, s, m, args, below, meth, c, Q, A, cells, slots, X, nL, Ad⟩ := cx
  subst hn
  intro q hq hr ad H locs ls h1 h2 h3 h4 h5
  exact lv_i2b K.1 K.2.1 d rfl (k q hq hr ad H locs ls h1 h2 h3 h4 h5)
theorem af_i2s {cx : aw_C} {cc : ByteArray} {own : String} {rm : Room} (K : aw_K cx cc own rm) {α : Type} {ρ : α → Option Value × aw_H} {f : Option α} {pc : Nat} {lv : List (Option Value)} {st : List Value} {h : aw_H} {x : Int32} (n : Nat) (d : decode cc pc = .ok (.i2s, 1)) (hn : pc + 1 = n)  (k : af cx ρ n lv (.int x.toInt16.toInt32 :: st) h f) : af cx ρ pc lv (.int x :: st) h f := by
  obtain ⟨p, l, e, R, s, m, args, below, meth, c, Q, A, cells, slots, X, nL, Ad⟩ := cx
  subst hn
  intro q hq hr ad H locs ls h1 h2 h3 h4 h5
  exact lv_i2s K.1 K.2.1 d rfl (k q hq hr ad H locs ls h1 h2 h3 h4 h5)
theorem af_i2c {cx : aw_C} {cc : ByteArray} {own : String} {rm : Room} (K : aw_K cx cc own rm) {α : Type} {ρ : α → Option Value × aw_H} {f : Option α} {pc : Nat} {lv : List (Option Value)} {st : List Value} {h : aw_H} {x : Int32} (n : Nat) (d : decode cc pc = .ok (.i2c, 1)) (hn : pc + 1 = n)  (k : af cx ρ n lv (.int (x.toUInt32 % 65536).toInt32 :: st) h f) : af cx ρ pc lv (.int x :: st) h f := by
  obtain ⟨p, l, e, R, s, m, args, below, meth, c, Q, A, cells, slots, X, nL, Ad⟩ := cx
  subst hn
  intro q hq hr ad H locs ls h1 h2 h3 h4 h5
  exact lv_i2c K.1 K.2.1 d rfl (k q hq hr ad H locs ls h1 h2 h3 h4 h5)
theorem af_iconst {cx : aw_C} {cc : ByteArray} {own : String} {rm : Room} (K : aw_K cx cc own rm) {α : Type} {ρ : α → Option Value × aw_H} {f : Option α} {pc : Nat} {lv : List (Option Value)} {st : List Value} {h : aw_H} {i : Int} {v : Int32} (n : Nat) (d : decode cc pc = .ok (.iconst i, 1)) (hn : pc + 1 = n) (hv : Int32.ofInt i = v) (k : af cx ρ n lv (.int v :: st) h f) : af cx ρ pc lv (st) h f := by
  obtain ⟨p, l, e, R, s, m, args, below, meth, c, Q, A, cells, slots, X, nL, Ad⟩ := cx
  subst hn
  intro q hq hr ad H locs ls h1 h2 h3 h4 h5
  exact lv_iconst K.1 K.2.1 d hv (k q hq hr ad H locs ls h1 h2 h3 h4 h5)
theorem af_bipush {cx : aw_C} {cc : ByteArray} {own : String} {rm : Room} (K : aw_K cx cc own rm) {α : Type} {ρ : α → Option Value × aw_H} {f : Option α} {pc : Nat} {lv : List (Option Value)} {st : List Value} {h : aw_H} {i : Int} {v : Int32} (n : Nat) (d : decode cc pc = .ok (.bipush i, 2)) (hn : pc + 2 = n) (hv : (Int8.ofInt i).toInt32 = v) (k : af cx ρ n lv (.int v :: st) h f) : af cx ρ pc lv (st) h f := by
  obtain ⟨p, l, e, R, s, m, args, below, meth, c, Q, A, cells, slots, X, nL, Ad⟩ := cx
  subst hn
  intro q hq hr ad H locs ls h1 h2 h3 h4 h5
  exact lv_bipush K.1 K.2.1 d hv (k q hq hr ad H locs ls h1 h2 h3 h4 h5)
theorem af_sipush {cx : aw_C} {cc : ByteArray} {own : String} {rm : Room} (K : aw_K cx cc own rm) {α : Type} {ρ : α → Option Value × aw_H} {f : Option α} {pc : Nat} {lv : List (Option Value)} {st : List Value} {h : aw_H} {i : Int} {v : Int32} (n : Nat) (d : decode cc pc = .ok (.sipush i, 3)) (hn : pc + 3 = n) (hv : (Int16.ofInt i).toInt32 = v) (k : af cx ρ n lv (.int v :: st) h f) : af cx ρ pc lv (st) h f := by
  obtain ⟨p, l, e, R, s, m, args, below, meth, c, Q, A, cells, slots, X, nL, Ad⟩ := cx
  subst hn
  intro q hq hr ad H locs ls h1 h2 h3 h4 h5
  exact lv_sipush K.1 K.2.1 d hv (k q hq hr ad H locs ls h1 h2 h3 h4 h5)
theorem af_lconst {cx : aw_C} {cc : ByteArray} {own : String} {rm : Room} (K : aw_K cx cc own rm) {α : Type} {ρ : α → Option Value × aw_H} {f : Option α} {pc : Nat} {lv : List (Option Value)} {st : List Value} {h : aw_H} {i : Fin 2} {v : Int64} (n : Nat) (d : decode cc pc = .ok (.lconst i, 1)) (hn : pc + 1 = n) (hv : Int64.ofNat (i : Nat) = v) (k : af cx ρ n lv (.long v :: st) h f) : af cx ρ pc lv (st) h f := by
  obtain ⟨p, l, e, R, s, m, args, below, meth, c, Q, A, cells, slots, X, nL, Ad⟩ := cx
  subst hn
  intro q hq hr ad H locs ls h1 h2 h3 h4 h5
  exact lv_lconst K.1 K.2.1 d hv (k q hq hr ad H locs ls h1 h2 h3 h4 h5)
theorem af_iload_n {cx : aw_C} {cc : ByteArray} {own : String} {rm : Room} (K : aw_K cx cc own rm) {α : Type} {ρ : α → Option Value × aw_H} {f : Option α} {pc : Nat} {lv : List (Option Value)} {st : List Value} {h : aw_H} {i : Fin 4} {x : Int32} (n : Nat) (d : decode cc pc = .ok (.iload_n i, 1)) (hn : pc + 1 = n) (hl : lv[(i : Nat)]? = some (some (.int x))) (k : af cx ρ n lv (.int x :: st) h f) : af cx ρ pc lv st h f := by
  obtain ⟨p, l, e, R, s, m, args, below, meth, c, Q, A, cells, slots, X, nL, Ad⟩ := cx
  subst hn
  intro q hq hr ad H locs ls h1 h2 h3 h4 h5
  exact lv_iload_n K.1 K.2.1 d rfl (h5.2.2 _ _ hl) (k q hq hr ad H locs ls h1 h2 h3 h4 h5)
theorem af_iload {cx : aw_C} {cc : ByteArray} {own : String} {rm : Room} (K : aw_K cx cc own rm) {α : Type} {ρ : α → Option Value × aw_H} {f : Option α} {pc : Nat} {lv : List (Option Value)} {st : List Value} {h : aw_H} {i : Nat} {x : Int32} (n : Nat) (d : decode cc pc = .ok (.iload i, 2)) (hn : pc + 2 = n) (hl : lv[i]? = some (some (.int x))) (k : af cx ρ n lv (.int x :: st) h f) : af cx ρ pc lv st h f := by
  obtain ⟨p, l, e, R, s, m, args, below, meth, c, Q, A, cells, slots, X, nL, Ad⟩ := cx
  subst hn
  intro q hq hr ad H locs ls h1 h2 h3 h4 h5
  exact lv_iload K.1 K.2.1 d (h5.2.2 _ _ hl) (k q hq hr ad H locs ls h1 h2 h3 h4 h5)
theorem af_lload_n {cx : aw_C} {cc : ByteArray} {own : String} {rm : Room} (K : aw_K cx cc own rm) {α : Type} {ρ : α → Option Value × aw_H} {f : Option α} {pc : Nat} {lv : List (Option Value)} {st : List Value} {h : aw_H} {i : Fin 4} {x : Int64} (n : Nat) (d : decode cc pc = .ok (.lload_n i, 1)) (hn : pc + 1 = n) (hl : lv[(i : Nat)]? = some (some (.long x))) (k : af cx ρ n lv (.long x :: st) h f) : af cx ρ pc lv st h f := by
  obtain ⟨p, l, e, R, s, m, args, below, meth, c, Q, A, cells, slots, X, nL, Ad⟩ := cx
  subst hn
  intro q hq hr ad H locs ls h1 h2 h3 h4 h5
  exact lv_lload_n K.1 K.2.1 d rfl (h5.2.2 _ _ hl) (k q hq hr ad H locs ls h1 h2 h3 h4 h5)
theorem af_lload {cx : aw_C} {cc : ByteArray} {own : String} {rm : Room} (K : aw_K cx cc own rm) {α : Type} {ρ : α → Option Value × aw_H} {f : Option α} {pc : Nat} {lv : List (Option Value)} {st : List Value} {h : aw_H} {i : Nat} {x : Int64} (n : Nat) (d : decode cc pc = .ok (.lload i, 2)) (hn : pc + 2 = n) (hl : lv[i]? = some (some (.long x))) (k : af cx ρ n lv (.long x :: st) h f) : af cx ρ pc lv st h f := by
  obtain ⟨p, l, e, R, s, m, args, below, meth, c, Q, A, cells, slots, X, nL, Ad⟩ := cx
  subst hn
  intro q hq hr ad H locs ls h1 h2 h3 h4 h5
  exact lv_lload K.1 K.2.1 d (h5.2.2 _ _ hl) (k q hq hr ad H locs ls h1 h2 h3 h4 h5)
theorem af_aload_n {cx : aw_C} {cc : ByteArray} {own : String} {rm : Room} (K : aw_K cx cc own rm) {α : Type} {ρ : α → Option Value × aw_H} {f : Option α} {pc : Nat} {lv : List (Option Value)} {st : List Value} {h : aw_H} {i : Fin 4} {x : Nat} (n : Nat) (d : decode cc pc = .ok (.aload_n i, 1)) (hn : pc + 1 = n) (hl : lv[(i : Nat)]? = some (some (.ref x))) (k : af cx ρ n lv (.ref x :: st) h f) : af cx ρ pc lv st h f := by
  obtain ⟨p, l, e, R, s, m, args, below, meth, c, Q, A, cells, slots, X, nL, Ad⟩ := cx
  subst hn
  intro q hq hr ad H locs ls h1 h2 h3 h4 h5
  exact lv_aload_n K.1 K.2.1 d rfl (h5.2.2 _ _ hl) (k q hq hr ad H locs ls h1 h2 h3 h4 h5)
theorem af_aload {cx : aw_C} {cc : ByteArray} {own : String} {rm : Room} (K : aw_K cx cc own rm) {α : Type} {ρ : α → Option Value × aw_H} {f : Option α} {pc : Nat} {lv : List (Option Value)} {st : List Value} {h : aw_H} {i : Nat} {x : Nat} (n : Nat) (d : decode cc pc = .ok (.aload i, 2)) (hn : pc + 2 = n) (hl : lv[i]? = some (some (.ref x))) (k : af cx ρ n lv (.ref x :: st) h f) : af cx ρ pc lv st h f := by
  obtain ⟨p, l, e, R, s, m, args, below, meth, c, Q, A, cells, slots, X, nL, Ad⟩ := cx
  subst hn
  intro q hq hr ad H locs ls h1 h2 h3 h4 h5
  exact lv_aload K.1 K.2.1 d (h5.2.2 _ _ hl) (k q hq hr ad H locs ls h1 h2 h3 h4 h5)
theorem af_ldc {cx : aw_C} {cc : ByteArray} {own : String} {rm : Room} (K : aw_K cx cc own rm) {α : Type} {ρ : α → Option Value × aw_H} {f : Option α} {pc : Nat} {lv : List (Option Value)} {st : List Value} {h : aw_H} {i : Nat} {v : Int32} (n : Nat) (d : decode cc pc = .ok (.ldc i, 2)) (hn : pc + 2 = n) (hw : Jvm.Cond.constant own i v ∈ aw_tb) (k : af cx ρ n lv (.int v :: st) h f) : af cx ρ pc lv st h f := by
  obtain ⟨p, l, e, R, s, m, args, below, meth, c, Q, A, cells, slots, X, nL, Ad⟩ := cx
  subst hn
  intro q hq hr ad H locs ls h1 h2 h3 h4 h5
  exact lv_ldc K.1 K.2.1 K.2.2.2.1 (K.2.2.2.2.1 _ hw) d (k q hq hr ad H locs ls h1 h2 h3 h4 h5)
theorem af_ldcw {cx : aw_C} {cc : ByteArray} {own : String} {rm : Room} (K : aw_K cx cc own rm) {α : Type} {ρ : α → Option Value × aw_H} {f : Option α} {pc : Nat} {lv : List (Option Value)} {st : List Value} {h : aw_H} {i : Nat} {v : Int32} (n : Nat) (d : decode cc pc = .ok (.ldc_w i, 3)) (hn : pc + 3 = n) (hw : Jvm.Cond.constant own i v ∈ aw_tb) (k : af cx ρ n lv (.int v :: st) h f) : af cx ρ pc lv st h f := by
  obtain ⟨p, l, e, R, s, m, args, below, meth, c, Q, A, cells, slots, X, nL, Ad⟩ := cx
  subst hn
  intro q hq hr ad H locs ls h1 h2 h3 h4 h5
  exact lv_ldcw K.1 K.2.1 K.2.2.2.1 (K.2.2.2.2.1 _ hw) d (k q hq hr ad H locs ls h1 h2 h3 h4 h5)
theorem af_ldc2 {cx : aw_C} {cc : ByteArray} {own : String} {rm : Room} (K : aw_K cx cc own rm) {α : Type} {ρ : α → Option Value × aw_H} {f : Option α} {pc : Nat} {lv : List (Option Value)} {st : List Value} {h : aw_H} {i : Nat} {v : Int64} (n : Nat) (d : decode cc pc = .ok (.ldc2_w i, 3)) (hn : pc + 3 = n) (hw : Jvm.Cond.constantLong own i v ∈ aw_tb) (k : af cx ρ n lv (.long v :: st) h f) : af cx ρ pc lv st h f := by
  obtain ⟨p, l, e, R, s, m, args, below, meth, c, Q, A, cells, slots, X, nL, Ad⟩ := cx
  subst hn
  intro q hq hr ad H locs ls h1 h2 h3 h4 h5
  exact lv_ldc2 K.1 K.2.1 K.2.2.2.1 (K.2.2.2.2.1 _ hw) d (k q hq hr ad H locs ls h1 h2 h3 h4 h5)
theorem af_dup {cx : aw_C} {cc : ByteArray} {own : String} {rm : Room} (K : aw_K cx cc own rm) {α : Type} {ρ : α → Option Value × aw_H} {f : Option α} {pc : Nat} {lv : List (Option Value)} {st : List Value} {h : aw_H} {v : Value} (n : Nat) (d : decode cc pc = .ok (.dup, 1)) (hn : pc + 1 = n) (hc : v.category = 1) (k : af cx ρ n lv (v :: v :: st) h f) : af cx ρ pc lv (v :: st) h f := by
  obtain ⟨p, l, e, R, s, m, args, below, meth, c, Q, A, cells, slots, X, nL, Ad⟩ := cx
  subst hn
  intro q hq hr ad H locs ls h1 h2 h3 h4 h5
  exact lv_dup K.1 K.2.1 d (by rw [aw_cat]; exact hc) (k q hq hr ad H locs ls h1 h2 h3 h4 h5)
theorem af_pop {cx : aw_C} {cc : ByteArray} {own : String} {rm : Room} (K : aw_K cx cc own rm) {α : Type} {ρ : α → Option Value × aw_H} {f : Option α} {pc : Nat} {lv : List (Option Value)} {st : List Value} {h : aw_H} {v : Value} (n : Nat) (d : decode cc pc = .ok (.pop, 1)) (hn : pc + 1 = n) (hc : v.category = 1) (k : af cx ρ n lv st h f) : af cx ρ pc lv (v :: st) h f := by
  obtain ⟨p, l, e, R, s, m, args, below, meth, c, Q, A, cells, slots, X, nL, Ad⟩ := cx
  subst hn
  intro q hq hr ad H locs ls h1 h2 h3 h4 h5
  exact lv_pop K.1 K.2.1 d (by rw [aw_cat]; exact hc) (k q hq hr ad H locs ls h1 h2 h3 h4 h5)
theorem af_dup2 {cx : aw_C} {cc : ByteArray} {own : String} {rm : Room} (K : aw_K cx cc own rm) {α : Type} {ρ : α → Option Value × aw_H} {f : Option α} {pc : Nat} {lv : List (Option Value)} {st : List Value} {h : aw_H} {v w : Value} (n : Nat) (d : decode cc pc = .ok (.dup2, 1)) (hn : pc + 1 = n) (hc : v.category = 1) (hc2 : w.category = 1) (k : af cx ρ n lv (v :: w :: v :: w :: st) h f) : af cx ρ pc lv (v :: w :: st) h f := by
  obtain ⟨p, l, e, R, s, m, args, below, meth, c, Q, A, cells, slots, X, nL, Ad⟩ := cx
  subst hn
  intro q hq hr ad H locs ls h1 h2 h3 h4 h5
  exact lv_dup2_11 K.1 K.2.1 d (by rw [aw_cat]; exact hc) (by rw [aw_cat]; exact hc2) (k q hq hr ad H locs ls h1 h2 h3 h4 h5)
theorem af_lcmp {cx : aw_C} {cc : ByteArray} {own : String} {rm : Room} (K : aw_K cx cc own rm) {α : Type} {ρ : α → Option Value × aw_H} {f : Option α} {pc : Nat} {lv : List (Option Value)} {st : List Value} {h : aw_H} {x y : Int64} (n : Nat) (d : decode cc pc = .ok (.lcmp, 1)) (hn : pc + 1 = n) (k : af cx ρ n lv (.int (lg_cmp x y) :: st) h f) : af cx ρ pc lv (.long y :: .long x :: st) h f := by
  obtain ⟨p, l, e, R, s, m, args, below, meth, c, Q, A, cells, slots, X, nL, Ad⟩ := cx
  subst hn
  intro q hq hr ad H locs ls h1 h2 h3 h4 h5
  exact W.lcmp K.1 K.2.1 d (k q hq hr ad H locs ls h1 h2 h3 h4 h5)
theorem af_goto {cx : aw_C} {cc : ByteArray} {own : String} {rm : Room} (K : aw_K cx cc own rm) {α : Type} {ρ : α → Option Value × aw_H} {f : Option α} {pc : Nat} {lv : List (Option Value)} {st : List Value} {h : aw_H} {off : Int} (n : Nat) (d : decode cc pc = .ok (.goto off, 3)) (hn : (pc : Int) + off = (n : Int)) (k : af cx ρ n lv st h f) : af cx ρ pc lv st h f := by
  obtain ⟨p, l, e, R, s, m, args, below, meth, c, Q, A, cells, slots, X, nL, Ad⟩ := cx
  intro q hq hr ad H locs ls h1 h2 h3 h4 h5
  exact lv_goto K.1 K.2.1 d hn (k q hq hr ad H locs ls h1 h2 h3 h4 h5)
theorem af_if_eq {cx : aw_C} {cc : ByteArray} {own : String} {rm : Room} (K : aw_K cx cc own rm) {α : Type} {ρ : α → Option Value × aw_H} {f g : Option α} {pc : Nat} {lv : List (Option Value)} {st : List Value} {h : aw_H} {x y : Int32} {off : Int} (n t : Nat) (d : decode cc pc = .ok (.ifCond .eq off, 3)) (hn : pc + 3 = n) (ht : (pc : Int) + off = (t : Int)) (kt : x = 0 → af cx ρ t lv st h f) (kf : ¬ (x = 0) → af cx ρ n lv st h g) : af cx ρ pc lv (.int x :: st) h (if x = 0 then f else g) := by
  obtain ⟨p, l, e, R, s, m, args, below, meth, c, Q, A, cells, slots, X, nL, Ad⟩ := cx
  subst hn
  intro q hq hr ad H locs ls h1 h2 h3 h4 h5
  by_cases hc : x = 0
  · rw [if_pos hc] at hq
    refine lv_if_eq K.1 K.2.1 d ht (fun _ => kt hc q hq hr ad H locs ls h1 h2 h3 h4 h5) (fun hc' => absurd ?_ hc')
    exact hc
  · rw [if_neg hc] at hq
    refine lv_if_eq K.1 K.2.1 d ht (fun hc' => absurd ?_ hc) (fun _ => kf hc q hq hr ad H locs ls h1 h2 h3 h4 h5)
    exact hc'
theorem af_icmp_eq {cx : aw_C} {cc : ByteArray} {own : String} {rm : Room} (K : aw_K cx cc own rm) {α : Type} {ρ : α → Option Value × aw_H} {f g : Option α} {pc : Nat} {lv : List (Option Value)} {st : List Value} {h : aw_H} {x y : Int32} {off : Int} (n t : Nat) (d : decode cc pc = .ok (.if_icmp .eq off, 3)) (hn : pc + 3 = n) (ht : (pc : Int) + off = (t : Int)) (kt : x = y → af cx ρ t lv st h f) (kf : ¬ (x = y) → af cx ρ n lv st h g) : af cx ρ pc lv (.int y :: .int x :: st) h (if x = y then f else g) := by
  obtain ⟨p, l, e, R, s, m, args, below, meth, c, Q, A, cells, slots, X, nL, Ad⟩ := cx
  subst hn
  intro q hq hr ad H locs ls h1 h2 h3 h4 h5
  by_cases hc : x = y
  · rw [if_pos hc] at hq
    refine lv_icmp_eq K.1 K.2.1 d ht (fun _ => kt hc q hq hr ad H locs ls h1 h2 h3 h4 h5) (fun hc' => absurd ?_ hc')
    exact hc
  · rw [if_neg hc] at hq
    refine lv_icmp_eq K.1 K.2.1 d ht (fun hc' => absurd ?_ hc) (fun _ => kf hc q hq hr ad H locs ls h1 h2 h3 h4 h5)
    exact hc'
theorem af_if_lt {cx : aw_C} {cc : ByteArray} {own : String} {rm : Room} (K : aw_K cx cc own rm) {α : Type} {ρ : α → Option Value × aw_H} {f g : Option α} {pc : Nat} {lv : List (Option Value)} {st : List Value} {h : aw_H} {x y : Int32} {off : Int} (n t : Nat) (d : decode cc pc = .ok (.ifCond .lt off, 3)) (hn : pc + 3 = n) (ht : (pc : Int) + off = (t : Int)) (kt : x < 0 → af cx ρ t lv st h f) (kf : ¬ (x < 0) → af cx ρ n lv st h g) : af cx ρ pc lv (.int x :: st) h (if x < 0 then f else g) := by
  obtain ⟨p, l, e, R, s, m, args, below, meth, c, Q, A, cells, slots, X, nL, Ad⟩ := cx
  subst hn
  intro q hq hr ad H locs ls h1 h2 h3 h4 h5
  by_cases hc : x < 0
  · rw [if_pos hc] at hq
    refine lv_if_lt K.1 K.2.1 d ht (fun _ => kt hc q hq hr ad H locs ls h1 h2 h3 h4 h5) (fun hc' => absurd ?_ hc')
    exact hc
  · rw [if_neg hc] at hq
    refine lv_if_lt K.1 K.2.1 d ht (fun hc' => absurd ?_ hc) (fun _ => kf hc q hq hr ad H locs ls h1 h2 h3 h4 h5)
    exact hc'
theorem af_icmp_lt {cx : aw_C} {cc : ByteArray} {own : String} {rm : Room} (K : aw_K cx cc own rm) {α : Type} {ρ : α → Option Value × aw_H} {f g : Option α} {pc : Nat} {lv : List (Option Value)} {st : List Value} {h : aw_H} {x y : Int32} {off : Int} (n t : Nat) (d : decode cc pc = .ok (.if_icmp .lt off, 3)) (hn : pc + 3 = n) (ht : (pc : Int) + off = (t : Int)) (kt : x < y → af cx ρ t lv st h f) (kf : ¬ (x < y) → af cx ρ n lv st h g) : af cx ρ pc lv (.int y :: .int x :: st) h (if x < y then f else g) := by
  obtain ⟨p, l, e, R, s, m, args, below, meth, c, Q, A, cells, slots, X, nL, Ad⟩ := cx
  subst hn
  intro q hq hr ad H locs ls h1 h2 h3 h4 h5
  by_cases hc : x < y
  · rw [if_pos hc] at hq
    refine lv_icmp_lt K.1 K.2.1 d ht (fun _ => kt hc q hq hr ad H locs ls h1 h2 h3 h4 h5) (fun hc' => absurd ?_ hc')
    exact hc
  · rw [if_neg hc] at hq
    refine lv_icmp_lt K.1 K.2.1 d ht (fun hc' => absurd ?_ hc) (fun _ => kf hc q hq hr ad H locs ls h1 h2 h3 h4 h5)
    exact hc'
theorem af_if_ge {cx : aw_C} {cc : ByteArray} {own : String} {rm : Room} (K : aw_K cx cc own rm) {α : Type} {ρ : α → Option Value × aw_H} {f g : Option α} {pc : Nat} {lv : List (Option Value)} {st : List Value} {h : aw_H} {x y : Int32} {off : Int} (n t : Nat) (d : decode cc pc = .ok (.ifCond .ge off, 3)) (hn : pc + 3 = n) (ht : (pc : Int) + off = (t : Int)) (kt : 0 ≤ x → af cx ρ t lv st h f) (kf : ¬ (0 ≤ x) → af cx ρ n lv st h g) : af cx ρ pc lv (.int x :: st) h (if 0 ≤ x then f else g) := by
  obtain ⟨p, l, e, R, s, m, args, below, meth, c, Q, A, cells, slots, X, nL, Ad⟩ := cx
  subst hn
  intro q hq hr ad H locs ls h1 h2 h3 h4 h5
  by_cases hc : 0 ≤ x
  · rw [if_pos hc] at hq
    refine lv_if_ge K.1 K.2.1 d ht (fun _ => kt hc q hq hr ad H locs ls h1 h2 h3 h4 h5) (fun hc' => absurd ?_ hc')
    exact hc
  · rw [if_neg hc] at hq
    refine lv_if_ge K.1 K.2.1 d ht (fun hc' => absurd ?_ hc) (fun _ => kf hc q hq hr ad H locs ls h1 h2 h3 h4 h5)
    exact hc'
theorem af_icmp_ge {cx : aw_C} {cc : ByteArray} {own : String} {rm : Room} (K : aw_K cx cc own rm) {α : Type} {ρ : α → Option Value × aw_H} {f g : Option α} {pc : Nat} {lv : List (Option Value)} {st : List Value} {h : aw_H} {x y : Int32} {off : Int} (n t : Nat) (d : decode cc pc = .ok (.if_icmp .ge off, 3)) (hn : pc + 3 = n) (ht : (pc : Int) + off = (t : Int)) (kt : y ≤ x → af cx ρ t lv st h f) (kf : ¬ (y ≤ x) → af cx ρ n lv st h g) : af cx ρ pc lv (.int y :: .int x :: st) h (if y ≤ x then f else g) := by
  obtain ⟨p, l, e, R, s, m, args, below, meth, c, Q, A, cells, slots, X, nL, Ad⟩ := cx
  subst hn
  intro q hq hr ad H locs ls h1 h2 h3 h4 h5
  by_cases hc : y ≤ x
  · rw [if_pos hc] at hq
    refine lv_icmp_ge K.1 K.2.1 d ht (fun _ => kt hc q hq hr ad H locs ls h1 h2 h3 h4 h5) (fun hc' => absurd ?_ hc')
    exact hc
  · rw [if_neg hc] at hq
    refine lv_icmp_ge K.1 K.2.1 d ht (fun hc' => absurd ?_ hc) (fun _ => kf hc q hq hr ad H locs ls h1 h2 h3 h4 h5)
    exact hc'
theorem af_if_gt {cx : aw_C} {cc : ByteArray} {own : String} {rm : Room} (K : aw_K cx cc own rm) {α : Type} {ρ : α → Option Value × aw_H} {f g : Option α} {pc : Nat} {lv : List (Option Value)} {st : List Value} {h : aw_H} {x y : Int32} {off : Int} (n t : Nat) (d : decode cc pc = .ok (.ifCond .gt off, 3)) (hn : pc + 3 = n) (ht : (pc : Int) + off = (t : Int)) (kt : 0 < x → af cx ρ t lv st h f) (kf : ¬ (0 < x) → af cx ρ n lv st h g) : af cx ρ pc lv (.int x :: st) h (if 0 < x then f else g) := by
  obtain ⟨p, l, e, R, s, m, args, below, meth, c, Q, A, cells, slots, X, nL, Ad⟩ := cx
  subst hn
  intro q hq hr ad H locs ls h1 h2 h3 h4 h5
  by_cases hc : 0 < x
  · rw [if_pos hc] at hq
    refine lv_if_gt K.1 K.2.1 d ht (fun _ => kt hc q hq hr ad H locs ls h1 h2 h3 h4 h5) (fun hc' => absurd ?_ hc')
    exact hc
  · rw [if_neg hc] at hq
    refine lv_if_gt K.1 K.2.1 d ht (fun hc' => absurd ?_ hc) (fun _ => kf hc q hq hr ad H locs ls h1 h2 h3 h4 h5)
    exact hc'
theorem af_icmp_gt {cx : aw_C} {cc : ByteArray} {own : String} {rm : Room} (K : aw_K cx cc own rm) {α : Type} {ρ : α → Option Value × aw_H} {f g : Option α} {pc : Nat} {lv : List (Option Value)} {st : List Value} {h : aw_H} {x y : Int32} {off : Int} (n t : Nat) (d : decode cc pc = .ok (.if_icmp .gt off, 3)) (hn : pc + 3 = n) (ht : (pc : Int) + off = (t : Int)) (kt : y < x → af cx ρ t lv st h f) (kf : ¬ (y < x) → af cx ρ n lv st h g) : af cx ρ pc lv (.int y :: .int x :: st) h (if y < x then f else g) := by
  obtain ⟨p, l, e, R, s, m, args, below, meth, c, Q, A, cells, slots, X, nL, Ad⟩ := cx
  subst hn
  intro q hq hr ad H locs ls h1 h2 h3 h4 h5
  by_cases hc : y < x
  · rw [if_pos hc] at hq
    refine lv_icmp_gt K.1 K.2.1 d ht (fun _ => kt hc q hq hr ad H locs ls h1 h2 h3 h4 h5) (fun hc' => absurd ?_ hc')
    exact hc
  · rw [if_neg hc] at hq
    refine lv_icmp_gt K.1 K.2.1 d ht (fun hc' => absurd ?_ hc) (fun _ => kf hc q hq hr ad H locs ls h1 h2 h3 h4 h5)
    exact hc'
theorem af_if_le {cx : aw_C} {cc : ByteArray} {own : String} {rm : Room} (K : aw_K cx cc own rm) {α : Type} {ρ : α → Option Value × aw_H} {f g : Option α} {pc : Nat} {lv : List (Option Value)} {st : List Value} {h : aw_H} {x y : Int32} {off : Int} (n t : Nat) (d : decode cc pc = .ok (.ifCond .le off, 3)) (hn : pc + 3 = n) (ht : (pc : Int) + off = (t : Int)) (kt : x ≤ 0 → af cx ρ t lv st h f) (kf : ¬ (x ≤ 0) → af cx ρ n lv st h g) : af cx ρ pc lv (.int x :: st) h (if x ≤ 0 then f else g) := by
  obtain ⟨p, l, e, R, s, m, args, below, meth, c, Q, A, cells, slots, X, nL, Ad⟩ := cx
  subst hn
  intro q hq hr ad H locs ls h1 h2 h3 h4 h5
  by_cases hc : x ≤ 0
  · rw [if_pos hc] at hq
    refine lv_if_le K.1 K.2.1 d ht (fun _ => kt hc q hq hr ad H locs ls h1 h2 h3 h4 h5) (fun hc' => absurd ?_ hc')
    exact hc
  · rw [if_neg hc] at hq
    refine lv_if_le K.1 K.2.1 d ht (fun hc' => absurd ?_ hc) (fun _ => kf hc q hq hr ad H locs ls h1 h2 h3 h4 h5)
    exact hc'
theorem af_icmp_le {cx : aw_C} {cc : ByteArray} {own : String} {rm : Room} (K : aw_K cx cc own rm) {α : Type} {ρ : α → Option Value × aw_H} {f g : Option α} {pc : Nat} {lv : List (Option Value)} {st : List Value} {h : aw_H} {x y : Int32} {off : Int} (n t : Nat) (d : decode cc pc = .ok (.if_icmp .le off, 3)) (hn : pc + 3 = n) (ht : (pc : Int) + off = (t : Int)) (kt : x ≤ y → af cx ρ t lv st h f) (kf : ¬ (x ≤ y) → af cx ρ n lv st h g) : af cx ρ pc lv (.int y :: .int x :: st) h (if x ≤ y then f else g) := by
  obtain ⟨p, l, e, R, s, m, args, below, meth, c, Q, A, cells, slots, X, nL, Ad⟩ := cx
  subst hn
  intro q hq hr ad H locs ls h1 h2 h3 h4 h5
  by_cases hc : x ≤ y
  · rw [if_pos hc] at hq
    refine lv_icmp_le K.1 K.2.1 d ht (fun _ => kt hc q hq hr ad H locs ls h1 h2 h3 h4 h5) (fun hc' => absurd ?_ hc')
    exact hc
  · rw [if_neg hc] at hq
    refine lv_icmp_le K.1 K.2.1 d ht (fun hc' => absurd ?_ hc) (fun _ => kf hc q hq hr ad H locs ls h1 h2 h3 h4 h5)
    exact hc'
theorem af_if_ne {cx : aw_C} {cc : ByteArray} {own : String} {rm : Room} (K : aw_K cx cc own rm) {α : Type} {ρ : α → Option Value × aw_H} {f g : Option α} {pc : Nat} {lv : List (Option Value)} {st : List Value} {h : aw_H} {x y : Int32} {off : Int} (n t : Nat) (d : decode cc pc = .ok (.ifCond .ne off, 3)) (hn : pc + 3 = n) (ht : (pc : Int) + off = (t : Int)) (kt : ¬ x = 0 → af cx ρ t lv st h f) (kf : x = 0 → af cx ρ n lv st h g) : af cx ρ pc lv (.int x :: st) h (if x = 0 then g else f) := by
  obtain ⟨p, l, e, R, s, m, args, below, meth, c, Q, A, cells, slots, X, nL, Ad⟩ := cx
  subst hn
  intro q hq hr ad H locs ls h1 h2 h3 h4 h5
  by_cases hc : x = 0
  · rw [if_pos hc] at hq
    exact lv_if_ne K.1 K.2.1 d ht (fun hc' => absurd hc hc') (fun _ => kf hc q hq hr ad H locs ls h1 h2 h3 h4 h5)
  · rw [if_neg hc] at hq
    exact lv_if_ne K.1 K.2.1 d ht (fun _ => kt hc q hq hr ad H locs ls h1 h2 h3 h4 h5) (fun hc' => absurd hc' hc)
theorem af_icmp_ne {cx : aw_C} {cc : ByteArray} {own : String} {rm : Room} (K : aw_K cx cc own rm) {α : Type} {ρ : α → Option Value × aw_H} {f g : Option α} {pc : Nat} {lv : List (Option Value)} {st : List Value} {h : aw_H} {x y : Int32} {off : Int} (n t : Nat) (d : decode cc pc = .ok (.if_icmp .ne off, 3)) (hn : pc + 3 = n) (ht : (pc : Int) + off = (t : Int)) (kt : ¬ x = y → af cx ρ t lv st h f) (kf : x = y → af cx ρ n lv st h g) : af cx ρ pc lv (.int y :: .int x :: st) h (if x = y then g else f) := by
  obtain ⟨p, l, e, R, s, m, args, below, meth, c, Q, A, cells, slots, X, nL, Ad⟩ := cx
  subst hn
  intro q hq hr ad H locs ls h1 h2 h3 h4 h5
  by_cases hc : x = y
  · rw [if_pos hc] at hq
    exact lv_icmp_ne K.1 K.2.1 d ht (fun hc' => absurd hc hc') (fun _ => kf hc q hq hr ad H locs ls h1 h2 h3 h4 h5)
  · rw [if_neg hc] at hq
    exact lv_icmp_ne K.1 K.2.1 d ht (fun _ => kt hc q hq hr ad H locs ls h1 h2 h3 h4 h5) (fun hc' => absurd hc' hc)
end
section
/-! ===== terms that methods compute: out of bounds is none ===== -/
abbrev fk_T : Type := (Nat → Nat → Int32) × Int64
def fk_w (σ : fk_T) (a : Nat) (g : Nat → Int32) : fk_T := (fun x => if x = a then g else σ.1 x, σ.2)
def fk_A {α : Type} (g : Nat → Int32) (n : Nat) (i : Int32) (k : Int32 → Option α) : Option α := if i < 0 ∨ n ≤ i.toNatClampNeg then none else k (g i.toNatClampNeg)
def fk_S {α : Type} (σ : fk_T) (a n : Nat) (i x : Int32) (k : fk_T → Option α) : Option α := if i < 0 ∨ n ≤ i.toNatClampNeg then none else k (fk_w σ a (upd (σ.1 a) i.toNatClampNeg x))
def fk_D {α : Type} (y : Int32) (k : Option α) : Option α := if y = 0 then none else k
def fk_B {α β : Type} (x : β) (k : β → Option α) : Option α := k x
def fk_b (b : Bool) : Int32 := if b then 1 else 0
/-! ===== the world of 37 cells: 26 of the class, 11 of the reference ===== -/
abbrev hp_p (b : Nat) (g : Nat → Int32) : aw_E := .inr (0, [.int (g 0), .int (g 1), .int (g 2), .int (g 3), .int (g 4), .int (g 5), .int (g 6), .ref (b + 1), .ref (b + 2), .ref (b + 3), .ref (b + 4)])
def hp_c (a : Nat) (g : Nat → Int32) (v : Int64) : aw_E := match a with
  | 0 => .inr (4, [.ref 1, .ref 6, .ref 11, .int (g 3), .ref 16, .ref 18, .ref 21, .ref 25])
  | 1 => hp_p 1 g
  | 2 => .inl (false, 6, g)
  | 3 => .inl (false, 48, g)
  | 4 => .inl (false, 64, g)
  | 5 => .inl (false, 10, g)
  | 6 => hp_p 6 g
  | 7 => .inl (false, 6, g)
  | 8 => .inl (false, 48, g)
  | 9 => .inl (false, 64, g)
  | 10 => .inl (false, 10, g)
  | 11 => hp_p 11 g
  | 12 => .inl (false, 6, g)
  | 13 => .inl (false, 48, g)
  | 14 => .inl (false, 64, g)
  | 15 => .inl (false, 10, g)
  | 16 => .inr (3, [.ref 17, .int (g 1)])
  | 17 => .inl (false, 120, g)
  | 18 => .inr (1, [.ref 16, .ref 6, .ref 19, .ref 20, .int (g 4), .int (g 5)])
  | 19 => .inl (false, 121, g)
  | 20 => .inl (false, 121, g)
  | 21 => .inr (2, [.ref 22, .ref 23, .ref 24])
  | 22 => .inl (false, 4, g)
  | 23 => .inl (false, 4, g)
  | 24 => .inl (false, 160, g)
  | 25 => .inl (false, 7, g)
  | 26 => .inr (5, [.ref 27, .ref 28, .ref 29, .ref 30, .int (g 4), .ref 31, .ref 32, .int (g 7), .int (g 8), .int (g 9), .int (g 10), .long v, .int (g 12), .ref 33, .ref 34, .ref 35, .ref 36])
  | 27 => .inl (false, 135, g)
  | 28 => .inl (false, 135, g)
  | 29 => .inl (false, 135, g)
  | 30 => .inl (false, 135, g)
  | 31 => .inl (false, 7, g)
  | 32 => .inl (true, 120, g)
  | 33 => .inl (false, 4, g)
  | 34 => .inl (false, 4, g)
  | 35 => .inl (false, 160, g)
  | _ => .inl (false, 40, g)
def hp (σ : fk_T) : aw_H := (List.range 37).map (fun a => hp_c a (σ.1 a) σ.2)
def hp_P (b : Nat) : Prop := b = 1 ∨ b = 6 ∨ b = 11
theorem hp_at (σ : fk_T) {a : Nat} (h : a < 37) : (hp σ)[a]? = some (hp_c a (σ.1 a) σ.2) := by
  simp [hp, h]
theorem hp_len (σ : fk_T) : (hp σ).length = 37 := by simp [hp]
theorem hp_set (σ : fk_T) {a : Nat} (h : a < 37) (g : Nat → Int32) : (hp σ).set a (hp_c a g σ.2) = hp (fk_w σ a g) := by
  apply List.ext_getElem?
  intro i
  by_cases hi : i < 37
  · rw [hp_at _ hi]
    by_cases ha : a = i
    · subst ha
      rw [List.getElem?_set_self (by rw [hp_len]; exact h)]
      simp [fk_w]
    · rw [List.getElem?_set_ne ha, hp_at _ hi]
      simp [fk_w, Ne.symm ha]
  · rw [List.getElem?_eq_none (by rw [List.length_set, hp_len]; omega), List.getElem?_eq_none (by rw [hp_len]; omega)]
theorem hp_setv (σ : fk_T) (v : Int64) : (hp σ).set 26 (hp_c 26 (σ.1 26) v) = hp (σ.1, v) := rfl
theorem hp_lt {b : Nat} (h : hp_P b) : b < 37 := by unfold hp_P at h; omega
theorem hp_lt1 {b : Nat} (h : hp_P b) : b + 1 < 37 := by unfold hp_P at h; omega
theorem hp_lt2 {b : Nat} (h : hp_P b) : b + 2 < 37 := by unfold hp_P at h; omega
theorem hp_lt3 {b : Nat} (h : hp_P b) : b + 3 < 37 := by unfold hp_P at h; omega
theorem hp_lt4 {b : Nat} (h : hp_P b) : b + 4 < 37 := by unfold hp_P at h; omega
theorem hp_p0 {b : Nat} (h : hp_P b) (g : Nat → Int32) (v : Int64) : hp_c b g v = hp_p b g := by rcases h with rfl | rfl | rfl <;> rfl
theorem hp_p1 {b : Nat} (h : hp_P b) (g : Nat → Int32) (v : Int64) : hp_c (b + 1) g v = .inl (false, 6, g) := by rcases h with rfl | rfl | rfl <;> rfl
theorem hp_p2 {b : Nat} (h : hp_P b) (g : Nat → Int32) (v : Int64) : hp_c (b + 2) g v = .inl (false, 48, g) := by rcases h with rfl | rfl | rfl <;> rfl
theorem hp_p3 {b : Nat} (h : hp_P b) (g : Nat → Int32) (v : Int64) : hp_c (b + 3) g v = .inl (false, 64, g) := by rcases h with rfl | rfl | rfl <;> rfl
theorem hp_p4 {b : Nat} (h : hp_P b) (g : Nat → Int32) (v : Int64) : hp_c (b + 4) g v = .inl (false, 10, g) := by rcases h with rfl | rfl | rfl <;> rfl
end
section
/-! ===== locals: storing ===== -/
def aw_lw (lv : List (Option Value)) (i : Nat) (v : Value) : List (Option Value) := lv.mapIdx (fun j o => if j = i then some v else if j + 1 = i ∧ (o.map (fun w => w.category)) = some 2 then none else o)
def aw_lw2 (lv : List (Option Value)) (i : Nat) (v : Value) : List (Option Value) := lv.mapIdx (fun j o => if j = i then some v else if j = i + 1 then none else if j + 1 = i ∧ (o.map (fun w => w.category)) = some 2 then none else o)
def aw_lm (lv : List (Option Value)) (bs : List Bool) : List (Option Value) := List.zipWith (fun o b => if b then o else none) lv bs
/-- the values that the locals hold, as the kit lists them -/
def aw_ps (ad : Nat → Nat) (lv : List (Option Value)) : List (Nat × Value) := (lv.mapIdx (fun i o => o.map (fun v => (i, aw_v ad v)))).filterMap id
theorem aw_ps_mem {ad : Nat → Nat} {lv : List (Option Value)} {q : Nat × Value} : q ∈ aw_ps ad lv ↔ ∃ v, lv[q.1]? = some (some v) ∧ q.2 = aw_v ad v := by
  unfold aw_ps
  rw [List.mem_filterMap]
  constructor
  · rintro ⟨o, ho, he⟩
    cases he
    obtain ⟨i, hi⟩ := List.getElem?_of_mem ho
    rw [List.getElem?_mapIdx] at hi
    cases hl : lv[i]? with
    | none => rw [hl] at hi; cases hi
    | some o2 =>
      rw [hl] at hi
      cases o2 with
      | none => cases hi
      | some v => cases hi; exact ⟨v, hl, rfl⟩
  · rintro ⟨v, h1, h2⟩
    refine ⟨some q, List.mem_of_getElem? (i := q.1) ?_, rfl⟩
    rw [List.getElem?_mapIdx, h1]
    obtain ⟨a, b⟩ := q
    cases h2
    rfl
theorem aw_L.has {ad : Nat → Nat} {nL : Nat} {lv : List (Option Value)} {ls : Array Slot} (h : aw_L ad nL lv ls) : lv_has ls nL (aw_ps ad lv) := by
  refine ⟨h.1, h.2.1, fun q hq => ?_⟩
  obtain ⟨v, h1, h2⟩ := aw_ps_mem.mp hq
  rw [h2]
  exact h.2.2 _ _ h1
theorem aw_L.store {ad : Nat → Nat} {nL : Nat} {lv : List (Option Value)} {ls' : Array Slot} {i : Nat} {v : Value} (h : lv_has ls' nL ((i, aw_v ad v) :: (aw_ps ad lv).filter (fun q => !(q.1 == i) && !(q.1 + 1 == i && q.2.category == 2)))) : aw_L ad nL (aw_lw lv i v) ls' := by
  refine ⟨h.1, h.2.1, fun j w hj => ?_⟩
  unfold aw_lw at hj
  rw [List.getElem?_mapIdx] at hj
  cases hl : lv[j]? with
  | none => rw [hl] at hj; cases hj
  | some o =>
    rw [hl] at hj
    simp only [Option.map_some, Option.some.injEq] at hj
    by_cases h1 : j = i
    · rw [if_pos h1] at hj
      cases hj
      subst h1
      exact h.2.2 (j, aw_v ad v) List.mem_cons_self
    · rw [if_neg h1] at hj
      by_cases h2 : j + 1 = i ∧ o.map (fun w => w.category) = some 2
      · rw [if_pos h2] at hj; cases hj
      · rw [if_neg h2] at hj
        subst hj
        refine h.2.2 (j, aw_v ad w) (List.mem_cons_of_mem _ (List.mem_filter.mpr ⟨aw_ps_mem.mpr ⟨w, hl, rfl⟩, ?_⟩))
        simp only [Option.map_some, Option.some.injEq] at h2
        simp only [aw_cat, Bool.and_eq_true, Bool.not_eq_true', beq_eq_false_iff_ne, ne_eq, Bool.and_eq_false_iff]
        refine ⟨h1, ?_⟩
        by_cases h3 : j + 1 = i
        · exact Or.inr (fun h4 => h2 ⟨h3, h4⟩)
        · exact Or.inl h3
theorem aw_L.store2 {ad : Nat → Nat} {nL : Nat} {lv : List (Option Value)} {ls' : Array Slot} {i : Nat} {v : Value} (h : lv_has ls' nL ((i, aw_v ad v) :: (aw_ps ad lv).filter (fun q => !(q.1 == i) && (!(q.1 == i + 1) && !(q.1 + 1 == i && q.2.category == 2))))) : aw_L ad nL (aw_lw2 lv i v) ls' := by
  refine ⟨h.1, h.2.1, fun j w hj => ?_⟩
  unfold aw_lw2 at hj
  rw [List.getElem?_mapIdx] at hj
  cases hl : lv[j]? with
  | none => rw [hl] at hj; cases hj
  | some o =>
    rw [hl] at hj
    simp only [Option.map_some, Option.some.injEq] at hj
    by_cases h1 : j = i
    · rw [if_pos h1] at hj
      cases hj
      subst h1
      exact h.2.2 (j, aw_v ad v) List.mem_cons_self
    · rw [if_neg h1] at hj
      by_cases h1' : j = i + 1
      · rw [if_pos h1'] at hj; cases hj
      rw [if_neg h1'] at hj
      by_cases h2 : j + 1 = i ∧ o.map (fun w => w.category) = some 2
      · rw [if_pos h2] at hj; cases hj
      · rw [if_neg h2] at hj
        subst hj
        refine h.2.2 (j, aw_v ad w) (List.mem_cons_of_mem _ (List.mem_filter.mpr ⟨aw_ps_mem.mpr ⟨w, hl, rfl⟩, ?_⟩))
        simp only [Option.map_some, Option.some.injEq] at h2
        simp only [aw_cat, Bool.and_eq_true, Bool.not_eq_true', beq_eq_false_iff_ne, ne_eq, Bool.and_eq_false_iff]
        refine ⟨h1, h1', ?_⟩
        by_cases h3 : j + 1 = i
        · exact Or.inr (fun h4 => h2 ⟨h3, h4⟩)
        · exact Or.inl h3
theorem aw_L.mask {ad : Nat → Nat} {nL : Nat} {lv : List (Option Value)} {ls : Array Slot} (bs : List Bool) (h : aw_L ad nL lv ls) : aw_L ad nL (aw_lm lv bs) ls := by
  refine ⟨h.1, h.2.1, fun j w hj => h.2.2 j w ?_⟩
  unfold aw_lm at hj
  rw [List.getElem?_zipWith] at hj
  cases hl : lv[j]? with
  | none => rw [hl] at hj; cases hj
  | some o =>
    cases hb : bs[j]? with
    | none => rw [hl, hb] at hj; cases hj
    | some b =>
      rw [hl, hb] at hj
      simp only [Option.some.injEq] at hj
      cases b with
      | true => exact congrArg some hj
      | false => cases hj
/-- what the walk no longer needs is forgotten -/
theorem af_lm {cx : aw_C} {α : Type} {ρ : α → Option Value × aw_H} {f : Option α} {pc : Nat} {lv lv' : List (Option Value)} {st : List Value} {h : aw_H} (bs : List Bool) (e : aw_lm lv bs = lv') (k : af cx ρ pc lv' st h f) : af cx ρ pc lv st h f := by
  subst e
  obtain ⟨p, l, e, R, s, m, args, below, meth, c, Q, A, cells, slots, X, nL, Ad⟩ := cx
  exact fun q hq hr ad H locs ls h1 h2 h3 h4 h5 => k q hq hr ad H locs ls h1 h2 h3 h4 (h5.mask bs)
theorem af_istore_n {cx : aw_C} {cc : ByteArray} {own : String} {rm : Room} (K : aw_K cx cc own rm) {α : Type} {ρ : α → Option Value × aw_H} {f : Option α} {pc : Nat} {lv : List (Option Value)} {st : List Value} {h : aw_H} {i : Fin 4} {x : Int32} (n : Nat) (lv' : List (Option Value)) (d : decode cc pc = .ok (.istore_n i, 1)) (hn : pc + 1 = n) (hi : ((i : Nat)) < aw_nL cx) (e : aw_lw lv i (.int x) = lv') (k : af cx ρ n lv' st h f) : af cx ρ pc lv (.int x :: st) h f := by
  subst e
  obtain ⟨p, l, e, R, s, m, args, below, meth, c, Q, A, cells, slots, X, nL, Ad⟩ := cx
  subst hn
  intro q hq hr ad H locs ls h1 h2 h3 h4 h5
  exact lv_istore_n K.1 K.2.1 d rfl h5.has hi rfl (fun ls' hl => k q hq hr ad H locs ls' h1 h2 h3 h4 (aw_L.store hl))
theorem af_istore {cx : aw_C} {cc : ByteArray} {own : String} {rm : Room} (K : aw_K cx cc own rm) {α : Type} {ρ : α → Option Value × aw_H} {f : Option α} {pc : Nat} {lv : List (Option Value)} {st : List Value} {h : aw_H} {i : Nat} {x : Int32} (n : Nat) (lv' : List (Option Value)) (d : decode cc pc = .ok (.istore i, 2)) (hn : pc + 2 = n) (hi : i < aw_nL cx) (e : aw_lw lv i (.int x) = lv') (k : af cx ρ n lv' st h f) : af cx ρ pc lv (.int x :: st) h f := by
  subst e
  obtain ⟨p, l, e, R, s, m, args, below, meth, c, Q, A, cells, slots, X, nL, Ad⟩ := cx
  subst hn
  intro q hq hr ad H locs ls h1 h2 h3 h4 h5
  exact lv_istore K.1 K.2.1 d h5.has hi rfl (fun ls' hl => k q hq hr ad H locs ls' h1 h2 h3 h4 (aw_L.store hl))
theorem af_lstore_n {cx : aw_C} {cc : ByteArray} {own : String} {rm : Room} (K : aw_K cx cc own rm) {α : Type} {ρ : α → Option Value × aw_H} {f : Option α} {pc : Nat} {lv : List (Option Value)} {st : List Value} {h : aw_H} {i : Fin 4} {x : Int64} (n : Nat) (lv' : List (Option Value)) (d : decode cc pc = .ok (.lstore_n i, 1)) (hn : pc + 1 = n) (hi : ((i : Nat) + 1) < aw_nL cx) (e : aw_lw2 lv i (.long x) = lv') (k : af cx ρ n lv' st h f) : af cx ρ pc lv (.long x :: st) h f := by
  subst e
  obtain ⟨p, l, e, R, s, m, args, below, meth, c, Q, A, cells, slots, X, nL, Ad⟩ := cx
  subst hn
  intro q hq hr ad H locs ls h1 h2 h3 h4 h5
  exact lv_lstore_n K.1 K.2.1 d rfl h5.has hi rfl (fun ls' hl => k q hq hr ad H locs ls' h1 h2 h3 h4 (aw_L.store2 hl))
theorem af_lstore {cx : aw_C} {cc : ByteArray} {own : String} {rm : Room} (K : aw_K cx cc own rm) {α : Type} {ρ : α → Option Value × aw_H} {f : Option α} {pc : Nat} {lv : List (Option Value)} {st : List Value} {h : aw_H} {i : Nat} {x : Int64} (n : Nat) (lv' : List (Option Value)) (d : decode cc pc = .ok (.lstore i, 2)) (hn : pc + 2 = n) (hi : i + 1 < aw_nL cx) (e : aw_lw2 lv i (.long x) = lv') (k : af cx ρ n lv' st h f) : af cx ρ pc lv (.long x :: st) h f := by
  subst e
  obtain ⟨p, l, e, R, s, m, args, below, meth, c, Q, A, cells, slots, X, nL, Ad⟩ := cx
  subst hn
  intro q hq hr ad H locs ls h1 h2 h3 h4 h5
  exact lv_lstore K.1 K.2.1 d h5.has hi rfl (fun ls' hl => k q hq hr ad H locs ls' h1 h2 h3 h4 (aw_L.store2 hl))
theorem af_astore_n {cx : aw_C} {cc : ByteArray} {own : String} {rm : Room} (K : aw_K cx cc own rm) {α : Type} {ρ : α → Option Value × aw_H} {f : Option α} {pc : Nat} {lv : List (Option Value)} {st : List Value} {h : aw_H} {i : Fin 4} {x : Nat} (n : Nat) (lv' : List (Option Value)) (d : decode cc pc = .ok (.astore_n i, 1)) (hn : pc + 1 = n) (hi : ((i : Nat)) < aw_nL cx) (e : aw_lw lv i (.ref x) = lv') (k : af cx ρ n lv' st h f) : af cx ρ pc lv (.ref x :: st) h f := by
  subst e
  obtain ⟨p, l, e, R, s, m, args, below, meth, c, Q, A, cells, slots, X, nL, Ad⟩ := cx
  subst hn
  intro q hq hr ad H locs ls h1 h2 h3 h4 h5
  exact lv_astore_n K.1 K.2.1 d rfl h5.has hi rfl (fun ls' hl => k q hq hr ad H locs ls' h1 h2 h3 h4 (aw_L.store hl))
theorem af_astore {cx : aw_C} {cc : ByteArray} {own : String} {rm : Room} (K : aw_K cx cc own rm) {α : Type} {ρ : α → Option Value × aw_H} {f : Option α} {pc : Nat} {lv : List (Option Value)} {st : List Value} {h : aw_H} {i : Nat} {x : Nat} (n : Nat) (lv' : List (Option Value)) (d : decode cc pc = .ok (.astore i, 2)) (hn : pc + 2 = n) (hi : i < aw_nL cx) (e : aw_lw lv i (.ref x) = lv') (k : af cx ρ n lv' st h f) : af cx ρ pc lv (.ref x :: st) h f := by
  subst e
  obtain ⟨p, l, e, R, s, m, args, below, meth, c, Q, A, cells, slots, X, nL, Ad⟩ := cx
  subst hn
  intro q hq hr ad H locs ls h1 h2 h3 h4 h5
  exact lv_astore K.1 K.2.1 d h5.has hi rfl (fun ls' hl => k q hq hr ad H locs ls' h1 h2 h3 h4 (aw_L.store hl))
theorem af_iinc {cx : aw_C} {cc : ByteArray} {own : String} {rm : Room} (K : aw_K cx cc own rm) {α : Type} {ρ : α → Option Value × aw_H} {f : Option α} {pc : Nat} {lv : List (Option Value)} {st : List Value} {h : aw_H} {i : Nat} {z : Int} {x v : Int32} (n : Nat) (lv' : List (Option Value)) (d : decode cc pc = .ok (.iinc i z, 3)) (hn : pc + 3 = n) (hi : i < aw_nL cx) (hl : lv[i]? = some (some (.int x))) (hv : x + Int32.ofInt z = v) (e : aw_lw lv i (.int v) = lv') (k : af cx ρ n lv' st h f) : af cx ρ pc lv st h f := by
  subst e
  obtain ⟨p, l, e, R, s, m, args, below, meth, c, Q, A, cells, slots, X, nL, Ad⟩ := cx
  subst hn
  intro q hq hr ad H locs ls h1 h2 h3 h4 h5
  obtain ⟨j, hj⟩ := List.getElem?_of_mem (aw_ps_mem.mpr ⟨.int x, hl, rfl⟩ : (i, aw_v ad (.int x)) ∈ aw_ps ad lv)
  exact lv_iinc K.1 K.2.1 d h5.has hj hv hi rfl (fun ls' hl => k q hq hr ad H locs ls' h1 h2 h3 h4 (aw_L.store hl))
/-! ===== a number gets a name ===== -/
theorem af_B {cx : aw_C} {α β : Type} {ρ : α → Option Value × aw_H} {pc : Nat} {lv : List (Option Value)} {st : List Value} {h : aw_H} {x : β} {kf : β → Option α} (k : af cx ρ pc lv st h (kf x)) : af cx ρ pc lv st h (fk_B x kf) := k
theorem af_Bi {cx : aw_C} {α : Type} {ρ : α → Option Value × aw_H} {pc : Nat} {lv : List (Option Value)} {st : List Value} {h : aw_H} {x : Int32} {kf : Int32 → Option α} (k : ∀ y : Int32, af cx ρ pc lv (.int y :: st) h (kf y)) : af cx ρ pc lv (.int x :: st) h (fk_B x kf) := k x
theorem af_Bl {cx : aw_C} {α : Type} {ρ : α → Option Value × aw_H} {pc : Nat} {lv : List (Option Value)} {st : List Value} {h : aw_H} {x : Int64} {kf : Int64 → Option α} (k : ∀ y : Int64, af cx ρ pc lv (.long y :: st) h (kf y)) : af cx ρ pc lv (.long x :: st) h (fk_B x kf) := k x
theorem af_none {cx : aw_C} {α : Type} {ρ : α → Option Value × aw_H} {pc : Nat} {lv : List (Option Value)} {st : List Value} {h : aw_H} : af cx ρ pc lv st h none := fun _ hq => by cases hq
theorem af_ite {cx : aw_C} {α : Type} {ρ : α → Option Value × aw_H} {f g : Option α} {pc : Nat} {lv : List (Option Value)} {st : List Value} {h : aw_H} {c : Prop} [Decidable c] (kt : c → af cx ρ pc lv st h f) (kf : ¬ c → af cx ρ pc lv st h g) : af cx ρ pc lv st h (if c then f else g) := by
  by_cases hc : c
  · rw [if_pos hc]; exact kt hc
  · rw [if_neg hc]; exact kf hc
/-! ===== division ===== -/
theorem af_idiv {cx : aw_C} {cc : ByteArray} {own : String} {rm : Room} (K : aw_K cx cc own rm) {α : Type} {ρ : α → Option Value × aw_H} {f : Option α} {pc : Nat} {lv : List (Option Value)} {st : List Value} {h : aw_H} {x y : Int32} (n : Nat) (d : decode cc pc = .ok (.idiv, 1)) (hn : pc + 1 = n) (hy : ¬ y = 0) (k : af cx ρ n lv (.int (x / y) :: st) h f) : af cx ρ pc lv (.int y :: .int x :: st) h f := by
  obtain ⟨p, l, e, R, s, m, args, below, meth, c, Q, A, cells, slots, X, nL, Ad⟩ := cx
  subst hn
  intro q hq hr ad H locs ls h1 h2 h3 h4 h5
  exact lv_idiv K.1 K.2.1 d hy (k q hq hr ad H locs ls h1 h2 h3 h4 h5)
theorem af_idivD {cx : aw_C} {cc : ByteArray} {own : String} {rm : Room} (K : aw_K cx cc own rm) {α : Type} {ρ : α → Option Value × aw_H} {f : Option α} {pc : Nat} {lv : List (Option Value)} {st : List Value} {h : aw_H} {x y : Int32} (n : Nat) (d : decode cc pc = .ok (.idiv, 1)) (hn : pc + 1 = n) (k : af cx ρ n lv (.int (x / y) :: st) h f) : af cx ρ pc lv (.int y :: .int x :: st) h (fk_D y f) := by
  by_cases hy : y = 0
  · rw [fk_D, if_pos hy]; exact af_none
  · rw [fk_D, if_neg hy]; exact af_idiv K n d hn hy k
theorem af_irem {cx : aw_C} {cc : ByteArray} {own : String} {rm : Room} (K : aw_K cx cc own rm) {α : Type} {ρ : α → Option Value × aw_H} {f : Option α} {pc : Nat} {lv : List (Option Value)} {st : List Value} {h : aw_H} {x y : Int32} (n : Nat) (d : decode cc pc = .ok (.irem, 1)) (hn : pc + 1 = n) (hy : ¬ y = 0) (k : af cx ρ n lv (.int (x - x / y * y) :: st) h f) : af cx ρ pc lv (.int y :: .int x :: st) h f := by
  obtain ⟨p, l, e, R, s, m, args, below, meth, c, Q, A, cells, slots, X, nL, Ad⟩ := cx
  subst hn
  intro q hq hr ad H locs ls h1 h2 h3 h4 h5
  exact lv_irem K.1 K.2.1 d hy (k q hq hr ad H locs ls h1 h2 h3 h4 h5)
theorem af_iremD {cx : aw_C} {cc : ByteArray} {own : String} {rm : Room} (K : aw_K cx cc own rm) {α : Type} {ρ : α → Option Value × aw_H} {f : Option α} {pc : Nat} {lv : List (Option Value)} {st : List Value} {h : aw_H} {x y : Int32} (n : Nat) (d : decode cc pc = .ok (.irem, 1)) (hn : pc + 1 = n) (k : af cx ρ n lv (.int (x - x / y * y) :: st) h f) : af cx ρ pc lv (.int y :: .int x :: st) h (fk_D y f) := by
  by_cases hy : y = 0
  · rw [fk_D, if_pos hy]; exact af_none
  · rw [fk_D, if_neg hy]; exact af_irem K n d hn hy k
/-! ===== fields ===== -/
theorem aw_good : ∀ w ∈ aw_tb, (w.onTables && w.keeps) = true ∨ ∃ ty, w = .arrayClass ty := fun w hw => good_of_word (List.mem_filter.mp hw).2
/-- a field of a class: the link of own's pool -/
def aw_fl (own : String) (idx ci k : Nat) : Prop := ∃ (C : String) (T : u_T) (N : Nat), aw_cl[ci]? = some (C, T, N) ∧ k < N ∧ (∀ w ∈ u_ws C T N, w ∈ aw_tb) ∧ Jvm.Cond.fieldLink own idx (T k).1 (T k).2.1 (T k).2.2.1 ∈ aw_tb
/-- a field that may be written, of a type -/
def aw_fp (own : String) (idx ci k : Nat) (ty : FieldType) : Prop := ∃ (C : String) (T : u_T) (N : Nat) (t : Nat → FieldType), aw_cl[ci]? = some (C, T, N) ∧ k < N ∧ (∀ w ∈ u_ws C T N, w ∈ aw_tb) ∧ Jvm.Cond.fieldLink own idx (T k).1 (T k).2.1 (T k).2.2.1 ∈ aw_tb ∧ (∀ k, k < N → parseFieldDescriptor (T k).2.2.1 = some (t k)) ∧ (∀ a, a < N → ∀ b, b < N → a ≠ b → (T a).2.1 ≠ (T b).2.1) ∧ (T k).2.2.2 = false ∧ parseFieldDescriptor (T k).2.2.1 = some ty
theorem af_get {cx : aw_C} {cc : ByteArray} {own : String} {rm : Room} (K : aw_K cx cc own rm) {α : Type} {ρ : α → Option Value × aw_H} {f : Option α} {pc : Nat} {lv : List (Option Value)} {st : List Value} {σ : fk_T} {idx ci j a : Nat} {fs : List Value} {v : Value} (n : Nat) (d : decode cc pc = .ok (.getfield idx, 3)) (hn : pc + 3 = n) (F : aw_fl own idx ci j) (ha : a < 37) (hc : hp_c a (σ.1 a) σ.2 = .inr (ci, fs)) (hv : fs[j]? = some v) (k : af cx ρ n lv (v :: st) (hp σ) f) : af cx ρ pc lv (.ref a :: st) (hp σ) f := by
  obtain ⟨p, l, e, R, s, m, args, below, meth, c, Q, A, cells, slots, X, nL, Ad⟩ := cx
  subst hn
  intro q hq hr ad H locs ls h1 h2 h3 h4 h5
  obtain ⟨C, T, N, f1, f2, f3, f4⟩ := F
  exact va_get (D := X.1) (ci := ci) (v := aw_v ad v) (fs := fs.map (aw_v ad)) K.1 K.2.1 K.2.2.2.2.1 f3 K.2.2.2.1 K.2.2.2.2.2.1.1 h2 a (aw_w_at (by rw [hp_at _ ha, hc])) f1 j f2 (K.2.2.2.2.1 _ f4) (fun _ h9 => h9) (by rw [List.getElem?_map, hv]; rfl) d (k q hq hr ad H locs ls h1 h2 h3 h4 h5)
theorem af_putG {cx : aw_C} {cc : ByteArray} {own : String} {rm : Room} (K : aw_K cx cc own rm) {α : Type} {ρ : α → Option Value × aw_H} {f : Option α} {pc : Nat} {lv : List (Option Value)} {st : List Value} {σ : fk_T} {σ' : fk_T} {idx ci j a : Nat} {fs : List Value} {ty : FieldType} {v : Value} (n : Nat) (d : decode cc pc = .ok (.putfield idx, 3)) (hn : pc + 3 = n) (F : aw_fp own idx ci j ty) (ha : a < 37) (hc : hp_c a (σ.1 a) σ.2 = .inr (ci, fs)) (hl : j < fs.length) (hnr : ∀ ad, narrow ty (aw_v ad v) = aw_v ad v) (hft : ∀ ad, fits ty (aw_v ad v) = true) (hs : (hp σ).set a (.inr (ci, fs.set j v)) = hp σ') (k : af cx ρ n lv st (hp σ') f) : af cx ρ pc lv (v :: .ref a :: st) (hp σ) f := by
  obtain ⟨p, l, e, R, s, m, args, below, meth, c, Q, A, cells, slots, X, nL, Ad⟩ := cx
  subst hn
  intro q hq hr ad H locs ls h1 h2 h3 h4 h5
  obtain ⟨C, T, N, t, f1, f2, f3, f4, f5, f6, f7, f8⟩ := F
  refine va_put (D := X.1) (ci := ci) (v := aw_v ad v) (fs := fs.map (aw_v ad)) (ty := ty) K.1 K.2.1 K.2.2.2.2.1 f3 t f5 f6 K.2.2.2.1 K.2.2.2.2.2.1.1 h2 h3 h4 a (aw_w_at (by rw [hp_at _ ha, hc])) f1 j f2 (K.2.2.2.2.1 _ f4) (fun _ h9 => h9) f7 f8 (hnr ad) (hft ad) (by rw [List.length_map]; exact hl) d (fun H1 locs1 g1 g2 g3 => k q hq hr ad H1 locs1 ls h1 ?_ ?_ g3 h5)
  · rw [← hs, ← aw_w_set]
    rw [← List.map_set] at g1
    exact g1
  · rw [← hs, ← aw_w_set]
    rw [← List.map_set] at g2
    exact g2
theorem af_put {cx : aw_C} {cc : ByteArray} {own : String} {rm : Room} (K : aw_K cx cc own rm) {α : Type} {ρ : α → Option Value × aw_H} {kf : fk_T → Option α} {pc : Nat} {lv : List (Option Value)} {st : List Value} {σ : fk_T} {idx ci j a : Nat} {fs : List Value} {x : Int32} (n : Nat) (d : decode cc pc = .ok (.putfield idx, 3)) (hn : pc + 3 = n) (F : aw_fp own idx ci j .int) (ha : a < 37) (hc : hp_c a (σ.1 a) σ.2 = .inr (ci, fs)) (hl : j < fs.length) (hs : hp_c a (upd (σ.1 a) j x) σ.2 = .inr (ci, fs.set j (.int x))) (k : ∀ σ', af cx ρ n lv st (hp σ') (kf σ')) : af cx ρ pc lv (.int x :: .ref a :: st) (hp σ) (fk_B (fk_w σ a (upd (σ.1 a) j x)) kf) := by
  exact af_putG K n d hn F ha hc hl (fun _ => rfl) (fun _ => rfl) (by rw [← hs, hp_set _ ha]) (k _)
theorem af_putZ {cx : aw_C} {cc : ByteArray} {own : String} {rm : Room} (K : aw_K cx cc own rm) {α : Type} {ρ : α → Option Value × aw_H} {kf : fk_T → Option α} {pc : Nat} {lv : List (Option Value)} {st : List Value} {σ : fk_T} {idx ci j a : Nat} {fs : List Value} {b : Bool} {x : Int32} (hb : fk_b b = x) (n : Nat) (d : decode cc pc = .ok (.putfield idx, 3)) (hn : pc + 3 = n) (F : aw_fp own idx ci j .boolean) (ha : a < 37) (hc : hp_c a (σ.1 a) σ.2 = .inr (ci, fs)) (hl : j < fs.length) (hs : hp_c a (upd (σ.1 a) j x) σ.2 = .inr (ci, fs.set j (.int x))) (k : ∀ σ', af cx ρ n lv st (hp σ') (kf σ')) : af cx ρ pc lv (.int x :: .ref a :: st) (hp σ) (fk_B (fk_w σ a (upd (σ.1 a) j x)) kf) := by
  subst hb
  exact af_putG K n d hn F ha hc hl (fun _ => by cases b <;> rfl) (fun _ => by cases b <;> rfl) (by rw [← hs, hp_set _ ha]) (k _)
theorem af_putL {cx : aw_C} {cc : ByteArray} {own : String} {rm : Room} (K : aw_K cx cc own rm) {α : Type} {ρ : α → Option Value × aw_H} {kf : fk_T → Option α} {pc : Nat} {lv : List (Option Value)} {st : List Value} {σ : fk_T} {idx : Nat} {x : Int64} (n : Nat) (d : decode cc pc = .ok (.putfield idx, 3)) (hn : pc + 3 = n) (F : aw_fp own idx 5 11 .long) (k : ∀ σ', af cx ρ n lv st (hp σ') (kf σ')) : af cx ρ pc lv (.long x :: .ref 26 :: st) (hp σ) (fk_B ((σ.1, x) : fk_T) kf) := by
  exact af_putG K n d hn F (a := 26) (Nat.le_of_ble_eq_true rfl) rfl (Nat.le_of_ble_eq_true rfl) (fun _ => rfl) (fun _ => rfl) (by rw [← hp_setv]; rfl) (k _)
/-! ===== arrays ===== -/
theorem af_iald {cx : aw_C} {cc : ByteArray} {own : String} {rm : Room} (K : aw_K cx cc own rm) {α : Type} {ρ : α → Option Value × aw_H} {kf : Int32 → Option α} {pc : Nat} {lv : List (Option Value)} {st : List Value} {σ : fk_T} {a N : Nat} {i : Int32} (n : Nat) (d : decode cc pc = .ok (.iaload, 1)) (hn : pc + 1 = n) (ha : a < 37) (hc : hp_c a (σ.1 a) σ.2 = .inl (false, N, σ.1 a)) (k : ∀ x, af cx ρ n lv (.int x :: st) (hp σ) (kf x)) : af cx ρ pc lv (.int i :: .ref a :: st) (hp σ) (fk_A (σ.1 a) N i kf) := by
  obtain ⟨p, l, e, R, s, m, args, below, meth, c, Q, A, cells, slots, X, nL, Ad⟩ := cx
  subst hn
  intro q hq hr ad H locs ls h1 h2 h3 h4 h5
  unfold fk_A at hq
  by_cases hi : i < 0 ∨ N ≤ i.toNatClampNeg
  · rw [if_pos hi] at hq; cases hq
  · rw [if_neg hi] at hq
    exact va_iald K.1 K.2.1 K.2.2.2.2.2.1.1 h2 a 0 (aw_w_at (e := .inl (false, N, σ.1 a)) (by rw [hp_at _ ha, hc])) rfl hi d (k _ q hq hr ad H locs ls h1 h2 h3 h4 h5)
theorem af_bald {cx : aw_C} {cc : ByteArray} {own : String} {rm : Room} (K : aw_K cx cc own rm) {α : Type} {ρ : α → Option Value × aw_H} {kf : Int32 → Option α} {pc : Nat} {lv : List (Option Value)} {st : List Value} {σ : fk_T} {a N : Nat} {i : Int32} (n : Nat) (d : decode cc pc = .ok (.baload, 1)) (hn : pc + 1 = n) (ha : a < 37) (hc : hp_c a (σ.1 a) σ.2 = .inl (true, N, σ.1 a)) (k : ∀ x, af cx ρ n lv (.int x :: st) (hp σ) (kf x)) : af cx ρ pc lv (.int i :: .ref a :: st) (hp σ) (fk_A (σ.1 a) N i kf) := by
  obtain ⟨p, l, e, R, s, m, args, below, meth, c, Q, A, cells, slots, X, nL, Ad⟩ := cx
  subst hn
  intro q hq hr ad H locs ls h1 h2 h3 h4 h5
  unfold fk_A at hq
  by_cases hi : i < 0 ∨ N ≤ i.toNatClampNeg
  · rw [if_pos hi] at hq; cases hq
  · rw [if_neg hi] at hq
    exact va_bald K.1 K.2.1 K.2.2.2.2.2.1.1 h2 a 1 (aw_w_at (e := .inl (true, N, σ.1 a)) (by rw [hp_at _ ha, hc])) rfl hi d (k _ q hq hr ad H locs ls h1 h2 h3 h4 h5)
theorem af_iald_s {cx : aw_C} {cc : ByteArray} {own : String} {rm : Room} (K : aw_K cx cc own rm) {α : Type} {ρ : α → Option Value × aw_H} {kf : Int32 → Option α} {pc : Nat} {lv : List (Option Value)} {st : List Value} {h : aw_H} {i : Int32} (j : Nat) {x : Nat × String × Nat × List Int32} (hx : aw_sa[j]? = some x) (n : Nat) (d : decode cc pc = .ok (.iaload, 1)) (hn : pc + 1 = n) (h1000 : 1000 ≤ x.1) (k : ∀ y, af cx ρ n lv (.int y :: st) h (kf y)) : af cx ρ pc lv (.int i :: .ref x.1 :: st) h (fk_A (fun j => x.2.2.2.getD j 0) x.2.2.1 i kf) := by
  obtain ⟨p, l, e, R, s, m, args, below, meth, c, Q, A, cells, slots, X, nL, Ad⟩ := cx
  subst hn
  intro q hq hr ad H locs ls h1 h2 h3 h4 h5
  unfold fk_A at hq
  by_cases hi : i < 0 ∨ x.2.2.1 ≤ i.toNatClampNeg
  · rw [if_pos hi] at hq; cases hq
  · rw [if_neg hi] at hq
    have hT := (K.2.2.2.2.2.1.2.2.2.2.1 x (List.mem_of_getElem? hx)).2
    have hS : aw_S X ad := K.2.2.2.2.2.2.2.2.2.2.2 ad h1
    have ee : aw_v ad (.ref x.1) = .ref (X.2.2.2.1 x.1) := by show Value.ref (ad x.1) = _; rw [hS _ h1000]
    show W p l e R s m args below meth c H locs cells slots Q (F0 m pc ls (.int i :: aw_v ad (.ref x.1) :: st.map (aw_v ad)))
    rw [ee]
    exact va_ti K.1 K.2.1 hT h4 hi rfl d (k _ q hq hr ad H locs ls h1 h2 h3 h4 h5)
theorem af_iast {cx : aw_C} {cc : ByteArray} {own : String} {rm : Room} (K : aw_K cx cc own rm) {α : Type} {ρ : α → Option Value × aw_H} {kf : fk_T → Option α} {pc : Nat} {lv : List (Option Value)} {st : List Value} {σ : fk_T} {a N : Nat} {i x : Int32} (n : Nat) (d : decode cc pc = .ok (.iastore, 1)) (hn : pc + 1 = n) (ha : a < 37) (hc : ∀ g v, hp_c a g v = .inl (false, N, g)) (k : ∀ σ', af cx ρ n lv st (hp σ') (kf σ')) : af cx ρ pc lv (.int x :: .int i :: .ref a :: st) (hp σ) (fk_S σ a N i x kf) := by
  obtain ⟨p, l, e, R, s, m, args, below, meth, c, Q, A, cells, slots, X, nL, Ad⟩ := cx
  subst hn
  intro q hq hr ad H locs ls h1 h2 h3 h4 h5
  unfold fk_S at hq
  by_cases hi : i < 0 ∨ N ≤ i.toNatClampNeg
  · rw [if_pos hi] at hq; cases hq
  · rw [if_neg hi] at hq
    refine va_iast (f := σ.1 a) (x := x) K.1 K.2.1 K.2.2.2.2.2.1.1 h2 h3 h4 a 0 (aw_w_at (e := .inl (false, N, σ.1 a)) (by rw [hp_at _ ha, hc])) rfl hi d (fun H1 locs1 g1 g2 g3 => k _ q hq hr ad H1 locs1 ls h1 ?_ ?_ g3 h5)
    · rw [← hp_set _ ha, hc, ← aw_w_set]; exact g1
    · rw [← hp_set _ ha, hc, ← aw_w_set]; exact g2
theorem af_bast {cx : aw_C} {cc : ByteArray} {own : String} {rm : Room} (K : aw_K cx cc own rm) {α : Type} {ρ : α → Option Value × aw_H} {kf : fk_T → Option α} {pc : Nat} {lv : List (Option Value)} {st : List Value} {σ : fk_T} {a N : Nat} {i x : Int32} (n : Nat) (d : decode cc pc = .ok (.bastore, 1)) (hn : pc + 1 = n) (ha : a < 37) (hc : ∀ g v, hp_c a g v = .inl (true, N, g)) (k : ∀ σ', af cx ρ n lv st (hp σ') (kf σ')) : af cx ρ pc lv (.int x :: .int i :: .ref a :: st) (hp σ) (fk_S σ a N i x.toInt8.toInt32 kf) := by
  obtain ⟨p, l, e, R, s, m, args, below, meth, c, Q, A, cells, slots, X, nL, Ad⟩ := cx
  subst hn
  intro q hq hr ad H locs ls h1 h2 h3 h4 h5
  unfold fk_S at hq
  by_cases hi : i < 0 ∨ N ≤ i.toNatClampNeg
  · rw [if_pos hi] at hq; cases hq
  · rw [if_neg hi] at hq
    refine va_bast (f := σ.1 a) (x := x) K.1 K.2.1 K.2.2.2.2.2.1.1 h2 h3 h4 a 1 (aw_w_at (e := .inl (true, N, σ.1 a)) (by rw [hp_at _ ha, hc])) rfl hi d (fun H1 locs1 g1 g2 g3 => k _ q hq hr ad H1 locs1 ls h1 ?_ ?_ g3 h5)
    · rw [← hp_set _ ha, hc, ← aw_w_set]; rw [vp_nar_byte] at g1; exact g1
    · rw [← hp_set _ ha, hc, ← aw_w_set]; rw [vp_nar_byte] at g2; exact g2
/-! ===== statics ===== -/
theorem af_gets {cx : aw_C} {cc : ByteArray} {own : String} {rm : Room} (K : aw_K cx cc own rm) {α : Type} {ρ : α → Option Value × aw_H} {f : Option α} {pc : Nat} {lv : List (Option Value)} {st : List Value} {h : aw_H} {idx : Nat} (j : Nat) {x : Nat × String × Nat × List Int32} (hx : aw_sa[j]? = some x) (n : Nat) (d : decode cc pc = .ok (.getstatic idx, 3)) (hn : pc + 3 = n) (h1000 : 1000 ≤ x.1) (hw : Jvm.Cond.fieldLink own idx "TwoWheel" x.2.1 "[I" ∈ aw_tb) (k : af cx ρ n lv (.ref x.1 :: st) h f) : af cx ρ pc lv st h f := by
  obtain ⟨p, l, e, R, s, m, args, below, meth, c, Q, A, cells, slots, X, nL, Ad⟩ := cx
  subst hn
  intro q hq hr ad H locs ls h1 h2 h3 h4 h5
  have hZ := (K.2.2.2.2.2.1.2.2.2.2.1 x (List.mem_of_getElem? hx)).1
  have hS : aw_S X ad := K.2.2.2.2.2.2.2.2.2.2.2 ad h1
  refine va_gets K.1 K.2.1 hZ h4 K.2.2.2.1 (K.2.2.2.2.1 _ hw) (fun _ h9 => h9) d ?_
  have g := k q hq hr ad H locs ls h1 h2 h3 h4 h5
  have ee : aw_v ad (.ref x.1) = .ref (X.2.2.2.1 x.1) := by show Value.ref (ad x.1) = _; rw [hS _ h1000]
  rw [List.map_cons, ee] at g
  exact g
theorem af_getsN {cx : aw_C} {cc : ByteArray} {rm : Room} (K : aw_K cx cc "TwoWheel$Pottery" rm) {α : Type} {ρ : α → Option Value × aw_H} {f : Option α} {pc : Nat} {lv : List (Option Value)} {st : List Value} {h : aw_H} {idx : Nat} (j i : Nat) {x : Nat × String × Nat × List Int32} (hx : aw_sa[j]? = some x) (hi : aw_nF[i]? = some (idx, x.2.1)) (n : Nat) (d : decode cc pc = .ok (.getstatic idx, 3)) (hn : pc + 3 = n) (h1000 : 1000 ≤ x.1) (k : af cx ρ n lv (.ref x.1 :: st) h f) : af cx ρ pc lv st h f := by
  obtain ⟨p, l, e, R, s, m, args, below, meth, c, Q, A, cells, slots, X, nL, Ad⟩ := cx
  subst hn
  intro q hq hr ad H locs ls h1 h2 h3 h4 h5
  have hZ := (K.2.2.2.2.2.1.2.2.2.2.1 x (List.mem_of_getElem? hx)).1
  have hS : aw_S X ad := K.2.2.2.2.2.2.2.2.2.2.2 ad h1
  refine va_getsN K.1 K.2.1 hZ h4 K.2.2.2.1 (va_Nw.use rfl (K.2.2.2.2.2.1.2.1 _ (List.mem_of_getElem? hi))) (fun _ h9 => h9) d ?_
  have g := k q hq hr ad H locs ls h1 h2 h3 h4 h5
  have ee : aw_v ad (.ref x.1) = .ref (X.2.2.2.1 x.1) := by show Value.ref (ad x.1) = _; rw [hS _ h1000]
  rw [List.map_cons, ee] at g
  exact g
/-! ===== switches ===== -/
theorem af_tin {cx : aw_C} {cc : ByteArray} {own : String} {rm : Room} (K : aw_K cx cc own rm) {α : Type} {ρ : α → Option Value × aw_H} {f : Option α} {pc : Nat} {lv : List (Option Value)} {st : List Value} {h : aw_H} {x : Int32} {dflt lo hi off : Int} {offs : Array Int} {len : Nat} (t : Nat) (v : Int32) (hx : x = v) (d : decode cc pc = .ok (.tableswitch dflt lo hi offs, len)) (g1 : ¬ v.toInt < lo) (g2 : ¬ hi < v.toInt) (ho : offs[(v.toInt - lo).toNat]? = some off) (ht : (pc : Int) + off = (t : Int)) (k : af cx ρ t lv st h f) : af cx ρ pc lv (.int x :: st) h f := by
  subst hx
  obtain ⟨p, l, e, R, s, m, args, below, meth, c, Q, A, cells, slots, X, nL, Ad⟩ := cx
  intro q hq hr ad H locs ls h1 h2 h3 h4 h5
  exact lv_tableIn K.1 K.2.1 d g1 g2 ho ht (k q hq hr ad H locs ls h1 h2 h3 h4 h5)
theorem af_tout {cx : aw_C} {cc : ByteArray} {own : String} {rm : Room} (K : aw_K cx cc own rm) {α : Type} {ρ : α → Option Value × aw_H} {f : Option α} {pc : Nat} {lv : List (Option Value)} {st : List Value} {h : aw_H} {x : Int32} {dflt lo hi : Int} {offs : Array Int} {len : Nat} (t : Nat) (d : decode cc pc = .ok (.tableswitch dflt lo hi offs, len)) (hx : x.toInt < lo ∨ hi < x.toInt) (ht : (pc : Int) + dflt = (t : Int)) (k : af cx ρ t lv st h f) : af cx ρ pc lv (.int x :: st) h f := by
  obtain ⟨p, l, e, R, s, m, args, below, meth, c, Q, A, cells, slots, X, nL, Ad⟩ := cx
  intro q hq hr ad H locs ls h1 h2 h3 h4 h5
  exact lv_tableOut K.1 K.2.1 d hx ht (k q hq hr ad H locs ls h1 h2 h3 h4 h5)
theorem af_lks {cx : aw_C} {cc : ByteArray} {own : String} {rm : Room} (K : aw_K cx cc own rm) {α : Type} {ρ : α → Option Value × aw_H} {f : Option α} {pc : Nat} {lv : List (Option Value)} {st : List Value} {h : aw_H} {x : Int32} {dflt off : Int} {ps : Array (Int × Int)} {len : Nat} (t : Nat) (d : decode cc pc = .ok (.lookupswitch dflt ps, len)) (hp : (ps.toList.zip (ps.toList.drop 1)).all (fun (a, next) => a.1 < next.1) = true) (ho : Op.lookupswitch.offset ps.toList dflt x.toInt = off) (ht : (pc : Int) + off = (t : Int)) (k : af cx ρ t lv st h f) : af cx ρ pc lv (.int x :: st) h f := by
  obtain ⟨p, l, e, R, s, m, args, below, meth, c, Q, A, cells, slots, X, nL, Ad⟩ := cx
  intro q hq hr ad H locs ls h1 h2 h3 h4 h5
  exact lv_lookup K.1 K.2.1 d hp ho ht (k q hq hr ad H locs ls h1 h2 h3 h4 h5)
/-! ===== ends ===== -/
theorem af_ret {cx : aw_C} {cc : ByteArray} {own : String} {rm : Room} (K : aw_K cx cc own rm) {α : Type} {ρ : α → Option Value × aw_H}  {pc : Nat} {lv : List (Option Value)} {st : List Value} {h : aw_H} {q : α} {r : Option Value} (d : decode cc pc = .ok (aw_ri r, 1)) (hρ : ρ q = (r, h)) (hs : r.toList = st) : af cx ρ pc lv st h (some q) := by
  subst hs
  obtain ⟨p, l, e, R, s, m, args, below, meth, c, Q, A, cells, slots, X, nL, Ad⟩ := cx
  intro q' hq hr ad H locs ls h1 h2 h3 h4 h5
  cases hq
  rw [hρ] at hr
  exact hr ad H locs ls pc h1 h2 h3 h4 (by rw [K.2.1]; exact d)
end
section
/-! ===== contracts and calls ===== -/
/-- a method: name, code, locals, answer's type, room -/
abbrev aw_M : Type := MethodName × ByteArray × Nat × Option FieldType × Room
def aw_Pc (X : aw_X) (ad : Nat → Nat) (vs : List Value) (h : aw_H) (sz : Nat) : Array Value → State → Prop := va_Pc (vs.map (aw_v ad)) (fun U => U.heap.size = sz ∧ va_P X.1 aw_cl (aw_w X ad h) U.heap ∧ aw_SX X (va_A (aw_w X ad h) sz) U ∧ va_D (fun _ => True) (aw_w X ad h))
def aw_Qc (X : aw_X) (ad : Nat → Nat) (h : aw_H) (sz : Nat) (r : Option Value) (h' : aw_H) : Array Value → State → Outcome → State → Prop := fun _ st oc t => oc = .returned (r.map (aw_v ad)) ∧ (va_P X.1 aw_cl (aw_w X ad h') t.heap ∧ va_D (va_A (aw_w X ad h) sz) (aw_w X ad h')) ∧ va_F (va_A (aw_w X ad h) sz) st t
def aw_ws (M : aw_M) : List Cond := Jvm.Cond.code M.1 M.2.1 M.2.2.1 M.2.2.2.1 :: aw_tb
/-- the method, from the world h with arguments vs, ends with r and the world h' (no cell is made) -/
def af_M (X : aw_X) (l : Launch) (M : aw_M) (vs : List Value) (h : aw_H) (r : Option Value) (h' : aw_H) : Prop :=
  ∀ (ad : Nat → Nat) (sz : Nat), aw_S X ad → Met l M.1 (aw_ws M) M.2.2.2.2 (aw_Pc X ad vs h sz) (aw_Qc X ad h sz r h') 0 0 (va_A (aw_w X ad h) sz)
def af_G (X : aw_X) (l : Launch) (M : aw_M) (vs : List Value) (h : aw_H) {β : Type} (ρ : β → Option Value × aw_H) (f : Option β) : Prop := ∀ q, f = some q → af_M X l M vs h (ρ q).1 (ρ q).2
theorem aw_go {p : Program} {l : Launch} {e : Env} {R : Room} {s : State} {m : MethodId} {args : Array Value} {below : List Frame} {meth : Method} {c : Code} {H : Heap} {locs : List Loc} {cells slots : Nat} {Q : State → Prop} {pc : Nat} {ls : Array Slot} {rest st0 : List Value} {A0 A1 : Nat → Prop} {H0 : Heap} {free : Addr → Prop} {Qa : State → Outcome → State → Prop} {rv : Option Value} {PT : Heap → Prop}
    (hr : va_Run p l e R s m args below meth c H locs cells slots 0 0 (F0 m pc ls st0) rest Qa free) (hS : va_S A0 H0 H locs) (hA : ∀ q, q < H.size → A1 q → A0 q) (hf : ∀ q, free q → A0 q) (hQ : ∀ st o t, Qa st o t → o = .returned rv ∧ PT t.heap ∧ va_F A1 st t)
    (kk : ∀ (H1 : Heap) (locs1 : List Loc), PT H1 → va_S A0 H0 H1 locs1 → W p l e R s m args below meth c H1 locs1 cells slots Q (F0 m (pc + 3) ls (rv.toList ++ rest))) : W p l e R s m args below meth c H locs cells slots Q (F0 m pc ls st0) := by
  intro T hT X
  obtain ⟨v, st₀, t, T', L, h0, X', hL, e1, e2, hq, st⟩ := hr T hT X
  obtain ⟨hv, hp, hz, hk⟩ := hQ _ _ _ hq
  cases hv
  rw [h0] at hz hk
  obtain ⟨t2, a1, b1⟩ := kk T'.heap (locs ++ L) (by rw [e1]; exact hp)
    ⟨Nat.le_trans hS.1 (by rw [e1]; exact hz), fun q h1 h2 => by rw [e1, hk q (Nat.lt_of_lt_of_le h1 hS.1) (fun z => h2 (hA q (Nat.lt_of_lt_of_le h1 hS.1) z))]; exact hS.2.1 q h1 h2, fun q hq => by
      rcases List.mem_append.mp hq with h | h
      · exact hS.2.2 q h
      · exact hf _ (hL q h)⟩ T' rfl X'
  exact ⟨t2, st t2 a1, b1⟩
def aw_fit (M : aw_M) (rm : Room) : Bool := Nat.ble (M.2.2.2.2.frames + 1) rm.frames && Nat.ble (8 + (M.2.2.1 + 11) + M.2.2.2.2.locals) rm.locals
theorem aw_fit_of {M : aw_M} {rm : Room} (h : aw_fit M rm = true) : M.2.2.2.2.frames + 1 ≤ rm.frames ∧ 8 + (M.2.2.1 + 11) + M.2.2.2.2.locals ≤ rm.locals := by
  unfold aw_fit at h
  rw [Bool.and_eq_true] at h
  exact ⟨Nat.le_of_ble_eq_true h.1, Nat.le_of_ble_eq_true h.2⟩
/-- what every call of a method needs of it: np parameters -/
def aw_m0 (M : aw_M) (np : Nat) : Prop := Jvm.Cond.code M.1 M.2.1 M.2.2.1 M.2.2.2.1 ∈ aw_tb ∧ Jvm.Cond.initialized M.1.cls ∈ aw_tb ∧ M.2.2.2.2.cells = 0 ∧ M.2.2.2.2.slots = 0 ∧ M.1.cls ≠ "java/lang/invoke/MethodHandle" ∧ M.1.cls ≠ "java/lang/invoke/VarHandle" ∧ (parseMethodDescriptor M.1.desc).map (fun d => d.parameters.length) = some np
def aw_mV (M : aw_M) (np : Nat) : Prop := aw_m0 M np ∧ Jvm.Cond.instanceMethod M.1 ∈ aw_tb ∧ Jvm.Cond.selects M.1.cls M.1 M.1 ∈ aw_tb
def aw_mS (M : aw_M) (np : Nat) : Prop := aw_m0 M np ∧ Jvm.Cond.static M.1 ∈ aw_tb
theorem aw_ws_good {M : aw_M} {np : Nat} (h : aw_m0 M np) : GoodIn aw_tb (aw_ws M) := by
  intro w hw
  rcases List.mem_cons.mp hw with rfl | hw
  · exact ⟨h.1, aw_good _ h.1⟩
  · exact ⟨hw, aw_good _ hw⟩
theorem aw_toList (ad : Nat → Nat) (o : Option Value) (st : List Value) : (o.map (aw_v ad)).toList ++ st.map (aw_v ad) = (o.toList ++ st).map (aw_v ad) := by
  cases o <;> simp
theorem aw_blind {X : aw_X} {ad : Nat → Nat} {vs : List Value} {h : aw_H} {sz : Nat} : FrameBlind (aw_Pc X ad vs h sz) := by
  intro a U g mk q
  obtain ⟨q0, q1, qP, qS, qD⟩ := q
  exact ⟨q0, q1, qP, qS.blind, qD⟩
theorem aw_pre {X : aw_X} {ad : Nat → Nat} {vs : List Value} {h : aw_H} {A : Nat → Prop} {s : State} {H : Heap} {locs : List Loc} (hSX : aw_SX X A s) (h2 : va_P X.1 aw_cl (aw_w X ad h) H) (h3 : va_D A (aw_w X ad h)) (h4 : va_S A s.heap H locs) (hF : ∀ q, va_A (aw_w X ad h) H.size q → A q) : ∀ U : State, U.heap = H → s.WarmedH U.vm → aw_Pc X ad vs h H.size (vs.map (aw_v ad)).toArray U :=
  fun U hU hW => ⟨rfl, by rw [hU], by rw [hU]; exact h2, hSX.call h4 hU hW hF, h3.weaken (fun _ _ _ _ => trivial)⟩
theorem aw_freeA {X : aw_X} {ad : Nat → Nat} {h : aw_H} {A : Nat → Prop} {s : State} {H : Heap} {locs : List Loc} (h3 : va_D A (aw_w X ad h)) (h4 : va_S A s.heap H locs) (hA : ∀ q, s.heap.size ≤ q → A q) : ∀ q, va_A (aw_w X ad h) H.size q → A q := by
  intro q hq
  rcases hq with ⟨k, e, hk⟩ | hq
  · exact h3.2 k (q, e) hk
  · exact hA q (Nat.le_trans h4.1 hq)
theorem af_callV {cx : aw_C} {cc : ByteArray} {own : String} {rm : Room} (K : aw_K cx cc own rm) {α : Type} {ρ : α → Option Value × aw_H} {pc : Nat} {lv : List (Option Value)} {st : List Value} {h : aw_H} {β : Type} {ρ' : β → Option Value × aw_H} {f : Option β} {kf : β → Option α} {idx np : Nat} {M : aw_M} {vs : List Value} {b ci N : Nat} {T : u_T} {fs : List Value} (V : aw_mV M np) (lk : Jvm.Cond.methodLink own idx M.1 ∈ aw_tb) (hb2 : h[b]? = some (.inr (ci, fs))) (hcl : aw_cl[ci]? = some (M.1.cls, T, N)) (n : Nat) (d : decode cc pc = .ok (.invokevirtual idx, 3)) (hn : pc + 3 = n) (hl : vs.length = np) (hcat : Nat.ble (st.map fun v => v.category).sum 8 = true) (hfit : aw_fit M rm = true) (G : af_G (aw_xX cx) (aw_xl cx) M (.ref b :: vs) h ρ' f) {stk : List Value} (hs : stk = vs.reverse ++ .ref b :: st) (k : ∀ q1, af cx ρ n lv ((ρ' q1).1.toList ++ st) (ρ' q1).2 (kf q1)) : af cx ρ pc lv stk h (f.bind kf) := by
  subst hs
  obtain ⟨p, l, e, R, s, m, args, below, meth, c, Q, A, cells, slots, X, nL, Ad⟩ := cx
  subst hn
  intro q hq hr ad H locs ls h1 h2 h3 h4 h5
  obtain ⟨q1, hf1, hk1⟩ := Option.bind_eq_some_iff.mp hq
  obtain ⟨hx, hb, hml, hown, hts, hSX, hA, hlk, hR, hc0, hs0, hAd⟩ := K
  subst hR
  have hM := G q1 hf1 ad H.size (hAd ad h1)
  have hF : ∀ q, va_A (aw_w X ad h) H.size q → A q := aw_freeA h3 h4 hA
  refine aw_go (A1 := va_A (aw_w X ad h) H.size) (rv := (ρ' q1).1.map (aw_v ad)) (PT := fun H1 => va_P X.1 aw_cl (aw_w X ad (ρ' q1).2) H1 ∧ va_D (va_A (aw_w X ad h) H.size) (aw_w X ad (ρ' q1).2)) (va_runV (As := vs.map (aw_v ad)) (rest := st.map (aw_v ad)) ⟨hx, hb, hml, hown, hts⟩ hM (cwV np hts (fun w hw => by
    unfold wsV at hw
    rcases List.mem_append.mp hw with hw | hw
    · have hw2 : w ∈ aw_tb := by
        simp only [List.mem_cons, List.not_mem_nil, or_false] at hw
        rcases hw with rfl | rfl | rfl | rfl
        · exact lk
        · exact V.2.1
        · exact V.2.2
        · exact V.1.2.1
      exact ⟨hw2, aw_good _ hw2⟩
    · exact aw_ws_good V.1 w hw) rfl V.1.2.2.1 V.1.2.2.2.1 ⟨rfl, V.1.2.2.2.2⟩ (aw_fit_of hfit)) ⟨aw_blind, va_recv hSX.1 h2 hcl (aw_w_at hb2), aw_pre hSX h2 h3 h4 hF⟩ rfl (by rw [List.length_map]; exact hl) h5.1 (by simp [aw_v]) (lv_room (by rw [aw_cats]; exact Nat.le_of_ble_eq_true hcat)) d ⟨hc0, hs0⟩) h4 (fun q _ z => hF q z) hF (fun _ _ _ z => z) (fun H1 locs1 g1 g2 => ?_)
  rw [aw_toList]
  exact k q1 q hk1 hr ad H1 locs1 ls h1 g1.1 (g1.2.weaken (fun _ _ _ z => hF _ z)) g2 h5
theorem af_callS {cx : aw_C} {cc : ByteArray} {own : String} {rm : Room} (K : aw_K cx cc own rm) {α : Type} {ρ : α → Option Value × aw_H} {pc : Nat} {lv : List (Option Value)} {st : List Value} {h : aw_H} {β : Type} {ρ' : β → Option Value × aw_H} {f : Option β} {kf : β → Option α} {idx np : Nat} {M : aw_M} {vs : List Value} (V : aw_mS M np) (lk : Jvm.Cond.methodLink own idx M.1 ∈ aw_tb) (n : Nat) (d : decode cc pc = .ok (.invokestatic idx, 3)) (hn : pc + 3 = n) (hl : vs.length = np) (hcat : Nat.ble (st.map fun v => v.category).sum 8 = true) (hfit : aw_fit M rm = true) (G : af_G (aw_xX cx) (aw_xl cx) M (vs) h ρ' f) {stk : List Value} (hs : stk = vs.reverse ++ st) (k : ∀ q1, af cx ρ n lv ((ρ' q1).1.toList ++ st) (ρ' q1).2 (kf q1)) : af cx ρ pc lv stk h (f.bind kf) := by
  subst hs
  obtain ⟨p, l, e, R, s, m, args, below, meth, c, Q, A, cells, slots, X, nL, Ad⟩ := cx
  subst hn
  intro q hq hr ad H locs ls h1 h2 h3 h4 h5
  obtain ⟨q1, hf1, hk1⟩ := Option.bind_eq_some_iff.mp hq
  obtain ⟨hx, hb, hml, hown, hts, hSX, hA, hlk, hR, hc0, hs0, hAd⟩ := K
  subst hR
  have hM := G q1 hf1 ad H.size (hAd ad h1)
  have hF : ∀ q, va_A (aw_w X ad h) H.size q → A q := aw_freeA h3 h4 hA
  refine aw_go (A1 := va_A (aw_w X ad h) H.size) (rv := (ρ' q1).1.map (aw_v ad)) (PT := fun H1 => va_P X.1 aw_cl (aw_w X ad (ρ' q1).2) H1 ∧ va_D (va_A (aw_w X ad h) H.size) (aw_w X ad (ρ' q1).2)) (va_runS (As := vs.map (aw_v ad)) (rest := st.map (aw_v ad)) ⟨hx, hb, hml, hown, hts⟩ hM (va_cwS np hts (fun w hw => by
    unfold va_wsS at hw
    rcases List.mem_append.mp hw with hw | hw
    · have hw2 : w ∈ aw_tb := by
        simp only [List.mem_cons, List.not_mem_nil, or_false] at hw
        rcases hw with rfl | rfl | rfl
        · exact lk
        · exact V.2
        · exact V.1.2.1
      exact ⟨hw2, aw_good _ hw2⟩
    · exact aw_ws_good V.1 w hw) rfl V.1.2.2.1 V.1.2.2.2.1 V.1.2.2.2.2 (aw_fit_of hfit)) ⟨aw_blind, aw_pre hSX h2 h3 h4 hF⟩ rfl (by rw [List.length_map]; exact hl) h5.1 (by simp [aw_v]) (lv_room (by rw [aw_cats]; exact Nat.le_of_ble_eq_true hcat)) d ⟨hc0, hs0⟩) h4 (fun q _ z => hF q z) hF (fun _ _ _ z => z) (fun H1 locs1 g1 g2 => ?_)
  rw [aw_toList]
  exact k q1 q hk1 hr ad H1 locs1 ls h1 g1.1 (g1.2.weaken (fun _ _ _ z => hF _ z)) g2 h5
theorem af_callN {cx : aw_C} {cc : ByteArray} {own : String} {rm : Room} (K : aw_K cx cc own rm) {α : Type} {ρ : α → Option Value × aw_H} {pc : Nat} {lv : List (Option Value)} {st : List Value} {h : aw_H} {β : Type} {ρ' : β → Option Value × aw_H} {f : Option β} {kf : β → Option α} {idx np : Nat} {M : aw_M} {vs : List Value} {host : String} (V : aw_mS M np) (hnw : ∀ {X : aw_X} {A : Nat → Prop} {U : State}, aw_SX X A U → va_Nw (.methodLinkNest own idx M.1 host) U) (n : Nat) (d : decode cc pc = .ok (.invokestatic idx, 3)) (hn : pc + 3 = n) (hl : vs.length = np) (hcat : Nat.ble (st.map fun v => v.category).sum 8 = true) (hfit : aw_fit M rm = true) (G : af_G (aw_xX cx) (aw_xl cx) M (vs) h ρ' f) {stk : List Value} (hs : stk = vs.reverse ++ st) (k : ∀ q1, af cx ρ n lv ((ρ' q1).1.toList ++ st) (ρ' q1).2 (kf q1)) : af cx ρ pc lv stk h (f.bind kf) := by
  subst hs
  obtain ⟨p, l, e, R, s, m, args, below, meth, c, Q, A, cells, slots, X, nL, Ad⟩ := cx
  subst hn
  intro q hq hr ad H locs ls h1 h2 h3 h4 h5
  obtain ⟨q1, hf1, hk1⟩ := Option.bind_eq_some_iff.mp hq
  obtain ⟨hx, hb, hml, hown, hts, hSX, hA, hlk, hR, hc0, hs0, hAd⟩ := K
  subst hR
  have hM := G q1 hf1 ad H.size (hAd ad h1)
  have hF : ∀ q, va_A (aw_w X ad h) H.size q → A q := aw_freeA h3 h4 hA
  refine aw_go (A1 := va_A (aw_w X ad h) H.size) (rv := (ρ' q1).1.map (aw_v ad)) (PT := fun H1 => va_P X.1 aw_cl (aw_w X ad (ρ' q1).2) H1 ∧ va_D (va_A (aw_w X ad h) H.size) (aw_w X ad (ρ' q1).2)) (va_runSN (As := vs.map (aw_v ad)) (rest := st.map (aw_v ad)) ⟨hx, hb, hml, hown, hts⟩ hM ⟨va_cnB np hts (aw_ws_good V.1) rfl V.1.2.2.1 V.1.2.2.2.1 (hnw hSX) (hts _ V.1.2.1) V.1.2.2.2.2 (aw_fit_of hfit), hts _ V.2, trivial⟩ ⟨aw_blind, aw_pre hSX h2 h3 h4 hF⟩ rfl (by rw [List.length_map]; exact hl) h5.1 (by simp [aw_v]) (lv_room (by rw [aw_cats]; exact Nat.le_of_ble_eq_true hcat)) d ⟨hc0, hs0⟩) h4 (fun q _ z => hF q z) hF (fun _ _ _ z => z) (fun H1 locs1 g1 g2 => ?_)
  rw [aw_toList]
  exact k q1 q hk1 hr ad H1 locs1 ls h1 g1.1 (g1.2.weaken (fun _ _ _ z => hF _ z)) g2 h5
/-! ===== a method's contract out of its walk ===== -/
def aw_l0 (vs : List Value) (n : Nat) : List (Option Value) := vs.flatMap (fun v => if v.category = 2 then [some v, none] else [some v]) ++ List.replicate (n - (vs.flatMap (fun v => if v.category = 2 then [some v, none] else [some v])).length) none
theorem aw_l0_sl (ad : Nat → Nat) (vs : List Value) (i : Nat) (v : Value) (h : (vs.flatMap (fun v => if v.category = 2 then [some v, none] else [some v]))[i]? = some (some v)) : (lg_sl (vs.map (aw_v ad)))[i]? = some (.val (aw_v ad v)) := by
  induction vs generalizing i with
  | nil => simp at h
  | cons w vs ih =>
    simp only [List.flatMap_cons, lg_sl, List.map_cons, aw_cat] at h ⊢
    by_cases hc : w.category = 2
    · rw [if_pos hc] at h
      rw [if_pos hc]
      match i, h with
      | 0, h => simp at h; subst h; rfl
      | 1, h => simp at h
      | i + 2, h =>
        simp only [List.cons_append, List.getElem?_cons_succ, List.nil_append] at h ⊢
        exact ih i h
    · rw [if_neg hc] at h
      rw [if_neg hc]
      match i, h with
      | 0, h => simp at h; subst h; rfl
      | i + 1, h =>
        simp only [List.cons_append, List.getElem?_cons_succ, List.nil_append] at h ⊢
        exact ih i h
theorem aw_sl_len (ad : Nat → Nat) (vs : List Value) : (lg_sl (vs.map (aw_v ad))).length = (vs.flatMap (fun v => if v.category = 2 then [some v, none] else [some v])).length := by
  induction vs with
  | nil => rfl
  | cons w vs ih =>
    simp only [lg_sl, List.map_cons, List.flatMap_cons, List.length_append, aw_cat] at ih ⊢
    rw [ih]
    by_cases hc : w.category = 2
    · rw [if_pos hc, if_pos hc]; rfl
    · rw [if_neg hc, if_neg hc]; rfl
theorem aw_l0_L (ad : Nat → Nat) (vs : List Value) {n : Nat} (h : (vs.flatMap (fun v => if v.category = 2 then [some v, none] else [some v])).length ≤ n) : aw_L ad n (aw_l0 vs n) ((lg_sl (vs.map (aw_v ad)) ++ List.replicate (n - (lg_sl (vs.map (aw_v ad))).length) Slot.unset).toArray) := by
  have hl := lv_entry (vs.map (aw_v ad)) (n := n) (by rw [aw_sl_len]; exact h)
  refine ⟨hl.1, hl.2.1, fun i v hi => ?_⟩
  unfold aw_l0 at hi
  by_cases hlt : i < (vs.flatMap (fun v => if v.category = 2 then [some v, none] else [some v])).length
  · rw [List.getElem?_append_left hlt] at hi
    have := aw_l0_sl ad vs i v hi
    rw [List.getElem?_toArray, List.getElem?_append_left (by rw [aw_sl_len]; exact hlt)]
    exact this
  · rw [List.getElem?_append_right (by omega)] at hi
    have hm := List.mem_of_getElem? hi
    rw [List.mem_replicate] at hm
    cases hm.2
/-- an answer of a type -/
def aw_rok (ret : Option FieldType) (r : Option Value) : Prop :=
  (ret = none ∧ r = none) ∨ (ret = some .int ∧ ∃ x, r = some (.int x)) ∨ (ret = some .long ∧ ∃ x, r = some (.long x)) ∨ (∃ ty x, ret = some ty ∧ r = some (.int x) ∧ narrow ty (.int x) = .int x) ∨ (∃ nm a, ret = some (.object nm) ∧ r = some (.ref a))
theorem af_mk {X : aw_X} {l : Launch} {M : aw_M} {vs : List Value} {h : aw_H} {α : Type} {ρ : α → Option Value × aw_H} {f : Option α} (hy : plainName M.1.cls = true) (hsz : Nat.ble (vs.flatMap (fun v => if v.category = 2 then [some v, none] else [some v])).length M.2.2.1 = true) (hret : ∀ q, aw_rok M.2.2.2.1 (ρ q).1) (lv0 : List (Option Value)) (hlv : aw_l0 vs M.2.2.1 = lv0)
    (body : ∀ cx : aw_C, aw_xX cx = X → aw_xl cx = l → aw_nL cx = M.2.2.1 → aw_K cx M.2.1 M.1.cls M.2.2.2.2 → af cx ρ 0 lv0 [] h f) : af_G X l M vs h ρ f := by
  subst hlv
  intro q hq ad sz hS
  refine Met.ofW (cc := M.2.1) (maxL := M.2.2.1) (ret := M.2.2.2.1) hy rfl ?_
  intro p e s m args below meth c s₁ B hml hv
  obtain ⟨rfl, hsz2, hP, hSX, hD0⟩ := hv
  subst hsz2
  have hts := atoms_spec (ws := aw_ws M) B.pre
  have hown : s.vm.findClass M.1.cls = some m.cls := findClass_of_methodNamed B.named
  have hlocks := B.notSynchronized
  have hr := B.returns
  rw [lg_entry_eq]
  have hD : va_D (va_A (aw_w X ad h) s.heap.size) (aw_w X ad h) := hD0.self
  have hR0 : (headSpec (aw_ws M) M.2.2.2.2).room = M.2.2.2.2 := rfl
  refine body (p, l, e, (headSpec (aw_ws M) M.2.2.2.2).room, s, m, (vs.map (aw_v ad)).toArray, below, meth, c, MQ below (aw_Qc X ad h s.heap.size (ρ q).1 (ρ q).2) (vs.map (aw_v ad)).toArray s 0 0 (va_A (aw_w X ad h) s.heap.size), va_A (aw_w X ad h) s.heap.size, 0, 0, X, M.2.2.1, fun ad' => ad' = ad) rfl rfl rfl ⟨B.exec, B.bytes, hml, hown, fun w hw => hts w (List.mem_cons_of_mem _ hw), hSX, fun q hq => Or.inr hq, hlocks, hR0, Nat.zero_le _, Nat.zero_le _, fun ad' h9 => by rw [h9]; exact hS⟩ q hq ?_ ad s.heap [] _ rfl hP hD va_S.rf (aw_l0_L ad vs (Nat.le_of_ble_eq_true hsz))
  rintro ad' H locs ls pc rfl g2 g3 g4 hdg
  rw [B.bytes] at hdg
  have post : ∀ t : State, t.heap = H → aw_Qc X ad' h s.heap.size (ρ q).1 (ρ q).2 (vs.map (aw_v ad')).toArray s (.returned ((ρ q).1.map (aw_v ad'))) t := fun t ht => ⟨rfl, ⟨by rw [ht]; exact g2, g3⟩, g4.F ht⟩
  rcases hret q with ⟨e1, e2⟩ | ⟨e1, x, e2⟩ | ⟨e1, x, e2⟩ | ⟨ty, x, e1, e2, e3⟩ | ⟨nm, x, e1, e2⟩
  · rw [e2] at hdg post ⊢
    exact W.vret B.exec B.bytes (hr.trans e1) (fun t ht _ => post t ht) g4.2.2 hdg
  · rw [e2] at hdg post ⊢
    exact W.iret B.exec B.bytes (hr.trans e1) (fun t ht _ => post t ht) g4.2.2 hdg
  · rw [e2] at hdg post ⊢
    exact W.lret B.exec B.bytes (hr.trans e1) (fun t ht _ => post t ht) g4.2.2 hdg
  · rw [e2] at hdg post ⊢
    exact W.zret B.exec B.bytes (hr.trans e1) e3 (fun t ht _ => post t ht) g4.2.2 hdg
  · rw [e2] at hdg post ⊢
    exact W.aret (v := .ref (ad' x)) B.exec B.bytes (hr.trans e1) (Or.inl ⟨nm, rfl⟩) (Or.inr ⟨_, rfl⟩) (fun t ht _ => post t ht) g4.2.2 hdg
/-! ===== kinds of answers ===== -/
abbrev ρv : fk_T → Option Value × aw_H := fun q => (none, hp q)
abbrev ρi : Int32 × fk_T → Option Value × aw_H := fun q => (some (.int q.1), hp q.2)
abbrev ρl : Int64 × fk_T → Option Value × aw_H := fun q => (some (.long q.1), hp q.2)
abbrev ρz : Bool × fk_T → Option Value × aw_H := fun q => (some (.int (fk_b q.1)), hp q.2)
abbrev ρr : Nat × fk_T → Option Value × aw_H := fun q => (some (.ref q.1), hp q.2)
theorem aw_okv (q : fk_T) : aw_rok none (ρv q).1 := Or.inl ⟨rfl, rfl⟩
theorem aw_oki (q : Int32 × fk_T) : aw_rok (some .int) (ρi q).1 := Or.inr (Or.inl ⟨rfl, q.1, rfl⟩)
theorem aw_okl (q : Int64 × fk_T) : aw_rok (some .long) (ρl q).1 := Or.inr (Or.inr (Or.inl ⟨rfl, q.1, rfl⟩))
theorem aw_okz (q : Bool × fk_T) : aw_rok (some .boolean) (ρz q).1 := Or.inr (Or.inr (Or.inr (Or.inl ⟨.boolean, fk_b q.1, rfl, rfl, by cases q.1 <;> rfl⟩)))
theorem aw_okr (nm : String) (q : Nat × fk_T) : aw_rok (some (.object nm)) (ρr q).1 := Or.inr (Or.inr (Or.inr (Or.inr ⟨nm, q.1, rfl, rfl⟩)))
end
section
/-! ===== constants, switches ===== -/
theorem cs_bipush_m10 : (Int8.ofInt (-10)).toInt32 = (-10) := by decide
theorem cs_bipush_m3 : (Int8.ofInt (-3)).toInt32 = (-3) := by decide
theorem cs_bipush_m2 : (Int8.ofInt (-2)).toInt32 = (-2) := by decide
theorem cs_bipush_6 : (Int8.ofInt 6).toInt32 = 6 := by decide
theorem cs_bipush_7 : (Int8.ofInt 7).toInt32 = 7 := by decide
theorem cs_bipush_8 : (Int8.ofInt 8).toInt32 = 8 := by decide
theorem cs_bipush_9 : (Int8.ofInt 9).toInt32 = 9 := by decide
theorem cs_bipush_10 : (Int8.ofInt 10).toInt32 = 10 := by decide
theorem cs_bipush_11 : (Int8.ofInt 11).toInt32 = 11 := by decide
theorem cs_bipush_12 : (Int8.ofInt 12).toInt32 = 12 := by decide
theorem cs_bipush_13 : (Int8.ofInt 13).toInt32 = 13 := by decide
theorem cs_bipush_14 : (Int8.ofInt 14).toInt32 = 14 := by decide
theorem cs_bipush_16 : (Int8.ofInt 16).toInt32 = 16 := by decide
theorem cs_bipush_20 : (Int8.ofInt 20).toInt32 = 20 := by decide
theorem cs_bipush_21 : (Int8.ofInt 21).toInt32 = 21 := by decide
theorem cs_bipush_24 : (Int8.ofInt 24).toInt32 = 24 := by decide
theorem cs_bipush_30 : (Int8.ofInt 30).toInt32 = 30 := by decide
theorem cs_bipush_32 : (Int8.ofInt 32).toInt32 = 32 := by decide
theorem cs_bipush_37 : (Int8.ofInt 37).toInt32 = 37 := by decide
theorem cs_bipush_40 : (Int8.ofInt 40).toInt32 = 40 := by decide
theorem cs_bipush_45 : (Int8.ofInt 45).toInt32 = 45 := by decide
theorem cs_bipush_48 : (Int8.ofInt 48).toInt32 = 48 := by decide
theorem cs_bipush_50 : (Int8.ofInt 50).toInt32 = 50 := by decide
theorem cs_bipush_53 : (Int8.ofInt 53).toInt32 = 53 := by decide
theorem cs_bipush_57 : (Int8.ofInt 57).toInt32 = 57 := by decide
theorem cs_bipush_59 : (Int8.ofInt 59).toInt32 = 59 := by decide
theorem cs_bipush_60 : (Int8.ofInt 60).toInt32 = 60 := by decide
theorem cs_bipush_61 : (Int8.ofInt 61).toInt32 = 61 := by decide
theorem cs_bipush_63 : (Int8.ofInt 63).toInt32 = 63 := by decide
theorem cs_bipush_64 : (Int8.ofInt 64).toInt32 = 64 := by decide
theorem cs_bipush_97 : (Int8.ofInt 97).toInt32 = 97 := by decide
theorem cs_bipush_99 : (Int8.ofInt 99).toInt32 = 99 := by decide
theorem cs_bipush_100 : (Int8.ofInt 100).toInt32 = 100 := by decide
theorem cs_bipush_120 : (Int8.ofInt 120).toInt32 = 120 := by decide
theorem cs_bipush_122 : (Int8.ofInt 122).toInt32 = 122 := by decide
theorem cs_bipush_125 : (Int8.ofInt 125).toInt32 = 125 := by decide
theorem cs_iconst_m1 : Int32.ofInt (-1) = (-1) := by decide
theorem cs_iconst_0 : Int32.ofInt 0 = 0 := by decide
theorem cs_iconst_1 : Int32.ofInt 1 = 1 := by decide
theorem cs_iconst_2 : Int32.ofInt 2 = 2 := by decide
theorem cs_iconst_3 : Int32.ofInt 3 = 3 := by decide
theorem cs_iconst_4 : Int32.ofInt 4 = 4 := by decide
theorem cs_iconst_5 : Int32.ofInt 5 = 5 := by decide
theorem cs_lconst_0 : Int64.ofNat ((0 : Fin 2) : Nat) = 0 := by decide
theorem cs_lconst_1 : Int64.ofNat ((1 : Fin 2) : Nat) = 1 := by decide
theorem cs_nz_5 : ¬ (5 : Int32) = 0 := by decide
theorem cs_nz_6 : ¬ (6 : Int32) = 0 := by decide
theorem cs_nz_8 : ¬ (8 : Int32) = 0 := by decide
theorem cs_nz_10 : ¬ (10 : Int32) = 0 := by decide
theorem cs_nz_20 : ¬ (20 : Int32) = 0 := by decide
theorem cs_sipush_135 : (Int16.ofInt 135).toInt32 = 135 := by decide
theorem cs_sipush_200 : (Int16.ofInt 200).toInt32 = 200 := by decide
theorem cs_sipush_255 : (Int16.ofInt 255).toInt32 = 255 := by decide
theorem cs_sipush_1000 : (Int16.ofInt 1000).toInt32 = 1000 := by decide
theorem cs_sipush_9999 : (Int16.ofInt 9999).toInt32 = 9999 := by decide
theorem cs_sipush_12345 : (Int16.ofInt 12345).toInt32 = 12345 := by decide
theorem tsw_0_2 {x : Int32} (h0 : ¬ x = 0) (h1 : ¬ x = 1) (h2 : ¬ x = 2) : x.toInt < 0 ∨ 2 < x.toInt := by
  have a0 : x.toInt ≠ 0 := fun e => h0 (Int32.toInt_inj.mp (e.trans (by decide)))
  have a1 : x.toInt ≠ 1 := fun e => h1 (Int32.toInt_inj.mp (e.trans (by decide)))
  have a2 : x.toInt ≠ 2 := fun e => h2 (Int32.toInt_inj.mp (e.trans (by decide)))
  omega
theorem tsw_0_6 {x : Int32} (h0 : ¬ x = 0) (h1 : ¬ x = 1) (h2 : ¬ x = 2) (h3 : ¬ x = 3) (h4 : ¬ x = 4) (h5 : ¬ x = 5) (h6 : ¬ x = 6) : x.toInt < 0 ∨ 6 < x.toInt := by
  have a0 : x.toInt ≠ 0 := fun e => h0 (Int32.toInt_inj.mp (e.trans (by decide)))
  have a1 : x.toInt ≠ 1 := fun e => h1 (Int32.toInt_inj.mp (e.trans (by decide)))
  have a2 : x.toInt ≠ 2 := fun e => h2 (Int32.toInt_inj.mp (e.trans (by decide)))
  have a3 : x.toInt ≠ 3 := fun e => h3 (Int32.toInt_inj.mp (e.trans (by decide)))
  have a4 : x.toInt ≠ 4 := fun e => h4 (Int32.toInt_inj.mp (e.trans (by decide)))
  have a5 : x.toInt ≠ 5 := fun e => h5 (Int32.toInt_inj.mp (e.trans (by decide)))
  have a6 : x.toInt ≠ 6 := fun e => h6 (Int32.toInt_inj.mp (e.trans (by decide)))
  omega
theorem tsw_0_7 {x : Int32} (h0 : ¬ x = 0) (h1 : ¬ x = 1) (h2 : ¬ x = 2) (h3 : ¬ x = 3) (h4 : ¬ x = 4) (h5 : ¬ x = 5) (h6 : ¬ x = 6) (h7 : ¬ x = 7) : x.toInt < 0 ∨ 7 < x.toInt := by
  have a0 : x.toInt ≠ 0 := fun e => h0 (Int32.toInt_inj.mp (e.trans (by decide)))
  have a1 : x.toInt ≠ 1 := fun e => h1 (Int32.toInt_inj.mp (e.trans (by decide)))
  have a2 : x.toInt ≠ 2 := fun e => h2 (Int32.toInt_inj.mp (e.trans (by decide)))
  have a3 : x.toInt ≠ 3 := fun e => h3 (Int32.toInt_inj.mp (e.trans (by decide)))
  have a4 : x.toInt ≠ 4 := fun e => h4 (Int32.toInt_inj.mp (e.trans (by decide)))
  have a5 : x.toInt ≠ 5 := fun e => h5 (Int32.toInt_inj.mp (e.trans (by decide)))
  have a6 : x.toInt ≠ 6 := fun e => h6 (Int32.toInt_inj.mp (e.trans (by decide)))
  have a7 : x.toInt ≠ 7 := fun e => h7 (Int32.toInt_inj.mp (e.trans (by decide)))
  omega
theorem tsw_0_11 {x : Int32} (h0 : ¬ x = 0) (h1 : ¬ x = 1) (h2 : ¬ x = 2) (h3 : ¬ x = 3) (h4 : ¬ x = 4) (h5 : ¬ x = 5) (h6 : ¬ x = 6) (h7 : ¬ x = 7) (h8 : ¬ x = 8) (h9 : ¬ x = 9) (h10 : ¬ x = 10) (h11 : ¬ x = 11) : x.toInt < 0 ∨ 11 < x.toInt := by
  have a0 : x.toInt ≠ 0 := fun e => h0 (Int32.toInt_inj.mp (e.trans (by decide)))
  have a1 : x.toInt ≠ 1 := fun e => h1 (Int32.toInt_inj.mp (e.trans (by decide)))
  have a2 : x.toInt ≠ 2 := fun e => h2 (Int32.toInt_inj.mp (e.trans (by decide)))
  have a3 : x.toInt ≠ 3 := fun e => h3 (Int32.toInt_inj.mp (e.trans (by decide)))
  have a4 : x.toInt ≠ 4 := fun e => h4 (Int32.toInt_inj.mp (e.trans (by decide)))
  have a5 : x.toInt ≠ 5 := fun e => h5 (Int32.toInt_inj.mp (e.trans (by decide)))
  have a6 : x.toInt ≠ 6 := fun e => h6 (Int32.toInt_inj.mp (e.trans (by decide)))
  have a7 : x.toInt ≠ 7 := fun e => h7 (Int32.toInt_inj.mp (e.trans (by decide)))
  have a8 : x.toInt ≠ 8 := fun e => h8 (Int32.toInt_inj.mp (e.trans (by decide)))
  have a9 : x.toInt ≠ 9 := fun e => h9 (Int32.toInt_inj.mp (e.trans (by decide)))
  have a10 : x.toInt ≠ 10 := fun e => h10 (Int32.toInt_inj.mp (e.trans (by decide)))
  have a11 : x.toInt ≠ 11 := fun e => h11 (Int32.toInt_inj.mp (e.trans (by decide)))
  omega
theorem tsw_0_39 {x : Int32} (h0 : ¬ x = 0) (h1 : ¬ x = 1) (h2 : ¬ x = 2) (h3 : ¬ x = 3) (h4 : ¬ x = 4) (h5 : ¬ x = 5) (h6 : ¬ x = 6) (h7 : ¬ x = 7) (h8 : ¬ x = 8) (h9 : ¬ x = 9) (h10 : ¬ x = 10) (h11 : ¬ x = 11) (h12 : ¬ x = 12) (h13 : ¬ x = 13) (h14 : ¬ x = 14) (h15 : ¬ x = 15) (h16 : ¬ x = 16) (h17 : ¬ x = 17) (h18 : ¬ x = 18) (h19 : ¬ x = 19) (h20 : ¬ x = 20) (h21 : ¬ x = 21) (h22 : ¬ x = 22) (h23 : ¬ x = 23) (h24 : ¬ x = 24) (h25 : ¬ x = 25) (h26 : ¬ x = 26) (h27 : ¬ x = 27) (h28 : ¬ x = 28) (h29 : ¬ x = 29) (h30 : ¬ x = 30) (h31 : ¬ x = 31) (h32 : ¬ x = 32) (h33 : ¬ x = 33) (h34 : ¬ x = 34) (h35 : ¬ x = 35) (h36 : ¬ x = 36) (h37 : ¬ x = 37) (h38 : ¬ x = 38) (h39 : ¬ x = 39) : x.toInt < 0 ∨ 39 < x.toInt := by
  have a0 : x.toInt ≠ 0 := fun e => h0 (Int32.toInt_inj.mp (e.trans (by decide)))
  have a1 : x.toInt ≠ 1 := fun e => h1 (Int32.toInt_inj.mp (e.trans (by decide)))
  have a2 : x.toInt ≠ 2 := fun e => h2 (Int32.toInt_inj.mp (e.trans (by decide)))
  have a3 : x.toInt ≠ 3 := fun e => h3 (Int32.toInt_inj.mp (e.trans (by decide)))
  have a4 : x.toInt ≠ 4 := fun e => h4 (Int32.toInt_inj.mp (e.trans (by decide)))
  have a5 : x.toInt ≠ 5 := fun e => h5 (Int32.toInt_inj.mp (e.trans (by decide)))
  have a6 : x.toInt ≠ 6 := fun e => h6 (Int32.toInt_inj.mp (e.trans (by decide)))
  have a7 : x.toInt ≠ 7 := fun e => h7 (Int32.toInt_inj.mp (e.trans (by decide)))
  have a8 : x.toInt ≠ 8 := fun e => h8 (Int32.toInt_inj.mp (e.trans (by decide)))
  have a9 : x.toInt ≠ 9 := fun e => h9 (Int32.toInt_inj.mp (e.trans (by decide)))
  have a10 : x.toInt ≠ 10 := fun e => h10 (Int32.toInt_inj.mp (e.trans (by decide)))
  have a11 : x.toInt ≠ 11 := fun e => h11 (Int32.toInt_inj.mp (e.trans (by decide)))
  have a12 : x.toInt ≠ 12 := fun e => h12 (Int32.toInt_inj.mp (e.trans (by decide)))
  have a13 : x.toInt ≠ 13 := fun e => h13 (Int32.toInt_inj.mp (e.trans (by decide)))
  have a14 : x.toInt ≠ 14 := fun e => h14 (Int32.toInt_inj.mp (e.trans (by decide)))
  have a15 : x.toInt ≠ 15 := fun e => h15 (Int32.toInt_inj.mp (e.trans (by decide)))
  have a16 : x.toInt ≠ 16 := fun e => h16 (Int32.toInt_inj.mp (e.trans (by decide)))
  have a17 : x.toInt ≠ 17 := fun e => h17 (Int32.toInt_inj.mp (e.trans (by decide)))
  have a18 : x.toInt ≠ 18 := fun e => h18 (Int32.toInt_inj.mp (e.trans (by decide)))
  have a19 : x.toInt ≠ 19 := fun e => h19 (Int32.toInt_inj.mp (e.trans (by decide)))
  have a20 : x.toInt ≠ 20 := fun e => h20 (Int32.toInt_inj.mp (e.trans (by decide)))
  have a21 : x.toInt ≠ 21 := fun e => h21 (Int32.toInt_inj.mp (e.trans (by decide)))
  have a22 : x.toInt ≠ 22 := fun e => h22 (Int32.toInt_inj.mp (e.trans (by decide)))
  have a23 : x.toInt ≠ 23 := fun e => h23 (Int32.toInt_inj.mp (e.trans (by decide)))
  have a24 : x.toInt ≠ 24 := fun e => h24 (Int32.toInt_inj.mp (e.trans (by decide)))
  have a25 : x.toInt ≠ 25 := fun e => h25 (Int32.toInt_inj.mp (e.trans (by decide)))
  have a26 : x.toInt ≠ 26 := fun e => h26 (Int32.toInt_inj.mp (e.trans (by decide)))
  have a27 : x.toInt ≠ 27 := fun e => h27 (Int32.toInt_inj.mp (e.trans (by decide)))
  have a28 : x.toInt ≠ 28 := fun e => h28 (Int32.toInt_inj.mp (e.trans (by decide)))
  have a29 : x.toInt ≠ 29 := fun e => h29 (Int32.toInt_inj.mp (e.trans (by decide)))
  have a30 : x.toInt ≠ 30 := fun e => h30 (Int32.toInt_inj.mp (e.trans (by decide)))
  have a31 : x.toInt ≠ 31 := fun e => h31 (Int32.toInt_inj.mp (e.trans (by decide)))
  have a32 : x.toInt ≠ 32 := fun e => h32 (Int32.toInt_inj.mp (e.trans (by decide)))
  have a33 : x.toInt ≠ 33 := fun e => h33 (Int32.toInt_inj.mp (e.trans (by decide)))
  have a34 : x.toInt ≠ 34 := fun e => h34 (Int32.toInt_inj.mp (e.trans (by decide)))
  have a35 : x.toInt ≠ 35 := fun e => h35 (Int32.toInt_inj.mp (e.trans (by decide)))
  have a36 : x.toInt ≠ 36 := fun e => h36 (Int32.toInt_inj.mp (e.trans (by decide)))
  have a37 : x.toInt ≠ 37 := fun e => h37 (Int32.toInt_inj.mp (e.trans (by decide)))
  have a38 : x.toInt ≠ 38 := fun e => h38 (Int32.toInt_inj.mp (e.trans (by decide)))
  have a39 : x.toInt ≠ 39 := fun e => h39 (Int32.toInt_inj.mp (e.trans (by decide)))
  omega
theorem tsw_1_6 {x : Int32} (h1 : ¬ x = 1) (h2 : ¬ x = 2) (h3 : ¬ x = 3) (h4 : ¬ x = 4) (h5 : ¬ x = 5) (h6 : ¬ x = 6) : x.toInt < 1 ∨ 6 < x.toInt := by
  have a1 : x.toInt ≠ 1 := fun e => h1 (Int32.toInt_inj.mp (e.trans (by decide)))
  have a2 : x.toInt ≠ 2 := fun e => h2 (Int32.toInt_inj.mp (e.trans (by decide)))
  have a3 : x.toInt ≠ 3 := fun e => h3 (Int32.toInt_inj.mp (e.trans (by decide)))
  have a4 : x.toInt ≠ 4 := fun e => h4 (Int32.toInt_inj.mp (e.trans (by decide)))
  have a5 : x.toInt ≠ 5 := fun e => h5 (Int32.toInt_inj.mp (e.trans (by decide)))
  have a6 : x.toInt ≠ 6 := fun e => h6 (Int32.toInt_inj.mp (e.trans (by decide)))
  omega
theorem tsw_2_6 {x : Int32} (h2 : ¬ x = 2) (h3 : ¬ x = 3) (h4 : ¬ x = 4) (h5 : ¬ x = 5) (h6 : ¬ x = 6) : x.toInt < 2 ∨ 6 < x.toInt := by
  have a2 : x.toInt ≠ 2 := fun e => h2 (Int32.toInt_inj.mp (e.trans (by decide)))
  have a3 : x.toInt ≠ 3 := fun e => h3 (Int32.toInt_inj.mp (e.trans (by decide)))
  have a4 : x.toInt ≠ 4 := fun e => h4 (Int32.toInt_inj.mp (e.trans (by decide)))
  have a5 : x.toInt ≠ 5 := fun e => h5 (Int32.toInt_inj.mp (e.trans (by decide)))
  have a6 : x.toInt ≠ 6 := fun e => h6 (Int32.toInt_inj.mp (e.trans (by decide)))
  omega
theorem tsw_6_8 {x : Int32} (h6 : ¬ x = 6) (h7 : ¬ x = 7) (h8 : ¬ x = 8) : x.toInt < 6 ∨ 8 < x.toInt := by
  have a6 : x.toInt ≠ 6 := fun e => h6 (Int32.toInt_inj.mp (e.trans (by decide)))
  have a7 : x.toInt ≠ 7 := fun e => h7 (Int32.toInt_inj.mp (e.trans (by decide)))
  have a8 : x.toInt ≠ 8 := fun e => h8 (Int32.toInt_inj.mp (e.trans (by decide)))
  omega
theorem tsw_6_9 {x : Int32} (h6 : ¬ x = 6) (h7 : ¬ x = 7) (h8 : ¬ x = 8) (h9 : ¬ x = 9) : x.toInt < 6 ∨ 9 < x.toInt := by
  have a6 : x.toInt ≠ 6 := fun e => h6 (Int32.toInt_inj.mp (e.trans (by decide)))
  have a7 : x.toInt ≠ 7 := fun e => h7 (Int32.toInt_inj.mp (e.trans (by decide)))
  have a8 : x.toInt ≠ 8 := fun e => h8 (Int32.toInt_inj.mp (e.trans (by decide)))
  have a9 : x.toInt ≠ 9 := fun e => h9 (Int32.toInt_inj.mp (e.trans (by decide)))
  omega
theorem lks_8_16 {x : Int32} (h8 : ¬ x = 8) (h16 : ¬ x = 16) : Op.lookupswitch.offset [(8, 27), (16, 30)] 33 x.toInt = 33 := by
  have a8 : x.toInt ≠ 8 := fun e => h8 (Int32.toInt_inj.mp (e.trans (by decide)))
  have a16 : x.toInt ≠ 16 := fun e => h16 (Int32.toInt_inj.mp (e.trans (by decide)))
  simp [Op.lookupswitch.offset, a8, Ne.symm a8, a16, Ne.symm a16]
/-! ===== numbers ===== -/
def fk_N : Nat := 4096
def fk_max (x y : Int32) : Int32 := if x < y then y else x
def fk_min (x y : Int32) : Int32 := if y < x then y else x
def fk_abs (x : Int32) : Int32 := if 0 ≤ x then x else 0 - x
def fk_t0 (j : Nat) : Int32 := ([2, 1, 5, 1, 2, 0, 5] : List Int32).getD j 0
def fk_t1 (j : Nat) : Int32 := ([5, 5, 3, 10, 10, 1, 3] : List Int32).getD j 0
def fk_t2 (j : Nat) : Int32 := ([-1, 0, 0, 1, 3, 0, 2] : List Int32).getD j 0
def fk_t3 (j : Nat) : Int32 := ([6, 99, 99, 99, 9999, 9999] : List Int32).getD j 0
def fk_Y {α : Type} (σ : fk_T) (a0 n0 : Nat) (sp : Int32) (a1 n1 : Nat) (dp n : Int32) (k : fk_T → Option α) : Option α := if sp < 0 ∨ dp < 0 ∨ n < 0 ∨ n0 < sp.toNatClampNeg + n.toNatClampNeg ∨ n1 < dp.toNatClampNeg + n.toNatClampNeg then none else k (fk_w σ a1 (va_cpy (σ.1 a0) (σ.1 a1) sp.toNatClampNeg dp.toNatClampNeg n.toNatClampNeg))
def hp_R (u : Nat) : Prop := u = 27 ∨ u = 28 ∨ u = 29 ∨ u = 30
theorem hp_ltr {u : Nat} (h : hp_R u) : u < 37 := by unfold hp_R at h; omega
theorem hp_cr {u : Nat} (h : hp_R u) (g : Nat → Int32) (v : Int64) : hp_c u g v = .inl (false, 135, g) := by rcases h with rfl | rfl | rfl | rfl <;> rfl
def hp_W (w : Nat) : Prop := 1010 ≤ w ∧ w < 1023
theorem aw_in {w : Cond} (i : Nat) (h : tables_1[i]? = some w) (hg : goodWord w = true) : w ∈ aw_tb := List.mem_filter.mpr ⟨List.mem_append_right _ (List.mem_of_getElem? h), hg⟩
theorem aw_inS {w : Cond} (i : Nat) (h : (k2_sels lw_privs)[i]? = some w) (hg : goodWord w = true) : w ∈ aw_tb := List.mem_filter.mpr ⟨List.mem_append_left _ (List.mem_of_getElem? h), hg⟩
/-! ===== Math, arraycopy ===== -/
theorem aw_w_max : (Jvm.Cond.static Lib.Math.max.name ∈ aw_tb ∧ Jvm.Cond.initialized "java/lang/Math" ∈ aw_tb) ∧ Jvm.Cond.code Lib.Math.max.name Lib.Math.max.code 2 (some .int) ∈ aw_tb := ⟨⟨aw_in 214 (by decide +kernel) rfl, aw_in 8 (by decide +kernel) rfl⟩, aw_in 215 (by decide +kernel) rfl⟩
theorem af_mmax {cx : aw_C} {cc : ByteArray} {own : String} {rm : Room} (K : aw_K cx cc own rm) {α : Type} {ρ : α → Option Value × aw_H} {pc : Nat} {lv : List (Option Value)} {st : List Value} {h : aw_H} {f : Option α} {idx : Nat} {x y : Int32} (n : Nat) (d : decode cc pc = .ok (.invokestatic idx, 3)) (hn : pc + 3 = n) (lk : Jvm.Cond.methodLink own idx Lib.Math.max.name ∈ aw_tb) (hf : Nat.ble 1 rm.frames = true) (hlo : Nat.ble 21 rm.locals = true) (hcat : Nat.ble (st.map fun v => v.category).sum 8 = true) (k : af cx ρ n lv (.int (fk_max x y) :: st) h f) : af cx ρ pc lv (.int y :: .int x :: st) h f := by
  obtain ⟨p, l, e, R, s, m, args, below, meth, c, Q, A, cells, slots, X, nL, Ad⟩ := cx
  subst hn
  intro q hq hr ad H locs ls h1 h2 h3 h4 h5
  obtain ⟨hx, hb, hml, hown, hts, hSX, hA, hlk, hR, hc0, hs0, hAd⟩ := K
  subst hR
  have hl2 := Nat.le_of_ble_eq_true hlo
  have hc2 := Nat.le_of_ble_eq_true hcat
  exact va_mmax hx hb (hml.trans h5.1.symm) hown (hts _ lk) (hts _ aw_w_max.1.1) (hts _ aw_w_max.1.2) (hts _ aw_w_max.2) (Nat.le_of_ble_eq_true hf) (by rw [aw_cats]; omega) hc0 hs0 d (k q hq hr ad H locs ls h1 h2 h3 h4 h5)
theorem aw_w_min : (Jvm.Cond.static Lib.Math.min.name ∈ aw_tb ∧ Jvm.Cond.initialized "java/lang/Math" ∈ aw_tb) ∧ Jvm.Cond.code Lib.Math.min.name Lib.Math.min.code 2 (some .int) ∈ aw_tb := ⟨⟨aw_in 291 (by decide +kernel) rfl, aw_in 8 (by decide +kernel) rfl⟩, aw_in 292 (by decide +kernel) rfl⟩
theorem af_mmin {cx : aw_C} {cc : ByteArray} {own : String} {rm : Room} (K : aw_K cx cc own rm) {α : Type} {ρ : α → Option Value × aw_H} {pc : Nat} {lv : List (Option Value)} {st : List Value} {h : aw_H} {f : Option α} {idx : Nat} {x y : Int32} (n : Nat) (d : decode cc pc = .ok (.invokestatic idx, 3)) (hn : pc + 3 = n) (lk : Jvm.Cond.methodLink own idx Lib.Math.min.name ∈ aw_tb) (hf : Nat.ble 1 rm.frames = true) (hlo : Nat.ble 21 rm.locals = true) (hcat : Nat.ble (st.map fun v => v.category).sum 8 = true) (k : af cx ρ n lv (.int (fk_min x y) :: st) h f) : af cx ρ pc lv (.int y :: .int x :: st) h f := by
  obtain ⟨p, l, e, R, s, m, args, below, meth, c, Q, A, cells, slots, X, nL, Ad⟩ := cx
  subst hn
  intro q hq hr ad H locs ls h1 h2 h3 h4 h5
  obtain ⟨hx, hb, hml, hown, hts, hSX, hA, hlk, hR, hc0, hs0, hAd⟩ := K
  subst hR
  have hl2 := Nat.le_of_ble_eq_true hlo
  have hc2 := Nat.le_of_ble_eq_true hcat
  exact va_mmin hx hb (hml.trans h5.1.symm) hown (hts _ lk) (hts _ aw_w_min.1.1) (hts _ aw_w_min.1.2) (hts _ aw_w_min.2) (Nat.le_of_ble_eq_true hf) (by rw [aw_cats]; omega) hc0 hs0 d (k q hq hr ad H locs ls h1 h2 h3 h4 h5)
theorem aw_w_abs : (Jvm.Cond.static Lib.Math.abs.name ∈ aw_tb ∧ Jvm.Cond.initialized "java/lang/Math" ∈ aw_tb) ∧ Jvm.Cond.code Lib.Math.abs.name Lib.Math.abs.code 1 (some .int) ∈ aw_tb := ⟨⟨aw_in 267 (by decide +kernel) rfl, aw_in 8 (by decide +kernel) rfl⟩, aw_in 268 (by decide +kernel) rfl⟩
theorem af_mabs {cx : aw_C} {cc : ByteArray} {own : String} {rm : Room} (K : aw_K cx cc own rm) {α : Type} {ρ : α → Option Value × aw_H} {pc : Nat} {lv : List (Option Value)} {st : List Value} {h : aw_H} {f : Option α} {idx : Nat} {x : Int32} (n : Nat) (d : decode cc pc = .ok (.invokestatic idx, 3)) (hn : pc + 3 = n) (lk : Jvm.Cond.methodLink own idx Lib.Math.abs.name ∈ aw_tb) (hf : Nat.ble 1 rm.frames = true) (hlo : Nat.ble 21 rm.locals = true) (hcat : Nat.ble (st.map fun v => v.category).sum 8 = true) (k : af cx ρ n lv (.int (fk_abs x) :: st) h f) : af cx ρ pc lv (.int x :: st) h f := by
  obtain ⟨p, l, e, R, s, m, args, below, meth, c, Q, A, cells, slots, X, nL, Ad⟩ := cx
  subst hn
  intro q hq hr ad H locs ls h1 h2 h3 h4 h5
  obtain ⟨hx, hb, hml, hown, hts, hSX, hA, hlk, hR, hc0, hs0, hAd⟩ := K
  subst hR
  have hl2 := Nat.le_of_ble_eq_true hlo
  have hc2 := Nat.le_of_ble_eq_true hcat
  exact va_mabs hx hb (hml.trans h5.1.symm) hown (hts _ lk) (hts _ aw_w_abs.1.1) (hts _ aw_w_abs.1.2) (hts _ aw_w_abs.2) (Nat.le_of_ble_eq_true hf) (by rw [aw_cats]; omega) hc0 hs0 d (k q hq hr ad H locs ls h1 h2 h3 h4 h5)
theorem aw_w_cp : Jvm.Cond.native arraycopyName ∈ aw_tb ∧ Jvm.Cond.static arraycopyName ∈ aw_tb ∧ Jvm.Cond.initialized "java/lang/System" ∈ aw_tb := ⟨aw_in 334 (by decide +kernel) rfl, aw_in 333 (by decide +kernel) rfl, aw_in 9 (by decide +kernel) rfl⟩
theorem af_copy {cx : aw_C} {cc : ByteArray} {own : String} {rm : Room} (K : aw_K cx cc own rm) {α : Type} {ρ : α → Option Value × aw_H} {pc : Nat} {lv : List (Option Value)} {st : List Value} {σ : fk_T} {kf : fk_T → Option α} {idx a0 a1 n0 n1 : Nat} {sp dp ct : Int32} (n : Nat) (d : decode cc pc = .ok (.invokestatic idx, 3)) (hn : pc + 3 = n) (lk : Jvm.Cond.methodLink own idx arraycopyName ∈ aw_tb) (hf : Nat.ble 1 rm.frames = true) (hlo : Nat.ble (8 + (nativeFrameWords "java/lang/System" "arraycopy" 5 + 11)) rm.locals = true) (hcat : Nat.ble (st.map fun v => v.category).sum 8 = true) (ha0 : a0 < 37) (hc0 : hp_c a0 (σ.1 a0) σ.2 = .inl (false, n0, σ.1 a0)) (ha1 : a1 < 37) (hc1 : ∀ g v, hp_c a1 g v = .inl (false, n1, g)) (k : ∀ σ', af cx ρ n lv st (hp σ') (kf σ')) : af cx ρ pc lv (.int ct :: .int dp :: .ref a1 :: .int sp :: .ref a0 :: st) (hp σ) (fk_Y σ a0 n0 sp a1 n1 dp ct kf) := by
  obtain ⟨p, l, e, R, s, m, args, below, meth, c, Q, A, cells, slots, X, nL, Ad⟩ := cx
  subst hn
  intro q hq hr ad H locs ls h1 h2 h3 h4 h5
  obtain ⟨hx, hb, hml, hown, hts, hSX, hA, hlk, hR, hcc, hss, hAd⟩ := K
  subst hR
  have hl2 := Nat.le_of_ble_eq_true hlo
  have hc2 := Nat.le_of_ble_eq_true hcat
  unfold fk_Y at hq
  by_cases hi : sp < 0 ∨ dp < 0 ∨ ct < 0 ∨ n0 < sp.toNatClampNeg + ct.toNatClampNeg ∨ n1 < dp.toNatClampNeg + ct.toNatClampNeg
  · rw [if_pos hi] at hq; cases hq
  · rw [if_neg hi] at hq
    have i1 : ¬ sp < 0 := fun z => hi (Or.inl z)
    have i2 : ¬ dp < 0 := fun z => hi (Or.inr (Or.inl z))
    have i3 : ¬ ct < 0 := fun z => hi (Or.inr (Or.inr (Or.inl z)))
    have i4 : sp.toNatClampNeg + ct.toNatClampNeg ≤ n0 := Nat.not_lt.mp fun z => hi (Or.inr (Or.inr (Or.inr (Or.inl z))))
    have i5 : dp.toNatClampNeg + ct.toNatClampNeg ≤ n1 := Nat.not_lt.mp fun z => hi (Or.inr (Or.inr (Or.inr (Or.inr z))))
    refine va_copyi (f := σ.1 a0) (g := σ.1 a1) (ty := .int) hx hb (hml.trans h5.1.symm) hown (hts _ lk) (hts _ aw_w_cp.1) (hts _ aw_w_cp.2.1) (hts _ aw_w_cp.2.2) hSX.1 h2 h3 h4 a0 a1 0 0 (aw_w_at (e := .inl (false, n0, σ.1 a0)) (by rw [hp_at _ ha0, hc0])) (aw_w_at (e := .inl (false, n1, σ.1 a1)) (by rw [hp_at _ ha1, hc1])) rfl rfl rfl i1 i2 i3 i4 i5 (fun _ _ => rfl) (Nat.le_of_ble_eq_true hf) (by rw [aw_cats]; omega) d (fun H1 locs1 g1 g2 g3 => k _ q hq hr ad H1 locs1 ls h1 ?_ ?_ g3 h5)
    · rw [← hp_set _ ha1, hc1, ← aw_w_set]; exact g1
    · rw [← hp_set _ ha1, hc1, ← aw_w_set]; exact g2
theorem af_iincB {cx : aw_C} {cc : ByteArray} {own : String} {rm : Room} (K : aw_K cx cc own rm) {α : Type} {ρ : α → Option Value × aw_H} {pc : Nat} {lv : List (Option Value)} {st : List Value} {h : aw_H} {kf : Int32 → Option α} {i : Nat} {z : Int} {x z' : Int32} (n : Nat) (lv' : Int32 → List (Option Value)) (d : decode cc pc = .ok (.iinc i z, 3)) (hn : pc + 3 = n) (hi : i < aw_nL cx) (hl : lv[i]? = some (some (.int x))) (hz : Int32.ofInt z = z') (e : ∀ y, aw_lw lv i (.int y) = lv' y) (k : ∀ y, af cx ρ n (lv' y) st h (kf y)) : af cx ρ pc lv st h (fk_B (x + z') kf) := by
  exact af_iinc K n (lv' (x + z')) d hn hi hl (by rw [hz]) (e _) (k _)
/-! ===== ends and calls by the kind of the answer ===== -/
theorem af_retv {cx : aw_C} {cc : ByteArray} {own : String} {rm : Room} (K : aw_K cx cc own rm) {pc : Nat} {lv : List (Option Value)} {σ : fk_T}  (d : decode cc pc = .ok (.return_, 1)) : af cx ρv pc lv [] (hp σ) (some σ) := af_ret (r := none) K d rfl rfl
theorem af_reti {cx : aw_C} {cc : ByteArray} {own : String} {rm : Room} (K : aw_K cx cc own rm) {pc : Nat} {lv : List (Option Value)} {σ : fk_T} {x : Int32} (d : decode cc pc = .ok (.ireturn, 1)) : af cx ρi pc lv [.int x] (hp σ) (some (x, σ)) := af_ret (r := some (.int x)) K d rfl rfl
theorem af_retl {cx : aw_C} {cc : ByteArray} {own : String} {rm : Room} (K : aw_K cx cc own rm) {pc : Nat} {lv : List (Option Value)} {σ : fk_T} {x : Int64} (d : decode cc pc = .ok (.lreturn, 1)) : af cx ρl pc lv [.long x] (hp σ) (some (x, σ)) := af_ret (r := some (.long x)) K d rfl rfl
theorem af_retr {cx : aw_C} {cc : ByteArray} {own : String} {rm : Room} (K : aw_K cx cc own rm) {pc : Nat} {lv : List (Option Value)} {σ : fk_T} {x : Nat} (d : decode cc pc = .ok (.areturn, 1)) : af cx ρr pc lv [.ref x] (hp σ) (some (x, σ)) := af_ret (r := some (.ref x)) K d rfl rfl
theorem af_retz {cx : aw_C} {cc : ByteArray} {own : String} {rm : Room} (K : aw_K cx cc own rm) {pc : Nat} {lv : List (Option Value)} {σ : fk_T} {x : Int32} {b : Bool} (hb : fk_b b = x) (d : decode cc pc = .ok (.ireturn, 1)) : af cx ρz pc lv [.int x] (hp σ) (some (b, σ)) := af_ret (r := some (.int x)) K d (by rw [← hb]) rfl
theorem af_callV_v {cx : aw_C} {cc : ByteArray} {own : String} {rm : Room} (K : aw_K cx cc own rm) {α : Type} {ρ : α → Option Value × aw_H} {pc : Nat} {lv : List (Option Value)} {st : List Value} {h : aw_H} {idx np : Nat} {f : Option (fk_T)} {kf : fk_T → Option α} {M : aw_M} {vs : List Value} {b ci N : Nat} {T : u_T} {fs : List Value} (V : aw_mV M np) (lk : Jvm.Cond.methodLink own idx M.1 ∈ aw_tb) (hb2 : h[b]? = some (.inr (ci, fs))) (hcl : aw_cl[ci]? = some (M.1.cls, T, N)) (n : Nat) (d : decode cc pc = .ok (.invokevirtual idx, 3)) (hn : pc + 3 = n) (hl : vs.length = np) (hcat : Nat.ble (st.map fun v => v.category).sum 8 = true) (hfit : aw_fit M rm = true) (G : af_G (aw_xX cx) (aw_xl cx) M (.ref b :: vs) h ρv f) {stk : List Value} (hs : stk = vs.reverse ++ .ref b :: st) (k : ∀ q1, af cx ρ n lv (st) (hp q1) (kf q1)) : af cx ρ pc lv stk h (f.bind kf) := af_callV K V lk hb2 hcl n d hn hl hcat hfit G hs k
theorem af_callV_i {cx : aw_C} {cc : ByteArray} {own : String} {rm : Room} (K : aw_K cx cc own rm) {α : Type} {ρ : α → Option Value × aw_H} {pc : Nat} {lv : List (Option Value)} {st : List Value} {h : aw_H} {idx np : Nat} {f : Option (Int32 × fk_T)} {kf : Int32 × fk_T → Option α} {M : aw_M} {vs : List Value} {b ci N : Nat} {T : u_T} {fs : List Value} (V : aw_mV M np) (lk : Jvm.Cond.methodLink own idx M.1 ∈ aw_tb) (hb2 : h[b]? = some (.inr (ci, fs))) (hcl : aw_cl[ci]? = some (M.1.cls, T, N)) (n : Nat) (d : decode cc pc = .ok (.invokevirtual idx, 3)) (hn : pc + 3 = n) (hl : vs.length = np) (hcat : Nat.ble (st.map fun v => v.category).sum 8 = true) (hfit : aw_fit M rm = true) (G : af_G (aw_xX cx) (aw_xl cx) M (.ref b :: vs) h ρi f) {stk : List Value} (hs : stk = vs.reverse ++ .ref b :: st) (k : ∀ q1, af cx ρ n lv (.int q1.1 :: st) (hp q1.2) (kf q1)) : af cx ρ pc lv stk h (f.bind kf) := af_callV K V lk hb2 hcl n d hn hl hcat hfit G hs k
theorem af_callV_z {cx : aw_C} {cc : ByteArray} {own : String} {rm : Room} (K : aw_K cx cc own rm) {α : Type} {ρ : α → Option Value × aw_H} {pc : Nat} {lv : List (Option Value)} {st : List Value} {h : aw_H} {idx np : Nat} {f : Option (Bool × fk_T)} {kf : Bool × fk_T → Option α} {M : aw_M} {vs : List Value} {b ci N : Nat} {T : u_T} {fs : List Value} (V : aw_mV M np) (lk : Jvm.Cond.methodLink own idx M.1 ∈ aw_tb) (hb2 : h[b]? = some (.inr (ci, fs))) (hcl : aw_cl[ci]? = some (M.1.cls, T, N)) (n : Nat) (d : decode cc pc = .ok (.invokevirtual idx, 3)) (hn : pc + 3 = n) (hl : vs.length = np) (hcat : Nat.ble (st.map fun v => v.category).sum 8 = true) (hfit : aw_fit M rm = true) (G : af_G (aw_xX cx) (aw_xl cx) M (.ref b :: vs) h ρz f) {stk : List Value} (hs : stk = vs.reverse ++ .ref b :: st) (k : ∀ q1, af cx ρ n lv (.int (fk_b q1.1) :: st) (hp q1.2) (kf q1)) : af cx ρ pc lv stk h (f.bind kf) := af_callV K V lk hb2 hcl n d hn hl hcat hfit G hs k
theorem af_callV_l {cx : aw_C} {cc : ByteArray} {own : String} {rm : Room} (K : aw_K cx cc own rm) {α : Type} {ρ : α → Option Value × aw_H} {pc : Nat} {lv : List (Option Value)} {st : List Value} {h : aw_H} {idx np : Nat} {f : Option (Int64 × fk_T)} {kf : Int64 × fk_T → Option α} {M : aw_M} {vs : List Value} {b ci N : Nat} {T : u_T} {fs : List Value} (V : aw_mV M np) (lk : Jvm.Cond.methodLink own idx M.1 ∈ aw_tb) (hb2 : h[b]? = some (.inr (ci, fs))) (hcl : aw_cl[ci]? = some (M.1.cls, T, N)) (n : Nat) (d : decode cc pc = .ok (.invokevirtual idx, 3)) (hn : pc + 3 = n) (hl : vs.length = np) (hcat : Nat.ble (st.map fun v => v.category).sum 8 = true) (hfit : aw_fit M rm = true) (G : af_G (aw_xX cx) (aw_xl cx) M (.ref b :: vs) h ρl f) {stk : List Value} (hs : stk = vs.reverse ++ .ref b :: st) (k : ∀ q1, af cx ρ n lv (.long q1.1 :: st) (hp q1.2) (kf q1)) : af cx ρ pc lv stk h (f.bind kf) := af_callV K V lk hb2 hcl n d hn hl hcat hfit G hs k
theorem af_callV_r {cx : aw_C} {cc : ByteArray} {own : String} {rm : Room} (K : aw_K cx cc own rm) {α : Type} {ρ : α → Option Value × aw_H} {pc : Nat} {lv : List (Option Value)} {st : List Value} {h : aw_H} {idx np : Nat} {f : Option (Nat × fk_T)} {kf : Nat × fk_T → Option α} {M : aw_M} {vs : List Value} {b ci N : Nat} {T : u_T} {fs : List Value} (V : aw_mV M np) (lk : Jvm.Cond.methodLink own idx M.1 ∈ aw_tb) (hb2 : h[b]? = some (.inr (ci, fs))) (hcl : aw_cl[ci]? = some (M.1.cls, T, N)) (n : Nat) (d : decode cc pc = .ok (.invokevirtual idx, 3)) (hn : pc + 3 = n) (hl : vs.length = np) (hcat : Nat.ble (st.map fun v => v.category).sum 8 = true) (hfit : aw_fit M rm = true) (G : af_G (aw_xX cx) (aw_xl cx) M (.ref b :: vs) h ρr f) {stk : List Value} (hs : stk = vs.reverse ++ .ref b :: st) (k : ∀ q1, af cx ρ n lv (.ref q1.1 :: st) (hp q1.2) (kf q1)) : af cx ρ pc lv stk h (f.bind kf) := af_callV K V lk hb2 hcl n d hn hl hcat hfit G hs k
theorem af_callS_v {cx : aw_C} {cc : ByteArray} {own : String} {rm : Room} (K : aw_K cx cc own rm) {α : Type} {ρ : α → Option Value × aw_H} {pc : Nat} {lv : List (Option Value)} {st : List Value} {h : aw_H} {idx np : Nat} {f : Option (fk_T)} {kf : fk_T → Option α} {M : aw_M} {vs : List Value} (V : aw_mS M np) (lk : Jvm.Cond.methodLink own idx M.1 ∈ aw_tb) (n : Nat) (d : decode cc pc = .ok (.invokestatic idx, 3)) (hn : pc + 3 = n) (hl : vs.length = np) (hcat : Nat.ble (st.map fun v => v.category).sum 8 = true) (hfit : aw_fit M rm = true) (G : af_G (aw_xX cx) (aw_xl cx) M (vs) h ρv f) {stk : List Value} (hs : stk = vs.reverse ++ st) (k : ∀ q1, af cx ρ n lv (st) (hp q1) (kf q1)) : af cx ρ pc lv stk h (f.bind kf) := af_callS K V lk n d hn hl hcat hfit G hs k
theorem af_callS_i {cx : aw_C} {cc : ByteArray} {own : String} {rm : Room} (K : aw_K cx cc own rm) {α : Type} {ρ : α → Option Value × aw_H} {pc : Nat} {lv : List (Option Value)} {st : List Value} {h : aw_H} {idx np : Nat} {f : Option (Int32 × fk_T)} {kf : Int32 × fk_T → Option α} {M : aw_M} {vs : List Value} (V : aw_mS M np) (lk : Jvm.Cond.methodLink own idx M.1 ∈ aw_tb) (n : Nat) (d : decode cc pc = .ok (.invokestatic idx, 3)) (hn : pc + 3 = n) (hl : vs.length = np) (hcat : Nat.ble (st.map fun v => v.category).sum 8 = true) (hfit : aw_fit M rm = true) (G : af_G (aw_xX cx) (aw_xl cx) M (vs) h ρi f) {stk : List Value} (hs : stk = vs.reverse ++ st) (k : ∀ q1, af cx ρ n lv (.int q1.1 :: st) (hp q1.2) (kf q1)) : af cx ρ pc lv stk h (f.bind kf) := af_callS K V lk n d hn hl hcat hfit G hs k
theorem af_callS_z {cx : aw_C} {cc : ByteArray} {own : String} {rm : Room} (K : aw_K cx cc own rm) {α : Type} {ρ : α → Option Value × aw_H} {pc : Nat} {lv : List (Option Value)} {st : List Value} {h : aw_H} {idx np : Nat} {f : Option (Bool × fk_T)} {kf : Bool × fk_T → Option α} {M : aw_M} {vs : List Value} (V : aw_mS M np) (lk : Jvm.Cond.methodLink own idx M.1 ∈ aw_tb) (n : Nat) (d : decode cc pc = .ok (.invokestatic idx, 3)) (hn : pc + 3 = n) (hl : vs.length = np) (hcat : Nat.ble (st.map fun v => v.category).sum 8 = true) (hfit : aw_fit M rm = true) (G : af_G (aw_xX cx) (aw_xl cx) M (vs) h ρz f) {stk : List Value} (hs : stk = vs.reverse ++ st) (k : ∀ q1, af cx ρ n lv (.int (fk_b q1.1) :: st) (hp q1.2) (kf q1)) : af cx ρ pc lv stk h (f.bind kf) := af_callS K V lk n d hn hl hcat hfit G hs k
theorem af_callS_l {cx : aw_C} {cc : ByteArray} {own : String} {rm : Room} (K : aw_K cx cc own rm) {α : Type} {ρ : α → Option Value × aw_H} {pc : Nat} {lv : List (Option Value)} {st : List Value} {h : aw_H} {idx np : Nat} {f : Option (Int64 × fk_T)} {kf : Int64 × fk_T → Option α} {M : aw_M} {vs : List Value} (V : aw_mS M np) (lk : Jvm.Cond.methodLink own idx M.1 ∈ aw_tb) (n : Nat) (d : decode cc pc = .ok (.invokestatic idx, 3)) (hn : pc + 3 = n) (hl : vs.length = np) (hcat : Nat.ble (st.map fun v => v.category).sum 8 = true) (hfit : aw_fit M rm = true) (G : af_G (aw_xX cx) (aw_xl cx) M (vs) h ρl f) {stk : List Value} (hs : stk = vs.reverse ++ st) (k : ∀ q1, af cx ρ n lv (.long q1.1 :: st) (hp q1.2) (kf q1)) : af cx ρ pc lv stk h (f.bind kf) := af_callS K V lk n d hn hl hcat hfit G hs k
theorem af_callS_r {cx : aw_C} {cc : ByteArray} {own : String} {rm : Room} (K : aw_K cx cc own rm) {α : Type} {ρ : α → Option Value × aw_H} {pc : Nat} {lv : List (Option Value)} {st : List Value} {h : aw_H} {idx np : Nat} {f : Option (Nat × fk_T)} {kf : Nat × fk_T → Option α} {M : aw_M} {vs : List Value} (V : aw_mS M np) (lk : Jvm.Cond.methodLink own idx M.1 ∈ aw_tb) (n : Nat) (d : decode cc pc = .ok (.invokestatic idx, 3)) (hn : pc + 3 = n) (hl : vs.length = np) (hcat : Nat.ble (st.map fun v => v.category).sum 8 = true) (hfit : aw_fit M rm = true) (G : af_G (aw_xX cx) (aw_xl cx) M (vs) h ρr f) {stk : List Value} (hs : stk = vs.reverse ++ st) (k : ∀ q1, af cx ρ n lv (.ref q1.1 :: st) (hp q1.2) (kf q1)) : af cx ρ pc lv stk h (f.bind kf) := af_callS K V lk n d hn hl hcat hfit G hs k
theorem af_callN_v {cx : aw_C} {cc : ByteArray} {own : String} {rm : Room} (K : aw_K cx cc own rm) {α : Type} {ρ : α → Option Value × aw_H} {pc : Nat} {lv : List (Option Value)} {st : List Value} {h : aw_H} {idx np : Nat} {f : Option (fk_T)} {kf : fk_T → Option α} {M : aw_M} {vs : List Value} {host : String} (V : aw_mS M np) (hnw : ∀ {X : aw_X} {A : Nat → Prop} {U : State}, aw_SX X A U → va_Nw (.methodLinkNest own idx M.1 host) U) (n : Nat) (d : decode cc pc = .ok (.invokestatic idx, 3)) (hn : pc + 3 = n) (hl : vs.length = np) (hcat : Nat.ble (st.map fun v => v.category).sum 8 = true) (hfit : aw_fit M rm = true) (G : af_G (aw_xX cx) (aw_xl cx) M (vs) h ρv f) {stk : List Value} (hs : stk = vs.reverse ++ st) (k : ∀ q1, af cx ρ n lv (st) (hp q1) (kf q1)) : af cx ρ pc lv stk h (f.bind kf) := af_callN K V hnw n d hn hl hcat hfit G hs k
theorem af_callN_i {cx : aw_C} {cc : ByteArray} {own : String} {rm : Room} (K : aw_K cx cc own rm) {α : Type} {ρ : α → Option Value × aw_H} {pc : Nat} {lv : List (Option Value)} {st : List Value} {h : aw_H} {idx np : Nat} {f : Option (Int32 × fk_T)} {kf : Int32 × fk_T → Option α} {M : aw_M} {vs : List Value} {host : String} (V : aw_mS M np) (hnw : ∀ {X : aw_X} {A : Nat → Prop} {U : State}, aw_SX X A U → va_Nw (.methodLinkNest own idx M.1 host) U) (n : Nat) (d : decode cc pc = .ok (.invokestatic idx, 3)) (hn : pc + 3 = n) (hl : vs.length = np) (hcat : Nat.ble (st.map fun v => v.category).sum 8 = true) (hfit : aw_fit M rm = true) (G : af_G (aw_xX cx) (aw_xl cx) M (vs) h ρi f) {stk : List Value} (hs : stk = vs.reverse ++ st) (k : ∀ q1, af cx ρ n lv (.int q1.1 :: st) (hp q1.2) (kf q1)) : af cx ρ pc lv stk h (f.bind kf) := af_callN K V hnw n d hn hl hcat hfit G hs k
theorem af_callN_z {cx : aw_C} {cc : ByteArray} {own : String} {rm : Room} (K : aw_K cx cc own rm) {α : Type} {ρ : α → Option Value × aw_H} {pc : Nat} {lv : List (Option Value)} {st : List Value} {h : aw_H} {idx np : Nat} {f : Option (Bool × fk_T)} {kf : Bool × fk_T → Option α} {M : aw_M} {vs : List Value} {host : String} (V : aw_mS M np) (hnw : ∀ {X : aw_X} {A : Nat → Prop} {U : State}, aw_SX X A U → va_Nw (.methodLinkNest own idx M.1 host) U) (n : Nat) (d : decode cc pc = .ok (.invokestatic idx, 3)) (hn : pc + 3 = n) (hl : vs.length = np) (hcat : Nat.ble (st.map fun v => v.category).sum 8 = true) (hfit : aw_fit M rm = true) (G : af_G (aw_xX cx) (aw_xl cx) M (vs) h ρz f) {stk : List Value} (hs : stk = vs.reverse ++ st) (k : ∀ q1, af cx ρ n lv (.int (fk_b q1.1) :: st) (hp q1.2) (kf q1)) : af cx ρ pc lv stk h (f.bind kf) := af_callN K V hnw n d hn hl hcat hfit G hs k
theorem af_callN_l {cx : aw_C} {cc : ByteArray} {own : String} {rm : Room} (K : aw_K cx cc own rm) {α : Type} {ρ : α → Option Value × aw_H} {pc : Nat} {lv : List (Option Value)} {st : List Value} {h : aw_H} {idx np : Nat} {f : Option (Int64 × fk_T)} {kf : Int64 × fk_T → Option α} {M : aw_M} {vs : List Value} {host : String} (V : aw_mS M np) (hnw : ∀ {X : aw_X} {A : Nat → Prop} {U : State}, aw_SX X A U → va_Nw (.methodLinkNest own idx M.1 host) U) (n : Nat) (d : decode cc pc = .ok (.invokestatic idx, 3)) (hn : pc + 3 = n) (hl : vs.length = np) (hcat : Nat.ble (st.map fun v => v.category).sum 8 = true) (hfit : aw_fit M rm = true) (G : af_G (aw_xX cx) (aw_xl cx) M (vs) h ρl f) {stk : List Value} (hs : stk = vs.reverse ++ st) (k : ∀ q1, af cx ρ n lv (.long q1.1 :: st) (hp q1.2) (kf q1)) : af cx ρ pc lv stk h (f.bind kf) := af_callN K V hnw n d hn hl hcat hfit G hs k
theorem af_callN_r {cx : aw_C} {cc : ByteArray} {own : String} {rm : Room} (K : aw_K cx cc own rm) {α : Type} {ρ : α → Option Value × aw_H} {pc : Nat} {lv : List (Option Value)} {st : List Value} {h : aw_H} {idx np : Nat} {f : Option (Nat × fk_T)} {kf : Nat × fk_T → Option α} {M : aw_M} {vs : List Value} {host : String} (V : aw_mS M np) (hnw : ∀ {X : aw_X} {A : Nat → Prop} {U : State}, aw_SX X A U → va_Nw (.methodLinkNest own idx M.1 host) U) (n : Nat) (d : decode cc pc = .ok (.invokestatic idx, 3)) (hn : pc + 3 = n) (hl : vs.length = np) (hcat : Nat.ble (st.map fun v => v.category).sum 8 = true) (hfit : aw_fit M rm = true) (G : af_G (aw_xX cx) (aw_xl cx) M (vs) h ρr f) {stk : List Value} (hs : stk = vs.reverse ++ st) (k : ∀ q1, af cx ρ n lv (.ref q1.1 :: st) (hp q1.2) (kf q1)) : af cx ρ pc lv stk h (f.bind kf) := af_callN K V hnw n d hn hl hcat hfit G hs k
end
section
theorem lk_169 : Jvm.Cond.methodLink RX4 53 yX4_within ∈ aw_tb := aw_in 169 (by decide +kernel) rfl
theorem lk_172 : Jvm.Cond.methodLink RX4 57 yX4_found ∈ aw_tb := aw_in 172 (by decide +kernel) rfl
theorem lk_176 : Jvm.Cond.constant RX4 235 (-1000001) ∈ aw_tb := aw_in 176 (by decide +kernel) rfl
theorem lk_189 : Jvm.Cond.methodLink RX4 68 yX0_isFull ∈ aw_tb := aw_in 189 (by decide +kernel) rfl
theorem lk_193 : Jvm.Cond.methodLink RX4 72 yX0_addPotter ∈ aw_tb := aw_in 193 (by decide +kernel) rfl
theorem lk_201 : Jvm.Cond.methodLink RX4 76 yX0_has ∈ aw_tb := aw_in 201 (by decide +kernel) rfl
theorem lk_205 : Jvm.Cond.methodLink RX4 80 yX0_tell ∈ aw_tb := aw_in 205 (by decide +kernel) rfl
theorem lk_209 : Jvm.Cond.methodLink RX0 62 yX0_pushes ∈ aw_tb := aw_in 209 (by decide +kernel) rfl
theorem lk_213 : Jvm.Cond.methodLink RX0 75 Lib.Math.max.name ∈ aw_tb := aw_in 213 (by decide +kernel) rfl
theorem lk_216 : Jvm.Cond.methodLink RX0 66 yX0_says ∈ aw_tb := aw_in 216 (by decide +kernel) rfl
theorem lk_228 : Jvm.Cond.fieldLink RX4 84 "TwoWheel" "MOST_OF_TRAIT" "[I" ∈ aw_tb := aw_in 228 (by decide +kernel) rfl
theorem lk_234 : Jvm.Cond.methodLink RX4 90 yX0_hasTwo ∈ aw_tb := aw_in 234 (by decide +kernel) rfl
theorem lk_238 : Jvm.Cond.methodLink RX0 58 yX0_has ∈ aw_tb := aw_in 238 (by decide +kernel) rfl
theorem lk_239 : Jvm.Cond.methodLink RX4 94 yX0_riftOf ∈ aw_tb := aw_in 239 (by decide +kernel) rfl
theorem lk_243 : Jvm.Cond.methodLink RX0 81 yX0_riftPlace ∈ aw_tb := aw_in 243 (by decide +kernel) rfl
theorem lk_246 : Jvm.Cond.methodLink RX4 97 yX0_setRift ∈ aw_tb := aw_in 246 (by decide +kernel) rfl
theorem lk_254 : Jvm.Cond.methodLink RX4 101 yX0_rises ∈ aw_tb := aw_in 254 (by decide +kernel) rfl
theorem lk_258 : Jvm.Cond.methodLink RX0 84 yX0_riftOf ∈ aw_tb := aw_in 258 (by decide +kernel) rfl
theorem lk_259 : Jvm.Cond.methodLink RX4 105 yX0_leans ∈ aw_tb := aw_in 259 (by decide +kernel) rfl
theorem lk_263 : Jvm.Cond.methodLink RX4 108 yX4_wouldFlop ∈ aw_tb := aw_in 263 (by decide +kernel) rfl
theorem lk_266 : Jvm.Cond.methodLink RX4 239 Lib.Math.abs.name ∈ aw_tb := aw_in 266 (by decide +kernel) rfl
theorem lk_273 : Jvm.Cond.constant RX4 114 99999 ∈ aw_tb := aw_in 273 (by decide +kernel) rfl
theorem lk_274 : Jvm.Cond.methodLink RX4 115 yX0_passDays ∈ aw_tb := aw_in 274 (by decide +kernel) rfl
theorem lk_278 : Jvm.Cond.methodLink RX0 98 yX0_hasTwo ∈ aw_tb := aw_in 278 (by decide +kernel) rfl
theorem lk_279 : Jvm.Cond.methodLink RX0 101 yX0_throwPot ∈ aw_tb := aw_in 279 (by decide +kernel) rfl
theorem lk_283 : Jvm.Cond.methodLink RX0 90 yX0_rises ∈ aw_tb := aw_in 283 (by decide +kernel) rfl
theorem lk_284 : Jvm.Cond.methodLink RX0 87 yX0_leans ∈ aw_tb := aw_in 284 (by decide +kernel) rfl
theorem lk_286 : Jvm.Cond.methodLink RX0 112 yX0_flop ∈ aw_tb := aw_in 286 (by decide +kernel) rfl
theorem lk_290 : Jvm.Cond.methodLink RX0 109 Lib.Math.min.name ∈ aw_tb := aw_in 290 (by decide +kernel) rfl
theorem lk_293 : Jvm.Cond.methodLink RX0 116 yX0_stand ∈ aw_tb := aw_in 293 (by decide +kernel) rfl
theorem lk_297 : Jvm.Cond.methodLink RX0 119 yX0_sell ∈ aw_tb := aw_in 297 (by decide +kernel) rfl
theorem lk_301 : Jvm.Cond.methodLink RX0 126 Lib.Math.abs.name ∈ aw_tb := aw_in 301 (by decide +kernel) rfl
theorem lk_302 : Jvm.Cond.constant RX0 108 99999 ∈ aw_tb := aw_in 302 (by decide +kernel) rfl
theorem lk_303 : Jvm.Cond.methodLink RX0 122 yX0_setRift ∈ aw_tb := aw_in 303 (by decide +kernel) rfl
theorem lk_304 : Jvm.Cond.methodLink RX0 105 yX0_ageAll ∈ aw_tb := aw_in 304 (by decide +kernel) rfl
theorem lk_312 : Jvm.Cond.methodLink RX4 128 yX0_sumOf ∈ aw_tb := aw_in 312 (by decide +kernel) rfl
theorem lk_316 : Jvm.Cond.methodLink RX4 131 yX0_widestTwo ∈ aw_tb := aw_in 316 (by decide +kernel) rfl
theorem lk_320 : Jvm.Cond.methodLink RX4 135 yX0_throwsToday ∈ aw_tb := aw_in 320 (by decide +kernel) rfl
theorem lk_328 : Jvm.Cond.methodLink RX4 138 yX0_become ∈ aw_tb := aw_in 328 (by decide +kernel) rfl
theorem lk_332 : Jvm.Cond.methodLink RX0 52 arraycopyName ∈ aw_tb := aw_in 332 (by decide +kernel) rfl
theorem lk_359 : Jvm.Cond.methodLink RX4 145 yX4_dearestTrait ∈ aw_tb := aw_in 359 (by decide +kernel) rfl
theorem lk_375 : Jvm.Cond.methodLink RX4 148 yJ6_bitCount_0f7a4 ∈ aw_tb := aw_in 375 (by decide +kernel) rfl
theorem lk_378 : Jvm.Cond.constant RJ6 265 1431655765 ∈ aw_tb := aw_in 378 (by decide +kernel) rfl
theorem lk_379 : Jvm.Cond.constant RJ6 266 858993459 ∈ aw_tb := aw_in 379 (by decide +kernel) rfl
theorem lk_380 : Jvm.Cond.constant RJ6 267 252645135 ∈ aw_tb := aw_in 380 (by decide +kernel) rfl
theorem lk_381 : Jvm.Cond.methodLink RX4 153 yX4_keepsRound ∈ aw_tb := aw_in 381 (by decide +kernel) rfl
theorem lk_385 : Jvm.Cond.methodLink RX4 236 yX0_reconcileSet ∈ aw_tb := aw_in 385 (by decide +kernel) rfl
theorem lk_393 : Jvm.Cond.methodLink RX4 156 yX2_isMissing ∈ aw_tb := aw_in 393 (by decide +kernel) rfl
theorem lk_397 : Jvm.Cond.methodLink RX4 159 yX4_trialRiftIsTold ∈ aw_tb := aw_in 397 (by decide +kernel) rfl
theorem lk_401 : Jvm.Cond.methodLink RX4 229 yX2_get ∈ aw_tb := aw_in 401 (by decide +kernel) rfl
theorem lk_409 : Jvm.Cond.methodLink RX4 162 yX4_trialHeatIsTold ∈ aw_tb := aw_in 409 (by decide +kernel) rfl
theorem lk_417 : Jvm.Cond.methodLink RX4 165 yX0_drawMarket ∈ aw_tb := aw_in 417 (by decide +kernel) rfl
theorem lk_421 : Jvm.Cond.methodLink RX0 129 yX0_draw ∈ aw_tb := aw_in 421 (by decide +kernel) rfl
theorem lk_425 : Jvm.Cond.constant RX0 133 1103515245 ∈ aw_tb := aw_in 425 (by decide +kernel) rfl
theorem lk_430 : Jvm.Cond.methodLink RX4 168 yX0_claysThatStand ∈ aw_tb := aw_in 430 (by decide +kernel) rfl
theorem lk_434 : Jvm.Cond.methodLink RX4 171 yX4_commonDivisor ∈ aw_tb := aw_in 434 (by decide +kernel) rfl
theorem lk_437 : Jvm.Cond.methodLink RX4 245 Lib.Math.max.name ∈ aw_tb := aw_in 437 (by decide +kernel) rfl
theorem lk_438 : Jvm.Cond.methodLink RX4 174 yX4_power ∈ aw_tb := aw_in 438 (by decide +kernel) rfl
theorem lk_449 : Jvm.Cond.methodLink RX4 184 yX3_append ∈ aw_tb := aw_in 449 (by decide +kernel) rfl
theorem lk_461 : Jvm.Cond.methodLink RX4 187 yX1_splitTape ∈ aw_tb := aw_in 461 (by decide +kernel) rfl
theorem lk_465 : Jvm.Cond.methodLink RX1 38 yX1_goesOnAt ∈ aw_tb := aw_in 465 (by decide +kernel) rfl
theorem lk_469 : Jvm.Cond.methodLink RX1 111 yX1_isLetter ∈ aw_tb := aw_in 469 (by decide +kernel) rfl
theorem lk_473 : Jvm.Cond.methodLink RX1 114 yX1_isDigit ∈ aw_tb := aw_in 473 (by decide +kernel) rfl
theorem lk_477 : Jvm.Cond.methodLink RX1 42 yX1_tokenAt ∈ aw_tb := aw_in 477 (by decide +kernel) rfl
theorem lk_481 : Jvm.Cond.methodLink RX1 117 yX1_numberAt ∈ aw_tb := aw_in 481 (by decide +kernel) rfl
theorem lk_485 : Jvm.Cond.methodLink RX1 123 Lib.Math.min.name ∈ aw_tb := aw_in 485 (by decide +kernel) rfl
theorem lk_486 : Jvm.Cond.methodLink RX1 120 yX1_wordAt ∈ aw_tb := aw_in 486 (by decide +kernel) rfl
theorem lk_490 : Jvm.Cond.methodLink RX1 128 yX1_nameOf ∈ aw_tb := aw_in 490 (by decide +kernel) rfl
theorem lk_506 : Jvm.Cond.methodLink RX1 132 yX1_isWordAt ∈ aw_tb := aw_in 506 (by decide +kernel) rfl
theorem lk_510 : Jvm.Cond.methodLink RX1 136 yJ0_length_8abf5 ∈ aw_tb := aw_in 510 (by decide +kernel) rfl
theorem lk_520 : Jvm.Cond.methodLink RX1 141 yJ0_charAt_5068e ∈ aw_tb := aw_in 520 (by decide +kernel) rfl
theorem lk_558 : Jvm.Cond.methodLink RX4 190 yX1_readItems ∈ aw_tb := aw_in 558 (by decide +kernel) rfl
theorem lk_562 : Jvm.Cond.methodLink RX1 49 yX1_hasFault ∈ aw_tb := aw_in 562 (by decide +kernel) rfl
theorem lk_566 : Jvm.Cond.methodLink RX1 53 yX1_readItem ∈ aw_tb := aw_in 566 (by decide +kernel) rfl
theorem lk_571 : Jvm.Cond.methodLink RX1 64 yX1_readPotter ∈ aw_tb := aw_in 571 (by decide +kernel) rfl
theorem lk_575 : Jvm.Cond.methodLink RX1 79 yX0_isFull ∈ aw_tb := aw_in 575 (by decide +kernel) rfl
theorem lk_576 : Jvm.Cond.methodLink RX1 76 yX1_refuse ∈ aw_tb := aw_in 576 (by decide +kernel) rfl
theorem lk_580 : Jvm.Cond.methodLink RX1 84 yX1_step ∈ aw_tb := aw_in 580 (by decide +kernel) rfl
theorem lk_584 : Jvm.Cond.methodLink RX1 87 yX1_readPerhaps ∈ aw_tb := aw_in 584 (by decide +kernel) rfl
theorem lk_588 : Jvm.Cond.methodLink RX1 95 yX1_readNumber ∈ aw_tb := aw_in 588 (by decide +kernel) rfl
theorem lk_592 : Jvm.Cond.methodLink RX1 91 yX0_addPotter ∈ aw_tb := aw_in 592 (by decide +kernel) rfl
theorem lk_593 : Jvm.Cond.methodLink RX1 67 yX1_readRift ∈ aw_tb := aw_in 593 (by decide +kernel) rfl
theorem lk_597 : Jvm.Cond.methodLink RX1 101 yX0_setRift ∈ aw_tb := aw_in 597 (by decide +kernel) rfl
theorem lk_598 : Jvm.Cond.methodLink RX1 70 yX1_readPair ∈ aw_tb := aw_in 598 (by decide +kernel) rfl
theorem lk_602 : Jvm.Cond.methodLink RX1 73 yX1_readClay ∈ aw_tb := aw_in 602 (by decide +kernel) rfl
theorem lk_606 : Jvm.Cond.methodLink RX1 56 yX1_take ∈ aw_tb := aw_in 606 (by decide +kernel) rfl
theorem lk_610 : Jvm.Cond.methodLink RX4 193 yX1_hasFault ∈ aw_tb := aw_in 610 (by decide +kernel) rfl
theorem lk_620 : Jvm.Cond.methodLink RX4 202 yX4_isOrIsUnder ∈ aw_tb := aw_in 620 (by decide +kernel) rfl
theorem lk_623 : Jvm.Cond.fieldLink RX4 242 "TwoWheel" "UNDER" "[I" ∈ aw_tb := aw_in 623 (by decide +kernel) rfl
theorem lk_629 : Jvm.Cond.methodLink RX4 205 yX2_lay ∈ aw_tb := aw_in 629 (by decide +kernel) rfl
theorem lk_637 : Jvm.Cond.methodLink RX4 211 yX2_put ∈ aw_tb := aw_in 637 (by decide +kernel) rfl
theorem lk_641 : Jvm.Cond.methodLink RX2 21 yX2_lowest ∈ aw_tb := aw_in 641 (by decide +kernel) rfl
theorem lk_648 : Jvm.Cond.methodLink RX4 217 yX2_hasRun ∈ aw_tb := aw_in 648 (by decide +kernel) rfl
theorem lk_652 : Jvm.Cond.methodLink RX4 220 yX2_move ∈ aw_tb := aw_in 652 (by decide +kernel) rfl
theorem lk_656 : Jvm.Cond.methodLink RX2 25 arraycopyName ∈ aw_tb := aw_in 656 (by decide +kernel) rfl
theorem lk_661 : Jvm.Cond.methodLink RX4 224 Lib.Math.min.name ∈ aw_tb := aw_in 661 (by decide +kernel) rfl
theorem lk_682 : Jvm.Cond.methodLink RX4 232 yX0_spotsHeld ∈ aw_tb := aw_in 682 (by decide +kernel) rfl
theorem lk_752 : Jvm.Cond.constantLong RX5 113 20 ∈ aw_tb := aw_in 752 (by decide +kernel) rfl
theorem lk_753 : Jvm.Cond.methodLink RX5 42 yX5_in ∈ aw_tb := aw_in 753 (by decide +kernel) rfl
theorem lk_756 : Jvm.Cond.methodLink RX5 115 yX5_becomes ∈ aw_tb := aw_in 756 (by decide +kernel) rfl
theorem lk_760 : Jvm.Cond.methodLink RX5 118 yX5_finds ∈ aw_tb := aw_in 760 (by decide +kernel) rfl
theorem lk_764 : Jvm.Cond.constant RX5 41 (-1000001) ∈ aw_tb := aw_in 764 (by decide +kernel) rfl
theorem lk_769 : Jvm.Cond.constantLong RX5 121 5 ∈ aw_tb := aw_in 769 (by decide +kernel) rfl
theorem lk_770 : Jvm.Cond.constantLong RX5 123 7 ∈ aw_tb := aw_in 770 (by decide +kernel) rfl
theorem lk_779 : Jvm.Cond.constantLong RX5 128 6 ∈ aw_tb := aw_in 779 (by decide +kernel) rfl
theorem lk_780 : Jvm.Cond.constantLong RX5 130 99 ∈ aw_tb := aw_in 780 (by decide +kernel) rfl
theorem lk_781 : Jvm.Cond.methodLink RX5 132 yX5_comes ∈ aw_tb := aw_in 781 (by decide +kernel) rfl
theorem lk_785 : Jvm.Cond.methodLink RX5 125 yX5_sets ∈ aw_tb := aw_in 785 (by decide +kernel) rfl
theorem lk_793 : Jvm.Cond.methodLink RX5 46 yX5_isPotter ∈ aw_tb := aw_in 793 (by decide +kernel) rfl
theorem lk_797 : Jvm.Cond.constantLong RX5 135 9 ∈ aw_tb := aw_in 797 (by decide +kernel) rfl
theorem lk_798 : Jvm.Cond.methodLink RX5 61 yX5_pushes ∈ aw_tb := aw_in 798 (by decide +kernel) rfl
theorem lk_802 : Jvm.Cond.methodLink RX5 54 yX5_its ∈ aw_tb := aw_in 802 (by decide +kernel) rfl
theorem lk_806 : Jvm.Cond.methodLink RX5 50 yX5_held ∈ aw_tb := aw_in 806 (by decide +kernel) rfl
theorem lk_809 : Jvm.Cond.methodLink RX5 84 yX5_says ∈ aw_tb := aw_in 809 (by decide +kernel) rfl
theorem lk_813 : Jvm.Cond.methodLink RX5 81 yX5_cools ∈ aw_tb := aw_in 813 (by decide +kernel) rfl
theorem lk_817 : Jvm.Cond.methodLink RX5 78 yX5_boils ∈ aw_tb := aw_in 817 (by decide +kernel) rfl
theorem lk_825 : Jvm.Cond.methodLink RX5 137 yX5_mostOf ∈ aw_tb := aw_in 825 (by decide +kernel) rfl
theorem lk_832 : Jvm.Cond.methodLink RX5 103 yX5_areTwo ∈ aw_tb := aw_in 832 (by decide +kernel) rfl
theorem lk_836 : Jvm.Cond.methodLink RX5 58 yX5_between ∈ aw_tb := aw_in 836 (by decide +kernel) rfl
theorem lk_843 : Jvm.Cond.constantLong RX5 140 3 ∈ aw_tb := aw_in 843 (by decide +kernel) rfl
theorem lk_844 : Jvm.Cond.methodLink RX5 65 yX5_rises ∈ aw_tb := aw_in 844 (by decide +kernel) rfl
theorem lk_848 : Jvm.Cond.methodLink RX5 68 yX5_leans ∈ aw_tb := aw_in 848 (by decide +kernel) rfl
theorem lk_852 : Jvm.Cond.methodLink RX5 87 yX5_isFlop ∈ aw_tb := aw_in 852 (by decide +kernel) rfl
theorem lk_856 : Jvm.Cond.methodLink RX5 71 yX5_size ∈ aw_tb := aw_in 856 (by decide +kernel) rfl
theorem lk_863 : Jvm.Cond.constantLong RX5 142 60 ∈ aw_tb := aw_in 863 (by decide +kernel) rfl
theorem lk_864 : Jvm.Cond.constant RX5 98 99999 ∈ aw_tb := aw_in 864 (by decide +kernel) rfl
theorem lk_865 : Jvm.Cond.methodLink RX5 144 yX5_daysGo ∈ aw_tb := aw_in 865 (by decide +kernel) rfl
theorem lk_869 : Jvm.Cond.methodLink RX5 110 yX5_dayGoes ∈ aw_tb := aw_in 869 (by decide +kernel) rfl
theorem lk_873 : Jvm.Cond.methodLink RX5 99 yX5_todays ∈ aw_tb := aw_in 873 (by decide +kernel) rfl
theorem lk_877 : Jvm.Cond.methodLink RX5 106 yX5_pots ∈ aw_tb := aw_in 877 (by decide +kernel) rfl
theorem lk_881 : Jvm.Cond.methodLink RX5 91 yX5_flops ∈ aw_tb := aw_in 881 (by decide +kernel) rfl
theorem lk_885 : Jvm.Cond.methodLink RX5 74 yX5_adds ∈ aw_tb := aw_in 885 (by decide +kernel) rfl
theorem lk_889 : Jvm.Cond.methodLink RX5 95 yX5_throwsOne ∈ aw_tb := aw_in 889 (by decide +kernel) rfl
theorem lk_897 : Jvm.Cond.methodLink RX5 147 yX5_sumOf ∈ aw_tb := aw_in 897 (by decide +kernel) rfl
theorem lk_901 : Jvm.Cond.methodLink RX5 150 yX5_farthest ∈ aw_tb := aw_in 901 (by decide +kernel) rfl
theorem lk_909 : Jvm.Cond.constantLong RX5 157 100 ∈ aw_tb := aw_in 909 (by decide +kernel) rfl
theorem lk_910 : Jvm.Cond.methodLink RX5 153 yX5_copies ∈ aw_tb := aw_in 910 (by decide +kernel) rfl
theorem lk_917 : Jvm.Cond.methodLink RX5 159 yX5_behind ∈ aw_tb := aw_in 917 (by decide +kernel) rfl
theorem lk_925 : Jvm.Cond.methodLink RX5 162 yX5_firstOf ∈ aw_tb := aw_in 925 (by decide +kernel) rfl
theorem lk_937 : Jvm.Cond.constantLong RX5 165 9999 ∈ aw_tb := aw_in 937 (by decide +kernel) rfl
theorem lk_942 : Jvm.Cond.methodLink RX5 167 yX5_isShort ∈ aw_tb := aw_in 942 (by decide +kernel) rfl
theorem lk_949 : Jvm.Cond.methodLink RX5 170 yX5_bestOf ∈ aw_tb := aw_in 949 (by decide +kernel) rfl
theorem lk_965 : Jvm.Cond.methodLink RX5 173 yX5_ones ∈ aw_tb := aw_in 965 (by decide +kernel) rfl
theorem lk_968 : Jvm.Cond.methodLink RX5 176 yX5_reconciles ∈ aw_tb := aw_in 968 (by decide +kernel) rfl
theorem lk_976 : Jvm.Cond.methodLink RX5 179 yX5_whyNone ∈ aw_tb := aw_in 976 (by decide +kernel) rfl
theorem lk_980 : Jvm.Cond.methodLink RX5 302 yX5_isSheet ∈ aw_tb := aw_in 980 (by decide +kernel) rfl
theorem lk_983 : Jvm.Cond.methodLink RX5 182 yX5_fitting ∈ aw_tb := aw_in 983 (by decide +kernel) rfl
theorem lk_995 : Jvm.Cond.methodLink RX5 187 yX5_draw ∈ aw_tb := aw_in 995 (by decide +kernel) rfl
theorem lk_999 : Jvm.Cond.constant RX5 186 1103515245 ∈ aw_tb := aw_in 999 (by decide +kernel) rfl
theorem lk_1004 : Jvm.Cond.constantLong RX5 190 14 ∈ aw_tb := aw_in 1004 (by decide +kernel) rfl
theorem lk_1005 : Jvm.Cond.methodLink RX5 192 yX5_common ∈ aw_tb := aw_in 1005 (by decide +kernel) rfl
theorem lk_1016 : Jvm.Cond.constantLong RX5 195 4 ∈ aw_tb := aw_in 1016 (by decide +kernel) rfl
theorem lk_1025 : Jvm.Cond.methodLink RX5 294 yX5_items ∈ aw_tb := aw_in 1025 (by decide +kernel) rfl
theorem lk_1029 : Jvm.Cond.methodLink RX5 257 yX5_next_ ∈ aw_tb := aw_in 1029 (by decide +kernel) rfl
theorem lk_1033 : Jvm.Cond.methodLink RX5 204 yX5_byteAt ∈ aw_tb := aw_in 1033 (by decide +kernel) rfl
theorem lk_1037 : Jvm.Cond.methodLink RX5 217 yX5_letter ∈ aw_tb := aw_in 1037 (by decide +kernel) rfl
theorem lk_1040 : Jvm.Cond.constantLong RX5 220 100000000000000000 ∈ aw_tb := aw_in 1040 (by decide +kernel) rfl
theorem lk_1041 : Jvm.Cond.constantLong RX5 222 27 ∈ aw_tb := aw_in 1041 (by decide +kernel) rfl
theorem lk_1042 : Jvm.Cond.methodLink RX5 224 yX5_isDigit ∈ aw_tb := aw_in 1042 (by decide +kernel) rfl
theorem lk_1045 : Jvm.Cond.constantLong RX5 227 999 ∈ aw_tb := aw_in 1045 (by decide +kernel) rfl
theorem lk_1046 : Jvm.Cond.constantLong RX5 229 10 ∈ aw_tb := aw_in 1046 (by decide +kernel) rfl
theorem lk_1047 : Jvm.Cond.constantLong RX5 231 48 ∈ aw_tb := aw_in 1047 (by decide +kernel) rfl
theorem lk_1048 : Jvm.Cond.methodLink RX5 291 yX5_item ∈ aw_tb := aw_in 1048 (by decide +kernel) rfl
theorem lk_1052 : Jvm.Cond.methodLink RX5 273 yX5_kindHere ∈ aw_tb := aw_in 1052 (by decide +kernel) rfl
theorem lk_1056 : Jvm.Cond.constantLong RX5 236 237962520 ∈ aw_tb := aw_in 1056 (by decide +kernel) rfl
theorem lk_1057 : Jvm.Cond.methodLink RX5 238 yX5_isWord ∈ aw_tb := aw_in 1057 (by decide +kernel) rfl
theorem lk_1061 : Jvm.Cond.constantLong RX5 242 3410828815 ∈ aw_tb := aw_in 1061 (by decide +kernel) rfl
theorem lk_1062 : Jvm.Cond.constantLong RX5 244 14270 ∈ aw_tb := aw_in 1062 (by decide +kernel) rfl
theorem lk_1063 : Jvm.Cond.constantLong RX5 246 87024528 ∈ aw_tb := aw_in 1063 (by decide +kernel) rfl
theorem lk_1064 : Jvm.Cond.constantLong RX5 248 6223046688 ∈ aw_tb := aw_in 1064 (by decide +kernel) rfl
theorem lk_1065 : Jvm.Cond.constantLong RX5 250 206754213222 ∈ aw_tb := aw_in 1065 (by decide +kernel) rfl
theorem lk_1066 : Jvm.Cond.constantLong RX5 252 1888 ∈ aw_tb := aw_in 1066 (by decide +kernel) rfl
theorem lk_1067 : Jvm.Cond.methodLink RX5 276 yX5_potterHere ∈ aw_tb := aw_in 1067 (by decide +kernel) rfl
theorem lk_1071 : Jvm.Cond.methodLink RX5 254 yX5_wrongHere ∈ aw_tb := aw_in 1071 (by decide +kernel) rfl
theorem lk_1075 : Jvm.Cond.constantLong RX5 263 161156 ∈ aw_tb := aw_in 1075 (by decide +kernel) rfl
theorem lk_1076 : Jvm.Cond.methodLink RX5 265 yX5_perhaps ∈ aw_tb := aw_in 1076 (by decide +kernel) rfl
theorem lk_1080 : Jvm.Cond.methodLink RX5 260 yX5_numberHere ∈ aw_tb := aw_in 1080 (by decide +kernel) rfl
theorem lk_1084 : Jvm.Cond.constantLong RX5 269 60269 ∈ aw_tb := aw_in 1084 (by decide +kernel) rfl
theorem lk_1085 : Jvm.Cond.constantLong RX5 271 13385674 ∈ aw_tb := aw_in 1085 (by decide +kernel) rfl
theorem lk_1086 : Jvm.Cond.constantLong RX5 279 361037 ∈ aw_tb := aw_in 1086 (by decide +kernel) rfl
theorem lk_1087 : Jvm.Cond.methodLink RX5 281 yX5_riftHere ∈ aw_tb := aw_in 1087 (by decide +kernel) rfl
theorem lk_1091 : Jvm.Cond.constantLong RX5 284 315918 ∈ aw_tb := aw_in 1091 (by decide +kernel) rfl
theorem lk_1092 : Jvm.Cond.methodLink RX5 286 yX5_pairHere ∈ aw_tb := aw_in 1092 (by decide +kernel) rfl
theorem lk_1096 : Jvm.Cond.constantLong RX5 289 67849 ∈ aw_tb := aw_in 1096 (by decide +kernel) rfl
theorem lk_1101 : Jvm.Cond.constantLong RX5 297 (-1) ∈ aw_tb := aw_in 1101 (by decide +kernel) rfl
theorem lk_1106 : Jvm.Cond.methodLink RX5 299 yX5_above ∈ aw_tb := aw_in 1106 (by decide +kernel) rfl
theorem lk_1145 : Jvm.Cond.methodLink RX5 309 yX5_holding ∈ aw_tb := aw_in 1145 (by decide +kernel) rfl
theorem aw_in0 : ∀ w ∈ u_ws RX0 TX0 11, w ∈ aw_tb := by
  have h : (u_ws RX0 TX0 11).all (fun w => decide (w ∈ aw_tb)) = true := by decide +kernel
  exact fun w hw => of_decide_eq_true (List.all_eq_true.mp h w hw)
theorem aw_in1 : ∀ w ∈ u_ws RX1 TX1 6, w ∈ aw_tb := by
  have h : (u_ws RX1 TX1 6).all (fun w => decide (w ∈ aw_tb)) = true := by decide +kernel
  exact fun w hw => of_decide_eq_true (List.all_eq_true.mp h w hw)
theorem aw_in2 : ∀ w ∈ u_ws RX2 TX2 3, w ∈ aw_tb := by
  have h : (u_ws RX2 TX2 3).all (fun w => decide (w ∈ aw_tb)) = true := by decide +kernel
  exact fun w hw => of_decide_eq_true (List.all_eq_true.mp h w hw)
theorem aw_in3 : ∀ w ∈ u_ws RX3 TX3 2, w ∈ aw_tb := by
  have h : (u_ws RX3 TX3 2).all (fun w => decide (w ∈ aw_tb)) = true := by decide +kernel
  exact fun w hw => of_decide_eq_true (List.all_eq_true.mp h w hw)
theorem aw_in4 : ∀ w ∈ u_ws RX4 TX4 8, w ∈ aw_tb := by
  have h : (u_ws RX4 TX4 8).all (fun w => decide (w ∈ aw_tb)) = true := by decide +kernel
  exact fun w hw => of_decide_eq_true (List.all_eq_true.mp h w hw)
theorem aw_in5 : ∀ w ∈ u_ws RX5 TX5 17, w ∈ aw_tb := by
  have h : (u_ws RX5 TX5 17).all (fun w => decide (w ∈ aw_tb)) = true := by decide +kernel
  exact fun w hw => of_decide_eq_true (List.all_eq_true.mp h w hw)
theorem fl_X0_15 : aw_fl RX0 15 0 5 := ⟨RX0, TX0, 11, rfl, (Nat.le_of_ble_eq_true rfl), aw_in0, aw_in 43 (by decide +kernel) rfl⟩
theorem fl_X0_18 : aw_fl RX0 18 0 7 := ⟨RX0, TX0, 11, rfl, (Nat.le_of_ble_eq_true rfl), aw_in0, aw_in 48 (by decide +kernel) rfl⟩
theorem fl_X0_22 : aw_fl RX0 22 0 8 := ⟨RX0, TX0, 11, rfl, (Nat.le_of_ble_eq_true rfl), aw_in0, aw_in 51 (by decide +kernel) rfl⟩
theorem fl_X0_25 : aw_fl RX0 25 0 9 := ⟨RX0, TX0, 11, rfl, (Nat.le_of_ble_eq_true rfl), aw_in0, aw_in 53 (by decide +kernel) rfl⟩
theorem fl_X0_28 : aw_fl RX0 28 0 10 := ⟨RX0, TX0, 11, rfl, (Nat.le_of_ble_eq_true rfl), aw_in0, aw_in 54 (by decide +kernel) rfl⟩
theorem fl_X0_37 : aw_fl RX0 37 0 1 := ⟨RX0, TX0, 11, rfl, (Nat.le_of_ble_eq_true rfl), aw_in0, aw_in 35 (by decide +kernel) rfl⟩
theorem fl_X0_40 : aw_fl RX0 40 0 2 := ⟨RX0, TX0, 11, rfl, (Nat.le_of_ble_eq_true rfl), aw_in0, aw_in 37 (by decide +kernel) rfl⟩
theorem fl_X0_43 : aw_fl RX0 43 0 3 := ⟨RX0, TX0, 11, rfl, (Nat.le_of_ble_eq_true rfl), aw_in0, aw_in 39 (by decide +kernel) rfl⟩
theorem fl_X0_46 : aw_fl RX0 46 0 4 := ⟨RX0, TX0, 11, rfl, (Nat.le_of_ble_eq_true rfl), aw_in0, aw_in 41 (by decide +kernel) rfl⟩
theorem fl_X0_49 : aw_fl RX0 49 0 6 := ⟨RX0, TX0, 11, rfl, (Nat.le_of_ble_eq_true rfl), aw_in0, aw_in 45 (by decide +kernel) rfl⟩
theorem fl_X0_9 : aw_fl RX0 9 0 0 := ⟨RX0, TX0, 11, rfl, (Nat.le_of_ble_eq_true rfl), aw_in0, aw_in 32 (by decide +kernel) rfl⟩
theorem fl_X1_105 : aw_fl RX1 105 0 7 := ⟨RX0, TX0, 11, rfl, (Nat.le_of_ble_eq_true rfl), aw_in0, aw_in 50 (by decide +kernel) rfl⟩
theorem fl_X1_15 : aw_fl RX1 15 1 1 := ⟨RX1, TX1, 6, rfl, (Nat.le_of_ble_eq_true rfl), aw_in1, aw_in 103 (by decide +kernel) rfl⟩
theorem fl_X1_19 : aw_fl RX1 19 1 2 := ⟨RX1, TX1, 6, rfl, (Nat.le_of_ble_eq_true rfl), aw_in1, aw_in 104 (by decide +kernel) rfl⟩
theorem fl_X1_23 : aw_fl RX1 23 1 3 := ⟨RX1, TX1, 6, rfl, (Nat.le_of_ble_eq_true rfl), aw_in1, aw_in 105 (by decide +kernel) rfl⟩
theorem fl_X1_26 : aw_fl RX1 26 1 5 := ⟨RX1, TX1, 6, rfl, (Nat.le_of_ble_eq_true rfl), aw_in1, aw_in 107 (by decide +kernel) rfl⟩
theorem fl_X1_30 : aw_fl RX1 30 3 1 := ⟨RX3, TX3, 2, rfl, (Nat.le_of_ble_eq_true rfl), aw_in3, aw_in 89 (by decide +kernel) rfl⟩
theorem fl_X1_35 : aw_fl RX1 35 3 0 := ⟨RX3, TX3, 2, rfl, (Nat.le_of_ble_eq_true rfl), aw_in3, aw_in 87 (by decide +kernel) rfl⟩
theorem fl_X1_46 : aw_fl RX1 46 1 4 := ⟨RX1, TX1, 6, rfl, (Nat.le_of_ble_eq_true rfl), aw_in1, aw_in 106 (by decide +kernel) rfl⟩
theorem fl_X1_9 : aw_fl RX1 9 1 0 := ⟨RX1, TX1, 6, rfl, (Nat.le_of_ble_eq_true rfl), aw_in1, aw_in 102 (by decide +kernel) rfl⟩
theorem fl_X1_98 : aw_fl RX1 98 0 6 := ⟨RX0, TX0, 11, rfl, (Nat.le_of_ble_eq_true rfl), aw_in0, aw_in 46 (by decide +kernel) rfl⟩
theorem fl_X2_15 : aw_fl RX2 15 2 1 := ⟨RX2, TX2, 3, rfl, (Nat.le_of_ble_eq_true rfl), aw_in2, aw_in 130 (by decide +kernel) rfl⟩
theorem fl_X2_18 : aw_fl RX2 18 2 2 := ⟨RX2, TX2, 3, rfl, (Nat.le_of_ble_eq_true rfl), aw_in2, aw_in 132 (by decide +kernel) rfl⟩
theorem fl_X2_9 : aw_fl RX2 9 2 0 := ⟨RX2, TX2, 3, rfl, (Nat.le_of_ble_eq_true rfl), aw_in2, aw_in 128 (by decide +kernel) rfl⟩
theorem fl_X3_15 : aw_fl RX3 15 3 1 := ⟨RX3, TX3, 2, rfl, (Nat.le_of_ble_eq_true rfl), aw_in3, aw_in 88 (by decide +kernel) rfl⟩
theorem fl_X3_9 : aw_fl RX3 9 3 0 := ⟨RX3, TX3, 2, rfl, (Nat.le_of_ble_eq_true rfl), aw_in3, aw_in 86 (by decide +kernel) rfl⟩
theorem fl_X4_10 : aw_fl RX4 10 4 0 := ⟨RX4, TX4, 8, rfl, (Nat.le_of_ble_eq_true rfl), aw_in4, aw_in 140 (by decide +kernel) rfl⟩
theorem fl_X4_111 : aw_fl RX4 111 0 4 := ⟨RX0, TX0, 11, rfl, (Nat.le_of_ble_eq_true rfl), aw_in0, aw_in 42 (by decide +kernel) rfl⟩
theorem fl_X4_119 : aw_fl RX4 119 0 1 := ⟨RX0, TX0, 11, rfl, (Nat.le_of_ble_eq_true rfl), aw_in0, aw_in 36 (by decide +kernel) rfl⟩
theorem fl_X4_122 : aw_fl RX4 122 0 2 := ⟨RX0, TX0, 11, rfl, (Nat.le_of_ble_eq_true rfl), aw_in0, aw_in 38 (by decide +kernel) rfl⟩
theorem fl_X4_125 : aw_fl RX4 125 0 3 := ⟨RX0, TX0, 11, rfl, (Nat.le_of_ble_eq_true rfl), aw_in0, aw_in 40 (by decide +kernel) rfl⟩
theorem fl_X4_142 : aw_fl RX4 142 0 6 := ⟨RX0, TX0, 11, rfl, (Nat.le_of_ble_eq_true rfl), aw_in0, aw_in 47 (by decide +kernel) rfl⟩
theorem fl_X4_16 : aw_fl RX4 16 4 1 := ⟨RX4, TX4, 8, rfl, (Nat.le_of_ble_eq_true rfl), aw_in4, aw_in 141 (by decide +kernel) rfl⟩
theorem fl_X4_178 : aw_fl RX4 178 0 5 := ⟨RX0, TX0, 11, rfl, (Nat.le_of_ble_eq_true rfl), aw_in0, aw_in 44 (by decide +kernel) rfl⟩
theorem fl_X4_181 : aw_fl RX4 181 3 1 := ⟨RX3, TX3, 2, rfl, (Nat.le_of_ble_eq_true rfl), aw_in3, aw_in 90 (by decide +kernel) rfl⟩
theorem fl_X4_19 : aw_fl RX4 19 4 2 := ⟨RX4, TX4, 8, rfl, (Nat.le_of_ble_eq_true rfl), aw_in4, aw_in 142 (by decide +kernel) rfl⟩
theorem fl_X4_196 : aw_fl RX4 196 1 5 := ⟨RX1, TX1, 6, rfl, (Nat.le_of_ble_eq_true rfl), aw_in1, aw_in 108 (by decide +kernel) rfl⟩
theorem fl_X4_199 : aw_fl RX4 199 0 10 := ⟨RX0, TX0, 11, rfl, (Nat.le_of_ble_eq_true rfl), aw_in0, aw_in 55 (by decide +kernel) rfl⟩
theorem fl_X4_208 : aw_fl RX4 208 2 1 := ⟨RX2, TX2, 3, rfl, (Nat.le_of_ble_eq_true rfl), aw_in2, aw_in 131 (by decide +kernel) rfl⟩
theorem fl_X4_214 : aw_fl RX4 214 2 0 := ⟨RX2, TX2, 3, rfl, (Nat.le_of_ble_eq_true rfl), aw_in2, aw_in 129 (by decide +kernel) rfl⟩
theorem fl_X4_22 : aw_fl RX4 22 4 3 := ⟨RX4, TX4, 8, rfl, (Nat.le_of_ble_eq_true rfl), aw_in4, aw_in 143 (by decide +kernel) rfl⟩
theorem fl_X4_29 : aw_fl RX4 29 4 4 := ⟨RX4, TX4, 8, rfl, (Nat.le_of_ble_eq_true rfl), aw_in4, aw_in 144 (by decide +kernel) rfl⟩
theorem fl_X4_38 : aw_fl RX4 38 4 5 := ⟨RX4, TX4, 8, rfl, (Nat.le_of_ble_eq_true rfl), aw_in4, aw_in 145 (by decide +kernel) rfl⟩
theorem fl_X4_45 : aw_fl RX4 45 4 6 := ⟨RX4, TX4, 8, rfl, (Nat.le_of_ble_eq_true rfl), aw_in4, aw_in 146 (by decide +kernel) rfl⟩
theorem fl_X4_49 : aw_fl RX4 49 4 7 := ⟨RX4, TX4, 8, rfl, (Nat.le_of_ble_eq_true rfl), aw_in4, aw_in 147 (by decide +kernel) rfl⟩
theorem fl_X4_61 : aw_fl RX4 61 0 0 := ⟨RX0, TX0, 11, rfl, (Nat.le_of_ble_eq_true rfl), aw_in0, aw_in 33 (by decide +kernel) rfl⟩
theorem fl_X4_65 : aw_fl RX4 65 0 7 := ⟨RX0, TX0, 11, rfl, (Nat.le_of_ble_eq_true rfl), aw_in0, aw_in 49 (by decide +kernel) rfl⟩
theorem fl_X4_87 : aw_fl RX4 87 0 8 := ⟨RX0, TX0, 11, rfl, (Nat.le_of_ble_eq_true rfl), aw_in0, aw_in 52 (by decide +kernel) rfl⟩
theorem fl_X5_13 : aw_fl RX5 13 5 1 := ⟨RX5, TX5, 17, rfl, (Nat.le_of_ble_eq_true rfl), aw_in5, aw_in 697 (by decide +kernel) rfl⟩
theorem fl_X5_16 : aw_fl RX5 16 5 2 := ⟨RX5, TX5, 17, rfl, (Nat.le_of_ble_eq_true rfl), aw_in5, aw_in 698 (by decide +kernel) rfl⟩
theorem fl_X5_19 : aw_fl RX5 19 5 3 := ⟨RX5, TX5, 17, rfl, (Nat.le_of_ble_eq_true rfl), aw_in5, aw_in 699 (by decide +kernel) rfl⟩
theorem fl_X5_197 : aw_fl RX5 197 5 7 := ⟨RX5, TX5, 17, rfl, (Nat.le_of_ble_eq_true rfl), aw_in5, aw_in 703 (by decide +kernel) rfl⟩
theorem fl_X5_201 : aw_fl RX5 201 5 8 := ⟨RX5, TX5, 17, rfl, (Nat.le_of_ble_eq_true rfl), aw_in5, aw_in 704 (by decide +kernel) rfl⟩
theorem fl_X5_207 : aw_fl RX5 207 5 10 := ⟨RX5, TX5, 17, rfl, (Nat.le_of_ble_eq_true rfl), aw_in5, aw_in 706 (by decide +kernel) rfl⟩
theorem fl_X5_210 : aw_fl RX5 210 5 11 := ⟨RX5, TX5, 17, rfl, (Nat.le_of_ble_eq_true rfl), aw_in5, aw_in 707 (by decide +kernel) rfl⟩
theorem fl_X5_214 : aw_fl RX5 214 5 9 := ⟨RX5, TX5, 17, rfl, (Nat.le_of_ble_eq_true rfl), aw_in5, aw_in 705 (by decide +kernel) rfl⟩
theorem fl_X5_22 : aw_fl RX5 22 5 5 := ⟨RX5, TX5, 17, rfl, (Nat.le_of_ble_eq_true rfl), aw_in5, aw_in 701 (by decide +kernel) rfl⟩
theorem fl_X5_233 : aw_fl RX5 233 5 12 := ⟨RX5, TX5, 17, rfl, (Nat.le_of_ble_eq_true rfl), aw_in5, aw_in 708 (by decide +kernel) rfl⟩
theorem fl_X5_25 : aw_fl RX5 25 5 6 := ⟨RX5, TX5, 17, rfl, (Nat.le_of_ble_eq_true rfl), aw_in5, aw_in 702 (by decide +kernel) rfl⟩
theorem fl_X5_29 : aw_fl RX5 29 5 13 := ⟨RX5, TX5, 17, rfl, (Nat.le_of_ble_eq_true rfl), aw_in5, aw_in 709 (by decide +kernel) rfl⟩
theorem fl_X5_305 : aw_fl RX5 305 5 4 := ⟨RX5, TX5, 17, rfl, (Nat.le_of_ble_eq_true rfl), aw_in5, aw_in 700 (by decide +kernel) rfl⟩
theorem fl_X5_32 : aw_fl RX5 32 5 14 := ⟨RX5, TX5, 17, rfl, (Nat.le_of_ble_eq_true rfl), aw_in5, aw_in 710 (by decide +kernel) rfl⟩
theorem fl_X5_35 : aw_fl RX5 35 5 15 := ⟨RX5, TX5, 17, rfl, (Nat.le_of_ble_eq_true rfl), aw_in5, aw_in 711 (by decide +kernel) rfl⟩
theorem fl_X5_38 : aw_fl RX5 38 5 16 := ⟨RX5, TX5, 17, rfl, (Nat.le_of_ble_eq_true rfl), aw_in5, aw_in 712 (by decide +kernel) rfl⟩
theorem fl_X5_7 : aw_fl RX5 7 5 0 := ⟨RX5, TX5, 17, rfl, (Nat.le_of_ble_eq_true rfl), aw_in5, aw_in 696 (by decide +kernel) rfl⟩
theorem fp_X0_15 : aw_fp RX0 15 0 5 .int := ⟨RX0, TX0, 11, tyX0, rfl, (Nat.le_of_ble_eq_true rfl), aw_in0, aw_in 43 (by decide +kernel) rfl, tyX0_ok, nmX0, rfl, tyX0_ok 5 (Nat.le_of_ble_eq_true rfl)⟩
theorem fp_X0_37 : aw_fp RX0 37 0 1 .int := ⟨RX0, TX0, 11, tyX0, rfl, (Nat.le_of_ble_eq_true rfl), aw_in0, aw_in 35 (by decide +kernel) rfl, tyX0_ok, nmX0, rfl, tyX0_ok 1 (Nat.le_of_ble_eq_true rfl)⟩
theorem fp_X0_40 : aw_fp RX0 40 0 2 .int := ⟨RX0, TX0, 11, tyX0, rfl, (Nat.le_of_ble_eq_true rfl), aw_in0, aw_in 37 (by decide +kernel) rfl, tyX0_ok, nmX0, rfl, tyX0_ok 2 (Nat.le_of_ble_eq_true rfl)⟩
theorem fp_X0_43 : aw_fp RX0 43 0 3 .int := ⟨RX0, TX0, 11, tyX0, rfl, (Nat.le_of_ble_eq_true rfl), aw_in0, aw_in 39 (by decide +kernel) rfl, tyX0_ok, nmX0, rfl, tyX0_ok 3 (Nat.le_of_ble_eq_true rfl)⟩
theorem fp_X0_46 : aw_fp RX0 46 0 4 .int := ⟨RX0, TX0, 11, tyX0, rfl, (Nat.le_of_ble_eq_true rfl), aw_in0, aw_in 41 (by decide +kernel) rfl, tyX0_ok, nmX0, rfl, tyX0_ok 4 (Nat.le_of_ble_eq_true rfl)⟩
theorem fp_X0_49 : aw_fp RX0 49 0 6 .int := ⟨RX0, TX0, 11, tyX0, rfl, (Nat.le_of_ble_eq_true rfl), aw_in0, aw_in 45 (by decide +kernel) rfl, tyX0_ok, nmX0, rfl, tyX0_ok 6 (Nat.le_of_ble_eq_true rfl)⟩
theorem fp_X0_9 : aw_fp RX0 9 0 0 .int := ⟨RX0, TX0, 11, tyX0, rfl, (Nat.le_of_ble_eq_true rfl), aw_in0, aw_in 32 (by decide +kernel) rfl, tyX0_ok, nmX0, rfl, tyX0_ok 0 (Nat.le_of_ble_eq_true rfl)⟩
theorem fp_X1_108 : aw_fp RX1 108 0 0 .int := ⟨RX0, TX0, 11, tyX0, rfl, (Nat.le_of_ble_eq_true rfl), aw_in0, aw_in 34 (by decide +kernel) rfl, tyX0_ok, nmX0, rfl, tyX0_ok 0 (Nat.le_of_ble_eq_true rfl)⟩
theorem fp_X1_26 : aw_fp RX1 26 1 5 .int := ⟨RX1, TX1, 6, tyX1, rfl, (Nat.le_of_ble_eq_true rfl), aw_in1, aw_in 107 (by decide +kernel) rfl, tyX1_ok, nmX1, rfl, tyX1_ok 5 (Nat.le_of_ble_eq_true rfl)⟩
theorem fp_X1_46 : aw_fp RX1 46 1 4 .int := ⟨RX1, TX1, 6, tyX1, rfl, (Nat.le_of_ble_eq_true rfl), aw_in1, aw_in 106 (by decide +kernel) rfl, tyX1_ok, nmX1, rfl, tyX1_ok 4 (Nat.le_of_ble_eq_true rfl)⟩
theorem fp_X3_15 : aw_fp RX3 15 3 1 .int := ⟨RX3, TX3, 2, tyX3, rfl, (Nat.le_of_ble_eq_true rfl), aw_in3, aw_in 88 (by decide +kernel) rfl, tyX3_ok, nmX3, rfl, tyX3_ok 1 (Nat.le_of_ble_eq_true rfl)⟩
theorem fp_X4_178 : aw_fp RX4 178 0 5 .int := ⟨RX0, TX0, 11, tyX0, rfl, (Nat.le_of_ble_eq_true rfl), aw_in0, aw_in 44 (by decide +kernel) rfl, tyX0_ok, nmX0, rfl, tyX0_ok 5 (Nat.le_of_ble_eq_true rfl)⟩
theorem fp_X4_181 : aw_fp RX4 181 3 1 .int := ⟨RX3, TX3, 2, tyX3, rfl, (Nat.le_of_ble_eq_true rfl), aw_in3, aw_in 90 (by decide +kernel) rfl, tyX3_ok, nmX3, rfl, tyX3_ok 1 (Nat.le_of_ble_eq_true rfl)⟩
theorem fp_X4_22 : aw_fp RX4 22 4 3 .boolean := ⟨RX4, TX4, 8, tyX4, rfl, (Nat.le_of_ble_eq_true rfl), aw_in4, aw_in 143 (by decide +kernel) rfl, tyX4_ok, nmX4, rfl, tyX4_ok 3 (Nat.le_of_ble_eq_true rfl)⟩
theorem fp_X4_61 : aw_fp RX4 61 0 0 .int := ⟨RX0, TX0, 11, tyX0, rfl, (Nat.le_of_ble_eq_true rfl), aw_in0, aw_in 33 (by decide +kernel) rfl, tyX0_ok, nmX0, rfl, tyX0_ok 0 (Nat.le_of_ble_eq_true rfl)⟩
theorem fp_X5_197 : aw_fp RX5 197 5 7 .int := ⟨RX5, TX5, 17, tyX5, rfl, (Nat.le_of_ble_eq_true rfl), aw_in5, aw_in 703 (by decide +kernel) rfl, tyX5_ok, nmX5, rfl, tyX5_ok 7 (Nat.le_of_ble_eq_true rfl)⟩
theorem fp_X5_201 : aw_fp RX5 201 5 8 .int := ⟨RX5, TX5, 17, tyX5, rfl, (Nat.le_of_ble_eq_true rfl), aw_in5, aw_in 704 (by decide +kernel) rfl, tyX5_ok, nmX5, rfl, tyX5_ok 8 (Nat.le_of_ble_eq_true rfl)⟩
theorem fp_X5_207 : aw_fp RX5 207 5 10 .int := ⟨RX5, TX5, 17, tyX5, rfl, (Nat.le_of_ble_eq_true rfl), aw_in5, aw_in 706 (by decide +kernel) rfl, tyX5_ok, nmX5, rfl, tyX5_ok 10 (Nat.le_of_ble_eq_true rfl)⟩
theorem fp_X5_210 : aw_fp RX5 210 5 11 .long := ⟨RX5, TX5, 17, tyX5, rfl, (Nat.le_of_ble_eq_true rfl), aw_in5, aw_in 707 (by decide +kernel) rfl, tyX5_ok, nmX5, rfl, tyX5_ok 11 (Nat.le_of_ble_eq_true rfl)⟩
theorem fp_X5_214 : aw_fp RX5 214 5 9 .int := ⟨RX5, TX5, 17, tyX5, rfl, (Nat.le_of_ble_eq_true rfl), aw_in5, aw_in 705 (by decide +kernel) rfl, tyX5_ok, nmX5, rfl, tyX5_ok 9 (Nat.le_of_ble_eq_true rfl)⟩
theorem fp_X5_233 : aw_fp RX5 233 5 12 .int := ⟨RX5, TX5, 17, tyX5, rfl, (Nat.le_of_ble_eq_true rfl), aw_in5, aw_in 708 (by decide +kernel) rfl, tyX5_ok, nmX5, rfl, tyX5_ok 12 (Nat.le_of_ble_eq_true rfl)⟩
theorem fp_X5_305 : aw_fp RX5 305 5 4 .boolean := ⟨RX5, TX5, 17, tyX5, rfl, (Nat.le_of_ble_eq_true rfl), aw_in5, aw_in 700 (by decide +kernel) rfl, tyX5_ok, nmX5, rfl, tyX5_ok 4 (Nat.le_of_ble_eq_true rfl)⟩
def rX0_become : Room := { frames := 1, cells := 0, slots := 0, locals := 26 }
def mX0_become : aw_M := (yX0_become, cX0_become, 2, none, rX0_become)
theorem mv_X0_become : aw_mV mX0_become 1 := ⟨⟨aw_in 331 (by decide +kernel) rfl, aw_in 2 (by decide +kernel) rfl, rfl, rfl, by decide, by decide, by decide +kernel⟩, aw_in 329 (by decide +kernel) rfl, aw_in 330 (by decide +kernel) rfl⟩
def rX0_isFull : Room := { frames := 0, cells := 0, slots := 0, locals := 0 }
def mX0_isFull : aw_M := (yX0_isFull, cX0_isFull, 1, some .boolean, rX0_isFull)
theorem mv_X0_isFull : aw_mV mX0_isFull 0 := ⟨⟨aw_in 192 (by decide +kernel) rfl, aw_in 2 (by decide +kernel) rfl, rfl, rfl, by decide, by decide, by decide +kernel⟩, aw_in 190 (by decide +kernel) rfl, aw_in 191 (by decide +kernel) rfl⟩
def rX0_has : Room := { frames := 0, cells := 0, slots := 0, locals := 0 }
def mX0_has : aw_M := (yX0_has, cX0_has, 2, some .boolean, rX0_has)
theorem mv_X0_has : aw_mV mX0_has 1 := ⟨⟨aw_in 204 (by decide +kernel) rfl, aw_in 2 (by decide +kernel) rfl, rfl, rfl, by decide, by decide, by decide +kernel⟩, aw_in 202 (by decide +kernel) rfl, aw_in 203 (by decide +kernel) rfl⟩
def rX0_hasTwo : Room := { frames := 1, cells := 0, slots := 0, locals := 21 }
def mX0_hasTwo : aw_M := (yX0_hasTwo, cX0_hasTwo, 3, some .boolean, rX0_hasTwo)
theorem mv_X0_hasTwo : aw_mV mX0_hasTwo 2 := ⟨⟨aw_in 237 (by decide +kernel) rfl, aw_in 2 (by decide +kernel) rfl, rfl, rfl, by decide, by decide, by decide +kernel⟩, aw_in 235 (by decide +kernel) rfl, aw_in 236 (by decide +kernel) rfl⟩
def rX0_addPotter : Room := { frames := 0, cells := 0, slots := 0, locals := 0 }
def mX0_addPotter : aw_M := (yX0_addPotter, cX0_addPotter, 6, some .int, rX0_addPotter)
theorem mv_X0_addPotter : aw_mV mX0_addPotter 4 := ⟨⟨aw_in 196 (by decide +kernel) rfl, aw_in 2 (by decide +kernel) rfl, rfl, rfl, by decide, by decide, by decide +kernel⟩, aw_in 194 (by decide +kernel) rfl, aw_in 195 (by decide +kernel) rfl⟩
def rX0_pushes : Room := { frames := 1, cells := 0, slots := 0, locals := 21 }
def mX0_pushes : aw_M := (yX0_pushes, cX0_pushes, 5, some .int, rX0_pushes)
theorem mv_X0_pushes : aw_mV mX0_pushes 1 := ⟨⟨aw_in 212 (by decide +kernel) rfl, aw_in 2 (by decide +kernel) rfl, rfl, rfl, by decide, by decide, by decide +kernel⟩, aw_in 210 (by decide +kernel) rfl, aw_in 211 (by decide +kernel) rfl⟩
def rX0_says : Room := { frames := 0, cells := 0, slots := 0, locals := 0 }
def mX0_says : aw_M := (yX0_says, cX0_says, 4, some .int, rX0_says)
theorem mv_X0_says : aw_mV mX0_says 1 := ⟨⟨aw_in 219 (by decide +kernel) rfl, aw_in 2 (by decide +kernel) rfl, rfl, rfl, by decide, by decide, by decide +kernel⟩, aw_in 217 (by decide +kernel) rfl, aw_in 218 (by decide +kernel) rfl⟩
def rX0_tell : Room := { frames := 2, cells := 0, slots := 0, locals := 45 }
def mX0_tell : aw_M := (yX0_tell, cX0_tell, 3, some .int, rX0_tell)
theorem mv_X0_tell : aw_mV mX0_tell 2 := ⟨⟨aw_in 208 (by decide +kernel) rfl, aw_in 2 (by decide +kernel) rfl, rfl, rfl, by decide, by decide, by decide +kernel⟩, aw_in 206 (by decide +kernel) rfl, aw_in 207 (by decide +kernel) rfl⟩
def rX0_riftPlace : Room := { frames := 0, cells := 0, slots := 0, locals := 0 }
def mX0_riftPlace : aw_M := (yX0_riftPlace, cX0_riftPlace, 2, some .int, rX0_riftPlace)
theorem ms_X0_riftPlace : aw_mS mX0_riftPlace 2 := ⟨⟨aw_in 245 (by decide +kernel) rfl, aw_in 2 (by decide +kernel) rfl, rfl, rfl, by decide, by decide, by decide +kernel⟩, aw_in 244 (by decide +kernel) rfl⟩
def rX0_riftOf : Room := { frames := 1, cells := 0, slots := 0, locals := 21 }
def mX0_riftOf : aw_M := (yX0_riftOf, cX0_riftOf, 3, some .int, rX0_riftOf)
theorem mv_X0_riftOf : aw_mV mX0_riftOf 2 := ⟨⟨aw_in 242 (by decide +kernel) rfl, aw_in 2 (by decide +kernel) rfl, rfl, rfl, by decide, by decide, by decide +kernel⟩, aw_in 240 (by decide +kernel) rfl, aw_in 241 (by decide +kernel) rfl⟩
def rX0_setRift : Room := { frames := 1, cells := 0, slots := 0, locals := 21 }
def mX0_setRift : aw_M := (yX0_setRift, cX0_setRift, 4, none, rX0_setRift)
theorem mv_X0_setRift : aw_mV mX0_setRift 3 := ⟨⟨aw_in 249 (by decide +kernel) rfl, aw_in 2 (by decide +kernel) rfl, rfl, rfl, by decide, by decide, by decide +kernel⟩, aw_in 247 (by decide +kernel) rfl, aw_in 248 (by decide +kernel) rfl⟩
def rX0_rises : Room := { frames := 2, cells := 0, slots := 0, locals := 43 }
def mX0_rises : aw_M := (yX0_rises, cX0_rises, 4, some .int, rX0_rises)
theorem mv_X0_rises : aw_mV mX0_rises 3 := ⟨⟨aw_in 257 (by decide +kernel) rfl, aw_in 2 (by decide +kernel) rfl, rfl, rfl, by decide, by decide, by decide +kernel⟩, aw_in 255 (by decide +kernel) rfl, aw_in 256 (by decide +kernel) rfl⟩
def rX0_leans : Room := { frames := 2, cells := 0, slots := 0, locals := 45 }
def mX0_leans : aw_M := (yX0_leans, cX0_leans, 3, some .int, rX0_leans)
theorem mv_X0_leans : aw_mV mX0_leans 2 := ⟨⟨aw_in 262 (by decide +kernel) rfl, aw_in 2 (by decide +kernel) rfl, rfl, rfl, by decide, by decide, by decide +kernel⟩, aw_in 260 (by decide +kernel) rfl, aw_in 261 (by decide +kernel) rfl⟩
def rX4_wouldFlop : Room := { frames := 1, cells := 0, slots := 0, locals := 21 }
def mX4_wouldFlop : aw_M := (yX4_wouldFlop, cX4_wouldFlop, 2, some .boolean, rX4_wouldFlop)
theorem ms_X4_wouldFlop : aw_mS mX4_wouldFlop 2 := ⟨⟨aw_in 265 (by decide +kernel) rfl, aw_in 1 (by decide +kernel) rfl, rfl, rfl, by decide, by decide, by decide +kernel⟩, aw_in 264 (by decide +kernel) rfl⟩
def rX0_claysThatStand : Room := { frames := 3, cells := 0, slots := 0, locals := 67 }
def mX0_claysThatStand : aw_M := (yX0_claysThatStand, cX0_claysThatStand, 6, some .int, rX0_claysThatStand)
theorem mv_X0_claysThatStand : aw_mV mX0_claysThatStand 2 := ⟨⟨aw_in 433 (by decide +kernel) rfl, aw_in 2 (by decide +kernel) rfl, rfl, rfl, by decide, by decide, by decide +kernel⟩, aw_in 431 (by decide +kernel) rfl, aw_in 432 (by decide +kernel) rfl⟩
def rX0_flop : Room := { frames := 1, cells := 0, slots := 0, locals := 21 }
def mX0_flop : aw_M := (yX0_flop, cX0_flop, 3, none, rX0_flop)
theorem mv_X0_flop : aw_mV mX0_flop 1 := ⟨⟨aw_in 289 (by decide +kernel) rfl, aw_in 2 (by decide +kernel) rfl, rfl, rfl, by decide, by decide, by decide +kernel⟩, aw_in 288 (by decide +kernel) rfl, aw_inS 2 (by decide +kernel) rfl⟩
def rX0_stand : Room := { frames := 1, cells := 0, slots := 0, locals := 21 }
def mX0_stand : aw_M := (yX0_stand, cX0_stand, 3, none, rX0_stand)
theorem mv_X0_stand : aw_mV mX0_stand 1 := ⟨⟨aw_in 296 (by decide +kernel) rfl, aw_in 2 (by decide +kernel) rfl, rfl, rfl, by decide, by decide, by decide +kernel⟩, aw_in 295 (by decide +kernel) rfl, aw_inS 3 (by decide +kernel) rfl⟩
def rX0_sell : Room := { frames := 1, cells := 0, slots := 0, locals := 21 }
def mX0_sell : aw_M := (yX0_sell, cX0_sell, 3, none, rX0_sell)
theorem mv_X0_sell : aw_mV mX0_sell 2 := ⟨⟨aw_in 300 (by decide +kernel) rfl, aw_in 2 (by decide +kernel) rfl, rfl, rfl, by decide, by decide, by decide +kernel⟩, aw_in 299 (by decide +kernel) rfl, aw_inS 4 (by decide +kernel) rfl⟩
def rX0_throwPot : Room := { frames := 3, cells := 0, slots := 0, locals := 67 }
def mX0_throwPot : aw_M := (yX0_throwPot, cX0_throwPot, 6, none, rX0_throwPot)
theorem mv_X0_throwPot : aw_mV mX0_throwPot 2 := ⟨⟨aw_in 282 (by decide +kernel) rfl, aw_in 2 (by decide +kernel) rfl, rfl, rfl, by decide, by decide, by decide +kernel⟩, aw_in 281 (by decide +kernel) rfl, aw_inS 1 (by decide +kernel) rfl⟩
def rX0_ageAll : Room := { frames := 1, cells := 0, slots := 0, locals := 21 }
def mX0_ageAll : aw_M := (yX0_ageAll, cX0_ageAll, 2, none, rX0_ageAll)
theorem mv_X0_ageAll : aw_mV mX0_ageAll 0 := ⟨⟨aw_in 307 (by decide +kernel) rfl, aw_in 2 (by decide +kernel) rfl, rfl, rfl, by decide, by decide, by decide +kernel⟩, aw_in 306 (by decide +kernel) rfl, aw_inS 5 (by decide +kernel) rfl⟩
def rX0_passDays : Room := { frames := 4, cells := 0, slots := 0, locals := 92 }
def mX0_passDays : aw_M := (yX0_passDays, cX0_passDays, 4, none, rX0_passDays)
theorem mv_X0_passDays : aw_mV mX0_passDays 1 := ⟨⟨aw_in 277 (by decide +kernel) rfl, aw_in 2 (by decide +kernel) rfl, rfl, rfl, by decide, by decide, by decide +kernel⟩, aw_in 275 (by decide +kernel) rfl, aw_in 276 (by decide +kernel) rfl⟩
def rX0_throwsToday : Room := { frames := 2, cells := 0, slots := 0, locals := 43 }
def mX0_throwsToday : aw_M := (yX0_throwsToday, cX0_throwsToday, 2, some .boolean, rX0_throwsToday)
theorem mv_X0_throwsToday : aw_mV mX0_throwsToday 0 := ⟨⟨aw_in 323 (by decide +kernel) rfl, aw_in 2 (by decide +kernel) rfl, rfl, rfl, by decide, by decide, by decide +kernel⟩, aw_in 321 (by decide +kernel) rfl, aw_in 322 (by decide +kernel) rfl⟩
def rX0_sumOf : Room := { frames := 0, cells := 0, slots := 0, locals := 0 }
def mX0_sumOf : aw_M := (yX0_sumOf, cX0_sumOf, 4, some .int, rX0_sumOf)
theorem mv_X0_sumOf : aw_mV mX0_sumOf 1 := ⟨⟨aw_in 315 (by decide +kernel) rfl, aw_in 2 (by decide +kernel) rfl, rfl, rfl, by decide, by decide, by decide +kernel⟩, aw_in 313 (by decide +kernel) rfl, aw_in 314 (by decide +kernel) rfl⟩
def rX0_widestTwo : Room := { frames := 2, cells := 0, slots := 0, locals := 43 }
def mX0_widestTwo : aw_M := (yX0_widestTwo, cX0_widestTwo, 5, some .int, rX0_widestTwo)
theorem mv_X0_widestTwo : aw_mV mX0_widestTwo 0 := ⟨⟨aw_in 319 (by decide +kernel) rfl, aw_in 2 (by decide +kernel) rfl, rfl, rfl, by decide, by decide, by decide +kernel⟩, aw_in 317 (by decide +kernel) rfl, aw_in 318 (by decide +kernel) rfl⟩
def rX0_reconcileSet : Room := { frames := 2, cells := 0, slots := 0, locals := 44 }
def mX0_reconcileSet : aw_M := (yX0_reconcileSet, cX0_reconcileSet, 4, none, rX0_reconcileSet)
theorem mv_X0_reconcileSet : aw_mV mX0_reconcileSet 1 := ⟨⟨aw_in 388 (by decide +kernel) rfl, aw_in 2 (by decide +kernel) rfl, rfl, rfl, by decide, by decide, by decide +kernel⟩, aw_in 386 (by decide +kernel) rfl, aw_in 387 (by decide +kernel) rfl⟩
def rX0_draw : Room := { frames := 0, cells := 0, slots := 0, locals := 0 }
def mX0_draw : aw_M := (yX0_draw, cX0_draw, 1, some .int, rX0_draw)
theorem mv_X0_draw : aw_mV mX0_draw 0 := ⟨⟨aw_in 424 (by decide +kernel) rfl, aw_in 2 (by decide +kernel) rfl, rfl, rfl, by decide, by decide, by decide +kernel⟩, aw_in 423 (by decide +kernel) rfl, aw_inS 10 (by decide +kernel) rfl⟩
def rX0_drawMarket : Room := { frames := 1, cells := 0, slots := 0, locals := 20 }
def mX0_drawMarket : aw_M := (yX0_drawMarket, cX0_drawMarket, 3, none, rX0_drawMarket)
theorem mv_X0_drawMarket : aw_mV mX0_drawMarket 0 := ⟨⟨aw_in 420 (by decide +kernel) rfl, aw_in 2 (by decide +kernel) rfl, rfl, rfl, by decide, by decide, by decide +kernel⟩, aw_in 418 (by decide +kernel) rfl, aw_in 419 (by decide +kernel) rfl⟩
def rX0_spotsHeld : Room := { frames := 0, cells := 0, slots := 0, locals := 0 }
def mX0_spotsHeld : aw_M := (yX0_spotsHeld, cX0_spotsHeld, 3, some .int, rX0_spotsHeld)
theorem mv_X0_spotsHeld : aw_mV mX0_spotsHeld 0 := ⟨⟨aw_in 685 (by decide +kernel) rfl, aw_in 2 (by decide +kernel) rfl, rfl, rfl, by decide, by decide, by decide +kernel⟩, aw_in 683 (by decide +kernel) rfl, aw_in 684 (by decide +kernel) rfl⟩
def rX1_hasFault : Room := { frames := 0, cells := 0, slots := 0, locals := 0 }
def mX1_hasFault : aw_M := (yX1_hasFault, cX1_hasFault, 1, some .boolean, rX1_hasFault)
theorem mv_X1_hasFault : aw_mV mX1_hasFault 0 := ⟨⟨aw_in 565 (by decide +kernel) rfl, aw_in 5 (by decide +kernel) rfl, rfl, rfl, by decide, by decide, by decide +kernel⟩, aw_in 563 (by decide +kernel) rfl, aw_in 564 (by decide +kernel) rfl⟩
def rX1_isLetter : Room := { frames := 0, cells := 0, slots := 0, locals := 0 }
def mX1_isLetter : aw_M := (yX1_isLetter, cX1_isLetter, 2, some .boolean, rX1_isLetter)
theorem mv_X1_isLetter : aw_mV mX1_isLetter 1 := ⟨⟨aw_in 472 (by decide +kernel) rfl, aw_in 5 (by decide +kernel) rfl, rfl, rfl, by decide, by decide, by decide +kernel⟩, aw_in 471 (by decide +kernel) rfl, aw_inS 12 (by decide +kernel) rfl⟩
def rX1_isDigit : Room := { frames := 0, cells := 0, slots := 0, locals := 0 }
def mX1_isDigit : aw_M := (yX1_isDigit, cX1_isDigit, 2, some .boolean, rX1_isDigit)
theorem mv_X1_isDigit : aw_mV mX1_isDigit 1 := ⟨⟨aw_in 476 (by decide +kernel) rfl, aw_in 5 (by decide +kernel) rfl, rfl, rfl, by decide, by decide, by decide +kernel⟩, aw_in 475 (by decide +kernel) rfl, aw_inS 13 (by decide +kernel) rfl⟩
def rX1_goesOnAt : Room := { frames := 1, cells := 0, slots := 0, locals := 21 }
def mX1_goesOnAt : aw_M := (yX1_goesOnAt, cX1_goesOnAt, 2, some .boolean, rX1_goesOnAt)
theorem mv_X1_goesOnAt : aw_mV mX1_goesOnAt 1 := ⟨⟨aw_in 468 (by decide +kernel) rfl, aw_in 5 (by decide +kernel) rfl, rfl, rfl, by decide, by decide, by decide +kernel⟩, aw_in 467 (by decide +kernel) rfl, aw_inS 11 (by decide +kernel) rfl⟩
def rX1_numberAt : Room := { frames := 1, cells := 0, slots := 0, locals := 21 }
def mX1_numberAt : aw_M := (yX1_numberAt, cX1_numberAt, 4, some .int, rX1_numberAt)
theorem mv_X1_numberAt : aw_mV mX1_numberAt 1 := ⟨⟨aw_in 484 (by decide +kernel) rfl, aw_in 5 (by decide +kernel) rfl, rfl, rfl, by decide, by decide, by decide +kernel⟩, aw_in 483 (by decide +kernel) rfl, aw_inS 15 (by decide +kernel) rfl⟩
def rX1_nameOf : Room := { frames := 0, cells := 0, slots := 0, locals := 0 }
def mX1_nameOf : aw_M := (yX1_nameOf, cX1_nameOf, 1, some (.object "java/lang/String"), rX1_nameOf)
theorem ms_X1_nameOf : aw_mS mX1_nameOf 1 := ⟨⟨aw_in 492 (by decide +kernel) rfl, aw_in 5 (by decide +kernel) rfl, rfl, rfl, by decide, by decide, by decide +kernel⟩, aw_in 491 (by decide +kernel) rfl⟩
def rX1_isWordAt : Room := { frames := 5, cells := 0, slots := 0, locals := 106 }
def mX1_isWordAt : aw_M := (yX1_isWordAt, cX1_isWordAt, 5, some .boolean, rX1_isWordAt)
theorem mv_X1_isWordAt : aw_mV mX1_isWordAt 2 := ⟨⟨aw_in 509 (by decide +kernel) rfl, aw_in 5 (by decide +kernel) rfl, rfl, rfl, by decide, by decide, by decide +kernel⟩, aw_in 508 (by decide +kernel) rfl, aw_inS 17 (by decide +kernel) rfl⟩
def rX1_wordAt : Room := { frames := 6, cells := 0, slots := 0, locals := 130 }
def mX1_wordAt : aw_M := (yX1_wordAt, cX1_wordAt, 3, some .int, rX1_wordAt)
theorem mv_X1_wordAt : aw_mV mX1_wordAt 1 := ⟨⟨aw_in 489 (by decide +kernel) rfl, aw_in 5 (by decide +kernel) rfl, rfl, rfl, by decide, by decide, by decide +kernel⟩, aw_in 488 (by decide +kernel) rfl, aw_inS 16 (by decide +kernel) rfl⟩
def rX1_tokenAt : Room := { frames := 7, cells := 0, slots := 0, locals := 152 }
def mX1_tokenAt : aw_M := (yX1_tokenAt, cX1_tokenAt, 2, some .int, rX1_tokenAt)
theorem mv_X1_tokenAt : aw_mV mX1_tokenAt 1 := ⟨⟨aw_in 480 (by decide +kernel) rfl, aw_in 5 (by decide +kernel) rfl, rfl, rfl, by decide, by decide, by decide +kernel⟩, aw_in 479 (by decide +kernel) rfl, aw_inS 14 (by decide +kernel) rfl⟩
def rX1_splitTape : Room := { frames := 8, cells := 0, slots := 0, locals := 173 }
def mX1_splitTape : aw_M := (yX1_splitTape, cX1_splitTape, 3, none, rX1_splitTape)
theorem mv_X1_splitTape : aw_mV mX1_splitTape 0 := ⟨⟨aw_in 464 (by decide +kernel) rfl, aw_in 5 (by decide +kernel) rfl, rfl, rfl, by decide, by decide, by decide +kernel⟩, aw_in 462 (by decide +kernel) rfl, aw_in 463 (by decide +kernel) rfl⟩
def rX4_within : Room := { frames := 0, cells := 0, slots := 0, locals := 0 }
def mX4_within : aw_M := (yX4_within, cX4_within, 3, some .boolean, rX4_within)
theorem ms_X4_within : aw_mS mX4_within 3 := ⟨⟨aw_in 171 (by decide +kernel) rfl, aw_in 1 (by decide +kernel) rfl, rfl, rfl, by decide, by decide, by decide +kernel⟩, aw_in 170 (by decide +kernel) rfl⟩
def rX1_refuse : Room := { frames := 0, cells := 0, slots := 0, locals := 0 }
def mX1_refuse : aw_M := (yX1_refuse, cX1_refuse, 1, none, rX1_refuse)
theorem mv_X1_refuse : aw_mV mX1_refuse 0 := ⟨⟨aw_in 579 (by decide +kernel) rfl, aw_in 5 (by decide +kernel) rfl, rfl, rfl, by decide, by decide, by decide +kernel⟩, aw_in 578 (by decide +kernel) rfl, aw_inS 20 (by decide +kernel) rfl⟩
def rX1_step : Room := { frames := 0, cells := 0, slots := 0, locals := 0 }
def mX1_step : aw_M := (yX1_step, cX1_step, 1, none, rX1_step)
theorem mv_X1_step : aw_mV mX1_step 0 := ⟨⟨aw_in 583 (by decide +kernel) rfl, aw_in 5 (by decide +kernel) rfl, rfl, rfl, by decide, by decide, by decide +kernel⟩, aw_in 582 (by decide +kernel) rfl, aw_inS 21 (by decide +kernel) rfl⟩
def rX1_readNumber : Room := { frames := 1, cells := 0, slots := 0, locals := 22 }
def mX1_readNumber : aw_M := (yX1_readNumber, cX1_readNumber, 4, some .int, rX1_readNumber)
theorem mv_X1_readNumber : aw_mV mX1_readNumber 2 := ⟨⟨aw_in 591 (by decide +kernel) rfl, aw_in 5 (by decide +kernel) rfl, rfl, rfl, by decide, by decide, by decide +kernel⟩, aw_in 590 (by decide +kernel) rfl, aw_inS 23 (by decide +kernel) rfl⟩
def rX1_readPerhaps : Room := { frames := 2, cells := 0, slots := 0, locals := 45 }
def mX1_readPerhaps : aw_M := (yX1_readPerhaps, cX1_readPerhaps, 3, some .int, rX1_readPerhaps)
theorem mv_X1_readPerhaps : aw_mV mX1_readPerhaps 2 := ⟨⟨aw_in 587 (by decide +kernel) rfl, aw_in 5 (by decide +kernel) rfl, rfl, rfl, by decide, by decide, by decide +kernel⟩, aw_in 586 (by decide +kernel) rfl, aw_inS 22 (by decide +kernel) rfl⟩
def rX1_readPotter : Room := { frames := 3, cells := 0, slots := 0, locals := 67 }
def mX1_readPotter : aw_M := (yX1_readPotter, cX1_readPotter, 5, none, rX1_readPotter)
theorem mv_X1_readPotter : aw_mV mX1_readPotter 1 := ⟨⟨aw_in 574 (by decide +kernel) rfl, aw_in 5 (by decide +kernel) rfl, rfl, rfl, by decide, by decide, by decide +kernel⟩, aw_in 573 (by decide +kernel) rfl, aw_inS 19 (by decide +kernel) rfl⟩
def rX1_readRift : Room := { frames := 2, cells := 0, slots := 0, locals := 45 }
def mX1_readRift : aw_M := (yX1_readRift, cX1_readRift, 4, none, rX1_readRift)
theorem mv_X1_readRift : aw_mV mX1_readRift 0 := ⟨⟨aw_in 596 (by decide +kernel) rfl, aw_in 5 (by decide +kernel) rfl, rfl, rfl, by decide, by decide, by decide +kernel⟩, aw_in 595 (by decide +kernel) rfl, aw_inS 24 (by decide +kernel) rfl⟩
def rX1_readPair : Room := { frames := 2, cells := 0, slots := 0, locals := 45 }
def mX1_readPair : aw_M := (yX1_readPair, cX1_readPair, 4, none, rX1_readPair)
theorem mv_X1_readPair : aw_mV mX1_readPair 0 := ⟨⟨aw_in 601 (by decide +kernel) rfl, aw_in 5 (by decide +kernel) rfl, rfl, rfl, by decide, by decide, by decide +kernel⟩, aw_in 600 (by decide +kernel) rfl, aw_inS 25 (by decide +kernel) rfl⟩
def rX1_readClay : Room := { frames := 2, cells := 0, slots := 0, locals := 45 }
def mX1_readClay : aw_M := (yX1_readClay, cX1_readClay, 2, none, rX1_readClay)
theorem mv_X1_readClay : aw_mV mX1_readClay 0 := ⟨⟨aw_in 605 (by decide +kernel) rfl, aw_in 5 (by decide +kernel) rfl, rfl, rfl, by decide, by decide, by decide +kernel⟩, aw_in 604 (by decide +kernel) rfl, aw_inS 26 (by decide +kernel) rfl⟩
def rX1_readItem : Room := { frames := 4, cells := 0, slots := 0, locals := 91 }
def mX1_readItem : aw_M := (yX1_readItem, cX1_readItem, 2, none, rX1_readItem)
theorem mv_X1_readItem : aw_mV mX1_readItem 0 := ⟨⟨aw_in 569 (by decide +kernel) rfl, aw_in 5 (by decide +kernel) rfl, rfl, rfl, by decide, by decide, by decide +kernel⟩, aw_in 568 (by decide +kernel) rfl, aw_inS 18 (by decide +kernel) rfl⟩
def rX1_take : Room := { frames := 1, cells := 0, slots := 0, locals := 20 }
def mX1_take : aw_M := (yX1_take, cX1_take, 2, none, rX1_take)
theorem mv_X1_take : aw_mV mX1_take 1 := ⟨⟨aw_in 609 (by decide +kernel) rfl, aw_in 5 (by decide +kernel) rfl, rfl, rfl, by decide, by decide, by decide +kernel⟩, aw_in 608 (by decide +kernel) rfl, aw_inS 27 (by decide +kernel) rfl⟩
def rX1_readItems : Room := { frames := 5, cells := 0, slots := 0, locals := 112 }
def mX1_readItems : aw_M := (yX1_readItems, cX1_readItems, 2, some .int, rX1_readItems)
theorem mv_X1_readItems : aw_mV mX1_readItems 0 := ⟨⟨aw_in 561 (by decide +kernel) rfl, aw_in 5 (by decide +kernel) rfl, rfl, rfl, by decide, by decide, by decide +kernel⟩, aw_in 559 (by decide +kernel) rfl, aw_in 560 (by decide +kernel) rfl⟩
def rX2_isMissing : Room := { frames := 0, cells := 0, slots := 0, locals := 0 }
def mX2_isMissing : aw_M := (yX2_isMissing, cX2_isMissing, 2, some .boolean, rX2_isMissing)
theorem mv_X2_isMissing : aw_mV mX2_isMissing 1 := ⟨⟨aw_in 396 (by decide +kernel) rfl, aw_in 6 (by decide +kernel) rfl, rfl, rfl, by decide, by decide, by decide +kernel⟩, aw_in 394 (by decide +kernel) rfl, aw_in 395 (by decide +kernel) rfl⟩
def rX2_lay : Room := { frames := 0, cells := 0, slots := 0, locals := 0 }
def mX2_lay : aw_M := (yX2_lay, cX2_lay, 5, none, rX2_lay)
theorem mv_X2_lay : aw_mV mX2_lay 3 := ⟨⟨aw_in 632 (by decide +kernel) rfl, aw_in 6 (by decide +kernel) rfl, rfl, rfl, by decide, by decide, by decide +kernel⟩, aw_in 630 (by decide +kernel) rfl, aw_in 631 (by decide +kernel) rfl⟩
def rX2_get : Room := { frames := 0, cells := 0, slots := 0, locals := 0 }
def mX2_get : aw_M := (yX2_get, cX2_get, 3, some .int, rX2_get)
theorem mv_X2_get : aw_mV mX2_get 2 := ⟨⟨aw_in 404 (by decide +kernel) rfl, aw_in 6 (by decide +kernel) rfl, rfl, rfl, by decide, by decide, by decide +kernel⟩, aw_in 402 (by decide +kernel) rfl, aw_in 403 (by decide +kernel) rfl⟩
def rX2_lowest : Room := { frames := 0, cells := 0, slots := 0, locals := 0 }
def mX2_lowest : aw_M := (yX2_lowest, cX2_lowest, 2, some .int, rX2_lowest)
theorem ms_X2_lowest : aw_mS mX2_lowest 2 := ⟨⟨aw_in 643 (by decide +kernel) rfl, aw_in 6 (by decide +kernel) rfl, rfl, rfl, by decide, by decide, by decide +kernel⟩, aw_in 642 (by decide +kernel) rfl⟩
def rX2_put : Room := { frames := 1, cells := 0, slots := 0, locals := 21 }
def mX2_put : aw_M := (yX2_put, cX2_put, 4, none, rX2_put)
theorem mv_X2_put : aw_mV mX2_put 3 := ⟨⟨aw_in 640 (by decide +kernel) rfl, aw_in 6 (by decide +kernel) rfl, rfl, rfl, by decide, by decide, by decide +kernel⟩, aw_in 638 (by decide +kernel) rfl, aw_in 639 (by decide +kernel) rfl⟩
def rX2_hasRun : Room := { frames := 0, cells := 0, slots := 0, locals := 0 }
def mX2_hasRun : aw_M := (yX2_hasRun, cX2_hasRun, 4, some .boolean, rX2_hasRun)
theorem mv_X2_hasRun : aw_mV mX2_hasRun 3 := ⟨⟨aw_in 651 (by decide +kernel) rfl, aw_in 6 (by decide +kernel) rfl, rfl, rfl, by decide, by decide, by decide +kernel⟩, aw_in 649 (by decide +kernel) rfl, aw_in 650 (by decide +kernel) rfl⟩
def rX2_move : Room := { frames := 1, cells := 0, slots := 0, locals := 26 }
def mX2_move : aw_M := (yX2_move, cX2_move, 6, none, rX2_move)
theorem mv_X2_move : aw_mV mX2_move 5 := ⟨⟨aw_in 655 (by decide +kernel) rfl, aw_in 6 (by decide +kernel) rfl, rfl, rfl, by decide, by decide, by decide +kernel⟩, aw_in 653 (by decide +kernel) rfl, aw_in 654 (by decide +kernel) rfl⟩
def rX3_append : Room := { frames := 0, cells := 0, slots := 0, locals := 0 }
def mX3_append : aw_M := (yX3_append, cX3_append, 2, none, rX3_append)
theorem mv_X3_append : aw_mV mX3_append 1 := ⟨⟨aw_in 452 (by decide +kernel) rfl, aw_in 4 (by decide +kernel) rfl, rfl, rfl, by decide, by decide, by decide +kernel⟩, aw_in 450 (by decide +kernel) rfl, aw_in 451 (by decide +kernel) rfl⟩
def rJ6_bitCount_0f7a4 : Room := { frames := 0, cells := 0, slots := 0, locals := 0 }
def mJ6_bitCount_0f7a4 : aw_M := (yJ6_bitCount_0f7a4, cJ6_bitCount_0f7a4, 1, some .int, rJ6_bitCount_0f7a4)
theorem ms_J6_bitCount_0f7a4 : aw_mS mJ6_bitCount_0f7a4 1 := ⟨⟨aw_in 377 (by decide +kernel) rfl, aw_in 10 (by decide +kernel) rfl, rfl, rfl, by decide, by decide, by decide +kernel⟩, aw_in 376 (by decide +kernel) rfl⟩
def rX4_found : Room := { frames := 0, cells := 0, slots := 0, locals := 0 }
def mX4_found : aw_M := (yX4_found, cX4_found, 2, some .int, rX4_found)
theorem mv_X4_found : aw_mV mX4_found 1 := ⟨⟨aw_in 175 (by decide +kernel) rfl, aw_in 1 (by decide +kernel) rfl, rfl, rfl, by decide, by decide, by decide +kernel⟩, aw_in 174 (by decide +kernel) rfl, aw_inS 0 (by decide +kernel) rfl⟩
def rX4_clay : Room := { frames := 1, cells := 0, slots := 0, locals := 22 }
def mX4_clay : aw_M := (yX4_clay, cX4_clay, 3, some .int, rX4_clay)
theorem mv_X4_clay : aw_mV mX4_clay 1 := ⟨⟨aw_in 168 (by decide +kernel) rfl, aw_in 1 (by decide +kernel) rfl, rfl, rfl, by decide, by decide, by decide +kernel⟩, aw_in 166 (by decide +kernel) rfl, aw_in 167 (by decide +kernel) rfl⟩
def rX4_pair : Room := { frames := 1, cells := 0, slots := 0, locals := 22 }
def mX4_pair : aw_M := (yX4_pair, cX4_pair, 5, some .int, rX4_pair)
theorem mv_X4_pair : aw_mV mX4_pair 3 := ⟨⟨aw_in 180 (by decide +kernel) rfl, aw_in 1 (by decide +kernel) rfl, rfl, rfl, by decide, by decide, by decide +kernel⟩, aw_in 178 (by decide +kernel) rfl, aw_in 179 (by decide +kernel) rfl⟩
def rX4_listed : Room := { frames := 1, cells := 0, slots := 0, locals := 22 }
def mX4_listed : aw_M := (yX4_listed, cX4_listed, 2, some .int, rX4_listed)
theorem mv_X4_listed : aw_mV mX4_listed 1 := ⟨⟨aw_in 184 (by decide +kernel) rfl, aw_in 1 (by decide +kernel) rfl, rfl, rfl, by decide, by decide, by decide +kernel⟩, aw_in 182 (by decide +kernel) rfl, aw_in 183 (by decide +kernel) rfl⟩
def rX4_potter : Room := { frames := 1, cells := 0, slots := 0, locals := 25 }
def mX4_potter : aw_M := (yX4_potter, cX4_potter, 3, some .int, rX4_potter)
theorem mv_X4_potter : aw_mV mX4_potter 2 := ⟨⟨aw_in 188 (by decide +kernel) rfl, aw_in 1 (by decide +kernel) rfl, rfl, rfl, by decide, by decide, by decide +kernel⟩, aw_in 186 (by decide +kernel) rfl, aw_in 187 (by decide +kernel) rfl⟩
def rX4_of : Room := { frames := 3, cells := 0, slots := 0, locals := 67 }
def mX4_of : aw_M := (yX4_of, cX4_of, 3, some .int, rX4_of)
theorem mv_X4_of : aw_mV mX4_of 2 := ⟨⟨aw_in 200 (by decide +kernel) rfl, aw_in 1 (by decide +kernel) rfl, rfl, rfl, by decide, by decide, by decide +kernel⟩, aw_in 198 (by decide +kernel) rfl, aw_in 199 (by decide +kernel) rfl⟩
def rX4_change : Room := { frames := 1, cells := 0, slots := 0, locals := 22 }
def mX4_change : aw_M := (yX4_change, cX4_change, 6, some .int, rX4_change)
theorem mv_X4_change : aw_mV mX4_change 3 := ⟨⟨aw_in 227 (by decide +kernel) rfl, aw_in 1 (by decide +kernel) rfl, rfl, rfl, by decide, by decide, by decide +kernel⟩, aw_in 225 (by decide +kernel) rfl, aw_in 226 (by decide +kernel) rfl⟩
def rX4_rift : Room := { frames := 2, cells := 0, slots := 0, locals := 44 }
def mX4_rift : aw_M := (yX4_rift, cX4_rift, 5, some .int, rX4_rift)
theorem mv_X4_rift : aw_mV mX4_rift 3 := ⟨⟨aw_in 233 (by decide +kernel) rfl, aw_in 1 (by decide +kernel) rfl, rfl, rfl, by decide, by decide, by decide +kernel⟩, aw_in 231 (by decide +kernel) rfl, aw_in 232 (by decide +kernel) rfl⟩
def rX4_two : Room := { frames := 3, cells := 0, slots := 0, locals := 67 }
def mX4_two : aw_M := (yX4_two, cX4_two, 4, some .int, rX4_two)
theorem mv_X4_two : aw_mV mX4_two 3 := ⟨⟨aw_in 253 (by decide +kernel) rfl, aw_in 1 (by decide +kernel) rfl, rfl, rfl, by decide, by decide, by decide +kernel⟩, aw_in 251 (by decide +kernel) rfl, aw_in 252 (by decide +kernel) rfl⟩
def rX4_go : Room := { frames := 5, cells := 0, slots := 0, locals := 115 }
def mX4_go : aw_M := (yX4_go, cX4_go, 2, some .int, rX4_go)
theorem mv_X4_go : aw_mV mX4_go 1 := ⟨⟨aw_in 272 (by decide +kernel) rfl, aw_in 1 (by decide +kernel) rfl, rfl, rfl, by decide, by decide, by decide +kernel⟩, aw_in 270 (by decide +kernel) rfl, aw_in 271 (by decide +kernel) rfl⟩
def rX4_now : Room := { frames := 3, cells := 0, slots := 0, locals := 67 }
def mX4_now : aw_M := (yX4_now, cX4_now, 2, some .int, rX4_now)
theorem mv_X4_now : aw_mV mX4_now 1 := ⟨⟨aw_in 311 (by decide +kernel) rfl, aw_in 1 (by decide +kernel) rfl, rfl, rfl, by decide, by decide, by decide +kernel⟩, aw_in 309 (by decide +kernel) rfl, aw_in 310 (by decide +kernel) rfl⟩
def rX4_ahead : Room := { frames := 5, cells := 0, slots := 0, locals := 115 }
def mX4_ahead : aw_M := (yX4_ahead, cX4_ahead, 5, some .int, rX4_ahead)
theorem mv_X4_ahead : aw_mV mX4_ahead 3 := ⟨⟨aw_in 327 (by decide +kernel) rfl, aw_in 1 (by decide +kernel) rfl, rfl, rfl, by decide, by decide, by decide +kernel⟩, aw_in 325 (by decide +kernel) rfl, aw_in 326 (by decide +kernel) rfl⟩
def rX4_terms : Room := { frames := 5, cells := 0, slots := 0, locals := 115 }
def mX4_terms : aw_M := (yX4_terms, cX4_terms, 4, some .int, rX4_terms)
theorem mv_X4_terms : aw_mV mX4_terms 3 := ⟨⟨aw_in 338 (by decide +kernel) rfl, aw_in 1 (by decide +kernel) rfl, rfl, rfl, by decide, by decide, by decide +kernel⟩, aw_in 336 (by decide +kernel) rfl, aw_in 337 (by decide +kernel) rfl⟩
def rX4_next : Room := { frames := 5, cells := 0, slots := 0, locals := 115 }
def mX4_next : aw_M := (yX4_next, cX4_next, 4, some .int, rX4_next)
theorem mv_X4_next : aw_mV mX4_next 1 := ⟨⟨aw_in 342 (by decide +kernel) rfl, aw_in 1 (by decide +kernel) rfl, rfl, rfl, by decide, by decide, by decide +kernel⟩, aw_in 340 (by decide +kernel) rfl, aw_in 341 (by decide +kernel) rfl⟩
def rX4_peace : Room := { frames := 5, cells := 0, slots := 0, locals := 115 }
def mX4_peace : aw_M := (yX4_peace, cX4_peace, 5, some .int, rX4_peace)
theorem mv_X4_peace : aw_mV mX4_peace 3 := ⟨⟨aw_in 346 (by decide +kernel) rfl, aw_in 1 (by decide +kernel) rfl, rfl, rfl, by decide, by decide, by decide +kernel⟩, aw_in 344 (by decide +kernel) rfl, aw_in 345 (by decide +kernel) rfl⟩
def rX4_when : Room := { frames := 5, cells := 0, slots := 0, locals := 115 }
def mX4_when : aw_M := (yX4_when, cX4_when, 4, some .int, rX4_when)
theorem mv_X4_when : aw_mV mX4_when 2 := ⟨⟨aw_in 350 (by decide +kernel) rfl, aw_in 1 (by decide +kernel) rfl, rfl, rfl, by decide, by decide, by decide +kernel⟩, aw_in 348 (by decide +kernel) rfl, aw_in 349 (by decide +kernel) rfl⟩
def rX4_setWith : Room := { frames := 5, cells := 0, slots := 0, locals := 115 }
def mX4_setWith : aw_M := (yX4_setWith, cX4_setWith, 7, some .int, rX4_setWith)
theorem mv_X4_setWith : aw_mV mX4_setWith 3 := ⟨⟨aw_in 354 (by decide +kernel) rfl, aw_in 1 (by decide +kernel) rfl, rfl, rfl, by decide, by decide, by decide +kernel⟩, aw_in 352 (by decide +kernel) rfl, aw_in 353 (by decide +kernel) rfl⟩
def rX4_dearestTrait : Room := { frames := 5, cells := 0, slots := 0, locals := 115 }
def mX4_dearestTrait : aw_M := (yX4_dearestTrait, cX4_dearestTrait, 7, some .int, rX4_dearestTrait)
theorem mv_X4_dearestTrait : aw_mV mX4_dearestTrait 3 := ⟨⟨aw_in 362 (by decide +kernel) rfl, aw_in 1 (by decide +kernel) rfl, rfl, rfl, by decide, by decide, by decide +kernel⟩, aw_in 361 (by decide +kernel) rfl, aw_inS 6 (by decide +kernel) rfl⟩
def rX4_heatFor : Room := { frames := 6, cells := 0, slots := 0, locals := 141 }
def mX4_heatFor : aw_M := (yX4_heatFor, cX4_heatFor, 3, some .int, rX4_heatFor)
theorem mv_X4_heatFor : aw_mV mX4_heatFor 2 := ⟨⟨aw_in 358 (by decide +kernel) rfl, aw_in 1 (by decide +kernel) rfl, rfl, rfl, by decide, by decide, by decide +kernel⟩, aw_in 356 (by decide +kernel) rfl, aw_in 357 (by decide +kernel) rfl⟩
def rX4_kindFor : Room := { frames := 6, cells := 0, slots := 0, locals := 141 }
def mX4_kindFor : aw_M := (yX4_kindFor, cX4_kindFor, 3, some .int, rX4_kindFor)
theorem mv_X4_kindFor : aw_mV mX4_kindFor 2 := ⟨⟨aw_in 366 (by decide +kernel) rfl, aw_in 1 (by decide +kernel) rfl, rfl, rfl, by decide, by decide, by decide +kernel⟩, aw_in 364 (by decide +kernel) rfl, aw_in 365 (by decide +kernel) rfl⟩
def rX4_clayFor : Room := { frames := 5, cells := 0, slots := 0, locals := 115 }
def mX4_clayFor : aw_M := (yX4_clayFor, cX4_clayFor, 5, some .int, rX4_clayFor)
theorem mv_X4_clayFor : aw_mV mX4_clayFor 2 := ⟨⟨aw_in 370 (by decide +kernel) rfl, aw_in 1 (by decide +kernel) rfl, rfl, rfl, by decide, by decide, by decide +kernel⟩, aw_in 368 (by decide +kernel) rfl, aw_in 369 (by decide +kernel) rfl⟩
def rX4_keepsRound : Room := { frames := 5, cells := 0, slots := 0, locals := 115 }
def mX4_keepsRound : aw_M := (yX4_keepsRound, cX4_keepsRound, 3, some .boolean, rX4_keepsRound)
theorem mv_X4_keepsRound : aw_mV mX4_keepsRound 2 := ⟨⟨aw_in 384 (by decide +kernel) rfl, aw_in 1 (by decide +kernel) rfl, rfl, rfl, by decide, by decide, by decide +kernel⟩, aw_in 383 (by decide +kernel) rfl, aw_inS 7 (by decide +kernel) rfl⟩
def rX4_reconcile : Room := { frames := 6, cells := 0, slots := 0, locals := 137 }
def mX4_reconcile : aw_M := (yX4_reconcile, cX4_reconcile, 6, some .int, rX4_reconcile)
theorem mv_X4_reconcile : aw_mV mX4_reconcile 1 := ⟨⟨aw_in 374 (by decide +kernel) rfl, aw_in 1 (by decide +kernel) rfl, rfl, rfl, by decide, by decide, by decide +kernel⟩, aw_in 372 (by decide +kernel) rfl, aw_in 373 (by decide +kernel) rfl⟩
def rX4_trialRiftIsTold : Room := { frames := 5, cells := 0, slots := 0, locals := 115 }
def mX4_trialRiftIsTold : aw_M := (yX4_trialRiftIsTold, cX4_trialRiftIsTold, 6, some .boolean, rX4_trialRiftIsTold)
theorem mv_X4_trialRiftIsTold : aw_mV mX4_trialRiftIsTold 3 := ⟨⟨aw_in 400 (by decide +kernel) rfl, aw_in 1 (by decide +kernel) rfl, rfl, rfl, by decide, by decide, by decide +kernel⟩, aw_in 399 (by decide +kernel) rfl, aw_inS 8 (by decide +kernel) rfl⟩
def rX4_fits : Room := { frames := 6, cells := 0, slots := 0, locals := 140 }
def mX4_fits : aw_M := (yX4_fits, cX4_fits, 6, some .int, rX4_fits)
theorem mv_X4_fits : aw_mV mX4_fits 3 := ⟨⟨aw_in 392 (by decide +kernel) rfl, aw_in 1 (by decide +kernel) rfl, rfl, rfl, by decide, by decide, by decide +kernel⟩, aw_in 390 (by decide +kernel) rfl, aw_in 391 (by decide +kernel) rfl⟩
def rX4_trialHeatIsTold : Room := { frames := 5, cells := 0, slots := 0, locals := 115 }
def mX4_trialHeatIsTold : aw_M := (yX4_trialHeatIsTold, cX4_trialHeatIsTold, 5, some .boolean, rX4_trialHeatIsTold)
theorem mv_X4_trialHeatIsTold : aw_mV mX4_trialHeatIsTold 2 := ⟨⟨aw_in 412 (by decide +kernel) rfl, aw_in 1 (by decide +kernel) rfl, rfl, rfl, by decide, by decide, by decide +kernel⟩, aw_in 411 (by decide +kernel) rfl, aw_inS 9 (by decide +kernel) rfl⟩
def rX4_kinds : Room := { frames := 6, cells := 0, slots := 0, locals := 139 }
def mX4_kinds : aw_M := (yX4_kinds, cX4_kinds, 5, some .int, rX4_kinds)
theorem mv_X4_kinds : aw_mV mX4_kinds 2 := ⟨⟨aw_in 408 (by decide +kernel) rfl, aw_in 1 (by decide +kernel) rfl, rfl, rfl, by decide, by decide, by decide +kernel⟩, aw_in 406 (by decide +kernel) rfl, aw_in 407 (by decide +kernel) rfl⟩
def rX4_market : Room := { frames := 5, cells := 0, slots := 0, locals := 115 }
def mX4_market : aw_M := (yX4_market, cX4_market, 3, some .int, rX4_market)
theorem mv_X4_market : aw_mV mX4_market 1 := ⟨⟨aw_in 416 (by decide +kernel) rfl, aw_in 1 (by decide +kernel) rfl, rfl, rfl, by decide, by decide, by decide +kernel⟩, aw_in 414 (by decide +kernel) rfl, aw_in 415 (by decide +kernel) rfl⟩
def rX4_commonDivisor : Room := { frames := 1, cells := 0, slots := 0, locals := 21 }
def mX4_commonDivisor : aw_M := (yX4_commonDivisor, cX4_commonDivisor, 3, some .int, rX4_commonDivisor)
theorem ms_X4_commonDivisor : aw_mS mX4_commonDivisor 2 := ⟨⟨aw_in 436 (by decide +kernel) rfl, aw_in 1 (by decide +kernel) rfl, rfl, rfl, by decide, by decide, by decide +kernel⟩, aw_in 435 (by decide +kernel) rfl⟩
def rX4_power : Room := { frames := 0, cells := 0, slots := 0, locals := 0 }
def mX4_power : aw_M := (yX4_power, cX4_power, 5, some .long, rX4_power)
theorem ms_X4_power : aw_mS mX4_power 2 := ⟨⟨aw_in 440 (by decide +kernel) rfl, aw_in 1 (by decide +kernel) rfl, rfl, rfl, by decide, by decide, by decide +kernel⟩, aw_in 439 (by decide +kernel) rfl⟩
def rX4_odds : Room := { frames := 4, cells := 0, slots := 0, locals := 92 }
def mX4_odds : aw_M := (yX4_odds, cX4_odds, 8, some .long, rX4_odds)
theorem mv_X4_odds : aw_mV mX4_odds 4 := ⟨⟨aw_in 429 (by decide +kernel) rfl, aw_in 1 (by decide +kernel) rfl, rfl, rfl, by decide, by decide, by decide +kernel⟩, aw_in 427 (by decide +kernel) rfl, aw_in 428 (by decide +kernel) rfl⟩
def rX4_seed : Room := { frames := 0, cells := 0, slots := 0, locals := 0 }
def mX4_seed : aw_M := (yX4_seed, cX4_seed, 3, some .int, rX4_seed)
theorem mv_X4_seed : aw_mV mX4_seed 1 := ⟨⟨aw_in 444 (by decide +kernel) rfl, aw_in 1 (by decide +kernel) rfl, rfl, rfl, by decide, by decide, by decide +kernel⟩, aw_in 442 (by decide +kernel) rfl, aw_in 443 (by decide +kernel) rfl⟩
def rX4_feed : Room := { frames := 1, cells := 0, slots := 0, locals := 22 }
def mX4_feed : aw_M := (yX4_feed, cX4_feed, 4, some .int, rX4_feed)
theorem mv_X4_feed : aw_mV mX4_feed 2 := ⟨⟨aw_in 448 (by decide +kernel) rfl, aw_in 1 (by decide +kernel) rfl, rfl, rfl, by decide, by decide, by decide +kernel⟩, aw_in 446 (by decide +kernel) rfl, aw_in 447 (by decide +kernel) rfl⟩
def rX4_wipe : Room := { frames := 0, cells := 0, slots := 0, locals := 0 }
def mX4_wipe : aw_M := (yX4_wipe, cX4_wipe, 2, some .int, rX4_wipe)
theorem mv_X4_wipe : aw_mV mX4_wipe 0 := ⟨⟨aw_in 456 (by decide +kernel) rfl, aw_in 1 (by decide +kernel) rfl, rfl, rfl, by decide, by decide, by decide +kernel⟩, aw_in 454 (by decide +kernel) rfl, aw_in 455 (by decide +kernel) rfl⟩
def rX4_text : Room := { frames := 9, cells := 0, slots := 0, locals := 195 }
def mX4_text : aw_M := (yX4_text, cX4_text, 2, some .int, rX4_text)
theorem mv_X4_text : aw_mV mX4_text 0 := ⟨⟨aw_in 460 (by decide +kernel) rfl, aw_in 1 (by decide +kernel) rfl, rfl, rfl, by decide, by decide, by decide +kernel⟩, aw_in 458 (by decide +kernel) rfl, aw_in 459 (by decide +kernel) rfl⟩
def rX4_hold : Room := { frames := 1, cells := 0, slots := 0, locals := 22 }
def mX4_hold : aw_M := (yX4_hold, cX4_hold, 3, some .int, rX4_hold)
theorem mv_X4_hold : aw_mV mX4_hold 2 := ⟨⟨aw_in 615 (by decide +kernel) rfl, aw_in 1 (by decide +kernel) rfl, rfl, rfl, by decide, by decide, by decide +kernel⟩, aw_in 613 (by decide +kernel) rfl, aw_in 614 (by decide +kernel) rfl⟩
def rX4_isOrIsUnder : Room := { frames := 0, cells := 0, slots := 0, locals := 0 }
def mX4_isOrIsUnder : aw_M := (yX4_isOrIsUnder, cX4_isOrIsUnder, 4, some .boolean, rX4_isOrIsUnder)
theorem ms_X4_isOrIsUnder : aw_mS mX4_isOrIsUnder 2 := ⟨⟨aw_in 622 (by decide +kernel) rfl, aw_in 1 (by decide +kernel) rfl, rfl, rfl, by decide, by decide, by decide +kernel⟩, aw_in 621 (by decide +kernel) rfl⟩
def rX4_as : Room := { frames := 1, cells := 0, slots := 0, locals := 23 }
def mX4_as : aw_M := (yX4_as, cX4_as, 4, some .int, rX4_as)
theorem mv_X4_as : aw_mV mX4_as 2 := ⟨⟨aw_in 619 (by decide +kernel) rfl, aw_in 1 (by decide +kernel) rfl, rfl, rfl, by decide, by decide, by decide +kernel⟩, aw_in 617 (by decide +kernel) rfl, aw_in 618 (by decide +kernel) rfl⟩
def rX4_sheet : Room := { frames := 1, cells := 0, slots := 0, locals := 24 }
def mX4_sheet : aw_M := (yX4_sheet, cX4_sheet, 6, some .int, rX4_sheet)
theorem mv_X4_sheet : aw_mV mX4_sheet 3 := ⟨⟨aw_in 628 (by decide +kernel) rfl, aw_in 1 (by decide +kernel) rfl, rfl, rfl, by decide, by decide, by decide +kernel⟩, aw_in 626 (by decide +kernel) rfl, aw_in 627 (by decide +kernel) rfl⟩
def rX4_write : Room := { frames := 2, cells := 0, slots := 0, locals := 44 }
def mX4_write : aw_M := (yX4_write, cX4_write, 4, some .int, rX4_write)
theorem mv_X4_write : aw_mV mX4_write 3 := ⟨⟨aw_in 636 (by decide +kernel) rfl, aw_in 1 (by decide +kernel) rfl, rfl, rfl, by decide, by decide, by decide +kernel⟩, aw_in 634 (by decide +kernel) rfl, aw_in 635 (by decide +kernel) rfl⟩
def rX4_copy : Room := { frames := 2, cells := 0, slots := 0, locals := 51 }
def mX4_copy : aw_M := (yX4_copy, cX4_copy, 6, some .int, rX4_copy)
theorem mv_X4_copy : aw_mV mX4_copy 5 := ⟨⟨aw_in 647 (by decide +kernel) rfl, aw_in 1 (by decide +kernel) rfl, rfl, rfl, by decide, by decide, by decide +kernel⟩, aw_in 645 (by decide +kernel) rfl, aw_in 646 (by decide +kernel) rfl⟩
def rX4_load : Room := { frames := 1, cells := 0, slots := 0, locals := 22 }
def mX4_load : aw_M := (yX4_load, cX4_load, 5, some .int, rX4_load)
theorem mv_X4_load : aw_mV mX4_load 1 := ⟨⟨aw_in 660 (by decide +kernel) rfl, aw_in 1 (by decide +kernel) rfl, rfl, rfl, by decide, by decide, by decide +kernel⟩, aw_in 658 (by decide +kernel) rfl, aw_in 659 (by decide +kernel) rfl⟩
def rX4_judge : Room := { frames := 1, cells := 0, slots := 0, locals := 22 }
def mX4_judge : aw_M := (yX4_judge, cX4_judge, 3, some .int, rX4_judge)
theorem mv_X4_judge : aw_mV mX4_judge 1 := ⟨⟨aw_in 665 (by decide +kernel) rfl, aw_in 1 (by decide +kernel) rfl, rfl, rfl, by decide, by decide, by decide +kernel⟩, aw_in 663 (by decide +kernel) rfl, aw_in 664 (by decide +kernel) rfl⟩
def rX4_image : Room := { frames := 2, cells := 0, slots := 0, locals := 47 }
def mX4_image : aw_M := (yX4_image, cX4_image, 1, some .int, rX4_image)
theorem mv_X4_image : aw_mV mX4_image 0 := ⟨⟨aw_in 669 (by decide +kernel) rfl, aw_in 1 (by decide +kernel) rfl, rfl, rfl, by decide, by decide, by decide +kernel⟩, aw_in 667 (by decide +kernel) rfl, aw_in 668 (by decide +kernel) rfl⟩
def rX4_undo : Room := { frames := 2, cells := 0, slots := 0, locals := 47 }
def mX4_undo : aw_M := (yX4_undo, cX4_undo, 1, some .int, rX4_undo)
theorem mv_X4_undo : aw_mV mX4_undo 0 := ⟨⟨aw_in 673 (by decide +kernel) rfl, aw_in 1 (by decide +kernel) rfl, rfl, rfl, by decide, by decide, by decide +kernel⟩, aw_in 671 (by decide +kernel) rfl, aw_in 672 (by decide +kernel) rfl⟩
def rX4_tear : Room := { frames := 0, cells := 0, slots := 0, locals := 0 }
def mX4_tear : aw_M := (yX4_tear, cX4_tear, 2, some .int, rX4_tear)
theorem mv_X4_tear : aw_mV mX4_tear 0 := ⟨⟨aw_in 677 (by decide +kernel) rfl, aw_in 1 (by decide +kernel) rfl, rfl, rfl, by decide, by decide, by decide +kernel⟩, aw_in 675 (by decide +kernel) rfl, aw_in 676 (by decide +kernel) rfl⟩
def rX4_count : Room := { frames := 1, cells := 0, slots := 0, locals := 23 }
def mX4_count : aw_M := (yX4_count, cX4_count, 2, some .int, rX4_count)
theorem mv_X4_count : aw_mV mX4_count 1 := ⟨⟨aw_in 681 (by decide +kernel) rfl, aw_in 1 (by decide +kernel) rfl, rfl, rfl, by decide, by decide, by decide +kernel⟩, aw_in 679 (by decide +kernel) rfl, aw_in 680 (by decide +kernel) rfl⟩
def rX4_status : Room := { frames := 1, cells := 0, slots := 0, locals := 22 }
def mX4_status : aw_M := (yX4_status, cX4_status, 4, some .int, rX4_status)
theorem mv_X4_status : aw_mV mX4_status 1 := ⟨⟨aw_in 689 (by decide +kernel) rfl, aw_in 1 (by decide +kernel) rfl, rfl, rfl, by decide, by decide, by decide +kernel⟩, aw_in 687 (by decide +kernel) rfl, aw_in 688 (by decide +kernel) rfl⟩
def rX5_finds : Room := { frames := 0, cells := 0, slots := 0, locals := 0 }
def mX5_finds : aw_M := (yX5_finds, cX5_finds, 2, some .int, rX5_finds)
theorem mv_X5_finds : aw_mV mX5_finds 1 := ⟨⟨aw_in 763 (by decide +kernel) rfl, aw_in 7 (by decide +kernel) rfl, rfl, rfl, by decide, by decide, by decide +kernel⟩, aw_in 762 (by decide +kernel) rfl, aw_inS 29 (by decide +kernel) rfl⟩
def rX5_in : Room := { frames := 0, cells := 0, slots := 0, locals := 0 }
def mX5_in : aw_M := (yX5_in, cX5_in, 6, some .boolean, rX5_in)
theorem ms_X5_in : aw_mS mX5_in 3 := ⟨⟨aw_in 755 (by decide +kernel) rfl, aw_in 7 (by decide +kernel) rfl, rfl, rfl, by decide, by decide, by decide +kernel⟩, aw_in 754 (by decide +kernel) rfl⟩
def rX5_held : Room := { frames := 0, cells := 0, slots := 0, locals := 0 }
def mX5_held : aw_M := (yX5_held, cX5_held, 3, some .int, rX5_held)
theorem ms_X5_held : aw_mS mX5_held 3 := ⟨⟨aw_in 808 (by decide +kernel) rfl, aw_in 7 (by decide +kernel) rfl, rfl, rfl, by decide, by decide, by decide +kernel⟩, aw_in 807 (by decide +kernel) rfl⟩
def rX5_size : Room := { frames := 0, cells := 0, slots := 0, locals := 0 }
def mX5_size : aw_M := (yX5_size, cX5_size, 1, some .int, rX5_size)
theorem ms_X5_size : aw_mS mX5_size 1 := ⟨⟨aw_in 858 (by decide +kernel) rfl, aw_in 7 (by decide +kernel) rfl, rfl, rfl, by decide, by decide, by decide +kernel⟩, aw_in 857 (by decide +kernel) rfl⟩
def rX5_copies : Room := { frames := 0, cells := 0, slots := 0, locals := 0 }
def mX5_copies : aw_M := (yX5_copies, cX5_copies, 3, none, rX5_copies)
theorem ms_X5_copies : aw_mS mX5_copies 2 := ⟨⟨aw_in 912 (by decide +kernel) rfl, aw_in 7 (by decide +kernel) rfl, rfl, rfl, by decide, by decide, by decide +kernel⟩, aw_in 911 (by decide +kernel) rfl⟩
def rX5_isPotter : Room := { frames := 1, cells := 0, slots := 0, locals := 25 }
def mX5_isPotter : aw_M := (yX5_isPotter, cX5_isPotter, 2, some .boolean, rX5_isPotter)
theorem mv_X5_isPotter : aw_mV mX5_isPotter 1 := ⟨⟨aw_in 796 (by decide +kernel) rfl, aw_in 7 (by decide +kernel) rfl, rfl, rfl, by decide, by decide, by decide +kernel⟩, aw_in 795 (by decide +kernel) rfl, aw_inS 32 (by decide +kernel) rfl⟩
def rX5_areTwo : Room := { frames := 2, cells := 0, slots := 0, locals := 46 }
def mX5_areTwo : aw_M := (yX5_areTwo, cX5_areTwo, 3, some .boolean, rX5_areTwo)
theorem mv_X5_areTwo : aw_mV mX5_areTwo 2 := ⟨⟨aw_in 835 (by decide +kernel) rfl, aw_in 7 (by decide +kernel) rfl, rfl, rfl, by decide, by decide, by decide +kernel⟩, aw_in 834 (by decide +kernel) rfl, aw_inS 38 (by decide +kernel) rfl⟩
def rX5_its : Room := { frames := 0, cells := 0, slots := 0, locals := 0 }
def mX5_its : aw_M := (yX5_its, cX5_its, 3, some .int, rX5_its)
theorem mv_X5_its : aw_mV mX5_its 2 := ⟨⟨aw_in 805 (by decide +kernel) rfl, aw_in 7 (by decide +kernel) rfl, rfl, rfl, by decide, by decide, by decide +kernel⟩, aw_in 804 (by decide +kernel) rfl, aw_inS 34 (by decide +kernel) rfl⟩
def rX5_sets : Room := { frames := 0, cells := 0, slots := 0, locals := 0 }
def mX5_sets : aw_M := (yX5_sets, cX5_sets, 4, none, rX5_sets)
theorem mv_X5_sets : aw_mV mX5_sets 3 := ⟨⟨aw_in 788 (by decide +kernel) rfl, aw_in 7 (by decide +kernel) rfl, rfl, rfl, by decide, by decide, by decide +kernel⟩, aw_in 787 (by decide +kernel) rfl, aw_inS 31 (by decide +kernel) rfl⟩
def rX5_adds : Room := { frames := 1, cells := 0, slots := 0, locals := 22 }
def mX5_adds : aw_M := (yX5_adds, cX5_adds, 4, none, rX5_adds)
theorem mv_X5_adds : aw_mV mX5_adds 3 := ⟨⟨aw_in 888 (by decide +kernel) rfl, aw_in 7 (by decide +kernel) rfl, rfl, rfl, by decide, by decide, by decide +kernel⟩, aw_in 887 (by decide +kernel) rfl, aw_inS 47 (by decide +kernel) rfl⟩
def rX5_becomes : Room := { frames := 0, cells := 0, slots := 0, locals := 0 }
def mX5_becomes : aw_M := (yX5_becomes, cX5_becomes, 4, some .int, rX5_becomes)
theorem mv_X5_becomes : aw_mV mX5_becomes 2 := ⟨⟨aw_in 759 (by decide +kernel) rfl, aw_in 7 (by decide +kernel) rfl, rfl, rfl, by decide, by decide, by decide +kernel⟩, aw_in 758 (by decide +kernel) rfl, aw_inS 28 (by decide +kernel) rfl⟩
def rX5_ones : Room := { frames := 0, cells := 0, slots := 0, locals := 0 }
def mX5_ones : aw_M := (yX5_ones, cX5_ones, 3, some .int, rX5_ones)
theorem ms_X5_ones : aw_mS mX5_ones 1 := ⟨⟨aw_in 967 (by decide +kernel) rfl, aw_in 7 (by decide +kernel) rfl, rfl, rfl, by decide, by decide, by decide +kernel⟩, aw_in 966 (by decide +kernel) rfl⟩
def rX5_between : Room := { frames := 0, cells := 0, slots := 0, locals := 0 }
def mX5_between : aw_M := (yX5_between, cX5_between, 2, some .int, rX5_between)
theorem ms_X5_between : aw_mS mX5_between 2 := ⟨⟨aw_in 838 (by decide +kernel) rfl, aw_in 7 (by decide +kernel) rfl, rfl, rfl, by decide, by decide, by decide +kernel⟩, aw_in 837 (by decide +kernel) rfl⟩
def rX5_pushes : Room := { frames := 1, cells := 0, slots := 0, locals := 22 }
def mX5_pushes : aw_M := (yX5_pushes, cX5_pushes, 5, some .int, rX5_pushes)
theorem mv_X5_pushes : aw_mV mX5_pushes 1 := ⟨⟨aw_in 801 (by decide +kernel) rfl, aw_in 7 (by decide +kernel) rfl, rfl, rfl, by decide, by decide, by decide +kernel⟩, aw_in 800 (by decide +kernel) rfl, aw_inS 33 (by decide +kernel) rfl⟩
def rX5_says : Room := { frames := 1, cells := 0, slots := 0, locals := 22 }
def mX5_says : aw_M := (yX5_says, cX5_says, 3, some .int, rX5_says)
theorem mv_X5_says : aw_mV mX5_says 1 := ⟨⟨aw_in 812 (by decide +kernel) rfl, aw_in 7 (by decide +kernel) rfl, rfl, rfl, by decide, by decide, by decide +kernel⟩, aw_in 811 (by decide +kernel) rfl, aw_inS 35 (by decide +kernel) rfl⟩
def rX5_cools : Room := { frames := 1, cells := 0, slots := 0, locals := 22 }
def mX5_cools : aw_M := (yX5_cools, cX5_cools, 2, some .int, rX5_cools)
theorem mv_X5_cools : aw_mV mX5_cools 1 := ⟨⟨aw_in 816 (by decide +kernel) rfl, aw_in 7 (by decide +kernel) rfl, rfl, rfl, by decide, by decide, by decide +kernel⟩, aw_in 815 (by decide +kernel) rfl, aw_inS 36 (by decide +kernel) rfl⟩
def rX5_boils : Room := { frames := 1, cells := 0, slots := 0, locals := 22 }
def mX5_boils : aw_M := (yX5_boils, cX5_boils, 2, some .int, rX5_boils)
theorem mv_X5_boils : aw_mV mX5_boils 1 := ⟨⟨aw_in 820 (by decide +kernel) rfl, aw_in 7 (by decide +kernel) rfl, rfl, rfl, by decide, by decide, by decide +kernel⟩, aw_in 819 (by decide +kernel) rfl, aw_inS 37 (by decide +kernel) rfl⟩
def rX5_rises : Room := { frames := 1, cells := 0, slots := 0, locals := 21 }
def mX5_rises : aw_M := (yX5_rises, cX5_rises, 3, some .int, rX5_rises)
theorem mv_X5_rises : aw_mV mX5_rises 2 := ⟨⟨aw_in 847 (by decide +kernel) rfl, aw_in 7 (by decide +kernel) rfl, rfl, rfl, by decide, by decide, by decide +kernel⟩, aw_in 846 (by decide +kernel) rfl, aw_inS 39 (by decide +kernel) rfl⟩
def rX5_leans : Room := { frames := 2, cells := 0, slots := 0, locals := 46 }
def mX5_leans : aw_M := (yX5_leans, cX5_leans, 3, some .int, rX5_leans)
theorem mv_X5_leans : aw_mV mX5_leans 2 := ⟨⟨aw_in 851 (by decide +kernel) rfl, aw_in 7 (by decide +kernel) rfl, rfl, rfl, by decide, by decide, by decide +kernel⟩, aw_in 850 (by decide +kernel) rfl, aw_inS 40 (by decide +kernel) rfl⟩
def rX5_isFlop : Room := { frames := 3, cells := 0, slots := 0, locals := 68 }
def mX5_isFlop : aw_M := (yX5_isFlop, cX5_isFlop, 3, some .boolean, rX5_isFlop)
theorem mv_X5_isFlop : aw_mV mX5_isFlop 2 := ⟨⟨aw_in 855 (by decide +kernel) rfl, aw_in 7 (by decide +kernel) rfl, rfl, rfl, by decide, by decide, by decide +kernel⟩, aw_in 854 (by decide +kernel) rfl, aw_inS 41 (by decide +kernel) rfl⟩
def rX5_flops : Room := { frames := 2, cells := 0, slots := 0, locals := 45 }
def mX5_flops : aw_M := (yX5_flops, cX5_flops, 2, none, rX5_flops)
theorem mv_X5_flops : aw_mV mX5_flops 1 := ⟨⟨aw_in 884 (by decide +kernel) rfl, aw_in 7 (by decide +kernel) rfl, rfl, rfl, by decide, by decide, by decide +kernel⟩, aw_in 883 (by decide +kernel) rfl, aw_inS 46 (by decide +kernel) rfl⟩
def rX5_throwsOne : Room := { frames := 2, cells := 0, slots := 0, locals := 45 }
def mX5_throwsOne : aw_M := (yX5_throwsOne, cX5_throwsOne, 2, none, rX5_throwsOne)
theorem mv_X5_throwsOne : aw_mV mX5_throwsOne 1 := ⟨⟨aw_in 892 (by decide +kernel) rfl, aw_in 7 (by decide +kernel) rfl, rfl, rfl, by decide, by decide, by decide +kernel⟩, aw_in 891 (by decide +kernel) rfl, aw_inS 48 (by decide +kernel) rfl⟩
def rX5_pots : Room := { frames := 4, cells := 0, slots := 0, locals := 90 }
def mX5_pots : aw_M := (yX5_pots, cX5_pots, 6, none, rX5_pots)
theorem mv_X5_pots : aw_mV mX5_pots 2 := ⟨⟨aw_in 880 (by decide +kernel) rfl, aw_in 7 (by decide +kernel) rfl, rfl, rfl, by decide, by decide, by decide +kernel⟩, aw_in 879 (by decide +kernel) rfl, aw_inS 45 (by decide +kernel) rfl⟩
def rX5_todays : Room := { frames := 0, cells := 0, slots := 0, locals := 0 }
def mX5_todays : aw_M := (yX5_todays, cX5_todays, 1, some .int, rX5_todays)
theorem mv_X5_todays : aw_mV mX5_todays 0 := ⟨⟨aw_in 876 (by decide +kernel) rfl, aw_in 7 (by decide +kernel) rfl, rfl, rfl, by decide, by decide, by decide +kernel⟩, aw_in 875 (by decide +kernel) rfl, aw_inS 44 (by decide +kernel) rfl⟩
def rX5_dayGoes : Room := { frames := 5, cells := 0, slots := 0, locals := 115 }
def mX5_dayGoes : aw_M := (yX5_dayGoes, cX5_dayGoes, 4, none, rX5_dayGoes)
theorem mv_X5_dayGoes : aw_mV mX5_dayGoes 0 := ⟨⟨aw_in 872 (by decide +kernel) rfl, aw_in 7 (by decide +kernel) rfl, rfl, rfl, by decide, by decide, by decide +kernel⟩, aw_in 871 (by decide +kernel) rfl, aw_inS 43 (by decide +kernel) rfl⟩
def rX5_daysGo : Room := { frames := 6, cells := 0, slots := 0, locals := 138 }
def mX5_daysGo : aw_M := (yX5_daysGo, cX5_daysGo, 3, none, rX5_daysGo)
theorem mv_X5_daysGo : aw_mV mX5_daysGo 1 := ⟨⟨aw_in 868 (by decide +kernel) rfl, aw_in 7 (by decide +kernel) rfl, rfl, rfl, by decide, by decide, by decide +kernel⟩, aw_in 867 (by decide +kernel) rfl, aw_inS 42 (by decide +kernel) rfl⟩
def rX5_sumOf : Room := { frames := 1, cells := 0, slots := 0, locals := 22 }
def mX5_sumOf : aw_M := (yX5_sumOf, cX5_sumOf, 4, some .int, rX5_sumOf)
theorem mv_X5_sumOf : aw_mV mX5_sumOf 1 := ⟨⟨aw_in 900 (by decide +kernel) rfl, aw_in 7 (by decide +kernel) rfl, rfl, rfl, by decide, by decide, by decide +kernel⟩, aw_in 899 (by decide +kernel) rfl, aw_inS 49 (by decide +kernel) rfl⟩
def rX5_clay : Room := { frames := 1, cells := 0, slots := 0, locals := 25 }
def mX5_clay : aw_M := (yX5_clay, cX5_clay, 2, some .int, rX5_clay)
theorem mv_X5_clay : aw_mV mX5_clay 1 := ⟨⟨aw_in 751 (by decide +kernel) rfl, aw_in 7 (by decide +kernel) rfl, rfl, rfl, by decide, by decide, by decide +kernel⟩, aw_in 749 (by decide +kernel) rfl, aw_in 750 (by decide +kernel) rfl⟩
def rX5_pair : Room := { frames := 1, cells := 0, slots := 0, locals := 25 }
def mX5_pair : aw_M := (yX5_pair, cX5_pair, 4, some .int, rX5_pair)
theorem mv_X5_pair : aw_mV mX5_pair 3 := ⟨⟨aw_in 768 (by decide +kernel) rfl, aw_in 7 (by decide +kernel) rfl, rfl, rfl, by decide, by decide, by decide +kernel⟩, aw_in 766 (by decide +kernel) rfl, aw_in 767 (by decide +kernel) rfl⟩
def rX5_listed : Room := { frames := 1, cells := 0, slots := 0, locals := 25 }
def mX5_listed : aw_M := (yX5_listed, cX5_listed, 2, some .int, rX5_listed)
theorem mv_X5_listed : aw_mV mX5_listed 1 := ⟨⟨aw_in 774 (by decide +kernel) rfl, aw_in 7 (by decide +kernel) rfl, rfl, rfl, by decide, by decide, by decide +kernel⟩, aw_in 772 (by decide +kernel) rfl, aw_in 773 (by decide +kernel) rfl⟩
def rX5_comes : Room := { frames := 1, cells := 0, slots := 0, locals := 23 }
def mX5_comes : aw_M := (yX5_comes, cX5_comes, 5, some .int, rX5_comes)
theorem mv_X5_comes : aw_mV mX5_comes 2 := ⟨⟨aw_in 784 (by decide +kernel) rfl, aw_in 7 (by decide +kernel) rfl, rfl, rfl, by decide, by decide, by decide +kernel⟩, aw_in 783 (by decide +kernel) rfl, aw_inS 30 (by decide +kernel) rfl⟩
def rX5_potter : Room := { frames := 2, cells := 0, slots := 0, locals := 47 }
def mX5_potter : aw_M := (yX5_potter, cX5_potter, 3, some .int, rX5_potter)
theorem mv_X5_potter : aw_mV mX5_potter 2 := ⟨⟨aw_in 778 (by decide +kernel) rfl, aw_in 7 (by decide +kernel) rfl, rfl, rfl, by decide, by decide, by decide +kernel⟩, aw_in 776 (by decide +kernel) rfl, aw_in 777 (by decide +kernel) rfl⟩
def rX5_of : Room := { frames := 2, cells := 0, slots := 0, locals := 46 }
def mX5_of : aw_M := (yX5_of, cX5_of, 3, some .int, rX5_of)
theorem mv_X5_of : aw_mV mX5_of 2 := ⟨⟨aw_in 792 (by decide +kernel) rfl, aw_in 7 (by decide +kernel) rfl, rfl, rfl, by decide, by decide, by decide +kernel⟩, aw_in 790 (by decide +kernel) rfl, aw_in 791 (by decide +kernel) rfl⟩
def rX5_mostOf : Room := { frames := 0, cells := 0, slots := 0, locals := 0 }
def mX5_mostOf : aw_M := (yX5_mostOf, cX5_mostOf, 1, some .int, rX5_mostOf)
theorem ms_X5_mostOf : aw_mS mX5_mostOf 1 := ⟨⟨aw_in 827 (by decide +kernel) rfl, aw_in 7 (by decide +kernel) rfl, rfl, rfl, by decide, by decide, by decide +kernel⟩, aw_in 826 (by decide +kernel) rfl⟩
def rX5_change : Room := { frames := 2, cells := 0, slots := 0, locals := 46 }
def mX5_change : aw_M := (yX5_change, cX5_change, 4, some .int, rX5_change)
theorem mv_X5_change : aw_mV mX5_change 3 := ⟨⟨aw_in 824 (by decide +kernel) rfl, aw_in 7 (by decide +kernel) rfl, rfl, rfl, by decide, by decide, by decide +kernel⟩, aw_in 822 (by decide +kernel) rfl, aw_in 823 (by decide +kernel) rfl⟩
def rX5_rift : Room := { frames := 3, cells := 0, slots := 0, locals := 68 }
def mX5_rift : aw_M := (yX5_rift, cX5_rift, 4, some .int, rX5_rift)
theorem mv_X5_rift : aw_mV mX5_rift 3 := ⟨⟨aw_in 831 (by decide +kernel) rfl, aw_in 7 (by decide +kernel) rfl, rfl, rfl, by decide, by decide, by decide +kernel⟩, aw_in 829 (by decide +kernel) rfl, aw_in 830 (by decide +kernel) rfl⟩
def rX5_two : Room := { frames := 4, cells := 0, slots := 0, locals := 90 }
def mX5_two : aw_M := (yX5_two, cX5_two, 4, some .int, rX5_two)
theorem mv_X5_two : aw_mV mX5_two 3 := ⟨⟨aw_in 842 (by decide +kernel) rfl, aw_in 7 (by decide +kernel) rfl, rfl, rfl, by decide, by decide, by decide +kernel⟩, aw_in 840 (by decide +kernel) rfl, aw_in 841 (by decide +kernel) rfl⟩
def rX5_go : Room := { frames := 7, cells := 0, slots := 0, locals := 160 }
def mX5_go : aw_M := (yX5_go, cX5_go, 2, some .int, rX5_go)
theorem mv_X5_go : aw_mV mX5_go 1 := ⟨⟨aw_in 862 (by decide +kernel) rfl, aw_in 7 (by decide +kernel) rfl, rfl, rfl, by decide, by decide, by decide +kernel⟩, aw_in 860 (by decide +kernel) rfl, aw_in 861 (by decide +kernel) rfl⟩
def rX5_farthest : Room := { frames := 0, cells := 0, slots := 0, locals := 0 }
def mX5_farthest : aw_M := (yX5_farthest, cX5_farthest, 4, some .int, rX5_farthest)
theorem mv_X5_farthest : aw_mV mX5_farthest 0 := ⟨⟨aw_in 904 (by decide +kernel) rfl, aw_in 7 (by decide +kernel) rfl, rfl, rfl, by decide, by decide, by decide +kernel⟩, aw_in 903 (by decide +kernel) rfl, aw_inS 50 (by decide +kernel) rfl⟩
def rX5_now : Room := { frames := 3, cells := 0, slots := 0, locals := 68 }
def mX5_now : aw_M := (yX5_now, cX5_now, 2, some .int, rX5_now)
theorem mv_X5_now : aw_mV mX5_now 1 := ⟨⟨aw_in 896 (by decide +kernel) rfl, aw_in 7 (by decide +kernel) rfl, rfl, rfl, by decide, by decide, by decide +kernel⟩, aw_in 894 (by decide +kernel) rfl, aw_in 895 (by decide +kernel) rfl⟩
def rX5_behind : Room := { frames := 7, cells := 0, slots := 0, locals := 160 }
def mX5_behind : aw_M := (yX5_behind, cX5_behind, 4, some .int, rX5_behind)
theorem mv_X5_behind : aw_mV mX5_behind 2 := ⟨⟨aw_in 920 (by decide +kernel) rfl, aw_in 7 (by decide +kernel) rfl, rfl, rfl, by decide, by decide, by decide +kernel⟩, aw_in 919 (by decide +kernel) rfl, aw_inS 51 (by decide +kernel) rfl⟩
def rX5_ahead : Room := { frames := 7, cells := 0, slots := 0, locals := 160 }
def mX5_ahead : aw_M := (yX5_ahead, cX5_ahead, 5, some .int, rX5_ahead)
theorem mv_X5_ahead : aw_mV mX5_ahead 3 := ⟨⟨aw_in 908 (by decide +kernel) rfl, aw_in 7 (by decide +kernel) rfl, rfl, rfl, by decide, by decide, by decide +kernel⟩, aw_in 906 (by decide +kernel) rfl, aw_in 907 (by decide +kernel) rfl⟩
def rX5_terms : Room := { frames := 8, cells := 0, slots := 0, locals := 183 }
def mX5_terms : aw_M := (yX5_terms, cX5_terms, 4, some .int, rX5_terms)
theorem mv_X5_terms : aw_mV mX5_terms 3 := ⟨⟨aw_in 916 (by decide +kernel) rfl, aw_in 7 (by decide +kernel) rfl, rfl, rfl, by decide, by decide, by decide +kernel⟩, aw_in 914 (by decide +kernel) rfl, aw_in 915 (by decide +kernel) rfl⟩
def rX5_firstOf : Room := { frames := 6, cells := 0, slots := 0, locals := 138 }
def mX5_firstOf : aw_M := (yX5_firstOf, cX5_firstOf, 6, some .int, rX5_firstOf)
theorem mv_X5_firstOf : aw_mV mX5_firstOf 3 := ⟨⟨aw_in 928 (by decide +kernel) rfl, aw_in 7 (by decide +kernel) rfl, rfl, rfl, by decide, by decide, by decide +kernel⟩, aw_in 927 (by decide +kernel) rfl, aw_inS 52 (by decide +kernel) rfl⟩
def rX5_next : Room := { frames := 7, cells := 0, slots := 0, locals := 163 }
def mX5_next : aw_M := (yX5_next, cX5_next, 2, some .int, rX5_next)
theorem mv_X5_next : aw_mV mX5_next 1 := ⟨⟨aw_in 924 (by decide +kernel) rfl, aw_in 7 (by decide +kernel) rfl, rfl, rfl, by decide, by decide, by decide +kernel⟩, aw_in 922 (by decide +kernel) rfl, aw_in 923 (by decide +kernel) rfl⟩
def rX5_peace : Room := { frames := 7, cells := 0, slots := 0, locals := 163 }
def mX5_peace : aw_M := (yX5_peace, cX5_peace, 4, some .int, rX5_peace)
theorem mv_X5_peace : aw_mV mX5_peace 3 := ⟨⟨aw_in 932 (by decide +kernel) rfl, aw_in 7 (by decide +kernel) rfl, rfl, rfl, by decide, by decide, by decide +kernel⟩, aw_in 930 (by decide +kernel) rfl, aw_in 931 (by decide +kernel) rfl⟩
def rX5_when : Room := { frames := 7, cells := 0, slots := 0, locals := 163 }
def mX5_when : aw_M := (yX5_when, cX5_when, 3, some .int, rX5_when)
theorem mv_X5_when : aw_mV mX5_when 2 := ⟨⟨aw_in 936 (by decide +kernel) rfl, aw_in 7 (by decide +kernel) rfl, rfl, rfl, by decide, by decide, by decide +kernel⟩, aw_in 934 (by decide +kernel) rfl, aw_in 935 (by decide +kernel) rfl⟩
def rX5_isShort : Room := { frames := 1, cells := 0, slots := 0, locals := 25 }
def mX5_isShort : aw_M := (yX5_isShort, cX5_isShort, 1, some .boolean, rX5_isShort)
theorem ms_X5_isShort : aw_mS mX5_isShort 1 := ⟨⟨aw_in 944 (by decide +kernel) rfl, aw_in 7 (by decide +kernel) rfl, rfl, rfl, by decide, by decide, by decide +kernel⟩, aw_in 943 (by decide +kernel) rfl⟩
def rX5_setWith : Room := { frames := 8, cells := 0, slots := 0, locals := 183 }
def mX5_setWith : aw_M := (yX5_setWith, cX5_setWith, 8, some .int, rX5_setWith)
theorem mv_X5_setWith : aw_mV mX5_setWith 3 := ⟨⟨aw_in 941 (by decide +kernel) rfl, aw_in 7 (by decide +kernel) rfl, rfl, rfl, by decide, by decide, by decide +kernel⟩, aw_in 939 (by decide +kernel) rfl, aw_in 940 (by decide +kernel) rfl⟩
def rX5_bestOf : Room := { frames := 8, cells := 0, slots := 0, locals := 183 }
def mX5_bestOf : aw_M := (yX5_bestOf, cX5_bestOf, 8, some .int, rX5_bestOf)
theorem mv_X5_bestOf : aw_mV mX5_bestOf 3 := ⟨⟨aw_in 952 (by decide +kernel) rfl, aw_in 7 (by decide +kernel) rfl, rfl, rfl, by decide, by decide, by decide +kernel⟩, aw_in 951 (by decide +kernel) rfl, aw_inS 53 (by decide +kernel) rfl⟩
def rX5_heatFor : Room := { frames := 9, cells := 0, slots := 0, locals := 210 }
def mX5_heatFor : aw_M := (yX5_heatFor, cX5_heatFor, 3, some .int, rX5_heatFor)
theorem mv_X5_heatFor : aw_mV mX5_heatFor 2 := ⟨⟨aw_in 948 (by decide +kernel) rfl, aw_in 7 (by decide +kernel) rfl, rfl, rfl, by decide, by decide, by decide +kernel⟩, aw_in 946 (by decide +kernel) rfl, aw_in 947 (by decide +kernel) rfl⟩
def rX5_kindFor : Room := { frames := 9, cells := 0, slots := 0, locals := 210 }
def mX5_kindFor : aw_M := (yX5_kindFor, cX5_kindFor, 3, some .int, rX5_kindFor)
theorem mv_X5_kindFor : aw_mV mX5_kindFor 2 := ⟨⟨aw_in 956 (by decide +kernel) rfl, aw_in 7 (by decide +kernel) rfl, rfl, rfl, by decide, by decide, by decide +kernel⟩, aw_in 954 (by decide +kernel) rfl, aw_in 955 (by decide +kernel) rfl⟩
def rX5_clayFor : Room := { frames := 8, cells := 0, slots := 0, locals := 183 }
def mX5_clayFor : aw_M := (yX5_clayFor, cX5_clayFor, 4, some .int, rX5_clayFor)
theorem mv_X5_clayFor : aw_mV mX5_clayFor 2 := ⟨⟨aw_in 960 (by decide +kernel) rfl, aw_in 7 (by decide +kernel) rfl, rfl, rfl, by decide, by decide, by decide +kernel⟩, aw_in 958 (by decide +kernel) rfl, aw_in 959 (by decide +kernel) rfl⟩
def rX5_reconciles : Room := { frames := 0, cells := 0, slots := 0, locals := 0 }
def mX5_reconciles : aw_M := (yX5_reconciles, cX5_reconciles, 4, none, rX5_reconciles)
theorem mv_X5_reconciles : aw_mV mX5_reconciles 1 := ⟨⟨aw_in 971 (by decide +kernel) rfl, aw_in 7 (by decide +kernel) rfl, rfl, rfl, by decide, by decide, by decide +kernel⟩, aw_in 970 (by decide +kernel) rfl, aw_inS 54 (by decide +kernel) rfl⟩
def rX5_reconcile : Room := { frames := 8, cells := 0, slots := 0, locals := 183 }
def mX5_reconcile : aw_M := (yX5_reconcile, cX5_reconcile, 4, some .int, rX5_reconcile)
theorem mv_X5_reconcile : aw_mV mX5_reconcile 1 := ⟨⟨aw_in 964 (by decide +kernel) rfl, aw_in 7 (by decide +kernel) rfl, rfl, rfl, by decide, by decide, by decide +kernel⟩, aw_in 962 (by decide +kernel) rfl, aw_in 963 (by decide +kernel) rfl⟩
def rX5_fitting : Room := { frames := 6, cells := 0, slots := 0, locals := 138 }
def mX5_fitting : aw_M := (yX5_fitting, cX5_fitting, 12, some .int, rX5_fitting)
theorem mv_X5_fitting : aw_mV mX5_fitting 5 := ⟨⟨aw_in 986 (by decide +kernel) rfl, aw_in 7 (by decide +kernel) rfl, rfl, rfl, by decide, by decide, by decide +kernel⟩, aw_in 985 (by decide +kernel) rfl, aw_inS 56 (by decide +kernel) rfl⟩
def rX5_isSheet : Room := { frames := 1, cells := 0, slots := 0, locals := 25 }
def mX5_isSheet : aw_M := (yX5_isSheet, cX5_isSheet, 1, some .boolean, rX5_isSheet)
theorem ms_X5_isSheet : aw_mS mX5_isSheet 1 := ⟨⟨aw_in 982 (by decide +kernel) rfl, aw_in 7 (by decide +kernel) rfl, rfl, rfl, by decide, by decide, by decide +kernel⟩, aw_in 981 (by decide +kernel) rfl⟩
def rX5_whyNone : Room := { frames := 2, cells := 0, slots := 0, locals := 45 }
def mX5_whyNone : aw_M := (yX5_whyNone, cX5_whyNone, 2, some .int, rX5_whyNone)
theorem mv_X5_whyNone : aw_mV mX5_whyNone 1 := ⟨⟨aw_in 979 (by decide +kernel) rfl, aw_in 7 (by decide +kernel) rfl, rfl, rfl, by decide, by decide, by decide +kernel⟩, aw_in 978 (by decide +kernel) rfl, aw_inS 55 (by decide +kernel) rfl⟩
def rX5_fits : Room := { frames := 7, cells := 0, slots := 0, locals := 169 }
def mX5_fits : aw_M := (yX5_fits, cX5_fits, 5, some .int, rX5_fits)
theorem mv_X5_fits : aw_mV mX5_fits 3 := ⟨⟨aw_in 975 (by decide +kernel) rfl, aw_in 7 (by decide +kernel) rfl, rfl, rfl, by decide, by decide, by decide +kernel⟩, aw_in 973 (by decide +kernel) rfl, aw_in 974 (by decide +kernel) rfl⟩
def rX5_kinds : Room := { frames := 7, cells := 0, slots := 0, locals := 169 }
def mX5_kinds : aw_M := (yX5_kinds, cX5_kinds, 4, some .int, rX5_kinds)
theorem mv_X5_kinds : aw_mV mX5_kinds 2 := ⟨⟨aw_in 990 (by decide +kernel) rfl, aw_in 7 (by decide +kernel) rfl, rfl, rfl, by decide, by decide, by decide +kernel⟩, aw_in 988 (by decide +kernel) rfl, aw_in 989 (by decide +kernel) rfl⟩
def rX5_draw : Room := { frames := 0, cells := 0, slots := 0, locals := 0 }
def mX5_draw : aw_M := (yX5_draw, cX5_draw, 1, some .int, rX5_draw)
theorem mv_X5_draw : aw_mV mX5_draw 0 := ⟨⟨aw_in 998 (by decide +kernel) rfl, aw_in 7 (by decide +kernel) rfl, rfl, rfl, by decide, by decide, by decide +kernel⟩, aw_in 997 (by decide +kernel) rfl, aw_inS 57 (by decide +kernel) rfl⟩
def rX5_market : Room := { frames := 6, cells := 0, slots := 0, locals := 138 }
def mX5_market : aw_M := (yX5_market, cX5_market, 5, some .int, rX5_market)
theorem mv_X5_market : aw_mV mX5_market 1 := ⟨⟨aw_in 994 (by decide +kernel) rfl, aw_in 7 (by decide +kernel) rfl, rfl, rfl, by decide, by decide, by decide +kernel⟩, aw_in 992 (by decide +kernel) rfl, aw_in 993 (by decide +kernel) rfl⟩
def rX5_common : Room := { frames := 0, cells := 0, slots := 0, locals := 0 }
def mX5_common : aw_M := (yX5_common, cX5_common, 5, some .int, rX5_common)
theorem ms_X5_common : aw_mS mX5_common 2 := ⟨⟨aw_in 1007 (by decide +kernel) rfl, aw_in 7 (by decide +kernel) rfl, rfl, rfl, by decide, by decide, by decide +kernel⟩, aw_in 1006 (by decide +kernel) rfl⟩
def rX5_odds : Room := { frames := 4, cells := 0, slots := 0, locals := 90 }
def mX5_odds : aw_M := (yX5_odds, cX5_odds, 11, some .long, rX5_odds)
theorem mv_X5_odds : aw_mV mX5_odds 4 := ⟨⟨aw_in 1003 (by decide +kernel) rfl, aw_in 7 (by decide +kernel) rfl, rfl, rfl, by decide, by decide, by decide +kernel⟩, aw_in 1001 (by decide +kernel) rfl, aw_in 1002 (by decide +kernel) rfl⟩
def rX5_seed : Room := { frames := 1, cells := 0, slots := 0, locals := 23 }
def mX5_seed : aw_M := (yX5_seed, cX5_seed, 2, some .int, rX5_seed)
theorem mv_X5_seed : aw_mV mX5_seed 1 := ⟨⟨aw_in 1011 (by decide +kernel) rfl, aw_in 7 (by decide +kernel) rfl, rfl, rfl, by decide, by decide, by decide +kernel⟩, aw_in 1009 (by decide +kernel) rfl, aw_in 1010 (by decide +kernel) rfl⟩
def rX5_feed : Room := { frames := 1, cells := 0, slots := 0, locals := 25 }
def mX5_feed : aw_M := (yX5_feed, cX5_feed, 4, some .int, rX5_feed)
theorem mv_X5_feed : aw_mV mX5_feed 2 := ⟨⟨aw_in 1015 (by decide +kernel) rfl, aw_in 7 (by decide +kernel) rfl, rfl, rfl, by decide, by decide, by decide +kernel⟩, aw_in 1013 (by decide +kernel) rfl, aw_in 1014 (by decide +kernel) rfl⟩
def rX5_wipe : Room := { frames := 0, cells := 0, slots := 0, locals := 0 }
def mX5_wipe : aw_M := (yX5_wipe, cX5_wipe, 2, some .int, rX5_wipe)
theorem mv_X5_wipe : aw_mV mX5_wipe 0 := ⟨⟨aw_in 1020 (by decide +kernel) rfl, aw_in 7 (by decide +kernel) rfl, rfl, rfl, by decide, by decide, by decide +kernel⟩, aw_in 1018 (by decide +kernel) rfl, aw_in 1019 (by decide +kernel) rfl⟩
def rX5_letter : Room := { frames := 0, cells := 0, slots := 0, locals := 0 }
def mX5_letter : aw_M := (yX5_letter, cX5_letter, 1, some .int, rX5_letter)
theorem ms_X5_letter : aw_mS mX5_letter 1 := ⟨⟨aw_in 1039 (by decide +kernel) rfl, aw_in 7 (by decide +kernel) rfl, rfl, rfl, by decide, by decide, by decide +kernel⟩, aw_in 1038 (by decide +kernel) rfl⟩
def rX5_isDigit : Room := { frames := 0, cells := 0, slots := 0, locals := 0 }
def mX5_isDigit : aw_M := (yX5_isDigit, cX5_isDigit, 1, some .boolean, rX5_isDigit)
theorem ms_X5_isDigit : aw_mS mX5_isDigit 1 := ⟨⟨aw_in 1044 (by decide +kernel) rfl, aw_in 7 (by decide +kernel) rfl, rfl, rfl, by decide, by decide, by decide +kernel⟩, aw_in 1043 (by decide +kernel) rfl⟩
def rX5_byteAt : Room := { frames := 0, cells := 0, slots := 0, locals := 0 }
def mX5_byteAt : aw_M := (yX5_byteAt, cX5_byteAt, 2, some .int, rX5_byteAt)
theorem mv_X5_byteAt : aw_mV mX5_byteAt 1 := ⟨⟨aw_in 1036 (by decide +kernel) rfl, aw_in 7 (by decide +kernel) rfl, rfl, rfl, by decide, by decide, by decide +kernel⟩, aw_in 1035 (by decide +kernel) rfl, aw_inS 60 (by decide +kernel) rfl⟩
def rX5_next_ : Room := { frames := 1, cells := 0, slots := 0, locals := 21 }
def mX5_next_ : aw_M := (yX5_next_, cX5_next_, 2, none, rX5_next_)
theorem mv_X5_next_ : aw_mV mX5_next_ 0 := ⟨⟨aw_in 1032 (by decide +kernel) rfl, aw_in 7 (by decide +kernel) rfl, rfl, rfl, by decide, by decide, by decide +kernel⟩, aw_in 1031 (by decide +kernel) rfl, aw_inS 59 (by decide +kernel) rfl⟩
def rX5_wrongHere : Room := { frames := 0, cells := 0, slots := 0, locals := 0 }
def mX5_wrongHere : aw_M := (yX5_wrongHere, cX5_wrongHere, 1, none, rX5_wrongHere)
theorem mv_X5_wrongHere : aw_mV mX5_wrongHere 0 := ⟨⟨aw_in 1074 (by decide +kernel) rfl, aw_in 7 (by decide +kernel) rfl, rfl, rfl, by decide, by decide, by decide +kernel⟩, aw_in 1073 (by decide +kernel) rfl, aw_inS 65 (by decide +kernel) rfl⟩
def rX5_isWord : Room := { frames := 0, cells := 0, slots := 0, locals := 0 }
def mX5_isWord : aw_M := (yX5_isWord, cX5_isWord, 3, some .boolean, rX5_isWord)
theorem mv_X5_isWord : aw_mV mX5_isWord 1 := ⟨⟨aw_in 1060 (by decide +kernel) rfl, aw_in 7 (by decide +kernel) rfl, rfl, rfl, by decide, by decide, by decide +kernel⟩, aw_in 1059 (by decide +kernel) rfl, aw_inS 63 (by decide +kernel) rfl⟩
def rX5_kindHere : Room := { frames := 1, cells := 0, slots := 0, locals := 22 }
def mX5_kindHere : aw_M := (yX5_kindHere, cX5_kindHere, 1, some .int, rX5_kindHere)
theorem mv_X5_kindHere : aw_mV mX5_kindHere 0 := ⟨⟨aw_in 1055 (by decide +kernel) rfl, aw_in 7 (by decide +kernel) rfl, rfl, rfl, by decide, by decide, by decide +kernel⟩, aw_in 1054 (by decide +kernel) rfl, aw_inS 62 (by decide +kernel) rfl⟩
def rX5_numberHere : Room := { frames := 2, cells := 0, slots := 0, locals := 42 }
def mX5_numberHere : aw_M := (yX5_numberHere, cX5_numberHere, 5, some .int, rX5_numberHere)
theorem mv_X5_numberHere : aw_mV mX5_numberHere 3 := ⟨⟨aw_in 1083 (by decide +kernel) rfl, aw_in 7 (by decide +kernel) rfl, rfl, rfl, by decide, by decide, by decide +kernel⟩, aw_in 1082 (by decide +kernel) rfl, aw_inS 67 (by decide +kernel) rfl⟩
def rX5_perhaps : Room := { frames := 3, cells := 0, slots := 0, locals := 66 }
def mX5_perhaps : aw_M := (yX5_perhaps, cX5_perhaps, 6, none, rX5_perhaps)
theorem mv_X5_perhaps : aw_mV mX5_perhaps 3 := ⟨⟨aw_in 1079 (by decide +kernel) rfl, aw_in 7 (by decide +kernel) rfl, rfl, rfl, by decide, by decide, by decide +kernel⟩, aw_in 1078 (by decide +kernel) rfl, aw_inS 66 (by decide +kernel) rfl⟩
def rX5_potterHere : Room := { frames := 4, cells := 0, slots := 0, locals := 91 }
def mX5_potterHere : aw_M := (yX5_potterHere, cX5_potterHere, 3, none, rX5_potterHere)
theorem mv_X5_potterHere : aw_mV mX5_potterHere 1 := ⟨⟨aw_in 1070 (by decide +kernel) rfl, aw_in 7 (by decide +kernel) rfl, rfl, rfl, by decide, by decide, by decide +kernel⟩, aw_in 1069 (by decide +kernel) rfl, aw_inS 64 (by decide +kernel) rfl⟩
def rX5_riftHere : Room := { frames := 3, cells := 0, slots := 0, locals := 66 }
def mX5_riftHere : aw_M := (yX5_riftHere, cX5_riftHere, 4, none, rX5_riftHere)
theorem mv_X5_riftHere : aw_mV mX5_riftHere 0 := ⟨⟨aw_in 1090 (by decide +kernel) rfl, aw_in 7 (by decide +kernel) rfl, rfl, rfl, by decide, by decide, by decide +kernel⟩, aw_in 1089 (by decide +kernel) rfl, aw_inS 68 (by decide +kernel) rfl⟩
def rX5_pairHere : Room := { frames := 3, cells := 0, slots := 0, locals := 66 }
def mX5_pairHere : aw_M := (yX5_pairHere, cX5_pairHere, 4, none, rX5_pairHere)
theorem mv_X5_pairHere : aw_mV mX5_pairHere 0 := ⟨⟨aw_in 1095 (by decide +kernel) rfl, aw_in 7 (by decide +kernel) rfl, rfl, rfl, by decide, by decide, by decide +kernel⟩, aw_in 1094 (by decide +kernel) rfl, aw_inS 69 (by decide +kernel) rfl⟩
def rX5_item : Room := { frames := 5, cells := 0, slots := 0, locals := 113 }
def mX5_item : aw_M := (yX5_item, cX5_item, 2, none, rX5_item)
theorem mv_X5_item : aw_mV mX5_item 0 := ⟨⟨aw_in 1051 (by decide +kernel) rfl, aw_in 7 (by decide +kernel) rfl, rfl, rfl, by decide, by decide, by decide +kernel⟩, aw_in 1050 (by decide +kernel) rfl, aw_inS 61 (by decide +kernel) rfl⟩
def rX5_items : Room := { frames := 6, cells := 0, slots := 0, locals := 134 }
def mX5_items : aw_M := (yX5_items, cX5_items, 2, some .int, rX5_items)
theorem mv_X5_items : aw_mV mX5_items 0 := ⟨⟨aw_in 1028 (by decide +kernel) rfl, aw_in 7 (by decide +kernel) rfl, rfl, rfl, by decide, by decide, by decide +kernel⟩, aw_in 1027 (by decide +kernel) rfl, aw_inS 58 (by decide +kernel) rfl⟩
def rX5_text : Room := { frames := 7, cells := 0, slots := 0, locals := 155 }
def mX5_text : aw_M := (yX5_text, cX5_text, 2, some .int, rX5_text)
theorem mv_X5_text : aw_mV mX5_text 0 := ⟨⟨aw_in 1024 (by decide +kernel) rfl, aw_in 7 (by decide +kernel) rfl, rfl, rfl, by decide, by decide, by decide +kernel⟩, aw_in 1022 (by decide +kernel) rfl, aw_in 1023 (by decide +kernel) rfl⟩
def rX5_hold : Room := { frames := 1, cells := 0, slots := 0, locals := 25 }
def mX5_hold : aw_M := (yX5_hold, cX5_hold, 3, some .int, rX5_hold)
theorem mv_X5_hold : aw_mV mX5_hold 2 := ⟨⟨aw_in 1100 (by decide +kernel) rfl, aw_in 7 (by decide +kernel) rfl, rfl, rfl, by decide, by decide, by decide +kernel⟩, aw_in 1098 (by decide +kernel) rfl, aw_in 1099 (by decide +kernel) rfl⟩
def rX5_above : Room := { frames := 0, cells := 0, slots := 0, locals := 0 }
def mX5_above : aw_M := (yX5_above, cX5_above, 1, some .int, rX5_above)
theorem ms_X5_above : aw_mS mX5_above 1 := ⟨⟨aw_in 1108 (by decide +kernel) rfl, aw_in 7 (by decide +kernel) rfl, rfl, rfl, by decide, by decide, by decide +kernel⟩, aw_in 1107 (by decide +kernel) rfl⟩
def rX5_as : Room := { frames := 1, cells := 0, slots := 0, locals := 25 }
def mX5_as : aw_M := (yX5_as, cX5_as, 5, some .int, rX5_as)
theorem mv_X5_as : aw_mV mX5_as 2 := ⟨⟨aw_in 1105 (by decide +kernel) rfl, aw_in 7 (by decide +kernel) rfl, rfl, rfl, by decide, by decide, by decide +kernel⟩, aw_in 1103 (by decide +kernel) rfl, aw_in 1104 (by decide +kernel) rfl⟩
def rX5_sheet : Room := { frames := 2, cells := 0, slots := 0, locals := 45 }
def mX5_sheet : aw_M := (yX5_sheet, cX5_sheet, 5, some .int, rX5_sheet)
theorem mv_X5_sheet : aw_mV mX5_sheet 3 := ⟨⟨aw_in 1112 (by decide +kernel) rfl, aw_in 7 (by decide +kernel) rfl, rfl, rfl, by decide, by decide, by decide +kernel⟩, aw_in 1110 (by decide +kernel) rfl, aw_in 1111 (by decide +kernel) rfl⟩
def rX5_write : Room := { frames := 3, cells := 0, slots := 0, locals := 66 }
def mX5_write : aw_M := (yX5_write, cX5_write, 5, some .int, rX5_write)
theorem mv_X5_write : aw_mV mX5_write 3 := ⟨⟨aw_in 1116 (by decide +kernel) rfl, aw_in 7 (by decide +kernel) rfl, rfl, rfl, by decide, by decide, by decide +kernel⟩, aw_in 1114 (by decide +kernel) rfl, aw_in 1115 (by decide +kernel) rfl⟩
def rX5_copy : Room := { frames := 2, cells := 0, slots := 0, locals := 45 }
def mX5_copy : aw_M := (yX5_copy, cX5_copy, 7, some .int, rX5_copy)
theorem mv_X5_copy : aw_mV mX5_copy 5 := ⟨⟨aw_in 1120 (by decide +kernel) rfl, aw_in 7 (by decide +kernel) rfl, rfl, rfl, by decide, by decide, by decide +kernel⟩, aw_in 1118 (by decide +kernel) rfl, aw_in 1119 (by decide +kernel) rfl⟩
def rX5_load : Room := { frames := 3, cells := 0, slots := 0, locals := 66 }
def mX5_load : aw_M := (yX5_load, cX5_load, 4, some .int, rX5_load)
theorem mv_X5_load : aw_mV mX5_load 1 := ⟨⟨aw_in 1124 (by decide +kernel) rfl, aw_in 7 (by decide +kernel) rfl, rfl, rfl, by decide, by decide, by decide +kernel⟩, aw_in 1122 (by decide +kernel) rfl, aw_in 1123 (by decide +kernel) rfl⟩
def rX5_judge : Room := { frames := 3, cells := 0, slots := 0, locals := 66 }
def mX5_judge : aw_M := (yX5_judge, cX5_judge, 4, some .int, rX5_judge)
theorem mv_X5_judge : aw_mV mX5_judge 1 := ⟨⟨aw_in 1128 (by decide +kernel) rfl, aw_in 7 (by decide +kernel) rfl, rfl, rfl, by decide, by decide, by decide +kernel⟩, aw_in 1126 (by decide +kernel) rfl, aw_in 1127 (by decide +kernel) rfl⟩
def rX5_image : Room := { frames := 1, cells := 0, slots := 0, locals := 22 }
def mX5_image : aw_M := (yX5_image, cX5_image, 1, some .int, rX5_image)
theorem mv_X5_image : aw_mV mX5_image 0 := ⟨⟨aw_in 1132 (by decide +kernel) rfl, aw_in 7 (by decide +kernel) rfl, rfl, rfl, by decide, by decide, by decide +kernel⟩, aw_in 1130 (by decide +kernel) rfl, aw_in 1131 (by decide +kernel) rfl⟩
def rX5_undo : Room := { frames := 1, cells := 0, slots := 0, locals := 22 }
def mX5_undo : aw_M := (yX5_undo, cX5_undo, 1, some .int, rX5_undo)
theorem mv_X5_undo : aw_mV mX5_undo 0 := ⟨⟨aw_in 1136 (by decide +kernel) rfl, aw_in 7 (by decide +kernel) rfl, rfl, rfl, by decide, by decide, by decide +kernel⟩, aw_in 1134 (by decide +kernel) rfl, aw_in 1135 (by decide +kernel) rfl⟩
def rX5_tear : Room := { frames := 0, cells := 0, slots := 0, locals := 0 }
def mX5_tear : aw_M := (yX5_tear, cX5_tear, 2, some .int, rX5_tear)
theorem mv_X5_tear : aw_mV mX5_tear 0 := ⟨⟨aw_in 1140 (by decide +kernel) rfl, aw_in 7 (by decide +kernel) rfl, rfl, rfl, by decide, by decide, by decide +kernel⟩, aw_in 1138 (by decide +kernel) rfl, aw_in 1139 (by decide +kernel) rfl⟩
def rX5_holding : Room := { frames := 0, cells := 0, slots := 0, locals := 0 }
def mX5_holding : aw_M := (yX5_holding, cX5_holding, 3, some .int, rX5_holding)
theorem mv_X5_holding : aw_mV mX5_holding 0 := ⟨⟨aw_in 1148 (by decide +kernel) rfl, aw_in 7 (by decide +kernel) rfl, rfl, rfl, by decide, by decide, by decide +kernel⟩, aw_in 1147 (by decide +kernel) rfl, aw_inS 70 (by decide +kernel) rfl⟩
def rX5_count : Room := { frames := 2, cells := 0, slots := 0, locals := 45 }
def mX5_count : aw_M := (yX5_count, cX5_count, 2, some .int, rX5_count)
theorem mv_X5_count : aw_mV mX5_count 1 := ⟨⟨aw_in 1144 (by decide +kernel) rfl, aw_in 7 (by decide +kernel) rfl, rfl, rfl, by decide, by decide, by decide +kernel⟩, aw_in 1142 (by decide +kernel) rfl, aw_in 1143 (by decide +kernel) rfl⟩
def rX5_status : Room := { frames := 1, cells := 0, slots := 0, locals := 25 }
def mX5_status : aw_M := (yX5_status, cX5_status, 4, some .int, rX5_status)
theorem mv_X5_status : aw_mV mX5_status 1 := ⟨⟨aw_in 1152 (by decide +kernel) rfl, aw_in 7 (by decide +kernel) rfl, rfl, rfl, by decide, by decide, by decide +kernel⟩, aw_in 1150 (by decide +kernel) rfl, aw_in 1151 (by decide +kernel) rfl⟩
end
