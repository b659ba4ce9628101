section
-- ===== PART A: goes FIRST, ahead of the names: the tables' words, and 'selects' of the private methods out of them =====
/-- a private method of a class that the tables say can be made, by its rows of tables_1 -/
def lw_okq (q : MethodName × Nat) : Prop := (q.1.cls ≠ "java/lang/invoke/MethodHandle" ∧ q.1.cls ≠ "java/lang/invoke/VarHandle") ∧ Cond.instantiable q.1.cls q.2 ∈ tables_1 ∧ Cond.privateMethod q.1 ∈ tables_1 ∧ Cond.instanceMethod q.1 ∈ tables_1
theorem lw_p0 : lw_okq (⟨"ChairFront", "isPlace", "(I)Z"⟩, 16) := ⟨⟨by decide +kernel, by decide +kernel⟩, List.mem_of_getElem? (i := 18) (by decide +kernel), List.mem_of_getElem? (i := 312) (by decide +kernel), List.mem_of_getElem? (i := 313) (by decide +kernel)⟩
theorem lw_p1 : lw_okq (⟨"ChairFront", "isStretch", "(I)Z"⟩, 16) := ⟨⟨by decide +kernel, by decide +kernel⟩, List.mem_of_getElem? (i := 18) (by decide +kernel), List.mem_of_getElem? (i := 317) (by decide +kernel), List.mem_of_getElem? (i := 318) (by decide +kernel)⟩
theorem lw_p2 : lw_okq (⟨"ChairFront", "chairsToTake", "(I)I"⟩, 16) := ⟨⟨by decide +kernel, by decide +kernel⟩, List.mem_of_getElem? (i := 18) (by decide +kernel), List.mem_of_getElem? (i := 321) (by decide +kernel), List.mem_of_getElem? (i := 322) (by decide +kernel)⟩
theorem lw_p3 : lw_okq (⟨"ChairFront", "addChairs", "(II)I"⟩, 16) := ⟨⟨by decide +kernel, by decide +kernel⟩, List.mem_of_getElem? (i := 18) (by decide +kernel), List.mem_of_getElem? (i := 330) (by decide +kernel), List.mem_of_getElem? (i := 331) (by decide +kernel)⟩
theorem lw_p4 : lw_okq (⟨"ChairFront", "takeByTide", "(I)V"⟩, 16) := ⟨⟨by decide +kernel, by decide +kernel⟩, List.mem_of_getElem? (i := 18) (by decide +kernel), List.mem_of_getElem? (i := 378) (by decide +kernel), List.mem_of_getElem? (i := 379) (by decide +kernel)⟩
theorem lw_p5 : lw_okq (⟨"ChairFront", "endTicket", "(LChairFront$Ticket;)V"⟩, 16) := ⟨⟨by decide +kernel, by decide +kernel⟩, List.mem_of_getElem? (i := 18) (by decide +kernel), List.mem_of_getElem? (i := 382) (by decide +kernel), List.mem_of_getElem? (i := 383) (by decide +kernel)⟩
theorem lw_p6 : lw_okq (⟨"ChairFront", "endAllByWind", "()V"⟩, 16) := ⟨⟨by decide +kernel, by decide +kernel⟩, List.mem_of_getElem? (i := 18) (by decide +kernel), List.mem_of_getElem? (i := 386) (by decide +kernel), List.mem_of_getElem? (i := 387) (by decide +kernel)⟩
theorem lw_p7 : lw_okq (⟨"ChairFront", "payBackRain", "(I)V"⟩, 16) := ⟨⟨by decide +kernel, by decide +kernel⟩, List.mem_of_getElem? (i := 18) (by decide +kernel), List.mem_of_getElem? (i := 390) (by decide +kernel), List.mem_of_getElem? (i := 391) (by decide +kernel)⟩
theorem lw_p8 : lw_okq (⟨"ChairFront", "wearAll", "(I)V"⟩, 16) := ⟨⟨by decide +kernel, by decide +kernel⟩, List.mem_of_getElem? (i := 18) (by decide +kernel), List.mem_of_getElem? (i := 398) (by decide +kernel), List.mem_of_getElem? (i := 399) (by decide +kernel)⟩
theorem lw_p9 : lw_okq (⟨"ChairFront", "breakChair", "(I)V"⟩, 16) := ⟨⟨by decide +kernel, by decide +kernel⟩, List.mem_of_getElem? (i := 18) (by decide +kernel), List.mem_of_getElem? (i := 402) (by decide +kernel), List.mem_of_getElem? (i := 403) (by decide +kernel)⟩
theorem lw_p10 : lw_okq (⟨"ChairFront", "passAnHour", "()V"⟩, 16) := ⟨⟨by decide +kernel, by decide +kernel⟩, List.mem_of_getElem? (i := 18) (by decide +kernel), List.mem_of_getElem? (i := 410) (by decide +kernel), List.mem_of_getElem? (i := 411) (by decide +kernel)⟩
theorem lw_p11 : lw_okq (⟨"ChairFront$Reader", "advance", "()V"⟩, 9) := ⟨⟨by decide +kernel, by decide +kernel⟩, List.mem_of_getElem? (i := 85) (by decide +kernel), List.mem_of_getElem? (i := 442) (by decide +kernel), List.mem_of_getElem? (i := 443) (by decide +kernel)⟩
theorem lw_p12 : lw_okq (⟨"ChairFront$Reader", "skipBlanks", "()V"⟩, 9) := ⟨⟨by decide +kernel, by decide +kernel⟩, List.mem_of_getElem? (i := 85) (by decide +kernel), List.mem_of_getElem? (i := 446) (by decide +kernel), List.mem_of_getElem? (i := 447) (by decide +kernel)⟩
theorem lw_p13 : lw_okq (⟨"ChairFront$Reader", "passName", "()V"⟩, 9) := ⟨⟨by decide +kernel, by decide +kernel⟩, List.mem_of_getElem? (i := 85) (by decide +kernel), List.mem_of_getElem? (i := 461) (by decide +kernel), List.mem_of_getElem? (i := 462) (by decide +kernel)⟩
theorem lw_p14 : lw_okq (⟨"ChairFront$Reader", "passNumber", "()V"⟩, 9) := ⟨⟨by decide +kernel, by decide +kernel⟩, List.mem_of_getElem? (i := 85) (by decide +kernel), List.mem_of_getElem? (i := 468) (by decide +kernel), List.mem_of_getElem? (i := 469) (by decide +kernel)⟩
theorem lw_p15 : lw_okq (⟨"ChairFront$Reader", "readLine", "(LChairFront$Rules;)Z"⟩, 9) := ⟨⟨by decide +kernel, by decide +kernel⟩, List.mem_of_getElem? (i := 85) (by decide +kernel), List.mem_of_getElem? (i := 472) (by decide +kernel), List.mem_of_getElem? (i := 473) (by decide +kernel)⟩
def lw_privs_1 : List (MethodName × Nat) := [(⟨"ChairFront", "isPlace", "(I)Z"⟩, 16), (⟨"ChairFront", "isStretch", "(I)Z"⟩, 16), (⟨"ChairFront", "chairsToTake", "(I)I"⟩, 16), (⟨"ChairFront", "addChairs", "(II)I"⟩, 16), (⟨"ChairFront", "takeByTide", "(I)V"⟩, 16), (⟨"ChairFront", "endTicket", "(LChairFront$Ticket;)V"⟩, 16), (⟨"ChairFront", "endAllByWind", "()V"⟩, 16), (⟨"ChairFront", "payBackRain", "(I)V"⟩, 16), (⟨"ChairFront", "wearAll", "(I)V"⟩, 16), (⟨"ChairFront", "breakChair", "(I)V"⟩, 16), (⟨"ChairFront", "passAnHour", "()V"⟩, 16), (⟨"ChairFront$Reader", "advance", "()V"⟩, 9), (⟨"ChairFront$Reader", "skipBlanks", "()V"⟩, 9), (⟨"ChairFront$Reader", "passName", "()V"⟩, 9), (⟨"ChairFront$Reader", "passNumber", "()V"⟩, 9), (⟨"ChairFront$Reader", "readLine", "(LChairFront$Rules;)Z"⟩, 9)]
theorem lw_r1 : ∀ q ∈ lw_privs_1, lw_okq q := List.forall_mem_cons.mpr ⟨lw_p0, List.forall_mem_cons.mpr ⟨lw_p1, List.forall_mem_cons.mpr ⟨lw_p2, List.forall_mem_cons.mpr ⟨lw_p3, List.forall_mem_cons.mpr ⟨lw_p4, List.forall_mem_cons.mpr ⟨lw_p5, List.forall_mem_cons.mpr ⟨lw_p6, List.forall_mem_cons.mpr ⟨lw_p7, List.forall_mem_cons.mpr ⟨lw_p8, List.forall_mem_cons.mpr ⟨lw_p9, List.forall_mem_cons.mpr ⟨lw_p10, List.forall_mem_cons.mpr ⟨lw_p11, List.forall_mem_cons.mpr ⟨lw_p12, List.forall_mem_cons.mpr ⟨lw_p13, List.forall_mem_cons.mpr ⟨lw_p14, List.forall_mem_cons.mpr ⟨lw_p15, fun _ h => absurd h List.not_mem_nil⟩⟩⟩⟩⟩⟩⟩⟩⟩⟩⟩⟩⟩⟩⟩⟩
theorem lw_p16 : lw_okq (⟨"ChairFront$Reader", "isWord", "(Ljava/lang/String;)Z"⟩, 9) := ⟨⟨by decide +kernel, by decide +kernel⟩, List.mem_of_getElem? (i := 85) (by decide +kernel), List.mem_of_getElem? (i := 477) (by decide +kernel), List.mem_of_getElem? (i := 478) (by decide +kernel)⟩
theorem lw_p17 : lw_okq (⟨"ChairFront$Reader", "readHold", "(LChairFront$Rules;)Z"⟩, 9) := ⟨⟨by decide +kernel, by decide +kernel⟩, List.mem_of_getElem? (i := 85) (by decide +kernel), List.mem_of_getElem? (i := 529) (by decide +kernel), List.mem_of_getElem? (i := 530) (by decide +kernel)⟩
theorem lw_p18 : lw_okq (⟨"ChairFront$Reader", "refuse", "(I)Z"⟩, 9) := ⟨⟨by decide +kernel, by decide +kernel⟩, List.mem_of_getElem? (i := 85) (by decide +kernel), List.mem_of_getElem? (i := 536) (by decide +kernel), List.mem_of_getElem? (i := 537) (by decide +kernel)⟩
theorem lw_p19 : lw_okq (⟨"ChairFront$Reader", "readSign", "()Z"⟩, 9) := ⟨⟨by decide +kernel, by decide +kernel⟩, List.mem_of_getElem? (i := 85) (by decide +kernel), List.mem_of_getElem? (i := 540) (by decide +kernel), List.mem_of_getElem? (i := 541) (by decide +kernel)⟩
theorem lw_p20 : lw_okq (⟨"ChairFront$Reader", "readRain", "(LChairFront$Rules;)Z"⟩, 9) := ⟨⟨by decide +kernel, by decide +kernel⟩, List.mem_of_getElem? (i := 85) (by decide +kernel), List.mem_of_getElem? (i := 545) (by decide +kernel), List.mem_of_getElem? (i := 546) (by decide +kernel)⟩
theorem lw_p21 : lw_okq (⟨"ChairFront$Reader", "readPart", "(II)Z"⟩, 9) := ⟨⟨by decide +kernel, by decide +kernel⟩, List.mem_of_getElem? (i := 85) (by decide +kernel), List.mem_of_getElem? (i := 549) (by decide +kernel), List.mem_of_getElem? (i := 550) (by decide +kernel)⟩
theorem lw_p22 : lw_okq (⟨"ChairFront$Reader", "standsNumber", "(II)Z"⟩, 9) := ⟨⟨by decide +kernel, by decide +kernel⟩, List.mem_of_getElem? (i := 85) (by decide +kernel), List.mem_of_getElem? (i := 553) (by decide +kernel), List.mem_of_getElem? (i := 554) (by decide +kernel)⟩
theorem lw_p23 : lw_okq (⟨"ChairFront$Reader", "readRent", "(LChairFront$Rules;)Z"⟩, 9) := ⟨⟨by decide +kernel, by decide +kernel⟩, List.mem_of_getElem? (i := 85) (by decide +kernel), List.mem_of_getElem? (i := 563) (by decide +kernel), List.mem_of_getElem? (i := 564) (by decide +kernel)⟩
theorem lw_p24 : lw_okq (⟨"ChairFront$BestWalk", "addStop", "(ILChairFront$Stretch;)V"⟩, 4) := ⟨⟨by decide +kernel, by decide +kernel⟩, List.mem_of_getElem? (i := 175) (by decide +kernel), List.mem_of_getElem? (i := 610) (by decide +kernel), List.mem_of_getElem? (i := 611) (by decide +kernel)⟩
theorem lw_p25 : lw_okq (⟨"ChairFront$BestWalk", "allStops", "()I"⟩, 4) := ⟨⟨by decide +kernel, by decide +kernel⟩, List.mem_of_getElem? (i := 175) (by decide +kernel), List.mem_of_getElem? (i := 619) (by decide +kernel), List.mem_of_getElem? (i := 620) (by decide +kernel)⟩
theorem lw_p26 : lw_okq (⟨"ChairFront$BestWalk", "bestNext", "(I)I"⟩, 4) := ⟨⟨by decide +kernel, by decide +kernel⟩, List.mem_of_getElem? (i := 175) (by decide +kernel), List.mem_of_getElem? (i := 623) (by decide +kernel), List.mem_of_getElem? (i := 624) (by decide +kernel)⟩
theorem lw_p27 : lw_okq (⟨"ChairFront$BestWalk", "findsBy", "(II)I"⟩, 4) := ⟨⟨by decide +kernel, by decide +kernel⟩, List.mem_of_getElem? (i := 175) (by decide +kernel), List.mem_of_getElem? (i := 627) (by decide +kernel), List.mem_of_getElem? (i := 628) (by decide +kernel)⟩
theorem lw_p28 : lw_okq (⟨"ChairFront$Asks", "worthOfCrowd", "(LChairFront$Stretch;)I"⟩, 2) := ⟨⟨by decide +kernel, by decide +kernel⟩, List.mem_of_getElem? (i := 194) (by decide +kernel), List.mem_of_getElem? (i := 670) (by decide +kernel), List.mem_of_getElem? (i := 671) (by decide +kernel)⟩
theorem lw_p29 : lw_okq (⟨"ChairFront$Asks", "leave", "(I)V"⟩, 2) := ⟨⟨by decide +kernel, by decide +kernel⟩, List.mem_of_getElem? (i := 194) (by decide +kernel), List.mem_of_getElem? (i := 674) (by decide +kernel), List.mem_of_getElem? (i := 675) (by decide +kernel)⟩
theorem lw_p30 : lw_okq (⟨"ChairFront$Asks", "worthOfSold", "(LChairFront$Stretch;)I"⟩, 2) := ⟨⟨by decide +kernel, by decide +kernel⟩, List.mem_of_getElem? (i := 194) (by decide +kernel), List.mem_of_getElem? (i := 678) (by decide +kernel), List.mem_of_getElem? (i := 679) (by decide +kernel)⟩
theorem lw_p31 : lw_okq (⟨"ChairFront$Asks", "worthLent", "(LChairFront$Stretch;)I"⟩, 2) := ⟨⟨by decide +kernel, by decide +kernel⟩, List.mem_of_getElem? (i := 194) (by decide +kernel), List.mem_of_getElem? (i := 682) (by decide +kernel), List.mem_of_getElem? (i := 683) (by decide +kernel)⟩
def lw_privs_2 : List (MethodName × Nat) := [(⟨"ChairFront$Reader", "isWord", "(Ljava/lang/String;)Z"⟩, 9), (⟨"ChairFront$Reader", "readHold", "(LChairFront$Rules;)Z"⟩, 9), (⟨"ChairFront$Reader", "refuse", "(I)Z"⟩, 9), (⟨"ChairFront$Reader", "readSign", "()Z"⟩, 9), (⟨"ChairFront$Reader", "readRain", "(LChairFront$Rules;)Z"⟩, 9), (⟨"ChairFront$Reader", "readPart", "(II)Z"⟩, 9), (⟨"ChairFront$Reader", "standsNumber", "(II)Z"⟩, 9), (⟨"ChairFront$Reader", "readRent", "(LChairFront$Rules;)Z"⟩, 9), (⟨"ChairFront$BestWalk", "addStop", "(ILChairFront$Stretch;)V"⟩, 4), (⟨"ChairFront$BestWalk", "allStops", "()I"⟩, 4), (⟨"ChairFront$BestWalk", "bestNext", "(I)I"⟩, 4), (⟨"ChairFront$BestWalk", "findsBy", "(II)I"⟩, 4), (⟨"ChairFront$Asks", "worthOfCrowd", "(LChairFront$Stretch;)I"⟩, 2), (⟨"ChairFront$Asks", "leave", "(I)V"⟩, 2), (⟨"ChairFront$Asks", "worthOfSold", "(LChairFront$Stretch;)I"⟩, 2), (⟨"ChairFront$Asks", "worthLent", "(LChairFront$Stretch;)I"⟩, 2)]
theorem lw_r2 : ∀ q ∈ lw_privs_2, lw_okq q := List.forall_mem_cons.mpr ⟨lw_p16, List.forall_mem_cons.mpr ⟨lw_p17, List.forall_mem_cons.mpr ⟨lw_p18, List.forall_mem_cons.mpr ⟨lw_p19, List.forall_mem_cons.mpr ⟨lw_p20, List.forall_mem_cons.mpr ⟨lw_p21, List.forall_mem_cons.mpr ⟨lw_p22, List.forall_mem_cons.mpr ⟨lw_p23, List.forall_mem_cons.mpr ⟨lw_p24, List.forall_mem_cons.mpr ⟨lw_p25, List.forall_mem_cons.mpr ⟨lw_p26, List.forall_mem_cons.mpr ⟨lw_p27, List.forall_mem_cons.mpr ⟨lw_p28, List.forall_mem_cons.mpr ⟨lw_p29, List.forall_mem_cons.mpr ⟨lw_p30, List.forall_mem_cons.mpr ⟨lw_p31, fun _ h => absurd h List.not_mem_nil⟩⟩⟩⟩⟩⟩⟩⟩⟩⟩⟩⟩⟩⟩⟩⟩
theorem lw_p32 : lw_okq (⟨"ChairFront$Asks", "markOfCrowd", "(LChairFront$Stretch;)I"⟩, 2) := ⟨⟨by decide +kernel, by decide +kernel⟩, List.mem_of_getElem? (i := 194) (by decide +kernel), List.mem_of_getElem? (i := 686) (by decide +kernel), List.mem_of_getElem? (i := 687) (by decide +kernel)⟩
theorem lw_p33 : lw_okq (⟨"ChairFront$Asks", "markLent", "(LChairFront$Stretch;)I"⟩, 2) := ⟨⟨by decide +kernel, by decide +kernel⟩, List.mem_of_getElem? (i := 194) (by decide +kernel), List.mem_of_getElem? (i := 690) (by decide +kernel), List.mem_of_getElem? (i := 691) (by decide +kernel)⟩
theorem lw_p34 : lw_okq (⟨"ChairFront$Asks", "worthOfBare", "(LChairFront$Stretch;)I"⟩, 2) := ⟨⟨by decide +kernel, by decide +kernel⟩, List.mem_of_getElem? (i := 194) (by decide +kernel), List.mem_of_getElem? (i := 694) (by decide +kernel), List.mem_of_getElem? (i := 695) (by decide +kernel)⟩
theorem lw_p35 : lw_okq (⟨"ChairFront$Asks", "markOfBare", "(LChairFront$Stretch;)I"⟩, 2) := ⟨⟨by decide +kernel, by decide +kernel⟩, List.mem_of_getElem? (i := 194) (by decide +kernel), List.mem_of_getElem? (i := 702) (by decide +kernel), List.mem_of_getElem? (i := 703) (by decide +kernel)⟩
theorem lw_p36 : lw_okq (⟨"ChairFront", "allStanding", "()I"⟩, 16) := ⟨⟨by decide +kernel, by decide +kernel⟩, List.mem_of_getElem? (i := 18) (by decide +kernel), List.mem_of_getElem? (i := 714) (by decide +kernel), List.mem_of_getElem? (i := 715) (by decide +kernel)⟩
theorem lw_p37 : lw_okq (⟨"ChairFrontModel", "isStretch", "(I)Z"⟩, 55) := ⟨⟨by decide +kernel, by decide +kernel⟩, List.mem_of_getElem? (i := 721) (by decide +kernel), List.mem_of_getElem? (i := 909) (by decide +kernel), List.mem_of_getElem? (i := 910) (by decide +kernel)⟩
theorem lw_p38 : lw_okq (⟨"ChairFrontModel", "standing", "(I)I"⟩, 55) := ⟨⟨by decide +kernel, by decide +kernel⟩, List.mem_of_getElem? (i := 721) (by decide +kernel), List.mem_of_getElem? (i := 915) (by decide +kernel), List.mem_of_getElem? (i := 916) (by decide +kernel)⟩
theorem lw_p39 : lw_okq (⟨"ChairFrontModel", "slotOf", "(I)I"⟩, 55) := ⟨⟨by decide +kernel, by decide +kernel⟩, List.mem_of_getElem? (i := 721) (by decide +kernel), List.mem_of_getElem? (i := 942) (by decide +kernel), List.mem_of_getElem? (i := 943) (by decide +kernel)⟩
theorem lw_p40 : lw_okq (⟨"ChairFrontModel", "end", "(I)V"⟩, 55) := ⟨⟨by decide +kernel, by decide +kernel⟩, List.mem_of_getElem? (i := 721) (by decide +kernel), List.mem_of_getElem? (i := 957) (by decide +kernel), List.mem_of_getElem? (i := 958) (by decide +kernel)⟩
theorem lw_p41 : lw_okq (⟨"ChairFrontModel", "tear", "(I)V"⟩, 55) := ⟨⟨by decide +kernel, by decide +kernel⟩, List.mem_of_getElem? (i := 721) (by decide +kernel), List.mem_of_getElem? (i := 961) (by decide +kernel), List.mem_of_getElem? (i := 962) (by decide +kernel)⟩
theorem lw_p42 : lw_okq (⟨"ChairFrontModel", "step", "()V"⟩, 55) := ⟨⟨by decide +kernel, by decide +kernel⟩, List.mem_of_getElem? (i := 721) (by decide +kernel), List.mem_of_getElem? (i := 975) (by decide +kernel), List.mem_of_getElem? (i := 976) (by decide +kernel)⟩
theorem lw_p43 : lw_okq (⟨"ChairFrontModel", "byteAt", "(I)I"⟩, 55) := ⟨⟨by decide +kernel, by decide +kernel⟩, List.mem_of_getElem? (i := 721) (by decide +kernel), List.mem_of_getElem? (i := 979) (by decide +kernel), List.mem_of_getElem? (i := 980) (by decide +kernel)⟩
theorem lw_p44 : lw_okq (⟨"ChairFrontModel", "readLine", "()V"⟩, 55) := ⟨⟨by decide +kernel, by decide +kernel⟩, List.mem_of_getElem? (i := 721) (by decide +kernel), List.mem_of_getElem? (i := 989) (by decide +kernel), List.mem_of_getElem? (i := 990) (by decide +kernel)⟩
theorem lw_p45 : lw_okq (⟨"ChairFrontModel", "word", "()J"⟩, 55) := ⟨⟨by decide +kernel, by decide +kernel⟩, List.mem_of_getElem? (i := 721) (by decide +kernel), List.mem_of_getElem? (i := 993) (by decide +kernel), List.mem_of_getElem? (i := 994) (by decide +kernel)⟩
theorem lw_p46 : lw_okq (⟨"ChairFrontModel", "bad", "(I)V"⟩, 55) := ⟨⟨by decide +kernel, by decide +kernel⟩, List.mem_of_getElem? (i := 721) (by decide +kernel), List.mem_of_getElem? (i := 999) (by decide +kernel), List.mem_of_getElem? (i := 1000) (by decide +kernel)⟩
theorem lw_p47 : lw_okq (⟨"ChairFrontModel", "need", "(Z)V"⟩, 55) := ⟨⟨by decide +kernel, by decide +kernel⟩, List.mem_of_getElem? (i := 721) (by decide +kernel), List.mem_of_getElem? (i := 1004) (by decide +kernel), List.mem_of_getElem? (i := 1005) (by decide +kernel)⟩
def lw_privs_3 : List (MethodName × Nat) := [(⟨"ChairFront$Asks", "markOfCrowd", "(LChairFront$Stretch;)I"⟩, 2), (⟨"ChairFront$Asks", "markLent", "(LChairFront$Stretch;)I"⟩, 2), (⟨"ChairFront$Asks", "worthOfBare", "(LChairFront$Stretch;)I"⟩, 2), (⟨"ChairFront$Asks", "markOfBare", "(LChairFront$Stretch;)I"⟩, 2), (⟨"ChairFront", "allStanding", "()I"⟩, 16), (⟨"ChairFrontModel", "isStretch", "(I)Z"⟩, 55), (⟨"ChairFrontModel", "standing", "(I)I"⟩, 55), (⟨"ChairFrontModel", "slotOf", "(I)I"⟩, 55), (⟨"ChairFrontModel", "end", "(I)V"⟩, 55), (⟨"ChairFrontModel", "tear", "(I)V"⟩, 55), (⟨"ChairFrontModel", "step", "()V"⟩, 55), (⟨"ChairFrontModel", "byteAt", "(I)I"⟩, 55), (⟨"ChairFrontModel", "readLine", "()V"⟩, 55), (⟨"ChairFrontModel", "word", "()J"⟩, 55), (⟨"ChairFrontModel", "bad", "(I)V"⟩, 55), (⟨"ChairFrontModel", "need", "(Z)V"⟩, 55)]
theorem lw_r3 : ∀ q ∈ lw_privs_3, lw_okq q := List.forall_mem_cons.mpr ⟨lw_p32, List.forall_mem_cons.mpr ⟨lw_p33, List.forall_mem_cons.mpr ⟨lw_p34, List.forall_mem_cons.mpr ⟨lw_p35, List.forall_mem_cons.mpr ⟨lw_p36, List.forall_mem_cons.mpr ⟨lw_p37, List.forall_mem_cons.mpr ⟨lw_p38, List.forall_mem_cons.mpr ⟨lw_p39, List.forall_mem_cons.mpr ⟨lw_p40, List.forall_mem_cons.mpr ⟨lw_p41, List.forall_mem_cons.mpr ⟨lw_p42, List.forall_mem_cons.mpr ⟨lw_p43, List.forall_mem_cons.mpr ⟨lw_p44, List.forall_mem_cons.mpr ⟨lw_p45, List.forall_mem_cons.mpr ⟨lw_p46, List.forall_mem_cons.mpr ⟨lw_p47, fun _ h => absurd h List.not_mem_nil⟩⟩⟩⟩⟩⟩⟩⟩⟩⟩⟩⟩⟩⟩⟩⟩
theorem lw_p48 : lw_okq (⟨"ChairFrontModel", "numberIn", "(II)I"⟩, 55) := ⟨⟨by decide +kernel, by decide +kernel⟩, List.mem_of_getElem? (i := 721) (by decide +kernel), List.mem_of_getElem? (i := 1012) (by decide +kernel), List.mem_of_getElem? (i := 1013) (by decide +kernel)⟩
theorem lw_p49 : lw_okq (⟨"ChairFrontModel", "next", "(I)Z"⟩, 55) := ⟨⟨by decide +kernel, by decide +kernel⟩, List.mem_of_getElem? (i := 721) (by decide +kernel), List.mem_of_getElem? (i := 1035) (by decide +kernel), List.mem_of_getElem? (i := 1036) (by decide +kernel)⟩
theorem lw_p50 : lw_okq (⟨"ChairFrontModel", "kindOf", "(I)I"⟩, 55) := ⟨⟨by decide +kernel, by decide +kernel⟩, List.mem_of_getElem? (i := 721) (by decide +kernel), List.mem_of_getElem? (i := 1043) (by decide +kernel), List.mem_of_getElem? (i := 1044) (by decide +kernel)⟩
theorem lw_p51 : lw_okq (⟨"ChairFrontModel", "worth", "(I)I"⟩, 55) := ⟨⟨by decide +kernel, by decide +kernel⟩, List.mem_of_getElem? (i := 721) (by decide +kernel), List.mem_of_getElem? (i := 1056) (by decide +kernel), List.mem_of_getElem? (i := 1057) (by decide +kernel)⟩
theorem lw_p52 : lw_okq (⟨"ChairFrontModel", "bareWorth", "(I)I"⟩, 55) := ⟨⟨by decide +kernel, by decide +kernel⟩, List.mem_of_getElem? (i := 721) (by decide +kernel), List.mem_of_getElem? (i := 1060) (by decide +kernel), List.mem_of_getElem? (i := 1061) (by decide +kernel)⟩
theorem lw_p53 : lw_okq (⟨"ChairFrontModel", "began", "(I)V"⟩, 55) := ⟨⟨by decide +kernel, by decide +kernel⟩, List.mem_of_getElem? (i := 721) (by decide +kernel), List.mem_of_getElem? (i := 1064) (by decide +kernel), List.mem_of_getElem? (i := 1065) (by decide +kernel)⟩
theorem lw_p54 : lw_okq (⟨"ChairFrontModel", "marked", "(I)I"⟩, 55) := ⟨⟨by decide +kernel, by decide +kernel⟩, List.mem_of_getElem? (i := 721) (by decide +kernel), List.mem_of_getElem? (i := 1068) (by decide +kernel), List.mem_of_getElem? (i := 1069) (by decide +kernel)⟩
def lw_privs_4 : List (MethodName × Nat) := [(⟨"ChairFrontModel", "numberIn", "(II)I"⟩, 55), (⟨"ChairFrontModel", "next", "(I)Z"⟩, 55), (⟨"ChairFrontModel", "kindOf", "(I)I"⟩, 55), (⟨"ChairFrontModel", "worth", "(I)I"⟩, 55), (⟨"ChairFrontModel", "bareWorth", "(I)I"⟩, 55), (⟨"ChairFrontModel", "began", "(I)V"⟩, 55), (⟨"ChairFrontModel", "marked", "(I)I"⟩, 55)]
theorem lw_r4 : ∀ q ∈ lw_privs_4, lw_okq q := List.forall_mem_cons.mpr ⟨lw_p48, List.forall_mem_cons.mpr ⟨lw_p49, List.forall_mem_cons.mpr ⟨lw_p50, List.forall_mem_cons.mpr ⟨lw_p51, List.forall_mem_cons.mpr ⟨lw_p52, List.forall_mem_cons.mpr ⟨lw_p53, List.forall_mem_cons.mpr ⟨lw_p54, fun _ h => absurd h List.not_mem_nil⟩⟩⟩⟩⟩⟩⟩
def lw_privs : List (MethodName × Nat) := lw_privs_1 ++ (lw_privs_2 ++ (lw_privs_3 ++ (lw_privs_4)))
def lw_tbl : List Cond := k2_sels lw_privs ++ tables_1
theorem lw_privs_ok : ∀ q ∈ lw_privs, lw_okq q := by
  show ∀ q ∈ lw_privs_1 ++ (lw_privs_2 ++ (lw_privs_3 ++ (lw_privs_4))), lw_okq q
  exact List.forall_mem_append.mpr ⟨lw_r1, List.forall_mem_append.mpr ⟨lw_r2, List.forall_mem_append.mpr ⟨lw_r3, lw_r4⟩⟩⟩
-- ===== end of PART A; then your names; then what follows =====
end
section
def RX0 : String := "ChairFront$Asks"
def TX0 : u_T := fun k => match k with
  | 0 => ("ChairFront$Asks", "bodies", "[I", true)
  | _ => ("ChairFront$Asks", "traced", "I", false)
def tyX0 : Nat → FieldType := fun k => match k with
  | 0 => .array .int
  | _ => .int
theorem nmX0 : ∀ a, a < 2 → ∀ b, b < 2 → a ≠ b → (TX0 a).2.1 ≠ (TX0 b).2.1 := by decide +kernel
theorem tyX0_ok : ∀ k, k < 2 → parseFieldDescriptor (TX0 k).2.2.1 = some (tyX0 k) := by decide +kernel
abbrev cX0_init : ByteArray := prog_2_method_1_code
def yX0_init : MethodName := ⟨RX0, "<init>", "()V"⟩
abbrev cX0_worthOf : ByteArray := prog_2_method_2_code
def yX0_worthOf : MethodName := ⟨RX0, "worthOf", "(LChairFront$Stretch;)I"⟩
abbrev cX0_markOf : ByteArray := prog_2_method_3_code
def yX0_markOf : MethodName := ⟨RX0, "markOf", "(LChairFront$Stretch;)I"⟩
abbrev cX0_worthLent : ByteArray := prog_2_method_4_code
def yX0_worthLent : MethodName := ⟨RX0, "worthLent", "(LChairFront$Stretch;)I"⟩
abbrev cX0_worthOfSold : ByteArray := prog_2_method_5_code
def yX0_worthOfSold : MethodName := ⟨RX0, "worthOfSold", "(LChairFront$Stretch;)I"⟩
abbrev cX0_worthOfCrowd : ByteArray := prog_2_method_6_code
def yX0_worthOfCrowd : MethodName := ⟨RX0, "worthOfCrowd", "(LChairFront$Stretch;)I"⟩
abbrev cX0_worthOfBare : ByteArray := prog_2_method_7_code
def yX0_worthOfBare : MethodName := ⟨RX0, "worthOfBare", "(LChairFront$Stretch;)I"⟩
abbrev cX0_markLent : ByteArray := prog_2_method_8_code
def yX0_markLent : MethodName := ⟨RX0, "markLent", "(LChairFront$Stretch;)I"⟩
abbrev cX0_markOfCrowd : ByteArray := prog_2_method_9_code
def yX0_markOfCrowd : MethodName := ⟨RX0, "markOfCrowd", "(LChairFront$Stretch;)I"⟩
abbrev cX0_markOfBare : ByteArray := prog_2_method_10_code
def yX0_markOfBare : MethodName := ⟨RX0, "markOfBare", "(LChairFront$Stretch;)I"⟩
abbrev cX0_leave : ByteArray := prog_2_method_11_code
def yX0_leave : MethodName := ⟨RX0, "leave", "(I)V"⟩
def RX1 : String := "ChairFront$BestWalk"
def TX1 : u_T := fun k => match k with
  | 0 => ("ChairFront$BestWalk", "stops", "[I", true)
  | 1 => ("ChairFront$BestWalk", "found", "[I", true)
  | 2 => ("ChairFront$BestWalk", "mostOfLeft", "[I", true)
  | _ => ("ChairFront$BestWalk", "length", "I", false)
def tyX1 : Nat → FieldType := fun k => match k with
  | 0 => .array .int
  | 1 => .array .int
  | 2 => .array .int
  | _ => .int
theorem nmX1 : ∀ a, a < 4 → ∀ b, b < 4 → a ≠ b → (TX1 a).2.1 ≠ (TX1 b).2.1 := by decide +kernel
theorem tyX1_ok : ∀ k, k < 4 → parseFieldDescriptor (TX1 k).2.2.1 = some (tyX1 k) := by decide +kernel
abbrev cX1_init : ByteArray := prog_3_method_1_code
def yX1_init : MethodName := ⟨RX1, "<init>", "()V"⟩
abbrev cX1_plan : ByteArray := prog_3_method_2_code
def yX1_plan : MethodName := ⟨RX1, "plan", "(I[LChairFront$Stretch;)V"⟩
abbrev cX1_addStop : ByteArray := prog_3_method_3_code
def yX1_addStop : MethodName := ⟨RX1, "addStop", "(ILChairFront$Stretch;)V"⟩
abbrev cX1_finds : ByteArray := prog_3_method_4_code
def yX1_finds : MethodName := ⟨RX1, "finds", "()I"⟩
abbrev cX1_stopAt : ByteArray := prog_3_method_5_code
def yX1_stopAt : MethodName := ⟨RX1, "stopAt", "(I)I"⟩
abbrev cX1_allStops : ByteArray := prog_3_method_6_code
def yX1_allStops : MethodName := ⟨RX1, "allStops", "()I"⟩
abbrev cX1_bestNext : ByteArray := prog_3_method_7_code
def yX1_bestNext : MethodName := ⟨RX1, "bestNext", "(I)I"⟩
abbrev cX1_findsBy : ByteArray := prog_3_method_8_code
def yX1_findsBy : MethodName := ⟨RX1, "findsBy", "(II)I"⟩
def RX2 : String := "ChairFront$Reader"
def TX2 : u_T := fun k => match k with
  | 0 => ("ChairFront$Reader", "tape", "LChairFront$Tape;", true)
  | 1 => ("ChairFront$Reader", "token", "I", false)
  | 2 => ("ChairFront$Reader", "start", "I", false)
  | 3 => ("ChairFront$Reader", "next", "I", false)
  | 4 => ("ChairFront$Reader", "value", "I", false)
  | 5 => ("ChairFront$Reader", "bound", "I", false)
  | 6 => ("ChairFront$Reader", "part", "I", false)
  | 7 => ("ChairFront$Reader", "faultNumber", "I", false)
  | _ => ("ChairFront$Reader", "faultPlace", "I", false)
def tyX2 : Nat → FieldType := fun k => match k with
  | 0 => .object "ChairFront$Tape"
  | 1 => .int
  | 2 => .int
  | 3 => .int
  | 4 => .int
  | 5 => .int
  | 6 => .int
  | 7 => .int
  | _ => .int
theorem nmX2 : ∀ a, a < 9 → ∀ b, b < 9 → a ≠ b → (TX2 a).2.1 ≠ (TX2 b).2.1 := by decide +kernel
theorem tyX2_ok : ∀ k, k < 9 → parseFieldDescriptor (TX2 k).2.2.1 = some (tyX2 k) := by decide +kernel
abbrev cX2_init : ByteArray := prog_4_method_1_code
def yX2_init : MethodName := ⟨RX2, "<init>", "()V"⟩
abbrev cX2_readInto : ByteArray := prog_4_method_2_code
def yX2_readInto : MethodName := ⟨RX2, "readInto", "(LChairFront$Rules;)Z"⟩
abbrev cX2_readLine : ByteArray := prog_4_method_3_code
def yX2_readLine : MethodName := ⟨RX2, "readLine", "(LChairFront$Rules;)Z"⟩
abbrev cX2_readHold : ByteArray := prog_4_method_4_code
def yX2_readHold : MethodName := ⟨RX2, "readHold", "(LChairFront$Rules;)Z"⟩
abbrev cX2_readRain : ByteArray := prog_4_method_5_code
def yX2_readRain : MethodName := ⟨RX2, "readRain", "(LChairFront$Rules;)Z"⟩
abbrev cX2_readRent : ByteArray := prog_4_method_6_code
def yX2_readRent : MethodName := ⟨RX2, "readRent", "(LChairFront$Rules;)Z"⟩
abbrev cX2_readPart : ByteArray := prog_4_method_7_code
def yX2_readPart : MethodName := ⟨RX2, "readPart", "(II)Z"⟩
abbrev cX2_standsNumber : ByteArray := prog_4_method_8_code
def yX2_standsNumber : MethodName := ⟨RX2, "standsNumber", "(II)Z"⟩
abbrev cX2_readSign : ByteArray := prog_4_method_9_code
def yX2_readSign : MethodName := ⟨RX2, "readSign", "()Z"⟩
abbrev cX2_refuse : ByteArray := prog_4_method_10_code
def yX2_refuse : MethodName := ⟨RX2, "refuse", "(I)Z"⟩
abbrev cX2_isWord : ByteArray := prog_4_method_11_code
def yX2_isWord : MethodName := ⟨RX2, "isWord", "(Ljava/lang/String;)Z"⟩
abbrev cX2_advance : ByteArray := prog_4_method_12_code
def yX2_advance : MethodName := ⟨RX2, "advance", "()V"⟩
abbrev cX2_skipBlanks : ByteArray := prog_4_method_13_code
def yX2_skipBlanks : MethodName := ⟨RX2, "skipBlanks", "()V"⟩
abbrev cX2_passName : ByteArray := prog_4_method_14_code
def yX2_passName : MethodName := ⟨RX2, "passName", "()V"⟩
abbrev cX2_passNumber : ByteArray := prog_4_method_15_code
def yX2_passNumber : MethodName := ⟨RX2, "passNumber", "()V"⟩
abbrev cX2_isBlank : ByteArray := prog_4_method_16_code
def yX2_isBlank : MethodName := ⟨RX2, "isBlank", "(I)Z"⟩
abbrev cX2_isLetter : ByteArray := prog_4_method_17_code
def yX2_isLetter : MethodName := ⟨RX2, "isLetter", "(I)Z"⟩
abbrev cX2_isFigure : ByteArray := prog_4_method_18_code
def yX2_isFigure : MethodName := ⟨RX2, "isFigure", "(I)Z"⟩
def RX3 : String := "ChairFront$Rules"
def TX3 : u_T := fun k => match k with
  | 0 => ("ChairFront$Rules", "lines", "I", false)
  | 1 => ("ChairFront$Rules", "hold", "I", false)
  | 2 => ("ChairFront$Rules", "rainLines", "I", false)
  | 3 => ("ChairFront$Rules", "rentLines", "I", false)
  | 4 => ("ChairFront$Rules", "rainFrom", "[I", true)
  | 5 => ("ChairFront$Rules", "rainPart", "[I", true)
  | 6 => ("ChairFront$Rules", "rentEnd", "[I", true)
  | _ => ("ChairFront$Rules", "rentPart", "[I", true)
def tyX3 : Nat → FieldType := fun k => match k with
  | 0 => .int
  | 1 => .int
  | 2 => .int
  | 3 => .int
  | 4 => .array .int
  | 5 => .array .int
  | 6 => .array .int
  | _ => .array .int
theorem nmX3 : ∀ a, a < 8 → ∀ b, b < 8 → a ≠ b → (TX3 a).2.1 ≠ (TX3 b).2.1 := by decide +kernel
theorem tyX3_ok : ∀ k, k < 8 → parseFieldDescriptor (TX3 k).2.2.1 = some (tyX3 k) := by decide +kernel
abbrev cX3_init : ByteArray := prog_5_method_1_code
def yX3_init : MethodName := ⟨RX3, "<init>", "()V"⟩
abbrev cX3_clear : ByteArray := prog_5_method_2_code
def yX3_clear : MethodName := ⟨RX3, "clear", "()V"⟩
abbrev cX3_holdsIn : ByteArray := prog_5_method_3_code
def yX3_holdsIn : MethodName := ⟨RX3, "holdsIn", "(II)Z"⟩
abbrev cX3_addRain : ByteArray := prog_5_method_4_code
def yX3_addRain : MethodName := ⟨RX3, "addRain", "(II)V"⟩
abbrev cX3_addRent : ByteArray := prog_5_method_5_code
def yX3_addRent : MethodName := ⟨RX3, "addRent", "(II)V"⟩
abbrev cX3_leastNextEnd : ByteArray := prog_5_method_6_code
def yX3_leastNextEnd : MethodName := ⟨RX3, "leastNextEnd", "()I"⟩
abbrev cX3_partOfRain : ByteArray := prog_5_method_7_code
def yX3_partOfRain : MethodName := ⟨RX3, "partOfRain", "(I)I"⟩
abbrev cX3_rentOf : ByteArray := prog_5_method_8_code
def yX3_rentOf : MethodName := ⟨RX3, "rentOf", "(I)I"⟩
def RX4 : String := "ChairFront$Stretch"
def TX4 : u_T := fun k => match k with
  | 0 => ("ChairFront$Stretch", "height", "I", false)
  | 1 => ("ChairFront$Stretch", "zone", "I", false)
  | 2 => ("ChairFront$Stretch", "standing", "I", false)
  | 3 => ("ChairFront$Stretch", "hired", "I", false)
  | 4 => ("ChairFront$Stretch", "wear", "I", false)
  | 5 => ("ChairFront$Stretch", "unpaid", "I", false)
  | _ => ("ChairFront$Stretch", "going", "I", false)
def tyX4 : Nat → FieldType := fun k => match k with
  | 0 => .int
  | 1 => .int
  | 2 => .int
  | 3 => .int
  | 4 => .int
  | 5 => .int
  | _ => .int
theorem nmX4 : ∀ a, a < 7 → ∀ b, b < 7 → a ≠ b → (TX4 a).2.1 ≠ (TX4 b).2.1 := by decide +kernel
theorem tyX4_ok : ∀ k, k < 7 → parseFieldDescriptor (TX4 k).2.2.1 = some (tyX4 k) := by decide +kernel
abbrev cX4_init : ByteArray := prog_6_method_1_code
def yX4_init : MethodName := ⟨RX4, "<init>", "()V"⟩
abbrev cX4_free : ByteArray := prog_6_method_2_code
def yX4_free : MethodName := ⟨RX4, "free", "()I"⟩
abbrev cX4_toldKind : ByteArray := prog_6_method_3_code
def yX4_toldKind : MethodName := ⟨RX4, "toldKind", "()I"⟩
abbrev cX4_isOf : ByteArray := prog_6_method_4_code
def yX4_isOf : MethodName := ⟨RX4, "isOf", "(I)Z"⟩
abbrev cX4_foundAt : ByteArray := prog_6_method_5_code
def yX4_foundAt : MethodName := ⟨RX4, "foundAt", "(I)I"⟩
def RX5 : String := "ChairFront$Tape"
def TX5 : u_T := fun k => match k with
  | 0 => ("ChairFront$Tape", "bytes", "[B", true)
  | _ => ("ChairFront$Tape", "length", "I", false)
def tyX5 : Nat → FieldType := fun k => match k with
  | 0 => .array .byte
  | _ => .int
theorem nmX5 : ∀ a, a < 2 → ∀ b, b < 2 → a ≠ b → (TX5 a).2.1 ≠ (TX5 b).2.1 := by decide +kernel
theorem tyX5_ok : ∀ k, k < 2 → parseFieldDescriptor (TX5 k).2.2.1 = some (tyX5 k) := by decide +kernel
abbrev cX5_init : ByteArray := prog_7_method_1_code
def yX5_init : MethodName := ⟨RX5, "<init>", "()V"⟩
abbrev cX5_hasRoomFor : ByteArray := prog_7_method_2_code
def yX5_hasRoomFor : MethodName := ⟨RX5, "hasRoomFor", "(I)Z"⟩
abbrev cX5_append : ByteArray := prog_7_method_3_code
def yX5_append : MethodName := ⟨RX5, "append", "(JI)V"⟩
abbrev cX5_at : ByteArray := prog_7_method_4_code
def yX5_at : MethodName := ⟨RX5, "at", "(I)I"⟩
def RX6 : String := "ChairFront$Ticket"
def TX6 : u_T := fun k => match k with
  | 0 => ("ChairFront$Ticket", "number", "I", false)
  | 1 => ("ChairFront$Ticket", "place", "I", false)
  | 2 => ("ChairFront$Ticket", "zone", "I", false)
  | 3 => ("ChairFront$Ticket", "chairs", "I", false)
  | 4 => ("ChairFront$Ticket", "hoursLeft", "I", false)
  | 5 => ("ChairFront$Ticket", "price", "I", false)
  | _ => ("ChairFront$Ticket", "paid", "I", false)
def tyX6 : Nat → FieldType := fun k => match k with
  | 0 => .int
  | 1 => .int
  | 2 => .int
  | 3 => .int
  | 4 => .int
  | 5 => .int
  | _ => .int
theorem nmX6 : ∀ a, a < 7 → ∀ b, b < 7 → a ≠ b → (TX6 a).2.1 ≠ (TX6 b).2.1 := by decide +kernel
theorem tyX6_ok : ∀ k, k < 7 → parseFieldDescriptor (TX6 k).2.2.1 = some (tyX6 k) := by decide +kernel
abbrev cX6_init : ByteArray := prog_8_method_1_code
def yX6_init : MethodName := ⟨RX6, "<init>", "()V"⟩
def RX7 : String := "ChairFront$TicketBook"
def TX7 : u_T := fun k => match k with
  | 0 => ("ChairFront$TicketBook", "tickets", "[LChairFront$Ticket;", true)
  | 1 => ("ChairFront$TicketBook", "running", "I", false)
  | 2 => ("ChairFront$TicketBook", "ever", "I", false)
  | 3 => ("ChairFront$TicketBook", "paid", "I", false)
  | _ => ("ChairFront$TicketBook", "back", "I", false)
def tyX7 : Nat → FieldType := fun k => match k with
  | 0 => .array (.object "ChairFront$Ticket")
  | 1 => .int
  | 2 => .int
  | 3 => .int
  | _ => .int
theorem nmX7 : ∀ a, a < 5 → ∀ b, b < 5 → a ≠ b → (TX7 a).2.1 ≠ (TX7 b).2.1 := by decide +kernel
theorem tyX7_ok : ∀ k, k < 5 → parseFieldDescriptor (TX7 k).2.2.1 = some (tyX7 k) := by decide +kernel
abbrev cX7_init : ByteArray := prog_9_method_1_code
def yX7_init : MethodName := ⟨RX7, "<init>", "()V"⟩
abbrev cX7_isFull : ByteArray := prog_9_method_2_code
def yX7_isFull : MethodName := ⟨RX7, "isFull", "()Z"⟩
abbrev cX7_open : ByteArray := prog_9_method_3_code
def yX7_open : MethodName := ⟨RX7, "open", "()LChairFront$Ticket;"⟩
abbrev cX7_find : ByteArray := prog_9_method_4_code
def yX7_find : MethodName := ⟨RX7, "find", "(I)LChairFront$Ticket;"⟩
abbrev cX7_latestAt : ByteArray := prog_9_method_5_code
def yX7_latestAt : MethodName := ⟨RX7, "latestAt", "(I)LChairFront$Ticket;"⟩
abbrev cX7_dropEnded : ByteArray := prog_9_method_6_code
def yX7_dropEnded : MethodName := ⟨RX7, "dropEnded", "()V"⟩
def RX8 : String := "ChairFront"
def TX8 : u_T := fun k => match k with
  | 0 => ("ChairFront", "stack", "I", false)
  | 1 => ("ChairFront", "lost", "I", false)
  | 2 => ("ChairFront", "broken", "I", false)
  | 3 => ("ChairFront", "price", "I", false)
  | 4 => ("ChairFront", "stop", "I", false)
  | 5 => ("ChairFront", "hoursGone", "I", false)
  | 6 => ("ChairFront", "latestWind", "I", false)
  | 7 => ("ChairFront", "stretchCount", "I", false)
  | 8 => ("ChairFront", "stretches", "[LChairFront$Stretch;", true)
  | 9 => ("ChairFront", "book", "LChairFront$TicketBook;", true)
  | 10 => ("ChairFront", "reader", "LChairFront$Reader;", true)
  | 11 => ("ChairFront", "current", "LChairFront$Rules;", false)
  | 12 => ("ChairFront", "draft", "LChairFront$Rules;", false)
  | 13 => ("ChairFront", "latestFault", "I", false)
  | 14 => ("ChairFront", "bestWalk", "LChairFront$BestWalk;", true)
  | _ => ("ChairFront", "asks", "LChairFront$Asks;", true)
def tyX8 : Nat → FieldType := fun k => match k with
  | 0 => .int
  | 1 => .int
  | 2 => .int
  | 3 => .int
  | 4 => .int
  | 5 => .int
  | 6 => .int
  | 7 => .int
  | 8 => .array (.object "ChairFront$Stretch")
  | 9 => .object "ChairFront$TicketBook"
  | 10 => .object "ChairFront$Reader"
  | 11 => .object "ChairFront$Rules"
  | 12 => .object "ChairFront$Rules"
  | 13 => .int
  | 14 => .object "ChairFront$BestWalk"
  | _ => .object "ChairFront$Asks"
theorem nmX8 : ∀ a, a < 16 → ∀ b, b < 16 → a ≠ b → (TX8 a).2.1 ≠ (TX8 b).2.1 := by decide +kernel
theorem tyX8_ok : ∀ k, k < 16 → parseFieldDescriptor (TX8 k).2.2.1 = some (tyX8 k) := by decide +kernel
abbrev cX8_init : ByteArray := prog_1_method_1_code
def yX8_init : MethodName := ⟨RX8, "<init>", "(I)V"⟩
abbrev cX8_stretch : ByteArray := prog_1_method_2_code
def yX8_stretch : MethodName := ⟨RX8, "stretch", "(II)I"⟩
abbrev cX8_carry : ByteArray := prog_1_method_3_code
def yX8_carry : MethodName := ⟨RX8, "carry", "(III)I"⟩
abbrev cX8_told : ByteArray := prog_1_method_4_code
def yX8_told : MethodName := ⟨RX8, "told", "(II)I"⟩
abbrev cX8_rule : ByteArray := prog_1_method_5_code
def yX8_rule : MethodName := ⟨RX8, "rule", "(II)I"⟩
abbrev cX8_mend : ByteArray := prog_1_method_6_code
def yX8_mend : MethodName := ⟨RX8, "mend", "(I)I"⟩
abbrev cX8_hire : ByteArray := prog_1_method_7_code
def yX8_hire : MethodName := ⟨RX8, "hire", "(III)I"⟩
abbrev cX8_shift : ByteArray := prog_1_method_8_code
def yX8_shift : MethodName := ⟨RX8, "shift", "(II)I"⟩
abbrev cX8_ticket : ByteArray := prog_1_method_9_code
def yX8_ticket : MethodName := ⟨RX8, "ticket", "(II)I"⟩
abbrev cX8_hour : ByteArray := prog_1_method_10_code
def yX8_hour : MethodName := ⟨RX8, "hour", "(IIII)I"⟩
abbrev cX8_feed : ByteArray := prog_1_method_11_code
def yX8_feed : MethodName := ⟨RX8, "feed", "(JI)I"⟩
abbrev cX8_rules : ByteArray := prog_1_method_12_code
def yX8_rules : MethodName := ⟨RX8, "rules", "()I"⟩
abbrev cX8_fault : ByteArray := prog_1_method_13_code
def yX8_fault : MethodName := ⟨RX8, "fault", "()I"⟩
abbrev cX8_rent : ByteArray := prog_1_method_14_code
def yX8_rent : MethodName := ⟨RX8, "rent", "(I)I"⟩
abbrev cX8_unpaid : ByteArray := prog_1_method_15_code
def yX8_unpaid : MethodName := ⟨RX8, "unpaid", "(III)I"⟩
abbrev cX8_walk : ByteArray := prog_1_method_16_code
def yX8_walk : MethodName := ⟨RX8, "walk", "(II)I"⟩
abbrev cX8_kind : ByteArray := prog_1_method_17_code
def yX8_kind : MethodName := ⟨RX8, "kind", "(I)I"⟩
abbrev cX8_as : ByteArray := prog_1_method_18_code
def yX8_as : MethodName := ⟨RX8, "as", "(II)I"⟩
abbrev cX8_ask : ByteArray := prog_1_method_19_code
def yX8_ask : MethodName := ⟨RX8, "ask", "(II)I"⟩
abbrev cX8_trace : ByteArray := prog_1_method_20_code
def yX8_trace : MethodName := ⟨RX8, "trace", "(I)I"⟩
abbrev cX8_count : ByteArray := prog_1_method_21_code
def yX8_count : MethodName := ⟨RX8, "count", "(I)I"⟩
abbrev cX8_within : ByteArray := prog_1_method_22_code
def yX8_within : MethodName := ⟨RX8, "within", "(III)Z"⟩
abbrev cX8_isStretch : ByteArray := prog_1_method_23_code
def yX8_isStretch : MethodName := ⟨RX8, "isStretch", "(I)Z"⟩
abbrev cX8_isPlace : ByteArray := prog_1_method_24_code
def yX8_isPlace : MethodName := ⟨RX8, "isPlace", "(I)Z"⟩
abbrev cX8_chairsToTake : ByteArray := prog_1_method_25_code
def yX8_chairsToTake : MethodName := ⟨RX8, "chairsToTake", "(I)I"⟩
abbrev cX8_addChairs : ByteArray := prog_1_method_26_code
def yX8_addChairs : MethodName := ⟨RX8, "addChairs", "(II)I"⟩
abbrev cX8_allStanding : ByteArray := prog_1_method_27_code
def yX8_allStanding : MethodName := ⟨RX8, "allStanding", "()I"⟩
abbrev cX8_takeByTide : ByteArray := prog_1_method_28_code
def yX8_takeByTide : MethodName := ⟨RX8, "takeByTide", "(I)V"⟩
abbrev cX8_endAllByWind : ByteArray := prog_1_method_29_code
def yX8_endAllByWind : MethodName := ⟨RX8, "endAllByWind", "()V"⟩
abbrev cX8_payBackRain : ByteArray := prog_1_method_30_code
def yX8_payBackRain : MethodName := ⟨RX8, "payBackRain", "(I)V"⟩
abbrev cX8_wearAll : ByteArray := prog_1_method_31_code
def yX8_wearAll : MethodName := ⟨RX8, "wearAll", "(I)V"⟩
abbrev cX8_breakChair : ByteArray := prog_1_method_32_code
def yX8_breakChair : MethodName := ⟨RX8, "breakChair", "(I)V"⟩
abbrev cX8_passAnHour : ByteArray := prog_1_method_33_code
def yX8_passAnHour : MethodName := ⟨RX8, "passAnHour", "()V"⟩
abbrev cX8_endTicket : ByteArray := prog_1_method_34_code
def yX8_endTicket : MethodName := ⟨RX8, "endTicket", "(LChairFront$Ticket;)V"⟩
def RX9 : String := "ChairFrontModel"
def TX9 : u_T := fun k => match k with
  | 0 => ("ChairFrontModel", "thrown", "I", false)
  | 1 => ("ChairFrontModel", "stack", "I", false)
  | 2 => ("ChairFrontModel", "lost", "I", false)
  | 3 => ("ChairFrontModel", "broken", "I", false)
  | 4 => ("ChairFrontModel", "price", "I", false)
  | 5 => ("ChairFrontModel", "stop", "I", false)
  | 6 => ("ChairFrontModel", "wind", "I", false)
  | 7 => ("ChairFrontModel", "hours", "I", false)
  | 8 => ("ChairFrontModel", "paid", "I", false)
  | 9 => ("ChairFrontModel", "back", "I", false)
  | 10 => ("ChairFrontModel", "stretches", "I", false)
  | 11 => ("ChairFrontModel", "height", "[I", true)
  | 12 => ("ChairFrontModel", "zone", "[I", true)
  | 13 => ("ChairFrontModel", "free", "[I", true)
  | 14 => ("ChairFrontModel", "hired", "[I", true)
  | 15 => ("ChairFrontModel", "wear", "[I", true)
  | 16 => ("ChairFrontModel", "unpaid", "[I", true)
  | 17 => ("ChairFrontModel", "goes", "[I", true)
  | 18 => ("ChairFrontModel", "running", "I", false)
  | 19 => ("ChairFrontModel", "ever", "I", false)
  | 20 => ("ChairFrontModel", "number", "[I", true)
  | 21 => ("ChairFrontModel", "place", "[I", true)
  | 22 => ("ChairFrontModel", "chairs", "[I", true)
  | 23 => ("ChairFrontModel", "left", "[I", true)
  | 24 => ("ChairFrontModel", "own", "[I", true)
  | 25 => ("ChairFrontModel", "cost", "[I", true)
  | 26 => ("ChairFrontModel", "home", "[I", true)
  | 27 => ("ChairFrontModel", "hold", "I", false)
  | 28 => ("ChairFrontModel", "rains", "I", false)
  | 29 => ("ChairFrontModel", "rainFrom", "[I", true)
  | 30 => ("ChairFrontModel", "rainPart", "[I", true)
  | 31 => ("ChairFrontModel", "rents", "I", false)
  | 32 => ("ChairFrontModel", "rentTo", "[I", true)
  | 33 => ("ChairFrontModel", "rentPart", "[I", true)
  | 34 => ("ChairFrontModel", "newHold", "I", false)
  | 35 => ("ChairFrontModel", "newRains", "I", false)
  | 36 => ("ChairFrontModel", "newRainFrom", "[I", true)
  | 37 => ("ChairFrontModel", "newRainPart", "[I", true)
  | 38 => ("ChairFrontModel", "newRents", "I", false)
  | 39 => ("ChairFrontModel", "newRentTo", "[I", true)
  | 40 => ("ChairFrontModel", "newRentPart", "[I", true)
  | 41 => ("ChairFrontModel", "tape", "[I", true)
  | 42 => ("ChairFrontModel", "taped", "I", false)
  | 43 => ("ChairFrontModel", "latest", "I", false)
  | 44 => ("ChairFrontModel", "size", "I", false)
  | 45 => ("ChairFrontModel", "at", "I", false)
  | 46 => ("ChairFrontModel", "sort", "I", false)
  | 47 => ("ChairFrontModel", "from", "I", false)
  | 48 => ("ChairFrontModel", "till", "I", false)
  | 49 => ("ChairFrontModel", "fault", "I", false)
  | 50 => ("ChairFrontModel", "faultAt", "I", false)
  | 51 => ("ChairFrontModel", "order", "[I", true)
  | 52 => ("ChairFrontModel", "best", "[I", true)
  | 53 => ("ChairFrontModel", "trace", "[I", true)
  | _ => ("ChairFrontModel", "traced", "I", false)
def tyX9 : Nat → FieldType := fun k => match k with
  | 0 => .int
  | 1 => .int
  | 2 => .int
  | 3 => .int
  | 4 => .int
  | 5 => .int
  | 6 => .int
  | 7 => .int
  | 8 => .int
  | 9 => .int
  | 10 => .int
  | 11 => .array .int
  | 12 => .array .int
  | 13 => .array .int
  | 14 => .array .int
  | 15 => .array .int
  | 16 => .array .int
  | 17 => .array .int
  | 18 => .int
  | 19 => .int
  | 20 => .array .int
  | 21 => .array .int
  | 22 => .array .int
  | 23 => .array .int
  | 24 => .array .int
  | 25 => .array .int
  | 26 => .array .int
  | 27 => .int
  | 28 => .int
  | 29 => .array .int
  | 30 => .array .int
  | 31 => .int
  | 32 => .array .int
  | 33 => .array .int
  | 34 => .int
  | 35 => .int
  | 36 => .array .int
  | 37 => .array .int
  | 38 => .int
  | 39 => .array .int
  | 40 => .array .int
  | 41 => .array .int
  | 42 => .int
  | 43 => .int
  | 44 => .int
  | 45 => .int
  | 46 => .int
  | 47 => .int
  | 48 => .int
  | 49 => .int
  | 50 => .int
  | 51 => .array .int
  | 52 => .array .int
  | 53 => .array .int
  | _ => .int
theorem nmX9 : ∀ a, a < 55 → ∀ b, b < 55 → a ≠ b → (TX9 a).2.1 ≠ (TX9 b).2.1 := by decide +kernel
theorem tyX9_ok : ∀ k, k < 55 → parseFieldDescriptor (TX9 k).2.2.1 = some (tyX9 k) := by decide +kernel
abbrev cX9_in : ByteArray := prog_11_method_2_code
def yX9_in : MethodName := ⟨RX9, "in", "(JJJ)Z"⟩
abbrev cX9_init : ByteArray := prog_11_method_3_code
def yX9_init : MethodName := ⟨RX9, "<init>", "(I)V"⟩
abbrev cX9_isStretch : ByteArray := prog_11_method_4_code
def yX9_isStretch : MethodName := ⟨RX9, "isStretch", "(I)Z"⟩
abbrev cX9_stretch : ByteArray := prog_11_method_5_code
def yX9_stretch : MethodName := ⟨RX9, "stretch", "(II)I"⟩
abbrev cX9_standing : ByteArray := prog_11_method_6_code
def yX9_standing : MethodName := ⟨RX9, "standing", "(I)I"⟩
abbrev cX9_carry : ByteArray := prog_11_method_7_code
def yX9_carry : MethodName := ⟨RX9, "carry", "(III)I"⟩
abbrev cX9_told : ByteArray := prog_11_method_8_code
def yX9_told : MethodName := ⟨RX9, "told", "(II)I"⟩
abbrev cX9_rule : ByteArray := prog_11_method_9_code
def yX9_rule : MethodName := ⟨RX9, "rule", "(II)I"⟩
abbrev cX9_mend : ByteArray := prog_11_method_10_code
def yX9_mend : MethodName := ⟨RX9, "mend", "(I)I"⟩
abbrev cX9_hire : ByteArray := prog_11_method_11_code
def yX9_hire : MethodName := ⟨RX9, "hire", "(III)I"⟩
abbrev cX9_slotOf : ByteArray := prog_11_method_12_code
def yX9_slotOf : MethodName := ⟨RX9, "slotOf", "(I)I"⟩
abbrev cX9_shift : ByteArray := prog_11_method_13_code
def yX9_shift : MethodName := ⟨RX9, "shift", "(II)I"⟩
abbrev cX9_ticket : ByteArray := prog_11_method_14_code
def yX9_ticket : MethodName := ⟨RX9, "ticket", "(II)I"⟩
abbrev cX9_end : ByteArray := prog_11_method_15_code
def yX9_end : MethodName := ⟨RX9, "end", "(I)V"⟩
abbrev cX9_tear : ByteArray := prog_11_method_16_code
def yX9_tear : MethodName := ⟨RX9, "tear", "(I)V"⟩
abbrev cX9_hour : ByteArray := prog_11_method_17_code
def yX9_hour : MethodName := ⟨RX9, "hour", "(IIII)I"⟩
abbrev cX9_feed : ByteArray := prog_11_method_18_code
def yX9_feed : MethodName := ⟨RX9, "feed", "(JI)I"⟩
abbrev cX9_byteAt : ByteArray := prog_11_method_19_code
def yX9_byteAt : MethodName := ⟨RX9, "byteAt", "(I)I"⟩
abbrev cX9_isLetter : ByteArray := prog_11_method_20_code
def yX9_isLetter : MethodName := ⟨RX9, "isLetter", "(I)Z"⟩
abbrev cX9_isFigure : ByteArray := prog_11_method_21_code
def yX9_isFigure : MethodName := ⟨RX9, "isFigure", "(I)Z"⟩
abbrev cX9_step : ByteArray := prog_11_method_22_code
def yX9_step : MethodName := ⟨RX9, "step", "()V"⟩
abbrev cX9_bad : ByteArray := prog_11_method_23_code
def yX9_bad : MethodName := ⟨RX9, "bad", "(I)V"⟩
abbrev cX9_need : ByteArray := prog_11_method_24_code
def yX9_need : MethodName := ⟨RX9, "need", "(Z)V"⟩
abbrev cX9_word : ByteArray := prog_11_method_25_code
def yX9_word : MethodName := ⟨RX9, "word", "()J"⟩
abbrev cX9_numberIn : ByteArray := prog_11_method_26_code
def yX9_numberIn : MethodName := ⟨RX9, "numberIn", "(II)I"⟩
abbrev cX9_readLine : ByteArray := prog_11_method_27_code
def yX9_readLine : MethodName := ⟨RX9, "readLine", "()V"⟩
abbrev cX9_rules : ByteArray := prog_11_method_28_code
def yX9_rules : MethodName := ⟨RX9, "rules", "()I"⟩
abbrev cX9_fault : ByteArray := prog_11_method_29_code
def yX9_fault : MethodName := ⟨RX9, "fault", "()I"⟩
abbrev cX9_rent : ByteArray := prog_11_method_30_code
def yX9_rent : MethodName := ⟨RX9, "rent", "(I)I"⟩
abbrev cX9_unpaid : ByteArray := prog_11_method_31_code
def yX9_unpaid : MethodName := ⟨RX9, "unpaid", "(III)I"⟩
abbrev cX9_next : ByteArray := prog_11_method_32_code
def yX9_next : MethodName := ⟨RX9, "next", "(I)Z"⟩
abbrev cX9_walk : ByteArray := prog_11_method_33_code
def yX9_walk : MethodName := ⟨RX9, "walk", "(II)I"⟩
abbrev cX9_kindOf : ByteArray := prog_11_method_34_code
def yX9_kindOf : MethodName := ⟨RX9, "kindOf", "(I)I"⟩
abbrev cX9_kind : ByteArray := prog_11_method_35_code
def yX9_kind : MethodName := ⟨RX9, "kind", "(I)I"⟩
abbrev cX9_as : ByteArray := prog_11_method_36_code
def yX9_as : MethodName := ⟨RX9, "as", "(II)I"⟩
abbrev cX9_began : ByteArray := prog_11_method_37_code
def yX9_began : MethodName := ⟨RX9, "began", "(I)V"⟩
abbrev cX9_bareWorth : ByteArray := prog_11_method_38_code
def yX9_bareWorth : MethodName := ⟨RX9, "bareWorth", "(I)I"⟩
abbrev cX9_marked : ByteArray := prog_11_method_39_code
def yX9_marked : MethodName := ⟨RX9, "marked", "(I)I"⟩
abbrev cX9_worth : ByteArray := prog_11_method_40_code
def yX9_worth : MethodName := ⟨RX9, "worth", "(I)I"⟩
abbrev cX9_ask : ByteArray := prog_11_method_41_code
def yX9_ask : MethodName := ⟨RX9, "ask", "(II)I"⟩
abbrev cX9_trace : ByteArray := prog_11_method_42_code
def yX9_trace : MethodName := ⟨RX9, "trace", "(I)I"⟩
abbrev cX9_count : ByteArray := prog_11_method_43_code
def yX9_count : MethodName := ⟨RX9, "count", "(I)I"⟩
def RJ6 : String := "java/lang/Integer"
def TJ6 : u_T := fun k => match k with
  | _ => ("", "", "", false)
def tyJ6 : Nat → FieldType := fun k => match k with
  | _ => .int
theorem nmJ6 : ∀ a, a < 0 → ∀ b, b < 0 → a ≠ b → (TJ6 a).2.1 ≠ (TJ6 b).2.1 := by decide +kernel
theorem tyJ6_ok : ∀ k, k < 0 → parseFieldDescriptor (TJ6 k).2.2.1 = some (tyJ6 k) := by decide +kernel
abbrev cJ6_bitCount_0f7a4 : ByteArray := prog_12_method_49_code
def yJ6_bitCount_0f7a4 : MethodName := ⟨RJ6, "bitCount", "(I)I"⟩
def RJ9 : String := "java/lang/Math"
def TJ9 : u_T := fun k => match k with
  | _ => ("", "", "", false)
def tyJ9 : Nat → FieldType := fun k => match k with
  | _ => .int
theorem nmJ9 : ∀ a, a < 0 → ∀ b, b < 0 → a ≠ b → (TJ9 a).2.1 ≠ (TJ9 b).2.1 := by decide +kernel
theorem tyJ9_ok : ∀ k, k < 0 → parseFieldDescriptor (TJ9 k).2.2.1 = some (tyJ9 k) := by decide +kernel
abbrev cJ9_max_7cf53 : ByteArray := prog_13_method_65_code
def yJ9_max_7cf53 : MethodName := ⟨RJ9, "max", "(II)I"⟩
abbrev cJ9_min_7cf53 : ByteArray := prog_13_method_69_code
def yJ9_min_7cf53 : MethodName := ⟨RJ9, "min", "(II)I"⟩
def RJ0 : String := "java/lang/String"
def TJ0 : u_T := fun k => match k with
  | _ => ("", "", "", false)
def tyJ0 : Nat → FieldType := fun k => match k with
  | _ => .int
theorem nmJ0 : ∀ a, a < 0 → ∀ b, b < 0 → a ≠ b → (TJ0 a).2.1 ≠ (TJ0 b).2.1 := by decide +kernel
theorem tyJ0_ok : ∀ k, k < 0 → parseFieldDescriptor (TJ0 k).2.2.1 = some (tyJ0 k) := by decide +kernel
abbrev cJ0_length_8abf5 : ByteArray := prog_14_method_54_code
def yJ0_length_8abf5 : MethodName := ⟨RJ0, "length", "()I"⟩
abbrev cJ0_charAt_5068e : ByteArray := prog_14_method_56_code
def yJ0_charAt_5068e : MethodName := ⟨RJ0, "charAt", "(I)C"⟩
abbrev cJ0_coder_7d493 : ByteArray := prog_14_method_152_code
def yJ0_coder_7d493 : MethodName := ⟨RJ0, "coder", "()B"⟩
abbrev cJ0_isLatin1_aae02 : ByteArray := prog_14_method_154_code
def yJ0_isLatin1_aae02 : MethodName := ⟨RJ0, "isLatin1", "()Z"⟩
abbrev cJ0_checkIndex_df160 : ByteArray := prog_14_method_155_code
def yJ0_checkIndex_df160 : MethodName := ⟨RJ0, "checkIndex", "(II)V"⟩
def RJ1 : String := "java/lang/StringLatin1"
def TJ1 : u_T := fun k => match k with
  | _ => ("", "", "", false)
def tyJ1 : Nat → FieldType := fun k => match k with
  | _ => .int
theorem nmJ1 : ∀ a, a < 0 → ∀ b, b < 0 → a ≠ b → (TJ1 a).2.1 ≠ (TJ1 b).2.1 := by decide +kernel
theorem tyJ1_ok : ∀ k, k < 0 → parseFieldDescriptor (TJ1 k).2.2.1 = some (tyJ1 k) := by decide +kernel
abbrev cJ1_charAt_3b067 : ByteArray := prog_15_method_2_code
def yJ1_charAt_3b067 : MethodName := ⟨RJ1, "charAt", "([BI)C"⟩
def RJ2 : String := "java/lang/StringUTF16"
def TJ2 : u_T := fun k => match k with
  | _ => ("", "", "", false)
def tyJ2 : Nat → FieldType := fun k => match k with
  | _ => .int
theorem nmJ2 : ∀ a, a < 0 → ∀ b, b < 0 → a ≠ b → (TJ2 a).2.1 ≠ (TJ2 b).2.1 := by decide +kernel
theorem tyJ2_ok : ∀ k, k < 0 → parseFieldDescriptor (TJ2 k).2.2.1 = some (tyJ2 k) := by decide +kernel
abbrev cJ2_getChar_3b067 : ByteArray := prog_16_method_5_code
def yJ2_getChar_3b067 : MethodName := ⟨RJ2, "getChar", "([BI)C"⟩
abbrev cJ2_length_9d52b : ByteArray := prog_16_method_6_code
def yJ2_length_9d52b : MethodName := ⟨RJ2, "length", "([B)I"⟩
abbrev cJ2_charAt_3b067 : ByteArray := prog_16_method_83_code
def yJ2_charAt_3b067 : MethodName := ⟨RJ2, "charAt", "([BI)C"⟩
abbrev cJ2_checkIndex_2214a : ByteArray := prog_16_method_91_code
def yJ2_checkIndex_2214a : MethodName := ⟨RJ2, "checkIndex", "(I[B)V"⟩
def RJ3 : String := "jdk/internal/util/Preconditions"
def TJ3 : u_T := fun k => match k with
  | _ => ("", "", "", false)
def tyJ3 : Nat → FieldType := fun k => match k with
  | _ => .int
theorem nmJ3 : ∀ a, a < 0 → ∀ b, b < 0 → a ≠ b → (TJ3 a).2.1 ≠ (TJ3 b).2.1 := by decide +kernel
theorem tyJ3_ok : ∀ k, k < 0 → parseFieldDescriptor (TJ3 k).2.2.1 = some (tyJ3 k) := by decide +kernel
abbrev cJ3_checkIndex_8e157 : ByteArray := prog_17_method_11_code
def yJ3_checkIndex_8e157 : MethodName := ⟨RJ3, "checkIndex", "(IILjava/util/function/BiFunction;)I"⟩
def RL : String := "ChairFrontLaw"
abbrev cL_cell : ByteArray := method_2_code
def yL_cell : MethodName := ⟨RL, "cell", "([II)I"⟩
abbrev cL_law : ByteArray := code
def yL_law : MethodName := ⟨RL, "law", "([I)Z"⟩
abbrev vwCl : List vw_C := [(RX0, TX0, 2), (RX1, TX1, 4), (RX2, TX2, 9), (RX3, TX3, 8), (RX4, TX4, 7), (RX5, TX5, 2), (RX6, TX6, 7), (RX7, TX7, 5), (RX8, TX8, 16), (RX9, TX9, 55)]
/-- the tables' words that stay -/
def WS : List Cond := lw_tbl.filter goodWord
theorem WS_tbl : ∀ w ∈ WS, w ∈ lw_tbl := fun _ h => (List.mem_filter.mp h).1
theorem WS_good : ∀ w ∈ WS, (w.onTables && w.keeps) = true ∨ ∃ ty, w = .arrayClass ty := fun _ h => good_of_word (List.mem_filter.mp h).2
theorem mW {w : Cond} (i : Nat) (h : lw_tbl[i]? = some w) (hg : goodWord w = true) : w ∈ WS := List.mem_filter.mpr ⟨List.mem_of_getElem? h, hg⟩
/-- a method's words: its code, and all -/
def wS (y : MethodName) (cc : ByteArray) (n : Nat) (ret : Option FieldType) : List Cond := .code y cc n ret :: WS
theorem wS_good {big : List Cond} (hb : ∀ w ∈ WS, w ∈ big) {y : MethodName} {cc : ByteArray} {n : Nat} {ret : Option FieldType} (h : Cond.code y cc n ret ∈ WS) : GoodIn big (wS y cc n ret) := by
  intro w hw
  rcases List.mem_cons.mp hw with rfl | hw
  · exact ⟨hb _ h, WS_good _ h⟩
  · exact ⟨hb _ hw, WS_good _ hw⟩
end
section
theorem dX0_init_0 : decode cX0_init 0 = .ok (.aload_n 0, 1) := by decide +kernel
theorem dX0_init_1 : decode cX0_init 1 = .ok (.invokespecial 1, 3) := by decide +kernel
theorem dX0_init_4 : decode cX0_init 4 = .ok (.aload_n 0, 1) := by decide +kernel
theorem dX0_init_5 : decode cX0_init 5 = .ok (.bipush 16, 2) := by decide +kernel
theorem dX0_init_7 : decode cX0_init 7 = .ok (.newarray .int, 2) := by decide +kernel
theorem dX0_init_9 : decode cX0_init 9 = .ok (.putfield 9, 3) := by decide +kernel
theorem dX0_init_12 : decode cX0_init 12 = .ok (.return_, 1) := by decide +kernel
theorem dX0_worthOf_0 : decode cX0_worthOf 0 = .ok (.aload_n 1, 1) := by decide +kernel
theorem dX0_worthOf_1 : decode cX0_worthOf 1 = .ok (.invokevirtual 13, 3) := by decide +kernel
theorem dX0_worthOf_4 : decode cX0_worthOf 4 = .ok (.tableswitch 46 1 3 #[34, 28, 40], 28) := by decide +kernel
theorem dX0_worthOf_32 : decode cX0_worthOf 32 = .ok (.aload_n 0, 1) := by decide +kernel
theorem dX0_worthOf_33 : decode cX0_worthOf 33 = .ok (.aload_n 1, 1) := by decide +kernel
theorem dX0_worthOf_34 : decode cX0_worthOf 34 = .ok (.invokevirtual 19, 3) := by decide +kernel
theorem dX0_worthOf_37 : decode cX0_worthOf 37 = .ok (.ireturn, 1) := by decide +kernel
theorem dX0_worthOf_38 : decode cX0_worthOf 38 = .ok (.aload_n 0, 1) := by decide +kernel
theorem dX0_worthOf_39 : decode cX0_worthOf 39 = .ok (.aload_n 1, 1) := by decide +kernel
theorem dX0_worthOf_40 : decode cX0_worthOf 40 = .ok (.invokevirtual 23, 3) := by decide +kernel
theorem dX0_worthOf_43 : decode cX0_worthOf 43 = .ok (.ireturn, 1) := by decide +kernel
theorem dX0_worthOf_44 : decode cX0_worthOf 44 = .ok (.aload_n 0, 1) := by decide +kernel
theorem dX0_worthOf_45 : decode cX0_worthOf 45 = .ok (.aload_n 1, 1) := by decide +kernel
theorem dX0_worthOf_46 : decode cX0_worthOf 46 = .ok (.invokevirtual 26, 3) := by decide +kernel
theorem dX0_worthOf_49 : decode cX0_worthOf 49 = .ok (.ireturn, 1) := by decide +kernel
theorem dX0_worthOf_50 : decode cX0_worthOf 50 = .ok (.aload_n 0, 1) := by decide +kernel
theorem dX0_worthOf_51 : decode cX0_worthOf 51 = .ok (.aload_n 1, 1) := by decide +kernel
theorem dX0_worthOf_52 : decode cX0_worthOf 52 = .ok (.invokevirtual 29, 3) := by decide +kernel
theorem dX0_worthOf_55 : decode cX0_worthOf 55 = .ok (.ireturn, 1) := by decide +kernel
theorem dX0_markOf_0 : decode cX0_markOf 0 = .ok (.aload_n 1, 1) := by decide +kernel
theorem dX0_markOf_1 : decode cX0_markOf 1 = .ok (.invokevirtual 13, 3) := by decide +kernel
theorem dX0_markOf_4 : decode cX0_markOf 4 = .ok (.lookupswitch 40 #[(2, 28), (3, 34)], 28) := by decide +kernel
theorem dX0_markOf_32 : decode cX0_markOf 32 = .ok (.aload_n 0, 1) := by decide +kernel
theorem dX0_markOf_33 : decode cX0_markOf 33 = .ok (.aload_n 1, 1) := by decide +kernel
theorem dX0_markOf_34 : decode cX0_markOf 34 = .ok (.invokevirtual 32, 3) := by decide +kernel
theorem dX0_markOf_37 : decode cX0_markOf 37 = .ok (.ireturn, 1) := by decide +kernel
theorem dX0_markOf_38 : decode cX0_markOf 38 = .ok (.aload_n 0, 1) := by decide +kernel
theorem dX0_markOf_39 : decode cX0_markOf 39 = .ok (.aload_n 1, 1) := by decide +kernel
theorem dX0_markOf_40 : decode cX0_markOf 40 = .ok (.invokevirtual 35, 3) := by decide +kernel
theorem dX0_markOf_43 : decode cX0_markOf 43 = .ok (.ireturn, 1) := by decide +kernel
theorem dX0_markOf_44 : decode cX0_markOf 44 = .ok (.aload_n 0, 1) := by decide +kernel
theorem dX0_markOf_45 : decode cX0_markOf 45 = .ok (.aload_n 1, 1) := by decide +kernel
theorem dX0_markOf_46 : decode cX0_markOf 46 = .ok (.invokevirtual 38, 3) := by decide +kernel
theorem dX0_markOf_49 : decode cX0_markOf 49 = .ok (.ireturn, 1) := by decide +kernel
theorem dX0_worthLent_0 : decode cX0_worthLent 0 = .ok (.aload_n 0, 1) := by decide +kernel
theorem dX0_worthLent_1 : decode cX0_worthLent 1 = .ok (.bipush 10, 2) := by decide +kernel
theorem dX0_worthLent_3 : decode cX0_worthLent 3 = .ok (.invokevirtual 41, 3) := by decide +kernel
theorem dX0_worthLent_6 : decode cX0_worthLent 6 = .ok (.aload_n 1, 1) := by decide +kernel
theorem dX0_worthLent_7 : decode cX0_worthLent 7 = .ok (.getfield 45, 3) := by decide +kernel
theorem dX0_worthLent_10 : decode cX0_worthLent 10 = .ok (.ireturn, 1) := by decide +kernel
theorem dX0_worthOfSold_0 : decode cX0_worthOfSold 0 = .ok (.aload_n 0, 1) := by decide +kernel
theorem dX0_worthOfSold_1 : decode cX0_worthOfSold 1 = .ok (.bipush 11, 2) := by decide +kernel
theorem dX0_worthOfSold_3 : decode cX0_worthOfSold 3 = .ok (.invokevirtual 41, 3) := by decide +kernel
theorem dX0_worthOfSold_6 : decode cX0_worthOfSold 6 = .ok (.aload_n 0, 1) := by decide +kernel
theorem dX0_worthOfSold_7 : decode cX0_worthOfSold 7 = .ok (.aload_n 1, 1) := by decide +kernel
theorem dX0_worthOfSold_8 : decode cX0_worthOfSold 8 = .ok (.invokevirtual 29, 3) := by decide +kernel
theorem dX0_worthOfSold_11 : decode cX0_worthOfSold 11 = .ok (.sipush 1000, 3) := by decide +kernel
theorem dX0_worthOfSold_14 : decode cX0_worthOfSold 14 = .ok (.iadd, 1) := by decide +kernel
theorem dX0_worthOfSold_15 : decode cX0_worthOfSold 15 = .ok (.ireturn, 1) := by decide +kernel
theorem dX0_worthOfCrowd_0 : decode cX0_worthOfCrowd 0 = .ok (.aload_n 0, 1) := by decide +kernel
theorem dX0_worthOfCrowd_1 : decode cX0_worthOfCrowd 1 = .ok (.bipush 12, 2) := by decide +kernel
theorem dX0_worthOfCrowd_3 : decode cX0_worthOfCrowd 3 = .ok (.invokevirtual 41, 3) := by decide +kernel
theorem dX0_worthOfCrowd_6 : decode cX0_worthOfCrowd 6 = .ok (.aload_n 0, 1) := by decide +kernel
theorem dX0_worthOfCrowd_7 : decode cX0_worthOfCrowd 7 = .ok (.aload_n 1, 1) := by decide +kernel
theorem dX0_worthOfCrowd_8 : decode cX0_worthOfCrowd 8 = .ok (.invokevirtual 23, 3) := by decide +kernel
theorem dX0_worthOfCrowd_11 : decode cX0_worthOfCrowd 11 = .ok (.istore_n 2, 1) := by decide +kernel
theorem dX0_worthOfCrowd_12 : decode cX0_worthOfCrowd 12 = .ok (.iload_n 2, 1) := by decide +kernel
theorem dX0_worthOfCrowd_13 : decode cX0_worthOfCrowd 13 = .ok (.aload_n 0, 1) := by decide +kernel
theorem dX0_worthOfCrowd_14 : decode cX0_worthOfCrowd 14 = .ok (.aload_n 1, 1) := by decide +kernel
theorem dX0_worthOfCrowd_15 : decode cX0_worthOfCrowd 15 = .ok (.invokevirtual 32, 3) := by decide +kernel
theorem dX0_worthOfCrowd_18 : decode cX0_worthOfCrowd 18 = .ok (.iadd, 1) := by decide +kernel
theorem dX0_worthOfCrowd_19 : decode cX0_worthOfCrowd 19 = .ok (.ireturn, 1) := by decide +kernel
theorem dX0_worthOfBare_0 : decode cX0_worthOfBare 0 = .ok (.aload_n 0, 1) := by decide +kernel
theorem dX0_worthOfBare_1 : decode cX0_worthOfBare 1 = .ok (.bipush 13, 2) := by decide +kernel
theorem dX0_worthOfBare_3 : decode cX0_worthOfBare 3 = .ok (.invokevirtual 41, 3) := by decide +kernel
theorem dX0_worthOfBare_6 : decode cX0_worthOfBare 6 = .ok (.aload_n 1, 1) := by decide +kernel
theorem dX0_worthOfBare_7 : decode cX0_worthOfBare 7 = .ok (.getfield 49, 3) := by decide +kernel
theorem dX0_worthOfBare_10 : decode cX0_worthOfBare 10 = .ok (.ireturn, 1) := by decide +kernel
theorem dX0_markLent_0 : decode cX0_markLent 0 = .ok (.aload_n 0, 1) := by decide +kernel
theorem dX0_markLent_1 : decode cX0_markLent 1 = .ok (.bipush 20, 2) := by decide +kernel
theorem dX0_markLent_3 : decode cX0_markLent 3 = .ok (.invokevirtual 41, 3) := by decide +kernel
theorem dX0_markLent_6 : decode cX0_markLent 6 = .ok (.aload_n 1, 1) := by decide +kernel
theorem dX0_markLent_7 : decode cX0_markLent 7 = .ok (.getfield 52, 3) := by decide +kernel
theorem dX0_markLent_10 : decode cX0_markLent 10 = .ok (.ireturn, 1) := by decide +kernel
theorem dX0_markOfCrowd_0 : decode cX0_markOfCrowd 0 = .ok (.aload_n 0, 1) := by decide +kernel
theorem dX0_markOfCrowd_1 : decode cX0_markOfCrowd 1 = .ok (.bipush 21, 2) := by decide +kernel
theorem dX0_markOfCrowd_3 : decode cX0_markOfCrowd 3 = .ok (.invokevirtual 41, 3) := by decide +kernel
theorem dX0_markOfCrowd_6 : decode cX0_markOfCrowd 6 = .ok (.aload_n 0, 1) := by decide +kernel
theorem dX0_markOfCrowd_7 : decode cX0_markOfCrowd 7 = .ok (.aload_n 1, 1) := by decide +kernel
theorem dX0_markOfCrowd_8 : decode cX0_markOfCrowd 8 = .ok (.invokevirtual 38, 3) := by decide +kernel
theorem dX0_markOfCrowd_11 : decode cX0_markOfCrowd 11 = .ok (.aload_n 1, 1) := by decide +kernel
theorem dX0_markOfCrowd_12 : decode cX0_markOfCrowd 12 = .ok (.getfield 55, 3) := by decide +kernel
theorem dX0_markOfCrowd_15 : decode cX0_markOfCrowd 15 = .ok (.iadd, 1) := by decide +kernel
theorem dX0_markOfCrowd_16 : decode cX0_markOfCrowd 16 = .ok (.ireturn, 1) := by decide +kernel
theorem dX0_markOfBare_0 : decode cX0_markOfBare 0 = .ok (.aload_n 0, 1) := by decide +kernel
theorem dX0_markOfBare_1 : decode cX0_markOfBare 1 = .ok (.bipush 22, 2) := by decide +kernel
theorem dX0_markOfBare_3 : decode cX0_markOfBare 3 = .ok (.invokevirtual 41, 3) := by decide +kernel
theorem dX0_markOfBare_6 : decode cX0_markOfBare 6 = .ok (.aload_n 0, 1) := by decide +kernel
theorem dX0_markOfBare_7 : decode cX0_markOfBare 7 = .ok (.aload_n 1, 1) := by decide +kernel
theorem dX0_markOfBare_8 : decode cX0_markOfBare 8 = .ok (.invokevirtual 38, 3) := by decide +kernel
theorem dX0_markOfBare_11 : decode cX0_markOfBare 11 = .ok (.istore_n 2, 1) := by decide +kernel
theorem dX0_markOfBare_12 : decode cX0_markOfBare 12 = .ok (.iload_n 2, 1) := by decide +kernel
theorem dX0_markOfBare_13 : decode cX0_markOfBare 13 = .ok (.aload_n 0, 1) := by decide +kernel
theorem dX0_markOfBare_14 : decode cX0_markOfBare 14 = .ok (.aload_n 1, 1) := by decide +kernel
theorem dX0_markOfBare_15 : decode cX0_markOfBare 15 = .ok (.invokevirtual 26, 3) := by decide +kernel
theorem dX0_markOfBare_18 : decode cX0_markOfBare 18 = .ok (.iadd, 1) := by decide +kernel
theorem dX0_markOfBare_19 : decode cX0_markOfBare 19 = .ok (.ireturn, 1) := by decide +kernel
theorem dX0_leave_0 : decode cX0_leave 0 = .ok (.aload_n 0, 1) := by decide +kernel
theorem dX0_leave_1 : decode cX0_leave 1 = .ok (.getfield 58, 3) := by decide +kernel
theorem dX0_leave_4 : decode cX0_leave 4 = .ok (.aload_n 0, 1) := by decide +kernel
theorem dX0_leave_5 : decode cX0_leave 5 = .ok (.getfield 9, 3) := by decide +kernel
theorem dX0_leave_8 : decode cX0_leave 8 = .ok (.arraylength, 1) := by decide +kernel
theorem dX0_leave_9 : decode cX0_leave 9 = .ok (.if_icmp .ge 23, 3) := by decide +kernel
theorem dX0_leave_12 : decode cX0_leave 12 = .ok (.aload_n 0, 1) := by decide +kernel
theorem dX0_leave_13 : decode cX0_leave 13 = .ok (.getfield 9, 3) := by decide +kernel
theorem dX0_leave_16 : decode cX0_leave 16 = .ok (.aload_n 0, 1) := by decide +kernel
theorem dX0_leave_17 : decode cX0_leave 17 = .ok (.getfield 58, 3) := by decide +kernel
theorem dX0_leave_20 : decode cX0_leave 20 = .ok (.iload_n 1, 1) := by decide +kernel
theorem dX0_leave_21 : decode cX0_leave 21 = .ok (.iastore, 1) := by decide +kernel
theorem dX0_leave_22 : decode cX0_leave 22 = .ok (.aload_n 0, 1) := by decide +kernel
theorem dX0_leave_23 : decode cX0_leave 23 = .ok (.dup, 1) := by decide +kernel
theorem dX0_leave_24 : decode cX0_leave 24 = .ok (.getfield 58, 3) := by decide +kernel
theorem dX0_leave_27 : decode cX0_leave 27 = .ok (.iconst 1, 1) := by decide +kernel
theorem dX0_leave_28 : decode cX0_leave 28 = .ok (.iadd, 1) := by decide +kernel
theorem dX0_leave_29 : decode cX0_leave 29 = .ok (.putfield 58, 3) := by decide +kernel
theorem dX0_leave_32 : decode cX0_leave 32 = .ok (.return_, 1) := by decide +kernel
theorem dX1_init_0 : decode cX1_init 0 = .ok (.aload_n 0, 1) := by decide +kernel
theorem dX1_init_1 : decode cX1_init 1 = .ok (.invokespecial 3, 3) := by decide +kernel
theorem dX1_init_4 : decode cX1_init 4 = .ok (.aload_n 0, 1) := by decide +kernel
theorem dX1_init_5 : decode cX1_init 5 = .ok (.bipush 7, 2) := by decide +kernel
theorem dX1_init_7 : decode cX1_init 7 = .ok (.newarray .int, 2) := by decide +kernel
theorem dX1_init_9 : decode cX1_init 9 = .ok (.putfield 11, 3) := by decide +kernel
theorem dX1_init_12 : decode cX1_init 12 = .ok (.aload_n 0, 1) := by decide +kernel
theorem dX1_init_13 : decode cX1_init 13 = .ok (.bipush 49, 2) := by decide +kernel
theorem dX1_init_15 : decode cX1_init 15 = .ok (.newarray .int, 2) := by decide +kernel
theorem dX1_init_17 : decode cX1_init 17 = .ok (.putfield 15, 3) := by decide +kernel
theorem dX1_init_20 : decode cX1_init 20 = .ok (.aload_n 0, 1) := by decide +kernel
theorem dX1_init_21 : decode cX1_init 21 = .ok (.sipush 128, 3) := by decide +kernel
theorem dX1_init_24 : decode cX1_init 24 = .ok (.newarray .int, 2) := by decide +kernel
theorem dX1_init_26 : decode cX1_init 26 = .ok (.putfield 18, 3) := by decide +kernel
theorem dX1_init_29 : decode cX1_init 29 = .ok (.return_, 1) := by decide +kernel
theorem dX1_plan_0 : decode cX1_plan 0 = .ok (.aload_n 0, 1) := by decide +kernel
theorem dX1_plan_1 : decode cX1_plan 1 = .ok (.iconst 0, 1) := by decide +kernel
theorem dX1_plan_2 : decode cX1_plan 2 = .ok (.putfield 21, 3) := by decide +kernel
theorem dX1_plan_5 : decode cX1_plan 5 = .ok (.iconst 0, 1) := by decide +kernel
theorem dX1_plan_6 : decode cX1_plan 6 = .ok (.istore_n 3, 1) := by decide +kernel
theorem dX1_plan_7 : decode cX1_plan 7 = .ok (.iload_n 3, 1) := by decide +kernel
theorem dX1_plan_8 : decode cX1_plan 8 = .ok (.aload_n 2, 1) := by decide +kernel
theorem dX1_plan_9 : decode cX1_plan 9 = .ok (.arraylength, 1) := by decide +kernel
theorem dX1_plan_10 : decode cX1_plan 10 = .ok (.if_icmp .ge 34, 3) := by decide +kernel
theorem dX1_plan_13 : decode cX1_plan 13 = .ok (.aload_n 0, 1) := by decide +kernel
theorem dX1_plan_14 : decode cX1_plan 14 = .ok (.getfield 21, 3) := by decide +kernel
theorem dX1_plan_17 : decode cX1_plan 17 = .ok (.bipush 7, 2) := by decide +kernel
theorem dX1_plan_19 : decode cX1_plan 19 = .ok (.if_icmp .ge 25, 3) := by decide +kernel
theorem dX1_plan_22 : decode cX1_plan 22 = .ok (.iload_n 1, 1) := by decide +kernel
theorem dX1_plan_23 : decode cX1_plan 23 = .ok (.iload_n 3, 1) := by decide +kernel
theorem dX1_plan_24 : decode cX1_plan 24 = .ok (.ishr, 1) := by decide +kernel
theorem dX1_plan_25 : decode cX1_plan 25 = .ok (.iconst 1, 1) := by decide +kernel
theorem dX1_plan_26 : decode cX1_plan 26 = .ok (.iand, 1) := by decide +kernel
theorem dX1_plan_27 : decode cX1_plan 27 = .ok (.ifCond .eq 11, 3) := by decide +kernel
theorem dX1_plan_30 : decode cX1_plan 30 = .ok (.aload_n 0, 1) := by decide +kernel
theorem dX1_plan_31 : decode cX1_plan 31 = .ok (.iload_n 3, 1) := by decide +kernel
theorem dX1_plan_32 : decode cX1_plan 32 = .ok (.aload_n 2, 1) := by decide +kernel
theorem dX1_plan_33 : decode cX1_plan 33 = .ok (.iload_n 3, 1) := by decide +kernel
theorem dX1_plan_34 : decode cX1_plan 34 = .ok (.aaload, 1) := by decide +kernel
theorem dX1_plan_35 : decode cX1_plan 35 = .ok (.invokevirtual 25, 3) := by decide +kernel
theorem dX1_plan_38 : decode cX1_plan 38 = .ok (.iinc 3 1, 3) := by decide +kernel
theorem dX1_plan_41 : decode cX1_plan 41 = .ok (.goto (-34), 3) := by decide +kernel
theorem dX1_plan_44 : decode cX1_plan 44 = .ok (.aload_n 0, 1) := by decide +kernel
theorem dX1_plan_45 : decode cX1_plan 45 = .ok (.invokevirtual 29, 3) := by decide +kernel
theorem dX1_plan_48 : decode cX1_plan 48 = .ok (.istore_n 3, 1) := by decide +kernel
theorem dX1_plan_49 : decode cX1_plan 49 = .ok (.iconst 1, 1) := by decide +kernel
theorem dX1_plan_50 : decode cX1_plan 50 = .ok (.istore 4, 2) := by decide +kernel
theorem dX1_plan_52 : decode cX1_plan 52 = .ok (.iload 4, 2) := by decide +kernel
theorem dX1_plan_54 : decode cX1_plan 54 = .ok (.iload_n 3, 1) := by decide +kernel
theorem dX1_plan_55 : decode cX1_plan 55 = .ok (.if_icmp .gt 28, 3) := by decide +kernel
theorem dX1_plan_58 : decode cX1_plan 58 = .ok (.aload_n 0, 1) := by decide +kernel
theorem dX1_plan_59 : decode cX1_plan 59 = .ok (.getfield 18, 3) := by decide +kernel
theorem dX1_plan_62 : decode cX1_plan 62 = .ok (.iload 4, 2) := by decide +kernel
theorem dX1_plan_64 : decode cX1_plan 64 = .ok (.aload_n 0, 1) := by decide +kernel
theorem dX1_plan_65 : decode cX1_plan 65 = .ok (.aload_n 0, 1) := by decide +kernel
theorem dX1_plan_66 : decode cX1_plan 66 = .ok (.iload 4, 2) := by decide +kernel
theorem dX1_plan_68 : decode cX1_plan 68 = .ok (.invokevirtual 33, 3) := by decide +kernel
theorem dX1_plan_71 : decode cX1_plan 71 = .ok (.iload 4, 2) := by decide +kernel
theorem dX1_plan_73 : decode cX1_plan 73 = .ok (.invokevirtual 37, 3) := by decide +kernel
theorem dX1_plan_76 : decode cX1_plan 76 = .ok (.iastore, 1) := by decide +kernel
theorem dX1_plan_77 : decode cX1_plan 77 = .ok (.iinc 4 1, 3) := by decide +kernel
theorem dX1_plan_80 : decode cX1_plan 80 = .ok (.goto (-28), 3) := by decide +kernel
theorem dX1_plan_83 : decode cX1_plan 83 = .ok (.return_, 1) := by decide +kernel
theorem dX1_addStop_0 : decode cX1_addStop 0 = .ok (.aload_n 0, 1) := by decide +kernel
theorem dX1_addStop_1 : decode cX1_addStop 1 = .ok (.getfield 11, 3) := by decide +kernel
theorem dX1_addStop_4 : decode cX1_addStop 4 = .ok (.aload_n 0, 1) := by decide +kernel
theorem dX1_addStop_5 : decode cX1_addStop 5 = .ok (.getfield 21, 3) := by decide +kernel
theorem dX1_addStop_8 : decode cX1_addStop 8 = .ok (.iload_n 1, 1) := by decide +kernel
theorem dX1_addStop_9 : decode cX1_addStop 9 = .ok (.iastore, 1) := by decide +kernel
theorem dX1_addStop_10 : decode cX1_addStop 10 = .ok (.iconst 0, 1) := by decide +kernel
theorem dX1_addStop_11 : decode cX1_addStop 11 = .ok (.istore_n 3, 1) := by decide +kernel
theorem dX1_addStop_12 : decode cX1_addStop 12 = .ok (.iload_n 3, 1) := by decide +kernel
theorem dX1_addStop_13 : decode cX1_addStop 13 = .ok (.bipush 7, 2) := by decide +kernel
theorem dX1_addStop_15 : decode cX1_addStop 15 = .ok (.if_icmp .ge 28, 3) := by decide +kernel
theorem dX1_addStop_18 : decode cX1_addStop 18 = .ok (.aload_n 0, 1) := by decide +kernel
theorem dX1_addStop_19 : decode cX1_addStop 19 = .ok (.getfield 15, 3) := by decide +kernel
theorem dX1_addStop_22 : decode cX1_addStop 22 = .ok (.aload_n 0, 1) := by decide +kernel
theorem dX1_addStop_23 : decode cX1_addStop 23 = .ok (.getfield 21, 3) := by decide +kernel
theorem dX1_addStop_26 : decode cX1_addStop 26 = .ok (.bipush 7, 2) := by decide +kernel
theorem dX1_addStop_28 : decode cX1_addStop 28 = .ok (.imul, 1) := by decide +kernel
theorem dX1_addStop_29 : decode cX1_addStop 29 = .ok (.iload_n 3, 1) := by decide +kernel
theorem dX1_addStop_30 : decode cX1_addStop 30 = .ok (.iadd, 1) := by decide +kernel
theorem dX1_addStop_31 : decode cX1_addStop 31 = .ok (.aload_n 2, 1) := by decide +kernel
theorem dX1_addStop_32 : decode cX1_addStop 32 = .ok (.iload_n 3, 1) := by decide +kernel
theorem dX1_addStop_33 : decode cX1_addStop 33 = .ok (.invokevirtual 41, 3) := by decide +kernel
theorem dX1_addStop_36 : decode cX1_addStop 36 = .ok (.iastore, 1) := by decide +kernel
theorem dX1_addStop_37 : decode cX1_addStop 37 = .ok (.iinc 3 1, 3) := by decide +kernel
theorem dX1_addStop_40 : decode cX1_addStop 40 = .ok (.goto (-28), 3) := by decide +kernel
theorem dX1_addStop_43 : decode cX1_addStop 43 = .ok (.aload_n 0, 1) := by decide +kernel
theorem dX1_addStop_44 : decode cX1_addStop 44 = .ok (.dup, 1) := by decide +kernel
theorem dX1_addStop_45 : decode cX1_addStop 45 = .ok (.getfield 21, 3) := by decide +kernel
theorem dX1_addStop_48 : decode cX1_addStop 48 = .ok (.iconst 1, 1) := by decide +kernel
theorem dX1_addStop_49 : decode cX1_addStop 49 = .ok (.iadd, 1) := by decide +kernel
theorem dX1_addStop_50 : decode cX1_addStop 50 = .ok (.putfield 21, 3) := by decide +kernel
theorem dX1_addStop_53 : decode cX1_addStop 53 = .ok (.return_, 1) := by decide +kernel
theorem dX1_finds_0 : decode cX1_finds 0 = .ok (.aload_n 0, 1) := by decide +kernel
theorem dX1_finds_1 : decode cX1_finds 1 = .ok (.getfield 18, 3) := by decide +kernel
theorem dX1_finds_4 : decode cX1_finds 4 = .ok (.aload_n 0, 1) := by decide +kernel
theorem dX1_finds_5 : decode cX1_finds 5 = .ok (.invokevirtual 29, 3) := by decide +kernel
theorem dX1_finds_8 : decode cX1_finds 8 = .ok (.iaload, 1) := by decide +kernel
theorem dX1_finds_9 : decode cX1_finds 9 = .ok (.ireturn, 1) := by decide +kernel
theorem dX1_stopAt_0 : decode cX1_stopAt 0 = .ok (.iload_n 1, 1) := by decide +kernel
theorem dX1_stopAt_1 : decode cX1_stopAt 1 = .ok (.iconst 0, 1) := by decide +kernel
theorem dX1_stopAt_2 : decode cX1_stopAt 2 = .ok (.aload_n 0, 1) := by decide +kernel
theorem dX1_stopAt_3 : decode cX1_stopAt 3 = .ok (.getfield 21, 3) := by decide +kernel
theorem dX1_stopAt_6 : decode cX1_stopAt 6 = .ok (.iconst 1, 1) := by decide +kernel
theorem dX1_stopAt_7 : decode cX1_stopAt 7 = .ok (.isub, 1) := by decide +kernel
theorem dX1_stopAt_8 : decode cX1_stopAt 8 = .ok (.invokestatic 46, 3) := by decide +kernel
theorem dX1_stopAt_11 : decode cX1_stopAt 11 = .ok (.ifCond .ne 6, 3) := by decide +kernel
theorem dX1_stopAt_14 : decode cX1_stopAt 14 = .ok (.ldc 50, 2) := by decide +kernel
theorem dX1_stopAt_16 : decode cX1_stopAt 16 = .ok (.ireturn, 1) := by decide +kernel
theorem dX1_stopAt_17 : decode cX1_stopAt 17 = .ok (.aload_n 0, 1) := by decide +kernel
theorem dX1_stopAt_18 : decode cX1_stopAt 18 = .ok (.invokevirtual 29, 3) := by decide +kernel
theorem dX1_stopAt_21 : decode cX1_stopAt 21 = .ok (.istore_n 2, 1) := by decide +kernel
theorem dX1_stopAt_22 : decode cX1_stopAt 22 = .ok (.iconst 0, 1) := by decide +kernel
theorem dX1_stopAt_23 : decode cX1_stopAt 23 = .ok (.istore_n 3, 1) := by decide +kernel
theorem dX1_stopAt_24 : decode cX1_stopAt 24 = .ok (.iload_n 3, 1) := by decide +kernel
theorem dX1_stopAt_25 : decode cX1_stopAt 25 = .ok (.iload_n 1, 1) := by decide +kernel
theorem dX1_stopAt_26 : decode cX1_stopAt 26 = .ok (.if_icmp .ge 21, 3) := by decide +kernel
theorem dX1_stopAt_29 : decode cX1_stopAt 29 = .ok (.iload_n 2, 1) := by decide +kernel
theorem dX1_stopAt_30 : decode cX1_stopAt 30 = .ok (.iconst 1, 1) := by decide +kernel
theorem dX1_stopAt_31 : decode cX1_stopAt 31 = .ok (.aload_n 0, 1) := by decide +kernel
theorem dX1_stopAt_32 : decode cX1_stopAt 32 = .ok (.iload_n 2, 1) := by decide +kernel
theorem dX1_stopAt_33 : decode cX1_stopAt 33 = .ok (.invokevirtual 33, 3) := by decide +kernel
theorem dX1_stopAt_36 : decode cX1_stopAt 36 = .ok (.ishl, 1) := by decide +kernel
theorem dX1_stopAt_37 : decode cX1_stopAt 37 = .ok (.iconst (-1), 1) := by decide +kernel
theorem dX1_stopAt_38 : decode cX1_stopAt 38 = .ok (.ixor, 1) := by decide +kernel
theorem dX1_stopAt_39 : decode cX1_stopAt 39 = .ok (.iand, 1) := by decide +kernel
theorem dX1_stopAt_40 : decode cX1_stopAt 40 = .ok (.istore_n 2, 1) := by decide +kernel
theorem dX1_stopAt_41 : decode cX1_stopAt 41 = .ok (.iinc 3 1, 3) := by decide +kernel
theorem dX1_stopAt_44 : decode cX1_stopAt 44 = .ok (.goto (-20), 3) := by decide +kernel
theorem dX1_stopAt_47 : decode cX1_stopAt 47 = .ok (.aload_n 0, 1) := by decide +kernel
theorem dX1_stopAt_48 : decode cX1_stopAt 48 = .ok (.getfield 11, 3) := by decide +kernel
theorem dX1_stopAt_51 : decode cX1_stopAt 51 = .ok (.aload_n 0, 1) := by decide +kernel
theorem dX1_stopAt_52 : decode cX1_stopAt 52 = .ok (.iload_n 2, 1) := by decide +kernel
theorem dX1_stopAt_53 : decode cX1_stopAt 53 = .ok (.invokevirtual 33, 3) := by decide +kernel
theorem dX1_stopAt_56 : decode cX1_stopAt 56 = .ok (.iaload, 1) := by decide +kernel
theorem dX1_stopAt_57 : decode cX1_stopAt 57 = .ok (.ireturn, 1) := by decide +kernel
theorem dX1_allStops_0 : decode cX1_allStops 0 = .ok (.iconst 1, 1) := by decide +kernel
theorem dX1_allStops_1 : decode cX1_allStops 1 = .ok (.aload_n 0, 1) := by decide +kernel
theorem dX1_allStops_2 : decode cX1_allStops 2 = .ok (.getfield 21, 3) := by decide +kernel
theorem dX1_allStops_5 : decode cX1_allStops 5 = .ok (.ishl, 1) := by decide +kernel
theorem dX1_allStops_6 : decode cX1_allStops 6 = .ok (.iconst 1, 1) := by decide +kernel
theorem dX1_allStops_7 : decode cX1_allStops 7 = .ok (.isub, 1) := by decide +kernel
theorem dX1_allStops_8 : decode cX1_allStops 8 = .ok (.ireturn, 1) := by decide +kernel
theorem dX1_bestNext_0 : decode cX1_bestNext 0 = .ok (.iconst 0, 1) := by decide +kernel
theorem dX1_bestNext_1 : decode cX1_bestNext 1 = .ok (.istore_n 2, 1) := by decide +kernel
theorem dX1_bestNext_2 : decode cX1_bestNext 2 = .ok (.iconst (-1), 1) := by decide +kernel
theorem dX1_bestNext_3 : decode cX1_bestNext 3 = .ok (.istore_n 3, 1) := by decide +kernel
theorem dX1_bestNext_4 : decode cX1_bestNext 4 = .ok (.iconst 0, 1) := by decide +kernel
theorem dX1_bestNext_5 : decode cX1_bestNext 5 = .ok (.istore 4, 2) := by decide +kernel
theorem dX1_bestNext_7 : decode cX1_bestNext 7 = .ok (.iload 4, 2) := by decide +kernel
theorem dX1_bestNext_9 : decode cX1_bestNext 9 = .ok (.aload_n 0, 1) := by decide +kernel
theorem dX1_bestNext_10 : decode cX1_bestNext 10 = .ok (.getfield 21, 3) := by decide +kernel
theorem dX1_bestNext_13 : decode cX1_bestNext 13 = .ok (.if_icmp .ge 40, 3) := by decide +kernel
theorem dX1_bestNext_16 : decode cX1_bestNext 16 = .ok (.iload_n 1, 1) := by decide +kernel
theorem dX1_bestNext_17 : decode cX1_bestNext 17 = .ok (.iload 4, 2) := by decide +kernel
theorem dX1_bestNext_19 : decode cX1_bestNext 19 = .ok (.ishr, 1) := by decide +kernel
theorem dX1_bestNext_20 : decode cX1_bestNext 20 = .ok (.iconst 1, 1) := by decide +kernel
theorem dX1_bestNext_21 : decode cX1_bestNext 21 = .ok (.iand, 1) := by decide +kernel
theorem dX1_bestNext_22 : decode cX1_bestNext 22 = .ok (.ifCond .eq 25, 3) := by decide +kernel
theorem dX1_bestNext_25 : decode cX1_bestNext 25 = .ok (.aload_n 0, 1) := by decide +kernel
theorem dX1_bestNext_26 : decode cX1_bestNext 26 = .ok (.iload 4, 2) := by decide +kernel
theorem dX1_bestNext_28 : decode cX1_bestNext 28 = .ok (.iload_n 1, 1) := by decide +kernel
theorem dX1_bestNext_29 : decode cX1_bestNext 29 = .ok (.invokevirtual 37, 3) := by decide +kernel
theorem dX1_bestNext_32 : decode cX1_bestNext 32 = .ok (.iload_n 3, 1) := by decide +kernel
theorem dX1_bestNext_33 : decode cX1_bestNext 33 = .ok (.if_icmp .le 14, 3) := by decide +kernel
theorem dX1_bestNext_36 : decode cX1_bestNext 36 = .ok (.iload 4, 2) := by decide +kernel
theorem dX1_bestNext_38 : decode cX1_bestNext 38 = .ok (.istore_n 2, 1) := by decide +kernel
theorem dX1_bestNext_39 : decode cX1_bestNext 39 = .ok (.aload_n 0, 1) := by decide +kernel
theorem dX1_bestNext_40 : decode cX1_bestNext 40 = .ok (.iload 4, 2) := by decide +kernel
theorem dX1_bestNext_42 : decode cX1_bestNext 42 = .ok (.iload_n 1, 1) := by decide +kernel
theorem dX1_bestNext_43 : decode cX1_bestNext 43 = .ok (.invokevirtual 37, 3) := by decide +kernel
theorem dX1_bestNext_46 : decode cX1_bestNext 46 = .ok (.istore_n 3, 1) := by decide +kernel
theorem dX1_bestNext_47 : decode cX1_bestNext 47 = .ok (.iinc 4 1, 3) := by decide +kernel
theorem dX1_bestNext_50 : decode cX1_bestNext 50 = .ok (.goto (-43), 3) := by decide +kernel
theorem dX1_bestNext_53 : decode cX1_bestNext 53 = .ok (.iload_n 2, 1) := by decide +kernel
theorem dX1_bestNext_54 : decode cX1_bestNext 54 = .ok (.ireturn, 1) := by decide +kernel
theorem dX1_findsBy_0 : decode cX1_findsBy 0 = .ok (.aload_n 0, 1) := by decide +kernel
theorem dX1_findsBy_1 : decode cX1_findsBy 1 = .ok (.getfield 21, 3) := by decide +kernel
theorem dX1_findsBy_4 : decode cX1_findsBy 4 = .ok (.iload_n 2, 1) := by decide +kernel
theorem dX1_findsBy_5 : decode cX1_findsBy 5 = .ok (.invokestatic 51, 3) := by decide +kernel
theorem dX1_findsBy_8 : decode cX1_findsBy 8 = .ok (.isub, 1) := by decide +kernel
theorem dX1_findsBy_9 : decode cX1_findsBy 9 = .ok (.istore_n 3, 1) := by decide +kernel
theorem dX1_findsBy_10 : decode cX1_findsBy 10 = .ok (.aload_n 0, 1) := by decide +kernel
theorem dX1_findsBy_11 : decode cX1_findsBy 11 = .ok (.getfield 15, 3) := by decide +kernel
theorem dX1_findsBy_14 : decode cX1_findsBy 14 = .ok (.iload_n 1, 1) := by decide +kernel
theorem dX1_findsBy_15 : decode cX1_findsBy 15 = .ok (.bipush 7, 2) := by decide +kernel
theorem dX1_findsBy_17 : decode cX1_findsBy 17 = .ok (.imul, 1) := by decide +kernel
theorem dX1_findsBy_18 : decode cX1_findsBy 18 = .ok (.iload_n 3, 1) := by decide +kernel
theorem dX1_findsBy_19 : decode cX1_findsBy 19 = .ok (.iadd, 1) := by decide +kernel
theorem dX1_findsBy_20 : decode cX1_findsBy 20 = .ok (.iaload, 1) := by decide +kernel
theorem dX1_findsBy_21 : decode cX1_findsBy 21 = .ok (.aload_n 0, 1) := by decide +kernel
theorem dX1_findsBy_22 : decode cX1_findsBy 22 = .ok (.getfield 18, 3) := by decide +kernel
theorem dX1_findsBy_25 : decode cX1_findsBy 25 = .ok (.iload_n 2, 1) := by decide +kernel
theorem dX1_findsBy_26 : decode cX1_findsBy 26 = .ok (.iconst 1, 1) := by decide +kernel
theorem dX1_findsBy_27 : decode cX1_findsBy 27 = .ok (.iload_n 1, 1) := by decide +kernel
theorem dX1_findsBy_28 : decode cX1_findsBy 28 = .ok (.ishl, 1) := by decide +kernel
theorem dX1_findsBy_29 : decode cX1_findsBy 29 = .ok (.iconst (-1), 1) := by decide +kernel
theorem dX1_findsBy_30 : decode cX1_findsBy 30 = .ok (.ixor, 1) := by decide +kernel
theorem dX1_findsBy_31 : decode cX1_findsBy 31 = .ok (.iand, 1) := by decide +kernel
theorem dX1_findsBy_32 : decode cX1_findsBy 32 = .ok (.iaload, 1) := by decide +kernel
theorem dX1_findsBy_33 : decode cX1_findsBy 33 = .ok (.iadd, 1) := by decide +kernel
theorem dX1_findsBy_34 : decode cX1_findsBy 34 = .ok (.ireturn, 1) := by decide +kernel
theorem dX2_init_0 : decode cX2_init 0 = .ok (.aload_n 0, 1) := by decide +kernel
theorem dX2_init_1 : decode cX2_init 1 = .ok (.invokespecial 1, 3) := by decide +kernel
theorem dX2_init_4 : decode cX2_init 4 = .ok (.aload_n 0, 1) := by decide +kernel
theorem dX2_init_5 : decode cX2_init 5 = .ok (.new 7, 3) := by decide +kernel
theorem dX2_init_8 : decode cX2_init 8 = .ok (.dup, 1) := by decide +kernel
theorem dX2_init_9 : decode cX2_init 9 = .ok (.invokespecial 9, 3) := by decide +kernel
theorem dX2_init_12 : decode cX2_init 12 = .ok (.putfield 10, 3) := by decide +kernel
theorem dX2_init_15 : decode cX2_init 15 = .ok (.return_, 1) := by decide +kernel
theorem dX2_readInto_0 : decode cX2_readInto 0 = .ok (.aload_n 0, 1) := by decide +kernel
theorem dX2_readInto_1 : decode cX2_readInto 1 = .ok (.iconst 0, 1) := by decide +kernel
theorem dX2_readInto_2 : decode cX2_readInto 2 = .ok (.putfield 16, 3) := by decide +kernel
theorem dX2_readInto_5 : decode cX2_readInto 5 = .ok (.aload_n 0, 1) := by decide +kernel
theorem dX2_readInto_6 : decode cX2_readInto 6 = .ok (.invokevirtual 20, 3) := by decide +kernel
theorem dX2_readInto_9 : decode cX2_readInto 9 = .ok (.iconst 0, 1) := by decide +kernel
theorem dX2_readInto_10 : decode cX2_readInto 10 = .ok (.istore_n 2, 1) := by decide +kernel
theorem dX2_readInto_11 : decode cX2_readInto 11 = .ok (.iload_n 2, 1) := by decide +kernel
theorem dX2_readInto_12 : decode cX2_readInto 12 = .ok (.sipush 300, 3) := by decide +kernel
theorem dX2_readInto_15 : decode cX2_readInto 15 = .ok (.if_icmp .ge 36, 3) := by decide +kernel
theorem dX2_readInto_18 : decode cX2_readInto 18 = .ok (.aload_n 0, 1) := by decide +kernel
theorem dX2_readInto_19 : decode cX2_readInto 19 = .ok (.getfield 23, 3) := by decide +kernel
theorem dX2_readInto_22 : decode cX2_readInto 22 = .ok (.ifCond .eq 29, 3) := by decide +kernel
theorem dX2_readInto_25 : decode cX2_readInto 25 = .ok (.aload_n 0, 1) := by decide +kernel
theorem dX2_readInto_26 : decode cX2_readInto 26 = .ok (.aload_n 1, 1) := by decide +kernel
theorem dX2_readInto_27 : decode cX2_readInto 27 = .ok (.invokevirtual 26, 3) := by decide +kernel
theorem dX2_readInto_30 : decode cX2_readInto 30 = .ok (.ifCond .ne 5, 3) := by decide +kernel
theorem dX2_readInto_33 : decode cX2_readInto 33 = .ok (.iconst 0, 1) := by decide +kernel
theorem dX2_readInto_34 : decode cX2_readInto 34 = .ok (.ireturn, 1) := by decide +kernel
theorem dX2_readInto_35 : decode cX2_readInto 35 = .ok (.aload_n 1, 1) := by decide +kernel
theorem dX2_readInto_36 : decode cX2_readInto 36 = .ok (.dup, 1) := by decide +kernel
theorem dX2_readInto_37 : decode cX2_readInto 37 = .ok (.getfield 30, 3) := by decide +kernel
theorem dX2_readInto_40 : decode cX2_readInto 40 = .ok (.iconst 1, 1) := by decide +kernel
theorem dX2_readInto_41 : decode cX2_readInto 41 = .ok (.iadd, 1) := by decide +kernel
theorem dX2_readInto_42 : decode cX2_readInto 42 = .ok (.putfield 30, 3) := by decide +kernel
theorem dX2_readInto_45 : decode cX2_readInto 45 = .ok (.iinc 2 1, 3) := by decide +kernel
theorem dX2_readInto_48 : decode cX2_readInto 48 = .ok (.goto (-37), 3) := by decide +kernel
theorem dX2_readInto_51 : decode cX2_readInto 51 = .ok (.iconst 1, 1) := by decide +kernel
theorem dX2_readInto_52 : decode cX2_readInto 52 = .ok (.ireturn, 1) := by decide +kernel
theorem dX2_readLine_0 : decode cX2_readLine 0 = .ok (.aload_n 0, 1) := by decide +kernel
theorem dX2_readLine_1 : decode cX2_readLine 1 = .ok (.ldc 35, 2) := by decide +kernel
theorem dX2_readLine_3 : decode cX2_readLine 3 = .ok (.invokevirtual 37, 3) := by decide +kernel
theorem dX2_readLine_6 : decode cX2_readLine 6 = .ok (.ifCond .eq 9, 3) := by decide +kernel
theorem dX2_readLine_9 : decode cX2_readLine 9 = .ok (.aload_n 0, 1) := by decide +kernel
theorem dX2_readLine_10 : decode cX2_readLine 10 = .ok (.aload_n 1, 1) := by decide +kernel
theorem dX2_readLine_11 : decode cX2_readLine 11 = .ok (.invokevirtual 41, 3) := by decide +kernel
theorem dX2_readLine_14 : decode cX2_readLine 14 = .ok (.ireturn, 1) := by decide +kernel
theorem dX2_readLine_15 : decode cX2_readLine 15 = .ok (.aload_n 0, 1) := by decide +kernel
theorem dX2_readLine_16 : decode cX2_readLine 16 = .ok (.ldc 44, 2) := by decide +kernel
theorem dX2_readLine_18 : decode cX2_readLine 18 = .ok (.invokevirtual 37, 3) := by decide +kernel
theorem dX2_readLine_21 : decode cX2_readLine 21 = .ok (.ifCond .eq 9, 3) := by decide +kernel
theorem dX2_readLine_24 : decode cX2_readLine 24 = .ok (.aload_n 0, 1) := by decide +kernel
theorem dX2_readLine_25 : decode cX2_readLine 25 = .ok (.aload_n 1, 1) := by decide +kernel
theorem dX2_readLine_26 : decode cX2_readLine 26 = .ok (.invokevirtual 46, 3) := by decide +kernel
theorem dX2_readLine_29 : decode cX2_readLine 29 = .ok (.ireturn, 1) := by decide +kernel
theorem dX2_readLine_30 : decode cX2_readLine 30 = .ok (.aload_n 0, 1) := by decide +kernel
theorem dX2_readLine_31 : decode cX2_readLine 31 = .ok (.ldc 49, 2) := by decide +kernel
theorem dX2_readLine_33 : decode cX2_readLine 33 = .ok (.invokevirtual 37, 3) := by decide +kernel
theorem dX2_readLine_36 : decode cX2_readLine 36 = .ok (.ifCond .eq 9, 3) := by decide +kernel
theorem dX2_readLine_39 : decode cX2_readLine 39 = .ok (.aload_n 0, 1) := by decide +kernel
theorem dX2_readLine_40 : decode cX2_readLine 40 = .ok (.aload_n 1, 1) := by decide +kernel
theorem dX2_readLine_41 : decode cX2_readLine 41 = .ok (.invokevirtual 51, 3) := by decide +kernel
theorem dX2_readLine_44 : decode cX2_readLine 44 = .ok (.ireturn, 1) := by decide +kernel
theorem dX2_readLine_45 : decode cX2_readLine 45 = .ok (.aload_n 0, 1) := by decide +kernel
theorem dX2_readLine_46 : decode cX2_readLine 46 = .ok (.iconst 1, 1) := by decide +kernel
theorem dX2_readLine_47 : decode cX2_readLine 47 = .ok (.invokevirtual 54, 3) := by decide +kernel
theorem dX2_readLine_50 : decode cX2_readLine 50 = .ok (.ireturn, 1) := by decide +kernel
theorem dX2_readHold_0 : decode cX2_readHold 0 = .ok (.aload_n 0, 1) := by decide +kernel
theorem dX2_readHold_1 : decode cX2_readHold 1 = .ok (.invokevirtual 20, 3) := by decide +kernel
theorem dX2_readHold_4 : decode cX2_readHold 4 = .ok (.aload_n 0, 1) := by decide +kernel
theorem dX2_readHold_5 : decode cX2_readHold 5 = .ok (.ldc 58, 2) := by decide +kernel
theorem dX2_readHold_7 : decode cX2_readHold 7 = .ok (.invokevirtual 37, 3) := by decide +kernel
theorem dX2_readHold_10 : decode cX2_readHold 10 = .ok (.ifCond .eq 11, 3) := by decide +kernel
theorem dX2_readHold_13 : decode cX2_readHold 13 = .ok (.aload_n 1, 1) := by decide +kernel
theorem dX2_readHold_14 : decode cX2_readHold 14 = .ok (.iconst 1, 1) := by decide +kernel
theorem dX2_readHold_15 : decode cX2_readHold 15 = .ok (.putfield 60, 3) := by decide +kernel
theorem dX2_readHold_18 : decode cX2_readHold 18 = .ok (.goto 43, 3) := by decide +kernel
theorem dX2_readHold_21 : decode cX2_readHold 21 = .ok (.aload_n 0, 1) := by decide +kernel
theorem dX2_readHold_22 : decode cX2_readHold 22 = .ok (.ldc 62, 2) := by decide +kernel
theorem dX2_readHold_24 : decode cX2_readHold 24 = .ok (.invokevirtual 37, 3) := by decide +kernel
theorem dX2_readHold_27 : decode cX2_readHold 27 = .ok (.ifCond .eq 11, 3) := by decide +kernel
theorem dX2_readHold_30 : decode cX2_readHold 30 = .ok (.aload_n 1, 1) := by decide +kernel
theorem dX2_readHold_31 : decode cX2_readHold 31 = .ok (.iconst 2, 1) := by decide +kernel
theorem dX2_readHold_32 : decode cX2_readHold 32 = .ok (.putfield 60, 3) := by decide +kernel
theorem dX2_readHold_35 : decode cX2_readHold 35 = .ok (.goto 26, 3) := by decide +kernel
theorem dX2_readHold_38 : decode cX2_readHold 38 = .ok (.aload_n 0, 1) := by decide +kernel
theorem dX2_readHold_39 : decode cX2_readHold 39 = .ok (.ldc 64, 2) := by decide +kernel
theorem dX2_readHold_41 : decode cX2_readHold 41 = .ok (.invokevirtual 37, 3) := by decide +kernel
theorem dX2_readHold_44 : decode cX2_readHold 44 = .ok (.ifCond .eq 11, 3) := by decide +kernel
theorem dX2_readHold_47 : decode cX2_readHold 47 = .ok (.aload_n 1, 1) := by decide +kernel
theorem dX2_readHold_48 : decode cX2_readHold 48 = .ok (.iconst 0, 1) := by decide +kernel
theorem dX2_readHold_49 : decode cX2_readHold 49 = .ok (.putfield 60, 3) := by decide +kernel
theorem dX2_readHold_52 : decode cX2_readHold 52 = .ok (.goto 9, 3) := by decide +kernel
theorem dX2_readHold_55 : decode cX2_readHold 55 = .ok (.aload_n 0, 1) := by decide +kernel
theorem dX2_readHold_56 : decode cX2_readHold 56 = .ok (.iconst 1, 1) := by decide +kernel
theorem dX2_readHold_57 : decode cX2_readHold 57 = .ok (.invokevirtual 54, 3) := by decide +kernel
theorem dX2_readHold_60 : decode cX2_readHold 60 = .ok (.ireturn, 1) := by decide +kernel
theorem dX2_readHold_61 : decode cX2_readHold 61 = .ok (.aload_n 0, 1) := by decide +kernel
theorem dX2_readHold_62 : decode cX2_readHold 62 = .ok (.invokevirtual 20, 3) := by decide +kernel
theorem dX2_readHold_65 : decode cX2_readHold 65 = .ok (.aload_n 0, 1) := by decide +kernel
theorem dX2_readHold_66 : decode cX2_readHold 66 = .ok (.invokevirtual 66, 3) := by decide +kernel
theorem dX2_readHold_69 : decode cX2_readHold 69 = .ok (.ireturn, 1) := by decide +kernel
theorem dX2_readRain_0 : decode cX2_readRain 0 = .ok (.aload_n 1, 1) := by decide +kernel
theorem dX2_readRain_1 : decode cX2_readRain 1 = .ok (.getfield 70, 3) := by decide +kernel
theorem dX2_readRain_4 : decode cX2_readRain 4 = .ok (.iconst 5, 1) := by decide +kernel
theorem dX2_readRain_5 : decode cX2_readRain 5 = .ok (.if_icmp .lt 9, 3) := by decide +kernel
theorem dX2_readRain_8 : decode cX2_readRain 8 = .ok (.aload_n 0, 1) := by decide +kernel
theorem dX2_readRain_9 : decode cX2_readRain 9 = .ok (.iconst 3, 1) := by decide +kernel
theorem dX2_readRain_10 : decode cX2_readRain 10 = .ok (.invokevirtual 54, 3) := by decide +kernel
theorem dX2_readRain_13 : decode cX2_readRain 13 = .ok (.ireturn, 1) := by decide +kernel
theorem dX2_readRain_14 : decode cX2_readRain 14 = .ok (.aload_n 0, 1) := by decide +kernel
theorem dX2_readRain_15 : decode cX2_readRain 15 = .ok (.iconst 1, 1) := by decide +kernel
theorem dX2_readRain_16 : decode cX2_readRain 16 = .ok (.bipush 60, 2) := by decide +kernel
theorem dX2_readRain_18 : decode cX2_readRain 18 = .ok (.invokevirtual 73, 3) := by decide +kernel
theorem dX2_readRain_21 : decode cX2_readRain 21 = .ok (.ifCond .ne 5, 3) := by decide +kernel
theorem dX2_readRain_24 : decode cX2_readRain 24 = .ok (.iconst 0, 1) := by decide +kernel
theorem dX2_readRain_25 : decode cX2_readRain 25 = .ok (.ireturn, 1) := by decide +kernel
theorem dX2_readRain_26 : decode cX2_readRain 26 = .ok (.aload_n 1, 1) := by decide +kernel
theorem dX2_readRain_27 : decode cX2_readRain 27 = .ok (.aload_n 0, 1) := by decide +kernel
theorem dX2_readRain_28 : decode cX2_readRain 28 = .ok (.getfield 77, 3) := by decide +kernel
theorem dX2_readRain_31 : decode cX2_readRain 31 = .ok (.aload_n 0, 1) := by decide +kernel
theorem dX2_readRain_32 : decode cX2_readRain 32 = .ok (.getfield 80, 3) := by decide +kernel
theorem dX2_readRain_35 : decode cX2_readRain 35 = .ok (.invokevirtual 83, 3) := by decide +kernel
theorem dX2_readRain_38 : decode cX2_readRain 38 = .ok (.iconst 1, 1) := by decide +kernel
theorem dX2_readRain_39 : decode cX2_readRain 39 = .ok (.ireturn, 1) := by decide +kernel
theorem dX2_readRent_0 : decode cX2_readRent 0 = .ok (.aload_n 1, 1) := by decide +kernel
theorem dX2_readRent_1 : decode cX2_readRent 1 = .ok (.getfield 87, 3) := by decide +kernel
theorem dX2_readRent_4 : decode cX2_readRent 4 = .ok (.iconst 5, 1) := by decide +kernel
theorem dX2_readRent_5 : decode cX2_readRent 5 = .ok (.if_icmp .lt 9, 3) := by decide +kernel
theorem dX2_readRent_8 : decode cX2_readRent 8 = .ok (.aload_n 0, 1) := by decide +kernel
theorem dX2_readRent_9 : decode cX2_readRent 9 = .ok (.iconst 3, 1) := by decide +kernel
theorem dX2_readRent_10 : decode cX2_readRent 10 = .ok (.invokevirtual 54, 3) := by decide +kernel
theorem dX2_readRent_13 : decode cX2_readRent 13 = .ok (.ireturn, 1) := by decide +kernel
theorem dX2_readRent_14 : decode cX2_readRent 14 = .ok (.aload_n 0, 1) := by decide +kernel
theorem dX2_readRent_15 : decode cX2_readRent 15 = .ok (.aload_n 1, 1) := by decide +kernel
theorem dX2_readRent_16 : decode cX2_readRent 16 = .ok (.invokevirtual 90, 3) := by decide +kernel
theorem dX2_readRent_19 : decode cX2_readRent 19 = .ok (.ldc 94, 2) := by decide +kernel
theorem dX2_readRent_21 : decode cX2_readRent 21 = .ok (.invokevirtual 73, 3) := by decide +kernel
theorem dX2_readRent_24 : decode cX2_readRent 24 = .ok (.ifCond .ne 5, 3) := by decide +kernel
theorem dX2_readRent_27 : decode cX2_readRent 27 = .ok (.iconst 0, 1) := by decide +kernel
theorem dX2_readRent_28 : decode cX2_readRent 28 = .ok (.ireturn, 1) := by decide +kernel
theorem dX2_readRent_29 : decode cX2_readRent 29 = .ok (.aload_n 1, 1) := by decide +kernel
theorem dX2_readRent_30 : decode cX2_readRent 30 = .ok (.aload_n 0, 1) := by decide +kernel
theorem dX2_readRent_31 : decode cX2_readRent 31 = .ok (.getfield 77, 3) := by decide +kernel
theorem dX2_readRent_34 : decode cX2_readRent 34 = .ok (.aload_n 0, 1) := by decide +kernel
theorem dX2_readRent_35 : decode cX2_readRent 35 = .ok (.getfield 80, 3) := by decide +kernel
theorem dX2_readRent_38 : decode cX2_readRent 38 = .ok (.invokevirtual 95, 3) := by decide +kernel
theorem dX2_readRent_41 : decode cX2_readRent 41 = .ok (.iconst 1, 1) := by decide +kernel
theorem dX2_readRent_42 : decode cX2_readRent 42 = .ok (.ireturn, 1) := by decide +kernel
theorem dX2_readPart_0 : decode cX2_readPart 0 = .ok (.aload_n 0, 1) := by decide +kernel
theorem dX2_readPart_1 : decode cX2_readPart 1 = .ok (.invokevirtual 20, 3) := by decide +kernel
theorem dX2_readPart_4 : decode cX2_readPart 4 = .ok (.aload_n 0, 1) := by decide +kernel
theorem dX2_readPart_5 : decode cX2_readPart 5 = .ok (.iload_n 1, 1) := by decide +kernel
theorem dX2_readPart_6 : decode cX2_readPart 6 = .ok (.iload_n 2, 1) := by decide +kernel
theorem dX2_readPart_7 : decode cX2_readPart 7 = .ok (.invokevirtual 98, 3) := by decide +kernel
theorem dX2_readPart_10 : decode cX2_readPart 10 = .ok (.ifCond .ne 5, 3) := by decide +kernel
theorem dX2_readPart_13 : decode cX2_readPart 13 = .ok (.iconst 0, 1) := by decide +kernel
theorem dX2_readPart_14 : decode cX2_readPart 14 = .ok (.ireturn, 1) := by decide +kernel
theorem dX2_readPart_15 : decode cX2_readPart 15 = .ok (.aload_n 0, 1) := by decide +kernel
theorem dX2_readPart_16 : decode cX2_readPart 16 = .ok (.aload_n 0, 1) := by decide +kernel
theorem dX2_readPart_17 : decode cX2_readPart 17 = .ok (.getfield 101, 3) := by decide +kernel
theorem dX2_readPart_20 : decode cX2_readPart 20 = .ok (.putfield 77, 3) := by decide +kernel
theorem dX2_readPart_23 : decode cX2_readPart 23 = .ok (.aload_n 0, 1) := by decide +kernel
theorem dX2_readPart_24 : decode cX2_readPart 24 = .ok (.invokevirtual 20, 3) := by decide +kernel
theorem dX2_readPart_27 : decode cX2_readPart 27 = .ok (.aload_n 0, 1) := by decide +kernel
theorem dX2_readPart_28 : decode cX2_readPart 28 = .ok (.ldc 104, 2) := by decide +kernel
theorem dX2_readPart_30 : decode cX2_readPart 30 = .ok (.invokevirtual 37, 3) := by decide +kernel
theorem dX2_readPart_33 : decode cX2_readPart 33 = .ok (.ifCond .ne 9, 3) := by decide +kernel
theorem dX2_readPart_36 : decode cX2_readPart 36 = .ok (.aload_n 0, 1) := by decide +kernel
theorem dX2_readPart_37 : decode cX2_readPart 37 = .ok (.iconst 1, 1) := by decide +kernel
theorem dX2_readPart_38 : decode cX2_readPart 38 = .ok (.invokevirtual 54, 3) := by decide +kernel
theorem dX2_readPart_41 : decode cX2_readPart 41 = .ok (.ireturn, 1) := by decide +kernel
theorem dX2_readPart_42 : decode cX2_readPart 42 = .ok (.aload_n 0, 1) := by decide +kernel
theorem dX2_readPart_43 : decode cX2_readPart 43 = .ok (.invokevirtual 20, 3) := by decide +kernel
theorem dX2_readPart_46 : decode cX2_readPart 46 = .ok (.aload_n 0, 1) := by decide +kernel
theorem dX2_readPart_47 : decode cX2_readPart 47 = .ok (.iconst 0, 1) := by decide +kernel
theorem dX2_readPart_48 : decode cX2_readPart 48 = .ok (.bipush 100, 2) := by decide +kernel
theorem dX2_readPart_50 : decode cX2_readPart 50 = .ok (.invokevirtual 98, 3) := by decide +kernel
theorem dX2_readPart_53 : decode cX2_readPart 53 = .ok (.ifCond .ne 5, 3) := by decide +kernel
theorem dX2_readPart_56 : decode cX2_readPart 56 = .ok (.iconst 0, 1) := by decide +kernel
theorem dX2_readPart_57 : decode cX2_readPart 57 = .ok (.ireturn, 1) := by decide +kernel
theorem dX2_readPart_58 : decode cX2_readPart 58 = .ok (.aload_n 0, 1) := by decide +kernel
theorem dX2_readPart_59 : decode cX2_readPart 59 = .ok (.aload_n 0, 1) := by decide +kernel
theorem dX2_readPart_60 : decode cX2_readPart 60 = .ok (.getfield 101, 3) := by decide +kernel
theorem dX2_readPart_63 : decode cX2_readPart 63 = .ok (.putfield 80, 3) := by decide +kernel
theorem dX2_readPart_66 : decode cX2_readPart 66 = .ok (.aload_n 0, 1) := by decide +kernel
theorem dX2_readPart_67 : decode cX2_readPart 67 = .ok (.invokevirtual 20, 3) := by decide +kernel
theorem dX2_readPart_70 : decode cX2_readPart 70 = .ok (.aload_n 0, 1) := by decide +kernel
theorem dX2_readPart_71 : decode cX2_readPart 71 = .ok (.invokevirtual 66, 3) := by decide +kernel
theorem dX2_readPart_74 : decode cX2_readPart 74 = .ok (.ireturn, 1) := by decide +kernel
theorem dX2_standsNumber_0 : decode cX2_standsNumber 0 = .ok (.aload_n 0, 1) := by decide +kernel
theorem dX2_standsNumber_1 : decode cX2_standsNumber 1 = .ok (.getfield 23, 3) := by decide +kernel
theorem dX2_standsNumber_4 : decode cX2_standsNumber 4 = .ok (.iconst 2, 1) := by decide +kernel
theorem dX2_standsNumber_5 : decode cX2_standsNumber 5 = .ok (.if_icmp .eq 9, 3) := by decide +kernel
theorem dX2_standsNumber_8 : decode cX2_standsNumber 8 = .ok (.aload_n 0, 1) := by decide +kernel
theorem dX2_standsNumber_9 : decode cX2_standsNumber 9 = .ok (.iconst 1, 1) := by decide +kernel
theorem dX2_standsNumber_10 : decode cX2_standsNumber 10 = .ok (.invokevirtual 54, 3) := by decide +kernel
theorem dX2_standsNumber_13 : decode cX2_standsNumber 13 = .ok (.ireturn, 1) := by decide +kernel
theorem dX2_standsNumber_14 : decode cX2_standsNumber 14 = .ok (.aload_n 0, 1) := by decide +kernel
theorem dX2_standsNumber_15 : decode cX2_standsNumber 15 = .ok (.getfield 101, 3) := by decide +kernel
theorem dX2_standsNumber_18 : decode cX2_standsNumber 18 = .ok (.iload_n 1, 1) := by decide +kernel
theorem dX2_standsNumber_19 : decode cX2_standsNumber 19 = .ok (.iload_n 2, 1) := by decide +kernel
theorem dX2_standsNumber_20 : decode cX2_standsNumber 20 = .ok (.invokestatic 105, 3) := by decide +kernel
theorem dX2_standsNumber_23 : decode cX2_standsNumber 23 = .ok (.ifCond .ne 11, 3) := by decide +kernel
theorem dX2_standsNumber_26 : decode cX2_standsNumber 26 = .ok (.aload_n 0, 1) := by decide +kernel
theorem dX2_standsNumber_27 : decode cX2_standsNumber 27 = .ok (.iconst 2, 1) := by decide +kernel
theorem dX2_standsNumber_28 : decode cX2_standsNumber 28 = .ok (.invokevirtual 54, 3) := by decide +kernel
theorem dX2_standsNumber_31 : decode cX2_standsNumber 31 = .ok (.ifCond .eq 7, 3) := by decide +kernel
theorem dX2_standsNumber_34 : decode cX2_standsNumber 34 = .ok (.iconst 1, 1) := by decide +kernel
theorem dX2_standsNumber_35 : decode cX2_standsNumber 35 = .ok (.goto 4, 3) := by decide +kernel
theorem dX2_standsNumber_38 : decode cX2_standsNumber 38 = .ok (.iconst 0, 1) := by decide +kernel
theorem dX2_standsNumber_39 : decode cX2_standsNumber 39 = .ok (.ireturn, 1) := by decide +kernel
theorem dX2_readSign_0 : decode cX2_readSign 0 = .ok (.aload_n 0, 1) := by decide +kernel
theorem dX2_readSign_1 : decode cX2_readSign 1 = .ok (.getfield 23, 3) := by decide +kernel
theorem dX2_readSign_4 : decode cX2_readSign 4 = .ok (.iconst 3, 1) := by decide +kernel
theorem dX2_readSign_5 : decode cX2_readSign 5 = .ok (.if_icmp .eq 9, 3) := by decide +kernel
theorem dX2_readSign_8 : decode cX2_readSign 8 = .ok (.aload_n 0, 1) := by decide +kernel
theorem dX2_readSign_9 : decode cX2_readSign 9 = .ok (.iconst 1, 1) := by decide +kernel
theorem dX2_readSign_10 : decode cX2_readSign 10 = .ok (.invokevirtual 54, 3) := by decide +kernel
theorem dX2_readSign_13 : decode cX2_readSign 13 = .ok (.ireturn, 1) := by decide +kernel
theorem dX2_readSign_14 : decode cX2_readSign 14 = .ok (.aload_n 0, 1) := by decide +kernel
theorem dX2_readSign_15 : decode cX2_readSign 15 = .ok (.invokevirtual 20, 3) := by decide +kernel
theorem dX2_readSign_18 : decode cX2_readSign 18 = .ok (.iconst 1, 1) := by decide +kernel
theorem dX2_readSign_19 : decode cX2_readSign 19 = .ok (.ireturn, 1) := by decide +kernel
theorem dX2_refuse_0 : decode cX2_refuse 0 = .ok (.aload_n 0, 1) := by decide +kernel
theorem dX2_refuse_1 : decode cX2_refuse 1 = .ok (.iload_n 1, 1) := by decide +kernel
theorem dX2_refuse_2 : decode cX2_refuse 2 = .ok (.putfield 111, 3) := by decide +kernel
theorem dX2_refuse_5 : decode cX2_refuse 5 = .ok (.aload_n 0, 1) := by decide +kernel
theorem dX2_refuse_6 : decode cX2_refuse 6 = .ok (.aload_n 0, 1) := by decide +kernel
theorem dX2_refuse_7 : decode cX2_refuse 7 = .ok (.getfield 114, 3) := by decide +kernel
theorem dX2_refuse_10 : decode cX2_refuse 10 = .ok (.putfield 117, 3) := by decide +kernel
theorem dX2_refuse_13 : decode cX2_refuse 13 = .ok (.iconst 0, 1) := by decide +kernel
theorem dX2_refuse_14 : decode cX2_refuse 14 = .ok (.ireturn, 1) := by decide +kernel
theorem dX2_isWord_0 : decode cX2_isWord 0 = .ok (.aload_n 0, 1) := by decide +kernel
theorem dX2_isWord_1 : decode cX2_isWord 1 = .ok (.getfield 23, 3) := by decide +kernel
theorem dX2_isWord_4 : decode cX2_isWord 4 = .ok (.iconst 1, 1) := by decide +kernel
theorem dX2_isWord_5 : decode cX2_isWord 5 = .ok (.if_icmp .ne 19, 3) := by decide +kernel
theorem dX2_isWord_8 : decode cX2_isWord 8 = .ok (.aload_n 0, 1) := by decide +kernel
theorem dX2_isWord_9 : decode cX2_isWord 9 = .ok (.getfield 16, 3) := by decide +kernel
theorem dX2_isWord_12 : decode cX2_isWord 12 = .ok (.aload_n 0, 1) := by decide +kernel
theorem dX2_isWord_13 : decode cX2_isWord 13 = .ok (.getfield 114, 3) := by decide +kernel
theorem dX2_isWord_16 : decode cX2_isWord 16 = .ok (.isub, 1) := by decide +kernel
theorem dX2_isWord_17 : decode cX2_isWord 17 = .ok (.aload_n 1, 1) := by decide +kernel
theorem dX2_isWord_18 : decode cX2_isWord 18 = .ok (.invokevirtual 120, 3) := by decide +kernel
theorem dX2_isWord_21 : decode cX2_isWord 21 = .ok (.if_icmp .eq 5, 3) := by decide +kernel
theorem dX2_isWord_24 : decode cX2_isWord 24 = .ok (.iconst 0, 1) := by decide +kernel
theorem dX2_isWord_25 : decode cX2_isWord 25 = .ok (.ireturn, 1) := by decide +kernel
theorem dX2_isWord_26 : decode cX2_isWord 26 = .ok (.iconst 0, 1) := by decide +kernel
theorem dX2_isWord_27 : decode cX2_isWord 27 = .ok (.istore_n 2, 1) := by decide +kernel
theorem dX2_isWord_28 : decode cX2_isWord 28 = .ok (.iload_n 2, 1) := by decide +kernel
theorem dX2_isWord_29 : decode cX2_isWord 29 = .ok (.aload_n 1, 1) := by decide +kernel
theorem dX2_isWord_30 : decode cX2_isWord 30 = .ok (.invokevirtual 120, 3) := by decide +kernel
theorem dX2_isWord_33 : decode cX2_isWord 33 = .ok (.if_icmp .ge 32, 3) := by decide +kernel
theorem dX2_isWord_36 : decode cX2_isWord 36 = .ok (.aload_n 0, 1) := by decide +kernel
theorem dX2_isWord_37 : decode cX2_isWord 37 = .ok (.getfield 10, 3) := by decide +kernel
theorem dX2_isWord_40 : decode cX2_isWord 40 = .ok (.aload_n 0, 1) := by decide +kernel
theorem dX2_isWord_41 : decode cX2_isWord 41 = .ok (.getfield 114, 3) := by decide +kernel
theorem dX2_isWord_44 : decode cX2_isWord 44 = .ok (.iload_n 2, 1) := by decide +kernel
theorem dX2_isWord_45 : decode cX2_isWord 45 = .ok (.iadd, 1) := by decide +kernel
theorem dX2_isWord_46 : decode cX2_isWord 46 = .ok (.invokevirtual 125, 3) := by decide +kernel
theorem dX2_isWord_49 : decode cX2_isWord 49 = .ok (.aload_n 1, 1) := by decide +kernel
theorem dX2_isWord_50 : decode cX2_isWord 50 = .ok (.iload_n 2, 1) := by decide +kernel
theorem dX2_isWord_51 : decode cX2_isWord 51 = .ok (.invokevirtual 129, 3) := by decide +kernel
theorem dX2_isWord_54 : decode cX2_isWord 54 = .ok (.if_icmp .eq 5, 3) := by decide +kernel
theorem dX2_isWord_57 : decode cX2_isWord 57 = .ok (.iconst 0, 1) := by decide +kernel
theorem dX2_isWord_58 : decode cX2_isWord 58 = .ok (.ireturn, 1) := by decide +kernel
theorem dX2_isWord_59 : decode cX2_isWord 59 = .ok (.iinc 2 1, 3) := by decide +kernel
theorem dX2_isWord_62 : decode cX2_isWord 62 = .ok (.goto (-34), 3) := by decide +kernel
theorem dX2_isWord_65 : decode cX2_isWord 65 = .ok (.iconst 1, 1) := by decide +kernel
theorem dX2_isWord_66 : decode cX2_isWord 66 = .ok (.ireturn, 1) := by decide +kernel
theorem dX2_advance_0 : decode cX2_advance 0 = .ok (.aload_n 0, 1) := by decide +kernel
theorem dX2_advance_1 : decode cX2_advance 1 = .ok (.invokevirtual 133, 3) := by decide +kernel
theorem dX2_advance_4 : decode cX2_advance 4 = .ok (.aload_n 0, 1) := by decide +kernel
theorem dX2_advance_5 : decode cX2_advance 5 = .ok (.aload_n 0, 1) := by decide +kernel
theorem dX2_advance_6 : decode cX2_advance 6 = .ok (.getfield 16, 3) := by decide +kernel
theorem dX2_advance_9 : decode cX2_advance 9 = .ok (.putfield 114, 3) := by decide +kernel
theorem dX2_advance_12 : decode cX2_advance 12 = .ok (.aload_n 0, 1) := by decide +kernel
theorem dX2_advance_13 : decode cX2_advance 13 = .ok (.getfield 10, 3) := by decide +kernel
theorem dX2_advance_16 : decode cX2_advance 16 = .ok (.aload_n 0, 1) := by decide +kernel
theorem dX2_advance_17 : decode cX2_advance 17 = .ok (.getfield 114, 3) := by decide +kernel
theorem dX2_advance_20 : decode cX2_advance 20 = .ok (.invokevirtual 125, 3) := by decide +kernel
theorem dX2_advance_23 : decode cX2_advance 23 = .ok (.istore_n 1, 1) := by decide +kernel
theorem dX2_advance_24 : decode cX2_advance 24 = .ok (.iload_n 1, 1) := by decide +kernel
theorem dX2_advance_25 : decode cX2_advance 25 = .ok (.iconst (-1), 1) := by decide +kernel
theorem dX2_advance_26 : decode cX2_advance 26 = .ok (.if_icmp .ne 11, 3) := by decide +kernel
theorem dX2_advance_29 : decode cX2_advance 29 = .ok (.aload_n 0, 1) := by decide +kernel
theorem dX2_advance_30 : decode cX2_advance 30 = .ok (.iconst 0, 1) := by decide +kernel
theorem dX2_advance_31 : decode cX2_advance 31 = .ok (.putfield 23, 3) := by decide +kernel
theorem dX2_advance_34 : decode cX2_advance 34 = .ok (.goto 56, 3) := by decide +kernel
theorem dX2_advance_37 : decode cX2_advance 37 = .ok (.iload_n 1, 1) := by decide +kernel
theorem dX2_advance_38 : decode cX2_advance 38 = .ok (.invokestatic 136, 3) := by decide +kernel
theorem dX2_advance_41 : decode cX2_advance 41 = .ok (.ifCond .eq 10, 3) := by decide +kernel
theorem dX2_advance_44 : decode cX2_advance 44 = .ok (.aload_n 0, 1) := by decide +kernel
theorem dX2_advance_45 : decode cX2_advance 45 = .ok (.invokevirtual 139, 3) := by decide +kernel
theorem dX2_advance_48 : decode cX2_advance 48 = .ok (.goto 42, 3) := by decide +kernel
theorem dX2_advance_51 : decode cX2_advance 51 = .ok (.iload_n 1, 1) := by decide +kernel
theorem dX2_advance_52 : decode cX2_advance 52 = .ok (.invokestatic 142, 3) := by decide +kernel
theorem dX2_advance_55 : decode cX2_advance 55 = .ok (.ifCond .eq 10, 3) := by decide +kernel
theorem dX2_advance_58 : decode cX2_advance 58 = .ok (.aload_n 0, 1) := by decide +kernel
theorem dX2_advance_59 : decode cX2_advance 59 = .ok (.invokevirtual 145, 3) := by decide +kernel
theorem dX2_advance_62 : decode cX2_advance 62 = .ok (.goto 28, 3) := by decide +kernel
theorem dX2_advance_65 : decode cX2_advance 65 = .ok (.aload_n 0, 1) := by decide +kernel
theorem dX2_advance_66 : decode cX2_advance 66 = .ok (.dup, 1) := by decide +kernel
theorem dX2_advance_67 : decode cX2_advance 67 = .ok (.getfield 16, 3) := by decide +kernel
theorem dX2_advance_70 : decode cX2_advance 70 = .ok (.iconst 1, 1) := by decide +kernel
theorem dX2_advance_71 : decode cX2_advance 71 = .ok (.iadd, 1) := by decide +kernel
theorem dX2_advance_72 : decode cX2_advance 72 = .ok (.putfield 16, 3) := by decide +kernel
theorem dX2_advance_75 : decode cX2_advance 75 = .ok (.aload_n 0, 1) := by decide +kernel
theorem dX2_advance_76 : decode cX2_advance 76 = .ok (.iload_n 1, 1) := by decide +kernel
theorem dX2_advance_77 : decode cX2_advance 77 = .ok (.bipush 59, 2) := by decide +kernel
theorem dX2_advance_79 : decode cX2_advance 79 = .ok (.if_icmp .ne 7, 3) := by decide +kernel
theorem dX2_advance_82 : decode cX2_advance 82 = .ok (.iconst 3, 1) := by decide +kernel
theorem dX2_advance_83 : decode cX2_advance 83 = .ok (.goto 4, 3) := by decide +kernel
theorem dX2_advance_86 : decode cX2_advance 86 = .ok (.iconst 4, 1) := by decide +kernel
theorem dX2_advance_87 : decode cX2_advance 87 = .ok (.putfield 23, 3) := by decide +kernel
theorem dX2_advance_90 : decode cX2_advance 90 = .ok (.return_, 1) := by decide +kernel
theorem dX2_skipBlanks_0 : decode cX2_skipBlanks 0 = .ok (.aload_n 0, 1) := by decide +kernel
theorem dX2_skipBlanks_1 : decode cX2_skipBlanks 1 = .ok (.getfield 16, 3) := by decide +kernel
theorem dX2_skipBlanks_4 : decode cX2_skipBlanks 4 = .ok (.aload_n 0, 1) := by decide +kernel
theorem dX2_skipBlanks_5 : decode cX2_skipBlanks 5 = .ok (.getfield 10, 3) := by decide +kernel
theorem dX2_skipBlanks_8 : decode cX2_skipBlanks 8 = .ok (.getfield 148, 3) := by decide +kernel
theorem dX2_skipBlanks_11 : decode cX2_skipBlanks 11 = .ok (.if_icmp .ge 33, 3) := by decide +kernel
theorem dX2_skipBlanks_14 : decode cX2_skipBlanks 14 = .ok (.aload_n 0, 1) := by decide +kernel
theorem dX2_skipBlanks_15 : decode cX2_skipBlanks 15 = .ok (.getfield 10, 3) := by decide +kernel
theorem dX2_skipBlanks_18 : decode cX2_skipBlanks 18 = .ok (.aload_n 0, 1) := by decide +kernel
theorem dX2_skipBlanks_19 : decode cX2_skipBlanks 19 = .ok (.getfield 16, 3) := by decide +kernel
theorem dX2_skipBlanks_22 : decode cX2_skipBlanks 22 = .ok (.invokevirtual 125, 3) := by decide +kernel
theorem dX2_skipBlanks_25 : decode cX2_skipBlanks 25 = .ok (.invokestatic 150, 3) := by decide +kernel
theorem dX2_skipBlanks_28 : decode cX2_skipBlanks 28 = .ok (.ifCond .eq 16, 3) := by decide +kernel
theorem dX2_skipBlanks_31 : decode cX2_skipBlanks 31 = .ok (.aload_n 0, 1) := by decide +kernel
theorem dX2_skipBlanks_32 : decode cX2_skipBlanks 32 = .ok (.dup, 1) := by decide +kernel
theorem dX2_skipBlanks_33 : decode cX2_skipBlanks 33 = .ok (.getfield 16, 3) := by decide +kernel
theorem dX2_skipBlanks_36 : decode cX2_skipBlanks 36 = .ok (.iconst 1, 1) := by decide +kernel
theorem dX2_skipBlanks_37 : decode cX2_skipBlanks 37 = .ok (.iadd, 1) := by decide +kernel
theorem dX2_skipBlanks_38 : decode cX2_skipBlanks 38 = .ok (.putfield 16, 3) := by decide +kernel
theorem dX2_skipBlanks_41 : decode cX2_skipBlanks 41 = .ok (.goto (-41), 3) := by decide +kernel
theorem dX2_skipBlanks_44 : decode cX2_skipBlanks 44 = .ok (.return_, 1) := by decide +kernel
theorem dX2_passName_0 : decode cX2_passName 0 = .ok (.aload_n 0, 1) := by decide +kernel
theorem dX2_passName_1 : decode cX2_passName 1 = .ok (.getfield 16, 3) := by decide +kernel
theorem dX2_passName_4 : decode cX2_passName 4 = .ok (.aload_n 0, 1) := by decide +kernel
theorem dX2_passName_5 : decode cX2_passName 5 = .ok (.getfield 10, 3) := by decide +kernel
theorem dX2_passName_8 : decode cX2_passName 8 = .ok (.getfield 148, 3) := by decide +kernel
theorem dX2_passName_11 : decode cX2_passName 11 = .ok (.if_icmp .ge 33, 3) := by decide +kernel
theorem dX2_passName_14 : decode cX2_passName 14 = .ok (.aload_n 0, 1) := by decide +kernel
theorem dX2_passName_15 : decode cX2_passName 15 = .ok (.getfield 10, 3) := by decide +kernel
theorem dX2_passName_18 : decode cX2_passName 18 = .ok (.aload_n 0, 1) := by decide +kernel
theorem dX2_passName_19 : decode cX2_passName 19 = .ok (.getfield 16, 3) := by decide +kernel
theorem dX2_passName_22 : decode cX2_passName 22 = .ok (.invokevirtual 125, 3) := by decide +kernel
theorem dX2_passName_25 : decode cX2_passName 25 = .ok (.invokestatic 136, 3) := by decide +kernel
theorem dX2_passName_28 : decode cX2_passName 28 = .ok (.ifCond .eq 16, 3) := by decide +kernel
theorem dX2_passName_31 : decode cX2_passName 31 = .ok (.aload_n 0, 1) := by decide +kernel
theorem dX2_passName_32 : decode cX2_passName 32 = .ok (.dup, 1) := by decide +kernel
theorem dX2_passName_33 : decode cX2_passName 33 = .ok (.getfield 16, 3) := by decide +kernel
theorem dX2_passName_36 : decode cX2_passName 36 = .ok (.iconst 1, 1) := by decide +kernel
theorem dX2_passName_37 : decode cX2_passName 37 = .ok (.iadd, 1) := by decide +kernel
theorem dX2_passName_38 : decode cX2_passName 38 = .ok (.putfield 16, 3) := by decide +kernel
theorem dX2_passName_41 : decode cX2_passName 41 = .ok (.goto (-41), 3) := by decide +kernel
theorem dX2_passName_44 : decode cX2_passName 44 = .ok (.aload_n 0, 1) := by decide +kernel
theorem dX2_passName_45 : decode cX2_passName 45 = .ok (.aload_n 0, 1) := by decide +kernel
theorem dX2_passName_46 : decode cX2_passName 46 = .ok (.getfield 16, 3) := by decide +kernel
theorem dX2_passName_49 : decode cX2_passName 49 = .ok (.aload_n 0, 1) := by decide +kernel
theorem dX2_passName_50 : decode cX2_passName 50 = .ok (.getfield 114, 3) := by decide +kernel
theorem dX2_passName_53 : decode cX2_passName 53 = .ok (.isub, 1) := by decide +kernel
theorem dX2_passName_54 : decode cX2_passName 54 = .ok (.bipush 6, 2) := by decide +kernel
theorem dX2_passName_56 : decode cX2_passName 56 = .ok (.if_icmp .gt 7, 3) := by decide +kernel
theorem dX2_passName_59 : decode cX2_passName 59 = .ok (.iconst 1, 1) := by decide +kernel
theorem dX2_passName_60 : decode cX2_passName 60 = .ok (.goto 4, 3) := by decide +kernel
theorem dX2_passName_63 : decode cX2_passName 63 = .ok (.iconst 4, 1) := by decide +kernel
theorem dX2_passName_64 : decode cX2_passName 64 = .ok (.putfield 23, 3) := by decide +kernel
theorem dX2_passName_67 : decode cX2_passName 67 = .ok (.return_, 1) := by decide +kernel
theorem dX2_passNumber_0 : decode cX2_passNumber 0 = .ok (.aload_n 0, 1) := by decide +kernel
theorem dX2_passNumber_1 : decode cX2_passNumber 1 = .ok (.iconst 0, 1) := by decide +kernel
theorem dX2_passNumber_2 : decode cX2_passNumber 2 = .ok (.putfield 101, 3) := by decide +kernel
theorem dX2_passNumber_5 : decode cX2_passNumber 5 = .ok (.aload_n 0, 1) := by decide +kernel
theorem dX2_passNumber_6 : decode cX2_passNumber 6 = .ok (.getfield 16, 3) := by decide +kernel
theorem dX2_passNumber_9 : decode cX2_passNumber 9 = .ok (.aload_n 0, 1) := by decide +kernel
theorem dX2_passNumber_10 : decode cX2_passNumber 10 = .ok (.getfield 10, 3) := by decide +kernel
theorem dX2_passNumber_13 : decode cX2_passNumber 13 = .ok (.getfield 148, 3) := by decide +kernel
theorem dX2_passNumber_16 : decode cX2_passNumber 16 = .ok (.if_icmp .ge 72, 3) := by decide +kernel
theorem dX2_passNumber_19 : decode cX2_passNumber 19 = .ok (.aload_n 0, 1) := by decide +kernel
theorem dX2_passNumber_20 : decode cX2_passNumber 20 = .ok (.getfield 10, 3) := by decide +kernel
theorem dX2_passNumber_23 : decode cX2_passNumber 23 = .ok (.aload_n 0, 1) := by decide +kernel
theorem dX2_passNumber_24 : decode cX2_passNumber 24 = .ok (.getfield 16, 3) := by decide +kernel
theorem dX2_passNumber_27 : decode cX2_passNumber 27 = .ok (.invokevirtual 125, 3) := by decide +kernel
theorem dX2_passNumber_30 : decode cX2_passNumber 30 = .ok (.invokestatic 142, 3) := by decide +kernel
theorem dX2_passNumber_33 : decode cX2_passNumber 33 = .ok (.ifCond .eq 55, 3) := by decide +kernel
theorem dX2_passNumber_36 : decode cX2_passNumber 36 = .ok (.aload_n 0, 1) := by decide +kernel
theorem dX2_passNumber_37 : decode cX2_passNumber 37 = .ok (.getfield 16, 3) := by decide +kernel
theorem dX2_passNumber_40 : decode cX2_passNumber 40 = .ok (.aload_n 0, 1) := by decide +kernel
theorem dX2_passNumber_41 : decode cX2_passNumber 41 = .ok (.getfield 114, 3) := by decide +kernel
theorem dX2_passNumber_44 : decode cX2_passNumber 44 = .ok (.isub, 1) := by decide +kernel
theorem dX2_passNumber_45 : decode cX2_passNumber 45 = .ok (.iconst 5, 1) := by decide +kernel
theorem dX2_passNumber_46 : decode cX2_passNumber 46 = .ok (.if_icmp .ge 29, 3) := by decide +kernel
theorem dX2_passNumber_49 : decode cX2_passNumber 49 = .ok (.aload_n 0, 1) := by decide +kernel
theorem dX2_passNumber_50 : decode cX2_passNumber 50 = .ok (.aload_n 0, 1) := by decide +kernel
theorem dX2_passNumber_51 : decode cX2_passNumber 51 = .ok (.getfield 101, 3) := by decide +kernel
theorem dX2_passNumber_54 : decode cX2_passNumber 54 = .ok (.bipush 10, 2) := by decide +kernel
theorem dX2_passNumber_56 : decode cX2_passNumber 56 = .ok (.imul, 1) := by decide +kernel
theorem dX2_passNumber_57 : decode cX2_passNumber 57 = .ok (.aload_n 0, 1) := by decide +kernel
theorem dX2_passNumber_58 : decode cX2_passNumber 58 = .ok (.getfield 10, 3) := by decide +kernel
theorem dX2_passNumber_61 : decode cX2_passNumber 61 = .ok (.aload_n 0, 1) := by decide +kernel
theorem dX2_passNumber_62 : decode cX2_passNumber 62 = .ok (.getfield 16, 3) := by decide +kernel
theorem dX2_passNumber_65 : decode cX2_passNumber 65 = .ok (.invokevirtual 125, 3) := by decide +kernel
theorem dX2_passNumber_68 : decode cX2_passNumber 68 = .ok (.bipush 48, 2) := by decide +kernel
theorem dX2_passNumber_70 : decode cX2_passNumber 70 = .ok (.isub, 1) := by decide +kernel
theorem dX2_passNumber_71 : decode cX2_passNumber 71 = .ok (.iadd, 1) := by decide +kernel
theorem dX2_passNumber_72 : decode cX2_passNumber 72 = .ok (.putfield 101, 3) := by decide +kernel
theorem dX2_passNumber_75 : decode cX2_passNumber 75 = .ok (.aload_n 0, 1) := by decide +kernel
theorem dX2_passNumber_76 : decode cX2_passNumber 76 = .ok (.dup, 1) := by decide +kernel
theorem dX2_passNumber_77 : decode cX2_passNumber 77 = .ok (.getfield 16, 3) := by decide +kernel
theorem dX2_passNumber_80 : decode cX2_passNumber 80 = .ok (.iconst 1, 1) := by decide +kernel
theorem dX2_passNumber_81 : decode cX2_passNumber 81 = .ok (.iadd, 1) := by decide +kernel
theorem dX2_passNumber_82 : decode cX2_passNumber 82 = .ok (.putfield 16, 3) := by decide +kernel
theorem dX2_passNumber_85 : decode cX2_passNumber 85 = .ok (.goto (-80), 3) := by decide +kernel
theorem dX2_passNumber_88 : decode cX2_passNumber 88 = .ok (.aload_n 0, 1) := by decide +kernel
theorem dX2_passNumber_89 : decode cX2_passNumber 89 = .ok (.aload_n 0, 1) := by decide +kernel
theorem dX2_passNumber_90 : decode cX2_passNumber 90 = .ok (.getfield 16, 3) := by decide +kernel
theorem dX2_passNumber_93 : decode cX2_passNumber 93 = .ok (.aload_n 0, 1) := by decide +kernel
theorem dX2_passNumber_94 : decode cX2_passNumber 94 = .ok (.getfield 114, 3) := by decide +kernel
theorem dX2_passNumber_97 : decode cX2_passNumber 97 = .ok (.isub, 1) := by decide +kernel
theorem dX2_passNumber_98 : decode cX2_passNumber 98 = .ok (.iconst 5, 1) := by decide +kernel
theorem dX2_passNumber_99 : decode cX2_passNumber 99 = .ok (.if_icmp .gt 7, 3) := by decide +kernel
theorem dX2_passNumber_102 : decode cX2_passNumber 102 = .ok (.iconst 2, 1) := by decide +kernel
theorem dX2_passNumber_103 : decode cX2_passNumber 103 = .ok (.goto 4, 3) := by decide +kernel
theorem dX2_passNumber_106 : decode cX2_passNumber 106 = .ok (.iconst 4, 1) := by decide +kernel
theorem dX2_passNumber_107 : decode cX2_passNumber 107 = .ok (.putfield 23, 3) := by decide +kernel
theorem dX2_passNumber_110 : decode cX2_passNumber 110 = .ok (.return_, 1) := by decide +kernel
theorem dX2_isBlank_0 : decode cX2_isBlank 0 = .ok (.iload_n 0, 1) := by decide +kernel
theorem dX2_isBlank_1 : decode cX2_isBlank 1 = .ok (.bipush 32, 2) := by decide +kernel
theorem dX2_isBlank_3 : decode cX2_isBlank 3 = .ok (.if_icmp .eq 9, 3) := by decide +kernel
theorem dX2_isBlank_6 : decode cX2_isBlank 6 = .ok (.iload_n 0, 1) := by decide +kernel
theorem dX2_isBlank_7 : decode cX2_isBlank 7 = .ok (.bipush 10, 2) := by decide +kernel
theorem dX2_isBlank_9 : decode cX2_isBlank 9 = .ok (.if_icmp .ne 7, 3) := by decide +kernel
theorem dX2_isBlank_12 : decode cX2_isBlank 12 = .ok (.iconst 1, 1) := by decide +kernel
theorem dX2_isBlank_13 : decode cX2_isBlank 13 = .ok (.goto 4, 3) := by decide +kernel
theorem dX2_isBlank_16 : decode cX2_isBlank 16 = .ok (.iconst 0, 1) := by decide +kernel
theorem dX2_isBlank_17 : decode cX2_isBlank 17 = .ok (.ireturn, 1) := by decide +kernel
theorem dX2_isLetter_0 : decode cX2_isLetter 0 = .ok (.iload_n 0, 1) := by decide +kernel
theorem dX2_isLetter_1 : decode cX2_isLetter 1 = .ok (.bipush 97, 2) := by decide +kernel
theorem dX2_isLetter_3 : decode cX2_isLetter 3 = .ok (.bipush 122, 2) := by decide +kernel
theorem dX2_isLetter_5 : decode cX2_isLetter 5 = .ok (.invokestatic 105, 3) := by decide +kernel
theorem dX2_isLetter_8 : decode cX2_isLetter 8 = .ok (.ireturn, 1) := by decide +kernel
theorem dX2_isFigure_0 : decode cX2_isFigure 0 = .ok (.iload_n 0, 1) := by decide +kernel
theorem dX2_isFigure_1 : decode cX2_isFigure 1 = .ok (.bipush 48, 2) := by decide +kernel
theorem dX2_isFigure_3 : decode cX2_isFigure 3 = .ok (.bipush 57, 2) := by decide +kernel
theorem dX2_isFigure_5 : decode cX2_isFigure 5 = .ok (.invokestatic 105, 3) := by decide +kernel
theorem dX2_isFigure_8 : decode cX2_isFigure 8 = .ok (.ireturn, 1) := by decide +kernel
theorem dX3_init_0 : decode cX3_init 0 = .ok (.aload_n 0, 1) := by decide +kernel
theorem dX3_init_1 : decode cX3_init 1 = .ok (.invokespecial 1, 3) := by decide +kernel
theorem dX3_init_4 : decode cX3_init 4 = .ok (.aload_n 0, 1) := by decide +kernel
theorem dX3_init_5 : decode cX3_init 5 = .ok (.iconst 5, 1) := by decide +kernel
theorem dX3_init_6 : decode cX3_init 6 = .ok (.newarray .int, 2) := by decide +kernel
theorem dX3_init_8 : decode cX3_init 8 = .ok (.putfield 9, 3) := by decide +kernel
theorem dX3_init_11 : decode cX3_init 11 = .ok (.aload_n 0, 1) := by decide +kernel
theorem dX3_init_12 : decode cX3_init 12 = .ok (.iconst 5, 1) := by decide +kernel
theorem dX3_init_13 : decode cX3_init 13 = .ok (.newarray .int, 2) := by decide +kernel
theorem dX3_init_15 : decode cX3_init 15 = .ok (.putfield 13, 3) := by decide +kernel
theorem dX3_init_18 : decode cX3_init 18 = .ok (.aload_n 0, 1) := by decide +kernel
theorem dX3_init_19 : decode cX3_init 19 = .ok (.iconst 5, 1) := by decide +kernel
theorem dX3_init_20 : decode cX3_init 20 = .ok (.newarray .int, 2) := by decide +kernel
theorem dX3_init_22 : decode cX3_init 22 = .ok (.putfield 16, 3) := by decide +kernel
theorem dX3_init_25 : decode cX3_init 25 = .ok (.aload_n 0, 1) := by decide +kernel
theorem dX3_init_26 : decode cX3_init 26 = .ok (.iconst 5, 1) := by decide +kernel
theorem dX3_init_27 : decode cX3_init 27 = .ok (.newarray .int, 2) := by decide +kernel
theorem dX3_init_29 : decode cX3_init 29 = .ok (.putfield 19, 3) := by decide +kernel
theorem dX3_init_32 : decode cX3_init 32 = .ok (.return_, 1) := by decide +kernel
theorem dX3_clear_0 : decode cX3_clear 0 = .ok (.aload_n 0, 1) := by decide +kernel
theorem dX3_clear_1 : decode cX3_clear 1 = .ok (.iconst 0, 1) := by decide +kernel
theorem dX3_clear_2 : decode cX3_clear 2 = .ok (.putfield 22, 3) := by decide +kernel
theorem dX3_clear_5 : decode cX3_clear 5 = .ok (.aload_n 0, 1) := by decide +kernel
theorem dX3_clear_6 : decode cX3_clear 6 = .ok (.iconst 0, 1) := by decide +kernel
theorem dX3_clear_7 : decode cX3_clear 7 = .ok (.putfield 26, 3) := by decide +kernel
theorem dX3_clear_10 : decode cX3_clear 10 = .ok (.aload_n 0, 1) := by decide +kernel
theorem dX3_clear_11 : decode cX3_clear 11 = .ok (.iconst 0, 1) := by decide +kernel
theorem dX3_clear_12 : decode cX3_clear 12 = .ok (.putfield 29, 3) := by decide +kernel
end
section
theorem dX3_clear_15 : decode cX3_clear 15 = .ok (.aload_n 0, 1) := by decide +kernel
theorem dX3_clear_16 : decode cX3_clear 16 = .ok (.iconst 0, 1) := by decide +kernel
theorem dX3_clear_17 : decode cX3_clear 17 = .ok (.putfield 32, 3) := by decide +kernel
theorem dX3_clear_20 : decode cX3_clear 20 = .ok (.return_, 1) := by decide +kernel
theorem dX3_holdsIn_0 : decode cX3_holdsIn 0 = .ok (.aload_n 0, 1) := by decide +kernel
theorem dX3_holdsIn_1 : decode cX3_holdsIn 1 = .ok (.getfield 26, 3) := by decide +kernel
theorem dX3_holdsIn_4 : decode cX3_holdsIn 4 = .ok (.iconst 2, 1) := by decide +kernel
theorem dX3_holdsIn_5 : decode cX3_holdsIn 5 = .ok (.if_icmp .eq 16, 3) := by decide +kernel
theorem dX3_holdsIn_8 : decode cX3_holdsIn 8 = .ok (.aload_n 0, 1) := by decide +kernel
theorem dX3_holdsIn_9 : decode cX3_holdsIn 9 = .ok (.getfield 26, 3) := by decide +kernel
theorem dX3_holdsIn_12 : decode cX3_holdsIn 12 = .ok (.iconst 1, 1) := by decide +kernel
theorem dX3_holdsIn_13 : decode cX3_holdsIn 13 = .ok (.if_icmp .ne 12, 3) := by decide +kernel
theorem dX3_holdsIn_16 : decode cX3_holdsIn 16 = .ok (.iload_n 1, 1) := by decide +kernel
theorem dX3_holdsIn_17 : decode cX3_holdsIn 17 = .ok (.iload_n 2, 1) := by decide +kernel
theorem dX3_holdsIn_18 : decode cX3_holdsIn 18 = .ok (.if_icmp .ne 7, 3) := by decide +kernel
theorem dX3_holdsIn_21 : decode cX3_holdsIn 21 = .ok (.iconst 1, 1) := by decide +kernel
theorem dX3_holdsIn_22 : decode cX3_holdsIn 22 = .ok (.goto 4, 3) := by decide +kernel
theorem dX3_holdsIn_25 : decode cX3_holdsIn 25 = .ok (.iconst 0, 1) := by decide +kernel
theorem dX3_holdsIn_26 : decode cX3_holdsIn 26 = .ok (.ireturn, 1) := by decide +kernel
theorem dX3_addRain_0 : decode cX3_addRain 0 = .ok (.aload_n 0, 1) := by decide +kernel
theorem dX3_addRain_1 : decode cX3_addRain 1 = .ok (.getfield 9, 3) := by decide +kernel
theorem dX3_addRain_4 : decode cX3_addRain 4 = .ok (.aload_n 0, 1) := by decide +kernel
theorem dX3_addRain_5 : decode cX3_addRain 5 = .ok (.getfield 29, 3) := by decide +kernel
theorem dX3_addRain_8 : decode cX3_addRain 8 = .ok (.iload_n 1, 1) := by decide +kernel
theorem dX3_addRain_9 : decode cX3_addRain 9 = .ok (.iastore, 1) := by decide +kernel
theorem dX3_addRain_10 : decode cX3_addRain 10 = .ok (.aload_n 0, 1) := by decide +kernel
theorem dX3_addRain_11 : decode cX3_addRain 11 = .ok (.getfield 13, 3) := by decide +kernel
theorem dX3_addRain_14 : decode cX3_addRain 14 = .ok (.aload_n 0, 1) := by decide +kernel
theorem dX3_addRain_15 : decode cX3_addRain 15 = .ok (.getfield 29, 3) := by decide +kernel
theorem dX3_addRain_18 : decode cX3_addRain 18 = .ok (.iload_n 2, 1) := by decide +kernel
theorem dX3_addRain_19 : decode cX3_addRain 19 = .ok (.iastore, 1) := by decide +kernel
theorem dX3_addRain_20 : decode cX3_addRain 20 = .ok (.aload_n 0, 1) := by decide +kernel
theorem dX3_addRain_21 : decode cX3_addRain 21 = .ok (.dup, 1) := by decide +kernel
theorem dX3_addRain_22 : decode cX3_addRain 22 = .ok (.getfield 29, 3) := by decide +kernel
theorem dX3_addRain_25 : decode cX3_addRain 25 = .ok (.iconst 1, 1) := by decide +kernel
theorem dX3_addRain_26 : decode cX3_addRain 26 = .ok (.iadd, 1) := by decide +kernel
theorem dX3_addRain_27 : decode cX3_addRain 27 = .ok (.putfield 29, 3) := by decide +kernel
theorem dX3_addRain_30 : decode cX3_addRain 30 = .ok (.return_, 1) := by decide +kernel
theorem dX3_addRent_0 : decode cX3_addRent 0 = .ok (.aload_n 0, 1) := by decide +kernel
theorem dX3_addRent_1 : decode cX3_addRent 1 = .ok (.getfield 16, 3) := by decide +kernel
theorem dX3_addRent_4 : decode cX3_addRent 4 = .ok (.aload_n 0, 1) := by decide +kernel
theorem dX3_addRent_5 : decode cX3_addRent 5 = .ok (.getfield 32, 3) := by decide +kernel
theorem dX3_addRent_8 : decode cX3_addRent 8 = .ok (.iload_n 1, 1) := by decide +kernel
theorem dX3_addRent_9 : decode cX3_addRent 9 = .ok (.iastore, 1) := by decide +kernel
theorem dX3_addRent_10 : decode cX3_addRent 10 = .ok (.aload_n 0, 1) := by decide +kernel
theorem dX3_addRent_11 : decode cX3_addRent 11 = .ok (.getfield 19, 3) := by decide +kernel
theorem dX3_addRent_14 : decode cX3_addRent 14 = .ok (.aload_n 0, 1) := by decide +kernel
theorem dX3_addRent_15 : decode cX3_addRent 15 = .ok (.getfield 32, 3) := by decide +kernel
theorem dX3_addRent_18 : decode cX3_addRent 18 = .ok (.iload_n 2, 1) := by decide +kernel
theorem dX3_addRent_19 : decode cX3_addRent 19 = .ok (.iastore, 1) := by decide +kernel
theorem dX3_addRent_20 : decode cX3_addRent 20 = .ok (.aload_n 0, 1) := by decide +kernel
theorem dX3_addRent_21 : decode cX3_addRent 21 = .ok (.dup, 1) := by decide +kernel
theorem dX3_addRent_22 : decode cX3_addRent 22 = .ok (.getfield 32, 3) := by decide +kernel
theorem dX3_addRent_25 : decode cX3_addRent 25 = .ok (.iconst 1, 1) := by decide +kernel
theorem dX3_addRent_26 : decode cX3_addRent 26 = .ok (.iadd, 1) := by decide +kernel
theorem dX3_addRent_27 : decode cX3_addRent 27 = .ok (.putfield 32, 3) := by decide +kernel
theorem dX3_addRent_30 : decode cX3_addRent 30 = .ok (.return_, 1) := by decide +kernel
theorem dX3_leastNextEnd_0 : decode cX3_leastNextEnd 0 = .ok (.aload_n 0, 1) := by decide +kernel
theorem dX3_leastNextEnd_1 : decode cX3_leastNextEnd 1 = .ok (.getfield 32, 3) := by decide +kernel
theorem dX3_leastNextEnd_4 : decode cX3_leastNextEnd 4 = .ok (.ifCond .ne 7, 3) := by decide +kernel
theorem dX3_leastNextEnd_7 : decode cX3_leastNextEnd 7 = .ok (.iconst 0, 1) := by decide +kernel
theorem dX3_leastNextEnd_8 : decode cX3_leastNextEnd 8 = .ok (.goto 16, 3) := by decide +kernel
theorem dX3_leastNextEnd_11 : decode cX3_leastNextEnd 11 = .ok (.aload_n 0, 1) := by decide +kernel
theorem dX3_leastNextEnd_12 : decode cX3_leastNextEnd 12 = .ok (.getfield 16, 3) := by decide +kernel
theorem dX3_leastNextEnd_15 : decode cX3_leastNextEnd 15 = .ok (.aload_n 0, 1) := by decide +kernel
theorem dX3_leastNextEnd_16 : decode cX3_leastNextEnd 16 = .ok (.getfield 32, 3) := by decide +kernel
theorem dX3_leastNextEnd_19 : decode cX3_leastNextEnd 19 = .ok (.iconst 1, 1) := by decide +kernel
theorem dX3_leastNextEnd_20 : decode cX3_leastNextEnd 20 = .ok (.isub, 1) := by decide +kernel
theorem dX3_leastNextEnd_21 : decode cX3_leastNextEnd 21 = .ok (.iaload, 1) := by decide +kernel
theorem dX3_leastNextEnd_22 : decode cX3_leastNextEnd 22 = .ok (.iconst 1, 1) := by decide +kernel
theorem dX3_leastNextEnd_23 : decode cX3_leastNextEnd 23 = .ok (.iadd, 1) := by decide +kernel
theorem dX3_leastNextEnd_24 : decode cX3_leastNextEnd 24 = .ok (.ireturn, 1) := by decide +kernel
theorem dX3_partOfRain_0 : decode cX3_partOfRain 0 = .ok (.iconst 0, 1) := by decide +kernel
theorem dX3_partOfRain_1 : decode cX3_partOfRain 1 = .ok (.istore_n 2, 1) := by decide +kernel
theorem dX3_partOfRain_2 : decode cX3_partOfRain 2 = .ok (.iload_n 2, 1) := by decide +kernel
theorem dX3_partOfRain_3 : decode cX3_partOfRain 3 = .ok (.aload_n 0, 1) := by decide +kernel
theorem dX3_partOfRain_4 : decode cX3_partOfRain 4 = .ok (.getfield 29, 3) := by decide +kernel
theorem dX3_partOfRain_7 : decode cX3_partOfRain 7 = .ok (.if_icmp .ge 26, 3) := by decide +kernel
theorem dX3_partOfRain_10 : decode cX3_partOfRain 10 = .ok (.iload_n 1, 1) := by decide +kernel
theorem dX3_partOfRain_11 : decode cX3_partOfRain 11 = .ok (.aload_n 0, 1) := by decide +kernel
theorem dX3_partOfRain_12 : decode cX3_partOfRain 12 = .ok (.getfield 9, 3) := by decide +kernel
theorem dX3_partOfRain_15 : decode cX3_partOfRain 15 = .ok (.iload_n 2, 1) := by decide +kernel
theorem dX3_partOfRain_16 : decode cX3_partOfRain 16 = .ok (.iaload, 1) := by decide +kernel
theorem dX3_partOfRain_17 : decode cX3_partOfRain 17 = .ok (.if_icmp .lt 10, 3) := by decide +kernel
theorem dX3_partOfRain_20 : decode cX3_partOfRain 20 = .ok (.aload_n 0, 1) := by decide +kernel
theorem dX3_partOfRain_21 : decode cX3_partOfRain 21 = .ok (.getfield 13, 3) := by decide +kernel
theorem dX3_partOfRain_24 : decode cX3_partOfRain 24 = .ok (.iload_n 2, 1) := by decide +kernel
theorem dX3_partOfRain_25 : decode cX3_partOfRain 25 = .ok (.iaload, 1) := by decide +kernel
theorem dX3_partOfRain_26 : decode cX3_partOfRain 26 = .ok (.ireturn, 1) := by decide +kernel
theorem dX3_partOfRain_27 : decode cX3_partOfRain 27 = .ok (.iinc 2 1, 3) := by decide +kernel
theorem dX3_partOfRain_30 : decode cX3_partOfRain 30 = .ok (.goto (-28), 3) := by decide +kernel
theorem dX3_partOfRain_33 : decode cX3_partOfRain 33 = .ok (.iconst 0, 1) := by decide +kernel
theorem dX3_partOfRain_34 : decode cX3_partOfRain 34 = .ok (.ireturn, 1) := by decide +kernel
theorem dX3_rentOf_0 : decode cX3_rentOf 0 = .ok (.iconst 0, 1) := by decide +kernel
theorem dX3_rentOf_1 : decode cX3_rentOf 1 = .ok (.istore_n 2, 1) := by decide +kernel
theorem dX3_rentOf_2 : decode cX3_rentOf 2 = .ok (.iconst 0, 1) := by decide +kernel
theorem dX3_rentOf_3 : decode cX3_rentOf 3 = .ok (.istore_n 3, 1) := by decide +kernel
theorem dX3_rentOf_4 : decode cX3_rentOf 4 = .ok (.iconst 0, 1) := by decide +kernel
theorem dX3_rentOf_5 : decode cX3_rentOf 5 = .ok (.istore 4, 2) := by decide +kernel
theorem dX3_rentOf_7 : decode cX3_rentOf 7 = .ok (.iload 4, 2) := by decide +kernel
theorem dX3_rentOf_9 : decode cX3_rentOf 9 = .ok (.aload_n 0, 1) := by decide +kernel
theorem dX3_rentOf_10 : decode cX3_rentOf 10 = .ok (.getfield 32, 3) := by decide +kernel
theorem dX3_rentOf_13 : decode cX3_rentOf 13 = .ok (.if_icmp .ge 52, 3) := by decide +kernel
theorem dX3_rentOf_16 : decode cX3_rentOf 16 = .ok (.iconst 0, 1) := by decide +kernel
theorem dX3_rentOf_17 : decode cX3_rentOf 17 = .ok (.iload_n 1, 1) := by decide +kernel
theorem dX3_rentOf_18 : decode cX3_rentOf 18 = .ok (.aload_n 0, 1) := by decide +kernel
theorem dX3_rentOf_19 : decode cX3_rentOf 19 = .ok (.getfield 16, 3) := by decide +kernel
theorem dX3_rentOf_22 : decode cX3_rentOf 22 = .ok (.iload 4, 2) := by decide +kernel
theorem dX3_rentOf_24 : decode cX3_rentOf 24 = .ok (.iaload, 1) := by decide +kernel
theorem dX3_rentOf_25 : decode cX3_rentOf 25 = .ok (.invokestatic 35, 3) := by decide +kernel
theorem dX3_rentOf_28 : decode cX3_rentOf 28 = .ok (.iload_n 3, 1) := by decide +kernel
theorem dX3_rentOf_29 : decode cX3_rentOf 29 = .ok (.isub, 1) := by decide +kernel
theorem dX3_rentOf_30 : decode cX3_rentOf 30 = .ok (.invokestatic 41, 3) := by decide +kernel
theorem dX3_rentOf_33 : decode cX3_rentOf 33 = .ok (.istore 5, 2) := by decide +kernel
theorem dX3_rentOf_35 : decode cX3_rentOf 35 = .ok (.iload_n 2, 1) := by decide +kernel
theorem dX3_rentOf_36 : decode cX3_rentOf 36 = .ok (.iload 5, 2) := by decide +kernel
theorem dX3_rentOf_38 : decode cX3_rentOf 38 = .ok (.aload_n 0, 1) := by decide +kernel
theorem dX3_rentOf_39 : decode cX3_rentOf 39 = .ok (.getfield 19, 3) := by decide +kernel
theorem dX3_rentOf_42 : decode cX3_rentOf 42 = .ok (.iload 4, 2) := by decide +kernel
theorem dX3_rentOf_44 : decode cX3_rentOf 44 = .ok (.iaload, 1) := by decide +kernel
theorem dX3_rentOf_45 : decode cX3_rentOf 45 = .ok (.imul, 1) := by decide +kernel
theorem dX3_rentOf_46 : decode cX3_rentOf 46 = .ok (.bipush 100, 2) := by decide +kernel
theorem dX3_rentOf_48 : decode cX3_rentOf 48 = .ok (.idiv, 1) := by decide +kernel
theorem dX3_rentOf_49 : decode cX3_rentOf 49 = .ok (.iadd, 1) := by decide +kernel
theorem dX3_rentOf_50 : decode cX3_rentOf 50 = .ok (.istore_n 2, 1) := by decide +kernel
theorem dX3_rentOf_51 : decode cX3_rentOf 51 = .ok (.aload_n 0, 1) := by decide +kernel
theorem dX3_rentOf_52 : decode cX3_rentOf 52 = .ok (.getfield 16, 3) := by decide +kernel
theorem dX3_rentOf_55 : decode cX3_rentOf 55 = .ok (.iload 4, 2) := by decide +kernel
theorem dX3_rentOf_57 : decode cX3_rentOf 57 = .ok (.iaload, 1) := by decide +kernel
theorem dX3_rentOf_58 : decode cX3_rentOf 58 = .ok (.istore_n 3, 1) := by decide +kernel
theorem dX3_rentOf_59 : decode cX3_rentOf 59 = .ok (.iinc 4 1, 3) := by decide +kernel
theorem dX3_rentOf_62 : decode cX3_rentOf 62 = .ok (.goto (-55), 3) := by decide +kernel
theorem dX3_rentOf_65 : decode cX3_rentOf 65 = .ok (.iload_n 2, 1) := by decide +kernel
theorem dX3_rentOf_66 : decode cX3_rentOf 66 = .ok (.ireturn, 1) := by decide +kernel
theorem dX4_init_0 : decode cX4_init 0 = .ok (.aload_n 0, 1) := by decide +kernel
theorem dX4_init_1 : decode cX4_init 1 = .ok (.invokespecial 1, 3) := by decide +kernel
theorem dX4_init_4 : decode cX4_init 4 = .ok (.return_, 1) := by decide +kernel
theorem dX4_free_0 : decode cX4_free 0 = .ok (.aload_n 0, 1) := by decide +kernel
theorem dX4_free_1 : decode cX4_free 1 = .ok (.getfield 7, 3) := by decide +kernel
theorem dX4_free_4 : decode cX4_free 4 = .ok (.aload_n 0, 1) := by decide +kernel
theorem dX4_free_5 : decode cX4_free 5 = .ok (.getfield 13, 3) := by decide +kernel
theorem dX4_free_8 : decode cX4_free 8 = .ok (.isub, 1) := by decide +kernel
theorem dX4_free_9 : decode cX4_free 9 = .ok (.ireturn, 1) := by decide +kernel
theorem dX4_toldKind_0 : decode cX4_toldKind 0 = .ok (.aload_n 0, 1) := by decide +kernel
theorem dX4_toldKind_1 : decode cX4_toldKind 1 = .ok (.getfield 7, 3) := by decide +kernel
theorem dX4_toldKind_4 : decode cX4_toldKind 4 = .ok (.ifCond .ne 5, 3) := by decide +kernel
theorem dX4_toldKind_7 : decode cX4_toldKind 7 = .ok (.iconst 3, 1) := by decide +kernel
theorem dX4_toldKind_8 : decode cX4_toldKind 8 = .ok (.ireturn, 1) := by decide +kernel
theorem dX4_toldKind_9 : decode cX4_toldKind 9 = .ok (.aload_n 0, 1) := by decide +kernel
theorem dX4_toldKind_10 : decode cX4_toldKind 10 = .ok (.invokevirtual 16, 3) := by decide +kernel
theorem dX4_toldKind_13 : decode cX4_toldKind 13 = .ok (.ifCond .le 5, 3) := by decide +kernel
theorem dX4_toldKind_16 : decode cX4_toldKind 16 = .ok (.iconst 0, 1) := by decide +kernel
theorem dX4_toldKind_17 : decode cX4_toldKind 17 = .ok (.ireturn, 1) := by decide +kernel
theorem dX4_toldKind_18 : decode cX4_toldKind 18 = .ok (.aload_n 0, 1) := by decide +kernel
theorem dX4_toldKind_19 : decode cX4_toldKind 19 = .ok (.getfield 20, 3) := by decide +kernel
theorem dX4_toldKind_22 : decode cX4_toldKind 22 = .ok (.iconst 1, 1) := by decide +kernel
theorem dX4_toldKind_23 : decode cX4_toldKind 23 = .ok (.if_icmp .lt 7, 3) := by decide +kernel
theorem dX4_toldKind_26 : decode cX4_toldKind 26 = .ok (.iconst 2, 1) := by decide +kernel
theorem dX4_toldKind_27 : decode cX4_toldKind 27 = .ok (.goto 4, 3) := by decide +kernel
theorem dX4_toldKind_30 : decode cX4_toldKind 30 = .ok (.iconst 1, 1) := by decide +kernel
theorem dX4_toldKind_31 : decode cX4_toldKind 31 = .ok (.ireturn, 1) := by decide +kernel
theorem dX4_isOf_0 : decode cX4_isOf 0 = .ok (.aload_n 0, 1) := by decide +kernel
theorem dX4_isOf_1 : decode cX4_isOf 1 = .ok (.invokevirtual 23, 3) := by decide +kernel
theorem dX4_isOf_4 : decode cX4_isOf 4 = .ok (.istore_n 2, 1) := by decide +kernel
theorem dX4_isOf_5 : decode cX4_isOf 5 = .ok (.iload_n 1, 1) := by decide +kernel
theorem dX4_isOf_6 : decode cX4_isOf 6 = .ok (.ifCond .eq 18, 3) := by decide +kernel
theorem dX4_isOf_9 : decode cX4_isOf 9 = .ok (.iload_n 1, 1) := by decide +kernel
theorem dX4_isOf_10 : decode cX4_isOf 10 = .ok (.iload_n 2, 1) := by decide +kernel
theorem dX4_isOf_11 : decode cX4_isOf 11 = .ok (.if_icmp .eq 13, 3) := by decide +kernel
theorem dX4_isOf_14 : decode cX4_isOf 14 = .ok (.iload_n 1, 1) := by decide +kernel
theorem dX4_isOf_15 : decode cX4_isOf 15 = .ok (.iconst 1, 1) := by decide +kernel
theorem dX4_isOf_16 : decode cX4_isOf 16 = .ok (.if_icmp .ne 12, 3) := by decide +kernel
theorem dX4_isOf_19 : decode cX4_isOf 19 = .ok (.iload_n 2, 1) := by decide +kernel
theorem dX4_isOf_20 : decode cX4_isOf 20 = .ok (.iconst 2, 1) := by decide +kernel
theorem dX4_isOf_21 : decode cX4_isOf 21 = .ok (.if_icmp .ne 7, 3) := by decide +kernel
theorem dX4_isOf_24 : decode cX4_isOf 24 = .ok (.iconst 1, 1) := by decide +kernel
theorem dX4_isOf_25 : decode cX4_isOf 25 = .ok (.goto 4, 3) := by decide +kernel
theorem dX4_isOf_28 : decode cX4_isOf 28 = .ok (.iconst 0, 1) := by decide +kernel
theorem dX4_isOf_29 : decode cX4_isOf 29 = .ok (.ireturn, 1) := by decide +kernel
theorem dX4_foundAt_0 : decode cX4_foundAt 0 = .ok (.iconst 0, 1) := by decide +kernel
theorem dX4_foundAt_1 : decode cX4_foundAt 1 = .ok (.aload_n 0, 1) := by decide +kernel
theorem dX4_foundAt_2 : decode cX4_foundAt 2 = .ok (.getfield 20, 3) := by decide +kernel
theorem dX4_foundAt_5 : decode cX4_foundAt 5 = .ok (.iload_n 1, 1) := by decide +kernel
theorem dX4_foundAt_6 : decode cX4_foundAt 6 = .ok (.aload_n 0, 1) := by decide +kernel
theorem dX4_foundAt_7 : decode cX4_foundAt 7 = .ok (.getfield 26, 3) := by decide +kernel
theorem dX4_foundAt_10 : decode cX4_foundAt 10 = .ok (.imul, 1) := by decide +kernel
theorem dX4_foundAt_11 : decode cX4_foundAt 11 = .ok (.isub, 1) := by decide +kernel
theorem dX4_foundAt_12 : decode cX4_foundAt 12 = .ok (.invokestatic 29, 3) := by decide +kernel
theorem dX4_foundAt_15 : decode cX4_foundAt 15 = .ok (.ireturn, 1) := by decide +kernel
theorem dX5_init_0 : decode cX5_init 0 = .ok (.aload_n 0, 1) := by decide +kernel
theorem dX5_init_1 : decode cX5_init 1 = .ok (.invokespecial 1, 3) := by decide +kernel
theorem dX5_init_4 : decode cX5_init 4 = .ok (.aload_n 0, 1) := by decide +kernel
theorem dX5_init_5 : decode cX5_init 5 = .ok (.sipush 300, 3) := by decide +kernel
theorem dX5_init_8 : decode cX5_init 8 = .ok (.newarray .byte, 2) := by decide +kernel
theorem dX5_init_10 : decode cX5_init 10 = .ok (.putfield 9, 3) := by decide +kernel
theorem dX5_init_13 : decode cX5_init 13 = .ok (.return_, 1) := by decide +kernel
theorem dX5_hasRoomFor_0 : decode cX5_hasRoomFor 0 = .ok (.aload_n 0, 1) := by decide +kernel
theorem dX5_hasRoomFor_1 : decode cX5_hasRoomFor 1 = .ok (.getfield 13, 3) := by decide +kernel
theorem dX5_hasRoomFor_4 : decode cX5_hasRoomFor 4 = .ok (.iload_n 1, 1) := by decide +kernel
theorem dX5_hasRoomFor_5 : decode cX5_hasRoomFor 5 = .ok (.iadd, 1) := by decide +kernel
theorem dX5_hasRoomFor_6 : decode cX5_hasRoomFor 6 = .ok (.aload_n 0, 1) := by decide +kernel
theorem dX5_hasRoomFor_7 : decode cX5_hasRoomFor 7 = .ok (.getfield 9, 3) := by decide +kernel
theorem dX5_hasRoomFor_10 : decode cX5_hasRoomFor 10 = .ok (.arraylength, 1) := by decide +kernel
theorem dX5_hasRoomFor_11 : decode cX5_hasRoomFor 11 = .ok (.if_icmp .gt 7, 3) := by decide +kernel
theorem dX5_hasRoomFor_14 : decode cX5_hasRoomFor 14 = .ok (.iconst 1, 1) := by decide +kernel
theorem dX5_hasRoomFor_15 : decode cX5_hasRoomFor 15 = .ok (.goto 4, 3) := by decide +kernel
theorem dX5_hasRoomFor_18 : decode cX5_hasRoomFor 18 = .ok (.iconst 0, 1) := by decide +kernel
theorem dX5_hasRoomFor_19 : decode cX5_hasRoomFor 19 = .ok (.ireturn, 1) := by decide +kernel
theorem dX5_append_0 : decode cX5_append 0 = .ok (.iload_n 3, 1) := by decide +kernel
theorem dX5_append_1 : decode cX5_append 1 = .ok (.iconst 1, 1) := by decide +kernel
theorem dX5_append_2 : decode cX5_append 2 = .ok (.isub, 1) := by decide +kernel
theorem dX5_append_3 : decode cX5_append 3 = .ok (.istore 4, 2) := by decide +kernel
theorem dX5_append_5 : decode cX5_append 5 = .ok (.iload 4, 2) := by decide +kernel
theorem dX5_append_7 : decode cX5_append 7 = .ok (.ifCond .lt 37, 3) := by decide +kernel
theorem dX5_append_10 : decode cX5_append 10 = .ok (.aload_n 0, 1) := by decide +kernel
theorem dX5_append_11 : decode cX5_append 11 = .ok (.getfield 9, 3) := by decide +kernel
theorem dX5_append_14 : decode cX5_append 14 = .ok (.aload_n 0, 1) := by decide +kernel
theorem dX5_append_15 : decode cX5_append 15 = .ok (.getfield 13, 3) := by decide +kernel
theorem dX5_append_18 : decode cX5_append 18 = .ok (.lload_n 1, 1) := by decide +kernel
theorem dX5_append_19 : decode cX5_append 19 = .ok (.bipush 8, 2) := by decide +kernel
theorem dX5_append_21 : decode cX5_append 21 = .ok (.iload 4, 2) := by decide +kernel
theorem dX5_append_23 : decode cX5_append 23 = .ok (.imul, 1) := by decide +kernel
theorem dX5_append_24 : decode cX5_append 24 = .ok (.lshr, 1) := by decide +kernel
theorem dX5_append_25 : decode cX5_append 25 = .ok (.l2i, 1) := by decide +kernel
theorem dX5_append_26 : decode cX5_append 26 = .ok (.i2b, 1) := by decide +kernel
theorem dX5_append_27 : decode cX5_append 27 = .ok (.bastore, 1) := by decide +kernel
theorem dX5_append_28 : decode cX5_append 28 = .ok (.aload_n 0, 1) := by decide +kernel
theorem dX5_append_29 : decode cX5_append 29 = .ok (.dup, 1) := by decide +kernel
theorem dX5_append_30 : decode cX5_append 30 = .ok (.getfield 13, 3) := by decide +kernel
theorem dX5_append_33 : decode cX5_append 33 = .ok (.iconst 1, 1) := by decide +kernel
theorem dX5_append_34 : decode cX5_append 34 = .ok (.iadd, 1) := by decide +kernel
theorem dX5_append_35 : decode cX5_append 35 = .ok (.putfield 13, 3) := by decide +kernel
theorem dX5_append_38 : decode cX5_append 38 = .ok (.iinc 4 (-1), 3) := by decide +kernel
theorem dX5_append_41 : decode cX5_append 41 = .ok (.goto (-36), 3) := by decide +kernel
theorem dX5_append_44 : decode cX5_append 44 = .ok (.return_, 1) := by decide +kernel
theorem dX5_at_0 : decode cX5_at 0 = .ok (.iload_n 1, 1) := by decide +kernel
theorem dX5_at_1 : decode cX5_at 1 = .ok (.ifCond .lt 24, 3) := by decide +kernel
theorem dX5_at_4 : decode cX5_at 4 = .ok (.iload_n 1, 1) := by decide +kernel
theorem dX5_at_5 : decode cX5_at 5 = .ok (.aload_n 0, 1) := by decide +kernel
theorem dX5_at_6 : decode cX5_at 6 = .ok (.getfield 13, 3) := by decide +kernel
theorem dX5_at_9 : decode cX5_at 9 = .ok (.if_icmp .ge 16, 3) := by decide +kernel
theorem dX5_at_12 : decode cX5_at 12 = .ok (.aload_n 0, 1) := by decide +kernel
theorem dX5_at_13 : decode cX5_at 13 = .ok (.getfield 9, 3) := by decide +kernel
theorem dX5_at_16 : decode cX5_at 16 = .ok (.iload_n 1, 1) := by decide +kernel
theorem dX5_at_17 : decode cX5_at 17 = .ok (.baload, 1) := by decide +kernel
theorem dX5_at_18 : decode cX5_at 18 = .ok (.sipush 255, 3) := by decide +kernel
theorem dX5_at_21 : decode cX5_at 21 = .ok (.iand, 1) := by decide +kernel
theorem dX5_at_22 : decode cX5_at 22 = .ok (.goto 4, 3) := by decide +kernel
theorem dX5_at_25 : decode cX5_at 25 = .ok (.iconst (-1), 1) := by decide +kernel
theorem dX5_at_26 : decode cX5_at 26 = .ok (.ireturn, 1) := by decide +kernel
theorem dX6_init_0 : decode cX6_init 0 = .ok (.aload_n 0, 1) := by decide +kernel
theorem dX6_init_1 : decode cX6_init 1 = .ok (.invokespecial 1, 3) := by decide +kernel
theorem dX6_init_4 : decode cX6_init 4 = .ok (.return_, 1) := by decide +kernel
theorem dX7_init_0 : decode cX7_init 0 = .ok (.aload_n 0, 1) := by decide +kernel
theorem dX7_init_1 : decode cX7_init 1 = .ok (.invokespecial 1, 3) := by decide +kernel
theorem dX7_init_4 : decode cX7_init 4 = .ok (.aload_n 0, 1) := by decide +kernel
theorem dX7_init_5 : decode cX7_init 5 = .ok (.bipush 30, 2) := by decide +kernel
theorem dX7_init_7 : decode cX7_init 7 = .ok (.anewarray 9, 3) := by decide +kernel
theorem dX7_init_10 : decode cX7_init 10 = .ok (.putfield 11, 3) := by decide +kernel
theorem dX7_init_13 : decode cX7_init 13 = .ok (.iconst 0, 1) := by decide +kernel
theorem dX7_init_14 : decode cX7_init 14 = .ok (.istore_n 1, 1) := by decide +kernel
theorem dX7_init_15 : decode cX7_init 15 = .ok (.iload_n 1, 1) := by decide +kernel
theorem dX7_init_16 : decode cX7_init 16 = .ok (.aload_n 0, 1) := by decide +kernel
theorem dX7_init_17 : decode cX7_init 17 = .ok (.getfield 11, 3) := by decide +kernel
theorem dX7_init_20 : decode cX7_init 20 = .ok (.arraylength, 1) := by decide +kernel
theorem dX7_init_21 : decode cX7_init 21 = .ok (.if_icmp .ge 22, 3) := by decide +kernel
theorem dX7_init_24 : decode cX7_init 24 = .ok (.aload_n 0, 1) := by decide +kernel
theorem dX7_init_25 : decode cX7_init 25 = .ok (.getfield 11, 3) := by decide +kernel
theorem dX7_init_28 : decode cX7_init 28 = .ok (.iload_n 1, 1) := by decide +kernel
theorem dX7_init_29 : decode cX7_init 29 = .ok (.new 9, 3) := by decide +kernel
theorem dX7_init_32 : decode cX7_init 32 = .ok (.dup, 1) := by decide +kernel
theorem dX7_init_33 : decode cX7_init 33 = .ok (.invokespecial 15, 3) := by decide +kernel
theorem dX7_init_36 : decode cX7_init 36 = .ok (.aastore, 1) := by decide +kernel
theorem dX7_init_37 : decode cX7_init 37 = .ok (.iinc 1 1, 3) := by decide +kernel
theorem dX7_init_40 : decode cX7_init 40 = .ok (.goto (-25), 3) := by decide +kernel
theorem dX7_init_43 : decode cX7_init 43 = .ok (.return_, 1) := by decide +kernel
theorem dX7_isFull_0 : decode cX7_isFull 0 = .ok (.aload_n 0, 1) := by decide +kernel
theorem dX7_isFull_1 : decode cX7_isFull 1 = .ok (.getfield 16, 3) := by decide +kernel
theorem dX7_isFull_4 : decode cX7_isFull 4 = .ok (.aload_n 0, 1) := by decide +kernel
theorem dX7_isFull_5 : decode cX7_isFull 5 = .ok (.getfield 11, 3) := by decide +kernel
theorem dX7_isFull_8 : decode cX7_isFull 8 = .ok (.arraylength, 1) := by decide +kernel
theorem dX7_isFull_9 : decode cX7_isFull 9 = .ok (.if_icmp .lt 7, 3) := by decide +kernel
theorem dX7_isFull_12 : decode cX7_isFull 12 = .ok (.iconst 1, 1) := by decide +kernel
theorem dX7_isFull_13 : decode cX7_isFull 13 = .ok (.goto 4, 3) := by decide +kernel
theorem dX7_isFull_16 : decode cX7_isFull 16 = .ok (.iconst 0, 1) := by decide +kernel
theorem dX7_isFull_17 : decode cX7_isFull 17 = .ok (.ireturn, 1) := by decide +kernel
theorem dX7_open_0 : decode cX7_open 0 = .ok (.aload_n 0, 1) := by decide +kernel
theorem dX7_open_1 : decode cX7_open 1 = .ok (.getfield 11, 3) := by decide +kernel
theorem dX7_open_4 : decode cX7_open 4 = .ok (.aload_n 0, 1) := by decide +kernel
theorem dX7_open_5 : decode cX7_open 5 = .ok (.getfield 16, 3) := by decide +kernel
theorem dX7_open_8 : decode cX7_open 8 = .ok (.aaload, 1) := by decide +kernel
theorem dX7_open_9 : decode cX7_open 9 = .ok (.astore_n 1, 1) := by decide +kernel
theorem dX7_open_10 : decode cX7_open 10 = .ok (.aload_n 1, 1) := by decide +kernel
theorem dX7_open_11 : decode cX7_open 11 = .ok (.aload_n 0, 1) := by decide +kernel
theorem dX7_open_12 : decode cX7_open 12 = .ok (.getfield 20, 3) := by decide +kernel
theorem dX7_open_15 : decode cX7_open 15 = .ok (.putfield 23, 3) := by decide +kernel
theorem dX7_open_18 : decode cX7_open 18 = .ok (.aload_n 0, 1) := by decide +kernel
theorem dX7_open_19 : decode cX7_open 19 = .ok (.dup, 1) := by decide +kernel
theorem dX7_open_20 : decode cX7_open 20 = .ok (.getfield 16, 3) := by decide +kernel
theorem dX7_open_23 : decode cX7_open 23 = .ok (.iconst 1, 1) := by decide +kernel
theorem dX7_open_24 : decode cX7_open 24 = .ok (.iadd, 1) := by decide +kernel
theorem dX7_open_25 : decode cX7_open 25 = .ok (.putfield 16, 3) := by decide +kernel
theorem dX7_open_28 : decode cX7_open 28 = .ok (.aload_n 0, 1) := by decide +kernel
theorem dX7_open_29 : decode cX7_open 29 = .ok (.dup, 1) := by decide +kernel
theorem dX7_open_30 : decode cX7_open 30 = .ok (.getfield 20, 3) := by decide +kernel
theorem dX7_open_33 : decode cX7_open 33 = .ok (.iconst 1, 1) := by decide +kernel
theorem dX7_open_34 : decode cX7_open 34 = .ok (.iadd, 1) := by decide +kernel
theorem dX7_open_35 : decode cX7_open 35 = .ok (.putfield 20, 3) := by decide +kernel
theorem dX7_open_38 : decode cX7_open 38 = .ok (.aload_n 1, 1) := by decide +kernel
theorem dX7_open_39 : decode cX7_open 39 = .ok (.areturn, 1) := by decide +kernel
theorem dX7_find_0 : decode cX7_find 0 = .ok (.iconst 0, 1) := by decide +kernel
theorem dX7_find_1 : decode cX7_find 1 = .ok (.istore_n 2, 1) := by decide +kernel
theorem dX7_find_2 : decode cX7_find 2 = .ok (.iload_n 2, 1) := by decide +kernel
theorem dX7_find_3 : decode cX7_find 3 = .ok (.aload_n 0, 1) := by decide +kernel
theorem dX7_find_4 : decode cX7_find 4 = .ok (.getfield 16, 3) := by decide +kernel
theorem dX7_find_7 : decode cX7_find 7 = .ok (.if_icmp .ge 29, 3) := by decide +kernel
theorem dX7_find_10 : decode cX7_find 10 = .ok (.aload_n 0, 1) := by decide +kernel
theorem dX7_find_11 : decode cX7_find 11 = .ok (.getfield 11, 3) := by decide +kernel
theorem dX7_find_14 : decode cX7_find 14 = .ok (.iload_n 2, 1) := by decide +kernel
theorem dX7_find_15 : decode cX7_find 15 = .ok (.aaload, 1) := by decide +kernel
theorem dX7_find_16 : decode cX7_find 16 = .ok (.getfield 23, 3) := by decide +kernel
theorem dX7_find_19 : decode cX7_find 19 = .ok (.iload_n 1, 1) := by decide +kernel
theorem dX7_find_20 : decode cX7_find 20 = .ok (.if_icmp .ne 10, 3) := by decide +kernel
theorem dX7_find_23 : decode cX7_find 23 = .ok (.aload_n 0, 1) := by decide +kernel
theorem dX7_find_24 : decode cX7_find 24 = .ok (.getfield 11, 3) := by decide +kernel
theorem dX7_find_27 : decode cX7_find 27 = .ok (.iload_n 2, 1) := by decide +kernel
theorem dX7_find_28 : decode cX7_find 28 = .ok (.aaload, 1) := by decide +kernel
theorem dX7_find_29 : decode cX7_find 29 = .ok (.areturn, 1) := by decide +kernel
theorem dX7_find_30 : decode cX7_find 30 = .ok (.iinc 2 1, 3) := by decide +kernel
theorem dX7_find_33 : decode cX7_find 33 = .ok (.goto (-31), 3) := by decide +kernel
theorem dX7_find_36 : decode cX7_find 36 = .ok (.aconst_null, 1) := by decide +kernel
theorem dX7_find_37 : decode cX7_find 37 = .ok (.areturn, 1) := by decide +kernel
theorem dX7_latestAt_0 : decode cX7_latestAt 0 = .ok (.aload_n 0, 1) := by decide +kernel
theorem dX7_latestAt_1 : decode cX7_latestAt 1 = .ok (.getfield 16, 3) := by decide +kernel
theorem dX7_latestAt_4 : decode cX7_latestAt 4 = .ok (.iconst 1, 1) := by decide +kernel
theorem dX7_latestAt_5 : decode cX7_latestAt 5 = .ok (.isub, 1) := by decide +kernel
theorem dX7_latestAt_6 : decode cX7_latestAt 6 = .ok (.istore_n 2, 1) := by decide +kernel
theorem dX7_latestAt_7 : decode cX7_latestAt 7 = .ok (.iload_n 2, 1) := by decide +kernel
theorem dX7_latestAt_8 : decode cX7_latestAt 8 = .ok (.ifCond .lt 41, 3) := by decide +kernel
theorem dX7_latestAt_11 : decode cX7_latestAt 11 = .ok (.aload_n 0, 1) := by decide +kernel
theorem dX7_latestAt_12 : decode cX7_latestAt 12 = .ok (.getfield 11, 3) := by decide +kernel
theorem dX7_latestAt_15 : decode cX7_latestAt 15 = .ok (.iload_n 2, 1) := by decide +kernel
theorem dX7_latestAt_16 : decode cX7_latestAt 16 = .ok (.aaload, 1) := by decide +kernel
theorem dX7_latestAt_17 : decode cX7_latestAt 17 = .ok (.getfield 26, 3) := by decide +kernel
theorem dX7_latestAt_20 : decode cX7_latestAt 20 = .ok (.iload_n 1, 1) := by decide +kernel
theorem dX7_latestAt_21 : decode cX7_latestAt 21 = .ok (.if_icmp .ne 22, 3) := by decide +kernel
theorem dX7_latestAt_24 : decode cX7_latestAt 24 = .ok (.aload_n 0, 1) := by decide +kernel
theorem dX7_latestAt_25 : decode cX7_latestAt 25 = .ok (.getfield 11, 3) := by decide +kernel
theorem dX7_latestAt_28 : decode cX7_latestAt 28 = .ok (.iload_n 2, 1) := by decide +kernel
theorem dX7_latestAt_29 : decode cX7_latestAt 29 = .ok (.aaload, 1) := by decide +kernel
theorem dX7_latestAt_30 : decode cX7_latestAt 30 = .ok (.getfield 29, 3) := by decide +kernel
theorem dX7_latestAt_33 : decode cX7_latestAt 33 = .ok (.ifCond .le 10, 3) := by decide +kernel
theorem dX7_latestAt_36 : decode cX7_latestAt 36 = .ok (.aload_n 0, 1) := by decide +kernel
theorem dX7_latestAt_37 : decode cX7_latestAt 37 = .ok (.getfield 11, 3) := by decide +kernel
theorem dX7_latestAt_40 : decode cX7_latestAt 40 = .ok (.iload_n 2, 1) := by decide +kernel
theorem dX7_latestAt_41 : decode cX7_latestAt 41 = .ok (.aaload, 1) := by decide +kernel
theorem dX7_latestAt_42 : decode cX7_latestAt 42 = .ok (.areturn, 1) := by decide +kernel
theorem dX7_latestAt_43 : decode cX7_latestAt 43 = .ok (.iinc 2 (-1), 3) := by decide +kernel
theorem dX7_latestAt_46 : decode cX7_latestAt 46 = .ok (.goto (-39), 3) := by decide +kernel
theorem dX7_latestAt_49 : decode cX7_latestAt 49 = .ok (.aconst_null, 1) := by decide +kernel
theorem dX7_latestAt_50 : decode cX7_latestAt 50 = .ok (.areturn, 1) := by decide +kernel
theorem dX7_dropEnded_0 : decode cX7_dropEnded 0 = .ok (.iconst 0, 1) := by decide +kernel
theorem dX7_dropEnded_1 : decode cX7_dropEnded 1 = .ok (.istore_n 1, 1) := by decide +kernel
theorem dX7_dropEnded_2 : decode cX7_dropEnded 2 = .ok (.iconst 0, 1) := by decide +kernel
theorem dX7_dropEnded_3 : decode cX7_dropEnded 3 = .ok (.istore_n 2, 1) := by decide +kernel
theorem dX7_dropEnded_4 : decode cX7_dropEnded 4 = .ok (.iload_n 2, 1) := by decide +kernel
theorem dX7_dropEnded_5 : decode cX7_dropEnded 5 = .ok (.aload_n 0, 1) := by decide +kernel
theorem dX7_dropEnded_6 : decode cX7_dropEnded 6 = .ok (.getfield 16, 3) := by decide +kernel
theorem dX7_dropEnded_9 : decode cX7_dropEnded 9 = .ok (.if_icmp .ge 45, 3) := by decide +kernel
theorem dX7_dropEnded_12 : decode cX7_dropEnded 12 = .ok (.aload_n 0, 1) := by decide +kernel
theorem dX7_dropEnded_13 : decode cX7_dropEnded 13 = .ok (.getfield 11, 3) := by decide +kernel
theorem dX7_dropEnded_16 : decode cX7_dropEnded 16 = .ok (.iload_n 2, 1) := by decide +kernel
theorem dX7_dropEnded_17 : decode cX7_dropEnded 17 = .ok (.aaload, 1) := by decide +kernel
theorem dX7_dropEnded_18 : decode cX7_dropEnded 18 = .ok (.astore_n 3, 1) := by decide +kernel
theorem dX7_dropEnded_19 : decode cX7_dropEnded 19 = .ok (.aload_n 3, 1) := by decide +kernel
theorem dX7_dropEnded_20 : decode cX7_dropEnded 20 = .ok (.getfield 29, 3) := by decide +kernel
theorem dX7_dropEnded_23 : decode cX7_dropEnded 23 = .ok (.ifCond .le 25, 3) := by decide +kernel
theorem dX7_dropEnded_26 : decode cX7_dropEnded 26 = .ok (.aload_n 0, 1) := by decide +kernel
theorem dX7_dropEnded_27 : decode cX7_dropEnded 27 = .ok (.getfield 11, 3) := by decide +kernel
theorem dX7_dropEnded_30 : decode cX7_dropEnded 30 = .ok (.iload_n 2, 1) := by decide +kernel
theorem dX7_dropEnded_31 : decode cX7_dropEnded 31 = .ok (.aload_n 0, 1) := by decide +kernel
theorem dX7_dropEnded_32 : decode cX7_dropEnded 32 = .ok (.getfield 11, 3) := by decide +kernel
theorem dX7_dropEnded_35 : decode cX7_dropEnded 35 = .ok (.iload_n 1, 1) := by decide +kernel
theorem dX7_dropEnded_36 : decode cX7_dropEnded 36 = .ok (.aaload, 1) := by decide +kernel
theorem dX7_dropEnded_37 : decode cX7_dropEnded 37 = .ok (.aastore, 1) := by decide +kernel
theorem dX7_dropEnded_38 : decode cX7_dropEnded 38 = .ok (.aload_n 0, 1) := by decide +kernel
theorem dX7_dropEnded_39 : decode cX7_dropEnded 39 = .ok (.getfield 11, 3) := by decide +kernel
theorem dX7_dropEnded_42 : decode cX7_dropEnded 42 = .ok (.iload_n 1, 1) := by decide +kernel
theorem dX7_dropEnded_43 : decode cX7_dropEnded 43 = .ok (.aload_n 3, 1) := by decide +kernel
theorem dX7_dropEnded_44 : decode cX7_dropEnded 44 = .ok (.aastore, 1) := by decide +kernel
theorem dX7_dropEnded_45 : decode cX7_dropEnded 45 = .ok (.iinc 1 1, 3) := by decide +kernel
theorem dX7_dropEnded_48 : decode cX7_dropEnded 48 = .ok (.iinc 2 1, 3) := by decide +kernel
theorem dX7_dropEnded_51 : decode cX7_dropEnded 51 = .ok (.goto (-47), 3) := by decide +kernel
theorem dX7_dropEnded_54 : decode cX7_dropEnded 54 = .ok (.aload_n 0, 1) := by decide +kernel
theorem dX7_dropEnded_55 : decode cX7_dropEnded 55 = .ok (.iload_n 1, 1) := by decide +kernel
theorem dX7_dropEnded_56 : decode cX7_dropEnded 56 = .ok (.putfield 16, 3) := by decide +kernel
theorem dX7_dropEnded_59 : decode cX7_dropEnded 59 = .ok (.return_, 1) := by decide +kernel
theorem dX8_init_0 : decode cX8_init 0 = .ok (.aload_n 0, 1) := by decide +kernel
theorem dX8_init_1 : decode cX8_init 1 = .ok (.invokespecial 1, 3) := by decide +kernel
theorem dX8_init_4 : decode cX8_init 4 = .ok (.aload_n 0, 1) := by decide +kernel
theorem dX8_init_5 : decode cX8_init 5 = .ok (.bipush 10, 2) := by decide +kernel
theorem dX8_init_7 : decode cX8_init 7 = .ok (.putfield 7, 3) := by decide +kernel
theorem dX8_init_10 : decode cX8_init 10 = .ok (.aload_n 0, 1) := by decide +kernel
theorem dX8_init_11 : decode cX8_init 11 = .ok (.bipush 60, 2) := by decide +kernel
theorem dX8_init_13 : decode cX8_init 13 = .ok (.putfield 13, 3) := by decide +kernel
theorem dX8_init_16 : decode cX8_init 16 = .ok (.aload_n 0, 1) := by decide +kernel
theorem dX8_init_17 : decode cX8_init 17 = .ok (.bipush 10, 2) := by decide +kernel
theorem dX8_init_19 : decode cX8_init 19 = .ok (.anewarray 16, 3) := by decide +kernel
theorem dX8_init_22 : decode cX8_init 22 = .ok (.putfield 18, 3) := by decide +kernel
theorem dX8_init_25 : decode cX8_init 25 = .ok (.aload_n 0, 1) := by decide +kernel
theorem dX8_init_26 : decode cX8_init 26 = .ok (.new 22, 3) := by decide +kernel
theorem dX8_init_29 : decode cX8_init 29 = .ok (.dup, 1) := by decide +kernel
theorem dX8_init_30 : decode cX8_init 30 = .ok (.invokespecial 24, 3) := by decide +kernel
theorem dX8_init_33 : decode cX8_init 33 = .ok (.putfield 25, 3) := by decide +kernel
theorem dX8_init_36 : decode cX8_init 36 = .ok (.aload_n 0, 1) := by decide +kernel
theorem dX8_init_37 : decode cX8_init 37 = .ok (.new 29, 3) := by decide +kernel
theorem dX8_init_40 : decode cX8_init 40 = .ok (.dup, 1) := by decide +kernel
theorem dX8_init_41 : decode cX8_init 41 = .ok (.invokespecial 31, 3) := by decide +kernel
theorem dX8_init_44 : decode cX8_init 44 = .ok (.putfield 32, 3) := by decide +kernel
theorem dX8_init_47 : decode cX8_init 47 = .ok (.aload_n 0, 1) := by decide +kernel
theorem dX8_init_48 : decode cX8_init 48 = .ok (.new 36, 3) := by decide +kernel
theorem dX8_init_51 : decode cX8_init 51 = .ok (.dup, 1) := by decide +kernel
theorem dX8_init_52 : decode cX8_init 52 = .ok (.invokespecial 38, 3) := by decide +kernel
theorem dX8_init_55 : decode cX8_init 55 = .ok (.putfield 39, 3) := by decide +kernel
theorem dX8_init_58 : decode cX8_init 58 = .ok (.aload_n 0, 1) := by decide +kernel
theorem dX8_init_59 : decode cX8_init 59 = .ok (.new 36, 3) := by decide +kernel
theorem dX8_init_62 : decode cX8_init 62 = .ok (.dup, 1) := by decide +kernel
theorem dX8_init_63 : decode cX8_init 63 = .ok (.invokespecial 38, 3) := by decide +kernel
theorem dX8_init_66 : decode cX8_init 66 = .ok (.putfield 43, 3) := by decide +kernel
theorem dX8_init_69 : decode cX8_init 69 = .ok (.aload_n 0, 1) := by decide +kernel
theorem dX8_init_70 : decode cX8_init 70 = .ok (.new 46, 3) := by decide +kernel
theorem dX8_init_73 : decode cX8_init 73 = .ok (.dup, 1) := by decide +kernel
theorem dX8_init_74 : decode cX8_init 74 = .ok (.invokespecial 48, 3) := by decide +kernel
theorem dX8_init_77 : decode cX8_init 77 = .ok (.putfield 49, 3) := by decide +kernel
theorem dX8_init_80 : decode cX8_init 80 = .ok (.aload_n 0, 1) := by decide +kernel
theorem dX8_init_81 : decode cX8_init 81 = .ok (.new 53, 3) := by decide +kernel
theorem dX8_init_84 : decode cX8_init 84 = .ok (.dup, 1) := by decide +kernel
theorem dX8_init_85 : decode cX8_init 85 = .ok (.invokespecial 55, 3) := by decide +kernel
theorem dX8_init_88 : decode cX8_init 88 = .ok (.putfield 56, 3) := by decide +kernel
theorem dX8_init_91 : decode cX8_init 91 = .ok (.aload_n 0, 1) := by decide +kernel
theorem dX8_init_92 : decode cX8_init 92 = .ok (.iconst 0, 1) := by decide +kernel
theorem dX8_init_93 : decode cX8_init 93 = .ok (.iload_n 1, 1) := by decide +kernel
theorem dX8_init_94 : decode cX8_init 94 = .ok (.sipush 9000, 3) := by decide +kernel
theorem dX8_init_97 : decode cX8_init 97 = .ok (.invokestatic 60, 3) := by decide +kernel
theorem dX8_init_100 : decode cX8_init 100 = .ok (.invokestatic 66, 3) := by decide +kernel
theorem dX8_init_103 : decode cX8_init 103 = .ok (.putfield 69, 3) := by decide +kernel
theorem dX8_init_106 : decode cX8_init 106 = .ok (.iconst 0, 1) := by decide +kernel
theorem dX8_init_107 : decode cX8_init 107 = .ok (.istore_n 2, 1) := by decide +kernel
theorem dX8_init_108 : decode cX8_init 108 = .ok (.iload_n 2, 1) := by decide +kernel
theorem dX8_init_109 : decode cX8_init 109 = .ok (.aload_n 0, 1) := by decide +kernel
theorem dX8_init_110 : decode cX8_init 110 = .ok (.getfield 18, 3) := by decide +kernel
theorem dX8_init_113 : decode cX8_init 113 = .ok (.arraylength, 1) := by decide +kernel
theorem dX8_init_114 : decode cX8_init 114 = .ok (.if_icmp .ge 22, 3) := by decide +kernel
theorem dX8_init_117 : decode cX8_init 117 = .ok (.aload_n 0, 1) := by decide +kernel
theorem dX8_init_118 : decode cX8_init 118 = .ok (.getfield 18, 3) := by decide +kernel
theorem dX8_init_121 : decode cX8_init 121 = .ok (.iload_n 2, 1) := by decide +kernel
theorem dX8_init_122 : decode cX8_init 122 = .ok (.new 16, 3) := by decide +kernel
theorem dX8_init_125 : decode cX8_init 125 = .ok (.dup, 1) := by decide +kernel
theorem dX8_init_126 : decode cX8_init 126 = .ok (.invokespecial 72, 3) := by decide +kernel
theorem dX8_init_129 : decode cX8_init 129 = .ok (.aastore, 1) := by decide +kernel
theorem dX8_init_130 : decode cX8_init 130 = .ok (.iinc 2 1, 3) := by decide +kernel
theorem dX8_init_133 : decode cX8_init 133 = .ok (.goto (-25), 3) := by decide +kernel
theorem dX8_init_136 : decode cX8_init 136 = .ok (.return_, 1) := by decide +kernel
theorem dX8_stretch_0 : decode cX8_stretch 0 = .ok (.iload_n 1, 1) := by decide +kernel
theorem dX8_stretch_1 : decode cX8_stretch 1 = .ok (.iconst 0, 1) := by decide +kernel
theorem dX8_stretch_2 : decode cX8_stretch 2 = .ok (.sipush 500, 3) := by decide +kernel
theorem dX8_stretch_5 : decode cX8_stretch 5 = .ok (.invokestatic 73, 3) := by decide +kernel
theorem dX8_stretch_8 : decode cX8_stretch 8 = .ok (.ifCond .eq 12, 3) := by decide +kernel
theorem dX8_stretch_11 : decode cX8_stretch 11 = .ok (.iload_n 2, 1) := by decide +kernel
theorem dX8_stretch_12 : decode cX8_stretch 12 = .ok (.iconst 0, 1) := by decide +kernel
theorem dX8_stretch_13 : decode cX8_stretch 13 = .ok (.iconst 3, 1) := by decide +kernel
theorem dX8_stretch_14 : decode cX8_stretch 14 = .ok (.invokestatic 73, 3) := by decide +kernel
theorem dX8_stretch_17 : decode cX8_stretch 17 = .ok (.ifCond .ne 6, 3) := by decide +kernel
theorem dX8_stretch_20 : decode cX8_stretch 20 = .ok (.ldc 77, 2) := by decide +kernel
theorem dX8_stretch_22 : decode cX8_stretch 22 = .ok (.ireturn, 1) := by decide +kernel
theorem dX8_stretch_23 : decode cX8_stretch 23 = .ok (.aload_n 0, 1) := by decide +kernel
theorem dX8_stretch_24 : decode cX8_stretch 24 = .ok (.getfield 78, 3) := by decide +kernel
theorem dX8_stretch_27 : decode cX8_stretch 27 = .ok (.aload_n 0, 1) := by decide +kernel
theorem dX8_stretch_28 : decode cX8_stretch 28 = .ok (.getfield 18, 3) := by decide +kernel
theorem dX8_stretch_31 : decode cX8_stretch 31 = .ok (.arraylength, 1) := by decide +kernel
theorem dX8_stretch_32 : decode cX8_stretch 32 = .ok (.if_icmp .lt 6, 3) := by decide +kernel
theorem dX8_stretch_35 : decode cX8_stretch 35 = .ok (.ldc 81, 2) := by decide +kernel
theorem dX8_stretch_37 : decode cX8_stretch 37 = .ok (.ireturn, 1) := by decide +kernel
theorem dX8_stretch_38 : decode cX8_stretch 38 = .ok (.aload_n 0, 1) := by decide +kernel
theorem dX8_stretch_39 : decode cX8_stretch 39 = .ok (.getfield 18, 3) := by decide +kernel
theorem dX8_stretch_42 : decode cX8_stretch 42 = .ok (.aload_n 0, 1) := by decide +kernel
theorem dX8_stretch_43 : decode cX8_stretch 43 = .ok (.getfield 78, 3) := by decide +kernel
theorem dX8_stretch_46 : decode cX8_stretch 46 = .ok (.aaload, 1) := by decide +kernel
theorem dX8_stretch_47 : decode cX8_stretch 47 = .ok (.astore_n 3, 1) := by decide +kernel
theorem dX8_stretch_48 : decode cX8_stretch 48 = .ok (.aload_n 3, 1) := by decide +kernel
theorem dX8_stretch_49 : decode cX8_stretch 49 = .ok (.iload_n 1, 1) := by decide +kernel
theorem dX8_stretch_50 : decode cX8_stretch 50 = .ok (.putfield 82, 3) := by decide +kernel
theorem dX8_stretch_53 : decode cX8_stretch 53 = .ok (.aload_n 3, 1) := by decide +kernel
theorem dX8_stretch_54 : decode cX8_stretch 54 = .ok (.iload_n 2, 1) := by decide +kernel
theorem dX8_stretch_55 : decode cX8_stretch 55 = .ok (.putfield 85, 3) := by decide +kernel
theorem dX8_stretch_58 : decode cX8_stretch 58 = .ok (.aload_n 0, 1) := by decide +kernel
theorem dX8_stretch_59 : decode cX8_stretch 59 = .ok (.dup, 1) := by decide +kernel
theorem dX8_stretch_60 : decode cX8_stretch 60 = .ok (.getfield 78, 3) := by decide +kernel
theorem dX8_stretch_63 : decode cX8_stretch 63 = .ok (.iconst 1, 1) := by decide +kernel
theorem dX8_stretch_64 : decode cX8_stretch 64 = .ok (.iadd, 1) := by decide +kernel
theorem dX8_stretch_65 : decode cX8_stretch 65 = .ok (.putfield 78, 3) := by decide +kernel
theorem dX8_stretch_68 : decode cX8_stretch 68 = .ok (.aload_n 0, 1) := by decide +kernel
theorem dX8_stretch_69 : decode cX8_stretch 69 = .ok (.getfield 78, 3) := by decide +kernel
theorem dX8_stretch_72 : decode cX8_stretch 72 = .ok (.iconst 1, 1) := by decide +kernel
theorem dX8_stretch_73 : decode cX8_stretch 73 = .ok (.isub, 1) := by decide +kernel
theorem dX8_stretch_74 : decode cX8_stretch 74 = .ok (.ireturn, 1) := by decide +kernel
theorem dX8_carry_0 : decode cX8_carry 0 = .ok (.aload_n 0, 1) := by decide +kernel
theorem dX8_carry_1 : decode cX8_carry 1 = .ok (.iload_n 1, 1) := by decide +kernel
theorem dX8_carry_2 : decode cX8_carry 2 = .ok (.invokevirtual 88, 3) := by decide +kernel
theorem dX8_carry_5 : decode cX8_carry 5 = .ok (.ifCond .eq 27, 3) := by decide +kernel
theorem dX8_carry_8 : decode cX8_carry 8 = .ok (.aload_n 0, 1) := by decide +kernel
theorem dX8_carry_9 : decode cX8_carry 9 = .ok (.iload_n 2, 1) := by decide +kernel
theorem dX8_carry_10 : decode cX8_carry 10 = .ok (.invokevirtual 88, 3) := by decide +kernel
theorem dX8_carry_13 : decode cX8_carry 13 = .ok (.ifCond .eq 19, 3) := by decide +kernel
theorem dX8_carry_16 : decode cX8_carry 16 = .ok (.iload_n 1, 1) := by decide +kernel
theorem dX8_carry_17 : decode cX8_carry 17 = .ok (.iload_n 2, 1) := by decide +kernel
theorem dX8_carry_18 : decode cX8_carry 18 = .ok (.if_icmp .eq 14, 3) := by decide +kernel
theorem dX8_carry_21 : decode cX8_carry 21 = .ok (.iload_n 3, 1) := by decide +kernel
theorem dX8_carry_22 : decode cX8_carry 22 = .ok (.iconst 0, 1) := by decide +kernel
theorem dX8_carry_23 : decode cX8_carry 23 = .ok (.sipush 9000, 3) := by decide +kernel
theorem dX8_carry_26 : decode cX8_carry 26 = .ok (.invokestatic 73, 3) := by decide +kernel
theorem dX8_carry_29 : decode cX8_carry 29 = .ok (.ifCond .ne 6, 3) := by decide +kernel
theorem dX8_carry_32 : decode cX8_carry 32 = .ok (.ldc 77, 2) := by decide +kernel
theorem dX8_carry_34 : decode cX8_carry 34 = .ok (.ireturn, 1) := by decide +kernel
theorem dX8_carry_35 : decode cX8_carry 35 = .ok (.aload_n 0, 1) := by decide +kernel
theorem dX8_carry_36 : decode cX8_carry 36 = .ok (.iload_n 1, 1) := by decide +kernel
theorem dX8_carry_37 : decode cX8_carry 37 = .ok (.invokevirtual 92, 3) := by decide +kernel
theorem dX8_carry_40 : decode cX8_carry 40 = .ok (.iload_n 3, 1) := by decide +kernel
theorem dX8_carry_41 : decode cX8_carry 41 = .ok (.if_icmp .ge 6, 3) := by decide +kernel
theorem dX8_carry_44 : decode cX8_carry 44 = .ok (.ldc 96, 2) := by decide +kernel
theorem dX8_carry_46 : decode cX8_carry 46 = .ok (.ireturn, 1) := by decide +kernel
theorem dX8_carry_47 : decode cX8_carry 47 = .ok (.aload_n 0, 1) := by decide +kernel
theorem dX8_carry_48 : decode cX8_carry 48 = .ok (.iload_n 1, 1) := by decide +kernel
theorem dX8_carry_49 : decode cX8_carry 49 = .ok (.iload_n 3, 1) := by decide +kernel
theorem dX8_carry_50 : decode cX8_carry 50 = .ok (.ineg, 1) := by decide +kernel
theorem dX8_carry_51 : decode cX8_carry 51 = .ok (.invokevirtual 97, 3) := by decide +kernel
theorem dX8_carry_54 : decode cX8_carry 54 = .ok (.pop, 1) := by decide +kernel
theorem dX8_carry_55 : decode cX8_carry 55 = .ok (.aload_n 0, 1) := by decide +kernel
theorem dX8_carry_56 : decode cX8_carry 56 = .ok (.iload_n 2, 1) := by decide +kernel
theorem dX8_carry_57 : decode cX8_carry 57 = .ok (.iload_n 3, 1) := by decide +kernel
theorem dX8_carry_58 : decode cX8_carry 58 = .ok (.invokevirtual 97, 3) := by decide +kernel
theorem dX8_carry_61 : decode cX8_carry 61 = .ok (.ireturn, 1) := by decide +kernel
theorem dX8_told_0 : decode cX8_told 0 = .ok (.aload_n 0, 1) := by decide +kernel
theorem dX8_told_1 : decode cX8_told 1 = .ok (.iload_n 1, 1) := by decide +kernel
theorem dX8_told_2 : decode cX8_told 2 = .ok (.invokevirtual 100, 3) := by decide +kernel
theorem dX8_told_5 : decode cX8_told 5 = .ok (.ifCond .ne 6, 3) := by decide +kernel
theorem dX8_told_8 : decode cX8_told 8 = .ok (.ldc 77, 2) := by decide +kernel
theorem dX8_told_10 : decode cX8_told 10 = .ok (.ireturn, 1) := by decide +kernel
theorem dX8_told_11 : decode cX8_told 11 = .ok (.aload_n 0, 1) := by decide +kernel
theorem dX8_told_12 : decode cX8_told 12 = .ok (.getfield 18, 3) := by decide +kernel
theorem dX8_told_15 : decode cX8_told 15 = .ok (.iload_n 1, 1) := by decide +kernel
theorem dX8_told_16 : decode cX8_told 16 = .ok (.aaload, 1) := by decide +kernel
theorem dX8_told_17 : decode cX8_told 17 = .ok (.astore_n 3, 1) := by decide +kernel
theorem dX8_told_18 : decode cX8_told 18 = .ok (.iload_n 2, 1) := by decide +kernel
theorem dX8_told_19 : decode cX8_told 19 = .ok (.tableswitch 67 0 5 #[37, 42, 47, 52, 57, 62], 37) := by decide +kernel
theorem dX8_told_56 : decode cX8_told 56 = .ok (.aload_n 3, 1) := by decide +kernel
theorem dX8_told_57 : decode cX8_told 57 = .ok (.getfield 82, 3) := by decide +kernel
theorem dX8_told_60 : decode cX8_told 60 = .ok (.ireturn, 1) := by decide +kernel
theorem dX8_told_61 : decode cX8_told 61 = .ok (.aload_n 3, 1) := by decide +kernel
theorem dX8_told_62 : decode cX8_told 62 = .ok (.getfield 85, 3) := by decide +kernel
theorem dX8_told_65 : decode cX8_told 65 = .ok (.ireturn, 1) := by decide +kernel
theorem dX8_told_66 : decode cX8_told 66 = .ok (.aload_n 3, 1) := by decide +kernel
theorem dX8_told_67 : decode cX8_told 67 = .ok (.getfield 103, 3) := by decide +kernel
theorem dX8_told_70 : decode cX8_told 70 = .ok (.ireturn, 1) := by decide +kernel
theorem dX8_told_71 : decode cX8_told 71 = .ok (.aload_n 3, 1) := by decide +kernel
theorem dX8_told_72 : decode cX8_told 72 = .ok (.invokevirtual 106, 3) := by decide +kernel
theorem dX8_told_75 : decode cX8_told 75 = .ok (.ireturn, 1) := by decide +kernel
theorem dX8_told_76 : decode cX8_told 76 = .ok (.aload_n 3, 1) := by decide +kernel
theorem dX8_told_77 : decode cX8_told 77 = .ok (.getfield 110, 3) := by decide +kernel
theorem dX8_told_80 : decode cX8_told 80 = .ok (.ireturn, 1) := by decide +kernel
theorem dX8_told_81 : decode cX8_told 81 = .ok (.aload_n 3, 1) := by decide +kernel
theorem dX8_told_82 : decode cX8_told 82 = .ok (.getfield 113, 3) := by decide +kernel
theorem dX8_told_85 : decode cX8_told 85 = .ok (.ireturn, 1) := by decide +kernel
theorem dX8_told_86 : decode cX8_told 86 = .ok (.ldc 77, 2) := by decide +kernel
theorem dX8_told_88 : decode cX8_told 88 = .ok (.ireturn, 1) := by decide +kernel
theorem dX8_rule_0 : decode cX8_rule 0 = .ok (.iload_n 1, 1) := by decide +kernel
theorem dX8_rule_1 : decode cX8_rule 1 = .ok (.ifCond .ne 25, 3) := by decide +kernel
theorem dX8_rule_4 : decode cX8_rule 4 = .ok (.iload_n 2, 1) := by decide +kernel
theorem dX8_rule_5 : decode cX8_rule 5 = .ok (.iconst 1, 1) := by decide +kernel
theorem dX8_rule_6 : decode cX8_rule 6 = .ok (.bipush 100, 2) := by decide +kernel
theorem dX8_rule_8 : decode cX8_rule 8 = .ok (.invokestatic 73, 3) := by decide +kernel
theorem dX8_rule_11 : decode cX8_rule 11 = .ok (.ifCond .eq 15, 3) := by decide +kernel
theorem dX8_rule_14 : decode cX8_rule 14 = .ok (.aload_n 0, 1) := by decide +kernel
theorem dX8_rule_15 : decode cX8_rule 15 = .ok (.getfield 7, 3) := by decide +kernel
theorem dX8_rule_18 : decode cX8_rule 18 = .ok (.istore_n 3, 1) := by decide +kernel
theorem dX8_rule_19 : decode cX8_rule 19 = .ok (.aload_n 0, 1) := by decide +kernel
theorem dX8_rule_20 : decode cX8_rule 20 = .ok (.iload_n 2, 1) := by decide +kernel
theorem dX8_rule_21 : decode cX8_rule 21 = .ok (.putfield 7, 3) := by decide +kernel
theorem dX8_rule_24 : decode cX8_rule 24 = .ok (.iload_n 3, 1) := by decide +kernel
theorem dX8_rule_25 : decode cX8_rule 25 = .ok (.ireturn, 1) := by decide +kernel
theorem dX8_rule_26 : decode cX8_rule 26 = .ok (.iload_n 1, 1) := by decide +kernel
theorem dX8_rule_27 : decode cX8_rule 27 = .ok (.iconst 1, 1) := by decide +kernel
theorem dX8_rule_28 : decode cX8_rule 28 = .ok (.if_icmp .ne 25, 3) := by decide +kernel
theorem dX8_rule_31 : decode cX8_rule 31 = .ok (.iload_n 2, 1) := by decide +kernel
theorem dX8_rule_32 : decode cX8_rule 32 = .ok (.iconst 0, 1) := by decide +kernel
theorem dX8_rule_33 : decode cX8_rule 33 = .ok (.bipush 100, 2) := by decide +kernel
theorem dX8_rule_35 : decode cX8_rule 35 = .ok (.invokestatic 73, 3) := by decide +kernel
theorem dX8_rule_38 : decode cX8_rule 38 = .ok (.ifCond .eq 15, 3) := by decide +kernel
theorem dX8_rule_41 : decode cX8_rule 41 = .ok (.aload_n 0, 1) := by decide +kernel
theorem dX8_rule_42 : decode cX8_rule 42 = .ok (.getfield 13, 3) := by decide +kernel
theorem dX8_rule_45 : decode cX8_rule 45 = .ok (.istore_n 3, 1) := by decide +kernel
theorem dX8_rule_46 : decode cX8_rule 46 = .ok (.aload_n 0, 1) := by decide +kernel
theorem dX8_rule_47 : decode cX8_rule 47 = .ok (.iload_n 2, 1) := by decide +kernel
theorem dX8_rule_48 : decode cX8_rule 48 = .ok (.putfield 13, 3) := by decide +kernel
theorem dX8_rule_51 : decode cX8_rule 51 = .ok (.iload_n 3, 1) := by decide +kernel
theorem dX8_rule_52 : decode cX8_rule 52 = .ok (.ireturn, 1) := by decide +kernel
theorem dX8_rule_53 : decode cX8_rule 53 = .ok (.ldc 77, 2) := by decide +kernel
theorem dX8_rule_55 : decode cX8_rule 55 = .ok (.ireturn, 1) := by decide +kernel
theorem dX8_mend_0 : decode cX8_mend 0 = .ok (.iload_n 1, 1) := by decide +kernel
theorem dX8_mend_1 : decode cX8_mend 1 = .ok (.iconst 0, 1) := by decide +kernel
theorem dX8_mend_2 : decode cX8_mend 2 = .ok (.sipush 9000, 3) := by decide +kernel
theorem dX8_mend_5 : decode cX8_mend 5 = .ok (.invokestatic 73, 3) := by decide +kernel
theorem dX8_mend_8 : decode cX8_mend 8 = .ok (.ifCond .ne 6, 3) := by decide +kernel
theorem dX8_mend_11 : decode cX8_mend 11 = .ok (.ldc 77, 2) := by decide +kernel
theorem dX8_mend_13 : decode cX8_mend 13 = .ok (.ireturn, 1) := by decide +kernel
theorem dX8_mend_14 : decode cX8_mend 14 = .ok (.aload_n 0, 1) := by decide +kernel
theorem dX8_mend_15 : decode cX8_mend 15 = .ok (.getfield 116, 3) := by decide +kernel
theorem dX8_mend_18 : decode cX8_mend 18 = .ok (.iload_n 1, 1) := by decide +kernel
theorem dX8_mend_19 : decode cX8_mend 19 = .ok (.if_icmp .ge 6, 3) := by decide +kernel
theorem dX8_mend_22 : decode cX8_mend 22 = .ok (.ldc 96, 2) := by decide +kernel
theorem dX8_mend_24 : decode cX8_mend 24 = .ok (.ireturn, 1) := by decide +kernel
theorem dX8_mend_25 : decode cX8_mend 25 = .ok (.aload_n 0, 1) := by decide +kernel
theorem dX8_mend_26 : decode cX8_mend 26 = .ok (.dup, 1) := by decide +kernel
theorem dX8_mend_27 : decode cX8_mend 27 = .ok (.getfield 116, 3) := by decide +kernel
theorem dX8_mend_30 : decode cX8_mend 30 = .ok (.iload_n 1, 1) := by decide +kernel
theorem dX8_mend_31 : decode cX8_mend 31 = .ok (.isub, 1) := by decide +kernel
theorem dX8_mend_32 : decode cX8_mend 32 = .ok (.putfield 116, 3) := by decide +kernel
theorem dX8_mend_35 : decode cX8_mend 35 = .ok (.aload_n 0, 1) := by decide +kernel
theorem dX8_mend_36 : decode cX8_mend 36 = .ok (.dup, 1) := by decide +kernel
theorem dX8_mend_37 : decode cX8_mend 37 = .ok (.getfield 69, 3) := by decide +kernel
theorem dX8_mend_40 : decode cX8_mend 40 = .ok (.iload_n 1, 1) := by decide +kernel
theorem dX8_mend_41 : decode cX8_mend 41 = .ok (.iadd, 1) := by decide +kernel
theorem dX8_mend_42 : decode cX8_mend 42 = .ok (.putfield 69, 3) := by decide +kernel
theorem dX8_mend_45 : decode cX8_mend 45 = .ok (.aload_n 0, 1) := by decide +kernel
theorem dX8_mend_46 : decode cX8_mend 46 = .ok (.getfield 116, 3) := by decide +kernel
theorem dX8_mend_49 : decode cX8_mend 49 = .ok (.ireturn, 1) := by decide +kernel
theorem dX8_hire_0 : decode cX8_hire 0 = .ok (.aload_n 0, 1) := by decide +kernel
theorem dX8_hire_1 : decode cX8_hire 1 = .ok (.iload_n 1, 1) := by decide +kernel
theorem dX8_hire_2 : decode cX8_hire 2 = .ok (.invokevirtual 100, 3) := by decide +kernel
theorem dX8_hire_5 : decode cX8_hire 5 = .ok (.ifCond .eq 23, 3) := by decide +kernel
theorem dX8_hire_8 : decode cX8_hire 8 = .ok (.iload_n 2, 1) := by decide +kernel
theorem dX8_hire_9 : decode cX8_hire 9 = .ok (.iconst 1, 1) := by decide +kernel
theorem dX8_hire_10 : decode cX8_hire 10 = .ok (.bipush 100, 2) := by decide +kernel
theorem dX8_hire_12 : decode cX8_hire 12 = .ok (.invokestatic 73, 3) := by decide +kernel
theorem dX8_hire_15 : decode cX8_hire 15 = .ok (.ifCond .eq 13, 3) := by decide +kernel
theorem dX8_hire_18 : decode cX8_hire 18 = .ok (.iload_n 3, 1) := by decide +kernel
theorem dX8_hire_19 : decode cX8_hire 19 = .ok (.iconst 1, 1) := by decide +kernel
theorem dX8_hire_20 : decode cX8_hire 20 = .ok (.bipush 12, 2) := by decide +kernel
theorem dX8_hire_22 : decode cX8_hire 22 = .ok (.invokestatic 73, 3) := by decide +kernel
theorem dX8_hire_25 : decode cX8_hire 25 = .ok (.ifCond .ne 6, 3) := by decide +kernel
theorem dX8_hire_28 : decode cX8_hire 28 = .ok (.ldc 77, 2) := by decide +kernel
theorem dX8_hire_30 : decode cX8_hire 30 = .ok (.ireturn, 1) := by decide +kernel
theorem dX8_hire_31 : decode cX8_hire 31 = .ok (.aload_n 0, 1) := by decide +kernel
theorem dX8_hire_32 : decode cX8_hire 32 = .ok (.getfield 119, 3) := by decide +kernel
theorem dX8_hire_35 : decode cX8_hire 35 = .ok (.aload_n 0, 1) := by decide +kernel
theorem dX8_hire_36 : decode cX8_hire 36 = .ok (.getfield 13, 3) := by decide +kernel
theorem dX8_hire_39 : decode cX8_hire 39 = .ok (.if_icmp .le 6, 3) := by decide +kernel
theorem dX8_hire_42 : decode cX8_hire 42 = .ok (.ldc 96, 2) := by decide +kernel
theorem dX8_hire_44 : decode cX8_hire 44 = .ok (.ireturn, 1) := by decide +kernel
theorem dX8_hire_45 : decode cX8_hire 45 = .ok (.aload_n 0, 1) := by decide +kernel
theorem dX8_hire_46 : decode cX8_hire 46 = .ok (.getfield 18, 3) := by decide +kernel
theorem dX8_hire_49 : decode cX8_hire 49 = .ok (.iload_n 1, 1) := by decide +kernel
theorem dX8_hire_50 : decode cX8_hire 50 = .ok (.aaload, 1) := by decide +kernel
theorem dX8_hire_51 : decode cX8_hire 51 = .ok (.astore 4, 2) := by decide +kernel
theorem dX8_hire_53 : decode cX8_hire 53 = .ok (.aload_n 0, 1) := by decide +kernel
theorem dX8_hire_54 : decode cX8_hire 54 = .ok (.getfield 25, 3) := by decide +kernel
theorem dX8_hire_57 : decode cX8_hire 57 = .ok (.invokevirtual 122, 3) := by decide +kernel
theorem dX8_hire_60 : decode cX8_hire 60 = .ok (.ifCond .ne 12, 3) := by decide +kernel
theorem dX8_hire_63 : decode cX8_hire 63 = .ok (.aload 4, 2) := by decide +kernel
theorem dX8_hire_65 : decode cX8_hire 65 = .ok (.invokevirtual 106, 3) := by decide +kernel
theorem dX8_hire_68 : decode cX8_hire 68 = .ok (.iload_n 2, 1) := by decide +kernel
theorem dX8_hire_69 : decode cX8_hire 69 = .ok (.if_icmp .ge 6, 3) := by decide +kernel
theorem dX8_hire_72 : decode cX8_hire 72 = .ok (.ldc 81, 2) := by decide +kernel
theorem dX8_hire_74 : decode cX8_hire 74 = .ok (.ireturn, 1) := by decide +kernel
theorem dX8_hire_75 : decode cX8_hire 75 = .ok (.aload 4, 2) := by decide +kernel
theorem dX8_hire_77 : decode cX8_hire 77 = .ok (.dup, 1) := by decide +kernel
theorem dX8_hire_78 : decode cX8_hire 78 = .ok (.getfield 126, 3) := by decide +kernel
theorem dX8_hire_81 : decode cX8_hire 81 = .ok (.iload_n 2, 1) := by decide +kernel
theorem dX8_hire_82 : decode cX8_hire 82 = .ok (.iadd, 1) := by decide +kernel
theorem dX8_hire_83 : decode cX8_hire 83 = .ok (.putfield 126, 3) := by decide +kernel
theorem dX8_hire_86 : decode cX8_hire 86 = .ok (.aload_n 0, 1) := by decide +kernel
theorem dX8_hire_87 : decode cX8_hire 87 = .ok (.getfield 25, 3) := by decide +kernel
theorem dX8_hire_90 : decode cX8_hire 90 = .ok (.invokevirtual 129, 3) := by decide +kernel
theorem dX8_hire_93 : decode cX8_hire 93 = .ok (.astore 5, 2) := by decide +kernel
theorem dX8_hire_95 : decode cX8_hire 95 = .ok (.aload 5, 2) := by decide +kernel
theorem dX8_hire_97 : decode cX8_hire 97 = .ok (.iload_n 1, 1) := by decide +kernel
theorem dX8_hire_98 : decode cX8_hire 98 = .ok (.putfield 133, 3) := by decide +kernel
theorem dX8_hire_101 : decode cX8_hire 101 = .ok (.aload 5, 2) := by decide +kernel
theorem dX8_hire_103 : decode cX8_hire 103 = .ok (.aload 4, 2) := by decide +kernel
theorem dX8_hire_105 : decode cX8_hire 105 = .ok (.getfield 85, 3) := by decide +kernel
theorem dX8_hire_108 : decode cX8_hire 108 = .ok (.putfield 138, 3) := by decide +kernel
theorem dX8_hire_111 : decode cX8_hire 111 = .ok (.aload 5, 2) := by decide +kernel
theorem dX8_hire_113 : decode cX8_hire 113 = .ok (.iload_n 2, 1) := by decide +kernel
theorem dX8_hire_114 : decode cX8_hire 114 = .ok (.putfield 139, 3) := by decide +kernel
theorem dX8_hire_117 : decode cX8_hire 117 = .ok (.aload 5, 2) := by decide +kernel
theorem dX8_hire_119 : decode cX8_hire 119 = .ok (.iload_n 3, 1) := by decide +kernel
theorem dX8_hire_120 : decode cX8_hire 120 = .ok (.putfield 142, 3) := by decide +kernel
theorem dX8_hire_123 : decode cX8_hire 123 = .ok (.aload 5, 2) := by decide +kernel
theorem dX8_hire_125 : decode cX8_hire 125 = .ok (.aload_n 0, 1) := by decide +kernel
theorem dX8_hire_126 : decode cX8_hire 126 = .ok (.getfield 7, 3) := by decide +kernel
theorem dX8_hire_129 : decode cX8_hire 129 = .ok (.putfield 145, 3) := by decide +kernel
theorem dX8_hire_132 : decode cX8_hire 132 = .ok (.aload 5, 2) := by decide +kernel
theorem dX8_hire_134 : decode cX8_hire 134 = .ok (.aload_n 0, 1) := by decide +kernel
theorem dX8_hire_135 : decode cX8_hire 135 = .ok (.getfield 7, 3) := by decide +kernel
theorem dX8_hire_138 : decode cX8_hire 138 = .ok (.iload_n 2, 1) := by decide +kernel
theorem dX8_hire_139 : decode cX8_hire 139 = .ok (.imul, 1) := by decide +kernel
theorem dX8_hire_140 : decode cX8_hire 140 = .ok (.iload_n 3, 1) := by decide +kernel
theorem dX8_hire_141 : decode cX8_hire 141 = .ok (.imul, 1) := by decide +kernel
theorem dX8_hire_142 : decode cX8_hire 142 = .ok (.putfield 146, 3) := by decide +kernel
theorem dX8_hire_145 : decode cX8_hire 145 = .ok (.aload_n 0, 1) := by decide +kernel
theorem dX8_hire_146 : decode cX8_hire 146 = .ok (.getfield 25, 3) := by decide +kernel
theorem dX8_hire_149 : decode cX8_hire 149 = .ok (.dup, 1) := by decide +kernel
theorem dX8_hire_150 : decode cX8_hire 150 = .ok (.getfield 149, 3) := by decide +kernel
theorem dX8_hire_153 : decode cX8_hire 153 = .ok (.aload 5, 2) := by decide +kernel
theorem dX8_hire_155 : decode cX8_hire 155 = .ok (.getfield 146, 3) := by decide +kernel
theorem dX8_hire_158 : decode cX8_hire 158 = .ok (.iadd, 1) := by decide +kernel
theorem dX8_hire_159 : decode cX8_hire 159 = .ok (.putfield 149, 3) := by decide +kernel
theorem dX8_hire_162 : decode cX8_hire 162 = .ok (.aload 5, 2) := by decide +kernel
theorem dX8_hire_164 : decode cX8_hire 164 = .ok (.getfield 150, 3) := by decide +kernel
theorem dX8_hire_167 : decode cX8_hire 167 = .ok (.ireturn, 1) := by decide +kernel
theorem dX8_shift_0 : decode cX8_shift 0 = .ok (.aload_n 0, 1) := by decide +kernel
theorem dX8_shift_1 : decode cX8_shift 1 = .ok (.getfield 25, 3) := by decide +kernel
theorem dX8_shift_4 : decode cX8_shift 4 = .ok (.iload_n 1, 1) := by decide +kernel
theorem dX8_shift_5 : decode cX8_shift 5 = .ok (.invokevirtual 153, 3) := by decide +kernel
theorem dX8_shift_8 : decode cX8_shift 8 = .ok (.astore_n 3, 1) := by decide +kernel
theorem dX8_shift_9 : decode cX8_shift 9 = .ok (.aload_n 3, 1) := by decide +kernel
theorem dX8_shift_10 : decode cX8_shift 10 = .ok (.ifnull 19, 3) := by decide +kernel
theorem dX8_shift_13 : decode cX8_shift 13 = .ok (.aload_n 0, 1) := by decide +kernel
theorem dX8_shift_14 : decode cX8_shift 14 = .ok (.iload_n 2, 1) := by decide +kernel
theorem dX8_shift_15 : decode cX8_shift 15 = .ok (.invokevirtual 100, 3) := by decide +kernel
theorem dX8_shift_18 : decode cX8_shift 18 = .ok (.ifCond .eq 11, 3) := by decide +kernel
theorem dX8_shift_21 : decode cX8_shift 21 = .ok (.aload_n 3, 1) := by decide +kernel
theorem dX8_shift_22 : decode cX8_shift 22 = .ok (.getfield 133, 3) := by decide +kernel
theorem dX8_shift_25 : decode cX8_shift 25 = .ok (.iload_n 2, 1) := by decide +kernel
theorem dX8_shift_26 : decode cX8_shift 26 = .ok (.if_icmp .ne 6, 3) := by decide +kernel
theorem dX8_shift_29 : decode cX8_shift 29 = .ok (.ldc 77, 2) := by decide +kernel
theorem dX8_shift_31 : decode cX8_shift 31 = .ok (.ireturn, 1) := by decide +kernel
theorem dX8_shift_32 : decode cX8_shift 32 = .ok (.aload_n 0, 1) := by decide +kernel
theorem dX8_shift_33 : decode cX8_shift 33 = .ok (.getfield 18, 3) := by decide +kernel
theorem dX8_shift_36 : decode cX8_shift 36 = .ok (.iload_n 2, 1) := by decide +kernel
theorem dX8_shift_37 : decode cX8_shift 37 = .ok (.aaload, 1) := by decide +kernel
theorem dX8_shift_38 : decode cX8_shift 38 = .ok (.astore 4, 2) := by decide +kernel
theorem dX8_shift_40 : decode cX8_shift 40 = .ok (.aload_n 0, 1) := by decide +kernel
theorem dX8_shift_41 : decode cX8_shift 41 = .ok (.getfield 39, 3) := by decide +kernel
theorem dX8_shift_44 : decode cX8_shift 44 = .ok (.aload 4, 2) := by decide +kernel
theorem dX8_shift_46 : decode cX8_shift 46 = .ok (.getfield 85, 3) := by decide +kernel
theorem dX8_shift_49 : decode cX8_shift 49 = .ok (.aload_n 3, 1) := by decide +kernel
theorem dX8_shift_50 : decode cX8_shift 50 = .ok (.getfield 138, 3) := by decide +kernel
theorem dX8_shift_53 : decode cX8_shift 53 = .ok (.invokevirtual 157, 3) := by decide +kernel
theorem dX8_shift_56 : decode cX8_shift 56 = .ok (.ifCond .ne 6, 3) := by decide +kernel
theorem dX8_shift_59 : decode cX8_shift 59 = .ok (.ldc 96, 2) := by decide +kernel
theorem dX8_shift_61 : decode cX8_shift 61 = .ok (.ireturn, 1) := by decide +kernel
theorem dX8_shift_62 : decode cX8_shift 62 = .ok (.aload 4, 2) := by decide +kernel
theorem dX8_shift_64 : decode cX8_shift 64 = .ok (.invokevirtual 106, 3) := by decide +kernel
theorem dX8_shift_67 : decode cX8_shift 67 = .ok (.aload_n 3, 1) := by decide +kernel
theorem dX8_shift_68 : decode cX8_shift 68 = .ok (.getfield 139, 3) := by decide +kernel
theorem dX8_shift_71 : decode cX8_shift 71 = .ok (.if_icmp .ge 6, 3) := by decide +kernel
theorem dX8_shift_74 : decode cX8_shift 74 = .ok (.ldc 81, 2) := by decide +kernel
theorem dX8_shift_76 : decode cX8_shift 76 = .ok (.ireturn, 1) := by decide +kernel
theorem dX8_shift_77 : decode cX8_shift 77 = .ok (.aload_n 0, 1) := by decide +kernel
theorem dX8_shift_78 : decode cX8_shift 78 = .ok (.getfield 18, 3) := by decide +kernel
theorem dX8_shift_81 : decode cX8_shift 81 = .ok (.aload_n 3, 1) := by decide +kernel
theorem dX8_shift_82 : decode cX8_shift 82 = .ok (.getfield 133, 3) := by decide +kernel
theorem dX8_shift_85 : decode cX8_shift 85 = .ok (.aaload, 1) := by decide +kernel
theorem dX8_shift_86 : decode cX8_shift 86 = .ok (.dup, 1) := by decide +kernel
theorem dX8_shift_87 : decode cX8_shift 87 = .ok (.getfield 126, 3) := by decide +kernel
theorem dX8_shift_90 : decode cX8_shift 90 = .ok (.aload_n 3, 1) := by decide +kernel
theorem dX8_shift_91 : decode cX8_shift 91 = .ok (.getfield 139, 3) := by decide +kernel
theorem dX8_shift_94 : decode cX8_shift 94 = .ok (.isub, 1) := by decide +kernel
theorem dX8_shift_95 : decode cX8_shift 95 = .ok (.putfield 126, 3) := by decide +kernel
theorem dX8_shift_98 : decode cX8_shift 98 = .ok (.aload 4, 2) := by decide +kernel
theorem dX8_shift_100 : decode cX8_shift 100 = .ok (.dup, 1) := by decide +kernel
theorem dX8_shift_101 : decode cX8_shift 101 = .ok (.getfield 126, 3) := by decide +kernel
theorem dX8_shift_104 : decode cX8_shift 104 = .ok (.aload_n 3, 1) := by decide +kernel
theorem dX8_shift_105 : decode cX8_shift 105 = .ok (.getfield 139, 3) := by decide +kernel
theorem dX8_shift_108 : decode cX8_shift 108 = .ok (.iadd, 1) := by decide +kernel
theorem dX8_shift_109 : decode cX8_shift 109 = .ok (.putfield 126, 3) := by decide +kernel
theorem dX8_shift_112 : decode cX8_shift 112 = .ok (.aload_n 3, 1) := by decide +kernel
theorem dX8_shift_113 : decode cX8_shift 113 = .ok (.iload_n 2, 1) := by decide +kernel
theorem dX8_shift_114 : decode cX8_shift 114 = .ok (.putfield 133, 3) := by decide +kernel
theorem dX8_shift_117 : decode cX8_shift 117 = .ok (.iconst 1, 1) := by decide +kernel
theorem dX8_shift_118 : decode cX8_shift 118 = .ok (.ireturn, 1) := by decide +kernel
theorem dX8_ticket_0 : decode cX8_ticket 0 = .ok (.aload_n 0, 1) := by decide +kernel
theorem dX8_ticket_1 : decode cX8_ticket 1 = .ok (.getfield 25, 3) := by decide +kernel
theorem dX8_ticket_4 : decode cX8_ticket 4 = .ok (.iload_n 1, 1) := by decide +kernel
theorem dX8_ticket_5 : decode cX8_ticket 5 = .ok (.invokevirtual 153, 3) := by decide +kernel
theorem dX8_ticket_8 : decode cX8_ticket 8 = .ok (.astore_n 3, 1) := by decide +kernel
theorem dX8_ticket_9 : decode cX8_ticket 9 = .ok (.aload_n 3, 1) := by decide +kernel
theorem dX8_ticket_10 : decode cX8_ticket 10 = .ok (.ifnonnull 6, 3) := by decide +kernel
theorem dX8_ticket_13 : decode cX8_ticket 13 = .ok (.ldc 77, 2) := by decide +kernel
theorem dX8_ticket_15 : decode cX8_ticket 15 = .ok (.ireturn, 1) := by decide +kernel
theorem dX8_ticket_16 : decode cX8_ticket 16 = .ok (.iload_n 2, 1) := by decide +kernel
theorem dX8_ticket_17 : decode cX8_ticket 17 = .ok (.tableswitch 51 0 3 #[31, 36, 41, 46], 31) := by decide +kernel
theorem dX8_ticket_48 : decode cX8_ticket 48 = .ok (.aload_n 3, 1) := by decide +kernel
theorem dX8_ticket_49 : decode cX8_ticket 49 = .ok (.getfield 133, 3) := by decide +kernel
theorem dX8_ticket_52 : decode cX8_ticket 52 = .ok (.ireturn, 1) := by decide +kernel
theorem dX8_ticket_53 : decode cX8_ticket 53 = .ok (.aload_n 3, 1) := by decide +kernel
theorem dX8_ticket_54 : decode cX8_ticket 54 = .ok (.getfield 139, 3) := by decide +kernel
theorem dX8_ticket_57 : decode cX8_ticket 57 = .ok (.ireturn, 1) := by decide +kernel
theorem dX8_ticket_58 : decode cX8_ticket 58 = .ok (.aload_n 3, 1) := by decide +kernel
end
section
theorem dX8_ticket_59 : decode cX8_ticket 59 = .ok (.getfield 142, 3) := by decide +kernel
theorem dX8_ticket_62 : decode cX8_ticket 62 = .ok (.ireturn, 1) := by decide +kernel
theorem dX8_ticket_63 : decode cX8_ticket 63 = .ok (.aload_n 3, 1) := by decide +kernel
theorem dX8_ticket_64 : decode cX8_ticket 64 = .ok (.getfield 146, 3) := by decide +kernel
theorem dX8_ticket_67 : decode cX8_ticket 67 = .ok (.ireturn, 1) := by decide +kernel
theorem dX8_ticket_68 : decode cX8_ticket 68 = .ok (.ldc 77, 2) := by decide +kernel
theorem dX8_ticket_70 : decode cX8_ticket 70 = .ok (.ireturn, 1) := by decide +kernel
theorem dX8_hour_0 : decode cX8_hour 0 = .ok (.iload_n 1, 1) := by decide +kernel
theorem dX8_hour_1 : decode cX8_hour 1 = .ok (.iconst 0, 1) := by decide +kernel
theorem dX8_hour_2 : decode cX8_hour 2 = .ok (.sipush 1000, 3) := by decide +kernel
theorem dX8_hour_5 : decode cX8_hour 5 = .ok (.invokestatic 73, 3) := by decide +kernel
theorem dX8_hour_8 : decode cX8_hour 8 = .ok (.ifCond .eq 34, 3) := by decide +kernel
theorem dX8_hour_11 : decode cX8_hour 11 = .ok (.iload_n 2, 1) := by decide +kernel
theorem dX8_hour_12 : decode cX8_hour 12 = .ok (.iconst 0, 1) := by decide +kernel
theorem dX8_hour_13 : decode cX8_hour 13 = .ok (.bipush 100, 2) := by decide +kernel
theorem dX8_hour_15 : decode cX8_hour 15 = .ok (.invokestatic 73, 3) := by decide +kernel
theorem dX8_hour_18 : decode cX8_hour 18 = .ok (.ifCond .eq 24, 3) := by decide +kernel
theorem dX8_hour_21 : decode cX8_hour 21 = .ok (.iload_n 3, 1) := by decide +kernel
theorem dX8_hour_22 : decode cX8_hour 22 = .ok (.iconst 0, 1) := by decide +kernel
theorem dX8_hour_23 : decode cX8_hour 23 = .ok (.bipush 60, 2) := by decide +kernel
theorem dX8_hour_25 : decode cX8_hour 25 = .ok (.invokestatic 73, 3) := by decide +kernel
theorem dX8_hour_28 : decode cX8_hour 28 = .ok (.ifCond .eq 14, 3) := by decide +kernel
theorem dX8_hour_31 : decode cX8_hour 31 = .ok (.iload 4, 2) := by decide +kernel
theorem dX8_hour_33 : decode cX8_hour 33 = .ok (.iconst 0, 1) := by decide +kernel
theorem dX8_hour_34 : decode cX8_hour 34 = .ok (.bipush 10, 2) := by decide +kernel
theorem dX8_hour_36 : decode cX8_hour 36 = .ok (.invokestatic 73, 3) := by decide +kernel
theorem dX8_hour_39 : decode cX8_hour 39 = .ok (.ifCond .ne 6, 3) := by decide +kernel
theorem dX8_hour_42 : decode cX8_hour 42 = .ok (.ldc 77, 2) := by decide +kernel
theorem dX8_hour_44 : decode cX8_hour 44 = .ok (.ireturn, 1) := by decide +kernel
theorem dX8_hour_45 : decode cX8_hour 45 = .ok (.aload_n 0, 1) := by decide +kernel
theorem dX8_hour_46 : decode cX8_hour 46 = .ok (.getfield 161, 3) := by decide +kernel
theorem dX8_hour_49 : decode cX8_hour 49 = .ok (.sipush 5000, 3) := by decide +kernel
theorem dX8_hour_52 : decode cX8_hour 52 = .ok (.if_icmp .lt 6, 3) := by decide +kernel
theorem dX8_hour_55 : decode cX8_hour 55 = .ok (.ldc 96, 2) := by decide +kernel
theorem dX8_hour_57 : decode cX8_hour 57 = .ok (.ireturn, 1) := by decide +kernel
theorem dX8_hour_58 : decode cX8_hour 58 = .ok (.aload_n 0, 1) := by decide +kernel
theorem dX8_hour_59 : decode cX8_hour 59 = .ok (.dup, 1) := by decide +kernel
theorem dX8_hour_60 : decode cX8_hour 60 = .ok (.getfield 161, 3) := by decide +kernel
theorem dX8_hour_63 : decode cX8_hour 63 = .ok (.iconst 1, 1) := by decide +kernel
theorem dX8_hour_64 : decode cX8_hour 64 = .ok (.iadd, 1) := by decide +kernel
theorem dX8_hour_65 : decode cX8_hour 65 = .ok (.putfield 161, 3) := by decide +kernel
theorem dX8_hour_68 : decode cX8_hour 68 = .ok (.aload_n 0, 1) := by decide +kernel
theorem dX8_hour_69 : decode cX8_hour 69 = .ok (.iload_n 2, 1) := by decide +kernel
theorem dX8_hour_70 : decode cX8_hour 70 = .ok (.putfield 119, 3) := by decide +kernel
theorem dX8_hour_73 : decode cX8_hour 73 = .ok (.aload_n 0, 1) := by decide +kernel
theorem dX8_hour_74 : decode cX8_hour 74 = .ok (.iload_n 1, 1) := by decide +kernel
theorem dX8_hour_75 : decode cX8_hour 75 = .ok (.invokevirtual 164, 3) := by decide +kernel
theorem dX8_hour_78 : decode cX8_hour 78 = .ok (.iload_n 2, 1) := by decide +kernel
theorem dX8_hour_79 : decode cX8_hour 79 = .ok (.aload_n 0, 1) := by decide +kernel
theorem dX8_hour_80 : decode cX8_hour 80 = .ok (.getfield 13, 3) := by decide +kernel
theorem dX8_hour_83 : decode cX8_hour 83 = .ok (.if_icmp .le 7, 3) := by decide +kernel
theorem dX8_hour_86 : decode cX8_hour 86 = .ok (.aload_n 0, 1) := by decide +kernel
theorem dX8_hour_87 : decode cX8_hour 87 = .ok (.invokevirtual 168, 3) := by decide +kernel
theorem dX8_hour_90 : decode cX8_hour 90 = .ok (.aload_n 0, 1) := by decide +kernel
theorem dX8_hour_91 : decode cX8_hour 91 = .ok (.iload_n 3, 1) := by decide +kernel
theorem dX8_hour_92 : decode cX8_hour 92 = .ok (.invokevirtual 171, 3) := by decide +kernel
theorem dX8_hour_95 : decode cX8_hour 95 = .ok (.aload_n 0, 1) := by decide +kernel
theorem dX8_hour_96 : decode cX8_hour 96 = .ok (.iload 4, 2) := by decide +kernel
theorem dX8_hour_98 : decode cX8_hour 98 = .ok (.invokevirtual 174, 3) := by decide +kernel
theorem dX8_hour_101 : decode cX8_hour 101 = .ok (.aload_n 0, 1) := by decide +kernel
theorem dX8_hour_102 : decode cX8_hour 102 = .ok (.invokevirtual 177, 3) := by decide +kernel
theorem dX8_hour_105 : decode cX8_hour 105 = .ok (.aload_n 0, 1) := by decide +kernel
theorem dX8_hour_106 : decode cX8_hour 106 = .ok (.getfield 25, 3) := by decide +kernel
theorem dX8_hour_109 : decode cX8_hour 109 = .ok (.invokevirtual 180, 3) := by decide +kernel
theorem dX8_hour_112 : decode cX8_hour 112 = .ok (.aload_n 0, 1) := by decide +kernel
theorem dX8_hour_113 : decode cX8_hour 113 = .ok (.getfield 25, 3) := by decide +kernel
theorem dX8_hour_116 : decode cX8_hour 116 = .ok (.getfield 183, 3) := by decide +kernel
theorem dX8_hour_119 : decode cX8_hour 119 = .ok (.ireturn, 1) := by decide +kernel
theorem dX8_feed_0 : decode cX8_feed 0 = .ok (.iload_n 3, 1) := by decide +kernel
theorem dX8_feed_1 : decode cX8_feed 1 = .ok (.iconst 1, 1) := by decide +kernel
theorem dX8_feed_2 : decode cX8_feed 2 = .ok (.bipush 8, 2) := by decide +kernel
theorem dX8_feed_4 : decode cX8_feed 4 = .ok (.invokestatic 73, 3) := by decide +kernel
theorem dX8_feed_7 : decode cX8_feed 7 = .ok (.ifCond .ne 6, 3) := by decide +kernel
theorem dX8_feed_10 : decode cX8_feed 10 = .ok (.ldc 77, 2) := by decide +kernel
theorem dX8_feed_12 : decode cX8_feed 12 = .ok (.ireturn, 1) := by decide +kernel
theorem dX8_feed_13 : decode cX8_feed 13 = .ok (.aload_n 0, 1) := by decide +kernel
theorem dX8_feed_14 : decode cX8_feed 14 = .ok (.getfield 32, 3) := by decide +kernel
theorem dX8_feed_17 : decode cX8_feed 17 = .ok (.getfield 186, 3) := by decide +kernel
theorem dX8_feed_20 : decode cX8_feed 20 = .ok (.iload_n 3, 1) := by decide +kernel
theorem dX8_feed_21 : decode cX8_feed 21 = .ok (.invokevirtual 190, 3) := by decide +kernel
theorem dX8_feed_24 : decode cX8_feed 24 = .ok (.ifCond .ne 6, 3) := by decide +kernel
theorem dX8_feed_27 : decode cX8_feed 27 = .ok (.ldc 81, 2) := by decide +kernel
theorem dX8_feed_29 : decode cX8_feed 29 = .ok (.ireturn, 1) := by decide +kernel
theorem dX8_feed_30 : decode cX8_feed 30 = .ok (.aload_n 0, 1) := by decide +kernel
theorem dX8_feed_31 : decode cX8_feed 31 = .ok (.getfield 32, 3) := by decide +kernel
theorem dX8_feed_34 : decode cX8_feed 34 = .ok (.getfield 186, 3) := by decide +kernel
theorem dX8_feed_37 : decode cX8_feed 37 = .ok (.lload_n 1, 1) := by decide +kernel
theorem dX8_feed_38 : decode cX8_feed 38 = .ok (.iload_n 3, 1) := by decide +kernel
theorem dX8_feed_39 : decode cX8_feed 39 = .ok (.invokevirtual 195, 3) := by decide +kernel
theorem dX8_feed_42 : decode cX8_feed 42 = .ok (.aload_n 0, 1) := by decide +kernel
theorem dX8_feed_43 : decode cX8_feed 43 = .ok (.getfield 32, 3) := by decide +kernel
theorem dX8_feed_46 : decode cX8_feed 46 = .ok (.getfield 186, 3) := by decide +kernel
theorem dX8_feed_49 : decode cX8_feed 49 = .ok (.getfield 199, 3) := by decide +kernel
theorem dX8_feed_52 : decode cX8_feed 52 = .ok (.ireturn, 1) := by decide +kernel
theorem dX8_rules_0 : decode cX8_rules 0 = .ok (.aload_n 0, 1) := by decide +kernel
theorem dX8_rules_1 : decode cX8_rules 1 = .ok (.getfield 43, 3) := by decide +kernel
theorem dX8_rules_4 : decode cX8_rules 4 = .ok (.invokevirtual 202, 3) := by decide +kernel
theorem dX8_rules_7 : decode cX8_rules 7 = .ok (.aload_n 0, 1) := by decide +kernel
theorem dX8_rules_8 : decode cX8_rules 8 = .ok (.getfield 32, 3) := by decide +kernel
theorem dX8_rules_11 : decode cX8_rules 11 = .ok (.aload_n 0, 1) := by decide +kernel
theorem dX8_rules_12 : decode cX8_rules 12 = .ok (.getfield 43, 3) := by decide +kernel
theorem dX8_rules_15 : decode cX8_rules 15 = .ok (.invokevirtual 205, 3) := by decide +kernel
theorem dX8_rules_18 : decode cX8_rules 18 = .ok (.istore_n 1, 1) := by decide +kernel
theorem dX8_rules_19 : decode cX8_rules 19 = .ok (.aload_n 0, 1) := by decide +kernel
theorem dX8_rules_20 : decode cX8_rules 20 = .ok (.getfield 32, 3) := by decide +kernel
theorem dX8_rules_23 : decode cX8_rules 23 = .ok (.getfield 186, 3) := by decide +kernel
theorem dX8_rules_26 : decode cX8_rules 26 = .ok (.iconst 0, 1) := by decide +kernel
theorem dX8_rules_27 : decode cX8_rules 27 = .ok (.putfield 199, 3) := by decide +kernel
theorem dX8_rules_30 : decode cX8_rules 30 = .ok (.iload_n 1, 1) := by decide +kernel
theorem dX8_rules_31 : decode cX8_rules 31 = .ok (.ifCond .ne 25, 3) := by decide +kernel
theorem dX8_rules_34 : decode cX8_rules 34 = .ok (.aload_n 0, 1) := by decide +kernel
theorem dX8_rules_35 : decode cX8_rules 35 = .ok (.aload_n 0, 1) := by decide +kernel
theorem dX8_rules_36 : decode cX8_rules 36 = .ok (.getfield 32, 3) := by decide +kernel
theorem dX8_rules_39 : decode cX8_rules 39 = .ok (.getfield 209, 3) := by decide +kernel
theorem dX8_rules_42 : decode cX8_rules 42 = .ok (.putfield 212, 3) := by decide +kernel
theorem dX8_rules_45 : decode cX8_rules 45 = .ok (.ldc 215, 2) := by decide +kernel
theorem dX8_rules_47 : decode cX8_rules 47 = .ok (.aload_n 0, 1) := by decide +kernel
theorem dX8_rules_48 : decode cX8_rules 48 = .ok (.getfield 32, 3) := by decide +kernel
theorem dX8_rules_51 : decode cX8_rules 51 = .ok (.getfield 216, 3) := by decide +kernel
theorem dX8_rules_54 : decode cX8_rules 54 = .ok (.isub, 1) := by decide +kernel
theorem dX8_rules_55 : decode cX8_rules 55 = .ok (.ireturn, 1) := by decide +kernel
theorem dX8_rules_56 : decode cX8_rules 56 = .ok (.aload_n 0, 1) := by decide +kernel
theorem dX8_rules_57 : decode cX8_rules 57 = .ok (.getfield 39, 3) := by decide +kernel
theorem dX8_rules_60 : decode cX8_rules 60 = .ok (.astore_n 2, 1) := by decide +kernel
theorem dX8_rules_61 : decode cX8_rules 61 = .ok (.aload_n 0, 1) := by decide +kernel
theorem dX8_rules_62 : decode cX8_rules 62 = .ok (.aload_n 0, 1) := by decide +kernel
theorem dX8_rules_63 : decode cX8_rules 63 = .ok (.getfield 43, 3) := by decide +kernel
theorem dX8_rules_66 : decode cX8_rules 66 = .ok (.putfield 39, 3) := by decide +kernel
theorem dX8_rules_69 : decode cX8_rules 69 = .ok (.aload_n 0, 1) := by decide +kernel
theorem dX8_rules_70 : decode cX8_rules 70 = .ok (.aload_n 2, 1) := by decide +kernel
theorem dX8_rules_71 : decode cX8_rules 71 = .ok (.putfield 43, 3) := by decide +kernel
theorem dX8_rules_74 : decode cX8_rules 74 = .ok (.aload_n 0, 1) := by decide +kernel
theorem dX8_rules_75 : decode cX8_rules 75 = .ok (.getfield 39, 3) := by decide +kernel
theorem dX8_rules_78 : decode cX8_rules 78 = .ok (.getfield 219, 3) := by decide +kernel
theorem dX8_rules_81 : decode cX8_rules 81 = .ok (.ireturn, 1) := by decide +kernel
theorem dX8_fault_0 : decode cX8_fault 0 = .ok (.aload_n 0, 1) := by decide +kernel
theorem dX8_fault_1 : decode cX8_fault 1 = .ok (.getfield 212, 3) := by decide +kernel
theorem dX8_fault_4 : decode cX8_fault 4 = .ok (.ireturn, 1) := by decide +kernel
theorem dX8_rent_0 : decode cX8_rent 0 = .ok (.iload_n 1, 1) := by decide +kernel
theorem dX8_rent_1 : decode cX8_rent 1 = .ok (.ldc 222, 2) := by decide +kernel
theorem dX8_rent_3 : decode cX8_rent 3 = .ok (.if_icmp .ne 30, 3) := by decide +kernel
theorem dX8_rent_6 : decode cX8_rent 6 = .ok (.aload_n 0, 1) := by decide +kernel
theorem dX8_rent_7 : decode cX8_rent 7 = .ok (.getfield 39, 3) := by decide +kernel
theorem dX8_rent_10 : decode cX8_rent 10 = .ok (.iconst 0, 1) := by decide +kernel
theorem dX8_rent_11 : decode cX8_rent 11 = .ok (.aload_n 0, 1) := by decide +kernel
theorem dX8_rent_12 : decode cX8_rent 12 = .ok (.getfield 25, 3) := by decide +kernel
theorem dX8_rent_15 : decode cX8_rent 15 = .ok (.getfield 149, 3) := by decide +kernel
theorem dX8_rent_18 : decode cX8_rent 18 = .ok (.aload_n 0, 1) := by decide +kernel
theorem dX8_rent_19 : decode cX8_rent 19 = .ok (.getfield 25, 3) := by decide +kernel
theorem dX8_rent_22 : decode cX8_rent 22 = .ok (.getfield 223, 3) := by decide +kernel
theorem dX8_rent_25 : decode cX8_rent 25 = .ok (.isub, 1) := by decide +kernel
theorem dX8_rent_26 : decode cX8_rent 26 = .ok (.invokestatic 66, 3) := by decide +kernel
theorem dX8_rent_29 : decode cX8_rent 29 = .ok (.invokevirtual 226, 3) := by decide +kernel
theorem dX8_rent_32 : decode cX8_rent 32 = .ok (.ireturn, 1) := by decide +kernel
theorem dX8_rent_33 : decode cX8_rent 33 = .ok (.iload_n 1, 1) := by decide +kernel
theorem dX8_rent_34 : decode cX8_rent 34 = .ok (.iconst 0, 1) := by decide +kernel
theorem dX8_rent_35 : decode cX8_rent 35 = .ok (.ldc 229, 2) := by decide +kernel
theorem dX8_rent_37 : decode cX8_rent 37 = .ok (.invokestatic 73, 3) := by decide +kernel
theorem dX8_rent_40 : decode cX8_rent 40 = .ok (.ifCond .ne 6, 3) := by decide +kernel
theorem dX8_rent_43 : decode cX8_rent 43 = .ok (.ldc 77, 2) := by decide +kernel
theorem dX8_rent_45 : decode cX8_rent 45 = .ok (.ireturn, 1) := by decide +kernel
theorem dX8_rent_46 : decode cX8_rent 46 = .ok (.aload_n 0, 1) := by decide +kernel
theorem dX8_rent_47 : decode cX8_rent 47 = .ok (.getfield 39, 3) := by decide +kernel
theorem dX8_rent_50 : decode cX8_rent 50 = .ok (.iload_n 1, 1) := by decide +kernel
theorem dX8_rent_51 : decode cX8_rent 51 = .ok (.invokevirtual 226, 3) := by decide +kernel
theorem dX8_rent_54 : decode cX8_rent 54 = .ok (.ireturn, 1) := by decide +kernel
theorem dX8_unpaid_0 : decode cX8_unpaid 0 = .ok (.aload_n 0, 1) := by decide +kernel
theorem dX8_unpaid_1 : decode cX8_unpaid 1 = .ok (.iload_n 1, 1) := by decide +kernel
theorem dX8_unpaid_2 : decode cX8_unpaid 2 = .ok (.invokevirtual 100, 3) := by decide +kernel
theorem dX8_unpaid_5 : decode cX8_unpaid 5 = .ok (.ifCond .eq 25, 3) := by decide +kernel
theorem dX8_unpaid_8 : decode cX8_unpaid 8 = .ok (.iload_n 2, 1) := by decide +kernel
theorem dX8_unpaid_9 : decode cX8_unpaid 9 = .ok (.iconst 0, 1) := by decide +kernel
theorem dX8_unpaid_10 : decode cX8_unpaid 10 = .ok (.sipush 500, 3) := by decide +kernel
theorem dX8_unpaid_13 : decode cX8_unpaid 13 = .ok (.invokestatic 73, 3) := by decide +kernel
theorem dX8_unpaid_16 : decode cX8_unpaid 16 = .ok (.ifCond .eq 14, 3) := by decide +kernel
theorem dX8_unpaid_19 : decode cX8_unpaid 19 = .ok (.iload_n 3, 1) := by decide +kernel
theorem dX8_unpaid_20 : decode cX8_unpaid 20 = .ok (.iconst 0, 1) := by decide +kernel
theorem dX8_unpaid_21 : decode cX8_unpaid 21 = .ok (.sipush 500, 3) := by decide +kernel
theorem dX8_unpaid_24 : decode cX8_unpaid 24 = .ok (.invokestatic 73, 3) := by decide +kernel
theorem dX8_unpaid_27 : decode cX8_unpaid 27 = .ok (.ifCond .ne 6, 3) := by decide +kernel
theorem dX8_unpaid_30 : decode cX8_unpaid 30 = .ok (.ldc 77, 2) := by decide +kernel
theorem dX8_unpaid_32 : decode cX8_unpaid 32 = .ok (.ireturn, 1) := by decide +kernel
theorem dX8_unpaid_33 : decode cX8_unpaid 33 = .ok (.aload_n 0, 1) := by decide +kernel
theorem dX8_unpaid_34 : decode cX8_unpaid 34 = .ok (.getfield 18, 3) := by decide +kernel
theorem dX8_unpaid_37 : decode cX8_unpaid 37 = .ok (.iload_n 1, 1) := by decide +kernel
theorem dX8_unpaid_38 : decode cX8_unpaid 38 = .ok (.aaload, 1) := by decide +kernel
theorem dX8_unpaid_39 : decode cX8_unpaid 39 = .ok (.iload_n 2, 1) := by decide +kernel
theorem dX8_unpaid_40 : decode cX8_unpaid 40 = .ok (.putfield 113, 3) := by decide +kernel
theorem dX8_unpaid_43 : decode cX8_unpaid 43 = .ok (.aload_n 0, 1) := by decide +kernel
theorem dX8_unpaid_44 : decode cX8_unpaid 44 = .ok (.getfield 18, 3) := by decide +kernel
theorem dX8_unpaid_47 : decode cX8_unpaid 47 = .ok (.iload_n 1, 1) := by decide +kernel
theorem dX8_unpaid_48 : decode cX8_unpaid 48 = .ok (.aaload, 1) := by decide +kernel
theorem dX8_unpaid_49 : decode cX8_unpaid 49 = .ok (.iload_n 3, 1) := by decide +kernel
theorem dX8_unpaid_50 : decode cX8_unpaid 50 = .ok (.putfield 230, 3) := by decide +kernel
theorem dX8_unpaid_53 : decode cX8_unpaid 53 = .ok (.iconst 1, 1) := by decide +kernel
theorem dX8_unpaid_54 : decode cX8_unpaid 54 = .ok (.ireturn, 1) := by decide +kernel
theorem dX8_walk_0 : decode cX8_walk 0 = .ok (.iload_n 1, 1) := by decide +kernel
theorem dX8_walk_1 : decode cX8_walk 1 = .ok (.ifCond .le 21, 3) := by decide +kernel
theorem dX8_walk_4 : decode cX8_walk 4 = .ok (.iload_n 1, 1) := by decide +kernel
theorem dX8_walk_5 : decode cX8_walk 5 = .ok (.aload_n 0, 1) := by decide +kernel
theorem dX8_walk_6 : decode cX8_walk 6 = .ok (.getfield 78, 3) := by decide +kernel
theorem dX8_walk_9 : decode cX8_walk 9 = .ok (.ishr, 1) := by decide +kernel
theorem dX8_walk_10 : decode cX8_walk 10 = .ok (.ifCond .ne 12, 3) := by decide +kernel
theorem dX8_walk_13 : decode cX8_walk 13 = .ok (.iload_n 1, 1) := by decide +kernel
theorem dX8_walk_14 : decode cX8_walk 14 = .ok (.invokestatic 233, 3) := by decide +kernel
theorem dX8_walk_17 : decode cX8_walk 17 = .ok (.bipush 7, 2) := by decide +kernel
theorem dX8_walk_19 : decode cX8_walk 19 = .ok (.if_icmp .le 6, 3) := by decide +kernel
theorem dX8_walk_22 : decode cX8_walk 22 = .ok (.ldc 77, 2) := by decide +kernel
theorem dX8_walk_24 : decode cX8_walk 24 = .ok (.ireturn, 1) := by decide +kernel
theorem dX8_walk_25 : decode cX8_walk 25 = .ok (.aload_n 0, 1) := by decide +kernel
theorem dX8_walk_26 : decode cX8_walk 26 = .ok (.getfield 49, 3) := by decide +kernel
theorem dX8_walk_29 : decode cX8_walk 29 = .ok (.iload_n 1, 1) := by decide +kernel
theorem dX8_walk_30 : decode cX8_walk 30 = .ok (.aload_n 0, 1) := by decide +kernel
theorem dX8_walk_31 : decode cX8_walk 31 = .ok (.getfield 18, 3) := by decide +kernel
theorem dX8_walk_34 : decode cX8_walk 34 = .ok (.invokevirtual 238, 3) := by decide +kernel
theorem dX8_walk_37 : decode cX8_walk 37 = .ok (.iload_n 2, 1) := by decide +kernel
theorem dX8_walk_38 : decode cX8_walk 38 = .ok (.ldc 222, 2) := by decide +kernel
theorem dX8_walk_40 : decode cX8_walk 40 = .ok (.if_icmp .ne 13, 3) := by decide +kernel
theorem dX8_walk_43 : decode cX8_walk 43 = .ok (.aload_n 0, 1) := by decide +kernel
theorem dX8_walk_44 : decode cX8_walk 44 = .ok (.getfield 49, 3) := by decide +kernel
theorem dX8_walk_47 : decode cX8_walk 47 = .ok (.invokevirtual 242, 3) := by decide +kernel
theorem dX8_walk_50 : decode cX8_walk 50 = .ok (.goto 11, 3) := by decide +kernel
theorem dX8_walk_53 : decode cX8_walk 53 = .ok (.aload_n 0, 1) := by decide +kernel
theorem dX8_walk_54 : decode cX8_walk 54 = .ok (.getfield 49, 3) := by decide +kernel
theorem dX8_walk_57 : decode cX8_walk 57 = .ok (.iload_n 2, 1) := by decide +kernel
theorem dX8_walk_58 : decode cX8_walk 58 = .ok (.invokevirtual 245, 3) := by decide +kernel
theorem dX8_walk_61 : decode cX8_walk 61 = .ok (.ireturn, 1) := by decide +kernel
theorem dX8_kind_0 : decode cX8_kind 0 = .ok (.aload_n 0, 1) := by decide +kernel
theorem dX8_kind_1 : decode cX8_kind 1 = .ok (.iload_n 1, 1) := by decide +kernel
theorem dX8_kind_2 : decode cX8_kind 2 = .ok (.invokevirtual 100, 3) := by decide +kernel
theorem dX8_kind_5 : decode cX8_kind 5 = .ok (.ifCond .ne 6, 3) := by decide +kernel
theorem dX8_kind_8 : decode cX8_kind 8 = .ok (.ldc 77, 2) := by decide +kernel
theorem dX8_kind_10 : decode cX8_kind 10 = .ok (.ireturn, 1) := by decide +kernel
theorem dX8_kind_11 : decode cX8_kind 11 = .ok (.aload_n 0, 1) := by decide +kernel
theorem dX8_kind_12 : decode cX8_kind 12 = .ok (.getfield 18, 3) := by decide +kernel
theorem dX8_kind_15 : decode cX8_kind 15 = .ok (.iload_n 1, 1) := by decide +kernel
theorem dX8_kind_16 : decode cX8_kind 16 = .ok (.aaload, 1) := by decide +kernel
theorem dX8_kind_17 : decode cX8_kind 17 = .ok (.invokevirtual 248, 3) := by decide +kernel
theorem dX8_kind_20 : decode cX8_kind 20 = .ok (.ireturn, 1) := by decide +kernel
theorem dX8_as_0 : decode cX8_as 0 = .ok (.aload_n 0, 1) := by decide +kernel
theorem dX8_as_1 : decode cX8_as 1 = .ok (.iload_n 1, 1) := by decide +kernel
theorem dX8_as_2 : decode cX8_as 2 = .ok (.invokevirtual 100, 3) := by decide +kernel
theorem dX8_as_5 : decode cX8_as 5 = .ok (.ifCond .eq 12, 3) := by decide +kernel
theorem dX8_as_8 : decode cX8_as 8 = .ok (.iload_n 2, 1) := by decide +kernel
theorem dX8_as_9 : decode cX8_as 9 = .ok (.iconst 0, 1) := by decide +kernel
theorem dX8_as_10 : decode cX8_as 10 = .ok (.iconst 3, 1) := by decide +kernel
theorem dX8_as_11 : decode cX8_as 11 = .ok (.invokestatic 73, 3) := by decide +kernel
theorem dX8_as_14 : decode cX8_as 14 = .ok (.ifCond .ne 6, 3) := by decide +kernel
theorem dX8_as_17 : decode cX8_as 17 = .ok (.ldc 77, 2) := by decide +kernel
theorem dX8_as_19 : decode cX8_as 19 = .ok (.ireturn, 1) := by decide +kernel
theorem dX8_as_20 : decode cX8_as 20 = .ok (.aload_n 0, 1) := by decide +kernel
theorem dX8_as_21 : decode cX8_as 21 = .ok (.getfield 18, 3) := by decide +kernel
theorem dX8_as_24 : decode cX8_as 24 = .ok (.iload_n 1, 1) := by decide +kernel
theorem dX8_as_25 : decode cX8_as 25 = .ok (.aaload, 1) := by decide +kernel
theorem dX8_as_26 : decode cX8_as 26 = .ok (.astore_n 3, 1) := by decide +kernel
theorem dX8_as_27 : decode cX8_as 27 = .ok (.aload_n 3, 1) := by decide +kernel
theorem dX8_as_28 : decode cX8_as 28 = .ok (.iload_n 2, 1) := by decide +kernel
theorem dX8_as_29 : decode cX8_as 29 = .ok (.invokevirtual 251, 3) := by decide +kernel
theorem dX8_as_32 : decode cX8_as 32 = .ok (.ifCond .eq 10, 3) := by decide +kernel
theorem dX8_as_35 : decode cX8_as 35 = .ok (.aload_n 3, 1) := by decide +kernel
theorem dX8_as_36 : decode cX8_as 36 = .ok (.getfield 82, 3) := by decide +kernel
theorem dX8_as_39 : decode cX8_as 39 = .ok (.goto 5, 3) := by decide +kernel
theorem dX8_as_42 : decode cX8_as 42 = .ok (.ldc 254, 2) := by decide +kernel
theorem dX8_as_44 : decode cX8_as 44 = .ok (.ireturn, 1) := by decide +kernel
theorem dX8_ask_0 : decode cX8_ask 0 = .ok (.aload_n 0, 1) := by decide +kernel
theorem dX8_ask_1 : decode cX8_ask 1 = .ok (.iload_n 1, 1) := by decide +kernel
theorem dX8_ask_2 : decode cX8_ask 2 = .ok (.invokevirtual 100, 3) := by decide +kernel
theorem dX8_ask_5 : decode cX8_ask 5 = .ok (.ifCond .eq 12, 3) := by decide +kernel
theorem dX8_ask_8 : decode cX8_ask 8 = .ok (.iload_n 2, 1) := by decide +kernel
theorem dX8_ask_9 : decode cX8_ask 9 = .ok (.iconst 0, 1) := by decide +kernel
theorem dX8_ask_10 : decode cX8_ask 10 = .ok (.iconst 1, 1) := by decide +kernel
theorem dX8_ask_11 : decode cX8_ask 11 = .ok (.invokestatic 73, 3) := by decide +kernel
theorem dX8_ask_14 : decode cX8_ask 14 = .ok (.ifCond .ne 6, 3) := by decide +kernel
theorem dX8_ask_17 : decode cX8_ask 17 = .ok (.ldc 77, 2) := by decide +kernel
theorem dX8_ask_19 : decode cX8_ask 19 = .ok (.ireturn, 1) := by decide +kernel
theorem dX8_ask_20 : decode cX8_ask 20 = .ok (.aload_n 0, 1) := by decide +kernel
theorem dX8_ask_21 : decode cX8_ask 21 = .ok (.getfield 56, 3) := by decide +kernel
theorem dX8_ask_24 : decode cX8_ask 24 = .ok (.iconst 0, 1) := by decide +kernel
theorem dX8_ask_25 : decode cX8_ask 25 = .ok (.putfield 255, 3) := by decide +kernel
theorem dX8_ask_28 : decode cX8_ask 28 = .ok (.aload_n 0, 1) := by decide +kernel
theorem dX8_ask_29 : decode cX8_ask 29 = .ok (.getfield 18, 3) := by decide +kernel
theorem dX8_ask_32 : decode cX8_ask 32 = .ok (.iload_n 1, 1) := by decide +kernel
theorem dX8_ask_33 : decode cX8_ask 33 = .ok (.aaload, 1) := by decide +kernel
theorem dX8_ask_34 : decode cX8_ask 34 = .ok (.astore_n 3, 1) := by decide +kernel
theorem dX8_ask_35 : decode cX8_ask 35 = .ok (.iload_n 2, 1) := by decide +kernel
theorem dX8_ask_36 : decode cX8_ask 36 = .ok (.ifCond .ne 14, 3) := by decide +kernel
theorem dX8_ask_39 : decode cX8_ask 39 = .ok (.aload_n 0, 1) := by decide +kernel
theorem dX8_ask_40 : decode cX8_ask 40 = .ok (.getfield 56, 3) := by decide +kernel
theorem dX8_ask_43 : decode cX8_ask 43 = .ok (.aload_n 3, 1) := by decide +kernel
theorem dX8_ask_44 : decode cX8_ask 44 = .ok (.invokevirtual 258, 3) := by decide +kernel
theorem dX8_ask_47 : decode cX8_ask 47 = .ok (.goto 11, 3) := by decide +kernel
theorem dX8_ask_50 : decode cX8_ask 50 = .ok (.aload_n 0, 1) := by decide +kernel
theorem dX8_ask_51 : decode cX8_ask 51 = .ok (.getfield 56, 3) := by decide +kernel
theorem dX8_ask_54 : decode cX8_ask 54 = .ok (.aload_n 3, 1) := by decide +kernel
theorem dX8_ask_55 : decode cX8_ask 55 = .ok (.invokevirtual 262, 3) := by decide +kernel
theorem dX8_ask_58 : decode cX8_ask 58 = .ok (.ireturn, 1) := by decide +kernel
theorem dX8_trace_0 : decode cX8_trace 0 = .ok (.iload_n 1, 1) := by decide +kernel
theorem dX8_trace_1 : decode cX8_trace 1 = .ok (.iconst 0, 1) := by decide +kernel
theorem dX8_trace_2 : decode cX8_trace 2 = .ok (.aload_n 0, 1) := by decide +kernel
theorem dX8_trace_3 : decode cX8_trace 3 = .ok (.getfield 56, 3) := by decide +kernel
theorem dX8_trace_6 : decode cX8_trace 6 = .ok (.getfield 255, 3) := by decide +kernel
theorem dX8_trace_9 : decode cX8_trace 9 = .ok (.iconst 1, 1) := by decide +kernel
theorem dX8_trace_10 : decode cX8_trace 10 = .ok (.isub, 1) := by decide +kernel
theorem dX8_trace_11 : decode cX8_trace 11 = .ok (.invokestatic 73, 3) := by decide +kernel
theorem dX8_trace_14 : decode cX8_trace 14 = .ok (.ifCond .eq 15, 3) := by decide +kernel
theorem dX8_trace_17 : decode cX8_trace 17 = .ok (.aload_n 0, 1) := by decide +kernel
theorem dX8_trace_18 : decode cX8_trace 18 = .ok (.getfield 56, 3) := by decide +kernel
theorem dX8_trace_21 : decode cX8_trace 21 = .ok (.getfield 265, 3) := by decide +kernel
theorem dX8_trace_24 : decode cX8_trace 24 = .ok (.iload_n 1, 1) := by decide +kernel
theorem dX8_trace_25 : decode cX8_trace 25 = .ok (.iaload, 1) := by decide +kernel
theorem dX8_trace_26 : decode cX8_trace 26 = .ok (.goto 5, 3) := by decide +kernel
theorem dX8_trace_29 : decode cX8_trace 29 = .ok (.ldc 222, 2) := by decide +kernel
theorem dX8_trace_31 : decode cX8_trace 31 = .ok (.ireturn, 1) := by decide +kernel
theorem dX8_count_0 : decode cX8_count 0 = .ok (.iload_n 1, 1) := by decide +kernel
theorem dX8_count_1 : decode cX8_count 1 = .ok (.tableswitch 117 0 9 #[55, 60, 65, 70, 75, 80, 88, 96, 101, 109], 55) := by decide +kernel
theorem dX8_count_56 : decode cX8_count 56 = .ok (.aload_n 0, 1) := by decide +kernel
theorem dX8_count_57 : decode cX8_count 57 = .ok (.getfield 78, 3) := by decide +kernel
theorem dX8_count_60 : decode cX8_count 60 = .ok (.ireturn, 1) := by decide +kernel
theorem dX8_count_61 : decode cX8_count 61 = .ok (.aload_n 0, 1) := by decide +kernel
theorem dX8_count_62 : decode cX8_count 62 = .ok (.getfield 69, 3) := by decide +kernel
theorem dX8_count_65 : decode cX8_count 65 = .ok (.ireturn, 1) := by decide +kernel
theorem dX8_count_66 : decode cX8_count 66 = .ok (.aload_n 0, 1) := by decide +kernel
theorem dX8_count_67 : decode cX8_count 67 = .ok (.invokevirtual 269, 3) := by decide +kernel
theorem dX8_count_70 : decode cX8_count 70 = .ok (.ireturn, 1) := by decide +kernel
theorem dX8_count_71 : decode cX8_count 71 = .ok (.aload_n 0, 1) := by decide +kernel
theorem dX8_count_72 : decode cX8_count 72 = .ok (.getfield 272, 3) := by decide +kernel
theorem dX8_count_75 : decode cX8_count 75 = .ok (.ireturn, 1) := by decide +kernel
theorem dX8_count_76 : decode cX8_count 76 = .ok (.aload_n 0, 1) := by decide +kernel
theorem dX8_count_77 : decode cX8_count 77 = .ok (.getfield 116, 3) := by decide +kernel
theorem dX8_count_80 : decode cX8_count 80 = .ok (.ireturn, 1) := by decide +kernel
theorem dX8_count_81 : decode cX8_count 81 = .ok (.aload_n 0, 1) := by decide +kernel
theorem dX8_count_82 : decode cX8_count 82 = .ok (.getfield 25, 3) := by decide +kernel
theorem dX8_count_85 : decode cX8_count 85 = .ok (.getfield 183, 3) := by decide +kernel
theorem dX8_count_88 : decode cX8_count 88 = .ok (.ireturn, 1) := by decide +kernel
theorem dX8_count_89 : decode cX8_count 89 = .ok (.aload_n 0, 1) := by decide +kernel
theorem dX8_count_90 : decode cX8_count 90 = .ok (.getfield 25, 3) := by decide +kernel
theorem dX8_count_93 : decode cX8_count 93 = .ok (.getfield 275, 3) := by decide +kernel
theorem dX8_count_96 : decode cX8_count 96 = .ok (.ireturn, 1) := by decide +kernel
theorem dX8_count_97 : decode cX8_count 97 = .ok (.aload_n 0, 1) := by decide +kernel
theorem dX8_count_98 : decode cX8_count 98 = .ok (.getfield 161, 3) := by decide +kernel
theorem dX8_count_101 : decode cX8_count 101 = .ok (.ireturn, 1) := by decide +kernel
theorem dX8_count_102 : decode cX8_count 102 = .ok (.aload_n 0, 1) := by decide +kernel
theorem dX8_count_103 : decode cX8_count 103 = .ok (.getfield 25, 3) := by decide +kernel
theorem dX8_count_106 : decode cX8_count 106 = .ok (.getfield 149, 3) := by decide +kernel
theorem dX8_count_109 : decode cX8_count 109 = .ok (.ireturn, 1) := by decide +kernel
theorem dX8_count_110 : decode cX8_count 110 = .ok (.aload_n 0, 1) := by decide +kernel
theorem dX8_count_111 : decode cX8_count 111 = .ok (.getfield 25, 3) := by decide +kernel
theorem dX8_count_114 : decode cX8_count 114 = .ok (.getfield 223, 3) := by decide +kernel
theorem dX8_count_117 : decode cX8_count 117 = .ok (.ireturn, 1) := by decide +kernel
theorem dX8_count_118 : decode cX8_count 118 = .ok (.ldc 77, 2) := by decide +kernel
theorem dX8_count_120 : decode cX8_count 120 = .ok (.ireturn, 1) := by decide +kernel
theorem dX8_within_0 : decode cX8_within 0 = .ok (.iload_n 0, 1) := by decide +kernel
theorem dX8_within_1 : decode cX8_within 1 = .ok (.iload_n 1, 1) := by decide +kernel
theorem dX8_within_2 : decode cX8_within 2 = .ok (.if_icmp .lt 12, 3) := by decide +kernel
theorem dX8_within_5 : decode cX8_within 5 = .ok (.iload_n 0, 1) := by decide +kernel
theorem dX8_within_6 : decode cX8_within 6 = .ok (.iload_n 2, 1) := by decide +kernel
theorem dX8_within_7 : decode cX8_within 7 = .ok (.if_icmp .gt 7, 3) := by decide +kernel
theorem dX8_within_10 : decode cX8_within 10 = .ok (.iconst 1, 1) := by decide +kernel
theorem dX8_within_11 : decode cX8_within 11 = .ok (.goto 4, 3) := by decide +kernel
theorem dX8_within_14 : decode cX8_within 14 = .ok (.iconst 0, 1) := by decide +kernel
theorem dX8_within_15 : decode cX8_within 15 = .ok (.ireturn, 1) := by decide +kernel
theorem dX8_isStretch_0 : decode cX8_isStretch 0 = .ok (.iload_n 1, 1) := by decide +kernel
theorem dX8_isStretch_1 : decode cX8_isStretch 1 = .ok (.iconst 0, 1) := by decide +kernel
theorem dX8_isStretch_2 : decode cX8_isStretch 2 = .ok (.aload_n 0, 1) := by decide +kernel
theorem dX8_isStretch_3 : decode cX8_isStretch 3 = .ok (.getfield 78, 3) := by decide +kernel
theorem dX8_isStretch_6 : decode cX8_isStretch 6 = .ok (.iconst 1, 1) := by decide +kernel
theorem dX8_isStretch_7 : decode cX8_isStretch 7 = .ok (.isub, 1) := by decide +kernel
theorem dX8_isStretch_8 : decode cX8_isStretch 8 = .ok (.invokestatic 73, 3) := by decide +kernel
theorem dX8_isStretch_11 : decode cX8_isStretch 11 = .ok (.ireturn, 1) := by decide +kernel
theorem dX8_isPlace_0 : decode cX8_isPlace 0 = .ok (.iload_n 1, 1) := by decide +kernel
theorem dX8_isPlace_1 : decode cX8_isPlace 1 = .ok (.ldc 222, 2) := by decide +kernel
theorem dX8_isPlace_3 : decode cX8_isPlace 3 = .ok (.if_icmp .eq 11, 3) := by decide +kernel
theorem dX8_isPlace_6 : decode cX8_isPlace 6 = .ok (.aload_n 0, 1) := by decide +kernel
theorem dX8_isPlace_7 : decode cX8_isPlace 7 = .ok (.iload_n 1, 1) := by decide +kernel
theorem dX8_isPlace_8 : decode cX8_isPlace 8 = .ok (.invokevirtual 100, 3) := by decide +kernel
theorem dX8_isPlace_11 : decode cX8_isPlace 11 = .ok (.ifCond .eq 7, 3) := by decide +kernel
theorem dX8_isPlace_14 : decode cX8_isPlace 14 = .ok (.iconst 1, 1) := by decide +kernel
theorem dX8_isPlace_15 : decode cX8_isPlace 15 = .ok (.goto 4, 3) := by decide +kernel
theorem dX8_isPlace_18 : decode cX8_isPlace 18 = .ok (.iconst 0, 1) := by decide +kernel
theorem dX8_isPlace_19 : decode cX8_isPlace 19 = .ok (.ireturn, 1) := by decide +kernel
theorem dX8_chairsToTake_0 : decode cX8_chairsToTake 0 = .ok (.iload_n 1, 1) := by decide +kernel
theorem dX8_chairsToTake_1 : decode cX8_chairsToTake 1 = .ok (.ldc 222, 2) := by decide +kernel
theorem dX8_chairsToTake_3 : decode cX8_chairsToTake 3 = .ok (.if_icmp .ne 10, 3) := by decide +kernel
theorem dX8_chairsToTake_6 : decode cX8_chairsToTake 6 = .ok (.aload_n 0, 1) := by decide +kernel
theorem dX8_chairsToTake_7 : decode cX8_chairsToTake 7 = .ok (.getfield 69, 3) := by decide +kernel
theorem dX8_chairsToTake_10 : decode cX8_chairsToTake 10 = .ok (.goto 12, 3) := by decide +kernel
theorem dX8_chairsToTake_13 : decode cX8_chairsToTake 13 = .ok (.aload_n 0, 1) := by decide +kernel
theorem dX8_chairsToTake_14 : decode cX8_chairsToTake 14 = .ok (.getfield 18, 3) := by decide +kernel
theorem dX8_chairsToTake_17 : decode cX8_chairsToTake 17 = .ok (.iload_n 1, 1) := by decide +kernel
theorem dX8_chairsToTake_18 : decode cX8_chairsToTake 18 = .ok (.aaload, 1) := by decide +kernel
theorem dX8_chairsToTake_19 : decode cX8_chairsToTake 19 = .ok (.invokevirtual 106, 3) := by decide +kernel
theorem dX8_chairsToTake_22 : decode cX8_chairsToTake 22 = .ok (.ireturn, 1) := by decide +kernel
theorem dX8_addChairs_0 : decode cX8_addChairs 0 = .ok (.iload_n 1, 1) := by decide +kernel
theorem dX8_addChairs_1 : decode cX8_addChairs 1 = .ok (.ldc 222, 2) := by decide +kernel
theorem dX8_addChairs_3 : decode cX8_addChairs 3 = .ok (.if_icmp .ne 18, 3) := by decide +kernel
theorem dX8_addChairs_6 : decode cX8_addChairs 6 = .ok (.aload_n 0, 1) := by decide +kernel
theorem dX8_addChairs_7 : decode cX8_addChairs 7 = .ok (.dup, 1) := by decide +kernel
theorem dX8_addChairs_8 : decode cX8_addChairs 8 = .ok (.getfield 69, 3) := by decide +kernel
theorem dX8_addChairs_11 : decode cX8_addChairs 11 = .ok (.iload_n 2, 1) := by decide +kernel
theorem dX8_addChairs_12 : decode cX8_addChairs 12 = .ok (.iadd, 1) := by decide +kernel
theorem dX8_addChairs_13 : decode cX8_addChairs 13 = .ok (.putfield 69, 3) := by decide +kernel
theorem dX8_addChairs_16 : decode cX8_addChairs 16 = .ok (.aload_n 0, 1) := by decide +kernel
theorem dX8_addChairs_17 : decode cX8_addChairs 17 = .ok (.getfield 69, 3) := by decide +kernel
theorem dX8_addChairs_20 : decode cX8_addChairs 20 = .ok (.ireturn, 1) := by decide +kernel
theorem dX8_addChairs_21 : decode cX8_addChairs 21 = .ok (.aload_n 0, 1) := by decide +kernel
theorem dX8_addChairs_22 : decode cX8_addChairs 22 = .ok (.getfield 18, 3) := by decide +kernel
theorem dX8_addChairs_25 : decode cX8_addChairs 25 = .ok (.iload_n 1, 1) := by decide +kernel
theorem dX8_addChairs_26 : decode cX8_addChairs 26 = .ok (.aaload, 1) := by decide +kernel
theorem dX8_addChairs_27 : decode cX8_addChairs 27 = .ok (.dup, 1) := by decide +kernel
theorem dX8_addChairs_28 : decode cX8_addChairs 28 = .ok (.getfield 103, 3) := by decide +kernel
theorem dX8_addChairs_31 : decode cX8_addChairs 31 = .ok (.iload_n 2, 1) := by decide +kernel
theorem dX8_addChairs_32 : decode cX8_addChairs 32 = .ok (.iadd, 1) := by decide +kernel
theorem dX8_addChairs_33 : decode cX8_addChairs 33 = .ok (.putfield 103, 3) := by decide +kernel
theorem dX8_addChairs_36 : decode cX8_addChairs 36 = .ok (.aload_n 0, 1) := by decide +kernel
theorem dX8_addChairs_37 : decode cX8_addChairs 37 = .ok (.getfield 18, 3) := by decide +kernel
theorem dX8_addChairs_40 : decode cX8_addChairs 40 = .ok (.iload_n 1, 1) := by decide +kernel
theorem dX8_addChairs_41 : decode cX8_addChairs 41 = .ok (.aaload, 1) := by decide +kernel
theorem dX8_addChairs_42 : decode cX8_addChairs 42 = .ok (.getfield 103, 3) := by decide +kernel
theorem dX8_addChairs_45 : decode cX8_addChairs 45 = .ok (.ireturn, 1) := by decide +kernel
theorem dX8_allStanding_0 : decode cX8_allStanding 0 = .ok (.iconst 0, 1) := by decide +kernel
theorem dX8_allStanding_1 : decode cX8_allStanding 1 = .ok (.istore_n 1, 1) := by decide +kernel
theorem dX8_allStanding_2 : decode cX8_allStanding 2 = .ok (.iconst 0, 1) := by decide +kernel
theorem dX8_allStanding_3 : decode cX8_allStanding 3 = .ok (.istore_n 2, 1) := by decide +kernel
theorem dX8_allStanding_4 : decode cX8_allStanding 4 = .ok (.iload_n 2, 1) := by decide +kernel
theorem dX8_allStanding_5 : decode cX8_allStanding 5 = .ok (.aload_n 0, 1) := by decide +kernel
theorem dX8_allStanding_6 : decode cX8_allStanding 6 = .ok (.getfield 78, 3) := by decide +kernel
theorem dX8_allStanding_9 : decode cX8_allStanding 9 = .ok (.if_icmp .ge 21, 3) := by decide +kernel
theorem dX8_allStanding_12 : decode cX8_allStanding 12 = .ok (.iload_n 1, 1) := by decide +kernel
theorem dX8_allStanding_13 : decode cX8_allStanding 13 = .ok (.aload_n 0, 1) := by decide +kernel
theorem dX8_allStanding_14 : decode cX8_allStanding 14 = .ok (.getfield 18, 3) := by decide +kernel
theorem dX8_allStanding_17 : decode cX8_allStanding 17 = .ok (.iload_n 2, 1) := by decide +kernel
theorem dX8_allStanding_18 : decode cX8_allStanding 18 = .ok (.aaload, 1) := by decide +kernel
theorem dX8_allStanding_19 : decode cX8_allStanding 19 = .ok (.getfield 103, 3) := by decide +kernel
theorem dX8_allStanding_22 : decode cX8_allStanding 22 = .ok (.iadd, 1) := by decide +kernel
theorem dX8_allStanding_23 : decode cX8_allStanding 23 = .ok (.istore_n 1, 1) := by decide +kernel
theorem dX8_allStanding_24 : decode cX8_allStanding 24 = .ok (.iinc 2 1, 3) := by decide +kernel
theorem dX8_allStanding_27 : decode cX8_allStanding 27 = .ok (.goto (-23), 3) := by decide +kernel
theorem dX8_allStanding_30 : decode cX8_allStanding 30 = .ok (.iload_n 1, 1) := by decide +kernel
theorem dX8_allStanding_31 : decode cX8_allStanding 31 = .ok (.ireturn, 1) := by decide +kernel
theorem dX8_takeByTide_0 : decode cX8_takeByTide 0 = .ok (.iconst 0, 1) := by decide +kernel
theorem dX8_takeByTide_1 : decode cX8_takeByTide 1 = .ok (.istore_n 2, 1) := by decide +kernel
theorem dX8_takeByTide_2 : decode cX8_takeByTide 2 = .ok (.iload_n 2, 1) := by decide +kernel
theorem dX8_takeByTide_3 : decode cX8_takeByTide 3 = .ok (.aload_n 0, 1) := by decide +kernel
theorem dX8_takeByTide_4 : decode cX8_takeByTide 4 = .ok (.getfield 25, 3) := by decide +kernel
theorem dX8_takeByTide_7 : decode cX8_takeByTide 7 = .ok (.getfield 183, 3) := by decide +kernel
theorem dX8_takeByTide_10 : decode cX8_takeByTide 10 = .ok (.if_icmp .ge 40, 3) := by decide +kernel
theorem dX8_takeByTide_13 : decode cX8_takeByTide 13 = .ok (.aload_n 0, 1) := by decide +kernel
theorem dX8_takeByTide_14 : decode cX8_takeByTide 14 = .ok (.getfield 25, 3) := by decide +kernel
theorem dX8_takeByTide_17 : decode cX8_takeByTide 17 = .ok (.getfield 278, 3) := by decide +kernel
theorem dX8_takeByTide_20 : decode cX8_takeByTide 20 = .ok (.iload_n 2, 1) := by decide +kernel
theorem dX8_takeByTide_21 : decode cX8_takeByTide 21 = .ok (.aaload, 1) := by decide +kernel
theorem dX8_takeByTide_22 : decode cX8_takeByTide 22 = .ok (.astore_n 3, 1) := by decide +kernel
theorem dX8_takeByTide_23 : decode cX8_takeByTide 23 = .ok (.aload_n 0, 1) := by decide +kernel
theorem dX8_takeByTide_24 : decode cX8_takeByTide 24 = .ok (.getfield 18, 3) := by decide +kernel
theorem dX8_takeByTide_27 : decode cX8_takeByTide 27 = .ok (.aload_n 3, 1) := by decide +kernel
theorem dX8_takeByTide_28 : decode cX8_takeByTide 28 = .ok (.getfield 133, 3) := by decide +kernel
theorem dX8_takeByTide_31 : decode cX8_takeByTide 31 = .ok (.aaload, 1) := by decide +kernel
theorem dX8_takeByTide_32 : decode cX8_takeByTide 32 = .ok (.getfield 82, 3) := by decide +kernel
theorem dX8_takeByTide_35 : decode cX8_takeByTide 35 = .ok (.iload_n 1, 1) := by decide +kernel
theorem dX8_takeByTide_36 : decode cX8_takeByTide 36 = .ok (.if_icmp .gt 8, 3) := by decide +kernel
theorem dX8_takeByTide_39 : decode cX8_takeByTide 39 = .ok (.aload_n 0, 1) := by decide +kernel
theorem dX8_takeByTide_40 : decode cX8_takeByTide 40 = .ok (.aload_n 3, 1) := by decide +kernel
theorem dX8_takeByTide_41 : decode cX8_takeByTide 41 = .ok (.invokevirtual 282, 3) := by decide +kernel
theorem dX8_takeByTide_44 : decode cX8_takeByTide 44 = .ok (.iinc 2 1, 3) := by decide +kernel
theorem dX8_takeByTide_47 : decode cX8_takeByTide 47 = .ok (.goto (-45), 3) := by decide +kernel
theorem dX8_takeByTide_50 : decode cX8_takeByTide 50 = .ok (.iconst 0, 1) := by decide +kernel
theorem dX8_takeByTide_51 : decode cX8_takeByTide 51 = .ok (.istore_n 2, 1) := by decide +kernel
theorem dX8_takeByTide_52 : decode cX8_takeByTide 52 = .ok (.iload_n 2, 1) := by decide +kernel
theorem dX8_takeByTide_53 : decode cX8_takeByTide 53 = .ok (.aload_n 0, 1) := by decide +kernel
theorem dX8_takeByTide_54 : decode cX8_takeByTide 54 = .ok (.getfield 78, 3) := by decide +kernel
theorem dX8_takeByTide_57 : decode cX8_takeByTide 57 = .ok (.if_icmp .ge 42, 3) := by decide +kernel
theorem dX8_takeByTide_60 : decode cX8_takeByTide 60 = .ok (.aload_n 0, 1) := by decide +kernel
theorem dX8_takeByTide_61 : decode cX8_takeByTide 61 = .ok (.getfield 18, 3) := by decide +kernel
theorem dX8_takeByTide_64 : decode cX8_takeByTide 64 = .ok (.iload_n 2, 1) := by decide +kernel
theorem dX8_takeByTide_65 : decode cX8_takeByTide 65 = .ok (.aaload, 1) := by decide +kernel
theorem dX8_takeByTide_66 : decode cX8_takeByTide 66 = .ok (.astore_n 3, 1) := by decide +kernel
theorem dX8_takeByTide_67 : decode cX8_takeByTide 67 = .ok (.aload_n 3, 1) := by decide +kernel
theorem dX8_takeByTide_68 : decode cX8_takeByTide 68 = .ok (.getfield 82, 3) := by decide +kernel
theorem dX8_takeByTide_71 : decode cX8_takeByTide 71 = .ok (.iload_n 1, 1) := by decide +kernel
theorem dX8_takeByTide_72 : decode cX8_takeByTide 72 = .ok (.if_icmp .gt 21, 3) := by decide +kernel
theorem dX8_takeByTide_75 : decode cX8_takeByTide 75 = .ok (.aload_n 0, 1) := by decide +kernel
theorem dX8_takeByTide_76 : decode cX8_takeByTide 76 = .ok (.dup, 1) := by decide +kernel
theorem dX8_takeByTide_77 : decode cX8_takeByTide 77 = .ok (.getfield 272, 3) := by decide +kernel
theorem dX8_takeByTide_80 : decode cX8_takeByTide 80 = .ok (.aload_n 3, 1) := by decide +kernel
theorem dX8_takeByTide_81 : decode cX8_takeByTide 81 = .ok (.getfield 103, 3) := by decide +kernel
theorem dX8_takeByTide_84 : decode cX8_takeByTide 84 = .ok (.iadd, 1) := by decide +kernel
theorem dX8_takeByTide_85 : decode cX8_takeByTide 85 = .ok (.putfield 272, 3) := by decide +kernel
theorem dX8_takeByTide_88 : decode cX8_takeByTide 88 = .ok (.aload_n 3, 1) := by decide +kernel
theorem dX8_takeByTide_89 : decode cX8_takeByTide 89 = .ok (.iconst 0, 1) := by decide +kernel
theorem dX8_takeByTide_90 : decode cX8_takeByTide 90 = .ok (.putfield 103, 3) := by decide +kernel
theorem dX8_takeByTide_93 : decode cX8_takeByTide 93 = .ok (.iinc 2 1, 3) := by decide +kernel
theorem dX8_takeByTide_96 : decode cX8_takeByTide 96 = .ok (.goto (-44), 3) := by decide +kernel
theorem dX8_takeByTide_99 : decode cX8_takeByTide 99 = .ok (.return_, 1) := by decide +kernel
theorem dX8_endAllByWind_0 : decode cX8_endAllByWind 0 = .ok (.iconst 0, 1) := by decide +kernel
theorem dX8_endAllByWind_1 : decode cX8_endAllByWind 1 = .ok (.istore_n 1, 1) := by decide +kernel
theorem dX8_endAllByWind_2 : decode cX8_endAllByWind 2 = .ok (.iload_n 1, 1) := by decide +kernel
theorem dX8_endAllByWind_3 : decode cX8_endAllByWind 3 = .ok (.aload_n 0, 1) := by decide +kernel
theorem dX8_endAllByWind_4 : decode cX8_endAllByWind 4 = .ok (.getfield 25, 3) := by decide +kernel
theorem dX8_endAllByWind_7 : decode cX8_endAllByWind 7 = .ok (.getfield 183, 3) := by decide +kernel
theorem dX8_endAllByWind_10 : decode cX8_endAllByWind 10 = .ok (.if_icmp .ge 50, 3) := by decide +kernel
theorem dX8_endAllByWind_13 : decode cX8_endAllByWind 13 = .ok (.aload_n 0, 1) := by decide +kernel
theorem dX8_endAllByWind_14 : decode cX8_endAllByWind 14 = .ok (.getfield 25, 3) := by decide +kernel
theorem dX8_endAllByWind_17 : decode cX8_endAllByWind 17 = .ok (.getfield 278, 3) := by decide +kernel
theorem dX8_endAllByWind_20 : decode cX8_endAllByWind 20 = .ok (.iload_n 1, 1) := by decide +kernel
theorem dX8_endAllByWind_21 : decode cX8_endAllByWind 21 = .ok (.aaload, 1) := by decide +kernel
theorem dX8_endAllByWind_22 : decode cX8_endAllByWind 22 = .ok (.astore_n 2, 1) := by decide +kernel
theorem dX8_endAllByWind_23 : decode cX8_endAllByWind 23 = .ok (.aload_n 0, 1) := by decide +kernel
theorem dX8_endAllByWind_24 : decode cX8_endAllByWind 24 = .ok (.getfield 25, 3) := by decide +kernel
theorem dX8_endAllByWind_27 : decode cX8_endAllByWind 27 = .ok (.dup, 1) := by decide +kernel
theorem dX8_endAllByWind_28 : decode cX8_endAllByWind 28 = .ok (.getfield 223, 3) := by decide +kernel
theorem dX8_endAllByWind_31 : decode cX8_endAllByWind 31 = .ok (.aload_n 2, 1) := by decide +kernel
theorem dX8_endAllByWind_32 : decode cX8_endAllByWind 32 = .ok (.getfield 145, 3) := by decide +kernel
theorem dX8_endAllByWind_35 : decode cX8_endAllByWind 35 = .ok (.aload_n 2, 1) := by decide +kernel
theorem dX8_endAllByWind_36 : decode cX8_endAllByWind 36 = .ok (.getfield 139, 3) := by decide +kernel
theorem dX8_endAllByWind_39 : decode cX8_endAllByWind 39 = .ok (.imul, 1) := by decide +kernel
theorem dX8_endAllByWind_40 : decode cX8_endAllByWind 40 = .ok (.aload_n 2, 1) := by decide +kernel
theorem dX8_endAllByWind_41 : decode cX8_endAllByWind 41 = .ok (.getfield 142, 3) := by decide +kernel
theorem dX8_endAllByWind_44 : decode cX8_endAllByWind 44 = .ok (.imul, 1) := by decide +kernel
theorem dX8_endAllByWind_45 : decode cX8_endAllByWind 45 = .ok (.iadd, 1) := by decide +kernel
theorem dX8_endAllByWind_46 : decode cX8_endAllByWind 46 = .ok (.putfield 223, 3) := by decide +kernel
theorem dX8_endAllByWind_49 : decode cX8_endAllByWind 49 = .ok (.aload_n 0, 1) := by decide +kernel
theorem dX8_endAllByWind_50 : decode cX8_endAllByWind 50 = .ok (.aload_n 2, 1) := by decide +kernel
theorem dX8_endAllByWind_51 : decode cX8_endAllByWind 51 = .ok (.invokevirtual 282, 3) := by decide +kernel
theorem dX8_endAllByWind_54 : decode cX8_endAllByWind 54 = .ok (.iinc 1 1, 3) := by decide +kernel
theorem dX8_endAllByWind_57 : decode cX8_endAllByWind 57 = .ok (.goto (-55), 3) := by decide +kernel
theorem dX8_endAllByWind_60 : decode cX8_endAllByWind 60 = .ok (.return_, 1) := by decide +kernel
theorem dX8_payBackRain_0 : decode cX8_payBackRain 0 = .ok (.aload_n 0, 1) := by decide +kernel
theorem dX8_payBackRain_1 : decode cX8_payBackRain 1 = .ok (.getfield 39, 3) := by decide +kernel
theorem dX8_payBackRain_4 : decode cX8_payBackRain 4 = .ok (.iload_n 1, 1) := by decide +kernel
theorem dX8_payBackRain_5 : decode cX8_payBackRain 5 = .ok (.invokevirtual 286, 3) := by decide +kernel
theorem dX8_payBackRain_8 : decode cX8_payBackRain 8 = .ok (.istore_n 2, 1) := by decide +kernel
theorem dX8_payBackRain_9 : decode cX8_payBackRain 9 = .ok (.iconst 0, 1) := by decide +kernel
theorem dX8_payBackRain_10 : decode cX8_payBackRain 10 = .ok (.istore_n 3, 1) := by decide +kernel
theorem dX8_payBackRain_11 : decode cX8_payBackRain 11 = .ok (.iload_n 3, 1) := by decide +kernel
theorem dX8_payBackRain_12 : decode cX8_payBackRain 12 = .ok (.aload_n 0, 1) := by decide +kernel
theorem dX8_payBackRain_13 : decode cX8_payBackRain 13 = .ok (.getfield 25, 3) := by decide +kernel
theorem dX8_payBackRain_16 : decode cX8_payBackRain 16 = .ok (.getfield 183, 3) := by decide +kernel
theorem dX8_payBackRain_19 : decode cX8_payBackRain 19 = .ok (.if_icmp .ge 48, 3) := by decide +kernel
theorem dX8_payBackRain_22 : decode cX8_payBackRain 22 = .ok (.aload_n 0, 1) := by decide +kernel
theorem dX8_payBackRain_23 : decode cX8_payBackRain 23 = .ok (.getfield 25, 3) := by decide +kernel
theorem dX8_payBackRain_26 : decode cX8_payBackRain 26 = .ok (.getfield 278, 3) := by decide +kernel
theorem dX8_payBackRain_29 : decode cX8_payBackRain 29 = .ok (.iload_n 3, 1) := by decide +kernel
theorem dX8_payBackRain_30 : decode cX8_payBackRain 30 = .ok (.aaload, 1) := by decide +kernel
theorem dX8_payBackRain_31 : decode cX8_payBackRain 31 = .ok (.astore 4, 2) := by decide +kernel
theorem dX8_payBackRain_33 : decode cX8_payBackRain 33 = .ok (.aload_n 0, 1) := by decide +kernel
theorem dX8_payBackRain_34 : decode cX8_payBackRain 34 = .ok (.getfield 25, 3) := by decide +kernel
theorem dX8_payBackRain_37 : decode cX8_payBackRain 37 = .ok (.dup, 1) := by decide +kernel
theorem dX8_payBackRain_38 : decode cX8_payBackRain 38 = .ok (.getfield 223, 3) := by decide +kernel
theorem dX8_payBackRain_41 : decode cX8_payBackRain 41 = .ok (.aload 4, 2) := by decide +kernel
theorem dX8_payBackRain_43 : decode cX8_payBackRain 43 = .ok (.getfield 145, 3) := by decide +kernel
theorem dX8_payBackRain_46 : decode cX8_payBackRain 46 = .ok (.aload 4, 2) := by decide +kernel
theorem dX8_payBackRain_48 : decode cX8_payBackRain 48 = .ok (.getfield 139, 3) := by decide +kernel
theorem dX8_payBackRain_51 : decode cX8_payBackRain 51 = .ok (.imul, 1) := by decide +kernel
theorem dX8_payBackRain_52 : decode cX8_payBackRain 52 = .ok (.iload_n 2, 1) := by decide +kernel
theorem dX8_payBackRain_53 : decode cX8_payBackRain 53 = .ok (.imul, 1) := by decide +kernel
theorem dX8_payBackRain_54 : decode cX8_payBackRain 54 = .ok (.bipush 100, 2) := by decide +kernel
theorem dX8_payBackRain_56 : decode cX8_payBackRain 56 = .ok (.idiv, 1) := by decide +kernel
theorem dX8_payBackRain_57 : decode cX8_payBackRain 57 = .ok (.iadd, 1) := by decide +kernel
theorem dX8_payBackRain_58 : decode cX8_payBackRain 58 = .ok (.putfield 223, 3) := by decide +kernel
theorem dX8_payBackRain_61 : decode cX8_payBackRain 61 = .ok (.iinc 3 1, 3) := by decide +kernel
theorem dX8_payBackRain_64 : decode cX8_payBackRain 64 = .ok (.goto (-53), 3) := by decide +kernel
theorem dX8_payBackRain_67 : decode cX8_payBackRain 67 = .ok (.return_, 1) := by decide +kernel
theorem dX8_wearAll_0 : decode cX8_wearAll 0 = .ok (.iconst 0, 1) := by decide +kernel
theorem dX8_wearAll_1 : decode cX8_wearAll 1 = .ok (.istore_n 2, 1) := by decide +kernel
theorem dX8_wearAll_2 : decode cX8_wearAll 2 = .ok (.iload_n 2, 1) := by decide +kernel
theorem dX8_wearAll_3 : decode cX8_wearAll 3 = .ok (.aload_n 0, 1) := by decide +kernel
theorem dX8_wearAll_4 : decode cX8_wearAll 4 = .ok (.getfield 78, 3) := by decide +kernel
theorem dX8_wearAll_7 : decode cX8_wearAll 7 = .ok (.if_icmp .ge 74, 3) := by decide +kernel
theorem dX8_wearAll_10 : decode cX8_wearAll 10 = .ok (.aload_n 0, 1) := by decide +kernel
theorem dX8_wearAll_11 : decode cX8_wearAll 11 = .ok (.getfield 18, 3) := by decide +kernel
theorem dX8_wearAll_14 : decode cX8_wearAll 14 = .ok (.iload_n 2, 1) := by decide +kernel
theorem dX8_wearAll_15 : decode cX8_wearAll 15 = .ok (.aaload, 1) := by decide +kernel
theorem dX8_wearAll_16 : decode cX8_wearAll 16 = .ok (.astore_n 3, 1) := by decide +kernel
theorem dX8_wearAll_17 : decode cX8_wearAll 17 = .ok (.aload_n 3, 1) := by decide +kernel
theorem dX8_wearAll_18 : decode cX8_wearAll 18 = .ok (.dup, 1) := by decide +kernel
theorem dX8_wearAll_19 : decode cX8_wearAll 19 = .ok (.getfield 110, 3) := by decide +kernel
theorem dX8_wearAll_22 : decode cX8_wearAll 22 = .ok (.iload_n 1, 1) := by decide +kernel
theorem dX8_wearAll_23 : decode cX8_wearAll 23 = .ok (.aload_n 3, 1) := by decide +kernel
theorem dX8_wearAll_24 : decode cX8_wearAll 24 = .ok (.getfield 103, 3) := by decide +kernel
theorem dX8_wearAll_27 : decode cX8_wearAll 27 = .ok (.imul, 1) := by decide +kernel
theorem dX8_wearAll_28 : decode cX8_wearAll 28 = .ok (.iadd, 1) := by decide +kernel
theorem dX8_wearAll_29 : decode cX8_wearAll 29 = .ok (.putfield 110, 3) := by decide +kernel
theorem dX8_wearAll_32 : decode cX8_wearAll 32 = .ok (.aload_n 3, 1) := by decide +kernel
theorem dX8_wearAll_33 : decode cX8_wearAll 33 = .ok (.getfield 110, 3) := by decide +kernel
theorem dX8_wearAll_36 : decode cX8_wearAll 36 = .ok (.sipush 1000, 3) := by decide +kernel
theorem dX8_wearAll_39 : decode cX8_wearAll 39 = .ok (.idiv, 1) := by decide +kernel
theorem dX8_wearAll_40 : decode cX8_wearAll 40 = .ok (.istore 4, 2) := by decide +kernel
theorem dX8_wearAll_42 : decode cX8_wearAll 42 = .ok (.aload_n 3, 1) := by decide +kernel
theorem dX8_wearAll_43 : decode cX8_wearAll 43 = .ok (.dup, 1) := by decide +kernel
theorem dX8_wearAll_44 : decode cX8_wearAll 44 = .ok (.getfield 110, 3) := by decide +kernel
theorem dX8_wearAll_47 : decode cX8_wearAll 47 = .ok (.sipush 1000, 3) := by decide +kernel
theorem dX8_wearAll_50 : decode cX8_wearAll 50 = .ok (.irem, 1) := by decide +kernel
theorem dX8_wearAll_51 : decode cX8_wearAll 51 = .ok (.putfield 110, 3) := by decide +kernel
theorem dX8_wearAll_54 : decode cX8_wearAll 54 = .ok (.iconst 0, 1) := by decide +kernel
theorem dX8_wearAll_55 : decode cX8_wearAll 55 = .ok (.istore 5, 2) := by decide +kernel
theorem dX8_wearAll_57 : decode cX8_wearAll 57 = .ok (.iload 5, 2) := by decide +kernel
theorem dX8_wearAll_59 : decode cX8_wearAll 59 = .ok (.iload 4, 2) := by decide +kernel
theorem dX8_wearAll_61 : decode cX8_wearAll 61 = .ok (.if_icmp .ge 14, 3) := by decide +kernel
theorem dX8_wearAll_64 : decode cX8_wearAll 64 = .ok (.aload_n 0, 1) := by decide +kernel
theorem dX8_wearAll_65 : decode cX8_wearAll 65 = .ok (.iload_n 2, 1) := by decide +kernel
theorem dX8_wearAll_66 : decode cX8_wearAll 66 = .ok (.invokevirtual 289, 3) := by decide +kernel
theorem dX8_wearAll_69 : decode cX8_wearAll 69 = .ok (.iinc 5 1, 3) := by decide +kernel
theorem dX8_wearAll_72 : decode cX8_wearAll 72 = .ok (.goto (-15), 3) := by decide +kernel
theorem dX8_wearAll_75 : decode cX8_wearAll 75 = .ok (.iinc 2 1, 3) := by decide +kernel
theorem dX8_wearAll_78 : decode cX8_wearAll 78 = .ok (.goto (-76), 3) := by decide +kernel
theorem dX8_wearAll_81 : decode cX8_wearAll 81 = .ok (.return_, 1) := by decide +kernel
theorem dX8_breakChair_0 : decode cX8_breakChair 0 = .ok (.aload_n 0, 1) := by decide +kernel
theorem dX8_breakChair_1 : decode cX8_breakChair 1 = .ok (.getfield 18, 3) := by decide +kernel
theorem dX8_breakChair_4 : decode cX8_breakChair 4 = .ok (.iload_n 1, 1) := by decide +kernel
theorem dX8_breakChair_5 : decode cX8_breakChair 5 = .ok (.aaload, 1) := by decide +kernel
theorem dX8_breakChair_6 : decode cX8_breakChair 6 = .ok (.astore_n 2, 1) := by decide +kernel
theorem dX8_breakChair_7 : decode cX8_breakChair 7 = .ok (.aload_n 2, 1) := by decide +kernel
theorem dX8_breakChair_8 : decode cX8_breakChair 8 = .ok (.getfield 103, 3) := by decide +kernel
theorem dX8_breakChair_11 : decode cX8_breakChair 11 = .ok (.ifCond .ne 4, 3) := by decide +kernel
theorem dX8_breakChair_14 : decode cX8_breakChair 14 = .ok (.return_, 1) := by decide +kernel
theorem dX8_breakChair_15 : decode cX8_breakChair 15 = .ok (.aload_n 2, 1) := by decide +kernel
theorem dX8_breakChair_16 : decode cX8_breakChair 16 = .ok (.invokevirtual 106, 3) := by decide +kernel
theorem dX8_breakChair_19 : decode cX8_breakChair 19 = .ok (.ifCond .ne 37, 3) := by decide +kernel
theorem dX8_breakChair_22 : decode cX8_breakChair 22 = .ok (.aload_n 0, 1) := by decide +kernel
theorem dX8_breakChair_23 : decode cX8_breakChair 23 = .ok (.getfield 25, 3) := by decide +kernel
theorem dX8_breakChair_26 : decode cX8_breakChair 26 = .ok (.iload_n 1, 1) := by decide +kernel
theorem dX8_breakChair_27 : decode cX8_breakChair 27 = .ok (.invokevirtual 292, 3) := by decide +kernel
theorem dX8_breakChair_30 : decode cX8_breakChair 30 = .ok (.astore_n 3, 1) := by decide +kernel
theorem dX8_breakChair_31 : decode cX8_breakChair 31 = .ok (.aload_n 3, 1) := by decide +kernel
theorem dX8_breakChair_32 : decode cX8_breakChair 32 = .ok (.ifnonnull 4, 3) := by decide +kernel
theorem dX8_breakChair_35 : decode cX8_breakChair 35 = .ok (.return_, 1) := by decide +kernel
theorem dX8_breakChair_36 : decode cX8_breakChair 36 = .ok (.aload_n 3, 1) := by decide +kernel
theorem dX8_breakChair_37 : decode cX8_breakChair 37 = .ok (.dup, 1) := by decide +kernel
theorem dX8_breakChair_38 : decode cX8_breakChair 38 = .ok (.getfield 139, 3) := by decide +kernel
theorem dX8_breakChair_41 : decode cX8_breakChair 41 = .ok (.iconst 1, 1) := by decide +kernel
theorem dX8_breakChair_42 : decode cX8_breakChair 42 = .ok (.isub, 1) := by decide +kernel
theorem dX8_breakChair_43 : decode cX8_breakChair 43 = .ok (.putfield 139, 3) := by decide +kernel
theorem dX8_breakChair_46 : decode cX8_breakChair 46 = .ok (.aload_n 2, 1) := by decide +kernel
theorem dX8_breakChair_47 : decode cX8_breakChair 47 = .ok (.dup, 1) := by decide +kernel
theorem dX8_breakChair_48 : decode cX8_breakChair 48 = .ok (.getfield 126, 3) := by decide +kernel
theorem dX8_breakChair_51 : decode cX8_breakChair 51 = .ok (.iconst 1, 1) := by decide +kernel
theorem dX8_breakChair_52 : decode cX8_breakChair 52 = .ok (.isub, 1) := by decide +kernel
theorem dX8_breakChair_53 : decode cX8_breakChair 53 = .ok (.putfield 126, 3) := by decide +kernel
theorem dX8_breakChair_56 : decode cX8_breakChair 56 = .ok (.aload_n 2, 1) := by decide +kernel
theorem dX8_breakChair_57 : decode cX8_breakChair 57 = .ok (.dup, 1) := by decide +kernel
theorem dX8_breakChair_58 : decode cX8_breakChair 58 = .ok (.getfield 103, 3) := by decide +kernel
theorem dX8_breakChair_61 : decode cX8_breakChair 61 = .ok (.iconst 1, 1) := by decide +kernel
theorem dX8_breakChair_62 : decode cX8_breakChair 62 = .ok (.isub, 1) := by decide +kernel
theorem dX8_breakChair_63 : decode cX8_breakChair 63 = .ok (.putfield 103, 3) := by decide +kernel
theorem dX8_breakChair_66 : decode cX8_breakChair 66 = .ok (.aload_n 0, 1) := by decide +kernel
theorem dX8_breakChair_67 : decode cX8_breakChair 67 = .ok (.dup, 1) := by decide +kernel
theorem dX8_breakChair_68 : decode cX8_breakChair 68 = .ok (.getfield 116, 3) := by decide +kernel
theorem dX8_breakChair_71 : decode cX8_breakChair 71 = .ok (.iconst 1, 1) := by decide +kernel
theorem dX8_breakChair_72 : decode cX8_breakChair 72 = .ok (.iadd, 1) := by decide +kernel
theorem dX8_breakChair_73 : decode cX8_breakChair 73 = .ok (.putfield 116, 3) := by decide +kernel
theorem dX8_breakChair_76 : decode cX8_breakChair 76 = .ok (.return_, 1) := by decide +kernel
theorem dX8_passAnHour_0 : decode cX8_passAnHour 0 = .ok (.iconst 0, 1) := by decide +kernel
theorem dX8_passAnHour_1 : decode cX8_passAnHour 1 = .ok (.istore_n 1, 1) := by decide +kernel
theorem dX8_passAnHour_2 : decode cX8_passAnHour 2 = .ok (.iload_n 1, 1) := by decide +kernel
theorem dX8_passAnHour_3 : decode cX8_passAnHour 3 = .ok (.aload_n 0, 1) := by decide +kernel
theorem dX8_passAnHour_4 : decode cX8_passAnHour 4 = .ok (.getfield 25, 3) := by decide +kernel
theorem dX8_passAnHour_7 : decode cX8_passAnHour 7 = .ok (.getfield 183, 3) := by decide +kernel
theorem dX8_passAnHour_10 : decode cX8_passAnHour 10 = .ok (.if_icmp .ge 41, 3) := by decide +kernel
theorem dX8_passAnHour_13 : decode cX8_passAnHour 13 = .ok (.aload_n 0, 1) := by decide +kernel
theorem dX8_passAnHour_14 : decode cX8_passAnHour 14 = .ok (.getfield 25, 3) := by decide +kernel
theorem dX8_passAnHour_17 : decode cX8_passAnHour 17 = .ok (.getfield 278, 3) := by decide +kernel
theorem dX8_passAnHour_20 : decode cX8_passAnHour 20 = .ok (.iload_n 1, 1) := by decide +kernel
theorem dX8_passAnHour_21 : decode cX8_passAnHour 21 = .ok (.aaload, 1) := by decide +kernel
theorem dX8_passAnHour_22 : decode cX8_passAnHour 22 = .ok (.astore_n 2, 1) := by decide +kernel
theorem dX8_passAnHour_23 : decode cX8_passAnHour 23 = .ok (.aload_n 2, 1) := by decide +kernel
theorem dX8_passAnHour_24 : decode cX8_passAnHour 24 = .ok (.dup, 1) := by decide +kernel
theorem dX8_passAnHour_25 : decode cX8_passAnHour 25 = .ok (.getfield 142, 3) := by decide +kernel
theorem dX8_passAnHour_28 : decode cX8_passAnHour 28 = .ok (.iconst 1, 1) := by decide +kernel
theorem dX8_passAnHour_29 : decode cX8_passAnHour 29 = .ok (.isub, 1) := by decide +kernel
theorem dX8_passAnHour_30 : decode cX8_passAnHour 30 = .ok (.putfield 142, 3) := by decide +kernel
theorem dX8_passAnHour_33 : decode cX8_passAnHour 33 = .ok (.aload_n 2, 1) := by decide +kernel
theorem dX8_passAnHour_34 : decode cX8_passAnHour 34 = .ok (.getfield 142, 3) := by decide +kernel
theorem dX8_passAnHour_37 : decode cX8_passAnHour 37 = .ok (.ifCond .gt 8, 3) := by decide +kernel
theorem dX8_passAnHour_40 : decode cX8_passAnHour 40 = .ok (.aload_n 0, 1) := by decide +kernel
theorem dX8_passAnHour_41 : decode cX8_passAnHour 41 = .ok (.aload_n 2, 1) := by decide +kernel
theorem dX8_passAnHour_42 : decode cX8_passAnHour 42 = .ok (.invokevirtual 282, 3) := by decide +kernel
theorem dX8_passAnHour_45 : decode cX8_passAnHour 45 = .ok (.iinc 1 1, 3) := by decide +kernel
theorem dX8_passAnHour_48 : decode cX8_passAnHour 48 = .ok (.goto (-46), 3) := by decide +kernel
theorem dX8_passAnHour_51 : decode cX8_passAnHour 51 = .ok (.return_, 1) := by decide +kernel
theorem dX8_endTicket_0 : decode cX8_endTicket 0 = .ok (.aload_n 0, 1) := by decide +kernel
theorem dX8_endTicket_1 : decode cX8_endTicket 1 = .ok (.getfield 18, 3) := by decide +kernel
theorem dX8_endTicket_4 : decode cX8_endTicket 4 = .ok (.aload_n 1, 1) := by decide +kernel
theorem dX8_endTicket_5 : decode cX8_endTicket 5 = .ok (.getfield 133, 3) := by decide +kernel
theorem dX8_endTicket_8 : decode cX8_endTicket 8 = .ok (.aaload, 1) := by decide +kernel
theorem dX8_endTicket_9 : decode cX8_endTicket 9 = .ok (.dup, 1) := by decide +kernel
theorem dX8_endTicket_10 : decode cX8_endTicket 10 = .ok (.getfield 126, 3) := by decide +kernel
theorem dX8_endTicket_13 : decode cX8_endTicket 13 = .ok (.aload_n 1, 1) := by decide +kernel
theorem dX8_endTicket_14 : decode cX8_endTicket 14 = .ok (.getfield 139, 3) := by decide +kernel
theorem dX8_endTicket_17 : decode cX8_endTicket 17 = .ok (.isub, 1) := by decide +kernel
theorem dX8_endTicket_18 : decode cX8_endTicket 18 = .ok (.putfield 126, 3) := by decide +kernel
theorem dX8_endTicket_21 : decode cX8_endTicket 21 = .ok (.aload_n 1, 1) := by decide +kernel
theorem dX8_endTicket_22 : decode cX8_endTicket 22 = .ok (.iconst 0, 1) := by decide +kernel
theorem dX8_endTicket_23 : decode cX8_endTicket 23 = .ok (.putfield 139, 3) := by decide +kernel
theorem dX8_endTicket_26 : decode cX8_endTicket 26 = .ok (.return_, 1) := by decide +kernel
theorem dX9_in_0 : decode cX9_in 0 = .ok (.lload_n 0, 1) := by decide +kernel
theorem dX9_in_1 : decode cX9_in 1 = .ok (.lload_n 2, 1) := by decide +kernel
theorem dX9_in_2 : decode cX9_in 2 = .ok (.lcmp, 1) := by decide +kernel
theorem dX9_in_3 : decode cX9_in 3 = .ok (.ifCond .lt 14, 3) := by decide +kernel
theorem dX9_in_6 : decode cX9_in 6 = .ok (.lload_n 0, 1) := by decide +kernel
theorem dX9_in_7 : decode cX9_in 7 = .ok (.lload 4, 2) := by decide +kernel
theorem dX9_in_9 : decode cX9_in 9 = .ok (.lcmp, 1) := by decide +kernel
theorem dX9_in_10 : decode cX9_in 10 = .ok (.ifCond .gt 7, 3) := by decide +kernel
theorem dX9_in_13 : decode cX9_in 13 = .ok (.iconst 1, 1) := by decide +kernel
theorem dX9_in_14 : decode cX9_in 14 = .ok (.goto 4, 3) := by decide +kernel
theorem dX9_in_17 : decode cX9_in 17 = .ok (.iconst 0, 1) := by decide +kernel
theorem dX9_in_18 : decode cX9_in 18 = .ok (.ireturn, 1) := by decide +kernel
theorem dX9_init_0 : decode cX9_init 0 = .ok (.aload_n 0, 1) := by decide +kernel
theorem dX9_init_1 : decode cX9_init 1 = .ok (.invokespecial 7, 3) := by decide +kernel
theorem dX9_init_4 : decode cX9_init 4 = .ok (.aload_n 0, 1) := by decide +kernel
theorem dX9_init_5 : decode cX9_init 5 = .ok (.bipush 10, 2) := by decide +kernel
theorem dX9_init_7 : decode cX9_init 7 = .ok (.putfield 13, 3) := by decide +kernel
theorem dX9_init_10 : decode cX9_init 10 = .ok (.aload_n 0, 1) := by decide +kernel
theorem dX9_init_11 : decode cX9_init 11 = .ok (.bipush 60, 2) := by decide +kernel
theorem dX9_init_13 : decode cX9_init 13 = .ok (.putfield 16, 3) := by decide +kernel
theorem dX9_init_16 : decode cX9_init 16 = .ok (.aload_n 0, 1) := by decide +kernel
theorem dX9_init_17 : decode cX9_init 17 = .ok (.bipush 10, 2) := by decide +kernel
theorem dX9_init_19 : decode cX9_init 19 = .ok (.newarray .int, 2) := by decide +kernel
theorem dX9_init_21 : decode cX9_init 21 = .ok (.putfield 19, 3) := by decide +kernel
theorem dX9_init_24 : decode cX9_init 24 = .ok (.aload_n 0, 1) := by decide +kernel
theorem dX9_init_25 : decode cX9_init 25 = .ok (.bipush 10, 2) := by decide +kernel
theorem dX9_init_27 : decode cX9_init 27 = .ok (.newarray .int, 2) := by decide +kernel
theorem dX9_init_29 : decode cX9_init 29 = .ok (.putfield 23, 3) := by decide +kernel
theorem dX9_init_32 : decode cX9_init 32 = .ok (.aload_n 0, 1) := by decide +kernel
theorem dX9_init_33 : decode cX9_init 33 = .ok (.bipush 10, 2) := by decide +kernel
theorem dX9_init_35 : decode cX9_init 35 = .ok (.newarray .int, 2) := by decide +kernel
theorem dX9_init_37 : decode cX9_init 37 = .ok (.putfield 26, 3) := by decide +kernel
theorem dX9_init_40 : decode cX9_init 40 = .ok (.aload_n 0, 1) := by decide +kernel
theorem dX9_init_41 : decode cX9_init 41 = .ok (.bipush 10, 2) := by decide +kernel
theorem dX9_init_43 : decode cX9_init 43 = .ok (.newarray .int, 2) := by decide +kernel
theorem dX9_init_45 : decode cX9_init 45 = .ok (.putfield 29, 3) := by decide +kernel
theorem dX9_init_48 : decode cX9_init 48 = .ok (.aload_n 0, 1) := by decide +kernel
theorem dX9_init_49 : decode cX9_init 49 = .ok (.bipush 10, 2) := by decide +kernel
theorem dX9_init_51 : decode cX9_init 51 = .ok (.newarray .int, 2) := by decide +kernel
theorem dX9_init_53 : decode cX9_init 53 = .ok (.putfield 32, 3) := by decide +kernel
theorem dX9_init_56 : decode cX9_init 56 = .ok (.aload_n 0, 1) := by decide +kernel
theorem dX9_init_57 : decode cX9_init 57 = .ok (.bipush 10, 2) := by decide +kernel
theorem dX9_init_59 : decode cX9_init 59 = .ok (.newarray .int, 2) := by decide +kernel
theorem dX9_init_61 : decode cX9_init 61 = .ok (.putfield 35, 3) := by decide +kernel
theorem dX9_init_64 : decode cX9_init 64 = .ok (.aload_n 0, 1) := by decide +kernel
theorem dX9_init_65 : decode cX9_init 65 = .ok (.bipush 10, 2) := by decide +kernel
theorem dX9_init_67 : decode cX9_init 67 = .ok (.newarray .int, 2) := by decide +kernel
theorem dX9_init_69 : decode cX9_init 69 = .ok (.putfield 38, 3) := by decide +kernel
theorem dX9_init_72 : decode cX9_init 72 = .ok (.aload_n 0, 1) := by decide +kernel
theorem dX9_init_73 : decode cX9_init 73 = .ok (.bipush 30, 2) := by decide +kernel
theorem dX9_init_75 : decode cX9_init 75 = .ok (.newarray .int, 2) := by decide +kernel
theorem dX9_init_77 : decode cX9_init 77 = .ok (.putfield 41, 3) := by decide +kernel
theorem dX9_init_80 : decode cX9_init 80 = .ok (.aload_n 0, 1) := by decide +kernel
theorem dX9_init_81 : decode cX9_init 81 = .ok (.bipush 30, 2) := by decide +kernel
theorem dX9_init_83 : decode cX9_init 83 = .ok (.newarray .int, 2) := by decide +kernel
theorem dX9_init_85 : decode cX9_init 85 = .ok (.putfield 44, 3) := by decide +kernel
theorem dX9_init_88 : decode cX9_init 88 = .ok (.aload_n 0, 1) := by decide +kernel
theorem dX9_init_89 : decode cX9_init 89 = .ok (.bipush 30, 2) := by decide +kernel
theorem dX9_init_91 : decode cX9_init 91 = .ok (.newarray .int, 2) := by decide +kernel
theorem dX9_init_93 : decode cX9_init 93 = .ok (.putfield 47, 3) := by decide +kernel
theorem dX9_init_96 : decode cX9_init 96 = .ok (.aload_n 0, 1) := by decide +kernel
theorem dX9_init_97 : decode cX9_init 97 = .ok (.bipush 30, 2) := by decide +kernel
theorem dX9_init_99 : decode cX9_init 99 = .ok (.newarray .int, 2) := by decide +kernel
theorem dX9_init_101 : decode cX9_init 101 = .ok (.putfield 50, 3) := by decide +kernel
theorem dX9_init_104 : decode cX9_init 104 = .ok (.aload_n 0, 1) := by decide +kernel
theorem dX9_init_105 : decode cX9_init 105 = .ok (.bipush 30, 2) := by decide +kernel
theorem dX9_init_107 : decode cX9_init 107 = .ok (.newarray .int, 2) := by decide +kernel
theorem dX9_init_109 : decode cX9_init 109 = .ok (.putfield 53, 3) := by decide +kernel
theorem dX9_init_112 : decode cX9_init 112 = .ok (.aload_n 0, 1) := by decide +kernel
theorem dX9_init_113 : decode cX9_init 113 = .ok (.bipush 30, 2) := by decide +kernel
theorem dX9_init_115 : decode cX9_init 115 = .ok (.newarray .int, 2) := by decide +kernel
theorem dX9_init_117 : decode cX9_init 117 = .ok (.putfield 56, 3) := by decide +kernel
theorem dX9_init_120 : decode cX9_init 120 = .ok (.aload_n 0, 1) := by decide +kernel
theorem dX9_init_121 : decode cX9_init 121 = .ok (.bipush 30, 2) := by decide +kernel
theorem dX9_init_123 : decode cX9_init 123 = .ok (.newarray .int, 2) := by decide +kernel
theorem dX9_init_125 : decode cX9_init 125 = .ok (.putfield 59, 3) := by decide +kernel
theorem dX9_init_128 : decode cX9_init 128 = .ok (.aload_n 0, 1) := by decide +kernel
theorem dX9_init_129 : decode cX9_init 129 = .ok (.iconst 5, 1) := by decide +kernel
theorem dX9_init_130 : decode cX9_init 130 = .ok (.newarray .int, 2) := by decide +kernel
theorem dX9_init_132 : decode cX9_init 132 = .ok (.putfield 62, 3) := by decide +kernel
theorem dX9_init_135 : decode cX9_init 135 = .ok (.aload_n 0, 1) := by decide +kernel
theorem dX9_init_136 : decode cX9_init 136 = .ok (.iconst 5, 1) := by decide +kernel
theorem dX9_init_137 : decode cX9_init 137 = .ok (.newarray .int, 2) := by decide +kernel
theorem dX9_init_139 : decode cX9_init 139 = .ok (.putfield 65, 3) := by decide +kernel
theorem dX9_init_142 : decode cX9_init 142 = .ok (.aload_n 0, 1) := by decide +kernel
theorem dX9_init_143 : decode cX9_init 143 = .ok (.iconst 5, 1) := by decide +kernel
theorem dX9_init_144 : decode cX9_init 144 = .ok (.newarray .int, 2) := by decide +kernel
theorem dX9_init_146 : decode cX9_init 146 = .ok (.putfield 68, 3) := by decide +kernel
theorem dX9_init_149 : decode cX9_init 149 = .ok (.aload_n 0, 1) := by decide +kernel
theorem dX9_init_150 : decode cX9_init 150 = .ok (.iconst 5, 1) := by decide +kernel
theorem dX9_init_151 : decode cX9_init 151 = .ok (.newarray .int, 2) := by decide +kernel
theorem dX9_init_153 : decode cX9_init 153 = .ok (.putfield 71, 3) := by decide +kernel
theorem dX9_init_156 : decode cX9_init 156 = .ok (.aload_n 0, 1) := by decide +kernel
theorem dX9_init_157 : decode cX9_init 157 = .ok (.iconst 5, 1) := by decide +kernel
theorem dX9_init_158 : decode cX9_init 158 = .ok (.newarray .int, 2) := by decide +kernel
theorem dX9_init_160 : decode cX9_init 160 = .ok (.putfield 74, 3) := by decide +kernel
theorem dX9_init_163 : decode cX9_init 163 = .ok (.aload_n 0, 1) := by decide +kernel
theorem dX9_init_164 : decode cX9_init 164 = .ok (.iconst 5, 1) := by decide +kernel
theorem dX9_init_165 : decode cX9_init 165 = .ok (.newarray .int, 2) := by decide +kernel
theorem dX9_init_167 : decode cX9_init 167 = .ok (.putfield 77, 3) := by decide +kernel
theorem dX9_init_170 : decode cX9_init 170 = .ok (.aload_n 0, 1) := by decide +kernel
theorem dX9_init_171 : decode cX9_init 171 = .ok (.iconst 5, 1) := by decide +kernel
theorem dX9_init_172 : decode cX9_init 172 = .ok (.newarray .int, 2) := by decide +kernel
theorem dX9_init_174 : decode cX9_init 174 = .ok (.putfield 80, 3) := by decide +kernel
theorem dX9_init_177 : decode cX9_init 177 = .ok (.aload_n 0, 1) := by decide +kernel
theorem dX9_init_178 : decode cX9_init 178 = .ok (.iconst 5, 1) := by decide +kernel
end
section
theorem dX9_init_179 : decode cX9_init 179 = .ok (.newarray .int, 2) := by decide +kernel
theorem dX9_init_181 : decode cX9_init 181 = .ok (.putfield 83, 3) := by decide +kernel
theorem dX9_init_184 : decode cX9_init 184 = .ok (.aload_n 0, 1) := by decide +kernel
theorem dX9_init_185 : decode cX9_init 185 = .ok (.sipush 300, 3) := by decide +kernel
theorem dX9_init_188 : decode cX9_init 188 = .ok (.newarray .int, 2) := by decide +kernel
theorem dX9_init_190 : decode cX9_init 190 = .ok (.putfield 86, 3) := by decide +kernel
theorem dX9_init_193 : decode cX9_init 193 = .ok (.aload_n 0, 1) := by decide +kernel
theorem dX9_init_194 : decode cX9_init 194 = .ok (.bipush 7, 2) := by decide +kernel
theorem dX9_init_196 : decode cX9_init 196 = .ok (.newarray .int, 2) := by decide +kernel
theorem dX9_init_198 : decode cX9_init 198 = .ok (.putfield 89, 3) := by decide +kernel
theorem dX9_init_201 : decode cX9_init 201 = .ok (.aload_n 0, 1) := by decide +kernel
theorem dX9_init_202 : decode cX9_init 202 = .ok (.bipush 7, 2) := by decide +kernel
theorem dX9_init_204 : decode cX9_init 204 = .ok (.newarray .int, 2) := by decide +kernel
theorem dX9_init_206 : decode cX9_init 206 = .ok (.putfield 92, 3) := by decide +kernel
theorem dX9_init_209 : decode cX9_init 209 = .ok (.aload_n 0, 1) := by decide +kernel
theorem dX9_init_210 : decode cX9_init 210 = .ok (.bipush 16, 2) := by decide +kernel
theorem dX9_init_212 : decode cX9_init 212 = .ok (.newarray .int, 2) := by decide +kernel
theorem dX9_init_214 : decode cX9_init 214 = .ok (.putfield 95, 3) := by decide +kernel
theorem dX9_init_217 : decode cX9_init 217 = .ok (.aload_n 0, 1) := by decide +kernel
theorem dX9_init_218 : decode cX9_init 218 = .ok (.iload_n 1, 1) := by decide +kernel
theorem dX9_init_219 : decode cX9_init 219 = .ok (.ifCond .ge 7, 3) := by decide +kernel
theorem dX9_init_222 : decode cX9_init 222 = .ok (.iconst 0, 1) := by decide +kernel
theorem dX9_init_223 : decode cX9_init 223 = .ok (.goto 17, 3) := by decide +kernel
theorem dX9_init_226 : decode cX9_init 226 = .ok (.iload_n 1, 1) := by decide +kernel
theorem dX9_init_227 : decode cX9_init 227 = .ok (.sipush 9000, 3) := by decide +kernel
theorem dX9_init_230 : decode cX9_init 230 = .ok (.if_icmp .le 9, 3) := by decide +kernel
theorem dX9_init_233 : decode cX9_init 233 = .ok (.sipush 9000, 3) := by decide +kernel
theorem dX9_init_236 : decode cX9_init 236 = .ok (.goto 4, 3) := by decide +kernel
theorem dX9_init_239 : decode cX9_init 239 = .ok (.iload_n 1, 1) := by decide +kernel
theorem dX9_init_240 : decode cX9_init 240 = .ok (.putfield 98, 3) := by decide +kernel
theorem dX9_init_243 : decode cX9_init 243 = .ok (.return_, 1) := by decide +kernel
theorem dX9_isStretch_0 : decode cX9_isStretch 0 = .ok (.iload_n 1, 1) := by decide +kernel
theorem dX9_isStretch_1 : decode cX9_isStretch 1 = .ok (.i2l, 1) := by decide +kernel
theorem dX9_isStretch_2 : decode cX9_isStretch 2 = .ok (.lconst 0, 1) := by decide +kernel
theorem dX9_isStretch_3 : decode cX9_isStretch 3 = .ok (.aload_n 0, 1) := by decide +kernel
theorem dX9_isStretch_4 : decode cX9_isStretch 4 = .ok (.getfield 101, 3) := by decide +kernel
theorem dX9_isStretch_7 : decode cX9_isStretch 7 = .ok (.iconst 1, 1) := by decide +kernel
theorem dX9_isStretch_8 : decode cX9_isStretch 8 = .ok (.isub, 1) := by decide +kernel
theorem dX9_isStretch_9 : decode cX9_isStretch 9 = .ok (.i2l, 1) := by decide +kernel
theorem dX9_isStretch_10 : decode cX9_isStretch 10 = .ok (.invokestatic 104, 3) := by decide +kernel
theorem dX9_isStretch_13 : decode cX9_isStretch 13 = .ok (.ireturn, 1) := by decide +kernel
theorem dX9_stretch_0 : decode cX9_stretch 0 = .ok (.aload_n 0, 1) := by decide +kernel
theorem dX9_stretch_1 : decode cX9_stretch 1 = .ok (.iconst 0, 1) := by decide +kernel
theorem dX9_stretch_2 : decode cX9_stretch 2 = .ok (.putfield 1, 3) := by decide +kernel
theorem dX9_stretch_5 : decode cX9_stretch 5 = .ok (.iload_n 1, 1) := by decide +kernel
theorem dX9_stretch_6 : decode cX9_stretch 6 = .ok (.i2l, 1) := by decide +kernel
theorem dX9_stretch_7 : decode cX9_stretch 7 = .ok (.lconst 0, 1) := by decide +kernel
theorem dX9_stretch_8 : decode cX9_stretch 8 = .ok (.ldc2_w 108, 3) := by decide +kernel
theorem dX9_stretch_11 : decode cX9_stretch 11 = .ok (.invokestatic 104, 3) := by decide +kernel
theorem dX9_stretch_14 : decode cX9_stretch 14 = .ok (.ifCond .eq 15, 3) := by decide +kernel
theorem dX9_stretch_17 : decode cX9_stretch 17 = .ok (.iload_n 2, 1) := by decide +kernel
theorem dX9_stretch_18 : decode cX9_stretch 18 = .ok (.i2l, 1) := by decide +kernel
theorem dX9_stretch_19 : decode cX9_stretch 19 = .ok (.lconst 0, 1) := by decide +kernel
theorem dX9_stretch_20 : decode cX9_stretch 20 = .ok (.ldc2_w 110, 3) := by decide +kernel
theorem dX9_stretch_23 : decode cX9_stretch 23 = .ok (.invokestatic 104, 3) := by decide +kernel
theorem dX9_stretch_26 : decode cX9_stretch 26 = .ok (.ifCond .ne 6, 3) := by decide +kernel
theorem dX9_stretch_29 : decode cX9_stretch 29 = .ok (.ldc 112, 2) := by decide +kernel
theorem dX9_stretch_31 : decode cX9_stretch 31 = .ok (.ireturn, 1) := by decide +kernel
theorem dX9_stretch_32 : decode cX9_stretch 32 = .ok (.aload_n 0, 1) := by decide +kernel
theorem dX9_stretch_33 : decode cX9_stretch 33 = .ok (.getfield 101, 3) := by decide +kernel
theorem dX9_stretch_36 : decode cX9_stretch 36 = .ok (.bipush 10, 2) := by decide +kernel
theorem dX9_stretch_38 : decode cX9_stretch 38 = .ok (.if_icmp .ne 6, 3) := by decide +kernel
theorem dX9_stretch_41 : decode cX9_stretch 41 = .ok (.ldc 113, 2) := by decide +kernel
theorem dX9_stretch_43 : decode cX9_stretch 43 = .ok (.ireturn, 1) := by decide +kernel
theorem dX9_stretch_44 : decode cX9_stretch 44 = .ok (.aload_n 0, 1) := by decide +kernel
theorem dX9_stretch_45 : decode cX9_stretch 45 = .ok (.getfield 19, 3) := by decide +kernel
theorem dX9_stretch_48 : decode cX9_stretch 48 = .ok (.aload_n 0, 1) := by decide +kernel
theorem dX9_stretch_49 : decode cX9_stretch 49 = .ok (.getfield 101, 3) := by decide +kernel
theorem dX9_stretch_52 : decode cX9_stretch 52 = .ok (.iload_n 1, 1) := by decide +kernel
theorem dX9_stretch_53 : decode cX9_stretch 53 = .ok (.iastore, 1) := by decide +kernel
theorem dX9_stretch_54 : decode cX9_stretch 54 = .ok (.aload_n 0, 1) := by decide +kernel
theorem dX9_stretch_55 : decode cX9_stretch 55 = .ok (.getfield 23, 3) := by decide +kernel
theorem dX9_stretch_58 : decode cX9_stretch 58 = .ok (.aload_n 0, 1) := by decide +kernel
theorem dX9_stretch_59 : decode cX9_stretch 59 = .ok (.getfield 101, 3) := by decide +kernel
theorem dX9_stretch_62 : decode cX9_stretch 62 = .ok (.iload_n 2, 1) := by decide +kernel
theorem dX9_stretch_63 : decode cX9_stretch 63 = .ok (.iastore, 1) := by decide +kernel
theorem dX9_stretch_64 : decode cX9_stretch 64 = .ok (.aload_n 0, 1) := by decide +kernel
theorem dX9_stretch_65 : decode cX9_stretch 65 = .ok (.dup, 1) := by decide +kernel
theorem dX9_stretch_66 : decode cX9_stretch 66 = .ok (.getfield 101, 3) := by decide +kernel
theorem dX9_stretch_69 : decode cX9_stretch 69 = .ok (.iconst 1, 1) := by decide +kernel
theorem dX9_stretch_70 : decode cX9_stretch 70 = .ok (.iadd, 1) := by decide +kernel
theorem dX9_stretch_71 : decode cX9_stretch 71 = .ok (.putfield 101, 3) := by decide +kernel
theorem dX9_stretch_74 : decode cX9_stretch 74 = .ok (.aload_n 0, 1) := by decide +kernel
theorem dX9_stretch_75 : decode cX9_stretch 75 = .ok (.getfield 101, 3) := by decide +kernel
theorem dX9_stretch_78 : decode cX9_stretch 78 = .ok (.iconst 1, 1) := by decide +kernel
theorem dX9_stretch_79 : decode cX9_stretch 79 = .ok (.isub, 1) := by decide +kernel
theorem dX9_stretch_80 : decode cX9_stretch 80 = .ok (.ireturn, 1) := by decide +kernel
theorem dX9_standing_0 : decode cX9_standing 0 = .ok (.aload_n 0, 1) := by decide +kernel
theorem dX9_standing_1 : decode cX9_standing 1 = .ok (.getfield 26, 3) := by decide +kernel
theorem dX9_standing_4 : decode cX9_standing 4 = .ok (.iload_n 1, 1) := by decide +kernel
theorem dX9_standing_5 : decode cX9_standing 5 = .ok (.iaload, 1) := by decide +kernel
theorem dX9_standing_6 : decode cX9_standing 6 = .ok (.aload_n 0, 1) := by decide +kernel
theorem dX9_standing_7 : decode cX9_standing 7 = .ok (.getfield 29, 3) := by decide +kernel
theorem dX9_standing_10 : decode cX9_standing 10 = .ok (.iload_n 1, 1) := by decide +kernel
theorem dX9_standing_11 : decode cX9_standing 11 = .ok (.iaload, 1) := by decide +kernel
theorem dX9_standing_12 : decode cX9_standing 12 = .ok (.iadd, 1) := by decide +kernel
theorem dX9_standing_13 : decode cX9_standing 13 = .ok (.ireturn, 1) := by decide +kernel
theorem dX9_carry_0 : decode cX9_carry 0 = .ok (.aload_n 0, 1) := by decide +kernel
theorem dX9_carry_1 : decode cX9_carry 1 = .ok (.iconst 0, 1) := by decide +kernel
theorem dX9_carry_2 : decode cX9_carry 2 = .ok (.putfield 1, 3) := by decide +kernel
theorem dX9_carry_5 : decode cX9_carry 5 = .ok (.iload_n 1, 1) := by decide +kernel
theorem dX9_carry_6 : decode cX9_carry 6 = .ok (.ldc 114, 2) := by decide +kernel
theorem dX9_carry_8 : decode cX9_carry 8 = .ok (.if_icmp .eq 11, 3) := by decide +kernel
theorem dX9_carry_11 : decode cX9_carry 11 = .ok (.aload_n 0, 1) := by decide +kernel
theorem dX9_carry_12 : decode cX9_carry 12 = .ok (.iload_n 1, 1) := by decide +kernel
theorem dX9_carry_13 : decode cX9_carry 13 = .ok (.invokevirtual 115, 3) := by decide +kernel
theorem dX9_carry_16 : decode cX9_carry 16 = .ok (.ifCond .eq 34, 3) := by decide +kernel
theorem dX9_carry_19 : decode cX9_carry 19 = .ok (.iload_n 2, 1) := by decide +kernel
theorem dX9_carry_20 : decode cX9_carry 20 = .ok (.ldc 114, 2) := by decide +kernel
theorem dX9_carry_22 : decode cX9_carry 22 = .ok (.if_icmp .eq 11, 3) := by decide +kernel
theorem dX9_carry_25 : decode cX9_carry 25 = .ok (.aload_n 0, 1) := by decide +kernel
theorem dX9_carry_26 : decode cX9_carry 26 = .ok (.iload_n 2, 1) := by decide +kernel
theorem dX9_carry_27 : decode cX9_carry 27 = .ok (.invokevirtual 115, 3) := by decide +kernel
theorem dX9_carry_30 : decode cX9_carry 30 = .ok (.ifCond .eq 20, 3) := by decide +kernel
theorem dX9_carry_33 : decode cX9_carry 33 = .ok (.iload_n 1, 1) := by decide +kernel
theorem dX9_carry_34 : decode cX9_carry 34 = .ok (.iload_n 2, 1) := by decide +kernel
theorem dX9_carry_35 : decode cX9_carry 35 = .ok (.if_icmp .eq 15, 3) := by decide +kernel
theorem dX9_carry_38 : decode cX9_carry 38 = .ok (.iload_n 3, 1) := by decide +kernel
theorem dX9_carry_39 : decode cX9_carry 39 = .ok (.i2l, 1) := by decide +kernel
theorem dX9_carry_40 : decode cX9_carry 40 = .ok (.lconst 0, 1) := by decide +kernel
theorem dX9_carry_41 : decode cX9_carry 41 = .ok (.ldc2_w 119, 3) := by decide +kernel
theorem dX9_carry_44 : decode cX9_carry 44 = .ok (.invokestatic 104, 3) := by decide +kernel
theorem dX9_carry_47 : decode cX9_carry 47 = .ok (.ifCond .ne 6, 3) := by decide +kernel
theorem dX9_carry_50 : decode cX9_carry 50 = .ok (.ldc 112, 2) := by decide +kernel
theorem dX9_carry_52 : decode cX9_carry 52 = .ok (.ireturn, 1) := by decide +kernel
theorem dX9_carry_53 : decode cX9_carry 53 = .ok (.iload_n 1, 1) := by decide +kernel
theorem dX9_carry_54 : decode cX9_carry 54 = .ok (.ldc 114, 2) := by decide +kernel
theorem dX9_carry_56 : decode cX9_carry 56 = .ok (.if_icmp .ne 10, 3) := by decide +kernel
theorem dX9_carry_59 : decode cX9_carry 59 = .ok (.aload_n 0, 1) := by decide +kernel
theorem dX9_carry_60 : decode cX9_carry 60 = .ok (.getfield 98, 3) := by decide +kernel
theorem dX9_carry_63 : decode cX9_carry 63 = .ok (.goto 9, 3) := by decide +kernel
theorem dX9_carry_66 : decode cX9_carry 66 = .ok (.aload_n 0, 1) := by decide +kernel
theorem dX9_carry_67 : decode cX9_carry 67 = .ok (.getfield 26, 3) := by decide +kernel
theorem dX9_carry_70 : decode cX9_carry 70 = .ok (.iload_n 1, 1) := by decide +kernel
theorem dX9_carry_71 : decode cX9_carry 71 = .ok (.iaload, 1) := by decide +kernel
theorem dX9_carry_72 : decode cX9_carry 72 = .ok (.iload_n 3, 1) := by decide +kernel
theorem dX9_carry_73 : decode cX9_carry 73 = .ok (.if_icmp .ge 6, 3) := by decide +kernel
theorem dX9_carry_76 : decode cX9_carry 76 = .ok (.ldc 121, 2) := by decide +kernel
theorem dX9_carry_78 : decode cX9_carry 78 = .ok (.ireturn, 1) := by decide +kernel
theorem dX9_carry_79 : decode cX9_carry 79 = .ok (.iload_n 1, 1) := by decide +kernel
theorem dX9_carry_80 : decode cX9_carry 80 = .ok (.ldc 114, 2) := by decide +kernel
theorem dX9_carry_82 : decode cX9_carry 82 = .ok (.if_icmp .ne 16, 3) := by decide +kernel
theorem dX9_carry_85 : decode cX9_carry 85 = .ok (.aload_n 0, 1) := by decide +kernel
theorem dX9_carry_86 : decode cX9_carry 86 = .ok (.dup, 1) := by decide +kernel
theorem dX9_carry_87 : decode cX9_carry 87 = .ok (.getfield 98, 3) := by decide +kernel
theorem dX9_carry_90 : decode cX9_carry 90 = .ok (.iload_n 3, 1) := by decide +kernel
theorem dX9_carry_91 : decode cX9_carry 91 = .ok (.isub, 1) := by decide +kernel
theorem dX9_carry_92 : decode cX9_carry 92 = .ok (.putfield 98, 3) := by decide +kernel
theorem dX9_carry_95 : decode cX9_carry 95 = .ok (.goto 13, 3) := by decide +kernel
theorem dX9_carry_98 : decode cX9_carry 98 = .ok (.aload_n 0, 1) := by decide +kernel
theorem dX9_carry_99 : decode cX9_carry 99 = .ok (.getfield 26, 3) := by decide +kernel
theorem dX9_carry_102 : decode cX9_carry 102 = .ok (.iload_n 1, 1) := by decide +kernel
theorem dX9_carry_103 : decode cX9_carry 103 = .ok (.dup2, 1) := by decide +kernel
theorem dX9_carry_104 : decode cX9_carry 104 = .ok (.iaload, 1) := by decide +kernel
theorem dX9_carry_105 : decode cX9_carry 105 = .ok (.iload_n 3, 1) := by decide +kernel
theorem dX9_carry_106 : decode cX9_carry 106 = .ok (.isub, 1) := by decide +kernel
theorem dX9_carry_107 : decode cX9_carry 107 = .ok (.iastore, 1) := by decide +kernel
theorem dX9_carry_108 : decode cX9_carry 108 = .ok (.iload_n 2, 1) := by decide +kernel
theorem dX9_carry_109 : decode cX9_carry 109 = .ok (.ldc 114, 2) := by decide +kernel
theorem dX9_carry_111 : decode cX9_carry 111 = .ok (.if_icmp .ne 18, 3) := by decide +kernel
theorem dX9_carry_114 : decode cX9_carry 114 = .ok (.aload_n 0, 1) := by decide +kernel
theorem dX9_carry_115 : decode cX9_carry 115 = .ok (.dup, 1) := by decide +kernel
theorem dX9_carry_116 : decode cX9_carry 116 = .ok (.getfield 98, 3) := by decide +kernel
theorem dX9_carry_119 : decode cX9_carry 119 = .ok (.iload_n 3, 1) := by decide +kernel
theorem dX9_carry_120 : decode cX9_carry 120 = .ok (.iadd, 1) := by decide +kernel
theorem dX9_carry_121 : decode cX9_carry 121 = .ok (.putfield 98, 3) := by decide +kernel
theorem dX9_carry_124 : decode cX9_carry 124 = .ok (.aload_n 0, 1) := by decide +kernel
theorem dX9_carry_125 : decode cX9_carry 125 = .ok (.getfield 98, 3) := by decide +kernel
theorem dX9_carry_128 : decode cX9_carry 128 = .ok (.ireturn, 1) := by decide +kernel
theorem dX9_carry_129 : decode cX9_carry 129 = .ok (.aload_n 0, 1) := by decide +kernel
theorem dX9_carry_130 : decode cX9_carry 130 = .ok (.getfield 26, 3) := by decide +kernel
theorem dX9_carry_133 : decode cX9_carry 133 = .ok (.iload_n 2, 1) := by decide +kernel
theorem dX9_carry_134 : decode cX9_carry 134 = .ok (.dup2, 1) := by decide +kernel
theorem dX9_carry_135 : decode cX9_carry 135 = .ok (.iaload, 1) := by decide +kernel
theorem dX9_carry_136 : decode cX9_carry 136 = .ok (.iload_n 3, 1) := by decide +kernel
theorem dX9_carry_137 : decode cX9_carry 137 = .ok (.iadd, 1) := by decide +kernel
theorem dX9_carry_138 : decode cX9_carry 138 = .ok (.iastore, 1) := by decide +kernel
theorem dX9_carry_139 : decode cX9_carry 139 = .ok (.aload_n 0, 1) := by decide +kernel
theorem dX9_carry_140 : decode cX9_carry 140 = .ok (.iload_n 2, 1) := by decide +kernel
theorem dX9_carry_141 : decode cX9_carry 141 = .ok (.invokevirtual 122, 3) := by decide +kernel
theorem dX9_carry_144 : decode cX9_carry 144 = .ok (.ireturn, 1) := by decide +kernel
theorem dX9_told_0 : decode cX9_told 0 = .ok (.aload_n 0, 1) := by decide +kernel
theorem dX9_told_1 : decode cX9_told 1 = .ok (.iconst 0, 1) := by decide +kernel
theorem dX9_told_2 : decode cX9_told 2 = .ok (.putfield 1, 3) := by decide +kernel
theorem dX9_told_5 : decode cX9_told 5 = .ok (.aload_n 0, 1) := by decide +kernel
theorem dX9_told_6 : decode cX9_told 6 = .ok (.iload_n 1, 1) := by decide +kernel
theorem dX9_told_7 : decode cX9_told 7 = .ok (.invokevirtual 115, 3) := by decide +kernel
theorem dX9_told_10 : decode cX9_told 10 = .ok (.ifCond .eq 15, 3) := by decide +kernel
theorem dX9_told_13 : decode cX9_told 13 = .ok (.iload_n 2, 1) := by decide +kernel
theorem dX9_told_14 : decode cX9_told 14 = .ok (.i2l, 1) := by decide +kernel
theorem dX9_told_15 : decode cX9_told 15 = .ok (.lconst 0, 1) := by decide +kernel
theorem dX9_told_16 : decode cX9_told 16 = .ok (.ldc2_w 126, 3) := by decide +kernel
theorem dX9_told_19 : decode cX9_told 19 = .ok (.invokestatic 104, 3) := by decide +kernel
theorem dX9_told_22 : decode cX9_told 22 = .ok (.ifCond .ne 6, 3) := by decide +kernel
theorem dX9_told_25 : decode cX9_told 25 = .ok (.ldc 112, 2) := by decide +kernel
theorem dX9_told_27 : decode cX9_told 27 = .ok (.ireturn, 1) := by decide +kernel
theorem dX9_told_28 : decode cX9_told 28 = .ok (.iload_n 2, 1) := by decide +kernel
theorem dX9_told_29 : decode cX9_told 29 = .ok (.ifCond .ne 12, 3) := by decide +kernel
theorem dX9_told_32 : decode cX9_told 32 = .ok (.aload_n 0, 1) := by decide +kernel
theorem dX9_told_33 : decode cX9_told 33 = .ok (.getfield 19, 3) := by decide +kernel
theorem dX9_told_36 : decode cX9_told 36 = .ok (.iload_n 1, 1) := by decide +kernel
theorem dX9_told_37 : decode cX9_told 37 = .ok (.iaload, 1) := by decide +kernel
theorem dX9_told_38 : decode cX9_told 38 = .ok (.goto 64, 3) := by decide +kernel
theorem dX9_told_41 : decode cX9_told 41 = .ok (.iload_n 2, 1) := by decide +kernel
theorem dX9_told_42 : decode cX9_told 42 = .ok (.iconst 1, 1) := by decide +kernel
theorem dX9_told_43 : decode cX9_told 43 = .ok (.if_icmp .ne 12, 3) := by decide +kernel
theorem dX9_told_46 : decode cX9_told 46 = .ok (.aload_n 0, 1) := by decide +kernel
theorem dX9_told_47 : decode cX9_told 47 = .ok (.getfield 23, 3) := by decide +kernel
theorem dX9_told_50 : decode cX9_told 50 = .ok (.iload_n 1, 1) := by decide +kernel
theorem dX9_told_51 : decode cX9_told 51 = .ok (.iaload, 1) := by decide +kernel
theorem dX9_told_52 : decode cX9_told 52 = .ok (.goto 50, 3) := by decide +kernel
theorem dX9_told_55 : decode cX9_told 55 = .ok (.iload_n 2, 1) := by decide +kernel
theorem dX9_told_56 : decode cX9_told 56 = .ok (.iconst 2, 1) := by decide +kernel
theorem dX9_told_57 : decode cX9_told 57 = .ok (.if_icmp .ne 11, 3) := by decide +kernel
theorem dX9_told_60 : decode cX9_told 60 = .ok (.aload_n 0, 1) := by decide +kernel
theorem dX9_told_61 : decode cX9_told 61 = .ok (.iload_n 1, 1) := by decide +kernel
theorem dX9_told_62 : decode cX9_told 62 = .ok (.invokevirtual 122, 3) := by decide +kernel
theorem dX9_told_65 : decode cX9_told 65 = .ok (.goto 37, 3) := by decide +kernel
theorem dX9_told_68 : decode cX9_told 68 = .ok (.iload_n 2, 1) := by decide +kernel
theorem dX9_told_69 : decode cX9_told 69 = .ok (.iconst 3, 1) := by decide +kernel
theorem dX9_told_70 : decode cX9_told 70 = .ok (.if_icmp .ne 12, 3) := by decide +kernel
theorem dX9_told_73 : decode cX9_told 73 = .ok (.aload_n 0, 1) := by decide +kernel
theorem dX9_told_74 : decode cX9_told 74 = .ok (.getfield 26, 3) := by decide +kernel
theorem dX9_told_77 : decode cX9_told 77 = .ok (.iload_n 1, 1) := by decide +kernel
theorem dX9_told_78 : decode cX9_told 78 = .ok (.iaload, 1) := by decide +kernel
theorem dX9_told_79 : decode cX9_told 79 = .ok (.goto 23, 3) := by decide +kernel
theorem dX9_told_82 : decode cX9_told 82 = .ok (.iload_n 2, 1) := by decide +kernel
theorem dX9_told_83 : decode cX9_told 83 = .ok (.iconst 4, 1) := by decide +kernel
theorem dX9_told_84 : decode cX9_told 84 = .ok (.if_icmp .ne 12, 3) := by decide +kernel
theorem dX9_told_87 : decode cX9_told 87 = .ok (.aload_n 0, 1) := by decide +kernel
theorem dX9_told_88 : decode cX9_told 88 = .ok (.getfield 32, 3) := by decide +kernel
theorem dX9_told_91 : decode cX9_told 91 = .ok (.iload_n 1, 1) := by decide +kernel
theorem dX9_told_92 : decode cX9_told 92 = .ok (.iaload, 1) := by decide +kernel
theorem dX9_told_93 : decode cX9_told 93 = .ok (.goto 9, 3) := by decide +kernel
theorem dX9_told_96 : decode cX9_told 96 = .ok (.aload_n 0, 1) := by decide +kernel
theorem dX9_told_97 : decode cX9_told 97 = .ok (.getfield 35, 3) := by decide +kernel
theorem dX9_told_100 : decode cX9_told 100 = .ok (.iload_n 1, 1) := by decide +kernel
theorem dX9_told_101 : decode cX9_told 101 = .ok (.iaload, 1) := by decide +kernel
theorem dX9_told_102 : decode cX9_told 102 = .ok (.ireturn, 1) := by decide +kernel
theorem dX9_rule_0 : decode cX9_rule 0 = .ok (.aload_n 0, 1) := by decide +kernel
theorem dX9_rule_1 : decode cX9_rule 1 = .ok (.iconst 0, 1) := by decide +kernel
theorem dX9_rule_2 : decode cX9_rule 2 = .ok (.putfield 1, 3) := by decide +kernel
theorem dX9_rule_5 : decode cX9_rule 5 = .ok (.iload_n 1, 1) := by decide +kernel
theorem dX9_rule_6 : decode cX9_rule 6 = .ok (.i2l, 1) := by decide +kernel
theorem dX9_rule_7 : decode cX9_rule 7 = .ok (.lconst 0, 1) := by decide +kernel
theorem dX9_rule_8 : decode cX9_rule 8 = .ok (.lconst 1, 1) := by decide +kernel
theorem dX9_rule_9 : decode cX9_rule 9 = .ok (.invokestatic 104, 3) := by decide +kernel
theorem dX9_rule_12 : decode cX9_rule 12 = .ok (.ifCond .eq 18, 3) := by decide +kernel
theorem dX9_rule_15 : decode cX9_rule 15 = .ok (.iload_n 2, 1) := by decide +kernel
theorem dX9_rule_16 : decode cX9_rule 16 = .ok (.i2l, 1) := by decide +kernel
theorem dX9_rule_17 : decode cX9_rule 17 = .ok (.iconst 1, 1) := by decide +kernel
theorem dX9_rule_18 : decode cX9_rule 18 = .ok (.iload_n 1, 1) := by decide +kernel
theorem dX9_rule_19 : decode cX9_rule 19 = .ok (.isub, 1) := by decide +kernel
theorem dX9_rule_20 : decode cX9_rule 20 = .ok (.i2l, 1) := by decide +kernel
theorem dX9_rule_21 : decode cX9_rule 21 = .ok (.ldc2_w 128, 3) := by decide +kernel
theorem dX9_rule_24 : decode cX9_rule 24 = .ok (.invokestatic 104, 3) := by decide +kernel
theorem dX9_rule_27 : decode cX9_rule 27 = .ok (.ifCond .ne 6, 3) := by decide +kernel
theorem dX9_rule_30 : decode cX9_rule 30 = .ok (.ldc 112, 2) := by decide +kernel
theorem dX9_rule_32 : decode cX9_rule 32 = .ok (.ireturn, 1) := by decide +kernel
theorem dX9_rule_33 : decode cX9_rule 33 = .ok (.iload_n 1, 1) := by decide +kernel
theorem dX9_rule_34 : decode cX9_rule 34 = .ok (.ifCond .ne 10, 3) := by decide +kernel
theorem dX9_rule_37 : decode cX9_rule 37 = .ok (.aload_n 0, 1) := by decide +kernel
theorem dX9_rule_38 : decode cX9_rule 38 = .ok (.getfield 13, 3) := by decide +kernel
theorem dX9_rule_41 : decode cX9_rule 41 = .ok (.goto 7, 3) := by decide +kernel
theorem dX9_rule_44 : decode cX9_rule 44 = .ok (.aload_n 0, 1) := by decide +kernel
theorem dX9_rule_45 : decode cX9_rule 45 = .ok (.getfield 16, 3) := by decide +kernel
theorem dX9_rule_48 : decode cX9_rule 48 = .ok (.istore_n 3, 1) := by decide +kernel
theorem dX9_rule_49 : decode cX9_rule 49 = .ok (.aload_n 0, 1) := by decide +kernel
theorem dX9_rule_50 : decode cX9_rule 50 = .ok (.iload_n 1, 1) := by decide +kernel
theorem dX9_rule_51 : decode cX9_rule 51 = .ok (.ifCond .ne 7, 3) := by decide +kernel
theorem dX9_rule_54 : decode cX9_rule 54 = .ok (.iload_n 2, 1) := by decide +kernel
theorem dX9_rule_55 : decode cX9_rule 55 = .ok (.goto 7, 3) := by decide +kernel
theorem dX9_rule_58 : decode cX9_rule 58 = .ok (.aload_n 0, 1) := by decide +kernel
theorem dX9_rule_59 : decode cX9_rule 59 = .ok (.getfield 13, 3) := by decide +kernel
theorem dX9_rule_62 : decode cX9_rule 62 = .ok (.putfield 13, 3) := by decide +kernel
theorem dX9_rule_65 : decode cX9_rule 65 = .ok (.aload_n 0, 1) := by decide +kernel
theorem dX9_rule_66 : decode cX9_rule 66 = .ok (.iload_n 1, 1) := by decide +kernel
theorem dX9_rule_67 : decode cX9_rule 67 = .ok (.iconst 1, 1) := by decide +kernel
theorem dX9_rule_68 : decode cX9_rule 68 = .ok (.if_icmp .ne 7, 3) := by decide +kernel
theorem dX9_rule_71 : decode cX9_rule 71 = .ok (.iload_n 2, 1) := by decide +kernel
theorem dX9_rule_72 : decode cX9_rule 72 = .ok (.goto 7, 3) := by decide +kernel
theorem dX9_rule_75 : decode cX9_rule 75 = .ok (.aload_n 0, 1) := by decide +kernel
theorem dX9_rule_76 : decode cX9_rule 76 = .ok (.getfield 16, 3) := by decide +kernel
theorem dX9_rule_79 : decode cX9_rule 79 = .ok (.putfield 16, 3) := by decide +kernel
theorem dX9_rule_82 : decode cX9_rule 82 = .ok (.iload_n 3, 1) := by decide +kernel
theorem dX9_rule_83 : decode cX9_rule 83 = .ok (.ireturn, 1) := by decide +kernel
theorem dX9_mend_0 : decode cX9_mend 0 = .ok (.aload_n 0, 1) := by decide +kernel
theorem dX9_mend_1 : decode cX9_mend 1 = .ok (.iconst 0, 1) := by decide +kernel
theorem dX9_mend_2 : decode cX9_mend 2 = .ok (.putfield 1, 3) := by decide +kernel
theorem dX9_mend_5 : decode cX9_mend 5 = .ok (.iload_n 1, 1) := by decide +kernel
theorem dX9_mend_6 : decode cX9_mend 6 = .ok (.i2l, 1) := by decide +kernel
theorem dX9_mend_7 : decode cX9_mend 7 = .ok (.lconst 0, 1) := by decide +kernel
theorem dX9_mend_8 : decode cX9_mend 8 = .ok (.ldc2_w 119, 3) := by decide +kernel
theorem dX9_mend_11 : decode cX9_mend 11 = .ok (.invokestatic 104, 3) := by decide +kernel
theorem dX9_mend_14 : decode cX9_mend 14 = .ok (.ifCond .ne 6, 3) := by decide +kernel
theorem dX9_mend_17 : decode cX9_mend 17 = .ok (.ldc 112, 2) := by decide +kernel
theorem dX9_mend_19 : decode cX9_mend 19 = .ok (.ireturn, 1) := by decide +kernel
theorem dX9_mend_20 : decode cX9_mend 20 = .ok (.aload_n 0, 1) := by decide +kernel
theorem dX9_mend_21 : decode cX9_mend 21 = .ok (.getfield 130, 3) := by decide +kernel
theorem dX9_mend_24 : decode cX9_mend 24 = .ok (.iload_n 1, 1) := by decide +kernel
theorem dX9_mend_25 : decode cX9_mend 25 = .ok (.if_icmp .ge 6, 3) := by decide +kernel
theorem dX9_mend_28 : decode cX9_mend 28 = .ok (.ldc 121, 2) := by decide +kernel
theorem dX9_mend_30 : decode cX9_mend 30 = .ok (.ireturn, 1) := by decide +kernel
theorem dX9_mend_31 : decode cX9_mend 31 = .ok (.aload_n 0, 1) := by decide +kernel
theorem dX9_mend_32 : decode cX9_mend 32 = .ok (.dup, 1) := by decide +kernel
theorem dX9_mend_33 : decode cX9_mend 33 = .ok (.getfield 130, 3) := by decide +kernel
theorem dX9_mend_36 : decode cX9_mend 36 = .ok (.iload_n 1, 1) := by decide +kernel
theorem dX9_mend_37 : decode cX9_mend 37 = .ok (.isub, 1) := by decide +kernel
theorem dX9_mend_38 : decode cX9_mend 38 = .ok (.putfield 130, 3) := by decide +kernel
theorem dX9_mend_41 : decode cX9_mend 41 = .ok (.aload_n 0, 1) := by decide +kernel
theorem dX9_mend_42 : decode cX9_mend 42 = .ok (.dup, 1) := by decide +kernel
theorem dX9_mend_43 : decode cX9_mend 43 = .ok (.getfield 98, 3) := by decide +kernel
theorem dX9_mend_46 : decode cX9_mend 46 = .ok (.iload_n 1, 1) := by decide +kernel
theorem dX9_mend_47 : decode cX9_mend 47 = .ok (.iadd, 1) := by decide +kernel
theorem dX9_mend_48 : decode cX9_mend 48 = .ok (.putfield 98, 3) := by decide +kernel
theorem dX9_mend_51 : decode cX9_mend 51 = .ok (.aload_n 0, 1) := by decide +kernel
theorem dX9_mend_52 : decode cX9_mend 52 = .ok (.getfield 130, 3) := by decide +kernel
theorem dX9_mend_55 : decode cX9_mend 55 = .ok (.ireturn, 1) := by decide +kernel
theorem dX9_hire_0 : decode cX9_hire 0 = .ok (.aload_n 0, 1) := by decide +kernel
theorem dX9_hire_1 : decode cX9_hire 1 = .ok (.iconst 0, 1) := by decide +kernel
theorem dX9_hire_2 : decode cX9_hire 2 = .ok (.putfield 1, 3) := by decide +kernel
theorem dX9_hire_5 : decode cX9_hire 5 = .ok (.aload_n 0, 1) := by decide +kernel
theorem dX9_hire_6 : decode cX9_hire 6 = .ok (.iload_n 1, 1) := by decide +kernel
theorem dX9_hire_7 : decode cX9_hire 7 = .ok (.invokevirtual 115, 3) := by decide +kernel
theorem dX9_hire_10 : decode cX9_hire 10 = .ok (.ifCond .eq 27, 3) := by decide +kernel
theorem dX9_hire_13 : decode cX9_hire 13 = .ok (.iload_n 2, 1) := by decide +kernel
theorem dX9_hire_14 : decode cX9_hire 14 = .ok (.i2l, 1) := by decide +kernel
theorem dX9_hire_15 : decode cX9_hire 15 = .ok (.lconst 1, 1) := by decide +kernel
theorem dX9_hire_16 : decode cX9_hire 16 = .ok (.ldc2_w 128, 3) := by decide +kernel
theorem dX9_hire_19 : decode cX9_hire 19 = .ok (.invokestatic 104, 3) := by decide +kernel
theorem dX9_hire_22 : decode cX9_hire 22 = .ok (.ifCond .eq 15, 3) := by decide +kernel
theorem dX9_hire_25 : decode cX9_hire 25 = .ok (.iload_n 3, 1) := by decide +kernel
theorem dX9_hire_26 : decode cX9_hire 26 = .ok (.i2l, 1) := by decide +kernel
theorem dX9_hire_27 : decode cX9_hire 27 = .ok (.lconst 1, 1) := by decide +kernel
theorem dX9_hire_28 : decode cX9_hire 28 = .ok (.ldc2_w 133, 3) := by decide +kernel
theorem dX9_hire_31 : decode cX9_hire 31 = .ok (.invokestatic 104, 3) := by decide +kernel
theorem dX9_hire_34 : decode cX9_hire 34 = .ok (.ifCond .ne 6, 3) := by decide +kernel
theorem dX9_hire_37 : decode cX9_hire 37 = .ok (.ldc 112, 2) := by decide +kernel
theorem dX9_hire_39 : decode cX9_hire 39 = .ok (.ireturn, 1) := by decide +kernel
theorem dX9_hire_40 : decode cX9_hire 40 = .ok (.aload_n 0, 1) := by decide +kernel
theorem dX9_hire_41 : decode cX9_hire 41 = .ok (.getfield 135, 3) := by decide +kernel
theorem dX9_hire_44 : decode cX9_hire 44 = .ok (.aload_n 0, 1) := by decide +kernel
theorem dX9_hire_45 : decode cX9_hire 45 = .ok (.getfield 16, 3) := by decide +kernel
theorem dX9_hire_48 : decode cX9_hire 48 = .ok (.if_icmp .le 6, 3) := by decide +kernel
theorem dX9_hire_51 : decode cX9_hire 51 = .ok (.ldc 121, 2) := by decide +kernel
theorem dX9_hire_53 : decode cX9_hire 53 = .ok (.ireturn, 1) := by decide +kernel
theorem dX9_hire_54 : decode cX9_hire 54 = .ok (.aload_n 0, 1) := by decide +kernel
theorem dX9_hire_55 : decode cX9_hire 55 = .ok (.getfield 138, 3) := by decide +kernel
theorem dX9_hire_58 : decode cX9_hire 58 = .ok (.bipush 30, 2) := by decide +kernel
theorem dX9_hire_60 : decode cX9_hire 60 = .ok (.if_icmp .eq 13, 3) := by decide +kernel
theorem dX9_hire_63 : decode cX9_hire 63 = .ok (.aload_n 0, 1) := by decide +kernel
theorem dX9_hire_64 : decode cX9_hire 64 = .ok (.getfield 26, 3) := by decide +kernel
theorem dX9_hire_67 : decode cX9_hire 67 = .ok (.iload_n 1, 1) := by decide +kernel
theorem dX9_hire_68 : decode cX9_hire 68 = .ok (.iaload, 1) := by decide +kernel
theorem dX9_hire_69 : decode cX9_hire 69 = .ok (.iload_n 2, 1) := by decide +kernel
theorem dX9_hire_70 : decode cX9_hire 70 = .ok (.if_icmp .ge 6, 3) := by decide +kernel
theorem dX9_hire_73 : decode cX9_hire 73 = .ok (.ldc 113, 2) := by decide +kernel
theorem dX9_hire_75 : decode cX9_hire 75 = .ok (.ireturn, 1) := by decide +kernel
theorem dX9_hire_76 : decode cX9_hire 76 = .ok (.aload_n 0, 1) := by decide +kernel
theorem dX9_hire_77 : decode cX9_hire 77 = .ok (.getfield 41, 3) := by decide +kernel
theorem dX9_hire_80 : decode cX9_hire 80 = .ok (.aload_n 0, 1) := by decide +kernel
theorem dX9_hire_81 : decode cX9_hire 81 = .ok (.getfield 138, 3) := by decide +kernel
theorem dX9_hire_84 : decode cX9_hire 84 = .ok (.aload_n 0, 1) := by decide +kernel
theorem dX9_hire_85 : decode cX9_hire 85 = .ok (.getfield 141, 3) := by decide +kernel
theorem dX9_hire_88 : decode cX9_hire 88 = .ok (.iastore, 1) := by decide +kernel
theorem dX9_hire_89 : decode cX9_hire 89 = .ok (.aload_n 0, 1) := by decide +kernel
theorem dX9_hire_90 : decode cX9_hire 90 = .ok (.getfield 44, 3) := by decide +kernel
theorem dX9_hire_93 : decode cX9_hire 93 = .ok (.aload_n 0, 1) := by decide +kernel
theorem dX9_hire_94 : decode cX9_hire 94 = .ok (.getfield 138, 3) := by decide +kernel
theorem dX9_hire_97 : decode cX9_hire 97 = .ok (.iload_n 1, 1) := by decide +kernel
theorem dX9_hire_98 : decode cX9_hire 98 = .ok (.iastore, 1) := by decide +kernel
theorem dX9_hire_99 : decode cX9_hire 99 = .ok (.aload_n 0, 1) := by decide +kernel
theorem dX9_hire_100 : decode cX9_hire 100 = .ok (.getfield 47, 3) := by decide +kernel
theorem dX9_hire_103 : decode cX9_hire 103 = .ok (.aload_n 0, 1) := by decide +kernel
theorem dX9_hire_104 : decode cX9_hire 104 = .ok (.getfield 138, 3) := by decide +kernel
theorem dX9_hire_107 : decode cX9_hire 107 = .ok (.iload_n 2, 1) := by decide +kernel
theorem dX9_hire_108 : decode cX9_hire 108 = .ok (.iastore, 1) := by decide +kernel
theorem dX9_hire_109 : decode cX9_hire 109 = .ok (.aload_n 0, 1) := by decide +kernel
theorem dX9_hire_110 : decode cX9_hire 110 = .ok (.getfield 50, 3) := by decide +kernel
theorem dX9_hire_113 : decode cX9_hire 113 = .ok (.aload_n 0, 1) := by decide +kernel
theorem dX9_hire_114 : decode cX9_hire 114 = .ok (.getfield 138, 3) := by decide +kernel
theorem dX9_hire_117 : decode cX9_hire 117 = .ok (.iload_n 3, 1) := by decide +kernel
theorem dX9_hire_118 : decode cX9_hire 118 = .ok (.iastore, 1) := by decide +kernel
theorem dX9_hire_119 : decode cX9_hire 119 = .ok (.aload_n 0, 1) := by decide +kernel
theorem dX9_hire_120 : decode cX9_hire 120 = .ok (.getfield 53, 3) := by decide +kernel
theorem dX9_hire_123 : decode cX9_hire 123 = .ok (.aload_n 0, 1) := by decide +kernel
theorem dX9_hire_124 : decode cX9_hire 124 = .ok (.getfield 138, 3) := by decide +kernel
theorem dX9_hire_127 : decode cX9_hire 127 = .ok (.aload_n 0, 1) := by decide +kernel
theorem dX9_hire_128 : decode cX9_hire 128 = .ok (.getfield 13, 3) := by decide +kernel
theorem dX9_hire_131 : decode cX9_hire 131 = .ok (.iload_n 2, 1) := by decide +kernel
theorem dX9_hire_132 : decode cX9_hire 132 = .ok (.imul, 1) := by decide +kernel
theorem dX9_hire_133 : decode cX9_hire 133 = .ok (.iload_n 3, 1) := by decide +kernel
theorem dX9_hire_134 : decode cX9_hire 134 = .ok (.imul, 1) := by decide +kernel
theorem dX9_hire_135 : decode cX9_hire 135 = .ok (.iastore, 1) := by decide +kernel
theorem dX9_hire_136 : decode cX9_hire 136 = .ok (.aload_n 0, 1) := by decide +kernel
theorem dX9_hire_137 : decode cX9_hire 137 = .ok (.getfield 56, 3) := by decide +kernel
theorem dX9_hire_140 : decode cX9_hire 140 = .ok (.aload_n 0, 1) := by decide +kernel
theorem dX9_hire_141 : decode cX9_hire 141 = .ok (.getfield 138, 3) := by decide +kernel
theorem dX9_hire_144 : decode cX9_hire 144 = .ok (.aload_n 0, 1) := by decide +kernel
theorem dX9_hire_145 : decode cX9_hire 145 = .ok (.getfield 13, 3) := by decide +kernel
theorem dX9_hire_148 : decode cX9_hire 148 = .ok (.iastore, 1) := by decide +kernel
theorem dX9_hire_149 : decode cX9_hire 149 = .ok (.aload_n 0, 1) := by decide +kernel
theorem dX9_hire_150 : decode cX9_hire 150 = .ok (.getfield 59, 3) := by decide +kernel
theorem dX9_hire_153 : decode cX9_hire 153 = .ok (.aload_n 0, 1) := by decide +kernel
theorem dX9_hire_154 : decode cX9_hire 154 = .ok (.getfield 138, 3) := by decide +kernel
theorem dX9_hire_157 : decode cX9_hire 157 = .ok (.aload_n 0, 1) := by decide +kernel
theorem dX9_hire_158 : decode cX9_hire 158 = .ok (.getfield 23, 3) := by decide +kernel
theorem dX9_hire_161 : decode cX9_hire 161 = .ok (.iload_n 1, 1) := by decide +kernel
theorem dX9_hire_162 : decode cX9_hire 162 = .ok (.iaload, 1) := by decide +kernel
theorem dX9_hire_163 : decode cX9_hire 163 = .ok (.iastore, 1) := by decide +kernel
theorem dX9_hire_164 : decode cX9_hire 164 = .ok (.aload_n 0, 1) := by decide +kernel
theorem dX9_hire_165 : decode cX9_hire 165 = .ok (.getfield 26, 3) := by decide +kernel
theorem dX9_hire_168 : decode cX9_hire 168 = .ok (.iload_n 1, 1) := by decide +kernel
theorem dX9_hire_169 : decode cX9_hire 169 = .ok (.dup2, 1) := by decide +kernel
theorem dX9_hire_170 : decode cX9_hire 170 = .ok (.iaload, 1) := by decide +kernel
theorem dX9_hire_171 : decode cX9_hire 171 = .ok (.iload_n 2, 1) := by decide +kernel
theorem dX9_hire_172 : decode cX9_hire 172 = .ok (.isub, 1) := by decide +kernel
theorem dX9_hire_173 : decode cX9_hire 173 = .ok (.iastore, 1) := by decide +kernel
theorem dX9_hire_174 : decode cX9_hire 174 = .ok (.aload_n 0, 1) := by decide +kernel
theorem dX9_hire_175 : decode cX9_hire 175 = .ok (.getfield 29, 3) := by decide +kernel
theorem dX9_hire_178 : decode cX9_hire 178 = .ok (.iload_n 1, 1) := by decide +kernel
theorem dX9_hire_179 : decode cX9_hire 179 = .ok (.dup2, 1) := by decide +kernel
theorem dX9_hire_180 : decode cX9_hire 180 = .ok (.iaload, 1) := by decide +kernel
theorem dX9_hire_181 : decode cX9_hire 181 = .ok (.iload_n 2, 1) := by decide +kernel
theorem dX9_hire_182 : decode cX9_hire 182 = .ok (.iadd, 1) := by decide +kernel
theorem dX9_hire_183 : decode cX9_hire 183 = .ok (.iastore, 1) := by decide +kernel
theorem dX9_hire_184 : decode cX9_hire 184 = .ok (.aload_n 0, 1) := by decide +kernel
theorem dX9_hire_185 : decode cX9_hire 185 = .ok (.dup, 1) := by decide +kernel
theorem dX9_hire_186 : decode cX9_hire 186 = .ok (.getfield 144, 3) := by decide +kernel
theorem dX9_hire_189 : decode cX9_hire 189 = .ok (.aload_n 0, 1) := by decide +kernel
theorem dX9_hire_190 : decode cX9_hire 190 = .ok (.getfield 53, 3) := by decide +kernel
theorem dX9_hire_193 : decode cX9_hire 193 = .ok (.aload_n 0, 1) := by decide +kernel
theorem dX9_hire_194 : decode cX9_hire 194 = .ok (.getfield 138, 3) := by decide +kernel
theorem dX9_hire_197 : decode cX9_hire 197 = .ok (.iaload, 1) := by decide +kernel
theorem dX9_hire_198 : decode cX9_hire 198 = .ok (.iadd, 1) := by decide +kernel
theorem dX9_hire_199 : decode cX9_hire 199 = .ok (.putfield 144, 3) := by decide +kernel
theorem dX9_hire_202 : decode cX9_hire 202 = .ok (.aload_n 0, 1) := by decide +kernel
theorem dX9_hire_203 : decode cX9_hire 203 = .ok (.dup, 1) := by decide +kernel
theorem dX9_hire_204 : decode cX9_hire 204 = .ok (.getfield 138, 3) := by decide +kernel
theorem dX9_hire_207 : decode cX9_hire 207 = .ok (.iconst 1, 1) := by decide +kernel
theorem dX9_hire_208 : decode cX9_hire 208 = .ok (.iadd, 1) := by decide +kernel
theorem dX9_hire_209 : decode cX9_hire 209 = .ok (.putfield 138, 3) := by decide +kernel
theorem dX9_hire_212 : decode cX9_hire 212 = .ok (.aload_n 0, 1) := by decide +kernel
theorem dX9_hire_213 : decode cX9_hire 213 = .ok (.dup, 1) := by decide +kernel
theorem dX9_hire_214 : decode cX9_hire 214 = .ok (.getfield 141, 3) := by decide +kernel
theorem dX9_hire_217 : decode cX9_hire 217 = .ok (.iconst 1, 1) := by decide +kernel
theorem dX9_hire_218 : decode cX9_hire 218 = .ok (.iadd, 1) := by decide +kernel
theorem dX9_hire_219 : decode cX9_hire 219 = .ok (.putfield 141, 3) := by decide +kernel
theorem dX9_hire_222 : decode cX9_hire 222 = .ok (.aload_n 0, 1) := by decide +kernel
theorem dX9_hire_223 : decode cX9_hire 223 = .ok (.getfield 141, 3) := by decide +kernel
theorem dX9_hire_226 : decode cX9_hire 226 = .ok (.iconst 1, 1) := by decide +kernel
theorem dX9_hire_227 : decode cX9_hire 227 = .ok (.isub, 1) := by decide +kernel
theorem dX9_hire_228 : decode cX9_hire 228 = .ok (.ireturn, 1) := by decide +kernel
theorem dX9_slotOf_0 : decode cX9_slotOf 0 = .ok (.ldc 114, 2) := by decide +kernel
theorem dX9_slotOf_2 : decode cX9_slotOf 2 = .ok (.istore_n 2, 1) := by decide +kernel
theorem dX9_slotOf_3 : decode cX9_slotOf 3 = .ok (.iconst 0, 1) := by decide +kernel
theorem dX9_slotOf_4 : decode cX9_slotOf 4 = .ok (.istore_n 3, 1) := by decide +kernel
theorem dX9_slotOf_5 : decode cX9_slotOf 5 = .ok (.iload_n 3, 1) := by decide +kernel
theorem dX9_slotOf_6 : decode cX9_slotOf 6 = .ok (.aload_n 0, 1) := by decide +kernel
theorem dX9_slotOf_7 : decode cX9_slotOf 7 = .ok (.getfield 138, 3) := by decide +kernel
theorem dX9_slotOf_10 : decode cX9_slotOf 10 = .ok (.if_icmp .ge 25, 3) := by decide +kernel
theorem dX9_slotOf_13 : decode cX9_slotOf 13 = .ok (.aload_n 0, 1) := by decide +kernel
theorem dX9_slotOf_14 : decode cX9_slotOf 14 = .ok (.getfield 41, 3) := by decide +kernel
theorem dX9_slotOf_17 : decode cX9_slotOf 17 = .ok (.iload_n 3, 1) := by decide +kernel
theorem dX9_slotOf_18 : decode cX9_slotOf 18 = .ok (.iaload, 1) := by decide +kernel
theorem dX9_slotOf_19 : decode cX9_slotOf 19 = .ok (.iload_n 1, 1) := by decide +kernel
theorem dX9_slotOf_20 : decode cX9_slotOf 20 = .ok (.if_icmp .ne 7, 3) := by decide +kernel
theorem dX9_slotOf_23 : decode cX9_slotOf 23 = .ok (.iload_n 3, 1) := by decide +kernel
theorem dX9_slotOf_24 : decode cX9_slotOf 24 = .ok (.goto 4, 3) := by decide +kernel
theorem dX9_slotOf_27 : decode cX9_slotOf 27 = .ok (.iload_n 2, 1) := by decide +kernel
theorem dX9_slotOf_28 : decode cX9_slotOf 28 = .ok (.istore_n 2, 1) := by decide +kernel
theorem dX9_slotOf_29 : decode cX9_slotOf 29 = .ok (.iinc 3 1, 3) := by decide +kernel
theorem dX9_slotOf_32 : decode cX9_slotOf 32 = .ok (.goto (-27), 3) := by decide +kernel
theorem dX9_slotOf_35 : decode cX9_slotOf 35 = .ok (.iload_n 2, 1) := by decide +kernel
theorem dX9_slotOf_36 : decode cX9_slotOf 36 = .ok (.ireturn, 1) := by decide +kernel
theorem dX9_shift_0 : decode cX9_shift 0 = .ok (.aload_n 0, 1) := by decide +kernel
theorem dX9_shift_1 : decode cX9_shift 1 = .ok (.iconst 0, 1) := by decide +kernel
theorem dX9_shift_2 : decode cX9_shift 2 = .ok (.putfield 1, 3) := by decide +kernel
theorem dX9_shift_5 : decode cX9_shift 5 = .ok (.aload_n 0, 1) := by decide +kernel
theorem dX9_shift_6 : decode cX9_shift 6 = .ok (.iload_n 1, 1) := by decide +kernel
theorem dX9_shift_7 : decode cX9_shift 7 = .ok (.invokevirtual 147, 3) := by decide +kernel
theorem dX9_shift_10 : decode cX9_shift 10 = .ok (.istore_n 3, 1) := by decide +kernel
theorem dX9_shift_11 : decode cX9_shift 11 = .ok (.iload_n 3, 1) := by decide +kernel
theorem dX9_shift_12 : decode cX9_shift 12 = .ok (.ldc 114, 2) := by decide +kernel
theorem dX9_shift_14 : decode cX9_shift 14 = .ok (.if_icmp .eq 21, 3) := by decide +kernel
theorem dX9_shift_17 : decode cX9_shift 17 = .ok (.aload_n 0, 1) := by decide +kernel
theorem dX9_shift_18 : decode cX9_shift 18 = .ok (.iload_n 2, 1) := by decide +kernel
theorem dX9_shift_19 : decode cX9_shift 19 = .ok (.invokevirtual 115, 3) := by decide +kernel
theorem dX9_shift_22 : decode cX9_shift 22 = .ok (.ifCond .eq 13, 3) := by decide +kernel
theorem dX9_shift_25 : decode cX9_shift 25 = .ok (.aload_n 0, 1) := by decide +kernel
theorem dX9_shift_26 : decode cX9_shift 26 = .ok (.getfield 44, 3) := by decide +kernel
theorem dX9_shift_29 : decode cX9_shift 29 = .ok (.iload_n 3, 1) := by decide +kernel
theorem dX9_shift_30 : decode cX9_shift 30 = .ok (.iaload, 1) := by decide +kernel
theorem dX9_shift_31 : decode cX9_shift 31 = .ok (.iload_n 2, 1) := by decide +kernel
theorem dX9_shift_32 : decode cX9_shift 32 = .ok (.if_icmp .ne 6, 3) := by decide +kernel
theorem dX9_shift_35 : decode cX9_shift 35 = .ok (.ldc 112, 2) := by decide +kernel
theorem dX9_shift_37 : decode cX9_shift 37 = .ok (.ireturn, 1) := by decide +kernel
theorem dX9_shift_38 : decode cX9_shift 38 = .ok (.aload_n 0, 1) := by decide +kernel
theorem dX9_shift_39 : decode cX9_shift 39 = .ok (.getfield 150, 3) := by decide +kernel
theorem dX9_shift_42 : decode cX9_shift 42 = .ok (.ifCond .eq 26, 3) := by decide +kernel
theorem dX9_shift_45 : decode cX9_shift 45 = .ok (.aload_n 0, 1) := by decide +kernel
theorem dX9_shift_46 : decode cX9_shift 46 = .ok (.getfield 150, 3) := by decide +kernel
theorem dX9_shift_49 : decode cX9_shift 49 = .ok (.iconst 1, 1) := by decide +kernel
theorem dX9_shift_50 : decode cX9_shift 50 = .ok (.if_icmp .ne 21, 3) := by decide +kernel
theorem dX9_shift_53 : decode cX9_shift 53 = .ok (.aload_n 0, 1) := by decide +kernel
theorem dX9_shift_54 : decode cX9_shift 54 = .ok (.getfield 23, 3) := by decide +kernel
theorem dX9_shift_57 : decode cX9_shift 57 = .ok (.iload_n 2, 1) := by decide +kernel
theorem dX9_shift_58 : decode cX9_shift 58 = .ok (.iaload, 1) := by decide +kernel
theorem dX9_shift_59 : decode cX9_shift 59 = .ok (.aload_n 0, 1) := by decide +kernel
theorem dX9_shift_60 : decode cX9_shift 60 = .ok (.getfield 59, 3) := by decide +kernel
theorem dX9_shift_63 : decode cX9_shift 63 = .ok (.iload_n 3, 1) := by decide +kernel
theorem dX9_shift_64 : decode cX9_shift 64 = .ok (.iaload, 1) := by decide +kernel
theorem dX9_shift_65 : decode cX9_shift 65 = .ok (.if_icmp .eq 6, 3) := by decide +kernel
theorem dX9_shift_68 : decode cX9_shift 68 = .ok (.ldc 121, 2) := by decide +kernel
theorem dX9_shift_70 : decode cX9_shift 70 = .ok (.ireturn, 1) := by decide +kernel
theorem dX9_shift_71 : decode cX9_shift 71 = .ok (.aload_n 0, 1) := by decide +kernel
theorem dX9_shift_72 : decode cX9_shift 72 = .ok (.getfield 26, 3) := by decide +kernel
theorem dX9_shift_75 : decode cX9_shift 75 = .ok (.iload_n 2, 1) := by decide +kernel
theorem dX9_shift_76 : decode cX9_shift 76 = .ok (.iaload, 1) := by decide +kernel
theorem dX9_shift_77 : decode cX9_shift 77 = .ok (.aload_n 0, 1) := by decide +kernel
theorem dX9_shift_78 : decode cX9_shift 78 = .ok (.getfield 47, 3) := by decide +kernel
theorem dX9_shift_81 : decode cX9_shift 81 = .ok (.iload_n 3, 1) := by decide +kernel
theorem dX9_shift_82 : decode cX9_shift 82 = .ok (.iaload, 1) := by decide +kernel
theorem dX9_shift_83 : decode cX9_shift 83 = .ok (.if_icmp .ge 6, 3) := by decide +kernel
theorem dX9_shift_86 : decode cX9_shift 86 = .ok (.ldc 113, 2) := by decide +kernel
theorem dX9_shift_88 : decode cX9_shift 88 = .ok (.ireturn, 1) := by decide +kernel
theorem dX9_shift_89 : decode cX9_shift 89 = .ok (.aload_n 0, 1) := by decide +kernel
theorem dX9_shift_90 : decode cX9_shift 90 = .ok (.getfield 26, 3) := by decide +kernel
theorem dX9_shift_93 : decode cX9_shift 93 = .ok (.aload_n 0, 1) := by decide +kernel
theorem dX9_shift_94 : decode cX9_shift 94 = .ok (.getfield 44, 3) := by decide +kernel
theorem dX9_shift_97 : decode cX9_shift 97 = .ok (.iload_n 3, 1) := by decide +kernel
theorem dX9_shift_98 : decode cX9_shift 98 = .ok (.iaload, 1) := by decide +kernel
theorem dX9_shift_99 : decode cX9_shift 99 = .ok (.dup2, 1) := by decide +kernel
theorem dX9_shift_100 : decode cX9_shift 100 = .ok (.iaload, 1) := by decide +kernel
theorem dX9_shift_101 : decode cX9_shift 101 = .ok (.aload_n 0, 1) := by decide +kernel
theorem dX9_shift_102 : decode cX9_shift 102 = .ok (.getfield 47, 3) := by decide +kernel
theorem dX9_shift_105 : decode cX9_shift 105 = .ok (.iload_n 3, 1) := by decide +kernel
theorem dX9_shift_106 : decode cX9_shift 106 = .ok (.iaload, 1) := by decide +kernel
theorem dX9_shift_107 : decode cX9_shift 107 = .ok (.iadd, 1) := by decide +kernel
theorem dX9_shift_108 : decode cX9_shift 108 = .ok (.iastore, 1) := by decide +kernel
theorem dX9_shift_109 : decode cX9_shift 109 = .ok (.aload_n 0, 1) := by decide +kernel
theorem dX9_shift_110 : decode cX9_shift 110 = .ok (.getfield 29, 3) := by decide +kernel
theorem dX9_shift_113 : decode cX9_shift 113 = .ok (.aload_n 0, 1) := by decide +kernel
theorem dX9_shift_114 : decode cX9_shift 114 = .ok (.getfield 44, 3) := by decide +kernel
theorem dX9_shift_117 : decode cX9_shift 117 = .ok (.iload_n 3, 1) := by decide +kernel
theorem dX9_shift_118 : decode cX9_shift 118 = .ok (.iaload, 1) := by decide +kernel
theorem dX9_shift_119 : decode cX9_shift 119 = .ok (.dup2, 1) := by decide +kernel
theorem dX9_shift_120 : decode cX9_shift 120 = .ok (.iaload, 1) := by decide +kernel
theorem dX9_shift_121 : decode cX9_shift 121 = .ok (.aload_n 0, 1) := by decide +kernel
theorem dX9_shift_122 : decode cX9_shift 122 = .ok (.getfield 47, 3) := by decide +kernel
theorem dX9_shift_125 : decode cX9_shift 125 = .ok (.iload_n 3, 1) := by decide +kernel
theorem dX9_shift_126 : decode cX9_shift 126 = .ok (.iaload, 1) := by decide +kernel
theorem dX9_shift_127 : decode cX9_shift 127 = .ok (.isub, 1) := by decide +kernel
theorem dX9_shift_128 : decode cX9_shift 128 = .ok (.iastore, 1) := by decide +kernel
theorem dX9_shift_129 : decode cX9_shift 129 = .ok (.aload_n 0, 1) := by decide +kernel
theorem dX9_shift_130 : decode cX9_shift 130 = .ok (.getfield 26, 3) := by decide +kernel
theorem dX9_shift_133 : decode cX9_shift 133 = .ok (.iload_n 2, 1) := by decide +kernel
theorem dX9_shift_134 : decode cX9_shift 134 = .ok (.dup2, 1) := by decide +kernel
theorem dX9_shift_135 : decode cX9_shift 135 = .ok (.iaload, 1) := by decide +kernel
theorem dX9_shift_136 : decode cX9_shift 136 = .ok (.aload_n 0, 1) := by decide +kernel
theorem dX9_shift_137 : decode cX9_shift 137 = .ok (.getfield 47, 3) := by decide +kernel
theorem dX9_shift_140 : decode cX9_shift 140 = .ok (.iload_n 3, 1) := by decide +kernel
theorem dX9_shift_141 : decode cX9_shift 141 = .ok (.iaload, 1) := by decide +kernel
theorem dX9_shift_142 : decode cX9_shift 142 = .ok (.isub, 1) := by decide +kernel
theorem dX9_shift_143 : decode cX9_shift 143 = .ok (.iastore, 1) := by decide +kernel
theorem dX9_shift_144 : decode cX9_shift 144 = .ok (.aload_n 0, 1) := by decide +kernel
theorem dX9_shift_145 : decode cX9_shift 145 = .ok (.getfield 29, 3) := by decide +kernel
theorem dX9_shift_148 : decode cX9_shift 148 = .ok (.iload_n 2, 1) := by decide +kernel
theorem dX9_shift_149 : decode cX9_shift 149 = .ok (.dup2, 1) := by decide +kernel
theorem dX9_shift_150 : decode cX9_shift 150 = .ok (.iaload, 1) := by decide +kernel
theorem dX9_shift_151 : decode cX9_shift 151 = .ok (.aload_n 0, 1) := by decide +kernel
theorem dX9_shift_152 : decode cX9_shift 152 = .ok (.getfield 47, 3) := by decide +kernel
theorem dX9_shift_155 : decode cX9_shift 155 = .ok (.iload_n 3, 1) := by decide +kernel
theorem dX9_shift_156 : decode cX9_shift 156 = .ok (.iaload, 1) := by decide +kernel
theorem dX9_shift_157 : decode cX9_shift 157 = .ok (.iadd, 1) := by decide +kernel
theorem dX9_shift_158 : decode cX9_shift 158 = .ok (.iastore, 1) := by decide +kernel
theorem dX9_shift_159 : decode cX9_shift 159 = .ok (.aload_n 0, 1) := by decide +kernel
theorem dX9_shift_160 : decode cX9_shift 160 = .ok (.getfield 44, 3) := by decide +kernel
theorem dX9_shift_163 : decode cX9_shift 163 = .ok (.iload_n 3, 1) := by decide +kernel
theorem dX9_shift_164 : decode cX9_shift 164 = .ok (.iload_n 2, 1) := by decide +kernel
theorem dX9_shift_165 : decode cX9_shift 165 = .ok (.iastore, 1) := by decide +kernel
theorem dX9_shift_166 : decode cX9_shift 166 = .ok (.iconst 1, 1) := by decide +kernel
theorem dX9_shift_167 : decode cX9_shift 167 = .ok (.ireturn, 1) := by decide +kernel
theorem dX9_ticket_0 : decode cX9_ticket 0 = .ok (.aload_n 0, 1) := by decide +kernel
theorem dX9_ticket_1 : decode cX9_ticket 1 = .ok (.iconst 0, 1) := by decide +kernel
theorem dX9_ticket_2 : decode cX9_ticket 2 = .ok (.putfield 1, 3) := by decide +kernel
theorem dX9_ticket_5 : decode cX9_ticket 5 = .ok (.aload_n 0, 1) := by decide +kernel
theorem dX9_ticket_6 : decode cX9_ticket 6 = .ok (.iload_n 1, 1) := by decide +kernel
theorem dX9_ticket_7 : decode cX9_ticket 7 = .ok (.invokevirtual 147, 3) := by decide +kernel
theorem dX9_ticket_10 : decode cX9_ticket 10 = .ok (.istore_n 3, 1) := by decide +kernel
theorem dX9_ticket_11 : decode cX9_ticket 11 = .ok (.iload_n 3, 1) := by decide +kernel
theorem dX9_ticket_12 : decode cX9_ticket 12 = .ok (.ldc 114, 2) := by decide +kernel
theorem dX9_ticket_14 : decode cX9_ticket 14 = .ok (.if_icmp .eq 15, 3) := by decide +kernel
theorem dX9_ticket_17 : decode cX9_ticket 17 = .ok (.iload_n 2, 1) := by decide +kernel
theorem dX9_ticket_18 : decode cX9_ticket 18 = .ok (.i2l, 1) := by decide +kernel
theorem dX9_ticket_19 : decode cX9_ticket 19 = .ok (.lconst 0, 1) := by decide +kernel
theorem dX9_ticket_20 : decode cX9_ticket 20 = .ok (.ldc2_w 110, 3) := by decide +kernel
theorem dX9_ticket_23 : decode cX9_ticket 23 = .ok (.invokestatic 104, 3) := by decide +kernel
theorem dX9_ticket_26 : decode cX9_ticket 26 = .ok (.ifCond .ne 6, 3) := by decide +kernel
theorem dX9_ticket_29 : decode cX9_ticket 29 = .ok (.ldc 112, 2) := by decide +kernel
theorem dX9_ticket_31 : decode cX9_ticket 31 = .ok (.ireturn, 1) := by decide +kernel
theorem dX9_ticket_32 : decode cX9_ticket 32 = .ok (.iload_n 2, 1) := by decide +kernel
theorem dX9_ticket_33 : decode cX9_ticket 33 = .ok (.ifCond .ne 12, 3) := by decide +kernel
theorem dX9_ticket_36 : decode cX9_ticket 36 = .ok (.aload_n 0, 1) := by decide +kernel
theorem dX9_ticket_37 : decode cX9_ticket 37 = .ok (.getfield 44, 3) := by decide +kernel
theorem dX9_ticket_40 : decode cX9_ticket 40 = .ok (.iload_n 3, 1) := by decide +kernel
theorem dX9_ticket_41 : decode cX9_ticket 41 = .ok (.iaload, 1) := by decide +kernel
theorem dX9_ticket_42 : decode cX9_ticket 42 = .ok (.goto 37, 3) := by decide +kernel
theorem dX9_ticket_45 : decode cX9_ticket 45 = .ok (.iload_n 2, 1) := by decide +kernel
theorem dX9_ticket_46 : decode cX9_ticket 46 = .ok (.iconst 1, 1) := by decide +kernel
theorem dX9_ticket_47 : decode cX9_ticket 47 = .ok (.if_icmp .ne 12, 3) := by decide +kernel
theorem dX9_ticket_50 : decode cX9_ticket 50 = .ok (.aload_n 0, 1) := by decide +kernel
theorem dX9_ticket_51 : decode cX9_ticket 51 = .ok (.getfield 47, 3) := by decide +kernel
theorem dX9_ticket_54 : decode cX9_ticket 54 = .ok (.iload_n 3, 1) := by decide +kernel
theorem dX9_ticket_55 : decode cX9_ticket 55 = .ok (.iaload, 1) := by decide +kernel
theorem dX9_ticket_56 : decode cX9_ticket 56 = .ok (.goto 23, 3) := by decide +kernel
theorem dX9_ticket_59 : decode cX9_ticket 59 = .ok (.iload_n 2, 1) := by decide +kernel
theorem dX9_ticket_60 : decode cX9_ticket 60 = .ok (.iconst 2, 1) := by decide +kernel
theorem dX9_ticket_61 : decode cX9_ticket 61 = .ok (.if_icmp .ne 12, 3) := by decide +kernel
theorem dX9_ticket_64 : decode cX9_ticket 64 = .ok (.aload_n 0, 1) := by decide +kernel
theorem dX9_ticket_65 : decode cX9_ticket 65 = .ok (.getfield 50, 3) := by decide +kernel
theorem dX9_ticket_68 : decode cX9_ticket 68 = .ok (.iload_n 3, 1) := by decide +kernel
theorem dX9_ticket_69 : decode cX9_ticket 69 = .ok (.iaload, 1) := by decide +kernel
theorem dX9_ticket_70 : decode cX9_ticket 70 = .ok (.goto 9, 3) := by decide +kernel
theorem dX9_ticket_73 : decode cX9_ticket 73 = .ok (.aload_n 0, 1) := by decide +kernel
theorem dX9_ticket_74 : decode cX9_ticket 74 = .ok (.getfield 53, 3) := by decide +kernel
theorem dX9_ticket_77 : decode cX9_ticket 77 = .ok (.iload_n 3, 1) := by decide +kernel
theorem dX9_ticket_78 : decode cX9_ticket 78 = .ok (.iaload, 1) := by decide +kernel
theorem dX9_ticket_79 : decode cX9_ticket 79 = .ok (.ireturn, 1) := by decide +kernel
theorem dX9_end_0 : decode cX9_end 0 = .ok (.aload_n 0, 1) := by decide +kernel
theorem dX9_end_1 : decode cX9_end 1 = .ok (.getfield 26, 3) := by decide +kernel
theorem dX9_end_4 : decode cX9_end 4 = .ok (.aload_n 0, 1) := by decide +kernel
theorem dX9_end_5 : decode cX9_end 5 = .ok (.getfield 44, 3) := by decide +kernel
theorem dX9_end_8 : decode cX9_end 8 = .ok (.iload_n 1, 1) := by decide +kernel
theorem dX9_end_9 : decode cX9_end 9 = .ok (.iaload, 1) := by decide +kernel
theorem dX9_end_10 : decode cX9_end 10 = .ok (.dup2, 1) := by decide +kernel
theorem dX9_end_11 : decode cX9_end 11 = .ok (.iaload, 1) := by decide +kernel
theorem dX9_end_12 : decode cX9_end 12 = .ok (.aload_n 0, 1) := by decide +kernel
theorem dX9_end_13 : decode cX9_end 13 = .ok (.getfield 47, 3) := by decide +kernel
theorem dX9_end_16 : decode cX9_end 16 = .ok (.iload_n 1, 1) := by decide +kernel
theorem dX9_end_17 : decode cX9_end 17 = .ok (.iaload, 1) := by decide +kernel
theorem dX9_end_18 : decode cX9_end 18 = .ok (.iadd, 1) := by decide +kernel
theorem dX9_end_19 : decode cX9_end 19 = .ok (.iastore, 1) := by decide +kernel
theorem dX9_end_20 : decode cX9_end 20 = .ok (.aload_n 0, 1) := by decide +kernel
theorem dX9_end_21 : decode cX9_end 21 = .ok (.getfield 29, 3) := by decide +kernel
theorem dX9_end_24 : decode cX9_end 24 = .ok (.aload_n 0, 1) := by decide +kernel
theorem dX9_end_25 : decode cX9_end 25 = .ok (.getfield 44, 3) := by decide +kernel
theorem dX9_end_28 : decode cX9_end 28 = .ok (.iload_n 1, 1) := by decide +kernel
theorem dX9_end_29 : decode cX9_end 29 = .ok (.iaload, 1) := by decide +kernel
theorem dX9_end_30 : decode cX9_end 30 = .ok (.dup2, 1) := by decide +kernel
theorem dX9_end_31 : decode cX9_end 31 = .ok (.iaload, 1) := by decide +kernel
theorem dX9_end_32 : decode cX9_end 32 = .ok (.aload_n 0, 1) := by decide +kernel
theorem dX9_end_33 : decode cX9_end 33 = .ok (.getfield 47, 3) := by decide +kernel
theorem dX9_end_36 : decode cX9_end 36 = .ok (.iload_n 1, 1) := by decide +kernel
theorem dX9_end_37 : decode cX9_end 37 = .ok (.iaload, 1) := by decide +kernel
theorem dX9_end_38 : decode cX9_end 38 = .ok (.isub, 1) := by decide +kernel
theorem dX9_end_39 : decode cX9_end 39 = .ok (.iastore, 1) := by decide +kernel
theorem dX9_end_40 : decode cX9_end 40 = .ok (.aload_n 0, 1) := by decide +kernel
theorem dX9_end_41 : decode cX9_end 41 = .ok (.dup, 1) := by decide +kernel
theorem dX9_end_42 : decode cX9_end 42 = .ok (.getfield 138, 3) := by decide +kernel
theorem dX9_end_45 : decode cX9_end 45 = .ok (.iconst 1, 1) := by decide +kernel
theorem dX9_end_46 : decode cX9_end 46 = .ok (.isub, 1) := by decide +kernel
theorem dX9_end_47 : decode cX9_end 47 = .ok (.putfield 138, 3) := by decide +kernel
theorem dX9_end_50 : decode cX9_end 50 = .ok (.iload_n 1, 1) := by decide +kernel
theorem dX9_end_51 : decode cX9_end 51 = .ok (.istore_n 2, 1) := by decide +kernel
theorem dX9_end_52 : decode cX9_end 52 = .ok (.iload_n 2, 1) := by decide +kernel
theorem dX9_end_53 : decode cX9_end 53 = .ok (.aload_n 0, 1) := by decide +kernel
theorem dX9_end_54 : decode cX9_end 54 = .ok (.getfield 138, 3) := by decide +kernel
theorem dX9_end_57 : decode cX9_end 57 = .ok (.if_icmp .ge 107, 3) := by decide +kernel
theorem dX9_end_60 : decode cX9_end 60 = .ok (.aload_n 0, 1) := by decide +kernel
theorem dX9_end_61 : decode cX9_end 61 = .ok (.getfield 41, 3) := by decide +kernel
theorem dX9_end_64 : decode cX9_end 64 = .ok (.iload_n 2, 1) := by decide +kernel
theorem dX9_end_65 : decode cX9_end 65 = .ok (.aload_n 0, 1) := by decide +kernel
theorem dX9_end_66 : decode cX9_end 66 = .ok (.getfield 41, 3) := by decide +kernel
theorem dX9_end_69 : decode cX9_end 69 = .ok (.iload_n 2, 1) := by decide +kernel
theorem dX9_end_70 : decode cX9_end 70 = .ok (.iconst 1, 1) := by decide +kernel
theorem dX9_end_71 : decode cX9_end 71 = .ok (.iadd, 1) := by decide +kernel
theorem dX9_end_72 : decode cX9_end 72 = .ok (.iaload, 1) := by decide +kernel
theorem dX9_end_73 : decode cX9_end 73 = .ok (.iastore, 1) := by decide +kernel
theorem dX9_end_74 : decode cX9_end 74 = .ok (.aload_n 0, 1) := by decide +kernel
theorem dX9_end_75 : decode cX9_end 75 = .ok (.getfield 44, 3) := by decide +kernel
theorem dX9_end_78 : decode cX9_end 78 = .ok (.iload_n 2, 1) := by decide +kernel
theorem dX9_end_79 : decode cX9_end 79 = .ok (.aload_n 0, 1) := by decide +kernel
theorem dX9_end_80 : decode cX9_end 80 = .ok (.getfield 44, 3) := by decide +kernel
theorem dX9_end_83 : decode cX9_end 83 = .ok (.iload_n 2, 1) := by decide +kernel
theorem dX9_end_84 : decode cX9_end 84 = .ok (.iconst 1, 1) := by decide +kernel
theorem dX9_end_85 : decode cX9_end 85 = .ok (.iadd, 1) := by decide +kernel
theorem dX9_end_86 : decode cX9_end 86 = .ok (.iaload, 1) := by decide +kernel
theorem dX9_end_87 : decode cX9_end 87 = .ok (.iastore, 1) := by decide +kernel
theorem dX9_end_88 : decode cX9_end 88 = .ok (.aload_n 0, 1) := by decide +kernel
theorem dX9_end_89 : decode cX9_end 89 = .ok (.getfield 47, 3) := by decide +kernel
theorem dX9_end_92 : decode cX9_end 92 = .ok (.iload_n 2, 1) := by decide +kernel
theorem dX9_end_93 : decode cX9_end 93 = .ok (.aload_n 0, 1) := by decide +kernel
theorem dX9_end_94 : decode cX9_end 94 = .ok (.getfield 47, 3) := by decide +kernel
theorem dX9_end_97 : decode cX9_end 97 = .ok (.iload_n 2, 1) := by decide +kernel
theorem dX9_end_98 : decode cX9_end 98 = .ok (.iconst 1, 1) := by decide +kernel
theorem dX9_end_99 : decode cX9_end 99 = .ok (.iadd, 1) := by decide +kernel
theorem dX9_end_100 : decode cX9_end 100 = .ok (.iaload, 1) := by decide +kernel
theorem dX9_end_101 : decode cX9_end 101 = .ok (.iastore, 1) := by decide +kernel
theorem dX9_end_102 : decode cX9_end 102 = .ok (.aload_n 0, 1) := by decide +kernel
theorem dX9_end_103 : decode cX9_end 103 = .ok (.getfield 50, 3) := by decide +kernel
theorem dX9_end_106 : decode cX9_end 106 = .ok (.iload_n 2, 1) := by decide +kernel
theorem dX9_end_107 : decode cX9_end 107 = .ok (.aload_n 0, 1) := by decide +kernel
theorem dX9_end_108 : decode cX9_end 108 = .ok (.getfield 50, 3) := by decide +kernel
theorem dX9_end_111 : decode cX9_end 111 = .ok (.iload_n 2, 1) := by decide +kernel
theorem dX9_end_112 : decode cX9_end 112 = .ok (.iconst 1, 1) := by decide +kernel
theorem dX9_end_113 : decode cX9_end 113 = .ok (.iadd, 1) := by decide +kernel
theorem dX9_end_114 : decode cX9_end 114 = .ok (.iaload, 1) := by decide +kernel
theorem dX9_end_115 : decode cX9_end 115 = .ok (.iastore, 1) := by decide +kernel
theorem dX9_end_116 : decode cX9_end 116 = .ok (.aload_n 0, 1) := by decide +kernel
theorem dX9_end_117 : decode cX9_end 117 = .ok (.getfield 53, 3) := by decide +kernel
theorem dX9_end_120 : decode cX9_end 120 = .ok (.iload_n 2, 1) := by decide +kernel
theorem dX9_end_121 : decode cX9_end 121 = .ok (.aload_n 0, 1) := by decide +kernel
theorem dX9_end_122 : decode cX9_end 122 = .ok (.getfield 53, 3) := by decide +kernel
theorem dX9_end_125 : decode cX9_end 125 = .ok (.iload_n 2, 1) := by decide +kernel
theorem dX9_end_126 : decode cX9_end 126 = .ok (.iconst 1, 1) := by decide +kernel
theorem dX9_end_127 : decode cX9_end 127 = .ok (.iadd, 1) := by decide +kernel
theorem dX9_end_128 : decode cX9_end 128 = .ok (.iaload, 1) := by decide +kernel
theorem dX9_end_129 : decode cX9_end 129 = .ok (.iastore, 1) := by decide +kernel
theorem dX9_end_130 : decode cX9_end 130 = .ok (.aload_n 0, 1) := by decide +kernel
theorem dX9_end_131 : decode cX9_end 131 = .ok (.getfield 56, 3) := by decide +kernel
theorem dX9_end_134 : decode cX9_end 134 = .ok (.iload_n 2, 1) := by decide +kernel
theorem dX9_end_135 : decode cX9_end 135 = .ok (.aload_n 0, 1) := by decide +kernel
theorem dX9_end_136 : decode cX9_end 136 = .ok (.getfield 56, 3) := by decide +kernel
theorem dX9_end_139 : decode cX9_end 139 = .ok (.iload_n 2, 1) := by decide +kernel
theorem dX9_end_140 : decode cX9_end 140 = .ok (.iconst 1, 1) := by decide +kernel
theorem dX9_end_141 : decode cX9_end 141 = .ok (.iadd, 1) := by decide +kernel
theorem dX9_end_142 : decode cX9_end 142 = .ok (.iaload, 1) := by decide +kernel
theorem dX9_end_143 : decode cX9_end 143 = .ok (.iastore, 1) := by decide +kernel
theorem dX9_end_144 : decode cX9_end 144 = .ok (.aload_n 0, 1) := by decide +kernel
theorem dX9_end_145 : decode cX9_end 145 = .ok (.getfield 59, 3) := by decide +kernel
theorem dX9_end_148 : decode cX9_end 148 = .ok (.iload_n 2, 1) := by decide +kernel
theorem dX9_end_149 : decode cX9_end 149 = .ok (.aload_n 0, 1) := by decide +kernel
theorem dX9_end_150 : decode cX9_end 150 = .ok (.getfield 59, 3) := by decide +kernel
theorem dX9_end_153 : decode cX9_end 153 = .ok (.iload_n 2, 1) := by decide +kernel
theorem dX9_end_154 : decode cX9_end 154 = .ok (.iconst 1, 1) := by decide +kernel
theorem dX9_end_155 : decode cX9_end 155 = .ok (.iadd, 1) := by decide +kernel
theorem dX9_end_156 : decode cX9_end 156 = .ok (.iaload, 1) := by decide +kernel
theorem dX9_end_157 : decode cX9_end 157 = .ok (.iastore, 1) := by decide +kernel
theorem dX9_end_158 : decode cX9_end 158 = .ok (.iinc 2 1, 3) := by decide +kernel
theorem dX9_end_161 : decode cX9_end 161 = .ok (.goto (-109), 3) := by decide +kernel
theorem dX9_end_164 : decode cX9_end 164 = .ok (.return_, 1) := by decide +kernel
theorem dX9_tear_0 : decode cX9_tear 0 = .ok (.aload_n 0, 1) := by decide +kernel
theorem dX9_tear_1 : decode cX9_tear 1 = .ok (.getfield 26, 3) := by decide +kernel
theorem dX9_tear_4 : decode cX9_tear 4 = .ok (.iload_n 1, 1) := by decide +kernel
theorem dX9_tear_5 : decode cX9_tear 5 = .ok (.iaload, 1) := by decide +kernel
theorem dX9_tear_6 : decode cX9_tear 6 = .ok (.ifCond .le 24, 3) := by decide +kernel
theorem dX9_tear_9 : decode cX9_tear 9 = .ok (.aload_n 0, 1) := by decide +kernel
theorem dX9_tear_10 : decode cX9_tear 10 = .ok (.getfield 26, 3) := by decide +kernel
theorem dX9_tear_13 : decode cX9_tear 13 = .ok (.iload_n 1, 1) := by decide +kernel
theorem dX9_tear_14 : decode cX9_tear 14 = .ok (.dup2, 1) := by decide +kernel
theorem dX9_tear_15 : decode cX9_tear 15 = .ok (.iaload, 1) := by decide +kernel
theorem dX9_tear_16 : decode cX9_tear 16 = .ok (.iconst 1, 1) := by decide +kernel
theorem dX9_tear_17 : decode cX9_tear 17 = .ok (.isub, 1) := by decide +kernel
theorem dX9_tear_18 : decode cX9_tear 18 = .ok (.iastore, 1) := by decide +kernel
theorem dX9_tear_19 : decode cX9_tear 19 = .ok (.aload_n 0, 1) := by decide +kernel
theorem dX9_tear_20 : decode cX9_tear 20 = .ok (.dup, 1) := by decide +kernel
theorem dX9_tear_21 : decode cX9_tear 21 = .ok (.getfield 130, 3) := by decide +kernel
theorem dX9_tear_24 : decode cX9_tear 24 = .ok (.iconst 1, 1) := by decide +kernel
theorem dX9_tear_25 : decode cX9_tear 25 = .ok (.iadd, 1) := by decide +kernel
theorem dX9_tear_26 : decode cX9_tear 26 = .ok (.putfield 130, 3) := by decide +kernel
theorem dX9_tear_29 : decode cX9_tear 29 = .ok (.return_, 1) := by decide +kernel
theorem dX9_tear_30 : decode cX9_tear 30 = .ok (.ldc 114, 2) := by decide +kernel
theorem dX9_tear_32 : decode cX9_tear 32 = .ok (.istore_n 2, 1) := by decide +kernel
theorem dX9_tear_33 : decode cX9_tear 33 = .ok (.iconst 0, 1) := by decide +kernel
theorem dX9_tear_34 : decode cX9_tear 34 = .ok (.istore_n 3, 1) := by decide +kernel
theorem dX9_tear_35 : decode cX9_tear 35 = .ok (.iload_n 3, 1) := by decide +kernel
theorem dX9_tear_36 : decode cX9_tear 36 = .ok (.aload_n 0, 1) := by decide +kernel
theorem dX9_tear_37 : decode cX9_tear 37 = .ok (.getfield 138, 3) := by decide +kernel
theorem dX9_tear_40 : decode cX9_tear 40 = .ok (.if_icmp .ge 25, 3) := by decide +kernel
theorem dX9_tear_43 : decode cX9_tear 43 = .ok (.aload_n 0, 1) := by decide +kernel
theorem dX9_tear_44 : decode cX9_tear 44 = .ok (.getfield 44, 3) := by decide +kernel
theorem dX9_tear_47 : decode cX9_tear 47 = .ok (.iload_n 3, 1) := by decide +kernel
theorem dX9_tear_48 : decode cX9_tear 48 = .ok (.iaload, 1) := by decide +kernel
theorem dX9_tear_49 : decode cX9_tear 49 = .ok (.iload_n 1, 1) := by decide +kernel
theorem dX9_tear_50 : decode cX9_tear 50 = .ok (.if_icmp .ne 7, 3) := by decide +kernel
theorem dX9_tear_53 : decode cX9_tear 53 = .ok (.iload_n 3, 1) := by decide +kernel
theorem dX9_tear_54 : decode cX9_tear 54 = .ok (.goto 4, 3) := by decide +kernel
theorem dX9_tear_57 : decode cX9_tear 57 = .ok (.iload_n 2, 1) := by decide +kernel
theorem dX9_tear_58 : decode cX9_tear 58 = .ok (.istore_n 2, 1) := by decide +kernel
theorem dX9_tear_59 : decode cX9_tear 59 = .ok (.iinc 3 1, 3) := by decide +kernel
theorem dX9_tear_62 : decode cX9_tear 62 = .ok (.goto (-27), 3) := by decide +kernel
theorem dX9_tear_65 : decode cX9_tear 65 = .ok (.iload_n 2, 1) := by decide +kernel
theorem dX9_tear_66 : decode cX9_tear 66 = .ok (.ldc 114, 2) := by decide +kernel
theorem dX9_tear_68 : decode cX9_tear 68 = .ok (.if_icmp .eq 47, 3) := by decide +kernel
theorem dX9_tear_71 : decode cX9_tear 71 = .ok (.aload_n 0, 1) := by decide +kernel
theorem dX9_tear_72 : decode cX9_tear 72 = .ok (.getfield 47, 3) := by decide +kernel
theorem dX9_tear_75 : decode cX9_tear 75 = .ok (.iload_n 2, 1) := by decide +kernel
theorem dX9_tear_76 : decode cX9_tear 76 = .ok (.dup2, 1) := by decide +kernel
theorem dX9_tear_77 : decode cX9_tear 77 = .ok (.iaload, 1) := by decide +kernel
theorem dX9_tear_78 : decode cX9_tear 78 = .ok (.iconst 1, 1) := by decide +kernel
theorem dX9_tear_79 : decode cX9_tear 79 = .ok (.isub, 1) := by decide +kernel
theorem dX9_tear_80 : decode cX9_tear 80 = .ok (.iastore, 1) := by decide +kernel
theorem dX9_tear_81 : decode cX9_tear 81 = .ok (.aload_n 0, 1) := by decide +kernel
theorem dX9_tear_82 : decode cX9_tear 82 = .ok (.getfield 29, 3) := by decide +kernel
theorem dX9_tear_85 : decode cX9_tear 85 = .ok (.iload_n 1, 1) := by decide +kernel
theorem dX9_tear_86 : decode cX9_tear 86 = .ok (.dup2, 1) := by decide +kernel
theorem dX9_tear_87 : decode cX9_tear 87 = .ok (.iaload, 1) := by decide +kernel
theorem dX9_tear_88 : decode cX9_tear 88 = .ok (.iconst 1, 1) := by decide +kernel
theorem dX9_tear_89 : decode cX9_tear 89 = .ok (.isub, 1) := by decide +kernel
end
section
theorem dX9_tear_90 : decode cX9_tear 90 = .ok (.iastore, 1) := by decide +kernel
theorem dX9_tear_91 : decode cX9_tear 91 = .ok (.aload_n 0, 1) := by decide +kernel
theorem dX9_tear_92 : decode cX9_tear 92 = .ok (.dup, 1) := by decide +kernel
theorem dX9_tear_93 : decode cX9_tear 93 = .ok (.getfield 130, 3) := by decide +kernel
theorem dX9_tear_96 : decode cX9_tear 96 = .ok (.iconst 1, 1) := by decide +kernel
theorem dX9_tear_97 : decode cX9_tear 97 = .ok (.iadd, 1) := by decide +kernel
theorem dX9_tear_98 : decode cX9_tear 98 = .ok (.putfield 130, 3) := by decide +kernel
theorem dX9_tear_101 : decode cX9_tear 101 = .ok (.aload_n 0, 1) := by decide +kernel
theorem dX9_tear_102 : decode cX9_tear 102 = .ok (.getfield 47, 3) := by decide +kernel
theorem dX9_tear_105 : decode cX9_tear 105 = .ok (.iload_n 2, 1) := by decide +kernel
theorem dX9_tear_106 : decode cX9_tear 106 = .ok (.iaload, 1) := by decide +kernel
theorem dX9_tear_107 : decode cX9_tear 107 = .ok (.ifCond .ne 8, 3) := by decide +kernel
theorem dX9_tear_110 : decode cX9_tear 110 = .ok (.aload_n 0, 1) := by decide +kernel
theorem dX9_tear_111 : decode cX9_tear 111 = .ok (.iload_n 2, 1) := by decide +kernel
theorem dX9_tear_112 : decode cX9_tear 112 = .ok (.invokevirtual 153, 3) := by decide +kernel
theorem dX9_tear_115 : decode cX9_tear 115 = .ok (.return_, 1) := by decide +kernel
theorem dX9_hour_0 : decode cX9_hour 0 = .ok (.aload_n 0, 1) := by decide +kernel
theorem dX9_hour_1 : decode cX9_hour 1 = .ok (.iconst 0, 1) := by decide +kernel
theorem dX9_hour_2 : decode cX9_hour 2 = .ok (.putfield 1, 3) := by decide +kernel
theorem dX9_hour_5 : decode cX9_hour 5 = .ok (.iload_n 1, 1) := by decide +kernel
theorem dX9_hour_6 : decode cX9_hour 6 = .ok (.i2l, 1) := by decide +kernel
theorem dX9_hour_7 : decode cX9_hour 7 = .ok (.lconst 0, 1) := by decide +kernel
theorem dX9_hour_8 : decode cX9_hour 8 = .ok (.ldc2_w 157, 3) := by decide +kernel
theorem dX9_hour_11 : decode cX9_hour 11 = .ok (.invokestatic 104, 3) := by decide +kernel
theorem dX9_hour_14 : decode cX9_hour 14 = .ok (.ifCond .eq 40, 3) := by decide +kernel
theorem dX9_hour_17 : decode cX9_hour 17 = .ok (.iload_n 2, 1) := by decide +kernel
theorem dX9_hour_18 : decode cX9_hour 18 = .ok (.i2l, 1) := by decide +kernel
theorem dX9_hour_19 : decode cX9_hour 19 = .ok (.lconst 0, 1) := by decide +kernel
theorem dX9_hour_20 : decode cX9_hour 20 = .ok (.ldc2_w 128, 3) := by decide +kernel
theorem dX9_hour_23 : decode cX9_hour 23 = .ok (.invokestatic 104, 3) := by decide +kernel
theorem dX9_hour_26 : decode cX9_hour 26 = .ok (.ifCond .eq 28, 3) := by decide +kernel
theorem dX9_hour_29 : decode cX9_hour 29 = .ok (.iload_n 3, 1) := by decide +kernel
theorem dX9_hour_30 : decode cX9_hour 30 = .ok (.i2l, 1) := by decide +kernel
theorem dX9_hour_31 : decode cX9_hour 31 = .ok (.lconst 0, 1) := by decide +kernel
theorem dX9_hour_32 : decode cX9_hour 32 = .ok (.ldc2_w 159, 3) := by decide +kernel
theorem dX9_hour_35 : decode cX9_hour 35 = .ok (.invokestatic 104, 3) := by decide +kernel
theorem dX9_hour_38 : decode cX9_hour 38 = .ok (.ifCond .eq 16, 3) := by decide +kernel
theorem dX9_hour_41 : decode cX9_hour 41 = .ok (.iload 4, 2) := by decide +kernel
theorem dX9_hour_43 : decode cX9_hour 43 = .ok (.i2l, 1) := by decide +kernel
theorem dX9_hour_44 : decode cX9_hour 44 = .ok (.lconst 0, 1) := by decide +kernel
theorem dX9_hour_45 : decode cX9_hour 45 = .ok (.ldc2_w 161, 3) := by decide +kernel
theorem dX9_hour_48 : decode cX9_hour 48 = .ok (.invokestatic 104, 3) := by decide +kernel
theorem dX9_hour_51 : decode cX9_hour 51 = .ok (.ifCond .ne 6, 3) := by decide +kernel
theorem dX9_hour_54 : decode cX9_hour 54 = .ok (.ldc 112, 2) := by decide +kernel
theorem dX9_hour_56 : decode cX9_hour 56 = .ok (.ireturn, 1) := by decide +kernel
theorem dX9_hour_57 : decode cX9_hour 57 = .ok (.aload_n 0, 1) := by decide +kernel
theorem dX9_hour_58 : decode cX9_hour 58 = .ok (.getfield 163, 3) := by decide +kernel
theorem dX9_hour_61 : decode cX9_hour 61 = .ok (.sipush 5000, 3) := by decide +kernel
theorem dX9_hour_64 : decode cX9_hour 64 = .ok (.if_icmp .ne 6, 3) := by decide +kernel
theorem dX9_hour_67 : decode cX9_hour 67 = .ok (.ldc 121, 2) := by decide +kernel
theorem dX9_hour_69 : decode cX9_hour 69 = .ok (.ireturn, 1) := by decide +kernel
theorem dX9_hour_70 : decode cX9_hour 70 = .ok (.aload_n 0, 1) := by decide +kernel
theorem dX9_hour_71 : decode cX9_hour 71 = .ok (.dup, 1) := by decide +kernel
theorem dX9_hour_72 : decode cX9_hour 72 = .ok (.getfield 163, 3) := by decide +kernel
theorem dX9_hour_75 : decode cX9_hour 75 = .ok (.iconst 1, 1) := by decide +kernel
theorem dX9_hour_76 : decode cX9_hour 76 = .ok (.iadd, 1) := by decide +kernel
theorem dX9_hour_77 : decode cX9_hour 77 = .ok (.putfield 163, 3) := by decide +kernel
theorem dX9_hour_80 : decode cX9_hour 80 = .ok (.aload_n 0, 1) := by decide +kernel
theorem dX9_hour_81 : decode cX9_hour 81 = .ok (.iload_n 2, 1) := by decide +kernel
theorem dX9_hour_82 : decode cX9_hour 82 = .ok (.putfield 135, 3) := by decide +kernel
theorem dX9_hour_85 : decode cX9_hour 85 = .ok (.iconst 0, 1) := by decide +kernel
theorem dX9_hour_86 : decode cX9_hour 86 = .ok (.istore 5, 2) := by decide +kernel
theorem dX9_hour_88 : decode cX9_hour 88 = .ok (.iload 5, 2) := by decide +kernel
theorem dX9_hour_90 : decode cX9_hour 90 = .ok (.aload_n 0, 1) := by decide +kernel
theorem dX9_hour_91 : decode cX9_hour 91 = .ok (.getfield 101, 3) := by decide +kernel
theorem dX9_hour_94 : decode cX9_hour 94 = .ok (.if_icmp .ge 88, 3) := by decide +kernel
theorem dX9_hour_97 : decode cX9_hour 97 = .ok (.aload_n 0, 1) := by decide +kernel
theorem dX9_hour_98 : decode cX9_hour 98 = .ok (.getfield 19, 3) := by decide +kernel
theorem dX9_hour_101 : decode cX9_hour 101 = .ok (.iload 5, 2) := by decide +kernel
theorem dX9_hour_103 : decode cX9_hour 103 = .ok (.iaload, 1) := by decide +kernel
theorem dX9_hour_104 : decode cX9_hour 104 = .ok (.iload_n 1, 1) := by decide +kernel
theorem dX9_hour_105 : decode cX9_hour 105 = .ok (.if_icmp .gt 71, 3) := by decide +kernel
theorem dX9_hour_108 : decode cX9_hour 108 = .ok (.aload_n 0, 1) := by decide +kernel
theorem dX9_hour_109 : decode cX9_hour 109 = .ok (.getfield 138, 3) := by decide +kernel
theorem dX9_hour_112 : decode cX9_hour 112 = .ok (.iconst 1, 1) := by decide +kernel
theorem dX9_hour_113 : decode cX9_hour 113 = .ok (.isub, 1) := by decide +kernel
theorem dX9_hour_114 : decode cX9_hour 114 = .ok (.istore 6, 2) := by decide +kernel
theorem dX9_hour_116 : decode cX9_hour 116 = .ok (.iload 6, 2) := by decide +kernel
theorem dX9_hour_118 : decode cX9_hour 118 = .ok (.ifCond .lt 27, 3) := by decide +kernel
theorem dX9_hour_121 : decode cX9_hour 121 = .ok (.aload_n 0, 1) := by decide +kernel
theorem dX9_hour_122 : decode cX9_hour 122 = .ok (.getfield 44, 3) := by decide +kernel
theorem dX9_hour_125 : decode cX9_hour 125 = .ok (.iload 6, 2) := by decide +kernel
theorem dX9_hour_127 : decode cX9_hour 127 = .ok (.iaload, 1) := by decide +kernel
theorem dX9_hour_128 : decode cX9_hour 128 = .ok (.iload 5, 2) := by decide +kernel
theorem dX9_hour_130 : decode cX9_hour 130 = .ok (.if_icmp .ne 9, 3) := by decide +kernel
theorem dX9_hour_133 : decode cX9_hour 133 = .ok (.aload_n 0, 1) := by decide +kernel
theorem dX9_hour_134 : decode cX9_hour 134 = .ok (.iload 6, 2) := by decide +kernel
theorem dX9_hour_136 : decode cX9_hour 136 = .ok (.invokevirtual 153, 3) := by decide +kernel
theorem dX9_hour_139 : decode cX9_hour 139 = .ok (.iinc 6 (-1), 3) := by decide +kernel
theorem dX9_hour_142 : decode cX9_hour 142 = .ok (.goto (-26), 3) := by decide +kernel
theorem dX9_hour_145 : decode cX9_hour 145 = .ok (.aload_n 0, 1) := by decide +kernel
theorem dX9_hour_146 : decode cX9_hour 146 = .ok (.dup, 1) := by decide +kernel
theorem dX9_hour_147 : decode cX9_hour 147 = .ok (.getfield 166, 3) := by decide +kernel
theorem dX9_hour_150 : decode cX9_hour 150 = .ok (.aload_n 0, 1) := by decide +kernel
theorem dX9_hour_151 : decode cX9_hour 151 = .ok (.iload 5, 2) := by decide +kernel
theorem dX9_hour_153 : decode cX9_hour 153 = .ok (.invokevirtual 122, 3) := by decide +kernel
theorem dX9_hour_156 : decode cX9_hour 156 = .ok (.iadd, 1) := by decide +kernel
theorem dX9_hour_157 : decode cX9_hour 157 = .ok (.putfield 166, 3) := by decide +kernel
theorem dX9_hour_160 : decode cX9_hour 160 = .ok (.aload_n 0, 1) := by decide +kernel
theorem dX9_hour_161 : decode cX9_hour 161 = .ok (.getfield 26, 3) := by decide +kernel
theorem dX9_hour_164 : decode cX9_hour 164 = .ok (.iload 5, 2) := by decide +kernel
theorem dX9_hour_166 : decode cX9_hour 166 = .ok (.iconst 0, 1) := by decide +kernel
theorem dX9_hour_167 : decode cX9_hour 167 = .ok (.iastore, 1) := by decide +kernel
theorem dX9_hour_168 : decode cX9_hour 168 = .ok (.aload_n 0, 1) := by decide +kernel
theorem dX9_hour_169 : decode cX9_hour 169 = .ok (.getfield 29, 3) := by decide +kernel
theorem dX9_hour_172 : decode cX9_hour 172 = .ok (.iload 5, 2) := by decide +kernel
theorem dX9_hour_174 : decode cX9_hour 174 = .ok (.iconst 0, 1) := by decide +kernel
theorem dX9_hour_175 : decode cX9_hour 175 = .ok (.iastore, 1) := by decide +kernel
theorem dX9_hour_176 : decode cX9_hour 176 = .ok (.iinc 5 1, 3) := by decide +kernel
theorem dX9_hour_179 : decode cX9_hour 179 = .ok (.goto (-91), 3) := by decide +kernel
theorem dX9_hour_182 : decode cX9_hour 182 = .ok (.iload_n 2, 1) := by decide +kernel
theorem dX9_hour_183 : decode cX9_hour 183 = .ok (.aload_n 0, 1) := by decide +kernel
theorem dX9_hour_184 : decode cX9_hour 184 = .ok (.getfield 16, 3) := by decide +kernel
theorem dX9_hour_187 : decode cX9_hour 187 = .ok (.if_icmp .le 67, 3) := by decide +kernel
theorem dX9_hour_190 : decode cX9_hour 190 = .ok (.aload_n 0, 1) := by decide +kernel
theorem dX9_hour_191 : decode cX9_hour 191 = .ok (.getfield 138, 3) := by decide +kernel
theorem dX9_hour_194 : decode cX9_hour 194 = .ok (.ifCond .le 60, 3) := by decide +kernel
theorem dX9_hour_197 : decode cX9_hour 197 = .ok (.aload_n 0, 1) := by decide +kernel
theorem dX9_hour_198 : decode cX9_hour 198 = .ok (.dup, 1) := by decide +kernel
theorem dX9_hour_199 : decode cX9_hour 199 = .ok (.getfield 169, 3) := by decide +kernel
theorem dX9_hour_202 : decode cX9_hour 202 = .ok (.aload_n 0, 1) := by decide +kernel
theorem dX9_hour_203 : decode cX9_hour 203 = .ok (.getfield 56, 3) := by decide +kernel
theorem dX9_hour_206 : decode cX9_hour 206 = .ok (.aload_n 0, 1) := by decide +kernel
theorem dX9_hour_207 : decode cX9_hour 207 = .ok (.getfield 138, 3) := by decide +kernel
theorem dX9_hour_210 : decode cX9_hour 210 = .ok (.iconst 1, 1) := by decide +kernel
theorem dX9_hour_211 : decode cX9_hour 211 = .ok (.isub, 1) := by decide +kernel
theorem dX9_hour_212 : decode cX9_hour 212 = .ok (.iaload, 1) := by decide +kernel
theorem dX9_hour_213 : decode cX9_hour 213 = .ok (.aload_n 0, 1) := by decide +kernel
theorem dX9_hour_214 : decode cX9_hour 214 = .ok (.getfield 47, 3) := by decide +kernel
theorem dX9_hour_217 : decode cX9_hour 217 = .ok (.aload_n 0, 1) := by decide +kernel
theorem dX9_hour_218 : decode cX9_hour 218 = .ok (.getfield 138, 3) := by decide +kernel
theorem dX9_hour_221 : decode cX9_hour 221 = .ok (.iconst 1, 1) := by decide +kernel
theorem dX9_hour_222 : decode cX9_hour 222 = .ok (.isub, 1) := by decide +kernel
theorem dX9_hour_223 : decode cX9_hour 223 = .ok (.iaload, 1) := by decide +kernel
theorem dX9_hour_224 : decode cX9_hour 224 = .ok (.imul, 1) := by decide +kernel
theorem dX9_hour_225 : decode cX9_hour 225 = .ok (.aload_n 0, 1) := by decide +kernel
theorem dX9_hour_226 : decode cX9_hour 226 = .ok (.getfield 50, 3) := by decide +kernel
theorem dX9_hour_229 : decode cX9_hour 229 = .ok (.aload_n 0, 1) := by decide +kernel
theorem dX9_hour_230 : decode cX9_hour 230 = .ok (.getfield 138, 3) := by decide +kernel
theorem dX9_hour_233 : decode cX9_hour 233 = .ok (.iconst 1, 1) := by decide +kernel
theorem dX9_hour_234 : decode cX9_hour 234 = .ok (.isub, 1) := by decide +kernel
theorem dX9_hour_235 : decode cX9_hour 235 = .ok (.iaload, 1) := by decide +kernel
theorem dX9_hour_236 : decode cX9_hour 236 = .ok (.imul, 1) := by decide +kernel
theorem dX9_hour_237 : decode cX9_hour 237 = .ok (.iadd, 1) := by decide +kernel
theorem dX9_hour_238 : decode cX9_hour 238 = .ok (.putfield 169, 3) := by decide +kernel
theorem dX9_hour_241 : decode cX9_hour 241 = .ok (.aload_n 0, 1) := by decide +kernel
theorem dX9_hour_242 : decode cX9_hour 242 = .ok (.aload_n 0, 1) := by decide +kernel
theorem dX9_hour_243 : decode cX9_hour 243 = .ok (.getfield 138, 3) := by decide +kernel
theorem dX9_hour_246 : decode cX9_hour 246 = .ok (.iconst 1, 1) := by decide +kernel
theorem dX9_hour_247 : decode cX9_hour 247 = .ok (.isub, 1) := by decide +kernel
theorem dX9_hour_248 : decode cX9_hour 248 = .ok (.invokevirtual 153, 3) := by decide +kernel
theorem dX9_hour_251 : decode cX9_hour 251 = .ok (.goto (-69), 3) := by decide +kernel
theorem dX9_hour_254 : decode cX9_hour 254 = .ok (.iconst 0, 1) := by decide +kernel
theorem dX9_hour_255 : decode cX9_hour 255 = .ok (.istore 5, 2) := by decide +kernel
theorem dX9_hour_257 : decode cX9_hour 257 = .ok (.aload_n 0, 1) := by decide +kernel
theorem dX9_hour_258 : decode cX9_hour 258 = .ok (.getfield 172, 3) := by decide +kernel
theorem dX9_hour_261 : decode cX9_hour 261 = .ok (.iconst 1, 1) := by decide +kernel
theorem dX9_hour_262 : decode cX9_hour 262 = .ok (.isub, 1) := by decide +kernel
theorem dX9_hour_263 : decode cX9_hour 263 = .ok (.istore 6, 2) := by decide +kernel
theorem dX9_hour_265 : decode cX9_hour 265 = .ok (.iload 6, 2) := by decide +kernel
theorem dX9_hour_267 : decode cX9_hour 267 = .ok (.ifCond .lt 34, 3) := by decide +kernel
theorem dX9_hour_270 : decode cX9_hour 270 = .ok (.iload_n 3, 1) := by decide +kernel
theorem dX9_hour_271 : decode cX9_hour 271 = .ok (.aload_n 0, 1) := by decide +kernel
theorem dX9_hour_272 : decode cX9_hour 272 = .ok (.getfield 62, 3) := by decide +kernel
theorem dX9_hour_275 : decode cX9_hour 275 = .ok (.iload 6, 2) := by decide +kernel
theorem dX9_hour_277 : decode cX9_hour 277 = .ok (.iaload, 1) := by decide +kernel
theorem dX9_hour_278 : decode cX9_hour 278 = .ok (.if_icmp .lt 13, 3) := by decide +kernel
theorem dX9_hour_281 : decode cX9_hour 281 = .ok (.aload_n 0, 1) := by decide +kernel
theorem dX9_hour_282 : decode cX9_hour 282 = .ok (.getfield 65, 3) := by decide +kernel
theorem dX9_hour_285 : decode cX9_hour 285 = .ok (.iload 6, 2) := by decide +kernel
theorem dX9_hour_287 : decode cX9_hour 287 = .ok (.iaload, 1) := by decide +kernel
theorem dX9_hour_288 : decode cX9_hour 288 = .ok (.goto 5, 3) := by decide +kernel
theorem dX9_hour_291 : decode cX9_hour 291 = .ok (.iload 5, 2) := by decide +kernel
theorem dX9_hour_293 : decode cX9_hour 293 = .ok (.istore 5, 2) := by decide +kernel
theorem dX9_hour_295 : decode cX9_hour 295 = .ok (.iinc 6 (-1), 3) := by decide +kernel
theorem dX9_hour_298 : decode cX9_hour 298 = .ok (.goto (-33), 3) := by decide +kernel
theorem dX9_hour_301 : decode cX9_hour 301 = .ok (.iconst 0, 1) := by decide +kernel
theorem dX9_hour_302 : decode cX9_hour 302 = .ok (.istore 6, 2) := by decide +kernel
theorem dX9_hour_304 : decode cX9_hour 304 = .ok (.iload 6, 2) := by decide +kernel
theorem dX9_hour_306 : decode cX9_hour 306 = .ok (.aload_n 0, 1) := by decide +kernel
theorem dX9_hour_307 : decode cX9_hour 307 = .ok (.getfield 138, 3) := by decide +kernel
theorem dX9_hour_310 : decode cX9_hour 310 = .ok (.if_icmp .ge 39, 3) := by decide +kernel
theorem dX9_hour_313 : decode cX9_hour 313 = .ok (.aload_n 0, 1) := by decide +kernel
theorem dX9_hour_314 : decode cX9_hour 314 = .ok (.dup, 1) := by decide +kernel
theorem dX9_hour_315 : decode cX9_hour 315 = .ok (.getfield 169, 3) := by decide +kernel
theorem dX9_hour_318 : decode cX9_hour 318 = .ok (.aload_n 0, 1) := by decide +kernel
theorem dX9_hour_319 : decode cX9_hour 319 = .ok (.getfield 56, 3) := by decide +kernel
theorem dX9_hour_322 : decode cX9_hour 322 = .ok (.iload 6, 2) := by decide +kernel
theorem dX9_hour_324 : decode cX9_hour 324 = .ok (.iaload, 1) := by decide +kernel
theorem dX9_hour_325 : decode cX9_hour 325 = .ok (.aload_n 0, 1) := by decide +kernel
theorem dX9_hour_326 : decode cX9_hour 326 = .ok (.getfield 47, 3) := by decide +kernel
theorem dX9_hour_329 : decode cX9_hour 329 = .ok (.iload 6, 2) := by decide +kernel
theorem dX9_hour_331 : decode cX9_hour 331 = .ok (.iaload, 1) := by decide +kernel
theorem dX9_hour_332 : decode cX9_hour 332 = .ok (.imul, 1) := by decide +kernel
theorem dX9_hour_333 : decode cX9_hour 333 = .ok (.iload 5, 2) := by decide +kernel
theorem dX9_hour_335 : decode cX9_hour 335 = .ok (.imul, 1) := by decide +kernel
theorem dX9_hour_336 : decode cX9_hour 336 = .ok (.bipush 100, 2) := by decide +kernel
theorem dX9_hour_338 : decode cX9_hour 338 = .ok (.idiv, 1) := by decide +kernel
theorem dX9_hour_339 : decode cX9_hour 339 = .ok (.iadd, 1) := by decide +kernel
theorem dX9_hour_340 : decode cX9_hour 340 = .ok (.putfield 169, 3) := by decide +kernel
theorem dX9_hour_343 : decode cX9_hour 343 = .ok (.iinc 6 1, 3) := by decide +kernel
theorem dX9_hour_346 : decode cX9_hour 346 = .ok (.goto (-42), 3) := by decide +kernel
theorem dX9_hour_349 : decode cX9_hour 349 = .ok (.iconst 0, 1) := by decide +kernel
theorem dX9_hour_350 : decode cX9_hour 350 = .ok (.istore 6, 2) := by decide +kernel
theorem dX9_hour_352 : decode cX9_hour 352 = .ok (.iload 6, 2) := by decide +kernel
theorem dX9_hour_354 : decode cX9_hour 354 = .ok (.aload_n 0, 1) := by decide +kernel
theorem dX9_hour_355 : decode cX9_hour 355 = .ok (.getfield 101, 3) := by decide +kernel
theorem dX9_hour_358 : decode cX9_hour 358 = .ok (.if_icmp .ge 63, 3) := by decide +kernel
theorem dX9_hour_361 : decode cX9_hour 361 = .ok (.aload_n 0, 1) := by decide +kernel
theorem dX9_hour_362 : decode cX9_hour 362 = .ok (.getfield 32, 3) := by decide +kernel
theorem dX9_hour_365 : decode cX9_hour 365 = .ok (.iload 6, 2) := by decide +kernel
theorem dX9_hour_367 : decode cX9_hour 367 = .ok (.dup2, 1) := by decide +kernel
theorem dX9_hour_368 : decode cX9_hour 368 = .ok (.iaload, 1) := by decide +kernel
theorem dX9_hour_369 : decode cX9_hour 369 = .ok (.iload 4, 2) := by decide +kernel
theorem dX9_hour_371 : decode cX9_hour 371 = .ok (.aload_n 0, 1) := by decide +kernel
theorem dX9_hour_372 : decode cX9_hour 372 = .ok (.iload 6, 2) := by decide +kernel
theorem dX9_hour_374 : decode cX9_hour 374 = .ok (.invokevirtual 122, 3) := by decide +kernel
theorem dX9_hour_377 : decode cX9_hour 377 = .ok (.imul, 1) := by decide +kernel
theorem dX9_hour_378 : decode cX9_hour 378 = .ok (.iadd, 1) := by decide +kernel
theorem dX9_hour_379 : decode cX9_hour 379 = .ok (.iastore, 1) := by decide +kernel
theorem dX9_hour_380 : decode cX9_hour 380 = .ok (.aload_n 0, 1) := by decide +kernel
theorem dX9_hour_381 : decode cX9_hour 381 = .ok (.getfield 32, 3) := by decide +kernel
theorem dX9_hour_384 : decode cX9_hour 384 = .ok (.iload 6, 2) := by decide +kernel
theorem dX9_hour_386 : decode cX9_hour 386 = .ok (.iaload, 1) := by decide +kernel
theorem dX9_hour_387 : decode cX9_hour 387 = .ok (.sipush 1000, 3) := by decide +kernel
theorem dX9_hour_390 : decode cX9_hour 390 = .ok (.if_icmp .lt 25, 3) := by decide +kernel
theorem dX9_hour_393 : decode cX9_hour 393 = .ok (.aload_n 0, 1) := by decide +kernel
theorem dX9_hour_394 : decode cX9_hour 394 = .ok (.getfield 32, 3) := by decide +kernel
theorem dX9_hour_397 : decode cX9_hour 397 = .ok (.iload 6, 2) := by decide +kernel
theorem dX9_hour_399 : decode cX9_hour 399 = .ok (.dup2, 1) := by decide +kernel
theorem dX9_hour_400 : decode cX9_hour 400 = .ok (.iaload, 1) := by decide +kernel
theorem dX9_hour_401 : decode cX9_hour 401 = .ok (.sipush 1000, 3) := by decide +kernel
theorem dX9_hour_404 : decode cX9_hour 404 = .ok (.isub, 1) := by decide +kernel
theorem dX9_hour_405 : decode cX9_hour 405 = .ok (.iastore, 1) := by decide +kernel
theorem dX9_hour_406 : decode cX9_hour 406 = .ok (.aload_n 0, 1) := by decide +kernel
theorem dX9_hour_407 : decode cX9_hour 407 = .ok (.iload 6, 2) := by decide +kernel
theorem dX9_hour_409 : decode cX9_hour 409 = .ok (.invokevirtual 175, 3) := by decide +kernel
theorem dX9_hour_412 : decode cX9_hour 412 = .ok (.goto (-32), 3) := by decide +kernel
theorem dX9_hour_415 : decode cX9_hour 415 = .ok (.iinc 6 1, 3) := by decide +kernel
theorem dX9_hour_418 : decode cX9_hour 418 = .ok (.goto (-66), 3) := by decide +kernel
theorem dX9_hour_421 : decode cX9_hour 421 = .ok (.aload_n 0, 1) := by decide +kernel
theorem dX9_hour_422 : decode cX9_hour 422 = .ok (.getfield 138, 3) := by decide +kernel
theorem dX9_hour_425 : decode cX9_hour 425 = .ok (.iconst 1, 1) := by decide +kernel
theorem dX9_hour_426 : decode cX9_hour 426 = .ok (.isub, 1) := by decide +kernel
theorem dX9_hour_427 : decode cX9_hour 427 = .ok (.istore 6, 2) := by decide +kernel
theorem dX9_hour_429 : decode cX9_hour 429 = .ok (.iload 6, 2) := by decide +kernel
theorem dX9_hour_431 : decode cX9_hour 431 = .ok (.ifCond .lt 36, 3) := by decide +kernel
theorem dX9_hour_434 : decode cX9_hour 434 = .ok (.aload_n 0, 1) := by decide +kernel
theorem dX9_hour_435 : decode cX9_hour 435 = .ok (.getfield 50, 3) := by decide +kernel
theorem dX9_hour_438 : decode cX9_hour 438 = .ok (.iload 6, 2) := by decide +kernel
theorem dX9_hour_440 : decode cX9_hour 440 = .ok (.dup2, 1) := by decide +kernel
theorem dX9_hour_441 : decode cX9_hour 441 = .ok (.iaload, 1) := by decide +kernel
theorem dX9_hour_442 : decode cX9_hour 442 = .ok (.iconst 1, 1) := by decide +kernel
theorem dX9_hour_443 : decode cX9_hour 443 = .ok (.isub, 1) := by decide +kernel
theorem dX9_hour_444 : decode cX9_hour 444 = .ok (.iastore, 1) := by decide +kernel
theorem dX9_hour_445 : decode cX9_hour 445 = .ok (.aload_n 0, 1) := by decide +kernel
theorem dX9_hour_446 : decode cX9_hour 446 = .ok (.getfield 50, 3) := by decide +kernel
theorem dX9_hour_449 : decode cX9_hour 449 = .ok (.iload 6, 2) := by decide +kernel
theorem dX9_hour_451 : decode cX9_hour 451 = .ok (.iaload, 1) := by decide +kernel
theorem dX9_hour_452 : decode cX9_hour 452 = .ok (.ifCond .ne 9, 3) := by decide +kernel
theorem dX9_hour_455 : decode cX9_hour 455 = .ok (.aload_n 0, 1) := by decide +kernel
theorem dX9_hour_456 : decode cX9_hour 456 = .ok (.iload 6, 2) := by decide +kernel
theorem dX9_hour_458 : decode cX9_hour 458 = .ok (.invokevirtual 153, 3) := by decide +kernel
theorem dX9_hour_461 : decode cX9_hour 461 = .ok (.iinc 6 (-1), 3) := by decide +kernel
theorem dX9_hour_464 : decode cX9_hour 464 = .ok (.goto (-35), 3) := by decide +kernel
theorem dX9_hour_467 : decode cX9_hour 467 = .ok (.aload_n 0, 1) := by decide +kernel
theorem dX9_hour_468 : decode cX9_hour 468 = .ok (.getfield 138, 3) := by decide +kernel
theorem dX9_hour_471 : decode cX9_hour 471 = .ok (.ireturn, 1) := by decide +kernel
theorem dX9_feed_0 : decode cX9_feed 0 = .ok (.aload_n 0, 1) := by decide +kernel
theorem dX9_feed_1 : decode cX9_feed 1 = .ok (.iconst 0, 1) := by decide +kernel
theorem dX9_feed_2 : decode cX9_feed 2 = .ok (.putfield 1, 3) := by decide +kernel
theorem dX9_feed_5 : decode cX9_feed 5 = .ok (.iload_n 3, 1) := by decide +kernel
theorem dX9_feed_6 : decode cX9_feed 6 = .ok (.i2l, 1) := by decide +kernel
theorem dX9_feed_7 : decode cX9_feed 7 = .ok (.lconst 1, 1) := by decide +kernel
theorem dX9_feed_8 : decode cX9_feed 8 = .ok (.ldc2_w 178, 3) := by decide +kernel
theorem dX9_feed_11 : decode cX9_feed 11 = .ok (.invokestatic 104, 3) := by decide +kernel
theorem dX9_feed_14 : decode cX9_feed 14 = .ok (.ifCond .ne 6, 3) := by decide +kernel
theorem dX9_feed_17 : decode cX9_feed 17 = .ok (.ldc 112, 2) := by decide +kernel
theorem dX9_feed_19 : decode cX9_feed 19 = .ok (.ireturn, 1) := by decide +kernel
theorem dX9_feed_20 : decode cX9_feed 20 = .ok (.aload_n 0, 1) := by decide +kernel
theorem dX9_feed_21 : decode cX9_feed 21 = .ok (.getfield 180, 3) := by decide +kernel
theorem dX9_feed_24 : decode cX9_feed 24 = .ok (.iload_n 3, 1) := by decide +kernel
theorem dX9_feed_25 : decode cX9_feed 25 = .ok (.iadd, 1) := by decide +kernel
theorem dX9_feed_26 : decode cX9_feed 26 = .ok (.sipush 300, 3) := by decide +kernel
theorem dX9_feed_29 : decode cX9_feed 29 = .ok (.if_icmp .le 6, 3) := by decide +kernel
theorem dX9_feed_32 : decode cX9_feed 32 = .ok (.ldc 113, 2) := by decide +kernel
theorem dX9_feed_34 : decode cX9_feed 34 = .ok (.ireturn, 1) := by decide +kernel
theorem dX9_feed_35 : decode cX9_feed 35 = .ok (.iload_n 3, 1) := by decide +kernel
theorem dX9_feed_36 : decode cX9_feed 36 = .ok (.iconst 1, 1) := by decide +kernel
theorem dX9_feed_37 : decode cX9_feed 37 = .ok (.isub, 1) := by decide +kernel
theorem dX9_feed_38 : decode cX9_feed 38 = .ok (.istore 4, 2) := by decide +kernel
theorem dX9_feed_40 : decode cX9_feed 40 = .ok (.iload 4, 2) := by decide +kernel
theorem dX9_feed_42 : decode cX9_feed 42 = .ok (.ifCond .lt 40, 3) := by decide +kernel
theorem dX9_feed_45 : decode cX9_feed 45 = .ok (.aload_n 0, 1) := by decide +kernel
theorem dX9_feed_46 : decode cX9_feed 46 = .ok (.getfield 86, 3) := by decide +kernel
theorem dX9_feed_49 : decode cX9_feed 49 = .ok (.aload_n 0, 1) := by decide +kernel
theorem dX9_feed_50 : decode cX9_feed 50 = .ok (.getfield 180, 3) := by decide +kernel
theorem dX9_feed_53 : decode cX9_feed 53 = .ok (.lload_n 1, 1) := by decide +kernel
theorem dX9_feed_54 : decode cX9_feed 54 = .ok (.bipush 8, 2) := by decide +kernel
theorem dX9_feed_56 : decode cX9_feed 56 = .ok (.iload 4, 2) := by decide +kernel
theorem dX9_feed_58 : decode cX9_feed 58 = .ok (.imul, 1) := by decide +kernel
theorem dX9_feed_59 : decode cX9_feed 59 = .ok (.lshr, 1) := by decide +kernel
theorem dX9_feed_60 : decode cX9_feed 60 = .ok (.ldc2_w 183, 3) := by decide +kernel
theorem dX9_feed_63 : decode cX9_feed 63 = .ok (.land, 1) := by decide +kernel
theorem dX9_feed_64 : decode cX9_feed 64 = .ok (.l2i, 1) := by decide +kernel
theorem dX9_feed_65 : decode cX9_feed 65 = .ok (.iastore, 1) := by decide +kernel
theorem dX9_feed_66 : decode cX9_feed 66 = .ok (.aload_n 0, 1) := by decide +kernel
theorem dX9_feed_67 : decode cX9_feed 67 = .ok (.dup, 1) := by decide +kernel
theorem dX9_feed_68 : decode cX9_feed 68 = .ok (.getfield 180, 3) := by decide +kernel
theorem dX9_feed_71 : decode cX9_feed 71 = .ok (.iconst 1, 1) := by decide +kernel
theorem dX9_feed_72 : decode cX9_feed 72 = .ok (.iadd, 1) := by decide +kernel
theorem dX9_feed_73 : decode cX9_feed 73 = .ok (.putfield 180, 3) := by decide +kernel
theorem dX9_feed_76 : decode cX9_feed 76 = .ok (.iinc 4 (-1), 3) := by decide +kernel
theorem dX9_feed_79 : decode cX9_feed 79 = .ok (.goto (-39), 3) := by decide +kernel
theorem dX9_feed_82 : decode cX9_feed 82 = .ok (.aload_n 0, 1) := by decide +kernel
theorem dX9_feed_83 : decode cX9_feed 83 = .ok (.getfield 180, 3) := by decide +kernel
theorem dX9_feed_86 : decode cX9_feed 86 = .ok (.ireturn, 1) := by decide +kernel
theorem dX9_byteAt_0 : decode cX9_byteAt 0 = .ok (.iload_n 1, 1) := by decide +kernel
theorem dX9_byteAt_1 : decode cX9_byteAt 1 = .ok (.aload_n 0, 1) := by decide +kernel
theorem dX9_byteAt_2 : decode cX9_byteAt 2 = .ok (.getfield 185, 3) := by decide +kernel
theorem dX9_byteAt_5 : decode cX9_byteAt 5 = .ok (.if_icmp .ge 12, 3) := by decide +kernel
theorem dX9_byteAt_8 : decode cX9_byteAt 8 = .ok (.aload_n 0, 1) := by decide +kernel
theorem dX9_byteAt_9 : decode cX9_byteAt 9 = .ok (.getfield 86, 3) := by decide +kernel
theorem dX9_byteAt_12 : decode cX9_byteAt 12 = .ok (.iload_n 1, 1) := by decide +kernel
theorem dX9_byteAt_13 : decode cX9_byteAt 13 = .ok (.iaload, 1) := by decide +kernel
theorem dX9_byteAt_14 : decode cX9_byteAt 14 = .ok (.goto 5, 3) := by decide +kernel
theorem dX9_byteAt_17 : decode cX9_byteAt 17 = .ok (.ldc 114, 2) := by decide +kernel
theorem dX9_byteAt_19 : decode cX9_byteAt 19 = .ok (.ireturn, 1) := by decide +kernel
theorem dX9_isLetter_0 : decode cX9_isLetter 0 = .ok (.iload_n 0, 1) := by decide +kernel
theorem dX9_isLetter_1 : decode cX9_isLetter 1 = .ok (.bipush 97, 2) := by decide +kernel
theorem dX9_isLetter_3 : decode cX9_isLetter 3 = .ok (.if_icmp .lt 13, 3) := by decide +kernel
theorem dX9_isLetter_6 : decode cX9_isLetter 6 = .ok (.iload_n 0, 1) := by decide +kernel
theorem dX9_isLetter_7 : decode cX9_isLetter 7 = .ok (.bipush 122, 2) := by decide +kernel
theorem dX9_isLetter_9 : decode cX9_isLetter 9 = .ok (.if_icmp .gt 7, 3) := by decide +kernel
theorem dX9_isLetter_12 : decode cX9_isLetter 12 = .ok (.iconst 1, 1) := by decide +kernel
theorem dX9_isLetter_13 : decode cX9_isLetter 13 = .ok (.goto 4, 3) := by decide +kernel
theorem dX9_isLetter_16 : decode cX9_isLetter 16 = .ok (.iconst 0, 1) := by decide +kernel
theorem dX9_isLetter_17 : decode cX9_isLetter 17 = .ok (.ireturn, 1) := by decide +kernel
theorem dX9_isFigure_0 : decode cX9_isFigure 0 = .ok (.iload_n 0, 1) := by decide +kernel
theorem dX9_isFigure_1 : decode cX9_isFigure 1 = .ok (.bipush 48, 2) := by decide +kernel
theorem dX9_isFigure_3 : decode cX9_isFigure 3 = .ok (.if_icmp .lt 13, 3) := by decide +kernel
theorem dX9_isFigure_6 : decode cX9_isFigure 6 = .ok (.iload_n 0, 1) := by decide +kernel
theorem dX9_isFigure_7 : decode cX9_isFigure 7 = .ok (.bipush 57, 2) := by decide +kernel
theorem dX9_isFigure_9 : decode cX9_isFigure 9 = .ok (.if_icmp .gt 7, 3) := by decide +kernel
theorem dX9_isFigure_12 : decode cX9_isFigure 12 = .ok (.iconst 1, 1) := by decide +kernel
theorem dX9_isFigure_13 : decode cX9_isFigure 13 = .ok (.goto 4, 3) := by decide +kernel
theorem dX9_isFigure_16 : decode cX9_isFigure 16 = .ok (.iconst 0, 1) := by decide +kernel
theorem dX9_isFigure_17 : decode cX9_isFigure 17 = .ok (.ireturn, 1) := by decide +kernel
theorem dX9_step_0 : decode cX9_step 0 = .ok (.aload_n 0, 1) := by decide +kernel
theorem dX9_step_1 : decode cX9_step 1 = .ok (.aload_n 0, 1) := by decide +kernel
theorem dX9_step_2 : decode cX9_step 2 = .ok (.getfield 188, 3) := by decide +kernel
theorem dX9_step_5 : decode cX9_step 5 = .ok (.invokevirtual 191, 3) := by decide +kernel
theorem dX9_step_8 : decode cX9_step 8 = .ok (.bipush 32, 2) := by decide +kernel
theorem dX9_step_10 : decode cX9_step 10 = .ok (.if_icmp .eq 16, 3) := by decide +kernel
theorem dX9_step_13 : decode cX9_step 13 = .ok (.aload_n 0, 1) := by decide +kernel
theorem dX9_step_14 : decode cX9_step 14 = .ok (.aload_n 0, 1) := by decide +kernel
theorem dX9_step_15 : decode cX9_step 15 = .ok (.getfield 188, 3) := by decide +kernel
theorem dX9_step_18 : decode cX9_step 18 = .ok (.invokevirtual 191, 3) := by decide +kernel
theorem dX9_step_21 : decode cX9_step 21 = .ok (.bipush 10, 2) := by decide +kernel
theorem dX9_step_23 : decode cX9_step 23 = .ok (.if_icmp .ne 16, 3) := by decide +kernel
theorem dX9_step_26 : decode cX9_step 26 = .ok (.aload_n 0, 1) := by decide +kernel
theorem dX9_step_27 : decode cX9_step 27 = .ok (.dup, 1) := by decide +kernel
theorem dX9_step_28 : decode cX9_step 28 = .ok (.getfield 188, 3) := by decide +kernel
theorem dX9_step_31 : decode cX9_step 31 = .ok (.iconst 1, 1) := by decide +kernel
theorem dX9_step_32 : decode cX9_step 32 = .ok (.iadd, 1) := by decide +kernel
theorem dX9_step_33 : decode cX9_step 33 = .ok (.putfield 188, 3) := by decide +kernel
theorem dX9_step_36 : decode cX9_step 36 = .ok (.goto (-36), 3) := by decide +kernel
theorem dX9_step_39 : decode cX9_step 39 = .ok (.aload_n 0, 1) := by decide +kernel
theorem dX9_step_40 : decode cX9_step 40 = .ok (.aload_n 0, 1) := by decide +kernel
theorem dX9_step_41 : decode cX9_step 41 = .ok (.getfield 188, 3) := by decide +kernel
theorem dX9_step_44 : decode cX9_step 44 = .ok (.putfield 194, 3) := by decide +kernel
theorem dX9_step_47 : decode cX9_step 47 = .ok (.aload_n 0, 1) := by decide +kernel
theorem dX9_step_48 : decode cX9_step 48 = .ok (.aload_n 0, 1) := by decide +kernel
theorem dX9_step_49 : decode cX9_step 49 = .ok (.getfield 188, 3) := by decide +kernel
theorem dX9_step_52 : decode cX9_step 52 = .ok (.invokevirtual 191, 3) := by decide +kernel
theorem dX9_step_55 : decode cX9_step 55 = .ok (.istore_n 1, 1) := by decide +kernel
theorem dX9_step_56 : decode cX9_step 56 = .ok (.iload_n 1, 1) := by decide +kernel
theorem dX9_step_57 : decode cX9_step 57 = .ok (.ldc 114, 2) := by decide +kernel
theorem dX9_step_59 : decode cX9_step 59 = .ok (.if_icmp .ne 11, 3) := by decide +kernel
theorem dX9_step_62 : decode cX9_step 62 = .ok (.aload_n 0, 1) := by decide +kernel
theorem dX9_step_63 : decode cX9_step 63 = .ok (.iconst 1, 1) := by decide +kernel
theorem dX9_step_64 : decode cX9_step 64 = .ok (.putfield 197, 3) := by decide +kernel
theorem dX9_step_67 : decode cX9_step 67 = .ok (.goto 147, 3) := by decide +kernel
theorem dX9_step_70 : decode cX9_step 70 = .ok (.iload_n 1, 1) := by decide +kernel
theorem dX9_step_71 : decode cX9_step 71 = .ok (.invokestatic 200, 3) := by decide +kernel
theorem dX9_step_74 : decode cX9_step 74 = .ok (.ifCond .eq 56, 3) := by decide +kernel
theorem dX9_step_77 : decode cX9_step 77 = .ok (.aload_n 0, 1) := by decide +kernel
theorem dX9_step_78 : decode cX9_step 78 = .ok (.aload_n 0, 1) := by decide +kernel
theorem dX9_step_79 : decode cX9_step 79 = .ok (.getfield 188, 3) := by decide +kernel
theorem dX9_step_82 : decode cX9_step 82 = .ok (.invokevirtual 191, 3) := by decide +kernel
theorem dX9_step_85 : decode cX9_step 85 = .ok (.invokestatic 200, 3) := by decide +kernel
theorem dX9_step_88 : decode cX9_step 88 = .ok (.ifCond .eq 16, 3) := by decide +kernel
theorem dX9_step_91 : decode cX9_step 91 = .ok (.aload_n 0, 1) := by decide +kernel
theorem dX9_step_92 : decode cX9_step 92 = .ok (.dup, 1) := by decide +kernel
theorem dX9_step_93 : decode cX9_step 93 = .ok (.getfield 188, 3) := by decide +kernel
theorem dX9_step_96 : decode cX9_step 96 = .ok (.iconst 1, 1) := by decide +kernel
theorem dX9_step_97 : decode cX9_step 97 = .ok (.iadd, 1) := by decide +kernel
theorem dX9_step_98 : decode cX9_step 98 = .ok (.putfield 188, 3) := by decide +kernel
theorem dX9_step_101 : decode cX9_step 101 = .ok (.goto (-24), 3) := by decide +kernel
theorem dX9_step_104 : decode cX9_step 104 = .ok (.aload_n 0, 1) := by decide +kernel
theorem dX9_step_105 : decode cX9_step 105 = .ok (.aload_n 0, 1) := by decide +kernel
theorem dX9_step_106 : decode cX9_step 106 = .ok (.getfield 188, 3) := by decide +kernel
theorem dX9_step_109 : decode cX9_step 109 = .ok (.aload_n 0, 1) := by decide +kernel
theorem dX9_step_110 : decode cX9_step 110 = .ok (.getfield 194, 3) := by decide +kernel
theorem dX9_step_113 : decode cX9_step 113 = .ok (.isub, 1) := by decide +kernel
theorem dX9_step_114 : decode cX9_step 114 = .ok (.bipush 6, 2) := by decide +kernel
theorem dX9_step_116 : decode cX9_step 116 = .ok (.if_icmp .le 7, 3) := by decide +kernel
theorem dX9_step_119 : decode cX9_step 119 = .ok (.iconst 0, 1) := by decide +kernel
theorem dX9_step_120 : decode cX9_step 120 = .ok (.goto 4, 3) := by decide +kernel
theorem dX9_step_123 : decode cX9_step 123 = .ok (.iconst 2, 1) := by decide +kernel
theorem dX9_step_124 : decode cX9_step 124 = .ok (.putfield 197, 3) := by decide +kernel
theorem dX9_step_127 : decode cX9_step 127 = .ok (.goto 87, 3) := by decide +kernel
theorem dX9_step_130 : decode cX9_step 130 = .ok (.iload_n 1, 1) := by decide +kernel
theorem dX9_step_131 : decode cX9_step 131 = .ok (.invokestatic 203, 3) := by decide +kernel
theorem dX9_step_134 : decode cX9_step 134 = .ok (.ifCond .eq 55, 3) := by decide +kernel
theorem dX9_step_137 : decode cX9_step 137 = .ok (.aload_n 0, 1) := by decide +kernel
theorem dX9_step_138 : decode cX9_step 138 = .ok (.aload_n 0, 1) := by decide +kernel
theorem dX9_step_139 : decode cX9_step 139 = .ok (.getfield 188, 3) := by decide +kernel
theorem dX9_step_142 : decode cX9_step 142 = .ok (.invokevirtual 191, 3) := by decide +kernel
theorem dX9_step_145 : decode cX9_step 145 = .ok (.invokestatic 203, 3) := by decide +kernel
theorem dX9_step_148 : decode cX9_step 148 = .ok (.ifCond .eq 16, 3) := by decide +kernel
theorem dX9_step_151 : decode cX9_step 151 = .ok (.aload_n 0, 1) := by decide +kernel
theorem dX9_step_152 : decode cX9_step 152 = .ok (.dup, 1) := by decide +kernel
theorem dX9_step_153 : decode cX9_step 153 = .ok (.getfield 188, 3) := by decide +kernel
theorem dX9_step_156 : decode cX9_step 156 = .ok (.iconst 1, 1) := by decide +kernel
theorem dX9_step_157 : decode cX9_step 157 = .ok (.iadd, 1) := by decide +kernel
theorem dX9_step_158 : decode cX9_step 158 = .ok (.putfield 188, 3) := by decide +kernel
theorem dX9_step_161 : decode cX9_step 161 = .ok (.goto (-24), 3) := by decide +kernel
theorem dX9_step_164 : decode cX9_step 164 = .ok (.aload_n 0, 1) := by decide +kernel
theorem dX9_step_165 : decode cX9_step 165 = .ok (.aload_n 0, 1) := by decide +kernel
theorem dX9_step_166 : decode cX9_step 166 = .ok (.getfield 188, 3) := by decide +kernel
theorem dX9_step_169 : decode cX9_step 169 = .ok (.aload_n 0, 1) := by decide +kernel
theorem dX9_step_170 : decode cX9_step 170 = .ok (.getfield 194, 3) := by decide +kernel
theorem dX9_step_173 : decode cX9_step 173 = .ok (.isub, 1) := by decide +kernel
theorem dX9_step_174 : decode cX9_step 174 = .ok (.iconst 5, 1) := by decide +kernel
theorem dX9_step_175 : decode cX9_step 175 = .ok (.if_icmp .le 7, 3) := by decide +kernel
theorem dX9_step_178 : decode cX9_step 178 = .ok (.iconst 0, 1) := by decide +kernel
theorem dX9_step_179 : decode cX9_step 179 = .ok (.goto 4, 3) := by decide +kernel
theorem dX9_step_182 : decode cX9_step 182 = .ok (.iconst 3, 1) := by decide +kernel
theorem dX9_step_183 : decode cX9_step 183 = .ok (.putfield 197, 3) := by decide +kernel
theorem dX9_step_186 : decode cX9_step 186 = .ok (.goto 28, 3) := by decide +kernel
theorem dX9_step_189 : decode cX9_step 189 = .ok (.aload_n 0, 1) := by decide +kernel
theorem dX9_step_190 : decode cX9_step 190 = .ok (.dup, 1) := by decide +kernel
theorem dX9_step_191 : decode cX9_step 191 = .ok (.getfield 188, 3) := by decide +kernel
theorem dX9_step_194 : decode cX9_step 194 = .ok (.iconst 1, 1) := by decide +kernel
theorem dX9_step_195 : decode cX9_step 195 = .ok (.iadd, 1) := by decide +kernel
theorem dX9_step_196 : decode cX9_step 196 = .ok (.putfield 188, 3) := by decide +kernel
theorem dX9_step_199 : decode cX9_step 199 = .ok (.aload_n 0, 1) := by decide +kernel
theorem dX9_step_200 : decode cX9_step 200 = .ok (.iload_n 1, 1) := by decide +kernel
theorem dX9_step_201 : decode cX9_step 201 = .ok (.bipush 59, 2) := by decide +kernel
theorem dX9_step_203 : decode cX9_step 203 = .ok (.if_icmp .ne 7, 3) := by decide +kernel
theorem dX9_step_206 : decode cX9_step 206 = .ok (.iconst 4, 1) := by decide +kernel
theorem dX9_step_207 : decode cX9_step 207 = .ok (.goto 4, 3) := by decide +kernel
theorem dX9_step_210 : decode cX9_step 210 = .ok (.iconst 0, 1) := by decide +kernel
theorem dX9_step_211 : decode cX9_step 211 = .ok (.putfield 197, 3) := by decide +kernel
theorem dX9_step_214 : decode cX9_step 214 = .ok (.aload_n 0, 1) := by decide +kernel
theorem dX9_step_215 : decode cX9_step 215 = .ok (.aload_n 0, 1) := by decide +kernel
theorem dX9_step_216 : decode cX9_step 216 = .ok (.getfield 188, 3) := by decide +kernel
theorem dX9_step_219 : decode cX9_step 219 = .ok (.putfield 206, 3) := by decide +kernel
theorem dX9_step_222 : decode cX9_step 222 = .ok (.return_, 1) := by decide +kernel
theorem dX9_bad_0 : decode cX9_bad 0 = .ok (.aload_n 0, 1) := by decide +kernel
theorem dX9_bad_1 : decode cX9_bad 1 = .ok (.getfield 209, 3) := by decide +kernel
theorem dX9_bad_4 : decode cX9_bad 4 = .ok (.ifCond .ne 16, 3) := by decide +kernel
theorem dX9_bad_7 : decode cX9_bad 7 = .ok (.aload_n 0, 1) := by decide +kernel
theorem dX9_bad_8 : decode cX9_bad 8 = .ok (.iload_n 1, 1) := by decide +kernel
theorem dX9_bad_9 : decode cX9_bad 9 = .ok (.putfield 209, 3) := by decide +kernel
theorem dX9_bad_12 : decode cX9_bad 12 = .ok (.aload_n 0, 1) := by decide +kernel
theorem dX9_bad_13 : decode cX9_bad 13 = .ok (.aload_n 0, 1) := by decide +kernel
theorem dX9_bad_14 : decode cX9_bad 14 = .ok (.getfield 194, 3) := by decide +kernel
theorem dX9_bad_17 : decode cX9_bad 17 = .ok (.putfield 212, 3) := by decide +kernel
theorem dX9_bad_20 : decode cX9_bad 20 = .ok (.return_, 1) := by decide +kernel
theorem dX9_need_0 : decode cX9_need 0 = .ok (.iload_n 1, 1) := by decide +kernel
theorem dX9_need_1 : decode cX9_need 1 = .ok (.ifCond .ne 8, 3) := by decide +kernel
theorem dX9_need_4 : decode cX9_need 4 = .ok (.aload_n 0, 1) := by decide +kernel
theorem dX9_need_5 : decode cX9_need 5 = .ok (.iconst 1, 1) := by decide +kernel
theorem dX9_need_6 : decode cX9_need 6 = .ok (.invokevirtual 215, 3) := by decide +kernel
theorem dX9_need_9 : decode cX9_need 9 = .ok (.aload_n 0, 1) := by decide +kernel
theorem dX9_need_10 : decode cX9_need 10 = .ok (.getfield 209, 3) := by decide +kernel
theorem dX9_need_13 : decode cX9_need 13 = .ok (.ifCond .ne 7, 3) := by decide +kernel
theorem dX9_need_16 : decode cX9_need 16 = .ok (.aload_n 0, 1) := by decide +kernel
theorem dX9_need_17 : decode cX9_need 17 = .ok (.invokevirtual 218, 3) := by decide +kernel
theorem dX9_need_20 : decode cX9_need 20 = .ok (.return_, 1) := by decide +kernel
theorem dX9_word_0 : decode cX9_word 0 = .ok (.lconst 0, 1) := by decide +kernel
theorem dX9_word_1 : decode cX9_word 1 = .ok (.lstore_n 1, 1) := by decide +kernel
theorem dX9_word_2 : decode cX9_word 2 = .ok (.aload_n 0, 1) := by decide +kernel
theorem dX9_word_3 : decode cX9_word 3 = .ok (.getfield 194, 3) := by decide +kernel
theorem dX9_word_6 : decode cX9_word 6 = .ok (.istore_n 3, 1) := by decide +kernel
theorem dX9_word_7 : decode cX9_word 7 = .ok (.iload_n 3, 1) := by decide +kernel
theorem dX9_word_8 : decode cX9_word 8 = .ok (.aload_n 0, 1) := by decide +kernel
theorem dX9_word_9 : decode cX9_word 9 = .ok (.getfield 206, 3) := by decide +kernel
theorem dX9_word_12 : decode cX9_word 12 = .ok (.if_icmp .ge 30, 3) := by decide +kernel
theorem dX9_word_15 : decode cX9_word 15 = .ok (.aload_n 0, 1) := by decide +kernel
theorem dX9_word_16 : decode cX9_word 16 = .ok (.getfield 197, 3) := by decide +kernel
theorem dX9_word_19 : decode cX9_word 19 = .ok (.iconst 2, 1) := by decide +kernel
theorem dX9_word_20 : decode cX9_word 20 = .ok (.if_icmp .ne 22, 3) := by decide +kernel
theorem dX9_word_23 : decode cX9_word 23 = .ok (.lload_n 1, 1) := by decide +kernel
theorem dX9_word_24 : decode cX9_word 24 = .ok (.bipush 8, 2) := by decide +kernel
theorem dX9_word_26 : decode cX9_word 26 = .ok (.lshl, 1) := by decide +kernel
theorem dX9_word_27 : decode cX9_word 27 = .ok (.aload_n 0, 1) := by decide +kernel
theorem dX9_word_28 : decode cX9_word 28 = .ok (.getfield 86, 3) := by decide +kernel
theorem dX9_word_31 : decode cX9_word 31 = .ok (.iload_n 3, 1) := by decide +kernel
theorem dX9_word_32 : decode cX9_word 32 = .ok (.iaload, 1) := by decide +kernel
theorem dX9_word_33 : decode cX9_word 33 = .ok (.i2l, 1) := by decide +kernel
theorem dX9_word_34 : decode cX9_word 34 = .ok (.lor, 1) := by decide +kernel
theorem dX9_word_35 : decode cX9_word 35 = .ok (.lstore_n 1, 1) := by decide +kernel
theorem dX9_word_36 : decode cX9_word 36 = .ok (.iinc 3 1, 3) := by decide +kernel
theorem dX9_word_39 : decode cX9_word 39 = .ok (.goto (-32), 3) := by decide +kernel
theorem dX9_word_42 : decode cX9_word 42 = .ok (.lload_n 1, 1) := by decide +kernel
theorem dX9_word_43 : decode cX9_word 43 = .ok (.lreturn, 1) := by decide +kernel
theorem dX9_numberIn_0 : decode cX9_numberIn 0 = .ok (.iconst 0, 1) := by decide +kernel
theorem dX9_numberIn_1 : decode cX9_numberIn 1 = .ok (.istore_n 3, 1) := by decide +kernel
theorem dX9_numberIn_2 : decode cX9_numberIn 2 = .ok (.aload_n 0, 1) := by decide +kernel
theorem dX9_numberIn_3 : decode cX9_numberIn 3 = .ok (.getfield 194, 3) := by decide +kernel
theorem dX9_numberIn_6 : decode cX9_numberIn 6 = .ok (.istore 4, 2) := by decide +kernel
theorem dX9_numberIn_8 : decode cX9_numberIn 8 = .ok (.iload 4, 2) := by decide +kernel
theorem dX9_numberIn_10 : decode cX9_numberIn 10 = .ok (.aload_n 0, 1) := by decide +kernel
theorem dX9_numberIn_11 : decode cX9_numberIn 11 = .ok (.getfield 206, 3) := by decide +kernel
theorem dX9_numberIn_14 : decode cX9_numberIn 14 = .ok (.if_icmp .ge 33, 3) := by decide +kernel
theorem dX9_numberIn_17 : decode cX9_numberIn 17 = .ok (.aload_n 0, 1) := by decide +kernel
theorem dX9_numberIn_18 : decode cX9_numberIn 18 = .ok (.getfield 197, 3) := by decide +kernel
theorem dX9_numberIn_21 : decode cX9_numberIn 21 = .ok (.iconst 3, 1) := by decide +kernel
theorem dX9_numberIn_22 : decode cX9_numberIn 22 = .ok (.if_icmp .ne 25, 3) := by decide +kernel
theorem dX9_numberIn_25 : decode cX9_numberIn 25 = .ok (.bipush 10, 2) := by decide +kernel
theorem dX9_numberIn_27 : decode cX9_numberIn 27 = .ok (.iload_n 3, 1) := by decide +kernel
theorem dX9_numberIn_28 : decode cX9_numberIn 28 = .ok (.imul, 1) := by decide +kernel
theorem dX9_numberIn_29 : decode cX9_numberIn 29 = .ok (.aload_n 0, 1) := by decide +kernel
theorem dX9_numberIn_30 : decode cX9_numberIn 30 = .ok (.getfield 86, 3) := by decide +kernel
theorem dX9_numberIn_33 : decode cX9_numberIn 33 = .ok (.iload 4, 2) := by decide +kernel
theorem dX9_numberIn_35 : decode cX9_numberIn 35 = .ok (.iaload, 1) := by decide +kernel
theorem dX9_numberIn_36 : decode cX9_numberIn 36 = .ok (.iadd, 1) := by decide +kernel
theorem dX9_numberIn_37 : decode cX9_numberIn 37 = .ok (.bipush 48, 2) := by decide +kernel
theorem dX9_numberIn_39 : decode cX9_numberIn 39 = .ok (.isub, 1) := by decide +kernel
theorem dX9_numberIn_40 : decode cX9_numberIn 40 = .ok (.istore_n 3, 1) := by decide +kernel
theorem dX9_numberIn_41 : decode cX9_numberIn 41 = .ok (.iinc 4 1, 3) := by decide +kernel
theorem dX9_numberIn_44 : decode cX9_numberIn 44 = .ok (.goto (-36), 3) := by decide +kernel
theorem dX9_numberIn_47 : decode cX9_numberIn 47 = .ok (.aload_n 0, 1) := by decide +kernel
theorem dX9_numberIn_48 : decode cX9_numberIn 48 = .ok (.getfield 197, 3) := by decide +kernel
theorem dX9_numberIn_51 : decode cX9_numberIn 51 = .ok (.iconst 3, 1) := by decide +kernel
theorem dX9_numberIn_52 : decode cX9_numberIn 52 = .ok (.if_icmp .ne 20, 3) := by decide +kernel
theorem dX9_numberIn_55 : decode cX9_numberIn 55 = .ok (.iload_n 3, 1) := by decide +kernel
theorem dX9_numberIn_56 : decode cX9_numberIn 56 = .ok (.i2l, 1) := by decide +kernel
theorem dX9_numberIn_57 : decode cX9_numberIn 57 = .ok (.iload_n 1, 1) := by decide +kernel
theorem dX9_numberIn_58 : decode cX9_numberIn 58 = .ok (.i2l, 1) := by decide +kernel
theorem dX9_numberIn_59 : decode cX9_numberIn 59 = .ok (.iload_n 2, 1) := by decide +kernel
theorem dX9_numberIn_60 : decode cX9_numberIn 60 = .ok (.i2l, 1) := by decide +kernel
theorem dX9_numberIn_61 : decode cX9_numberIn 61 = .ok (.invokestatic 104, 3) := by decide +kernel
theorem dX9_numberIn_64 : decode cX9_numberIn 64 = .ok (.ifCond .ne 8, 3) := by decide +kernel
theorem dX9_numberIn_67 : decode cX9_numberIn 67 = .ok (.aload_n 0, 1) := by decide +kernel
theorem dX9_numberIn_68 : decode cX9_numberIn 68 = .ok (.iconst 2, 1) := by decide +kernel
theorem dX9_numberIn_69 : decode cX9_numberIn 69 = .ok (.invokevirtual 215, 3) := by decide +kernel
theorem dX9_numberIn_72 : decode cX9_numberIn 72 = .ok (.aload_n 0, 1) := by decide +kernel
theorem dX9_numberIn_73 : decode cX9_numberIn 73 = .ok (.aload_n 0, 1) := by decide +kernel
theorem dX9_numberIn_74 : decode cX9_numberIn 74 = .ok (.getfield 197, 3) := by decide +kernel
theorem dX9_numberIn_77 : decode cX9_numberIn 77 = .ok (.iconst 3, 1) := by decide +kernel
theorem dX9_numberIn_78 : decode cX9_numberIn 78 = .ok (.if_icmp .ne 7, 3) := by decide +kernel
theorem dX9_numberIn_81 : decode cX9_numberIn 81 = .ok (.iconst 1, 1) := by decide +kernel
theorem dX9_numberIn_82 : decode cX9_numberIn 82 = .ok (.goto 4, 3) := by decide +kernel
theorem dX9_numberIn_85 : decode cX9_numberIn 85 = .ok (.iconst 0, 1) := by decide +kernel
theorem dX9_numberIn_86 : decode cX9_numberIn 86 = .ok (.invokevirtual 221, 3) := by decide +kernel
theorem dX9_numberIn_89 : decode cX9_numberIn 89 = .ok (.iload_n 3, 1) := by decide +kernel
theorem dX9_numberIn_90 : decode cX9_numberIn 90 = .ok (.ireturn, 1) := by decide +kernel
theorem dX9_readLine_0 : decode cX9_readLine 0 = .ok (.aload_n 0, 1) := by decide +kernel
theorem dX9_readLine_1 : decode cX9_readLine 1 = .ok (.invokevirtual 225, 3) := by decide +kernel
theorem dX9_readLine_4 : decode cX9_readLine 4 = .ok (.lstore_n 1, 1) := by decide +kernel
theorem dX9_readLine_5 : decode cX9_readLine 5 = .ok (.lload_n 1, 1) := by decide +kernel
theorem dX9_readLine_6 : decode cX9_readLine 6 = .ok (.ldc2_w 229, 3) := by decide +kernel
theorem dX9_readLine_9 : decode cX9_readLine 9 = .ok (.lcmp, 1) := by decide +kernel
theorem dX9_readLine_10 : decode cX9_readLine 10 = .ok (.ifCond .ne 11, 3) := by decide +kernel
theorem dX9_readLine_13 : decode cX9_readLine 13 = .ok (.aload_n 0, 1) := by decide +kernel
theorem dX9_readLine_14 : decode cX9_readLine 14 = .ok (.getfield 231, 3) := by decide +kernel
theorem dX9_readLine_17 : decode cX9_readLine 17 = .ok (.iconst 5, 1) := by decide +kernel
theorem dX9_readLine_18 : decode cX9_readLine 18 = .ok (.if_icmp .eq 19, 3) := by decide +kernel
theorem dX9_readLine_21 : decode cX9_readLine 21 = .ok (.lload_n 1, 1) := by decide +kernel
theorem dX9_readLine_22 : decode cX9_readLine 22 = .ok (.ldc2_w 234, 3) := by decide +kernel
theorem dX9_readLine_25 : decode cX9_readLine 25 = .ok (.lcmp, 1) := by decide +kernel
theorem dX9_readLine_26 : decode cX9_readLine 26 = .ok (.ifCond .ne 16, 3) := by decide +kernel
theorem dX9_readLine_29 : decode cX9_readLine 29 = .ok (.aload_n 0, 1) := by decide +kernel
theorem dX9_readLine_30 : decode cX9_readLine 30 = .ok (.getfield 236, 3) := by decide +kernel
theorem dX9_readLine_33 : decode cX9_readLine 33 = .ok (.iconst 5, 1) := by decide +kernel
theorem dX9_readLine_34 : decode cX9_readLine 34 = .ok (.if_icmp .ne 8, 3) := by decide +kernel
theorem dX9_readLine_37 : decode cX9_readLine 37 = .ok (.aload_n 0, 1) := by decide +kernel
theorem dX9_readLine_38 : decode cX9_readLine 38 = .ok (.iconst 3, 1) := by decide +kernel
theorem dX9_readLine_39 : decode cX9_readLine 39 = .ok (.invokevirtual 215, 3) := by decide +kernel
theorem dX9_readLine_42 : decode cX9_readLine 42 = .ok (.aload_n 0, 1) := by decide +kernel
theorem dX9_readLine_43 : decode cX9_readLine 43 = .ok (.lload_n 1, 1) := by decide +kernel
theorem dX9_readLine_44 : decode cX9_readLine 44 = .ok (.ldc2_w 239, 3) := by decide +kernel
theorem dX9_readLine_47 : decode cX9_readLine 47 = .ok (.lcmp, 1) := by decide +kernel
theorem dX9_readLine_48 : decode cX9_readLine 48 = .ok (.ifCond .eq 19, 3) := by decide +kernel
theorem dX9_readLine_51 : decode cX9_readLine 51 = .ok (.lload_n 1, 1) := by decide +kernel
theorem dX9_readLine_52 : decode cX9_readLine 52 = .ok (.ldc2_w 229, 3) := by decide +kernel
theorem dX9_readLine_55 : decode cX9_readLine 55 = .ok (.lcmp, 1) := by decide +kernel
theorem dX9_readLine_56 : decode cX9_readLine 56 = .ok (.ifCond .eq 11, 3) := by decide +kernel
theorem dX9_readLine_59 : decode cX9_readLine 59 = .ok (.lload_n 1, 1) := by decide +kernel
theorem dX9_readLine_60 : decode cX9_readLine 60 = .ok (.ldc2_w 234, 3) := by decide +kernel
theorem dX9_readLine_63 : decode cX9_readLine 63 = .ok (.lcmp, 1) := by decide +kernel
theorem dX9_readLine_64 : decode cX9_readLine 64 = .ok (.ifCond .ne 7, 3) := by decide +kernel
theorem dX9_readLine_67 : decode cX9_readLine 67 = .ok (.iconst 1, 1) := by decide +kernel
theorem dX9_readLine_68 : decode cX9_readLine 68 = .ok (.goto 4, 3) := by decide +kernel
theorem dX9_readLine_71 : decode cX9_readLine 71 = .ok (.iconst 0, 1) := by decide +kernel
theorem dX9_readLine_72 : decode cX9_readLine 72 = .ok (.invokevirtual 221, 3) := by decide +kernel
theorem dX9_readLine_75 : decode cX9_readLine 75 = .ok (.aload_n 0, 1) := by decide +kernel
theorem dX9_readLine_76 : decode cX9_readLine 76 = .ok (.getfield 209, 3) := by decide +kernel
theorem dX9_readLine_79 : decode cX9_readLine 79 = .ok (.ifCond .le 4, 3) := by decide +kernel
theorem dX9_readLine_82 : decode cX9_readLine 82 = .ok (.return_, 1) := by decide +kernel
theorem dX9_readLine_83 : decode cX9_readLine 83 = .ok (.lload_n 1, 1) := by decide +kernel
theorem dX9_readLine_84 : decode cX9_readLine 84 = .ok (.ldc2_w 239, 3) := by decide +kernel
theorem dX9_readLine_87 : decode cX9_readLine 87 = .ok (.lcmp, 1) := by decide +kernel
theorem dX9_readLine_88 : decode cX9_readLine 88 = .ok (.ifCond .ne 73, 3) := by decide +kernel
theorem dX9_readLine_91 : decode cX9_readLine 91 = .ok (.aload_n 0, 1) := by decide +kernel
theorem dX9_readLine_92 : decode cX9_readLine 92 = .ok (.invokevirtual 225, 3) := by decide +kernel
theorem dX9_readLine_95 : decode cX9_readLine 95 = .ok (.lstore_n 3, 1) := by decide +kernel
theorem dX9_readLine_96 : decode cX9_readLine 96 = .ok (.aload_n 0, 1) := by decide +kernel
theorem dX9_readLine_97 : decode cX9_readLine 97 = .ok (.lload_n 3, 1) := by decide +kernel
theorem dX9_readLine_98 : decode cX9_readLine 98 = .ok (.ldc2_w 241, 3) := by decide +kernel
theorem dX9_readLine_101 : decode cX9_readLine 101 = .ok (.lcmp, 1) := by decide +kernel
theorem dX9_readLine_102 : decode cX9_readLine 102 = .ok (.ifCond .ne 7, 3) := by decide +kernel
theorem dX9_readLine_105 : decode cX9_readLine 105 = .ok (.iconst 1, 1) := by decide +kernel
theorem dX9_readLine_106 : decode cX9_readLine 106 = .ok (.goto 16, 3) := by decide +kernel
theorem dX9_readLine_109 : decode cX9_readLine 109 = .ok (.lload_n 3, 1) := by decide +kernel
theorem dX9_readLine_110 : decode cX9_readLine 110 = .ok (.ldc2_w 243, 3) := by decide +kernel
theorem dX9_readLine_113 : decode cX9_readLine 113 = .ok (.lcmp, 1) := by decide +kernel
theorem dX9_readLine_114 : decode cX9_readLine 114 = .ok (.ifCond .ne 7, 3) := by decide +kernel
theorem dX9_readLine_117 : decode cX9_readLine 117 = .ok (.iconst 2, 1) := by decide +kernel
theorem dX9_readLine_118 : decode cX9_readLine 118 = .ok (.goto 4, 3) := by decide +kernel
theorem dX9_readLine_121 : decode cX9_readLine 121 = .ok (.iconst 0, 1) := by decide +kernel
theorem dX9_readLine_122 : decode cX9_readLine 122 = .ok (.putfield 245, 3) := by decide +kernel
theorem dX9_readLine_125 : decode cX9_readLine 125 = .ok (.aload_n 0, 1) := by decide +kernel
theorem dX9_readLine_126 : decode cX9_readLine 126 = .ok (.lload_n 3, 1) := by decide +kernel
theorem dX9_readLine_127 : decode cX9_readLine 127 = .ok (.ldc2_w 241, 3) := by decide +kernel
theorem dX9_readLine_130 : decode cX9_readLine 130 = .ok (.lcmp, 1) := by decide +kernel
theorem dX9_readLine_131 : decode cX9_readLine 131 = .ok (.ifCond .eq 19, 3) := by decide +kernel
theorem dX9_readLine_134 : decode cX9_readLine 134 = .ok (.lload_n 3, 1) := by decide +kernel
theorem dX9_readLine_135 : decode cX9_readLine 135 = .ok (.ldc2_w 243, 3) := by decide +kernel
theorem dX9_readLine_138 : decode cX9_readLine 138 = .ok (.lcmp, 1) := by decide +kernel
theorem dX9_readLine_139 : decode cX9_readLine 139 = .ok (.ifCond .eq 11, 3) := by decide +kernel
theorem dX9_readLine_142 : decode cX9_readLine 142 = .ok (.lload_n 3, 1) := by decide +kernel
theorem dX9_readLine_143 : decode cX9_readLine 143 = .ok (.ldc2_w 248, 3) := by decide +kernel
theorem dX9_readLine_146 : decode cX9_readLine 146 = .ok (.lcmp, 1) := by decide +kernel
theorem dX9_readLine_147 : decode cX9_readLine 147 = .ok (.ifCond .ne 7, 3) := by decide +kernel
theorem dX9_readLine_150 : decode cX9_readLine 150 = .ok (.iconst 1, 1) := by decide +kernel
theorem dX9_readLine_151 : decode cX9_readLine 151 = .ok (.goto 4, 3) := by decide +kernel
theorem dX9_readLine_154 : decode cX9_readLine 154 = .ok (.iconst 0, 1) := by decide +kernel
theorem dX9_readLine_155 : decode cX9_readLine 155 = .ok (.invokevirtual 221, 3) := by decide +kernel
theorem dX9_readLine_158 : decode cX9_readLine 158 = .ok (.goto 184, 3) := by decide +kernel
theorem dX9_readLine_161 : decode cX9_readLine 161 = .ok (.lload_n 1, 1) := by decide +kernel
theorem dX9_readLine_162 : decode cX9_readLine 162 = .ok (.ldc2_w 229, 3) := by decide +kernel
theorem dX9_readLine_165 : decode cX9_readLine 165 = .ok (.lcmp, 1) := by decide +kernel
theorem dX9_readLine_166 : decode cX9_readLine 166 = .ok (.ifCond .ne 7, 3) := by decide +kernel
theorem dX9_readLine_169 : decode cX9_readLine 169 = .ok (.iconst 1, 1) := by decide +kernel
theorem dX9_readLine_170 : decode cX9_readLine 170 = .ok (.goto 4, 3) := by decide +kernel
theorem dX9_readLine_173 : decode cX9_readLine 173 = .ok (.iconst 0, 1) := by decide +kernel
theorem dX9_readLine_174 : decode cX9_readLine 174 = .ok (.istore_n 3, 1) := by decide +kernel
theorem dX9_readLine_175 : decode cX9_readLine 175 = .ok (.iload_n 3, 1) := by decide +kernel
theorem dX9_readLine_176 : decode cX9_readLine 176 = .ok (.ifCond .eq 7, 3) := by decide +kernel
theorem dX9_readLine_179 : decode cX9_readLine 179 = .ok (.iconst 1, 1) := by decide +kernel
theorem dX9_readLine_180 : decode cX9_readLine 180 = .ok (.goto 27, 3) := by decide +kernel
theorem dX9_readLine_183 : decode cX9_readLine 183 = .ok (.aload_n 0, 1) := by decide +kernel
theorem dX9_readLine_184 : decode cX9_readLine 184 = .ok (.getfield 236, 3) := by decide +kernel
theorem dX9_readLine_187 : decode cX9_readLine 187 = .ok (.ifCond .ne 7, 3) := by decide +kernel
theorem dX9_readLine_190 : decode cX9_readLine 190 = .ok (.iconst 0, 1) := by decide +kernel
theorem dX9_readLine_191 : decode cX9_readLine 191 = .ok (.goto 16, 3) := by decide +kernel
theorem dX9_readLine_194 : decode cX9_readLine 194 = .ok (.aload_n 0, 1) := by decide +kernel
theorem dX9_readLine_195 : decode cX9_readLine 195 = .ok (.getfield 80, 3) := by decide +kernel
theorem dX9_readLine_198 : decode cX9_readLine 198 = .ok (.aload_n 0, 1) := by decide +kernel
theorem dX9_readLine_199 : decode cX9_readLine 199 = .ok (.getfield 236, 3) := by decide +kernel
theorem dX9_readLine_202 : decode cX9_readLine 202 = .ok (.iconst 1, 1) := by decide +kernel
theorem dX9_readLine_203 : decode cX9_readLine 203 = .ok (.isub, 1) := by decide +kernel
theorem dX9_readLine_204 : decode cX9_readLine 204 = .ok (.iaload, 1) := by decide +kernel
theorem dX9_readLine_205 : decode cX9_readLine 205 = .ok (.iconst 1, 1) := by decide +kernel
theorem dX9_readLine_206 : decode cX9_readLine 206 = .ok (.iadd, 1) := by decide +kernel
theorem dX9_readLine_207 : decode cX9_readLine 207 = .ok (.istore 4, 2) := by decide +kernel
theorem dX9_readLine_209 : decode cX9_readLine 209 = .ok (.aload_n 0, 1) := by decide +kernel
theorem dX9_readLine_210 : decode cX9_readLine 210 = .ok (.iload 4, 2) := by decide +kernel
theorem dX9_readLine_212 : decode cX9_readLine 212 = .ok (.iload_n 3, 1) := by decide +kernel
theorem dX9_readLine_213 : decode cX9_readLine 213 = .ok (.ifCond .eq 8, 3) := by decide +kernel
theorem dX9_readLine_216 : decode cX9_readLine 216 = .ok (.bipush 60, 2) := by decide +kernel
theorem dX9_readLine_218 : decode cX9_readLine 218 = .ok (.goto 5, 3) := by decide +kernel
theorem dX9_readLine_221 : decode cX9_readLine 221 = .ok (.ldc 250, 2) := by decide +kernel
theorem dX9_readLine_223 : decode cX9_readLine 223 = .ok (.invokevirtual 251, 3) := by decide +kernel
theorem dX9_readLine_226 : decode cX9_readLine 226 = .ok (.istore 5, 2) := by decide +kernel
theorem dX9_readLine_228 : decode cX9_readLine 228 = .ok (.aload_n 0, 1) := by decide +kernel
theorem dX9_readLine_229 : decode cX9_readLine 229 = .ok (.aload_n 0, 1) := by decide +kernel
theorem dX9_readLine_230 : decode cX9_readLine 230 = .ok (.invokevirtual 225, 3) := by decide +kernel
theorem dX9_readLine_233 : decode cX9_readLine 233 = .ok (.ldc2_w 255, 3) := by decide +kernel
theorem dX9_readLine_236 : decode cX9_readLine 236 = .ok (.lcmp, 1) := by decide +kernel
theorem dX9_readLine_237 : decode cX9_readLine 237 = .ok (.ifCond .ne 7, 3) := by decide +kernel
theorem dX9_readLine_240 : decode cX9_readLine 240 = .ok (.iconst 1, 1) := by decide +kernel
theorem dX9_readLine_241 : decode cX9_readLine 241 = .ok (.goto 4, 3) := by decide +kernel
theorem dX9_readLine_244 : decode cX9_readLine 244 = .ok (.iconst 0, 1) := by decide +kernel
theorem dX9_readLine_245 : decode cX9_readLine 245 = .ok (.invokevirtual 221, 3) := by decide +kernel
theorem dX9_readLine_248 : decode cX9_readLine 248 = .ok (.aload_n 0, 1) := by decide +kernel
theorem dX9_readLine_249 : decode cX9_readLine 249 = .ok (.iconst 0, 1) := by decide +kernel
theorem dX9_readLine_250 : decode cX9_readLine 250 = .ok (.bipush 100, 2) := by decide +kernel
theorem dX9_readLine_252 : decode cX9_readLine 252 = .ok (.invokevirtual 251, 3) := by decide +kernel
theorem dX9_readLine_255 : decode cX9_readLine 255 = .ok (.istore 6, 2) := by decide +kernel
theorem dX9_readLine_257 : decode cX9_readLine 257 = .ok (.aload_n 0, 1) := by decide +kernel
theorem dX9_readLine_258 : decode cX9_readLine 258 = .ok (.getfield 209, 3) := by decide +kernel
theorem dX9_readLine_261 : decode cX9_readLine 261 = .ok (.ifCond .ne 42, 3) := by decide +kernel
theorem dX9_readLine_264 : decode cX9_readLine 264 = .ok (.iload_n 3, 1) := by decide +kernel
theorem dX9_readLine_265 : decode cX9_readLine 265 = .ok (.ifCond .eq 38, 3) := by decide +kernel
theorem dX9_readLine_268 : decode cX9_readLine 268 = .ok (.aload_n 0, 1) := by decide +kernel
theorem dX9_readLine_269 : decode cX9_readLine 269 = .ok (.getfield 74, 3) := by decide +kernel
theorem dX9_readLine_272 : decode cX9_readLine 272 = .ok (.aload_n 0, 1) := by decide +kernel
theorem dX9_readLine_273 : decode cX9_readLine 273 = .ok (.getfield 231, 3) := by decide +kernel
theorem dX9_readLine_276 : decode cX9_readLine 276 = .ok (.iload 5, 2) := by decide +kernel
theorem dX9_readLine_278 : decode cX9_readLine 278 = .ok (.iastore, 1) := by decide +kernel
theorem dX9_readLine_279 : decode cX9_readLine 279 = .ok (.aload_n 0, 1) := by decide +kernel
theorem dX9_readLine_280 : decode cX9_readLine 280 = .ok (.getfield 77, 3) := by decide +kernel
theorem dX9_readLine_283 : decode cX9_readLine 283 = .ok (.aload_n 0, 1) := by decide +kernel
theorem dX9_readLine_284 : decode cX9_readLine 284 = .ok (.getfield 231, 3) := by decide +kernel
theorem dX9_readLine_287 : decode cX9_readLine 287 = .ok (.iload 6, 2) := by decide +kernel
theorem dX9_readLine_289 : decode cX9_readLine 289 = .ok (.iastore, 1) := by decide +kernel
theorem dX9_readLine_290 : decode cX9_readLine 290 = .ok (.aload_n 0, 1) := by decide +kernel
theorem dX9_readLine_291 : decode cX9_readLine 291 = .ok (.dup, 1) := by decide +kernel
theorem dX9_readLine_292 : decode cX9_readLine 292 = .ok (.getfield 231, 3) := by decide +kernel
theorem dX9_readLine_295 : decode cX9_readLine 295 = .ok (.iconst 1, 1) := by decide +kernel
theorem dX9_readLine_296 : decode cX9_readLine 296 = .ok (.iadd, 1) := by decide +kernel
theorem dX9_readLine_297 : decode cX9_readLine 297 = .ok (.putfield 231, 3) := by decide +kernel
theorem dX9_readLine_300 : decode cX9_readLine 300 = .ok (.goto 42, 3) := by decide +kernel
theorem dX9_readLine_303 : decode cX9_readLine 303 = .ok (.aload_n 0, 1) := by decide +kernel
theorem dX9_readLine_304 : decode cX9_readLine 304 = .ok (.getfield 209, 3) := by decide +kernel
theorem dX9_readLine_307 : decode cX9_readLine 307 = .ok (.ifCond .ne 35, 3) := by decide +kernel
theorem dX9_readLine_310 : decode cX9_readLine 310 = .ok (.aload_n 0, 1) := by decide +kernel
theorem dX9_readLine_311 : decode cX9_readLine 311 = .ok (.getfield 80, 3) := by decide +kernel
theorem dX9_readLine_314 : decode cX9_readLine 314 = .ok (.aload_n 0, 1) := by decide +kernel
theorem dX9_readLine_315 : decode cX9_readLine 315 = .ok (.getfield 236, 3) := by decide +kernel
theorem dX9_readLine_318 : decode cX9_readLine 318 = .ok (.iload 5, 2) := by decide +kernel
theorem dX9_readLine_320 : decode cX9_readLine 320 = .ok (.iastore, 1) := by decide +kernel
theorem dX9_readLine_321 : decode cX9_readLine 321 = .ok (.aload_n 0, 1) := by decide +kernel
theorem dX9_readLine_322 : decode cX9_readLine 322 = .ok (.getfield 83, 3) := by decide +kernel
theorem dX9_readLine_325 : decode cX9_readLine 325 = .ok (.aload_n 0, 1) := by decide +kernel
theorem dX9_readLine_326 : decode cX9_readLine 326 = .ok (.getfield 236, 3) := by decide +kernel
theorem dX9_readLine_329 : decode cX9_readLine 329 = .ok (.iload 6, 2) := by decide +kernel
theorem dX9_readLine_331 : decode cX9_readLine 331 = .ok (.iastore, 1) := by decide +kernel
theorem dX9_readLine_332 : decode cX9_readLine 332 = .ok (.aload_n 0, 1) := by decide +kernel
theorem dX9_readLine_333 : decode cX9_readLine 333 = .ok (.dup, 1) := by decide +kernel
theorem dX9_readLine_334 : decode cX9_readLine 334 = .ok (.getfield 236, 3) := by decide +kernel
theorem dX9_readLine_337 : decode cX9_readLine 337 = .ok (.iconst 1, 1) := by decide +kernel
theorem dX9_readLine_338 : decode cX9_readLine 338 = .ok (.iadd, 1) := by decide +kernel
theorem dX9_readLine_339 : decode cX9_readLine 339 = .ok (.putfield 236, 3) := by decide +kernel
theorem dX9_readLine_342 : decode cX9_readLine 342 = .ok (.aload_n 0, 1) := by decide +kernel
theorem dX9_readLine_343 : decode cX9_readLine 343 = .ok (.aload_n 0, 1) := by decide +kernel
theorem dX9_readLine_344 : decode cX9_readLine 344 = .ok (.getfield 197, 3) := by decide +kernel
theorem dX9_readLine_347 : decode cX9_readLine 347 = .ok (.iconst 4, 1) := by decide +kernel
theorem dX9_readLine_348 : decode cX9_readLine 348 = .ok (.if_icmp .ne 7, 3) := by decide +kernel
theorem dX9_readLine_351 : decode cX9_readLine 351 = .ok (.iconst 1, 1) := by decide +kernel
theorem dX9_readLine_352 : decode cX9_readLine 352 = .ok (.goto 4, 3) := by decide +kernel
theorem dX9_readLine_355 : decode cX9_readLine 355 = .ok (.iconst 0, 1) := by decide +kernel
theorem dX9_readLine_356 : decode cX9_readLine 356 = .ok (.invokevirtual 221, 3) := by decide +kernel
theorem dX9_readLine_359 : decode cX9_readLine 359 = .ok (.return_, 1) := by decide +kernel
theorem dX9_rules_0 : decode cX9_rules 0 = .ok (.aload_n 0, 1) := by decide +kernel
theorem dX9_rules_1 : decode cX9_rules 1 = .ok (.iconst 0, 1) := by decide +kernel
theorem dX9_rules_2 : decode cX9_rules 2 = .ok (.putfield 1, 3) := by decide +kernel
theorem dX9_rules_5 : decode cX9_rules 5 = .ok (.aload_n 0, 1) := by decide +kernel
theorem dX9_rules_6 : decode cX9_rules 6 = .ok (.aload_n 0, 1) := by decide +kernel
theorem dX9_rules_7 : decode cX9_rules 7 = .ok (.getfield 180, 3) := by decide +kernel
theorem dX9_rules_10 : decode cX9_rules 10 = .ok (.putfield 185, 3) := by decide +kernel
theorem dX9_rules_13 : decode cX9_rules 13 = .ok (.aload_n 0, 1) := by decide +kernel
theorem dX9_rules_14 : decode cX9_rules 14 = .ok (.iconst 0, 1) := by decide +kernel
theorem dX9_rules_15 : decode cX9_rules 15 = .ok (.putfield 180, 3) := by decide +kernel
theorem dX9_rules_18 : decode cX9_rules 18 = .ok (.aload_n 0, 1) := by decide +kernel
theorem dX9_rules_19 : decode cX9_rules 19 = .ok (.iconst 0, 1) := by decide +kernel
theorem dX9_rules_20 : decode cX9_rules 20 = .ok (.putfield 188, 3) := by decide +kernel
theorem dX9_rules_23 : decode cX9_rules 23 = .ok (.aload_n 0, 1) := by decide +kernel
theorem dX9_rules_24 : decode cX9_rules 24 = .ok (.iconst 0, 1) := by decide +kernel
theorem dX9_rules_25 : decode cX9_rules 25 = .ok (.putfield 209, 3) := by decide +kernel
theorem dX9_rules_28 : decode cX9_rules 28 = .ok (.aload_n 0, 1) := by decide +kernel
theorem dX9_rules_29 : decode cX9_rules 29 = .ok (.iconst 0, 1) := by decide +kernel
theorem dX9_rules_30 : decode cX9_rules 30 = .ok (.putfield 245, 3) := by decide +kernel
theorem dX9_rules_33 : decode cX9_rules 33 = .ok (.aload_n 0, 1) := by decide +kernel
theorem dX9_rules_34 : decode cX9_rules 34 = .ok (.iconst 0, 1) := by decide +kernel
theorem dX9_rules_35 : decode cX9_rules 35 = .ok (.putfield 231, 3) := by decide +kernel
theorem dX9_rules_38 : decode cX9_rules 38 = .ok (.aload_n 0, 1) := by decide +kernel
theorem dX9_rules_39 : decode cX9_rules 39 = .ok (.iconst 0, 1) := by decide +kernel
theorem dX9_rules_40 : decode cX9_rules 40 = .ok (.putfield 236, 3) := by decide +kernel
theorem dX9_rules_43 : decode cX9_rules 43 = .ok (.iconst 0, 1) := by decide +kernel
theorem dX9_rules_44 : decode cX9_rules 44 = .ok (.istore_n 1, 1) := by decide +kernel
theorem dX9_rules_45 : decode cX9_rules 45 = .ok (.aload_n 0, 1) := by decide +kernel
theorem dX9_rules_46 : decode cX9_rules 46 = .ok (.invokevirtual 218, 3) := by decide +kernel
theorem dX9_rules_49 : decode cX9_rules 49 = .ok (.aload_n 0, 1) := by decide +kernel
theorem dX9_rules_50 : decode cX9_rules 50 = .ok (.getfield 209, 3) := by decide +kernel
theorem dX9_rules_53 : decode cX9_rules 53 = .ok (.ifCond .ne 21, 3) := by decide +kernel
theorem dX9_rules_56 : decode cX9_rules 56 = .ok (.aload_n 0, 1) := by decide +kernel
theorem dX9_rules_57 : decode cX9_rules 57 = .ok (.getfield 197, 3) := by decide +kernel
theorem dX9_rules_60 : decode cX9_rules 60 = .ok (.iconst 1, 1) := by decide +kernel
theorem dX9_rules_61 : decode cX9_rules 61 = .ok (.if_icmp .eq 13, 3) := by decide +kernel
theorem dX9_rules_64 : decode cX9_rules 64 = .ok (.aload_n 0, 1) := by decide +kernel
theorem dX9_rules_65 : decode cX9_rules 65 = .ok (.invokevirtual 257, 3) := by decide +kernel
theorem dX9_rules_68 : decode cX9_rules 68 = .ok (.iinc 1 1, 3) := by decide +kernel
theorem dX9_rules_71 : decode cX9_rules 71 = .ok (.goto (-22), 3) := by decide +kernel
theorem dX9_rules_74 : decode cX9_rules 74 = .ok (.aload_n 0, 1) := by decide +kernel
theorem dX9_rules_75 : decode cX9_rules 75 = .ok (.getfield 209, 3) := by decide +kernel
theorem dX9_rules_78 : decode cX9_rules 78 = .ok (.ifCond .le 20, 3) := by decide +kernel
theorem dX9_rules_81 : decode cX9_rules 81 = .ok (.aload_n 0, 1) := by decide +kernel
theorem dX9_rules_82 : decode cX9_rules 82 = .ok (.aload_n 0, 1) := by decide +kernel
theorem dX9_rules_83 : decode cX9_rules 83 = .ok (.getfield 209, 3) := by decide +kernel
theorem dX9_rules_86 : decode cX9_rules 86 = .ok (.putfield 260, 3) := by decide +kernel
theorem dX9_rules_89 : decode cX9_rules 89 = .ok (.ldc_w 263, 3) := by decide +kernel
theorem dX9_rules_92 : decode cX9_rules 92 = .ok (.aload_n 0, 1) := by decide +kernel
theorem dX9_rules_93 : decode cX9_rules 93 = .ok (.getfield 212, 3) := by decide +kernel
end
section
theorem dX9_rules_96 : decode cX9_rules 96 = .ok (.isub, 1) := by decide +kernel
theorem dX9_rules_97 : decode cX9_rules 97 = .ok (.ireturn, 1) := by decide +kernel
theorem dX9_rules_98 : decode cX9_rules 98 = .ok (.aload_n 0, 1) := by decide +kernel
theorem dX9_rules_99 : decode cX9_rules 99 = .ok (.aload_n 0, 1) := by decide +kernel
theorem dX9_rules_100 : decode cX9_rules 100 = .ok (.getfield 245, 3) := by decide +kernel
theorem dX9_rules_103 : decode cX9_rules 103 = .ok (.putfield 150, 3) := by decide +kernel
theorem dX9_rules_106 : decode cX9_rules 106 = .ok (.aload_n 0, 1) := by decide +kernel
theorem dX9_rules_107 : decode cX9_rules 107 = .ok (.aload_n 0, 1) := by decide +kernel
theorem dX9_rules_108 : decode cX9_rules 108 = .ok (.getfield 231, 3) := by decide +kernel
theorem dX9_rules_111 : decode cX9_rules 111 = .ok (.putfield 172, 3) := by decide +kernel
theorem dX9_rules_114 : decode cX9_rules 114 = .ok (.aload_n 0, 1) := by decide +kernel
theorem dX9_rules_115 : decode cX9_rules 115 = .ok (.aload_n 0, 1) := by decide +kernel
theorem dX9_rules_116 : decode cX9_rules 116 = .ok (.getfield 236, 3) := by decide +kernel
theorem dX9_rules_119 : decode cX9_rules 119 = .ok (.putfield 264, 3) := by decide +kernel
theorem dX9_rules_122 : decode cX9_rules 122 = .ok (.iconst 0, 1) := by decide +kernel
theorem dX9_rules_123 : decode cX9_rules 123 = .ok (.istore_n 2, 1) := by decide +kernel
theorem dX9_rules_124 : decode cX9_rules 124 = .ok (.iload_n 2, 1) := by decide +kernel
theorem dX9_rules_125 : decode cX9_rules 125 = .ok (.iconst 5, 1) := by decide +kernel
theorem dX9_rules_126 : decode cX9_rules 126 = .ok (.if_icmp .ge 57, 3) := by decide +kernel
theorem dX9_rules_129 : decode cX9_rules 129 = .ok (.aload_n 0, 1) := by decide +kernel
theorem dX9_rules_130 : decode cX9_rules 130 = .ok (.getfield 62, 3) := by decide +kernel
theorem dX9_rules_133 : decode cX9_rules 133 = .ok (.iload_n 2, 1) := by decide +kernel
theorem dX9_rules_134 : decode cX9_rules 134 = .ok (.aload_n 0, 1) := by decide +kernel
theorem dX9_rules_135 : decode cX9_rules 135 = .ok (.getfield 74, 3) := by decide +kernel
theorem dX9_rules_138 : decode cX9_rules 138 = .ok (.iload_n 2, 1) := by decide +kernel
theorem dX9_rules_139 : decode cX9_rules 139 = .ok (.iaload, 1) := by decide +kernel
theorem dX9_rules_140 : decode cX9_rules 140 = .ok (.iastore, 1) := by decide +kernel
theorem dX9_rules_141 : decode cX9_rules 141 = .ok (.aload_n 0, 1) := by decide +kernel
theorem dX9_rules_142 : decode cX9_rules 142 = .ok (.getfield 65, 3) := by decide +kernel
theorem dX9_rules_145 : decode cX9_rules 145 = .ok (.iload_n 2, 1) := by decide +kernel
theorem dX9_rules_146 : decode cX9_rules 146 = .ok (.aload_n 0, 1) := by decide +kernel
theorem dX9_rules_147 : decode cX9_rules 147 = .ok (.getfield 77, 3) := by decide +kernel
theorem dX9_rules_150 : decode cX9_rules 150 = .ok (.iload_n 2, 1) := by decide +kernel
theorem dX9_rules_151 : decode cX9_rules 151 = .ok (.iaload, 1) := by decide +kernel
theorem dX9_rules_152 : decode cX9_rules 152 = .ok (.iastore, 1) := by decide +kernel
theorem dX9_rules_153 : decode cX9_rules 153 = .ok (.aload_n 0, 1) := by decide +kernel
theorem dX9_rules_154 : decode cX9_rules 154 = .ok (.getfield 68, 3) := by decide +kernel
theorem dX9_rules_157 : decode cX9_rules 157 = .ok (.iload_n 2, 1) := by decide +kernel
theorem dX9_rules_158 : decode cX9_rules 158 = .ok (.aload_n 0, 1) := by decide +kernel
theorem dX9_rules_159 : decode cX9_rules 159 = .ok (.getfield 80, 3) := by decide +kernel
theorem dX9_rules_162 : decode cX9_rules 162 = .ok (.iload_n 2, 1) := by decide +kernel
theorem dX9_rules_163 : decode cX9_rules 163 = .ok (.iaload, 1) := by decide +kernel
theorem dX9_rules_164 : decode cX9_rules 164 = .ok (.iastore, 1) := by decide +kernel
theorem dX9_rules_165 : decode cX9_rules 165 = .ok (.aload_n 0, 1) := by decide +kernel
theorem dX9_rules_166 : decode cX9_rules 166 = .ok (.getfield 71, 3) := by decide +kernel
theorem dX9_rules_169 : decode cX9_rules 169 = .ok (.iload_n 2, 1) := by decide +kernel
theorem dX9_rules_170 : decode cX9_rules 170 = .ok (.aload_n 0, 1) := by decide +kernel
theorem dX9_rules_171 : decode cX9_rules 171 = .ok (.getfield 83, 3) := by decide +kernel
theorem dX9_rules_174 : decode cX9_rules 174 = .ok (.iload_n 2, 1) := by decide +kernel
theorem dX9_rules_175 : decode cX9_rules 175 = .ok (.iaload, 1) := by decide +kernel
theorem dX9_rules_176 : decode cX9_rules 176 = .ok (.iastore, 1) := by decide +kernel
theorem dX9_rules_177 : decode cX9_rules 177 = .ok (.iinc 2 1, 3) := by decide +kernel
theorem dX9_rules_180 : decode cX9_rules 180 = .ok (.goto (-56), 3) := by decide +kernel
theorem dX9_rules_183 : decode cX9_rules 183 = .ok (.iload_n 1, 1) := by decide +kernel
theorem dX9_rules_184 : decode cX9_rules 184 = .ok (.ireturn, 1) := by decide +kernel
theorem dX9_fault_0 : decode cX9_fault 0 = .ok (.aload_n 0, 1) := by decide +kernel
theorem dX9_fault_1 : decode cX9_fault 1 = .ok (.iconst 0, 1) := by decide +kernel
theorem dX9_fault_2 : decode cX9_fault 2 = .ok (.putfield 1, 3) := by decide +kernel
theorem dX9_fault_5 : decode cX9_fault 5 = .ok (.aload_n 0, 1) := by decide +kernel
theorem dX9_fault_6 : decode cX9_fault 6 = .ok (.getfield 260, 3) := by decide +kernel
theorem dX9_fault_9 : decode cX9_fault 9 = .ok (.ireturn, 1) := by decide +kernel
theorem dX9_rent_0 : decode cX9_rent 0 = .ok (.aload_n 0, 1) := by decide +kernel
theorem dX9_rent_1 : decode cX9_rent 1 = .ok (.iconst 0, 1) := by decide +kernel
theorem dX9_rent_2 : decode cX9_rent 2 = .ok (.putfield 1, 3) := by decide +kernel
theorem dX9_rent_5 : decode cX9_rent 5 = .ok (.iload_n 1, 1) := by decide +kernel
theorem dX9_rent_6 : decode cX9_rent 6 = .ok (.ldc 114, 2) := by decide +kernel
theorem dX9_rent_8 : decode cX9_rent 8 = .ok (.if_icmp .eq 18, 3) := by decide +kernel
theorem dX9_rent_11 : decode cX9_rent 11 = .ok (.iload_n 1, 1) := by decide +kernel
theorem dX9_rent_12 : decode cX9_rent 12 = .ok (.i2l, 1) := by decide +kernel
theorem dX9_rent_13 : decode cX9_rent 13 = .ok (.lconst 0, 1) := by decide +kernel
theorem dX9_rent_14 : decode cX9_rent 14 = .ok (.ldc2_w 267, 3) := by decide +kernel
theorem dX9_rent_17 : decode cX9_rent 17 = .ok (.invokestatic 104, 3) := by decide +kernel
theorem dX9_rent_20 : decode cX9_rent 20 = .ok (.ifCond .ne 6, 3) := by decide +kernel
theorem dX9_rent_23 : decode cX9_rent 23 = .ok (.ldc 112, 2) := by decide +kernel
theorem dX9_rent_25 : decode cX9_rent 25 = .ok (.ireturn, 1) := by decide +kernel
theorem dX9_rent_26 : decode cX9_rent 26 = .ok (.iload_n 1, 1) := by decide +kernel
theorem dX9_rent_27 : decode cX9_rent 27 = .ok (.ldc 114, 2) := by decide +kernel
theorem dX9_rent_29 : decode cX9_rent 29 = .ok (.if_icmp .ne 15, 3) := by decide +kernel
theorem dX9_rent_32 : decode cX9_rent 32 = .ok (.aload_n 0, 1) := by decide +kernel
theorem dX9_rent_33 : decode cX9_rent 33 = .ok (.getfield 144, 3) := by decide +kernel
theorem dX9_rent_36 : decode cX9_rent 36 = .ok (.aload_n 0, 1) := by decide +kernel
theorem dX9_rent_37 : decode cX9_rent 37 = .ok (.getfield 169, 3) := by decide +kernel
theorem dX9_rent_40 : decode cX9_rent 40 = .ok (.isub, 1) := by decide +kernel
theorem dX9_rent_41 : decode cX9_rent 41 = .ok (.goto 4, 3) := by decide +kernel
theorem dX9_rent_44 : decode cX9_rent 44 = .ok (.iload_n 1, 1) := by decide +kernel
theorem dX9_rent_45 : decode cX9_rent 45 = .ok (.istore_n 2, 1) := by decide +kernel
theorem dX9_rent_46 : decode cX9_rent 46 = .ok (.iconst 0, 1) := by decide +kernel
theorem dX9_rent_47 : decode cX9_rent 47 = .ok (.istore_n 3, 1) := by decide +kernel
theorem dX9_rent_48 : decode cX9_rent 48 = .ok (.iconst 0, 1) := by decide +kernel
theorem dX9_rent_49 : decode cX9_rent 49 = .ok (.istore 4, 2) := by decide +kernel
theorem dX9_rent_51 : decode cX9_rent 51 = .ok (.iconst 0, 1) := by decide +kernel
theorem dX9_rent_52 : decode cX9_rent 52 = .ok (.istore 5, 2) := by decide +kernel
theorem dX9_rent_54 : decode cX9_rent 54 = .ok (.iload 5, 2) := by decide +kernel
theorem dX9_rent_56 : decode cX9_rent 56 = .ok (.aload_n 0, 1) := by decide +kernel
theorem dX9_rent_57 : decode cX9_rent 57 = .ok (.getfield 264, 3) := by decide +kernel
theorem dX9_rent_60 : decode cX9_rent 60 = .ok (.if_icmp .ge 72, 3) := by decide +kernel
theorem dX9_rent_63 : decode cX9_rent 63 = .ok (.iload_n 2, 1) := by decide +kernel
theorem dX9_rent_64 : decode cX9_rent 64 = .ok (.aload_n 0, 1) := by decide +kernel
theorem dX9_rent_65 : decode cX9_rent 65 = .ok (.getfield 68, 3) := by decide +kernel
theorem dX9_rent_68 : decode cX9_rent 68 = .ok (.iload 5, 2) := by decide +kernel
theorem dX9_rent_70 : decode cX9_rent 70 = .ok (.iaload, 1) := by decide +kernel
theorem dX9_rent_71 : decode cX9_rent 71 = .ok (.if_icmp .ge 7, 3) := by decide +kernel
theorem dX9_rent_74 : decode cX9_rent 74 = .ok (.iload_n 2, 1) := by decide +kernel
theorem dX9_rent_75 : decode cX9_rent 75 = .ok (.goto 10, 3) := by decide +kernel
theorem dX9_rent_78 : decode cX9_rent 78 = .ok (.aload_n 0, 1) := by decide +kernel
theorem dX9_rent_79 : decode cX9_rent 79 = .ok (.getfield 68, 3) := by decide +kernel
theorem dX9_rent_82 : decode cX9_rent 82 = .ok (.iload 5, 2) := by decide +kernel
theorem dX9_rent_84 : decode cX9_rent 84 = .ok (.iaload, 1) := by decide +kernel
theorem dX9_rent_85 : decode cX9_rent 85 = .ok (.istore 6, 2) := by decide +kernel
theorem dX9_rent_87 : decode cX9_rent 87 = .ok (.iload_n 3, 1) := by decide +kernel
theorem dX9_rent_88 : decode cX9_rent 88 = .ok (.iload 6, 2) := by decide +kernel
theorem dX9_rent_90 : decode cX9_rent 90 = .ok (.iload 4, 2) := by decide +kernel
theorem dX9_rent_92 : decode cX9_rent 92 = .ok (.if_icmp .le 22, 3) := by decide +kernel
theorem dX9_rent_95 : decode cX9_rent 95 = .ok (.iload 6, 2) := by decide +kernel
theorem dX9_rent_97 : decode cX9_rent 97 = .ok (.iload 4, 2) := by decide +kernel
theorem dX9_rent_99 : decode cX9_rent 99 = .ok (.isub, 1) := by decide +kernel
theorem dX9_rent_100 : decode cX9_rent 100 = .ok (.aload_n 0, 1) := by decide +kernel
theorem dX9_rent_101 : decode cX9_rent 101 = .ok (.getfield 71, 3) := by decide +kernel
theorem dX9_rent_104 : decode cX9_rent 104 = .ok (.iload 5, 2) := by decide +kernel
theorem dX9_rent_106 : decode cX9_rent 106 = .ok (.iaload, 1) := by decide +kernel
theorem dX9_rent_107 : decode cX9_rent 107 = .ok (.imul, 1) := by decide +kernel
theorem dX9_rent_108 : decode cX9_rent 108 = .ok (.bipush 100, 2) := by decide +kernel
theorem dX9_rent_110 : decode cX9_rent 110 = .ok (.idiv, 1) := by decide +kernel
theorem dX9_rent_111 : decode cX9_rent 111 = .ok (.goto 4, 3) := by decide +kernel
theorem dX9_rent_114 : decode cX9_rent 114 = .ok (.iconst 0, 1) := by decide +kernel
theorem dX9_rent_115 : decode cX9_rent 115 = .ok (.iadd, 1) := by decide +kernel
theorem dX9_rent_116 : decode cX9_rent 116 = .ok (.istore_n 3, 1) := by decide +kernel
theorem dX9_rent_117 : decode cX9_rent 117 = .ok (.aload_n 0, 1) := by decide +kernel
theorem dX9_rent_118 : decode cX9_rent 118 = .ok (.getfield 68, 3) := by decide +kernel
theorem dX9_rent_121 : decode cX9_rent 121 = .ok (.iload 5, 2) := by decide +kernel
theorem dX9_rent_123 : decode cX9_rent 123 = .ok (.iaload, 1) := by decide +kernel
theorem dX9_rent_124 : decode cX9_rent 124 = .ok (.istore 4, 2) := by decide +kernel
theorem dX9_rent_126 : decode cX9_rent 126 = .ok (.iinc 5 1, 3) := by decide +kernel
theorem dX9_rent_129 : decode cX9_rent 129 = .ok (.goto (-75), 3) := by decide +kernel
theorem dX9_rent_132 : decode cX9_rent 132 = .ok (.iload_n 3, 1) := by decide +kernel
theorem dX9_rent_133 : decode cX9_rent 133 = .ok (.ireturn, 1) := by decide +kernel
theorem dX9_unpaid_0 : decode cX9_unpaid 0 = .ok (.aload_n 0, 1) := by decide +kernel
theorem dX9_unpaid_1 : decode cX9_unpaid 1 = .ok (.iconst 0, 1) := by decide +kernel
theorem dX9_unpaid_2 : decode cX9_unpaid 2 = .ok (.putfield 1, 3) := by decide +kernel
theorem dX9_unpaid_5 : decode cX9_unpaid 5 = .ok (.aload_n 0, 1) := by decide +kernel
theorem dX9_unpaid_6 : decode cX9_unpaid 6 = .ok (.iload_n 1, 1) := by decide +kernel
theorem dX9_unpaid_7 : decode cX9_unpaid 7 = .ok (.invokevirtual 115, 3) := by decide +kernel
theorem dX9_unpaid_10 : decode cX9_unpaid 10 = .ok (.ifCond .eq 27, 3) := by decide +kernel
theorem dX9_unpaid_13 : decode cX9_unpaid 13 = .ok (.iload_n 2, 1) := by decide +kernel
theorem dX9_unpaid_14 : decode cX9_unpaid 14 = .ok (.i2l, 1) := by decide +kernel
theorem dX9_unpaid_15 : decode cX9_unpaid 15 = .ok (.lconst 0, 1) := by decide +kernel
theorem dX9_unpaid_16 : decode cX9_unpaid 16 = .ok (.ldc2_w 108, 3) := by decide +kernel
theorem dX9_unpaid_19 : decode cX9_unpaid 19 = .ok (.invokestatic 104, 3) := by decide +kernel
theorem dX9_unpaid_22 : decode cX9_unpaid 22 = .ok (.ifCond .eq 15, 3) := by decide +kernel
theorem dX9_unpaid_25 : decode cX9_unpaid 25 = .ok (.iload_n 3, 1) := by decide +kernel
theorem dX9_unpaid_26 : decode cX9_unpaid 26 = .ok (.i2l, 1) := by decide +kernel
theorem dX9_unpaid_27 : decode cX9_unpaid 27 = .ok (.lconst 0, 1) := by decide +kernel
theorem dX9_unpaid_28 : decode cX9_unpaid 28 = .ok (.ldc2_w 108, 3) := by decide +kernel
theorem dX9_unpaid_31 : decode cX9_unpaid 31 = .ok (.invokestatic 104, 3) := by decide +kernel
theorem dX9_unpaid_34 : decode cX9_unpaid 34 = .ok (.ifCond .ne 6, 3) := by decide +kernel
theorem dX9_unpaid_37 : decode cX9_unpaid 37 = .ok (.ldc 112, 2) := by decide +kernel
theorem dX9_unpaid_39 : decode cX9_unpaid 39 = .ok (.ireturn, 1) := by decide +kernel
theorem dX9_unpaid_40 : decode cX9_unpaid 40 = .ok (.aload_n 0, 1) := by decide +kernel
theorem dX9_unpaid_41 : decode cX9_unpaid 41 = .ok (.getfield 35, 3) := by decide +kernel
theorem dX9_unpaid_44 : decode cX9_unpaid 44 = .ok (.iload_n 1, 1) := by decide +kernel
theorem dX9_unpaid_45 : decode cX9_unpaid 45 = .ok (.iload_n 2, 1) := by decide +kernel
theorem dX9_unpaid_46 : decode cX9_unpaid 46 = .ok (.iastore, 1) := by decide +kernel
theorem dX9_unpaid_47 : decode cX9_unpaid 47 = .ok (.aload_n 0, 1) := by decide +kernel
theorem dX9_unpaid_48 : decode cX9_unpaid 48 = .ok (.getfield 38, 3) := by decide +kernel
theorem dX9_unpaid_51 : decode cX9_unpaid 51 = .ok (.iload_n 1, 1) := by decide +kernel
theorem dX9_unpaid_52 : decode cX9_unpaid 52 = .ok (.iload_n 3, 1) := by decide +kernel
theorem dX9_unpaid_53 : decode cX9_unpaid 53 = .ok (.iastore, 1) := by decide +kernel
theorem dX9_unpaid_54 : decode cX9_unpaid 54 = .ok (.iconst 1, 1) := by decide +kernel
theorem dX9_unpaid_55 : decode cX9_unpaid 55 = .ok (.ireturn, 1) := by decide +kernel
theorem dX9_next_0 : decode cX9_next 0 = .ok (.iload_n 1, 1) := by decide +kernel
theorem dX9_next_1 : decode cX9_next 1 = .ok (.iconst 2, 1) := by decide +kernel
theorem dX9_next_2 : decode cX9_next 2 = .ok (.isub, 1) := by decide +kernel
theorem dX9_next_3 : decode cX9_next 3 = .ok (.istore_n 2, 1) := by decide +kernel
theorem dX9_next_4 : decode cX9_next 4 = .ok (.iload_n 2, 1) := by decide +kernel
theorem dX9_next_5 : decode cX9_next 5 = .ok (.ifCond .lt 26, 3) := by decide +kernel
theorem dX9_next_8 : decode cX9_next 8 = .ok (.aload_n 0, 1) := by decide +kernel
theorem dX9_next_9 : decode cX9_next 9 = .ok (.getfield 89, 3) := by decide +kernel
theorem dX9_next_12 : decode cX9_next 12 = .ok (.iload_n 2, 1) := by decide +kernel
theorem dX9_next_13 : decode cX9_next 13 = .ok (.iaload, 1) := by decide +kernel
theorem dX9_next_14 : decode cX9_next 14 = .ok (.aload_n 0, 1) := by decide +kernel
theorem dX9_next_15 : decode cX9_next 15 = .ok (.getfield 89, 3) := by decide +kernel
theorem dX9_next_18 : decode cX9_next 18 = .ok (.iload_n 2, 1) := by decide +kernel
theorem dX9_next_19 : decode cX9_next 19 = .ok (.iconst 1, 1) := by decide +kernel
theorem dX9_next_20 : decode cX9_next 20 = .ok (.iadd, 1) := by decide +kernel
theorem dX9_next_21 : decode cX9_next 21 = .ok (.iaload, 1) := by decide +kernel
theorem dX9_next_22 : decode cX9_next 22 = .ok (.if_icmp .le 9, 3) := by decide +kernel
theorem dX9_next_25 : decode cX9_next 25 = .ok (.iinc 2 (-1), 3) := by decide +kernel
theorem dX9_next_28 : decode cX9_next 28 = .ok (.goto (-24), 3) := by decide +kernel
theorem dX9_next_31 : decode cX9_next 31 = .ok (.iload_n 2, 1) := by decide +kernel
theorem dX9_next_32 : decode cX9_next 32 = .ok (.ifCond .ge 5, 3) := by decide +kernel
theorem dX9_next_35 : decode cX9_next 35 = .ok (.iconst 0, 1) := by decide +kernel
theorem dX9_next_36 : decode cX9_next 36 = .ok (.ireturn, 1) := by decide +kernel
theorem dX9_next_37 : decode cX9_next 37 = .ok (.iload_n 1, 1) := by decide +kernel
theorem dX9_next_38 : decode cX9_next 38 = .ok (.iconst 1, 1) := by decide +kernel
theorem dX9_next_39 : decode cX9_next 39 = .ok (.isub, 1) := by decide +kernel
theorem dX9_next_40 : decode cX9_next 40 = .ok (.istore_n 3, 1) := by decide +kernel
theorem dX9_next_41 : decode cX9_next 41 = .ok (.aload_n 0, 1) := by decide +kernel
theorem dX9_next_42 : decode cX9_next 42 = .ok (.getfield 89, 3) := by decide +kernel
theorem dX9_next_45 : decode cX9_next 45 = .ok (.iload_n 3, 1) := by decide +kernel
theorem dX9_next_46 : decode cX9_next 46 = .ok (.iaload, 1) := by decide +kernel
theorem dX9_next_47 : decode cX9_next 47 = .ok (.aload_n 0, 1) := by decide +kernel
theorem dX9_next_48 : decode cX9_next 48 = .ok (.getfield 89, 3) := by decide +kernel
theorem dX9_next_51 : decode cX9_next 51 = .ok (.iload_n 2, 1) := by decide +kernel
theorem dX9_next_52 : decode cX9_next 52 = .ok (.iaload, 1) := by decide +kernel
theorem dX9_next_53 : decode cX9_next 53 = .ok (.if_icmp .ge 9, 3) := by decide +kernel
theorem dX9_next_56 : decode cX9_next 56 = .ok (.iinc 3 (-1), 3) := by decide +kernel
theorem dX9_next_59 : decode cX9_next 59 = .ok (.goto (-18), 3) := by decide +kernel
theorem dX9_next_62 : decode cX9_next 62 = .ok (.aload_n 0, 1) := by decide +kernel
theorem dX9_next_63 : decode cX9_next 63 = .ok (.getfield 89, 3) := by decide +kernel
theorem dX9_next_66 : decode cX9_next 66 = .ok (.iload_n 2, 1) := by decide +kernel
theorem dX9_next_67 : decode cX9_next 67 = .ok (.iaload, 1) := by decide +kernel
theorem dX9_next_68 : decode cX9_next 68 = .ok (.istore 4, 2) := by decide +kernel
theorem dX9_next_70 : decode cX9_next 70 = .ok (.aload_n 0, 1) := by decide +kernel
theorem dX9_next_71 : decode cX9_next 71 = .ok (.getfield 89, 3) := by decide +kernel
theorem dX9_next_74 : decode cX9_next 74 = .ok (.iload_n 2, 1) := by decide +kernel
theorem dX9_next_75 : decode cX9_next 75 = .ok (.aload_n 0, 1) := by decide +kernel
theorem dX9_next_76 : decode cX9_next 76 = .ok (.getfield 89, 3) := by decide +kernel
theorem dX9_next_79 : decode cX9_next 79 = .ok (.iload_n 3, 1) := by decide +kernel
theorem dX9_next_80 : decode cX9_next 80 = .ok (.iaload, 1) := by decide +kernel
theorem dX9_next_81 : decode cX9_next 81 = .ok (.iastore, 1) := by decide +kernel
theorem dX9_next_82 : decode cX9_next 82 = .ok (.aload_n 0, 1) := by decide +kernel
theorem dX9_next_83 : decode cX9_next 83 = .ok (.getfield 89, 3) := by decide +kernel
theorem dX9_next_86 : decode cX9_next 86 = .ok (.iload_n 3, 1) := by decide +kernel
theorem dX9_next_87 : decode cX9_next 87 = .ok (.iload 4, 2) := by decide +kernel
theorem dX9_next_89 : decode cX9_next 89 = .ok (.iastore, 1) := by decide +kernel
theorem dX9_next_90 : decode cX9_next 90 = .ok (.iload_n 2, 1) := by decide +kernel
theorem dX9_next_91 : decode cX9_next 91 = .ok (.iconst 1, 1) := by decide +kernel
theorem dX9_next_92 : decode cX9_next 92 = .ok (.iadd, 1) := by decide +kernel
theorem dX9_next_93 : decode cX9_next 93 = .ok (.istore 5, 2) := by decide +kernel
theorem dX9_next_95 : decode cX9_next 95 = .ok (.iload_n 1, 1) := by decide +kernel
theorem dX9_next_96 : decode cX9_next 96 = .ok (.iconst 1, 1) := by decide +kernel
theorem dX9_next_97 : decode cX9_next 97 = .ok (.isub, 1) := by decide +kernel
theorem dX9_next_98 : decode cX9_next 98 = .ok (.istore 6, 2) := by decide +kernel
theorem dX9_next_100 : decode cX9_next 100 = .ok (.iload 5, 2) := by decide +kernel
theorem dX9_next_102 : decode cX9_next 102 = .ok (.iload 6, 2) := by decide +kernel
theorem dX9_next_104 : decode cX9_next 104 = .ok (.if_icmp .ge 44, 3) := by decide +kernel
theorem dX9_next_107 : decode cX9_next 107 = .ok (.aload_n 0, 1) := by decide +kernel
theorem dX9_next_108 : decode cX9_next 108 = .ok (.getfield 89, 3) := by decide +kernel
theorem dX9_next_111 : decode cX9_next 111 = .ok (.iload 5, 2) := by decide +kernel
theorem dX9_next_113 : decode cX9_next 113 = .ok (.iaload, 1) := by decide +kernel
theorem dX9_next_114 : decode cX9_next 114 = .ok (.istore 4, 2) := by decide +kernel
theorem dX9_next_116 : decode cX9_next 116 = .ok (.aload_n 0, 1) := by decide +kernel
theorem dX9_next_117 : decode cX9_next 117 = .ok (.getfield 89, 3) := by decide +kernel
theorem dX9_next_120 : decode cX9_next 120 = .ok (.iload 5, 2) := by decide +kernel
theorem dX9_next_122 : decode cX9_next 122 = .ok (.aload_n 0, 1) := by decide +kernel
theorem dX9_next_123 : decode cX9_next 123 = .ok (.getfield 89, 3) := by decide +kernel
theorem dX9_next_126 : decode cX9_next 126 = .ok (.iload 6, 2) := by decide +kernel
theorem dX9_next_128 : decode cX9_next 128 = .ok (.iaload, 1) := by decide +kernel
theorem dX9_next_129 : decode cX9_next 129 = .ok (.iastore, 1) := by decide +kernel
theorem dX9_next_130 : decode cX9_next 130 = .ok (.aload_n 0, 1) := by decide +kernel
theorem dX9_next_131 : decode cX9_next 131 = .ok (.getfield 89, 3) := by decide +kernel
theorem dX9_next_134 : decode cX9_next 134 = .ok (.iload 6, 2) := by decide +kernel
theorem dX9_next_136 : decode cX9_next 136 = .ok (.iload 4, 2) := by decide +kernel
theorem dX9_next_138 : decode cX9_next 138 = .ok (.iastore, 1) := by decide +kernel
theorem dX9_next_139 : decode cX9_next 139 = .ok (.iinc 5 1, 3) := by decide +kernel
theorem dX9_next_142 : decode cX9_next 142 = .ok (.iinc 6 (-1), 3) := by decide +kernel
theorem dX9_next_145 : decode cX9_next 145 = .ok (.goto (-45), 3) := by decide +kernel
theorem dX9_next_148 : decode cX9_next 148 = .ok (.iconst 1, 1) := by decide +kernel
theorem dX9_next_149 : decode cX9_next 149 = .ok (.ireturn, 1) := by decide +kernel
theorem dX9_walk_0 : decode cX9_walk 0 = .ok (.aload_n 0, 1) := by decide +kernel
theorem dX9_walk_1 : decode cX9_walk 1 = .ok (.iconst 0, 1) := by decide +kernel
theorem dX9_walk_2 : decode cX9_walk 2 = .ok (.putfield 1, 3) := by decide +kernel
theorem dX9_walk_5 : decode cX9_walk 5 = .ok (.iconst 0, 1) := by decide +kernel
theorem dX9_walk_6 : decode cX9_walk 6 = .ok (.istore_n 3, 1) := by decide +kernel
theorem dX9_walk_7 : decode cX9_walk 7 = .ok (.iconst 0, 1) := by decide +kernel
theorem dX9_walk_8 : decode cX9_walk 8 = .ok (.istore 4, 2) := by decide +kernel
theorem dX9_walk_10 : decode cX9_walk 10 = .ok (.iload 4, 2) := by decide +kernel
theorem dX9_walk_12 : decode cX9_walk 12 = .ok (.bipush 10, 2) := by decide +kernel
theorem dX9_walk_14 : decode cX9_walk 14 = .ok (.if_icmp .ge 36, 3) := by decide +kernel
theorem dX9_walk_17 : decode cX9_walk 17 = .ok (.iload_n 1, 1) := by decide +kernel
theorem dX9_walk_18 : decode cX9_walk 18 = .ok (.iload 4, 2) := by decide +kernel
theorem dX9_walk_20 : decode cX9_walk 20 = .ok (.ishr, 1) := by decide +kernel
theorem dX9_walk_21 : decode cX9_walk 21 = .ok (.iconst 1, 1) := by decide +kernel
theorem dX9_walk_22 : decode cX9_walk 22 = .ok (.iand, 1) := by decide +kernel
theorem dX9_walk_23 : decode cX9_walk 23 = .ok (.iconst 1, 1) := by decide +kernel
theorem dX9_walk_24 : decode cX9_walk 24 = .ok (.if_icmp .ne 20, 3) := by decide +kernel
theorem dX9_walk_27 : decode cX9_walk 27 = .ok (.iload_n 3, 1) := by decide +kernel
theorem dX9_walk_28 : decode cX9_walk 28 = .ok (.bipush 7, 2) := by decide +kernel
theorem dX9_walk_30 : decode cX9_walk 30 = .ok (.if_icmp .ge 11, 3) := by decide +kernel
theorem dX9_walk_33 : decode cX9_walk 33 = .ok (.aload_n 0, 1) := by decide +kernel
theorem dX9_walk_34 : decode cX9_walk 34 = .ok (.getfield 89, 3) := by decide +kernel
theorem dX9_walk_37 : decode cX9_walk 37 = .ok (.iload_n 3, 1) := by decide +kernel
theorem dX9_walk_38 : decode cX9_walk 38 = .ok (.iload 4, 2) := by decide +kernel
theorem dX9_walk_40 : decode cX9_walk 40 = .ok (.iastore, 1) := by decide +kernel
theorem dX9_walk_41 : decode cX9_walk 41 = .ok (.iinc 3 1, 3) := by decide +kernel
theorem dX9_walk_44 : decode cX9_walk 44 = .ok (.iinc 4 1, 3) := by decide +kernel
theorem dX9_walk_47 : decode cX9_walk 47 = .ok (.goto (-37), 3) := by decide +kernel
theorem dX9_walk_50 : decode cX9_walk 50 = .ok (.iload_n 1, 1) := by decide +kernel
theorem dX9_walk_51 : decode cX9_walk 51 = .ok (.iconst 1, 1) := by decide +kernel
theorem dX9_walk_52 : decode cX9_walk 52 = .ok (.if_icmp .lt 18, 3) := by decide +kernel
theorem dX9_walk_55 : decode cX9_walk 55 = .ok (.iload_n 1, 1) := by decide +kernel
theorem dX9_walk_56 : decode cX9_walk 56 = .ok (.aload_n 0, 1) := by decide +kernel
theorem dX9_walk_57 : decode cX9_walk 57 = .ok (.getfield 101, 3) := by decide +kernel
theorem dX9_walk_60 : decode cX9_walk 60 = .ok (.ishr, 1) := by decide +kernel
theorem dX9_walk_61 : decode cX9_walk 61 = .ok (.ifCond .gt 9, 3) := by decide +kernel
theorem dX9_walk_64 : decode cX9_walk 64 = .ok (.iload_n 3, 1) := by decide +kernel
theorem dX9_walk_65 : decode cX9_walk 65 = .ok (.bipush 7, 2) := by decide +kernel
theorem dX9_walk_67 : decode cX9_walk 67 = .ok (.if_icmp .le 6, 3) := by decide +kernel
theorem dX9_walk_70 : decode cX9_walk 70 = .ok (.ldc 112, 2) := by decide +kernel
theorem dX9_walk_72 : decode cX9_walk 72 = .ok (.ireturn, 1) := by decide +kernel
theorem dX9_walk_73 : decode cX9_walk 73 = .ok (.iconst (-1), 1) := by decide +kernel
theorem dX9_walk_74 : decode cX9_walk 74 = .ok (.istore 4, 2) := by decide +kernel
theorem dX9_walk_76 : decode cX9_walk 76 = .ok (.iconst 1, 1) := by decide +kernel
theorem dX9_walk_77 : decode cX9_walk 77 = .ok (.istore 5, 2) := by decide +kernel
theorem dX9_walk_79 : decode cX9_walk 79 = .ok (.iload 5, 2) := by decide +kernel
theorem dX9_walk_81 : decode cX9_walk 81 = .ok (.ifCond .eq 117, 3) := by decide +kernel
theorem dX9_walk_84 : decode cX9_walk 84 = .ok (.iconst 0, 1) := by decide +kernel
theorem dX9_walk_85 : decode cX9_walk 85 = .ok (.istore 6, 2) := by decide +kernel
theorem dX9_walk_87 : decode cX9_walk 87 = .ok (.iconst 0, 1) := by decide +kernel
theorem dX9_walk_88 : decode cX9_walk 88 = .ok (.istore 7, 2) := by decide +kernel
theorem dX9_walk_90 : decode cX9_walk 90 = .ok (.iload 7, 2) := by decide +kernel
theorem dX9_walk_92 : decode cX9_walk 92 = .ok (.iload_n 3, 1) := by decide +kernel
theorem dX9_walk_93 : decode cX9_walk 93 = .ok (.if_icmp .ge 55, 3) := by decide +kernel
theorem dX9_walk_96 : decode cX9_walk 96 = .ok (.aload_n 0, 1) := by decide +kernel
theorem dX9_walk_97 : decode cX9_walk 97 = .ok (.getfield 35, 3) := by decide +kernel
theorem dX9_walk_100 : decode cX9_walk 100 = .ok (.aload_n 0, 1) := by decide +kernel
theorem dX9_walk_101 : decode cX9_walk 101 = .ok (.getfield 89, 3) := by decide +kernel
theorem dX9_walk_104 : decode cX9_walk 104 = .ok (.iload 7, 2) := by decide +kernel
theorem dX9_walk_106 : decode cX9_walk 106 = .ok (.iaload, 1) := by decide +kernel
theorem dX9_walk_107 : decode cX9_walk 107 = .ok (.iaload, 1) := by decide +kernel
theorem dX9_walk_108 : decode cX9_walk 108 = .ok (.iload 7, 2) := by decide +kernel
theorem dX9_walk_110 : decode cX9_walk 110 = .ok (.aload_n 0, 1) := by decide +kernel
theorem dX9_walk_111 : decode cX9_walk 111 = .ok (.getfield 38, 3) := by decide +kernel
theorem dX9_walk_114 : decode cX9_walk 114 = .ok (.aload_n 0, 1) := by decide +kernel
theorem dX9_walk_115 : decode cX9_walk 115 = .ok (.getfield 89, 3) := by decide +kernel
theorem dX9_walk_118 : decode cX9_walk 118 = .ok (.iload 7, 2) := by decide +kernel
theorem dX9_walk_120 : decode cX9_walk 120 = .ok (.iaload, 1) := by decide +kernel
theorem dX9_walk_121 : decode cX9_walk 121 = .ok (.iaload, 1) := by decide +kernel
theorem dX9_walk_122 : decode cX9_walk 122 = .ok (.imul, 1) := by decide +kernel
theorem dX9_walk_123 : decode cX9_walk 123 = .ok (.isub, 1) := by decide +kernel
theorem dX9_walk_124 : decode cX9_walk 124 = .ok (.istore 8, 2) := by decide +kernel
theorem dX9_walk_126 : decode cX9_walk 126 = .ok (.iload 6, 2) := by decide +kernel
theorem dX9_walk_128 : decode cX9_walk 128 = .ok (.iload 8, 2) := by decide +kernel
theorem dX9_walk_130 : decode cX9_walk 130 = .ok (.ifCond .le 8, 3) := by decide +kernel
theorem dX9_walk_133 : decode cX9_walk 133 = .ok (.iload 8, 2) := by decide +kernel
theorem dX9_walk_135 : decode cX9_walk 135 = .ok (.goto 4, 3) := by decide +kernel
theorem dX9_walk_138 : decode cX9_walk 138 = .ok (.iconst 0, 1) := by decide +kernel
theorem dX9_walk_139 : decode cX9_walk 139 = .ok (.iadd, 1) := by decide +kernel
theorem dX9_walk_140 : decode cX9_walk 140 = .ok (.istore 6, 2) := by decide +kernel
theorem dX9_walk_142 : decode cX9_walk 142 = .ok (.iinc 7 1, 3) := by decide +kernel
theorem dX9_walk_145 : decode cX9_walk 145 = .ok (.goto (-55), 3) := by decide +kernel
theorem dX9_walk_148 : decode cX9_walk 148 = .ok (.iload 6, 2) := by decide +kernel
theorem dX9_walk_150 : decode cX9_walk 150 = .ok (.iload 4, 2) := by decide +kernel
theorem dX9_walk_152 : decode cX9_walk 152 = .ok (.if_icmp .le 36, 3) := by decide +kernel
theorem dX9_walk_155 : decode cX9_walk 155 = .ok (.iload 6, 2) := by decide +kernel
theorem dX9_walk_157 : decode cX9_walk 157 = .ok (.istore 4, 2) := by decide +kernel
theorem dX9_walk_159 : decode cX9_walk 159 = .ok (.iconst 0, 1) := by decide +kernel
theorem dX9_walk_160 : decode cX9_walk 160 = .ok (.istore 7, 2) := by decide +kernel
theorem dX9_walk_162 : decode cX9_walk 162 = .ok (.iload 7, 2) := by decide +kernel
theorem dX9_walk_164 : decode cX9_walk 164 = .ok (.iload_n 3, 1) := by decide +kernel
theorem dX9_walk_165 : decode cX9_walk 165 = .ok (.if_icmp .ge 23, 3) := by decide +kernel
theorem dX9_walk_168 : decode cX9_walk 168 = .ok (.aload_n 0, 1) := by decide +kernel
theorem dX9_walk_169 : decode cX9_walk 169 = .ok (.getfield 92, 3) := by decide +kernel
theorem dX9_walk_172 : decode cX9_walk 172 = .ok (.iload 7, 2) := by decide +kernel
theorem dX9_walk_174 : decode cX9_walk 174 = .ok (.aload_n 0, 1) := by decide +kernel
theorem dX9_walk_175 : decode cX9_walk 175 = .ok (.getfield 89, 3) := by decide +kernel
theorem dX9_walk_178 : decode cX9_walk 178 = .ok (.iload 7, 2) := by decide +kernel
theorem dX9_walk_180 : decode cX9_walk 180 = .ok (.iaload, 1) := by decide +kernel
theorem dX9_walk_181 : decode cX9_walk 181 = .ok (.iastore, 1) := by decide +kernel
theorem dX9_walk_182 : decode cX9_walk 182 = .ok (.iinc 7 1, 3) := by decide +kernel
theorem dX9_walk_185 : decode cX9_walk 185 = .ok (.goto (-23), 3) := by decide +kernel
theorem dX9_walk_188 : decode cX9_walk 188 = .ok (.aload_n 0, 1) := by decide +kernel
theorem dX9_walk_189 : decode cX9_walk 189 = .ok (.iload_n 3, 1) := by decide +kernel
theorem dX9_walk_190 : decode cX9_walk 190 = .ok (.invokevirtual 269, 3) := by decide +kernel
theorem dX9_walk_193 : decode cX9_walk 193 = .ok (.istore 5, 2) := by decide +kernel
theorem dX9_walk_195 : decode cX9_walk 195 = .ok (.goto (-116), 3) := by decide +kernel
theorem dX9_walk_198 : decode cX9_walk 198 = .ok (.iload_n 2, 1) := by decide +kernel
theorem dX9_walk_199 : decode cX9_walk 199 = .ok (.ldc 114, 2) := by decide +kernel
theorem dX9_walk_201 : decode cX9_walk 201 = .ok (.if_icmp .ne 8, 3) := by decide +kernel
theorem dX9_walk_204 : decode cX9_walk 204 = .ok (.iload 4, 2) := by decide +kernel
theorem dX9_walk_206 : decode cX9_walk 206 = .ok (.goto 27, 3) := by decide +kernel
theorem dX9_walk_209 : decode cX9_walk 209 = .ok (.iload_n 2, 1) := by decide +kernel
theorem dX9_walk_210 : decode cX9_walk 210 = .ok (.i2l, 1) := by decide +kernel
theorem dX9_walk_211 : decode cX9_walk 211 = .ok (.lconst 0, 1) := by decide +kernel
theorem dX9_walk_212 : decode cX9_walk 212 = .ok (.iload_n 3, 1) := by decide +kernel
theorem dX9_walk_213 : decode cX9_walk 213 = .ok (.iconst 1, 1) := by decide +kernel
theorem dX9_walk_214 : decode cX9_walk 214 = .ok (.isub, 1) := by decide +kernel
theorem dX9_walk_215 : decode cX9_walk 215 = .ok (.i2l, 1) := by decide +kernel
theorem dX9_walk_216 : decode cX9_walk 216 = .ok (.invokestatic 104, 3) := by decide +kernel
theorem dX9_walk_219 : decode cX9_walk 219 = .ok (.ifCond .eq 12, 3) := by decide +kernel
theorem dX9_walk_222 : decode cX9_walk 222 = .ok (.aload_n 0, 1) := by decide +kernel
theorem dX9_walk_223 : decode cX9_walk 223 = .ok (.getfield 92, 3) := by decide +kernel
theorem dX9_walk_226 : decode cX9_walk 226 = .ok (.iload_n 2, 1) := by decide +kernel
theorem dX9_walk_227 : decode cX9_walk 227 = .ok (.iaload, 1) := by decide +kernel
theorem dX9_walk_228 : decode cX9_walk 228 = .ok (.goto 5, 3) := by decide +kernel
theorem dX9_walk_231 : decode cX9_walk 231 = .ok (.ldc 114, 2) := by decide +kernel
theorem dX9_walk_233 : decode cX9_walk 233 = .ok (.ireturn, 1) := by decide +kernel
theorem dX9_kindOf_0 : decode cX9_kindOf 0 = .ok (.aload_n 0, 1) := by decide +kernel
theorem dX9_kindOf_1 : decode cX9_kindOf 1 = .ok (.iload_n 1, 1) := by decide +kernel
theorem dX9_kindOf_2 : decode cX9_kindOf 2 = .ok (.invokevirtual 122, 3) := by decide +kernel
theorem dX9_kindOf_5 : decode cX9_kindOf 5 = .ok (.ifCond .ne 7, 3) := by decide +kernel
theorem dX9_kindOf_8 : decode cX9_kindOf 8 = .ok (.iconst 3, 1) := by decide +kernel
theorem dX9_kindOf_9 : decode cX9_kindOf 9 = .ok (.goto 30, 3) := by decide +kernel
theorem dX9_kindOf_12 : decode cX9_kindOf 12 = .ok (.aload_n 0, 1) := by decide +kernel
theorem dX9_kindOf_13 : decode cX9_kindOf 13 = .ok (.getfield 26, 3) := by decide +kernel
theorem dX9_kindOf_16 : decode cX9_kindOf 16 = .ok (.iload_n 1, 1) := by decide +kernel
theorem dX9_kindOf_17 : decode cX9_kindOf 17 = .ok (.iaload, 1) := by decide +kernel
theorem dX9_kindOf_18 : decode cX9_kindOf 18 = .ok (.ifCond .le 7, 3) := by decide +kernel
theorem dX9_kindOf_21 : decode cX9_kindOf 21 = .ok (.iconst 0, 1) := by decide +kernel
theorem dX9_kindOf_22 : decode cX9_kindOf 22 = .ok (.goto 17, 3) := by decide +kernel
theorem dX9_kindOf_25 : decode cX9_kindOf 25 = .ok (.aload_n 0, 1) := by decide +kernel
theorem dX9_kindOf_26 : decode cX9_kindOf 26 = .ok (.getfield 35, 3) := by decide +kernel
theorem dX9_kindOf_29 : decode cX9_kindOf 29 = .ok (.iload_n 1, 1) := by decide +kernel
theorem dX9_kindOf_30 : decode cX9_kindOf 30 = .ok (.iaload, 1) := by decide +kernel
theorem dX9_kindOf_31 : decode cX9_kindOf 31 = .ok (.ifCond .le 7, 3) := by decide +kernel
theorem dX9_kindOf_34 : decode cX9_kindOf 34 = .ok (.iconst 2, 1) := by decide +kernel
theorem dX9_kindOf_35 : decode cX9_kindOf 35 = .ok (.goto 4, 3) := by decide +kernel
theorem dX9_kindOf_38 : decode cX9_kindOf 38 = .ok (.iconst 1, 1) := by decide +kernel
theorem dX9_kindOf_39 : decode cX9_kindOf 39 = .ok (.ireturn, 1) := by decide +kernel
theorem dX9_kind_0 : decode cX9_kind 0 = .ok (.aload_n 0, 1) := by decide +kernel
theorem dX9_kind_1 : decode cX9_kind 1 = .ok (.iconst 0, 1) := by decide +kernel
theorem dX9_kind_2 : decode cX9_kind 2 = .ok (.putfield 1, 3) := by decide +kernel
theorem dX9_kind_5 : decode cX9_kind 5 = .ok (.aload_n 0, 1) := by decide +kernel
theorem dX9_kind_6 : decode cX9_kind 6 = .ok (.iload_n 1, 1) := by decide +kernel
theorem dX9_kind_7 : decode cX9_kind 7 = .ok (.invokevirtual 115, 3) := by decide +kernel
theorem dX9_kind_10 : decode cX9_kind 10 = .ok (.ifCond .eq 11, 3) := by decide +kernel
theorem dX9_kind_13 : decode cX9_kind 13 = .ok (.aload_n 0, 1) := by decide +kernel
theorem dX9_kind_14 : decode cX9_kind 14 = .ok (.iload_n 1, 1) := by decide +kernel
theorem dX9_kind_15 : decode cX9_kind 15 = .ok (.invokevirtual 272, 3) := by decide +kernel
theorem dX9_kind_18 : decode cX9_kind 18 = .ok (.goto 5, 3) := by decide +kernel
theorem dX9_kind_21 : decode cX9_kind 21 = .ok (.ldc 112, 2) := by decide +kernel
theorem dX9_kind_23 : decode cX9_kind 23 = .ok (.ireturn, 1) := by decide +kernel
theorem dX9_as_0 : decode cX9_as 0 = .ok (.aload_n 0, 1) := by decide +kernel
theorem dX9_as_1 : decode cX9_as 1 = .ok (.iconst 0, 1) := by decide +kernel
theorem dX9_as_2 : decode cX9_as 2 = .ok (.putfield 1, 3) := by decide +kernel
theorem dX9_as_5 : decode cX9_as 5 = .ok (.aload_n 0, 1) := by decide +kernel
theorem dX9_as_6 : decode cX9_as 6 = .ok (.iload_n 1, 1) := by decide +kernel
theorem dX9_as_7 : decode cX9_as 7 = .ok (.invokevirtual 115, 3) := by decide +kernel
theorem dX9_as_10 : decode cX9_as 10 = .ok (.ifCond .eq 15, 3) := by decide +kernel
theorem dX9_as_13 : decode cX9_as 13 = .ok (.iload_n 2, 1) := by decide +kernel
theorem dX9_as_14 : decode cX9_as 14 = .ok (.i2l, 1) := by decide +kernel
theorem dX9_as_15 : decode cX9_as 15 = .ok (.lconst 0, 1) := by decide +kernel
theorem dX9_as_16 : decode cX9_as 16 = .ok (.ldc2_w 110, 3) := by decide +kernel
theorem dX9_as_19 : decode cX9_as 19 = .ok (.invokestatic 104, 3) := by decide +kernel
theorem dX9_as_22 : decode cX9_as 22 = .ok (.ifCond .ne 6, 3) := by decide +kernel
theorem dX9_as_25 : decode cX9_as 25 = .ok (.ldc 112, 2) := by decide +kernel
theorem dX9_as_27 : decode cX9_as 27 = .ok (.ireturn, 1) := by decide +kernel
theorem dX9_as_28 : decode cX9_as 28 = .ok (.aload_n 0, 1) := by decide +kernel
theorem dX9_as_29 : decode cX9_as 29 = .ok (.iload_n 1, 1) := by decide +kernel
theorem dX9_as_30 : decode cX9_as 30 = .ok (.invokevirtual 272, 3) := by decide +kernel
theorem dX9_as_33 : decode cX9_as 33 = .ok (.istore_n 3, 1) := by decide +kernel
theorem dX9_as_34 : decode cX9_as 34 = .ok (.iload_n 2, 1) := by decide +kernel
theorem dX9_as_35 : decode cX9_as 35 = .ok (.ifCond .eq 18, 3) := by decide +kernel
theorem dX9_as_38 : decode cX9_as 38 = .ok (.iload_n 3, 1) := by decide +kernel
theorem dX9_as_39 : decode cX9_as 39 = .ok (.iload_n 2, 1) := by decide +kernel
theorem dX9_as_40 : decode cX9_as 40 = .ok (.if_icmp .eq 13, 3) := by decide +kernel
theorem dX9_as_43 : decode cX9_as 43 = .ok (.iload_n 2, 1) := by decide +kernel
theorem dX9_as_44 : decode cX9_as 44 = .ok (.iconst 1, 1) := by decide +kernel
theorem dX9_as_45 : decode cX9_as 45 = .ok (.if_icmp .ne 17, 3) := by decide +kernel
theorem dX9_as_48 : decode cX9_as 48 = .ok (.iload_n 3, 1) := by decide +kernel
theorem dX9_as_49 : decode cX9_as 49 = .ok (.iconst 2, 1) := by decide +kernel
theorem dX9_as_50 : decode cX9_as 50 = .ok (.if_icmp .ne 12, 3) := by decide +kernel
theorem dX9_as_53 : decode cX9_as 53 = .ok (.aload_n 0, 1) := by decide +kernel
theorem dX9_as_54 : decode cX9_as 54 = .ok (.getfield 19, 3) := by decide +kernel
theorem dX9_as_57 : decode cX9_as 57 = .ok (.iload_n 1, 1) := by decide +kernel
theorem dX9_as_58 : decode cX9_as 58 = .ok (.iaload, 1) := by decide +kernel
theorem dX9_as_59 : decode cX9_as 59 = .ok (.goto 6, 3) := by decide +kernel
theorem dX9_as_62 : decode cX9_as 62 = .ok (.ldc_w 275, 3) := by decide +kernel
theorem dX9_as_65 : decode cX9_as 65 = .ok (.ireturn, 1) := by decide +kernel
theorem dX9_began_0 : decode cX9_began 0 = .ok (.aload_n 0, 1) := by decide +kernel
theorem dX9_began_1 : decode cX9_began 1 = .ok (.getfield 276, 3) := by decide +kernel
theorem dX9_began_4 : decode cX9_began 4 = .ok (.bipush 16, 2) := by decide +kernel
theorem dX9_began_6 : decode cX9_began 6 = .ok (.if_icmp .ge 23, 3) := by decide +kernel
theorem dX9_began_9 : decode cX9_began 9 = .ok (.aload_n 0, 1) := by decide +kernel
theorem dX9_began_10 : decode cX9_began 10 = .ok (.getfield 95, 3) := by decide +kernel
theorem dX9_began_13 : decode cX9_began 13 = .ok (.aload_n 0, 1) := by decide +kernel
theorem dX9_began_14 : decode cX9_began 14 = .ok (.getfield 276, 3) := by decide +kernel
theorem dX9_began_17 : decode cX9_began 17 = .ok (.iload_n 1, 1) := by decide +kernel
theorem dX9_began_18 : decode cX9_began 18 = .ok (.iastore, 1) := by decide +kernel
theorem dX9_began_19 : decode cX9_began 19 = .ok (.aload_n 0, 1) := by decide +kernel
theorem dX9_began_20 : decode cX9_began 20 = .ok (.dup, 1) := by decide +kernel
theorem dX9_began_21 : decode cX9_began 21 = .ok (.getfield 276, 3) := by decide +kernel
theorem dX9_began_24 : decode cX9_began 24 = .ok (.iconst 1, 1) := by decide +kernel
theorem dX9_began_25 : decode cX9_began 25 = .ok (.iadd, 1) := by decide +kernel
theorem dX9_began_26 : decode cX9_began 26 = .ok (.putfield 276, 3) := by decide +kernel
theorem dX9_began_29 : decode cX9_began 29 = .ok (.return_, 1) := by decide +kernel
theorem dX9_bareWorth_0 : decode cX9_bareWorth 0 = .ok (.aload_n 0, 1) := by decide +kernel
theorem dX9_bareWorth_1 : decode cX9_bareWorth 1 = .ok (.bipush 13, 2) := by decide +kernel
theorem dX9_bareWorth_3 : decode cX9_bareWorth 3 = .ok (.invokevirtual 279, 3) := by decide +kernel
theorem dX9_bareWorth_6 : decode cX9_bareWorth 6 = .ok (.aload_n 0, 1) := by decide +kernel
theorem dX9_bareWorth_7 : decode cX9_bareWorth 7 = .ok (.getfield 19, 3) := by decide +kernel
theorem dX9_bareWorth_10 : decode cX9_bareWorth 10 = .ok (.iload_n 1, 1) := by decide +kernel
theorem dX9_bareWorth_11 : decode cX9_bareWorth 11 = .ok (.iaload, 1) := by decide +kernel
theorem dX9_bareWorth_12 : decode cX9_bareWorth 12 = .ok (.ireturn, 1) := by decide +kernel
theorem dX9_marked_0 : decode cX9_marked 0 = .ok (.aload_n 0, 1) := by decide +kernel
theorem dX9_marked_1 : decode cX9_marked 1 = .ok (.iload_n 1, 1) := by decide +kernel
theorem dX9_marked_2 : decode cX9_marked 2 = .ok (.invokevirtual 272, 3) := by decide +kernel
theorem dX9_marked_5 : decode cX9_marked 5 = .ok (.istore_n 2, 1) := by decide +kernel
theorem dX9_marked_6 : decode cX9_marked 6 = .ok (.iload_n 2, 1) := by decide +kernel
theorem dX9_marked_7 : decode cX9_marked 7 = .ok (.iconst 2, 1) := by decide +kernel
theorem dX9_marked_8 : decode cX9_marked 8 = .ok (.if_icmp .ne 9, 3) := by decide +kernel
theorem dX9_marked_11 : decode cX9_marked 11 = .ok (.aload_n 0, 1) := by decide +kernel
theorem dX9_marked_12 : decode cX9_marked 12 = .ok (.bipush 21, 2) := by decide +kernel
theorem dX9_marked_14 : decode cX9_marked 14 = .ok (.invokevirtual 279, 3) := by decide +kernel
theorem dX9_marked_17 : decode cX9_marked 17 = .ok (.iload_n 2, 1) := by decide +kernel
theorem dX9_marked_18 : decode cX9_marked 18 = .ok (.iconst 3, 1) := by decide +kernel
theorem dX9_marked_19 : decode cX9_marked 19 = .ok (.if_icmp .ne 9, 3) := by decide +kernel
theorem dX9_marked_22 : decode cX9_marked 22 = .ok (.aload_n 0, 1) := by decide +kernel
theorem dX9_marked_23 : decode cX9_marked 23 = .ok (.bipush 22, 2) := by decide +kernel
theorem dX9_marked_25 : decode cX9_marked 25 = .ok (.invokevirtual 279, 3) := by decide +kernel
theorem dX9_marked_28 : decode cX9_marked 28 = .ok (.aload_n 0, 1) := by decide +kernel
theorem dX9_marked_29 : decode cX9_marked 29 = .ok (.bipush 20, 2) := by decide +kernel
theorem dX9_marked_31 : decode cX9_marked 31 = .ok (.invokevirtual 279, 3) := by decide +kernel
theorem dX9_marked_34 : decode cX9_marked 34 = .ok (.aload_n 0, 1) := by decide +kernel
theorem dX9_marked_35 : decode cX9_marked 35 = .ok (.getfield 23, 3) := by decide +kernel
theorem dX9_marked_38 : decode cX9_marked 38 = .ok (.iload_n 1, 1) := by decide +kernel
theorem dX9_marked_39 : decode cX9_marked 39 = .ok (.iaload, 1) := by decide +kernel
theorem dX9_marked_40 : decode cX9_marked 40 = .ok (.iload_n 2, 1) := by decide +kernel
theorem dX9_marked_41 : decode cX9_marked 41 = .ok (.iconst 2, 1) := by decide +kernel
theorem dX9_marked_42 : decode cX9_marked 42 = .ok (.if_icmp .ne 12, 3) := by decide +kernel
theorem dX9_marked_45 : decode cX9_marked 45 = .ok (.aload_n 0, 1) := by decide +kernel
theorem dX9_marked_46 : decode cX9_marked 46 = .ok (.getfield 35, 3) := by decide +kernel
theorem dX9_marked_49 : decode cX9_marked 49 = .ok (.iload_n 1, 1) := by decide +kernel
theorem dX9_marked_50 : decode cX9_marked 50 = .ok (.iaload, 1) := by decide +kernel
theorem dX9_marked_51 : decode cX9_marked 51 = .ok (.goto 17, 3) := by decide +kernel
theorem dX9_marked_54 : decode cX9_marked 54 = .ok (.iload_n 2, 1) := by decide +kernel
theorem dX9_marked_55 : decode cX9_marked 55 = .ok (.iconst 3, 1) := by decide +kernel
theorem dX9_marked_56 : decode cX9_marked 56 = .ok (.if_icmp .ne 11, 3) := by decide +kernel
theorem dX9_marked_59 : decode cX9_marked 59 = .ok (.aload_n 0, 1) := by decide +kernel
theorem dX9_marked_60 : decode cX9_marked 60 = .ok (.iload_n 1, 1) := by decide +kernel
theorem dX9_marked_61 : decode cX9_marked 61 = .ok (.invokevirtual 282, 3) := by decide +kernel
theorem dX9_marked_64 : decode cX9_marked 64 = .ok (.goto 4, 3) := by decide +kernel
theorem dX9_marked_67 : decode cX9_marked 67 = .ok (.iconst 0, 1) := by decide +kernel
theorem dX9_marked_68 : decode cX9_marked 68 = .ok (.iadd, 1) := by decide +kernel
theorem dX9_marked_69 : decode cX9_marked 69 = .ok (.ireturn, 1) := by decide +kernel
theorem dX9_worth_0 : decode cX9_worth 0 = .ok (.aload_n 0, 1) := by decide +kernel
theorem dX9_worth_1 : decode cX9_worth 1 = .ok (.iload_n 1, 1) := by decide +kernel
theorem dX9_worth_2 : decode cX9_worth 2 = .ok (.invokevirtual 272, 3) := by decide +kernel
theorem dX9_worth_5 : decode cX9_worth 5 = .ok (.istore_n 2, 1) := by decide +kernel
theorem dX9_worth_6 : decode cX9_worth 6 = .ok (.iload_n 2, 1) := by decide +kernel
theorem dX9_worth_7 : decode cX9_worth 7 = .ok (.iconst 3, 1) := by decide +kernel
theorem dX9_worth_8 : decode cX9_worth 8 = .ok (.if_icmp .ne 9, 3) := by decide +kernel
theorem dX9_worth_11 : decode cX9_worth 11 = .ok (.aload_n 0, 1) := by decide +kernel
theorem dX9_worth_12 : decode cX9_worth 12 = .ok (.iload_n 1, 1) := by decide +kernel
theorem dX9_worth_13 : decode cX9_worth 13 = .ok (.invokevirtual 282, 3) := by decide +kernel
theorem dX9_worth_16 : decode cX9_worth 16 = .ok (.ireturn, 1) := by decide +kernel
theorem dX9_worth_17 : decode cX9_worth 17 = .ok (.iload_n 2, 1) := by decide +kernel
theorem dX9_worth_18 : decode cX9_worth 18 = .ok (.iconst 2, 1) := by decide +kernel
theorem dX9_worth_19 : decode cX9_worth 19 = .ok (.if_icmp .ne 9, 3) := by decide +kernel
theorem dX9_worth_22 : decode cX9_worth 22 = .ok (.aload_n 0, 1) := by decide +kernel
theorem dX9_worth_23 : decode cX9_worth 23 = .ok (.bipush 12, 2) := by decide +kernel
theorem dX9_worth_25 : decode cX9_worth 25 = .ok (.invokevirtual 279, 3) := by decide +kernel
theorem dX9_worth_28 : decode cX9_worth 28 = .ok (.iload_n 2, 1) := by decide +kernel
theorem dX9_worth_29 : decode cX9_worth 29 = .ok (.iconst 2, 1) := by decide +kernel
theorem dX9_worth_30 : decode cX9_worth 30 = .ok (.if_icmp .eq 8, 3) := by decide +kernel
theorem dX9_worth_33 : decode cX9_worth 33 = .ok (.iload_n 2, 1) := by decide +kernel
theorem dX9_worth_34 : decode cX9_worth 34 = .ok (.iconst 1, 1) := by decide +kernel
theorem dX9_worth_35 : decode cX9_worth 35 = .ok (.if_icmp .ne 9, 3) := by decide +kernel
theorem dX9_worth_38 : decode cX9_worth 38 = .ok (.aload_n 0, 1) := by decide +kernel
theorem dX9_worth_39 : decode cX9_worth 39 = .ok (.bipush 11, 2) := by decide +kernel
theorem dX9_worth_41 : decode cX9_worth 41 = .ok (.invokevirtual 279, 3) := by decide +kernel
theorem dX9_worth_44 : decode cX9_worth 44 = .ok (.aload_n 0, 1) := by decide +kernel
theorem dX9_worth_45 : decode cX9_worth 45 = .ok (.bipush 10, 2) := by decide +kernel
theorem dX9_worth_47 : decode cX9_worth 47 = .ok (.invokevirtual 279, 3) := by decide +kernel
theorem dX9_worth_50 : decode cX9_worth 50 = .ok (.aload_n 0, 1) := by decide +kernel
theorem dX9_worth_51 : decode cX9_worth 51 = .ok (.iload_n 1, 1) := by decide +kernel
theorem dX9_worth_52 : decode cX9_worth 52 = .ok (.invokevirtual 122, 3) := by decide +kernel
theorem dX9_worth_55 : decode cX9_worth 55 = .ok (.iload_n 2, 1) := by decide +kernel
theorem dX9_worth_56 : decode cX9_worth 56 = .ok (.iconst 2, 1) := by decide +kernel
theorem dX9_worth_57 : decode cX9_worth 57 = .ok (.if_icmp .eq 8, 3) := by decide +kernel
theorem dX9_worth_60 : decode cX9_worth 60 = .ok (.iload_n 2, 1) := by decide +kernel
theorem dX9_worth_61 : decode cX9_worth 61 = .ok (.iconst 1, 1) := by decide +kernel
theorem dX9_worth_62 : decode cX9_worth 62 = .ok (.if_icmp .ne 9, 3) := by decide +kernel
theorem dX9_worth_65 : decode cX9_worth 65 = .ok (.sipush 1000, 3) := by decide +kernel
theorem dX9_worth_68 : decode cX9_worth 68 = .ok (.goto 4, 3) := by decide +kernel
theorem dX9_worth_71 : decode cX9_worth 71 = .ok (.iconst 0, 1) := by decide +kernel
theorem dX9_worth_72 : decode cX9_worth 72 = .ok (.iadd, 1) := by decide +kernel
theorem dX9_worth_73 : decode cX9_worth 73 = .ok (.istore_n 3, 1) := by decide +kernel
theorem dX9_worth_74 : decode cX9_worth 74 = .ok (.iload_n 2, 1) := by decide +kernel
theorem dX9_worth_75 : decode cX9_worth 75 = .ok (.iconst 2, 1) := by decide +kernel
theorem dX9_worth_76 : decode cX9_worth 76 = .ok (.if_icmp .ne 13, 3) := by decide +kernel
theorem dX9_worth_79 : decode cX9_worth 79 = .ok (.iload_n 3, 1) := by decide +kernel
theorem dX9_worth_80 : decode cX9_worth 80 = .ok (.aload_n 0, 1) := by decide +kernel
theorem dX9_worth_81 : decode cX9_worth 81 = .ok (.iload_n 1, 1) := by decide +kernel
theorem dX9_worth_82 : decode cX9_worth 82 = .ok (.invokevirtual 285, 3) := by decide +kernel
theorem dX9_worth_85 : decode cX9_worth 85 = .ok (.iadd, 1) := by decide +kernel
theorem dX9_worth_86 : decode cX9_worth 86 = .ok (.goto 4, 3) := by decide +kernel
theorem dX9_worth_89 : decode cX9_worth 89 = .ok (.iload_n 3, 1) := by decide +kernel
theorem dX9_worth_90 : decode cX9_worth 90 = .ok (.ireturn, 1) := by decide +kernel
theorem dX9_ask_0 : decode cX9_ask 0 = .ok (.aload_n 0, 1) := by decide +kernel
theorem dX9_ask_1 : decode cX9_ask 1 = .ok (.iconst 0, 1) := by decide +kernel
theorem dX9_ask_2 : decode cX9_ask 2 = .ok (.putfield 1, 3) := by decide +kernel
theorem dX9_ask_5 : decode cX9_ask 5 = .ok (.aload_n 0, 1) := by decide +kernel
theorem dX9_ask_6 : decode cX9_ask 6 = .ok (.iload_n 1, 1) := by decide +kernel
theorem dX9_ask_7 : decode cX9_ask 7 = .ok (.invokevirtual 115, 3) := by decide +kernel
theorem dX9_ask_10 : decode cX9_ask 10 = .ok (.ifCond .eq 13, 3) := by decide +kernel
theorem dX9_ask_13 : decode cX9_ask 13 = .ok (.iload_n 2, 1) := by decide +kernel
theorem dX9_ask_14 : decode cX9_ask 14 = .ok (.i2l, 1) := by decide +kernel
theorem dX9_ask_15 : decode cX9_ask 15 = .ok (.lconst 0, 1) := by decide +kernel
theorem dX9_ask_16 : decode cX9_ask 16 = .ok (.lconst 1, 1) := by decide +kernel
theorem dX9_ask_17 : decode cX9_ask 17 = .ok (.invokestatic 104, 3) := by decide +kernel
theorem dX9_ask_20 : decode cX9_ask 20 = .ok (.ifCond .ne 6, 3) := by decide +kernel
theorem dX9_ask_23 : decode cX9_ask 23 = .ok (.ldc 112, 2) := by decide +kernel
theorem dX9_ask_25 : decode cX9_ask 25 = .ok (.ireturn, 1) := by decide +kernel
theorem dX9_ask_26 : decode cX9_ask 26 = .ok (.aload_n 0, 1) := by decide +kernel
theorem dX9_ask_27 : decode cX9_ask 27 = .ok (.iconst 0, 1) := by decide +kernel
theorem dX9_ask_28 : decode cX9_ask 28 = .ok (.putfield 276, 3) := by decide +kernel
theorem dX9_ask_31 : decode cX9_ask 31 = .ok (.iload_n 2, 1) := by decide +kernel
theorem dX9_ask_32 : decode cX9_ask 32 = .ok (.ifCond .ne 11, 3) := by decide +kernel
theorem dX9_ask_35 : decode cX9_ask 35 = .ok (.aload_n 0, 1) := by decide +kernel
theorem dX9_ask_36 : decode cX9_ask 36 = .ok (.iload_n 1, 1) := by decide +kernel
theorem dX9_ask_37 : decode cX9_ask 37 = .ok (.invokevirtual 288, 3) := by decide +kernel
theorem dX9_ask_40 : decode cX9_ask 40 = .ok (.goto 8, 3) := by decide +kernel
theorem dX9_ask_43 : decode cX9_ask 43 = .ok (.aload_n 0, 1) := by decide +kernel
theorem dX9_ask_44 : decode cX9_ask 44 = .ok (.iload_n 1, 1) := by decide +kernel
theorem dX9_ask_45 : decode cX9_ask 45 = .ok (.invokevirtual 285, 3) := by decide +kernel
theorem dX9_ask_48 : decode cX9_ask 48 = .ok (.ireturn, 1) := by decide +kernel
theorem dX9_trace_0 : decode cX9_trace 0 = .ok (.aload_n 0, 1) := by decide +kernel
theorem dX9_trace_1 : decode cX9_trace 1 = .ok (.iconst 0, 1) := by decide +kernel
theorem dX9_trace_2 : decode cX9_trace 2 = .ok (.putfield 1, 3) := by decide +kernel
theorem dX9_trace_5 : decode cX9_trace 5 = .ok (.iload_n 1, 1) := by decide +kernel
theorem dX9_trace_6 : decode cX9_trace 6 = .ok (.i2l, 1) := by decide +kernel
theorem dX9_trace_7 : decode cX9_trace 7 = .ok (.lconst 0, 1) := by decide +kernel
theorem dX9_trace_8 : decode cX9_trace 8 = .ok (.aload_n 0, 1) := by decide +kernel
theorem dX9_trace_9 : decode cX9_trace 9 = .ok (.getfield 276, 3) := by decide +kernel
theorem dX9_trace_12 : decode cX9_trace 12 = .ok (.iconst 1, 1) := by decide +kernel
theorem dX9_trace_13 : decode cX9_trace 13 = .ok (.isub, 1) := by decide +kernel
theorem dX9_trace_14 : decode cX9_trace 14 = .ok (.i2l, 1) := by decide +kernel
theorem dX9_trace_15 : decode cX9_trace 15 = .ok (.invokestatic 104, 3) := by decide +kernel
theorem dX9_trace_18 : decode cX9_trace 18 = .ok (.ifCond .eq 12, 3) := by decide +kernel
theorem dX9_trace_21 : decode cX9_trace 21 = .ok (.aload_n 0, 1) := by decide +kernel
theorem dX9_trace_22 : decode cX9_trace 22 = .ok (.getfield 95, 3) := by decide +kernel
theorem dX9_trace_25 : decode cX9_trace 25 = .ok (.iload_n 1, 1) := by decide +kernel
theorem dX9_trace_26 : decode cX9_trace 26 = .ok (.iaload, 1) := by decide +kernel
theorem dX9_trace_27 : decode cX9_trace 27 = .ok (.goto 5, 3) := by decide +kernel
theorem dX9_trace_30 : decode cX9_trace 30 = .ok (.ldc 114, 2) := by decide +kernel
theorem dX9_trace_32 : decode cX9_trace 32 = .ok (.ireturn, 1) := by decide +kernel
theorem dX9_count_0 : decode cX9_count 0 = .ok (.aload_n 0, 1) := by decide +kernel
theorem dX9_count_1 : decode cX9_count 1 = .ok (.iconst 0, 1) := by decide +kernel
theorem dX9_count_2 : decode cX9_count 2 = .ok (.putfield 1, 3) := by decide +kernel
theorem dX9_count_5 : decode cX9_count 5 = .ok (.iload_n 1, 1) := by decide +kernel
theorem dX9_count_6 : decode cX9_count 6 = .ok (.tableswitch 127 0 9 #[54, 59, 64, 92, 97, 102, 107, 112, 117, 122], 54) := by decide +kernel
theorem dX9_count_60 : decode cX9_count 60 = .ok (.aload_n 0, 1) := by decide +kernel
theorem dX9_count_61 : decode cX9_count 61 = .ok (.getfield 101, 3) := by decide +kernel
theorem dX9_count_64 : decode cX9_count 64 = .ok (.ireturn, 1) := by decide +kernel
theorem dX9_count_65 : decode cX9_count 65 = .ok (.aload_n 0, 1) := by decide +kernel
theorem dX9_count_66 : decode cX9_count 66 = .ok (.getfield 98, 3) := by decide +kernel
theorem dX9_count_69 : decode cX9_count 69 = .ok (.ireturn, 1) := by decide +kernel
theorem dX9_count_70 : decode cX9_count 70 = .ok (.iconst 0, 1) := by decide +kernel
theorem dX9_count_71 : decode cX9_count 71 = .ok (.istore_n 2, 1) := by decide +kernel
theorem dX9_count_72 : decode cX9_count 72 = .ok (.iconst 0, 1) := by decide +kernel
theorem dX9_count_73 : decode cX9_count 73 = .ok (.istore_n 3, 1) := by decide +kernel
theorem dX9_count_74 : decode cX9_count 74 = .ok (.iload_n 3, 1) := by decide +kernel
theorem dX9_count_75 : decode cX9_count 75 = .ok (.aload_n 0, 1) := by decide +kernel
theorem dX9_count_76 : decode cX9_count 76 = .ok (.getfield 101, 3) := by decide +kernel
theorem dX9_count_79 : decode cX9_count 79 = .ok (.if_icmp .ge 17, 3) := by decide +kernel
theorem dX9_count_82 : decode cX9_count 82 = .ok (.iload_n 2, 1) := by decide +kernel
theorem dX9_count_83 : decode cX9_count 83 = .ok (.aload_n 0, 1) := by decide +kernel
theorem dX9_count_84 : decode cX9_count 84 = .ok (.iload_n 3, 1) := by decide +kernel
theorem dX9_count_85 : decode cX9_count 85 = .ok (.invokevirtual 122, 3) := by decide +kernel
theorem dX9_count_88 : decode cX9_count 88 = .ok (.iadd, 1) := by decide +kernel
theorem dX9_count_89 : decode cX9_count 89 = .ok (.istore_n 2, 1) := by decide +kernel
theorem dX9_count_90 : decode cX9_count 90 = .ok (.iinc 3 1, 3) := by decide +kernel
theorem dX9_count_93 : decode cX9_count 93 = .ok (.goto (-19), 3) := by decide +kernel
theorem dX9_count_96 : decode cX9_count 96 = .ok (.iload_n 2, 1) := by decide +kernel
theorem dX9_count_97 : decode cX9_count 97 = .ok (.ireturn, 1) := by decide +kernel
theorem dX9_count_98 : decode cX9_count 98 = .ok (.aload_n 0, 1) := by decide +kernel
theorem dX9_count_99 : decode cX9_count 99 = .ok (.getfield 166, 3) := by decide +kernel
theorem dX9_count_102 : decode cX9_count 102 = .ok (.ireturn, 1) := by decide +kernel
theorem dX9_count_103 : decode cX9_count 103 = .ok (.aload_n 0, 1) := by decide +kernel
theorem dX9_count_104 : decode cX9_count 104 = .ok (.getfield 130, 3) := by decide +kernel
theorem dX9_count_107 : decode cX9_count 107 = .ok (.ireturn, 1) := by decide +kernel
theorem dX9_count_108 : decode cX9_count 108 = .ok (.aload_n 0, 1) := by decide +kernel
theorem dX9_count_109 : decode cX9_count 109 = .ok (.getfield 138, 3) := by decide +kernel
theorem dX9_count_112 : decode cX9_count 112 = .ok (.ireturn, 1) := by decide +kernel
theorem dX9_count_113 : decode cX9_count 113 = .ok (.aload_n 0, 1) := by decide +kernel
theorem dX9_count_114 : decode cX9_count 114 = .ok (.getfield 141, 3) := by decide +kernel
theorem dX9_count_117 : decode cX9_count 117 = .ok (.ireturn, 1) := by decide +kernel
theorem dX9_count_118 : decode cX9_count 118 = .ok (.aload_n 0, 1) := by decide +kernel
theorem dX9_count_119 : decode cX9_count 119 = .ok (.getfield 163, 3) := by decide +kernel
theorem dX9_count_122 : decode cX9_count 122 = .ok (.ireturn, 1) := by decide +kernel
theorem dX9_count_123 : decode cX9_count 123 = .ok (.aload_n 0, 1) := by decide +kernel
theorem dX9_count_124 : decode cX9_count 124 = .ok (.getfield 144, 3) := by decide +kernel
theorem dX9_count_127 : decode cX9_count 127 = .ok (.ireturn, 1) := by decide +kernel
theorem dX9_count_128 : decode cX9_count 128 = .ok (.aload_n 0, 1) := by decide +kernel
theorem dX9_count_129 : decode cX9_count 129 = .ok (.getfield 169, 3) := by decide +kernel
theorem dX9_count_132 : decode cX9_count 132 = .ok (.ireturn, 1) := by decide +kernel
theorem dX9_count_133 : decode cX9_count 133 = .ok (.ldc 112, 2) := by decide +kernel
theorem dX9_count_135 : decode cX9_count 135 = .ok (.ireturn, 1) := by decide +kernel
theorem dJ6_bitCount_0f7a4_0 : decode cJ6_bitCount_0f7a4 0 = .ok (.iload_n 0, 1) := by decide +kernel
theorem dJ6_bitCount_0f7a4_1 : decode cJ6_bitCount_0f7a4 1 = .ok (.iload_n 0, 1) := by decide +kernel
theorem dJ6_bitCount_0f7a4_2 : decode cJ6_bitCount_0f7a4 2 = .ok (.iconst 1, 1) := by decide +kernel
theorem dJ6_bitCount_0f7a4_3 : decode cJ6_bitCount_0f7a4 3 = .ok (.iushr, 1) := by decide +kernel
theorem dJ6_bitCount_0f7a4_4 : decode cJ6_bitCount_0f7a4 4 = .ok (.ldc_w 265, 3) := by decide +kernel
theorem dJ6_bitCount_0f7a4_7 : decode cJ6_bitCount_0f7a4 7 = .ok (.iand, 1) := by decide +kernel
theorem dJ6_bitCount_0f7a4_8 : decode cJ6_bitCount_0f7a4 8 = .ok (.isub, 1) := by decide +kernel
theorem dJ6_bitCount_0f7a4_9 : decode cJ6_bitCount_0f7a4 9 = .ok (.istore_n 0, 1) := by decide +kernel
theorem dJ6_bitCount_0f7a4_10 : decode cJ6_bitCount_0f7a4 10 = .ok (.iload_n 0, 1) := by decide +kernel
theorem dJ6_bitCount_0f7a4_11 : decode cJ6_bitCount_0f7a4 11 = .ok (.ldc_w 266, 3) := by decide +kernel
theorem dJ6_bitCount_0f7a4_14 : decode cJ6_bitCount_0f7a4 14 = .ok (.iand, 1) := by decide +kernel
theorem dJ6_bitCount_0f7a4_15 : decode cJ6_bitCount_0f7a4 15 = .ok (.iload_n 0, 1) := by decide +kernel
theorem dJ6_bitCount_0f7a4_16 : decode cJ6_bitCount_0f7a4 16 = .ok (.iconst 2, 1) := by decide +kernel
theorem dJ6_bitCount_0f7a4_17 : decode cJ6_bitCount_0f7a4 17 = .ok (.iushr, 1) := by decide +kernel
theorem dJ6_bitCount_0f7a4_18 : decode cJ6_bitCount_0f7a4 18 = .ok (.ldc_w 266, 3) := by decide +kernel
theorem dJ6_bitCount_0f7a4_21 : decode cJ6_bitCount_0f7a4 21 = .ok (.iand, 1) := by decide +kernel
theorem dJ6_bitCount_0f7a4_22 : decode cJ6_bitCount_0f7a4 22 = .ok (.iadd, 1) := by decide +kernel
theorem dJ6_bitCount_0f7a4_23 : decode cJ6_bitCount_0f7a4 23 = .ok (.istore_n 0, 1) := by decide +kernel
theorem dJ6_bitCount_0f7a4_24 : decode cJ6_bitCount_0f7a4 24 = .ok (.iload_n 0, 1) := by decide +kernel
theorem dJ6_bitCount_0f7a4_25 : decode cJ6_bitCount_0f7a4 25 = .ok (.iload_n 0, 1) := by decide +kernel
theorem dJ6_bitCount_0f7a4_26 : decode cJ6_bitCount_0f7a4 26 = .ok (.iconst 4, 1) := by decide +kernel
theorem dJ6_bitCount_0f7a4_27 : decode cJ6_bitCount_0f7a4 27 = .ok (.iushr, 1) := by decide +kernel
theorem dJ6_bitCount_0f7a4_28 : decode cJ6_bitCount_0f7a4 28 = .ok (.iadd, 1) := by decide +kernel
theorem dJ6_bitCount_0f7a4_29 : decode cJ6_bitCount_0f7a4 29 = .ok (.ldc_w 267, 3) := by decide +kernel
theorem dJ6_bitCount_0f7a4_32 : decode cJ6_bitCount_0f7a4 32 = .ok (.iand, 1) := by decide +kernel
theorem dJ6_bitCount_0f7a4_33 : decode cJ6_bitCount_0f7a4 33 = .ok (.istore_n 0, 1) := by decide +kernel
theorem dJ6_bitCount_0f7a4_34 : decode cJ6_bitCount_0f7a4 34 = .ok (.iload_n 0, 1) := by decide +kernel
theorem dJ6_bitCount_0f7a4_35 : decode cJ6_bitCount_0f7a4 35 = .ok (.iload_n 0, 1) := by decide +kernel
theorem dJ6_bitCount_0f7a4_36 : decode cJ6_bitCount_0f7a4 36 = .ok (.bipush 8, 2) := by decide +kernel
theorem dJ6_bitCount_0f7a4_38 : decode cJ6_bitCount_0f7a4 38 = .ok (.iushr, 1) := by decide +kernel
theorem dJ6_bitCount_0f7a4_39 : decode cJ6_bitCount_0f7a4 39 = .ok (.iadd, 1) := by decide +kernel
theorem dJ6_bitCount_0f7a4_40 : decode cJ6_bitCount_0f7a4 40 = .ok (.istore_n 0, 1) := by decide +kernel
theorem dJ6_bitCount_0f7a4_41 : decode cJ6_bitCount_0f7a4 41 = .ok (.iload_n 0, 1) := by decide +kernel
theorem dJ6_bitCount_0f7a4_42 : decode cJ6_bitCount_0f7a4 42 = .ok (.iload_n 0, 1) := by decide +kernel
theorem dJ6_bitCount_0f7a4_43 : decode cJ6_bitCount_0f7a4 43 = .ok (.bipush 16, 2) := by decide +kernel
theorem dJ6_bitCount_0f7a4_45 : decode cJ6_bitCount_0f7a4 45 = .ok (.iushr, 1) := by decide +kernel
theorem dJ6_bitCount_0f7a4_46 : decode cJ6_bitCount_0f7a4 46 = .ok (.iadd, 1) := by decide +kernel
theorem dJ6_bitCount_0f7a4_47 : decode cJ6_bitCount_0f7a4 47 = .ok (.istore_n 0, 1) := by decide +kernel
theorem dJ6_bitCount_0f7a4_48 : decode cJ6_bitCount_0f7a4 48 = .ok (.iload_n 0, 1) := by decide +kernel
theorem dJ6_bitCount_0f7a4_49 : decode cJ6_bitCount_0f7a4 49 = .ok (.bipush 63, 2) := by decide +kernel
theorem dJ6_bitCount_0f7a4_51 : decode cJ6_bitCount_0f7a4 51 = .ok (.iand, 1) := by decide +kernel
theorem dJ6_bitCount_0f7a4_52 : decode cJ6_bitCount_0f7a4 52 = .ok (.ireturn, 1) := by decide +kernel
theorem dJ9_max_7cf53_0 : decode cJ9_max_7cf53 0 = .ok (.iload_n 0, 1) := by decide +kernel
theorem dJ9_max_7cf53_1 : decode cJ9_max_7cf53 1 = .ok (.iload_n 1, 1) := by decide +kernel
theorem dJ9_max_7cf53_2 : decode cJ9_max_7cf53 2 = .ok (.if_icmp .lt 7, 3) := by decide +kernel
theorem dJ9_max_7cf53_5 : decode cJ9_max_7cf53 5 = .ok (.iload_n 0, 1) := by decide +kernel
theorem dJ9_max_7cf53_6 : decode cJ9_max_7cf53 6 = .ok (.goto 4, 3) := by decide +kernel
theorem dJ9_max_7cf53_9 : decode cJ9_max_7cf53 9 = .ok (.iload_n 1, 1) := by decide +kernel
theorem dJ9_max_7cf53_10 : decode cJ9_max_7cf53 10 = .ok (.ireturn, 1) := by decide +kernel
theorem dJ9_min_7cf53_0 : decode cJ9_min_7cf53 0 = .ok (.iload_n 0, 1) := by decide +kernel
theorem dJ9_min_7cf53_1 : decode cJ9_min_7cf53 1 = .ok (.iload_n 1, 1) := by decide +kernel
theorem dJ9_min_7cf53_2 : decode cJ9_min_7cf53 2 = .ok (.if_icmp .gt 7, 3) := by decide +kernel
theorem dJ9_min_7cf53_5 : decode cJ9_min_7cf53 5 = .ok (.iload_n 0, 1) := by decide +kernel
theorem dJ9_min_7cf53_6 : decode cJ9_min_7cf53 6 = .ok (.goto 4, 3) := by decide +kernel
theorem dJ9_min_7cf53_9 : decode cJ9_min_7cf53 9 = .ok (.iload_n 1, 1) := by decide +kernel
theorem dJ9_min_7cf53_10 : decode cJ9_min_7cf53 10 = .ok (.ireturn, 1) := by decide +kernel
theorem dJ0_length_8abf5_0 : decode cJ0_length_8abf5 0 = .ok (.aload_n 0, 1) := by decide +kernel
theorem dJ0_length_8abf5_1 : decode cJ0_length_8abf5 1 = .ok (.getfield 9, 3) := by decide +kernel
theorem dJ0_length_8abf5_4 : decode cJ0_length_8abf5 4 = .ok (.arraylength, 1) := by decide +kernel
theorem dJ0_length_8abf5_5 : decode cJ0_length_8abf5 5 = .ok (.aload_n 0, 1) := by decide +kernel
theorem dJ0_length_8abf5_6 : decode cJ0_length_8abf5 6 = .ok (.invokevirtual 335, 3) := by decide +kernel
theorem dJ0_length_8abf5_9 : decode cJ0_length_8abf5 9 = .ok (.ishr, 1) := by decide +kernel
theorem dJ0_length_8abf5_10 : decode cJ0_length_8abf5 10 = .ok (.ireturn, 1) := by decide +kernel
theorem dJ0_charAt_5068e_0 : decode cJ0_charAt_5068e 0 = .ok (.aload_n 0, 1) := by decide +kernel
theorem dJ0_charAt_5068e_1 : decode cJ0_charAt_5068e 1 = .ok (.invokevirtual 492, 3) := by decide +kernel
theorem dJ0_charAt_5068e_4 : decode cJ0_charAt_5068e 4 = .ok (.ifCond .eq 12, 3) := by decide +kernel
theorem dJ0_charAt_5068e_7 : decode cJ0_charAt_5068e 7 = .ok (.aload_n 0, 1) := by decide +kernel
theorem dJ0_charAt_5068e_8 : decode cJ0_charAt_5068e 8 = .ok (.getfield 9, 3) := by decide +kernel
theorem dJ0_charAt_5068e_11 : decode cJ0_charAt_5068e 11 = .ok (.iload_n 1, 1) := by decide +kernel
theorem dJ0_charAt_5068e_12 : decode cJ0_charAt_5068e 12 = .ok (.invokestatic 495, 3) := by decide +kernel
theorem dJ0_charAt_5068e_15 : decode cJ0_charAt_5068e 15 = .ok (.ireturn, 1) := by decide +kernel
theorem dJ0_charAt_5068e_16 : decode cJ0_charAt_5068e 16 = .ok (.aload_n 0, 1) := by decide +kernel
theorem dJ0_charAt_5068e_17 : decode cJ0_charAt_5068e 17 = .ok (.getfield 9, 3) := by decide +kernel
theorem dJ0_charAt_5068e_20 : decode cJ0_charAt_5068e 20 = .ok (.iload_n 1, 1) := by decide +kernel
theorem dJ0_charAt_5068e_21 : decode cJ0_charAt_5068e 21 = .ok (.invokestatic 498, 3) := by decide +kernel
theorem dJ0_charAt_5068e_24 : decode cJ0_charAt_5068e 24 = .ok (.ireturn, 1) := by decide +kernel
theorem dJ0_coder_7d493_0 : decode cJ0_coder_7d493 0 = .ok (.getstatic 38, 3) := by decide +kernel
theorem dJ0_coder_7d493_3 : decode cJ0_coder_7d493 3 = .ok (.ifCond .eq 10, 3) := by decide +kernel
theorem dJ0_coder_7d493_6 : decode cJ0_coder_7d493 6 = .ok (.aload_n 0, 1) := by decide +kernel
theorem dJ0_coder_7d493_7 : decode cJ0_coder_7d493 7 = .ok (.getfield 15, 3) := by decide +kernel
theorem dJ0_coder_7d493_10 : decode cJ0_coder_7d493 10 = .ok (.goto 4, 3) := by decide +kernel
theorem dJ0_coder_7d493_13 : decode cJ0_coder_7d493 13 = .ok (.iconst 1, 1) := by decide +kernel
theorem dJ0_coder_7d493_14 : decode cJ0_coder_7d493 14 = .ok (.ireturn, 1) := by decide +kernel
theorem dJ0_isLatin1_aae02_0 : decode cJ0_isLatin1_aae02 0 = .ok (.getstatic 38, 3) := by decide +kernel
theorem dJ0_isLatin1_aae02_3 : decode cJ0_isLatin1_aae02 3 = .ok (.ifCond .eq 14, 3) := by decide +kernel
theorem dJ0_isLatin1_aae02_6 : decode cJ0_isLatin1_aae02 6 = .ok (.aload_n 0, 1) := by decide +kernel
theorem dJ0_isLatin1_aae02_7 : decode cJ0_isLatin1_aae02 7 = .ok (.getfield 15, 3) := by decide +kernel
theorem dJ0_isLatin1_aae02_10 : decode cJ0_isLatin1_aae02 10 = .ok (.ifCond .ne 7, 3) := by decide +kernel
theorem dJ0_isLatin1_aae02_13 : decode cJ0_isLatin1_aae02 13 = .ok (.iconst 1, 1) := by decide +kernel
theorem dJ0_isLatin1_aae02_14 : decode cJ0_isLatin1_aae02 14 = .ok (.goto 4, 3) := by decide +kernel
theorem dJ0_isLatin1_aae02_17 : decode cJ0_isLatin1_aae02 17 = .ok (.iconst 0, 1) := by decide +kernel
theorem dJ0_isLatin1_aae02_18 : decode cJ0_isLatin1_aae02 18 = .ok (.ireturn, 1) := by decide +kernel
theorem dJ0_checkIndex_df160_0 : decode cJ0_checkIndex_df160 0 = .ok (.iload_n 0, 1) := by decide +kernel
theorem dJ0_checkIndex_df160_1 : decode cJ0_checkIndex_df160 1 = .ok (.iload_n 1, 1) := by decide +kernel
theorem dJ0_checkIndex_df160_2 : decode cJ0_checkIndex_df160 2 = .ok (.getstatic 1053, 3) := by decide +kernel
theorem dJ0_checkIndex_df160_5 : decode cJ0_checkIndex_df160 5 = .ok (.invokestatic 1059, 3) := by decide +kernel
theorem dJ0_checkIndex_df160_8 : decode cJ0_checkIndex_df160 8 = .ok (.pop, 1) := by decide +kernel
theorem dJ0_checkIndex_df160_9 : decode cJ0_checkIndex_df160 9 = .ok (.return_, 1) := by decide +kernel
theorem dJ1_charAt_3b067_0 : decode cJ1_charAt_3b067 0 = .ok (.iload_n 1, 1) := by decide +kernel
theorem dJ1_charAt_3b067_1 : decode cJ1_charAt_3b067 1 = .ok (.aload_n 0, 1) := by decide +kernel
theorem dJ1_charAt_3b067_2 : decode cJ1_charAt_3b067 2 = .ok (.arraylength, 1) := by decide +kernel
theorem dJ1_charAt_3b067_3 : decode cJ1_charAt_3b067 3 = .ok (.invokestatic 9, 3) := by decide +kernel
theorem dJ1_charAt_3b067_6 : decode cJ1_charAt_3b067 6 = .ok (.aload_n 0, 1) := by decide +kernel
theorem dJ1_charAt_3b067_7 : decode cJ1_charAt_3b067 7 = .ok (.iload_n 1, 1) := by decide +kernel
theorem dJ1_charAt_3b067_8 : decode cJ1_charAt_3b067 8 = .ok (.baload, 1) := by decide +kernel
theorem dJ1_charAt_3b067_9 : decode cJ1_charAt_3b067 9 = .ok (.sipush 255, 3) := by decide +kernel
theorem dJ1_charAt_3b067_12 : decode cJ1_charAt_3b067 12 = .ok (.iand, 1) := by decide +kernel
theorem dJ1_charAt_3b067_13 : decode cJ1_charAt_3b067 13 = .ok (.i2c, 1) := by decide +kernel
theorem dJ1_charAt_3b067_14 : decode cJ1_charAt_3b067 14 = .ok (.ireturn, 1) := by decide +kernel
theorem dJ2_getChar_3b067_0 : decode cJ2_getChar_3b067 0 = .ok (.getstatic 44, 3) := by decide +kernel
theorem dJ2_getChar_3b067_3 : decode cJ2_getChar_3b067 3 = .ok (.ifCond .ne 25, 3) := by decide +kernel
theorem dJ2_getChar_3b067_6 : decode cJ2_getChar_3b067 6 = .ok (.iload_n 1, 1) := by decide +kernel
theorem dJ2_getChar_3b067_7 : decode cJ2_getChar_3b067 7 = .ok (.ifCond .lt 11, 3) := by decide +kernel
theorem dJ2_getChar_3b067_10 : decode cJ2_getChar_3b067 10 = .ok (.iload_n 1, 1) := by decide +kernel
theorem dJ2_getChar_3b067_11 : decode cJ2_getChar_3b067 11 = .ok (.aload_n 0, 1) := by decide +kernel
theorem dJ2_getChar_3b067_12 : decode cJ2_getChar_3b067 12 = .ok (.invokestatic 48, 3) := by decide +kernel
theorem dJ2_getChar_3b067_15 : decode cJ2_getChar_3b067 15 = .ok (.if_icmp .lt 13, 3) := by decide +kernel
theorem dJ2_getChar_3b067_18 : decode cJ2_getChar_3b067 18 = .ok (.new 52, 3) := by decide +kernel
theorem dJ2_getChar_3b067_21 : decode cJ2_getChar_3b067 21 = .ok (.dup, 1) := by decide +kernel
theorem dJ2_getChar_3b067_22 : decode cJ2_getChar_3b067 22 = .ok (.ldc 54, 2) := by decide +kernel
theorem dJ2_getChar_3b067_24 : decode cJ2_getChar_3b067 24 = .ok (.invokespecial 56, 3) := by decide +kernel
end
section
theorem dJ2_getChar_3b067_27 : decode cJ2_getChar_3b067 27 = .ok (.athrow, 1) := by decide +kernel
theorem dJ2_getChar_3b067_28 : decode cJ2_getChar_3b067 28 = .ok (.iload_n 1, 1) := by decide +kernel
theorem dJ2_getChar_3b067_29 : decode cJ2_getChar_3b067 29 = .ok (.iconst 1, 1) := by decide +kernel
theorem dJ2_getChar_3b067_30 : decode cJ2_getChar_3b067 30 = .ok (.ishl, 1) := by decide +kernel
theorem dJ2_getChar_3b067_31 : decode cJ2_getChar_3b067 31 = .ok (.istore_n 1, 1) := by decide +kernel
theorem dJ2_getChar_3b067_32 : decode cJ2_getChar_3b067 32 = .ok (.aload_n 0, 1) := by decide +kernel
theorem dJ2_getChar_3b067_33 : decode cJ2_getChar_3b067 33 = .ok (.iload_n 1, 1) := by decide +kernel
theorem dJ2_getChar_3b067_34 : decode cJ2_getChar_3b067 34 = .ok (.iinc 1 1, 3) := by decide +kernel
theorem dJ2_getChar_3b067_37 : decode cJ2_getChar_3b067 37 = .ok (.baload, 1) := by decide +kernel
theorem dJ2_getChar_3b067_38 : decode cJ2_getChar_3b067 38 = .ok (.sipush 255, 3) := by decide +kernel
theorem dJ2_getChar_3b067_41 : decode cJ2_getChar_3b067 41 = .ok (.iand, 1) := by decide +kernel
theorem dJ2_getChar_3b067_42 : decode cJ2_getChar_3b067 42 = .ok (.getstatic 59, 3) := by decide +kernel
theorem dJ2_getChar_3b067_45 : decode cJ2_getChar_3b067 45 = .ok (.ishl, 1) := by decide +kernel
theorem dJ2_getChar_3b067_46 : decode cJ2_getChar_3b067 46 = .ok (.aload_n 0, 1) := by decide +kernel
theorem dJ2_getChar_3b067_47 : decode cJ2_getChar_3b067 47 = .ok (.iload_n 1, 1) := by decide +kernel
theorem dJ2_getChar_3b067_48 : decode cJ2_getChar_3b067 48 = .ok (.baload, 1) := by decide +kernel
theorem dJ2_getChar_3b067_49 : decode cJ2_getChar_3b067 49 = .ok (.sipush 255, 3) := by decide +kernel
theorem dJ2_getChar_3b067_52 : decode cJ2_getChar_3b067 52 = .ok (.iand, 1) := by decide +kernel
theorem dJ2_getChar_3b067_53 : decode cJ2_getChar_3b067 53 = .ok (.getstatic 63, 3) := by decide +kernel
theorem dJ2_getChar_3b067_56 : decode cJ2_getChar_3b067 56 = .ok (.ishl, 1) := by decide +kernel
theorem dJ2_getChar_3b067_57 : decode cJ2_getChar_3b067 57 = .ok (.ior, 1) := by decide +kernel
theorem dJ2_getChar_3b067_58 : decode cJ2_getChar_3b067 58 = .ok (.i2c, 1) := by decide +kernel
theorem dJ2_getChar_3b067_59 : decode cJ2_getChar_3b067 59 = .ok (.ireturn, 1) := by decide +kernel
theorem dJ2_length_9d52b_0 : decode cJ2_length_9d52b 0 = .ok (.aload_n 0, 1) := by decide +kernel
theorem dJ2_length_9d52b_1 : decode cJ2_length_9d52b 1 = .ok (.arraylength, 1) := by decide +kernel
theorem dJ2_length_9d52b_2 : decode cJ2_length_9d52b 2 = .ok (.iconst 1, 1) := by decide +kernel
theorem dJ2_length_9d52b_3 : decode cJ2_length_9d52b 3 = .ok (.ishr, 1) := by decide +kernel
theorem dJ2_length_9d52b_4 : decode cJ2_length_9d52b 4 = .ok (.ireturn, 1) := by decide +kernel
theorem dJ2_charAt_3b067_0 : decode cJ2_charAt_3b067 0 = .ok (.iload_n 1, 1) := by decide +kernel
theorem dJ2_charAt_3b067_1 : decode cJ2_charAt_3b067 1 = .ok (.aload_n 0, 1) := by decide +kernel
theorem dJ2_charAt_3b067_2 : decode cJ2_charAt_3b067 2 = .ok (.invokestatic 67, 3) := by decide +kernel
theorem dJ2_charAt_3b067_5 : decode cJ2_charAt_3b067 5 = .ok (.aload_n 0, 1) := by decide +kernel
theorem dJ2_charAt_3b067_6 : decode cJ2_charAt_3b067 6 = .ok (.iload_n 1, 1) := by decide +kernel
theorem dJ2_charAt_3b067_7 : decode cJ2_charAt_3b067 7 = .ok (.invokestatic 71, 3) := by decide +kernel
theorem dJ2_charAt_3b067_10 : decode cJ2_charAt_3b067 10 = .ok (.ireturn, 1) := by decide +kernel
theorem dJ2_checkIndex_2214a_0 : decode cJ2_checkIndex_2214a 0 = .ok (.iload_n 0, 1) := by decide +kernel
theorem dJ2_checkIndex_2214a_1 : decode cJ2_checkIndex_2214a 1 = .ok (.aload_n 1, 1) := by decide +kernel
theorem dJ2_checkIndex_2214a_2 : decode cJ2_checkIndex_2214a 2 = .ok (.invokestatic 48, 3) := by decide +kernel
theorem dJ2_checkIndex_2214a_5 : decode cJ2_checkIndex_2214a 5 = .ok (.invokestatic 414, 3) := by decide +kernel
theorem dJ2_checkIndex_2214a_8 : decode cJ2_checkIndex_2214a 8 = .ok (.return_, 1) := by decide +kernel
theorem dJ3_checkIndex_8e157_0 : decode cJ3_checkIndex_8e157 0 = .ok (.iload_n 0, 1) := by decide +kernel
theorem dJ3_checkIndex_8e157_1 : decode cJ3_checkIndex_8e157 1 = .ok (.ifCond .lt 8, 3) := by decide +kernel
theorem dJ3_checkIndex_8e157_4 : decode cJ3_checkIndex_8e157 4 = .ok (.iload_n 0, 1) := by decide +kernel
theorem dJ3_checkIndex_8e157_5 : decode cJ3_checkIndex_8e157 5 = .ok (.iload_n 1, 1) := by decide +kernel
theorem dJ3_checkIndex_8e157_6 : decode cJ3_checkIndex_8e157 6 = .ok (.if_icmp .lt 10, 3) := by decide +kernel
theorem dJ3_checkIndex_8e157_9 : decode cJ3_checkIndex_8e157 9 = .ok (.aload_n 2, 1) := by decide +kernel
theorem dJ3_checkIndex_8e157_10 : decode cJ3_checkIndex_8e157 10 = .ok (.iload_n 0, 1) := by decide +kernel
theorem dJ3_checkIndex_8e157_11 : decode cJ3_checkIndex_8e157 11 = .ok (.iload_n 1, 1) := by decide +kernel
theorem dJ3_checkIndex_8e157_12 : decode cJ3_checkIndex_8e157 12 = .ok (.invokestatic 95, 3) := by decide +kernel
theorem dJ3_checkIndex_8e157_15 : decode cJ3_checkIndex_8e157 15 = .ok (.athrow, 1) := by decide +kernel
theorem dJ3_checkIndex_8e157_16 : decode cJ3_checkIndex_8e157 16 = .ok (.iload_n 0, 1) := by decide +kernel
theorem dJ3_checkIndex_8e157_17 : decode cJ3_checkIndex_8e157 17 = .ok (.ireturn, 1) := by decide +kernel
theorem dL_cell_0 : decode cL_cell 0 = .ok (.iload_n 1, 1) := by decide +kernel
theorem dL_cell_1 : decode cL_cell 1 = .ok (.aload_n 0, 1) := by decide +kernel
theorem dL_cell_2 : decode cL_cell 2 = .ok (.arraylength, 1) := by decide +kernel
theorem dL_cell_3 : decode cL_cell 3 = .ok (.if_icmp .ge 9, 3) := by decide +kernel
theorem dL_cell_6 : decode cL_cell 6 = .ok (.aload_n 0, 1) := by decide +kernel
theorem dL_cell_7 : decode cL_cell 7 = .ok (.iload_n 1, 1) := by decide +kernel
theorem dL_cell_8 : decode cL_cell 8 = .ok (.iaload, 1) := by decide +kernel
theorem dL_cell_9 : decode cL_cell 9 = .ok (.goto 4, 3) := by decide +kernel
theorem dL_cell_12 : decode cL_cell 12 = .ok (.iconst 0, 1) := by decide +kernel
theorem dL_cell_13 : decode cL_cell 13 = .ok (.ireturn, 1) := by decide +kernel
theorem dL_law_0 : decode cL_law 0 = .ok (.new 7, 3) := by decide +kernel
theorem dL_law_3 : decode cL_law 3 = .ok (.dup, 1) := by decide +kernel
theorem dL_law_4 : decode cL_law 4 = .ok (.aload_n 0, 1) := by decide +kernel
theorem dL_law_5 : decode cL_law 5 = .ok (.iconst 0, 1) := by decide +kernel
theorem dL_law_6 : decode cL_law 6 = .ok (.invokestatic 9, 3) := by decide +kernel
theorem dL_law_9 : decode cL_law 9 = .ok (.invokespecial 15, 3) := by decide +kernel
theorem dL_law_12 : decode cL_law 12 = .ok (.astore_n 1, 1) := by decide +kernel
theorem dL_law_13 : decode cL_law 13 = .ok (.new 18, 3) := by decide +kernel
theorem dL_law_16 : decode cL_law 16 = .ok (.dup, 1) := by decide +kernel
theorem dL_law_17 : decode cL_law 17 = .ok (.aload_n 0, 1) := by decide +kernel
theorem dL_law_18 : decode cL_law 18 = .ok (.iconst 0, 1) := by decide +kernel
theorem dL_law_19 : decode cL_law 19 = .ok (.invokestatic 9, 3) := by decide +kernel
theorem dL_law_22 : decode cL_law 22 = .ok (.invokespecial 20, 3) := by decide +kernel
theorem dL_law_25 : decode cL_law 25 = .ok (.astore_n 2, 1) := by decide +kernel
theorem dL_law_26 : decode cL_law 26 = .ok (.iconst 1, 1) := by decide +kernel
theorem dL_law_27 : decode cL_law 27 = .ok (.istore_n 3, 1) := by decide +kernel
theorem dL_law_28 : decode cL_law 28 = .ok (.iload_n 3, 1) := by decide +kernel
theorem dL_law_29 : decode cL_law 29 = .ok (.aload_n 0, 1) := by decide +kernel
theorem dL_law_30 : decode cL_law 30 = .ok (.arraylength, 1) := by decide +kernel
theorem dL_law_31 : decode cL_law 31 = .ok (.iconst 5, 1) := by decide +kernel
theorem dL_law_32 : decode cL_law 32 = .ok (.isub, 1) := by decide +kernel
theorem dL_law_33 : decode cL_law 33 = .ok (.if_icmp .gt 759, 3) := by decide +kernel
theorem dL_law_36 : decode cL_law 36 = .ok (.aload_n 0, 1) := by decide +kernel
theorem dL_law_37 : decode cL_law 37 = .ok (.iload_n 3, 1) := by decide +kernel
theorem dL_law_38 : decode cL_law 38 = .ok (.iaload, 1) := by decide +kernel
theorem dL_law_39 : decode cL_law 39 = .ok (.bipush 31, 2) := by decide +kernel
theorem dL_law_41 : decode cL_law 41 = .ok (.iand, 1) := by decide +kernel
theorem dL_law_42 : decode cL_law 42 = .ok (.tableswitch 744 0 19 #[94, 127, 170, 203, 236, 259, 302, 335, 368, 421, 484, 497, 510, 533, 576, 609, 632, 665, 698, 721], 94) := by decide +kernel
theorem dL_law_136 : decode cL_law 136 = .ok (.aload_n 1, 1) := by decide +kernel
theorem dL_law_137 : decode cL_law 137 = .ok (.aload_n 0, 1) := by decide +kernel
theorem dL_law_138 : decode cL_law 138 = .ok (.iload_n 3, 1) := by decide +kernel
theorem dL_law_139 : decode cL_law 139 = .ok (.iconst 1, 1) := by decide +kernel
theorem dL_law_140 : decode cL_law 140 = .ok (.iadd, 1) := by decide +kernel
theorem dL_law_141 : decode cL_law 141 = .ok (.iaload, 1) := by decide +kernel
theorem dL_law_142 : decode cL_law 142 = .ok (.aload_n 0, 1) := by decide +kernel
theorem dL_law_143 : decode cL_law 143 = .ok (.iload_n 3, 1) := by decide +kernel
theorem dL_law_144 : decode cL_law 144 = .ok (.iconst 2, 1) := by decide +kernel
theorem dL_law_145 : decode cL_law 145 = .ok (.iadd, 1) := by decide +kernel
theorem dL_law_146 : decode cL_law 146 = .ok (.iaload, 1) := by decide +kernel
theorem dL_law_147 : decode cL_law 147 = .ok (.invokevirtual 21, 3) := by decide +kernel
theorem dL_law_150 : decode cL_law 150 = .ok (.aload_n 2, 1) := by decide +kernel
theorem dL_law_151 : decode cL_law 151 = .ok (.aload_n 0, 1) := by decide +kernel
theorem dL_law_152 : decode cL_law 152 = .ok (.iload_n 3, 1) := by decide +kernel
theorem dL_law_153 : decode cL_law 153 = .ok (.iconst 1, 1) := by decide +kernel
theorem dL_law_154 : decode cL_law 154 = .ok (.iadd, 1) := by decide +kernel
theorem dL_law_155 : decode cL_law 155 = .ok (.iaload, 1) := by decide +kernel
theorem dL_law_156 : decode cL_law 156 = .ok (.aload_n 0, 1) := by decide +kernel
theorem dL_law_157 : decode cL_law 157 = .ok (.iload_n 3, 1) := by decide +kernel
theorem dL_law_158 : decode cL_law 158 = .ok (.iconst 2, 1) := by decide +kernel
theorem dL_law_159 : decode cL_law 159 = .ok (.iadd, 1) := by decide +kernel
theorem dL_law_160 : decode cL_law 160 = .ok (.iaload, 1) := by decide +kernel
theorem dL_law_161 : decode cL_law 161 = .ok (.invokevirtual 25, 3) := by decide +kernel
theorem dL_law_164 : decode cL_law 164 = .ok (.if_icmp .eq 622, 3) := by decide +kernel
theorem dL_law_167 : decode cL_law 167 = .ok (.iconst 0, 1) := by decide +kernel
theorem dL_law_168 : decode cL_law 168 = .ok (.ireturn, 1) := by decide +kernel
theorem dL_law_169 : decode cL_law 169 = .ok (.aload_n 1, 1) := by decide +kernel
theorem dL_law_170 : decode cL_law 170 = .ok (.aload_n 0, 1) := by decide +kernel
theorem dL_law_171 : decode cL_law 171 = .ok (.iload_n 3, 1) := by decide +kernel
theorem dL_law_172 : decode cL_law 172 = .ok (.iconst 1, 1) := by decide +kernel
theorem dL_law_173 : decode cL_law 173 = .ok (.iadd, 1) := by decide +kernel
theorem dL_law_174 : decode cL_law 174 = .ok (.iaload, 1) := by decide +kernel
theorem dL_law_175 : decode cL_law 175 = .ok (.aload_n 0, 1) := by decide +kernel
theorem dL_law_176 : decode cL_law 176 = .ok (.iload_n 3, 1) := by decide +kernel
theorem dL_law_177 : decode cL_law 177 = .ok (.iconst 2, 1) := by decide +kernel
theorem dL_law_178 : decode cL_law 178 = .ok (.iadd, 1) := by decide +kernel
theorem dL_law_179 : decode cL_law 179 = .ok (.iaload, 1) := by decide +kernel
theorem dL_law_180 : decode cL_law 180 = .ok (.aload_n 0, 1) := by decide +kernel
theorem dL_law_181 : decode cL_law 181 = .ok (.iload_n 3, 1) := by decide +kernel
theorem dL_law_182 : decode cL_law 182 = .ok (.iconst 3, 1) := by decide +kernel
theorem dL_law_183 : decode cL_law 183 = .ok (.iadd, 1) := by decide +kernel
theorem dL_law_184 : decode cL_law 184 = .ok (.iaload, 1) := by decide +kernel
theorem dL_law_185 : decode cL_law 185 = .ok (.invokevirtual 26, 3) := by decide +kernel
theorem dL_law_188 : decode cL_law 188 = .ok (.aload_n 2, 1) := by decide +kernel
theorem dL_law_189 : decode cL_law 189 = .ok (.aload_n 0, 1) := by decide +kernel
theorem dL_law_190 : decode cL_law 190 = .ok (.iload_n 3, 1) := by decide +kernel
theorem dL_law_191 : decode cL_law 191 = .ok (.iconst 1, 1) := by decide +kernel
theorem dL_law_192 : decode cL_law 192 = .ok (.iadd, 1) := by decide +kernel
theorem dL_law_193 : decode cL_law 193 = .ok (.iaload, 1) := by decide +kernel
theorem dL_law_194 : decode cL_law 194 = .ok (.aload_n 0, 1) := by decide +kernel
theorem dL_law_195 : decode cL_law 195 = .ok (.iload_n 3, 1) := by decide +kernel
theorem dL_law_196 : decode cL_law 196 = .ok (.iconst 2, 1) := by decide +kernel
theorem dL_law_197 : decode cL_law 197 = .ok (.iadd, 1) := by decide +kernel
theorem dL_law_198 : decode cL_law 198 = .ok (.iaload, 1) := by decide +kernel
theorem dL_law_199 : decode cL_law 199 = .ok (.aload_n 0, 1) := by decide +kernel
theorem dL_law_200 : decode cL_law 200 = .ok (.iload_n 3, 1) := by decide +kernel
theorem dL_law_201 : decode cL_law 201 = .ok (.iconst 3, 1) := by decide +kernel
theorem dL_law_202 : decode cL_law 202 = .ok (.iadd, 1) := by decide +kernel
theorem dL_law_203 : decode cL_law 203 = .ok (.iaload, 1) := by decide +kernel
theorem dL_law_204 : decode cL_law 204 = .ok (.invokevirtual 30, 3) := by decide +kernel
theorem dL_law_207 : decode cL_law 207 = .ok (.if_icmp .eq 579, 3) := by decide +kernel
theorem dL_law_210 : decode cL_law 210 = .ok (.iconst 0, 1) := by decide +kernel
theorem dL_law_211 : decode cL_law 211 = .ok (.ireturn, 1) := by decide +kernel
theorem dL_law_212 : decode cL_law 212 = .ok (.aload_n 1, 1) := by decide +kernel
theorem dL_law_213 : decode cL_law 213 = .ok (.aload_n 0, 1) := by decide +kernel
theorem dL_law_214 : decode cL_law 214 = .ok (.iload_n 3, 1) := by decide +kernel
theorem dL_law_215 : decode cL_law 215 = .ok (.iconst 1, 1) := by decide +kernel
theorem dL_law_216 : decode cL_law 216 = .ok (.iadd, 1) := by decide +kernel
theorem dL_law_217 : decode cL_law 217 = .ok (.iaload, 1) := by decide +kernel
theorem dL_law_218 : decode cL_law 218 = .ok (.aload_n 0, 1) := by decide +kernel
theorem dL_law_219 : decode cL_law 219 = .ok (.iload_n 3, 1) := by decide +kernel
theorem dL_law_220 : decode cL_law 220 = .ok (.iconst 2, 1) := by decide +kernel
theorem dL_law_221 : decode cL_law 221 = .ok (.iadd, 1) := by decide +kernel
theorem dL_law_222 : decode cL_law 222 = .ok (.iaload, 1) := by decide +kernel
theorem dL_law_223 : decode cL_law 223 = .ok (.invokevirtual 31, 3) := by decide +kernel
theorem dL_law_226 : decode cL_law 226 = .ok (.aload_n 2, 1) := by decide +kernel
theorem dL_law_227 : decode cL_law 227 = .ok (.aload_n 0, 1) := by decide +kernel
theorem dL_law_228 : decode cL_law 228 = .ok (.iload_n 3, 1) := by decide +kernel
theorem dL_law_229 : decode cL_law 229 = .ok (.iconst 1, 1) := by decide +kernel
theorem dL_law_230 : decode cL_law 230 = .ok (.iadd, 1) := by decide +kernel
theorem dL_law_231 : decode cL_law 231 = .ok (.iaload, 1) := by decide +kernel
theorem dL_law_232 : decode cL_law 232 = .ok (.aload_n 0, 1) := by decide +kernel
theorem dL_law_233 : decode cL_law 233 = .ok (.iload_n 3, 1) := by decide +kernel
theorem dL_law_234 : decode cL_law 234 = .ok (.iconst 2, 1) := by decide +kernel
theorem dL_law_235 : decode cL_law 235 = .ok (.iadd, 1) := by decide +kernel
theorem dL_law_236 : decode cL_law 236 = .ok (.iaload, 1) := by decide +kernel
theorem dL_law_237 : decode cL_law 237 = .ok (.invokevirtual 34, 3) := by decide +kernel
theorem dL_law_240 : decode cL_law 240 = .ok (.if_icmp .eq 546, 3) := by decide +kernel
theorem dL_law_243 : decode cL_law 243 = .ok (.iconst 0, 1) := by decide +kernel
theorem dL_law_244 : decode cL_law 244 = .ok (.ireturn, 1) := by decide +kernel
theorem dL_law_245 : decode cL_law 245 = .ok (.aload_n 1, 1) := by decide +kernel
theorem dL_law_246 : decode cL_law 246 = .ok (.aload_n 0, 1) := by decide +kernel
theorem dL_law_247 : decode cL_law 247 = .ok (.iload_n 3, 1) := by decide +kernel
theorem dL_law_248 : decode cL_law 248 = .ok (.iconst 1, 1) := by decide +kernel
theorem dL_law_249 : decode cL_law 249 = .ok (.iadd, 1) := by decide +kernel
theorem dL_law_250 : decode cL_law 250 = .ok (.iaload, 1) := by decide +kernel
theorem dL_law_251 : decode cL_law 251 = .ok (.aload_n 0, 1) := by decide +kernel
theorem dL_law_252 : decode cL_law 252 = .ok (.iload_n 3, 1) := by decide +kernel
theorem dL_law_253 : decode cL_law 253 = .ok (.iconst 2, 1) := by decide +kernel
theorem dL_law_254 : decode cL_law 254 = .ok (.iadd, 1) := by decide +kernel
theorem dL_law_255 : decode cL_law 255 = .ok (.iaload, 1) := by decide +kernel
theorem dL_law_256 : decode cL_law 256 = .ok (.invokevirtual 35, 3) := by decide +kernel
theorem dL_law_259 : decode cL_law 259 = .ok (.aload_n 2, 1) := by decide +kernel
theorem dL_law_260 : decode cL_law 260 = .ok (.aload_n 0, 1) := by decide +kernel
theorem dL_law_261 : decode cL_law 261 = .ok (.iload_n 3, 1) := by decide +kernel
theorem dL_law_262 : decode cL_law 262 = .ok (.iconst 1, 1) := by decide +kernel
theorem dL_law_263 : decode cL_law 263 = .ok (.iadd, 1) := by decide +kernel
theorem dL_law_264 : decode cL_law 264 = .ok (.iaload, 1) := by decide +kernel
theorem dL_law_265 : decode cL_law 265 = .ok (.aload_n 0, 1) := by decide +kernel
theorem dL_law_266 : decode cL_law 266 = .ok (.iload_n 3, 1) := by decide +kernel
theorem dL_law_267 : decode cL_law 267 = .ok (.iconst 2, 1) := by decide +kernel
theorem dL_law_268 : decode cL_law 268 = .ok (.iadd, 1) := by decide +kernel
theorem dL_law_269 : decode cL_law 269 = .ok (.iaload, 1) := by decide +kernel
theorem dL_law_270 : decode cL_law 270 = .ok (.invokevirtual 38, 3) := by decide +kernel
theorem dL_law_273 : decode cL_law 273 = .ok (.if_icmp .eq 513, 3) := by decide +kernel
theorem dL_law_276 : decode cL_law 276 = .ok (.iconst 0, 1) := by decide +kernel
theorem dL_law_277 : decode cL_law 277 = .ok (.ireturn, 1) := by decide +kernel
theorem dL_law_278 : decode cL_law 278 = .ok (.aload_n 1, 1) := by decide +kernel
theorem dL_law_279 : decode cL_law 279 = .ok (.aload_n 0, 1) := by decide +kernel
theorem dL_law_280 : decode cL_law 280 = .ok (.iload_n 3, 1) := by decide +kernel
theorem dL_law_281 : decode cL_law 281 = .ok (.iconst 1, 1) := by decide +kernel
theorem dL_law_282 : decode cL_law 282 = .ok (.iadd, 1) := by decide +kernel
theorem dL_law_283 : decode cL_law 283 = .ok (.iaload, 1) := by decide +kernel
theorem dL_law_284 : decode cL_law 284 = .ok (.invokevirtual 39, 3) := by decide +kernel
theorem dL_law_287 : decode cL_law 287 = .ok (.aload_n 2, 1) := by decide +kernel
theorem dL_law_288 : decode cL_law 288 = .ok (.aload_n 0, 1) := by decide +kernel
theorem dL_law_289 : decode cL_law 289 = .ok (.iload_n 3, 1) := by decide +kernel
theorem dL_law_290 : decode cL_law 290 = .ok (.iconst 1, 1) := by decide +kernel
theorem dL_law_291 : decode cL_law 291 = .ok (.iadd, 1) := by decide +kernel
theorem dL_law_292 : decode cL_law 292 = .ok (.iaload, 1) := by decide +kernel
theorem dL_law_293 : decode cL_law 293 = .ok (.invokevirtual 43, 3) := by decide +kernel
theorem dL_law_296 : decode cL_law 296 = .ok (.if_icmp .eq 490, 3) := by decide +kernel
theorem dL_law_299 : decode cL_law 299 = .ok (.iconst 0, 1) := by decide +kernel
theorem dL_law_300 : decode cL_law 300 = .ok (.ireturn, 1) := by decide +kernel
theorem dL_law_301 : decode cL_law 301 = .ok (.aload_n 1, 1) := by decide +kernel
theorem dL_law_302 : decode cL_law 302 = .ok (.aload_n 0, 1) := by decide +kernel
theorem dL_law_303 : decode cL_law 303 = .ok (.iload_n 3, 1) := by decide +kernel
theorem dL_law_304 : decode cL_law 304 = .ok (.iconst 1, 1) := by decide +kernel
theorem dL_law_305 : decode cL_law 305 = .ok (.iadd, 1) := by decide +kernel
theorem dL_law_306 : decode cL_law 306 = .ok (.iaload, 1) := by decide +kernel
theorem dL_law_307 : decode cL_law 307 = .ok (.aload_n 0, 1) := by decide +kernel
theorem dL_law_308 : decode cL_law 308 = .ok (.iload_n 3, 1) := by decide +kernel
theorem dL_law_309 : decode cL_law 309 = .ok (.iconst 2, 1) := by decide +kernel
theorem dL_law_310 : decode cL_law 310 = .ok (.iadd, 1) := by decide +kernel
theorem dL_law_311 : decode cL_law 311 = .ok (.iaload, 1) := by decide +kernel
theorem dL_law_312 : decode cL_law 312 = .ok (.aload_n 0, 1) := by decide +kernel
theorem dL_law_313 : decode cL_law 313 = .ok (.iload_n 3, 1) := by decide +kernel
theorem dL_law_314 : decode cL_law 314 = .ok (.iconst 3, 1) := by decide +kernel
theorem dL_law_315 : decode cL_law 315 = .ok (.iadd, 1) := by decide +kernel
theorem dL_law_316 : decode cL_law 316 = .ok (.iaload, 1) := by decide +kernel
theorem dL_law_317 : decode cL_law 317 = .ok (.invokevirtual 44, 3) := by decide +kernel
theorem dL_law_320 : decode cL_law 320 = .ok (.aload_n 2, 1) := by decide +kernel
theorem dL_law_321 : decode cL_law 321 = .ok (.aload_n 0, 1) := by decide +kernel
theorem dL_law_322 : decode cL_law 322 = .ok (.iload_n 3, 1) := by decide +kernel
theorem dL_law_323 : decode cL_law 323 = .ok (.iconst 1, 1) := by decide +kernel
theorem dL_law_324 : decode cL_law 324 = .ok (.iadd, 1) := by decide +kernel
theorem dL_law_325 : decode cL_law 325 = .ok (.iaload, 1) := by decide +kernel
theorem dL_law_326 : decode cL_law 326 = .ok (.aload_n 0, 1) := by decide +kernel
theorem dL_law_327 : decode cL_law 327 = .ok (.iload_n 3, 1) := by decide +kernel
theorem dL_law_328 : decode cL_law 328 = .ok (.iconst 2, 1) := by decide +kernel
theorem dL_law_329 : decode cL_law 329 = .ok (.iadd, 1) := by decide +kernel
theorem dL_law_330 : decode cL_law 330 = .ok (.iaload, 1) := by decide +kernel
theorem dL_law_331 : decode cL_law 331 = .ok (.aload_n 0, 1) := by decide +kernel
theorem dL_law_332 : decode cL_law 332 = .ok (.iload_n 3, 1) := by decide +kernel
theorem dL_law_333 : decode cL_law 333 = .ok (.iconst 3, 1) := by decide +kernel
theorem dL_law_334 : decode cL_law 334 = .ok (.iadd, 1) := by decide +kernel
theorem dL_law_335 : decode cL_law 335 = .ok (.iaload, 1) := by decide +kernel
theorem dL_law_336 : decode cL_law 336 = .ok (.invokevirtual 47, 3) := by decide +kernel
theorem dL_law_339 : decode cL_law 339 = .ok (.if_icmp .eq 447, 3) := by decide +kernel
theorem dL_law_342 : decode cL_law 342 = .ok (.iconst 0, 1) := by decide +kernel
theorem dL_law_343 : decode cL_law 343 = .ok (.ireturn, 1) := by decide +kernel
theorem dL_law_344 : decode cL_law 344 = .ok (.aload_n 1, 1) := by decide +kernel
theorem dL_law_345 : decode cL_law 345 = .ok (.aload_n 0, 1) := by decide +kernel
theorem dL_law_346 : decode cL_law 346 = .ok (.iload_n 3, 1) := by decide +kernel
theorem dL_law_347 : decode cL_law 347 = .ok (.iconst 1, 1) := by decide +kernel
theorem dL_law_348 : decode cL_law 348 = .ok (.iadd, 1) := by decide +kernel
theorem dL_law_349 : decode cL_law 349 = .ok (.iaload, 1) := by decide +kernel
theorem dL_law_350 : decode cL_law 350 = .ok (.aload_n 0, 1) := by decide +kernel
theorem dL_law_351 : decode cL_law 351 = .ok (.iload_n 3, 1) := by decide +kernel
theorem dL_law_352 : decode cL_law 352 = .ok (.iconst 2, 1) := by decide +kernel
theorem dL_law_353 : decode cL_law 353 = .ok (.iadd, 1) := by decide +kernel
theorem dL_law_354 : decode cL_law 354 = .ok (.iaload, 1) := by decide +kernel
theorem dL_law_355 : decode cL_law 355 = .ok (.invokevirtual 48, 3) := by decide +kernel
theorem dL_law_358 : decode cL_law 358 = .ok (.aload_n 2, 1) := by decide +kernel
theorem dL_law_359 : decode cL_law 359 = .ok (.aload_n 0, 1) := by decide +kernel
theorem dL_law_360 : decode cL_law 360 = .ok (.iload_n 3, 1) := by decide +kernel
theorem dL_law_361 : decode cL_law 361 = .ok (.iconst 1, 1) := by decide +kernel
theorem dL_law_362 : decode cL_law 362 = .ok (.iadd, 1) := by decide +kernel
theorem dL_law_363 : decode cL_law 363 = .ok (.iaload, 1) := by decide +kernel
theorem dL_law_364 : decode cL_law 364 = .ok (.aload_n 0, 1) := by decide +kernel
theorem dL_law_365 : decode cL_law 365 = .ok (.iload_n 3, 1) := by decide +kernel
theorem dL_law_366 : decode cL_law 366 = .ok (.iconst 2, 1) := by decide +kernel
theorem dL_law_367 : decode cL_law 367 = .ok (.iadd, 1) := by decide +kernel
theorem dL_law_368 : decode cL_law 368 = .ok (.iaload, 1) := by decide +kernel
theorem dL_law_369 : decode cL_law 369 = .ok (.invokevirtual 51, 3) := by decide +kernel
theorem dL_law_372 : decode cL_law 372 = .ok (.if_icmp .eq 414, 3) := by decide +kernel
theorem dL_law_375 : decode cL_law 375 = .ok (.iconst 0, 1) := by decide +kernel
theorem dL_law_376 : decode cL_law 376 = .ok (.ireturn, 1) := by decide +kernel
theorem dL_law_377 : decode cL_law 377 = .ok (.aload_n 1, 1) := by decide +kernel
theorem dL_law_378 : decode cL_law 378 = .ok (.aload_n 0, 1) := by decide +kernel
theorem dL_law_379 : decode cL_law 379 = .ok (.iload_n 3, 1) := by decide +kernel
theorem dL_law_380 : decode cL_law 380 = .ok (.iconst 1, 1) := by decide +kernel
theorem dL_law_381 : decode cL_law 381 = .ok (.iadd, 1) := by decide +kernel
theorem dL_law_382 : decode cL_law 382 = .ok (.iaload, 1) := by decide +kernel
theorem dL_law_383 : decode cL_law 383 = .ok (.aload_n 0, 1) := by decide +kernel
theorem dL_law_384 : decode cL_law 384 = .ok (.iload_n 3, 1) := by decide +kernel
theorem dL_law_385 : decode cL_law 385 = .ok (.iconst 2, 1) := by decide +kernel
theorem dL_law_386 : decode cL_law 386 = .ok (.iadd, 1) := by decide +kernel
theorem dL_law_387 : decode cL_law 387 = .ok (.iaload, 1) := by decide +kernel
theorem dL_law_388 : decode cL_law 388 = .ok (.invokevirtual 52, 3) := by decide +kernel
theorem dL_law_391 : decode cL_law 391 = .ok (.aload_n 2, 1) := by decide +kernel
theorem dL_law_392 : decode cL_law 392 = .ok (.aload_n 0, 1) := by decide +kernel
theorem dL_law_393 : decode cL_law 393 = .ok (.iload_n 3, 1) := by decide +kernel
theorem dL_law_394 : decode cL_law 394 = .ok (.iconst 1, 1) := by decide +kernel
theorem dL_law_395 : decode cL_law 395 = .ok (.iadd, 1) := by decide +kernel
theorem dL_law_396 : decode cL_law 396 = .ok (.iaload, 1) := by decide +kernel
theorem dL_law_397 : decode cL_law 397 = .ok (.aload_n 0, 1) := by decide +kernel
theorem dL_law_398 : decode cL_law 398 = .ok (.iload_n 3, 1) := by decide +kernel
theorem dL_law_399 : decode cL_law 399 = .ok (.iconst 2, 1) := by decide +kernel
theorem dL_law_400 : decode cL_law 400 = .ok (.iadd, 1) := by decide +kernel
theorem dL_law_401 : decode cL_law 401 = .ok (.iaload, 1) := by decide +kernel
theorem dL_law_402 : decode cL_law 402 = .ok (.invokevirtual 55, 3) := by decide +kernel
theorem dL_law_405 : decode cL_law 405 = .ok (.if_icmp .eq 381, 3) := by decide +kernel
theorem dL_law_408 : decode cL_law 408 = .ok (.iconst 0, 1) := by decide +kernel
theorem dL_law_409 : decode cL_law 409 = .ok (.ireturn, 1) := by decide +kernel
theorem dL_law_410 : decode cL_law 410 = .ok (.aload_n 1, 1) := by decide +kernel
theorem dL_law_411 : decode cL_law 411 = .ok (.aload_n 0, 1) := by decide +kernel
theorem dL_law_412 : decode cL_law 412 = .ok (.iload_n 3, 1) := by decide +kernel
theorem dL_law_413 : decode cL_law 413 = .ok (.iconst 1, 1) := by decide +kernel
theorem dL_law_414 : decode cL_law 414 = .ok (.iadd, 1) := by decide +kernel
theorem dL_law_415 : decode cL_law 415 = .ok (.iaload, 1) := by decide +kernel
theorem dL_law_416 : decode cL_law 416 = .ok (.aload_n 0, 1) := by decide +kernel
theorem dL_law_417 : decode cL_law 417 = .ok (.iload_n 3, 1) := by decide +kernel
theorem dL_law_418 : decode cL_law 418 = .ok (.iconst 2, 1) := by decide +kernel
theorem dL_law_419 : decode cL_law 419 = .ok (.iadd, 1) := by decide +kernel
theorem dL_law_420 : decode cL_law 420 = .ok (.iaload, 1) := by decide +kernel
theorem dL_law_421 : decode cL_law 421 = .ok (.aload_n 0, 1) := by decide +kernel
theorem dL_law_422 : decode cL_law 422 = .ok (.iload_n 3, 1) := by decide +kernel
theorem dL_law_423 : decode cL_law 423 = .ok (.iconst 3, 1) := by decide +kernel
theorem dL_law_424 : decode cL_law 424 = .ok (.iadd, 1) := by decide +kernel
theorem dL_law_425 : decode cL_law 425 = .ok (.iaload, 1) := by decide +kernel
theorem dL_law_426 : decode cL_law 426 = .ok (.aload_n 0, 1) := by decide +kernel
theorem dL_law_427 : decode cL_law 427 = .ok (.iload_n 3, 1) := by decide +kernel
theorem dL_law_428 : decode cL_law 428 = .ok (.iconst 4, 1) := by decide +kernel
theorem dL_law_429 : decode cL_law 429 = .ok (.iadd, 1) := by decide +kernel
theorem dL_law_430 : decode cL_law 430 = .ok (.iaload, 1) := by decide +kernel
theorem dL_law_431 : decode cL_law 431 = .ok (.invokevirtual 56, 3) := by decide +kernel
theorem dL_law_434 : decode cL_law 434 = .ok (.aload_n 2, 1) := by decide +kernel
theorem dL_law_435 : decode cL_law 435 = .ok (.aload_n 0, 1) := by decide +kernel
theorem dL_law_436 : decode cL_law 436 = .ok (.iload_n 3, 1) := by decide +kernel
theorem dL_law_437 : decode cL_law 437 = .ok (.iconst 1, 1) := by decide +kernel
theorem dL_law_438 : decode cL_law 438 = .ok (.iadd, 1) := by decide +kernel
theorem dL_law_439 : decode cL_law 439 = .ok (.iaload, 1) := by decide +kernel
theorem dL_law_440 : decode cL_law 440 = .ok (.aload_n 0, 1) := by decide +kernel
theorem dL_law_441 : decode cL_law 441 = .ok (.iload_n 3, 1) := by decide +kernel
theorem dL_law_442 : decode cL_law 442 = .ok (.iconst 2, 1) := by decide +kernel
theorem dL_law_443 : decode cL_law 443 = .ok (.iadd, 1) := by decide +kernel
theorem dL_law_444 : decode cL_law 444 = .ok (.iaload, 1) := by decide +kernel
theorem dL_law_445 : decode cL_law 445 = .ok (.aload_n 0, 1) := by decide +kernel
theorem dL_law_446 : decode cL_law 446 = .ok (.iload_n 3, 1) := by decide +kernel
theorem dL_law_447 : decode cL_law 447 = .ok (.iconst 3, 1) := by decide +kernel
theorem dL_law_448 : decode cL_law 448 = .ok (.iadd, 1) := by decide +kernel
theorem dL_law_449 : decode cL_law 449 = .ok (.iaload, 1) := by decide +kernel
theorem dL_law_450 : decode cL_law 450 = .ok (.aload_n 0, 1) := by decide +kernel
theorem dL_law_451 : decode cL_law 451 = .ok (.iload_n 3, 1) := by decide +kernel
theorem dL_law_452 : decode cL_law 452 = .ok (.iconst 4, 1) := by decide +kernel
theorem dL_law_453 : decode cL_law 453 = .ok (.iadd, 1) := by decide +kernel
theorem dL_law_454 : decode cL_law 454 = .ok (.iaload, 1) := by decide +kernel
theorem dL_law_455 : decode cL_law 455 = .ok (.invokevirtual 60, 3) := by decide +kernel
theorem dL_law_458 : decode cL_law 458 = .ok (.if_icmp .eq 328, 3) := by decide +kernel
theorem dL_law_461 : decode cL_law 461 = .ok (.iconst 0, 1) := by decide +kernel
theorem dL_law_462 : decode cL_law 462 = .ok (.ireturn, 1) := by decide +kernel
theorem dL_law_463 : decode cL_law 463 = .ok (.aload_n 1, 1) := by decide +kernel
theorem dL_law_464 : decode cL_law 464 = .ok (.aload_n 0, 1) := by decide +kernel
theorem dL_law_465 : decode cL_law 465 = .ok (.iload_n 3, 1) := by decide +kernel
theorem dL_law_466 : decode cL_law 466 = .ok (.iconst 1, 1) := by decide +kernel
theorem dL_law_467 : decode cL_law 467 = .ok (.iadd, 1) := by decide +kernel
theorem dL_law_468 : decode cL_law 468 = .ok (.iaload, 1) := by decide +kernel
theorem dL_law_469 : decode cL_law 469 = .ok (.i2l, 1) := by decide +kernel
theorem dL_law_470 : decode cL_law 470 = .ok (.bipush 32, 2) := by decide +kernel
theorem dL_law_472 : decode cL_law 472 = .ok (.lshl, 1) := by decide +kernel
theorem dL_law_473 : decode cL_law 473 = .ok (.aload_n 0, 1) := by decide +kernel
theorem dL_law_474 : decode cL_law 474 = .ok (.iload_n 3, 1) := by decide +kernel
theorem dL_law_475 : decode cL_law 475 = .ok (.iconst 2, 1) := by decide +kernel
theorem dL_law_476 : decode cL_law 476 = .ok (.iadd, 1) := by decide +kernel
theorem dL_law_477 : decode cL_law 477 = .ok (.iaload, 1) := by decide +kernel
theorem dL_law_478 : decode cL_law 478 = .ok (.i2l, 1) := by decide +kernel
theorem dL_law_479 : decode cL_law 479 = .ok (.ldc2_w 61, 3) := by decide +kernel
theorem dL_law_482 : decode cL_law 482 = .ok (.land, 1) := by decide +kernel
theorem dL_law_483 : decode cL_law 483 = .ok (.lor, 1) := by decide +kernel
theorem dL_law_484 : decode cL_law 484 = .ok (.aload_n 0, 1) := by decide +kernel
theorem dL_law_485 : decode cL_law 485 = .ok (.iload_n 3, 1) := by decide +kernel
theorem dL_law_486 : decode cL_law 486 = .ok (.iconst 3, 1) := by decide +kernel
theorem dL_law_487 : decode cL_law 487 = .ok (.iadd, 1) := by decide +kernel
theorem dL_law_488 : decode cL_law 488 = .ok (.iaload, 1) := by decide +kernel
theorem dL_law_489 : decode cL_law 489 = .ok (.invokevirtual 63, 3) := by decide +kernel
theorem dL_law_492 : decode cL_law 492 = .ok (.aload_n 2, 1) := by decide +kernel
theorem dL_law_493 : decode cL_law 493 = .ok (.aload_n 0, 1) := by decide +kernel
theorem dL_law_494 : decode cL_law 494 = .ok (.iload_n 3, 1) := by decide +kernel
theorem dL_law_495 : decode cL_law 495 = .ok (.iconst 1, 1) := by decide +kernel
theorem dL_law_496 : decode cL_law 496 = .ok (.iadd, 1) := by decide +kernel
theorem dL_law_497 : decode cL_law 497 = .ok (.iaload, 1) := by decide +kernel
theorem dL_law_498 : decode cL_law 498 = .ok (.i2l, 1) := by decide +kernel
theorem dL_law_499 : decode cL_law 499 = .ok (.bipush 32, 2) := by decide +kernel
theorem dL_law_501 : decode cL_law 501 = .ok (.lshl, 1) := by decide +kernel
theorem dL_law_502 : decode cL_law 502 = .ok (.aload_n 0, 1) := by decide +kernel
theorem dL_law_503 : decode cL_law 503 = .ok (.iload_n 3, 1) := by decide +kernel
theorem dL_law_504 : decode cL_law 504 = .ok (.iconst 2, 1) := by decide +kernel
theorem dL_law_505 : decode cL_law 505 = .ok (.iadd, 1) := by decide +kernel
theorem dL_law_506 : decode cL_law 506 = .ok (.iaload, 1) := by decide +kernel
theorem dL_law_507 : decode cL_law 507 = .ok (.i2l, 1) := by decide +kernel
theorem dL_law_508 : decode cL_law 508 = .ok (.ldc2_w 61, 3) := by decide +kernel
theorem dL_law_511 : decode cL_law 511 = .ok (.land, 1) := by decide +kernel
theorem dL_law_512 : decode cL_law 512 = .ok (.lor, 1) := by decide +kernel
theorem dL_law_513 : decode cL_law 513 = .ok (.aload_n 0, 1) := by decide +kernel
theorem dL_law_514 : decode cL_law 514 = .ok (.iload_n 3, 1) := by decide +kernel
theorem dL_law_515 : decode cL_law 515 = .ok (.iconst 3, 1) := by decide +kernel
theorem dL_law_516 : decode cL_law 516 = .ok (.iadd, 1) := by decide +kernel
theorem dL_law_517 : decode cL_law 517 = .ok (.iaload, 1) := by decide +kernel
theorem dL_law_518 : decode cL_law 518 = .ok (.invokevirtual 67, 3) := by decide +kernel
theorem dL_law_521 : decode cL_law 521 = .ok (.if_icmp .eq 265, 3) := by decide +kernel
theorem dL_law_524 : decode cL_law 524 = .ok (.iconst 0, 1) := by decide +kernel
theorem dL_law_525 : decode cL_law 525 = .ok (.ireturn, 1) := by decide +kernel
theorem dL_law_526 : decode cL_law 526 = .ok (.aload_n 1, 1) := by decide +kernel
theorem dL_law_527 : decode cL_law 527 = .ok (.invokevirtual 68, 3) := by decide +kernel
theorem dL_law_530 : decode cL_law 530 = .ok (.aload_n 2, 1) := by decide +kernel
theorem dL_law_531 : decode cL_law 531 = .ok (.invokevirtual 72, 3) := by decide +kernel
theorem dL_law_534 : decode cL_law 534 = .ok (.if_icmp .eq 252, 3) := by decide +kernel
theorem dL_law_537 : decode cL_law 537 = .ok (.iconst 0, 1) := by decide +kernel
theorem dL_law_538 : decode cL_law 538 = .ok (.ireturn, 1) := by decide +kernel
theorem dL_law_539 : decode cL_law 539 = .ok (.aload_n 1, 1) := by decide +kernel
theorem dL_law_540 : decode cL_law 540 = .ok (.invokevirtual 73, 3) := by decide +kernel
theorem dL_law_543 : decode cL_law 543 = .ok (.aload_n 2, 1) := by decide +kernel
theorem dL_law_544 : decode cL_law 544 = .ok (.invokevirtual 76, 3) := by decide +kernel
theorem dL_law_547 : decode cL_law 547 = .ok (.if_icmp .eq 239, 3) := by decide +kernel
theorem dL_law_550 : decode cL_law 550 = .ok (.iconst 0, 1) := by decide +kernel
theorem dL_law_551 : decode cL_law 551 = .ok (.ireturn, 1) := by decide +kernel
theorem dL_law_552 : decode cL_law 552 = .ok (.aload_n 1, 1) := by decide +kernel
theorem dL_law_553 : decode cL_law 553 = .ok (.aload_n 0, 1) := by decide +kernel
theorem dL_law_554 : decode cL_law 554 = .ok (.iload_n 3, 1) := by decide +kernel
theorem dL_law_555 : decode cL_law 555 = .ok (.iconst 1, 1) := by decide +kernel
theorem dL_law_556 : decode cL_law 556 = .ok (.iadd, 1) := by decide +kernel
theorem dL_law_557 : decode cL_law 557 = .ok (.iaload, 1) := by decide +kernel
theorem dL_law_558 : decode cL_law 558 = .ok (.invokevirtual 77, 3) := by decide +kernel
theorem dL_law_561 : decode cL_law 561 = .ok (.aload_n 2, 1) := by decide +kernel
theorem dL_law_562 : decode cL_law 562 = .ok (.aload_n 0, 1) := by decide +kernel
theorem dL_law_563 : decode cL_law 563 = .ok (.iload_n 3, 1) := by decide +kernel
theorem dL_law_564 : decode cL_law 564 = .ok (.iconst 1, 1) := by decide +kernel
theorem dL_law_565 : decode cL_law 565 = .ok (.iadd, 1) := by decide +kernel
theorem dL_law_566 : decode cL_law 566 = .ok (.iaload, 1) := by decide +kernel
theorem dL_law_567 : decode cL_law 567 = .ok (.invokevirtual 80, 3) := by decide +kernel
theorem dL_law_570 : decode cL_law 570 = .ok (.if_icmp .eq 216, 3) := by decide +kernel
theorem dL_law_573 : decode cL_law 573 = .ok (.iconst 0, 1) := by decide +kernel
theorem dL_law_574 : decode cL_law 574 = .ok (.ireturn, 1) := by decide +kernel
theorem dL_law_575 : decode cL_law 575 = .ok (.aload_n 1, 1) := by decide +kernel
theorem dL_law_576 : decode cL_law 576 = .ok (.aload_n 0, 1) := by decide +kernel
theorem dL_law_577 : decode cL_law 577 = .ok (.iload_n 3, 1) := by decide +kernel
theorem dL_law_578 : decode cL_law 578 = .ok (.iconst 1, 1) := by decide +kernel
theorem dL_law_579 : decode cL_law 579 = .ok (.iadd, 1) := by decide +kernel
theorem dL_law_580 : decode cL_law 580 = .ok (.iaload, 1) := by decide +kernel
theorem dL_law_581 : decode cL_law 581 = .ok (.aload_n 0, 1) := by decide +kernel
theorem dL_law_582 : decode cL_law 582 = .ok (.iload_n 3, 1) := by decide +kernel
theorem dL_law_583 : decode cL_law 583 = .ok (.iconst 2, 1) := by decide +kernel
theorem dL_law_584 : decode cL_law 584 = .ok (.iadd, 1) := by decide +kernel
theorem dL_law_585 : decode cL_law 585 = .ok (.iaload, 1) := by decide +kernel
theorem dL_law_586 : decode cL_law 586 = .ok (.aload_n 0, 1) := by decide +kernel
theorem dL_law_587 : decode cL_law 587 = .ok (.iload_n 3, 1) := by decide +kernel
theorem dL_law_588 : decode cL_law 588 = .ok (.iconst 3, 1) := by decide +kernel
theorem dL_law_589 : decode cL_law 589 = .ok (.iadd, 1) := by decide +kernel
theorem dL_law_590 : decode cL_law 590 = .ok (.iaload, 1) := by decide +kernel
theorem dL_law_591 : decode cL_law 591 = .ok (.invokevirtual 81, 3) := by decide +kernel
theorem dL_law_594 : decode cL_law 594 = .ok (.aload_n 2, 1) := by decide +kernel
theorem dL_law_595 : decode cL_law 595 = .ok (.aload_n 0, 1) := by decide +kernel
theorem dL_law_596 : decode cL_law 596 = .ok (.iload_n 3, 1) := by decide +kernel
theorem dL_law_597 : decode cL_law 597 = .ok (.iconst 1, 1) := by decide +kernel
theorem dL_law_598 : decode cL_law 598 = .ok (.iadd, 1) := by decide +kernel
theorem dL_law_599 : decode cL_law 599 = .ok (.iaload, 1) := by decide +kernel
theorem dL_law_600 : decode cL_law 600 = .ok (.aload_n 0, 1) := by decide +kernel
theorem dL_law_601 : decode cL_law 601 = .ok (.iload_n 3, 1) := by decide +kernel
theorem dL_law_602 : decode cL_law 602 = .ok (.iconst 2, 1) := by decide +kernel
theorem dL_law_603 : decode cL_law 603 = .ok (.iadd, 1) := by decide +kernel
theorem dL_law_604 : decode cL_law 604 = .ok (.iaload, 1) := by decide +kernel
theorem dL_law_605 : decode cL_law 605 = .ok (.aload_n 0, 1) := by decide +kernel
theorem dL_law_606 : decode cL_law 606 = .ok (.iload_n 3, 1) := by decide +kernel
theorem dL_law_607 : decode cL_law 607 = .ok (.iconst 3, 1) := by decide +kernel
theorem dL_law_608 : decode cL_law 608 = .ok (.iadd, 1) := by decide +kernel
theorem dL_law_609 : decode cL_law 609 = .ok (.iaload, 1) := by decide +kernel
theorem dL_law_610 : decode cL_law 610 = .ok (.invokevirtual 84, 3) := by decide +kernel
theorem dL_law_613 : decode cL_law 613 = .ok (.if_icmp .eq 173, 3) := by decide +kernel
theorem dL_law_616 : decode cL_law 616 = .ok (.iconst 0, 1) := by decide +kernel
theorem dL_law_617 : decode cL_law 617 = .ok (.ireturn, 1) := by decide +kernel
theorem dL_law_618 : decode cL_law 618 = .ok (.aload_n 1, 1) := by decide +kernel
theorem dL_law_619 : decode cL_law 619 = .ok (.aload_n 0, 1) := by decide +kernel
theorem dL_law_620 : decode cL_law 620 = .ok (.iload_n 3, 1) := by decide +kernel
theorem dL_law_621 : decode cL_law 621 = .ok (.iconst 1, 1) := by decide +kernel
theorem dL_law_622 : decode cL_law 622 = .ok (.iadd, 1) := by decide +kernel
theorem dL_law_623 : decode cL_law 623 = .ok (.iaload, 1) := by decide +kernel
theorem dL_law_624 : decode cL_law 624 = .ok (.aload_n 0, 1) := by decide +kernel
theorem dL_law_625 : decode cL_law 625 = .ok (.iload_n 3, 1) := by decide +kernel
theorem dL_law_626 : decode cL_law 626 = .ok (.iconst 2, 1) := by decide +kernel
theorem dL_law_627 : decode cL_law 627 = .ok (.iadd, 1) := by decide +kernel
theorem dL_law_628 : decode cL_law 628 = .ok (.iaload, 1) := by decide +kernel
theorem dL_law_629 : decode cL_law 629 = .ok (.invokevirtual 85, 3) := by decide +kernel
theorem dL_law_632 : decode cL_law 632 = .ok (.aload_n 2, 1) := by decide +kernel
theorem dL_law_633 : decode cL_law 633 = .ok (.aload_n 0, 1) := by decide +kernel
theorem dL_law_634 : decode cL_law 634 = .ok (.iload_n 3, 1) := by decide +kernel
theorem dL_law_635 : decode cL_law 635 = .ok (.iconst 1, 1) := by decide +kernel
theorem dL_law_636 : decode cL_law 636 = .ok (.iadd, 1) := by decide +kernel
theorem dL_law_637 : decode cL_law 637 = .ok (.iaload, 1) := by decide +kernel
theorem dL_law_638 : decode cL_law 638 = .ok (.aload_n 0, 1) := by decide +kernel
theorem dL_law_639 : decode cL_law 639 = .ok (.iload_n 3, 1) := by decide +kernel
theorem dL_law_640 : decode cL_law 640 = .ok (.iconst 2, 1) := by decide +kernel
theorem dL_law_641 : decode cL_law 641 = .ok (.iadd, 1) := by decide +kernel
theorem dL_law_642 : decode cL_law 642 = .ok (.iaload, 1) := by decide +kernel
theorem dL_law_643 : decode cL_law 643 = .ok (.invokevirtual 88, 3) := by decide +kernel
theorem dL_law_646 : decode cL_law 646 = .ok (.if_icmp .eq 140, 3) := by decide +kernel
theorem dL_law_649 : decode cL_law 649 = .ok (.iconst 0, 1) := by decide +kernel
theorem dL_law_650 : decode cL_law 650 = .ok (.ireturn, 1) := by decide +kernel
theorem dL_law_651 : decode cL_law 651 = .ok (.aload_n 1, 1) := by decide +kernel
theorem dL_law_652 : decode cL_law 652 = .ok (.aload_n 0, 1) := by decide +kernel
theorem dL_law_653 : decode cL_law 653 = .ok (.iload_n 3, 1) := by decide +kernel
theorem dL_law_654 : decode cL_law 654 = .ok (.iconst 1, 1) := by decide +kernel
theorem dL_law_655 : decode cL_law 655 = .ok (.iadd, 1) := by decide +kernel
theorem dL_law_656 : decode cL_law 656 = .ok (.iaload, 1) := by decide +kernel
theorem dL_law_657 : decode cL_law 657 = .ok (.invokevirtual 89, 3) := by decide +kernel
theorem dL_law_660 : decode cL_law 660 = .ok (.aload_n 2, 1) := by decide +kernel
theorem dL_law_661 : decode cL_law 661 = .ok (.aload_n 0, 1) := by decide +kernel
theorem dL_law_662 : decode cL_law 662 = .ok (.iload_n 3, 1) := by decide +kernel
theorem dL_law_663 : decode cL_law 663 = .ok (.iconst 1, 1) := by decide +kernel
theorem dL_law_664 : decode cL_law 664 = .ok (.iadd, 1) := by decide +kernel
theorem dL_law_665 : decode cL_law 665 = .ok (.iaload, 1) := by decide +kernel
theorem dL_law_666 : decode cL_law 666 = .ok (.invokevirtual 92, 3) := by decide +kernel
theorem dL_law_669 : decode cL_law 669 = .ok (.if_icmp .eq 117, 3) := by decide +kernel
theorem dL_law_672 : decode cL_law 672 = .ok (.iconst 0, 1) := by decide +kernel
theorem dL_law_673 : decode cL_law 673 = .ok (.ireturn, 1) := by decide +kernel
theorem dL_law_674 : decode cL_law 674 = .ok (.aload_n 1, 1) := by decide +kernel
theorem dL_law_675 : decode cL_law 675 = .ok (.aload_n 0, 1) := by decide +kernel
theorem dL_law_676 : decode cL_law 676 = .ok (.iload_n 3, 1) := by decide +kernel
theorem dL_law_677 : decode cL_law 677 = .ok (.iconst 1, 1) := by decide +kernel
theorem dL_law_678 : decode cL_law 678 = .ok (.iadd, 1) := by decide +kernel
theorem dL_law_679 : decode cL_law 679 = .ok (.iaload, 1) := by decide +kernel
theorem dL_law_680 : decode cL_law 680 = .ok (.aload_n 0, 1) := by decide +kernel
theorem dL_law_681 : decode cL_law 681 = .ok (.iload_n 3, 1) := by decide +kernel
theorem dL_law_682 : decode cL_law 682 = .ok (.iconst 2, 1) := by decide +kernel
theorem dL_law_683 : decode cL_law 683 = .ok (.iadd, 1) := by decide +kernel
theorem dL_law_684 : decode cL_law 684 = .ok (.iaload, 1) := by decide +kernel
theorem dL_law_685 : decode cL_law 685 = .ok (.invokevirtual 93, 3) := by decide +kernel
theorem dL_law_688 : decode cL_law 688 = .ok (.aload_n 2, 1) := by decide +kernel
theorem dL_law_689 : decode cL_law 689 = .ok (.aload_n 0, 1) := by decide +kernel
theorem dL_law_690 : decode cL_law 690 = .ok (.iload_n 3, 1) := by decide +kernel
theorem dL_law_691 : decode cL_law 691 = .ok (.iconst 1, 1) := by decide +kernel
theorem dL_law_692 : decode cL_law 692 = .ok (.iadd, 1) := by decide +kernel
theorem dL_law_693 : decode cL_law 693 = .ok (.iaload, 1) := by decide +kernel
theorem dL_law_694 : decode cL_law 694 = .ok (.aload_n 0, 1) := by decide +kernel
theorem dL_law_695 : decode cL_law 695 = .ok (.iload_n 3, 1) := by decide +kernel
theorem dL_law_696 : decode cL_law 696 = .ok (.iconst 2, 1) := by decide +kernel
theorem dL_law_697 : decode cL_law 697 = .ok (.iadd, 1) := by decide +kernel
theorem dL_law_698 : decode cL_law 698 = .ok (.iaload, 1) := by decide +kernel
theorem dL_law_699 : decode cL_law 699 = .ok (.invokevirtual 96, 3) := by decide +kernel
theorem dL_law_702 : decode cL_law 702 = .ok (.if_icmp .eq 84, 3) := by decide +kernel
theorem dL_law_705 : decode cL_law 705 = .ok (.iconst 0, 1) := by decide +kernel
theorem dL_law_706 : decode cL_law 706 = .ok (.ireturn, 1) := by decide +kernel
theorem dL_law_707 : decode cL_law 707 = .ok (.aload_n 1, 1) := by decide +kernel
theorem dL_law_708 : decode cL_law 708 = .ok (.aload_n 0, 1) := by decide +kernel
theorem dL_law_709 : decode cL_law 709 = .ok (.iload_n 3, 1) := by decide +kernel
theorem dL_law_710 : decode cL_law 710 = .ok (.iconst 1, 1) := by decide +kernel
theorem dL_law_711 : decode cL_law 711 = .ok (.iadd, 1) := by decide +kernel
theorem dL_law_712 : decode cL_law 712 = .ok (.iaload, 1) := by decide +kernel
theorem dL_law_713 : decode cL_law 713 = .ok (.aload_n 0, 1) := by decide +kernel
theorem dL_law_714 : decode cL_law 714 = .ok (.iload_n 3, 1) := by decide +kernel
theorem dL_law_715 : decode cL_law 715 = .ok (.iconst 2, 1) := by decide +kernel
theorem dL_law_716 : decode cL_law 716 = .ok (.iadd, 1) := by decide +kernel
theorem dL_law_717 : decode cL_law 717 = .ok (.iaload, 1) := by decide +kernel
theorem dL_law_718 : decode cL_law 718 = .ok (.invokevirtual 97, 3) := by decide +kernel
theorem dL_law_721 : decode cL_law 721 = .ok (.aload_n 2, 1) := by decide +kernel
theorem dL_law_722 : decode cL_law 722 = .ok (.aload_n 0, 1) := by decide +kernel
theorem dL_law_723 : decode cL_law 723 = .ok (.iload_n 3, 1) := by decide +kernel
theorem dL_law_724 : decode cL_law 724 = .ok (.iconst 1, 1) := by decide +kernel
theorem dL_law_725 : decode cL_law 725 = .ok (.iadd, 1) := by decide +kernel
theorem dL_law_726 : decode cL_law 726 = .ok (.iaload, 1) := by decide +kernel
theorem dL_law_727 : decode cL_law 727 = .ok (.aload_n 0, 1) := by decide +kernel
theorem dL_law_728 : decode cL_law 728 = .ok (.iload_n 3, 1) := by decide +kernel
theorem dL_law_729 : decode cL_law 729 = .ok (.iconst 2, 1) := by decide +kernel
theorem dL_law_730 : decode cL_law 730 = .ok (.iadd, 1) := by decide +kernel
theorem dL_law_731 : decode cL_law 731 = .ok (.iaload, 1) := by decide +kernel
theorem dL_law_732 : decode cL_law 732 = .ok (.invokevirtual 100, 3) := by decide +kernel
theorem dL_law_735 : decode cL_law 735 = .ok (.if_icmp .eq 51, 3) := by decide +kernel
theorem dL_law_738 : decode cL_law 738 = .ok (.iconst 0, 1) := by decide +kernel
theorem dL_law_739 : decode cL_law 739 = .ok (.ireturn, 1) := by decide +kernel
theorem dL_law_740 : decode cL_law 740 = .ok (.aload_n 1, 1) := by decide +kernel
theorem dL_law_741 : decode cL_law 741 = .ok (.aload_n 0, 1) := by decide +kernel
theorem dL_law_742 : decode cL_law 742 = .ok (.iload_n 3, 1) := by decide +kernel
theorem dL_law_743 : decode cL_law 743 = .ok (.iconst 1, 1) := by decide +kernel
theorem dL_law_744 : decode cL_law 744 = .ok (.iadd, 1) := by decide +kernel
theorem dL_law_745 : decode cL_law 745 = .ok (.iaload, 1) := by decide +kernel
theorem dL_law_746 : decode cL_law 746 = .ok (.invokevirtual 101, 3) := by decide +kernel
theorem dL_law_749 : decode cL_law 749 = .ok (.aload_n 2, 1) := by decide +kernel
theorem dL_law_750 : decode cL_law 750 = .ok (.aload_n 0, 1) := by decide +kernel
theorem dL_law_751 : decode cL_law 751 = .ok (.iload_n 3, 1) := by decide +kernel
theorem dL_law_752 : decode cL_law 752 = .ok (.iconst 1, 1) := by decide +kernel
theorem dL_law_753 : decode cL_law 753 = .ok (.iadd, 1) := by decide +kernel
theorem dL_law_754 : decode cL_law 754 = .ok (.iaload, 1) := by decide +kernel
theorem dL_law_755 : decode cL_law 755 = .ok (.invokevirtual 104, 3) := by decide +kernel
theorem dL_law_758 : decode cL_law 758 = .ok (.if_icmp .eq 28, 3) := by decide +kernel
theorem dL_law_761 : decode cL_law 761 = .ok (.iconst 0, 1) := by decide +kernel
theorem dL_law_762 : decode cL_law 762 = .ok (.ireturn, 1) := by decide +kernel
theorem dL_law_763 : decode cL_law 763 = .ok (.aload_n 1, 1) := by decide +kernel
theorem dL_law_764 : decode cL_law 764 = .ok (.aload_n 0, 1) := by decide +kernel
theorem dL_law_765 : decode cL_law 765 = .ok (.iload_n 3, 1) := by decide +kernel
theorem dL_law_766 : decode cL_law 766 = .ok (.iconst 1, 1) := by decide +kernel
theorem dL_law_767 : decode cL_law 767 = .ok (.iadd, 1) := by decide +kernel
theorem dL_law_768 : decode cL_law 768 = .ok (.iaload, 1) := by decide +kernel
theorem dL_law_769 : decode cL_law 769 = .ok (.invokevirtual 105, 3) := by decide +kernel
theorem dL_law_772 : decode cL_law 772 = .ok (.aload_n 2, 1) := by decide +kernel
theorem dL_law_773 : decode cL_law 773 = .ok (.aload_n 0, 1) := by decide +kernel
theorem dL_law_774 : decode cL_law 774 = .ok (.iload_n 3, 1) := by decide +kernel
theorem dL_law_775 : decode cL_law 775 = .ok (.iconst 1, 1) := by decide +kernel
theorem dL_law_776 : decode cL_law 776 = .ok (.iadd, 1) := by decide +kernel
theorem dL_law_777 : decode cL_law 777 = .ok (.iaload, 1) := by decide +kernel
theorem dL_law_778 : decode cL_law 778 = .ok (.invokevirtual 108, 3) := by decide +kernel
theorem dL_law_781 : decode cL_law 781 = .ok (.if_icmp .eq 5, 3) := by decide +kernel
theorem dL_law_784 : decode cL_law 784 = .ok (.iconst 0, 1) := by decide +kernel
theorem dL_law_785 : decode cL_law 785 = .ok (.ireturn, 1) := by decide +kernel
theorem dL_law_786 : decode cL_law 786 = .ok (.iinc 3 5, 3) := by decide +kernel
theorem dL_law_789 : decode cL_law 789 = .ok (.goto (-761), 3) := by decide +kernel
theorem dL_law_792 : decode cL_law 792 = .ok (.iconst 1, 1) := by decide +kernel
theorem dL_law_793 : decode cL_law 793 = .ok (.ireturn, 1) := by decide +kernel
end
section
theorem q_0 : Cond.selects "ChairFront" ⟨"ChairFront", "isPlace", "(I)Z"⟩ ⟨"ChairFront", "isPlace", "(I)Z"⟩ ∈ WS := mW 0 (by decide +kernel) rfl
theorem q_1 : Cond.selects "ChairFront" ⟨"ChairFront", "isStretch", "(I)Z"⟩ ⟨"ChairFront", "isStretch", "(I)Z"⟩ ∈ WS := mW 1 (by decide +kernel) rfl
theorem q_2 : Cond.selects "ChairFront" ⟨"ChairFront", "chairsToTake", "(I)I"⟩ ⟨"ChairFront", "chairsToTake", "(I)I"⟩ ∈ WS := mW 2 (by decide +kernel) rfl
theorem q_3 : Cond.selects "ChairFront" ⟨"ChairFront", "addChairs", "(II)I"⟩ ⟨"ChairFront", "addChairs", "(II)I"⟩ ∈ WS := mW 3 (by decide +kernel) rfl
theorem q_4 : Cond.selects "ChairFront" ⟨"ChairFront", "takeByTide", "(I)V"⟩ ⟨"ChairFront", "takeByTide", "(I)V"⟩ ∈ WS := mW 4 (by decide +kernel) rfl
theorem q_5 : Cond.selects "ChairFront" ⟨"ChairFront", "endTicket", "(LChairFront$Ticket;)V"⟩ ⟨"ChairFront", "endTicket", "(LChairFront$Ticket;)V"⟩ ∈ WS := mW 5 (by decide +kernel) rfl
theorem q_6 : Cond.selects "ChairFront" ⟨"ChairFront", "endAllByWind", "()V"⟩ ⟨"ChairFront", "endAllByWind", "()V"⟩ ∈ WS := mW 6 (by decide +kernel) rfl
theorem q_7 : Cond.selects "ChairFront" ⟨"ChairFront", "payBackRain", "(I)V"⟩ ⟨"ChairFront", "payBackRain", "(I)V"⟩ ∈ WS := mW 7 (by decide +kernel) rfl
theorem q_8 : Cond.selects "ChairFront" ⟨"ChairFront", "wearAll", "(I)V"⟩ ⟨"ChairFront", "wearAll", "(I)V"⟩ ∈ WS := mW 8 (by decide +kernel) rfl
theorem q_9 : Cond.selects "ChairFront" ⟨"ChairFront", "breakChair", "(I)V"⟩ ⟨"ChairFront", "breakChair", "(I)V"⟩ ∈ WS := mW 9 (by decide +kernel) rfl
theorem q_10 : Cond.selects "ChairFront" ⟨"ChairFront", "passAnHour", "()V"⟩ ⟨"ChairFront", "passAnHour", "()V"⟩ ∈ WS := mW 10 (by decide +kernel) rfl
theorem q_11 : Cond.selects "ChairFront$Reader" ⟨"ChairFront$Reader", "advance", "()V"⟩ ⟨"ChairFront$Reader", "advance", "()V"⟩ ∈ WS := mW 11 (by decide +kernel) rfl
theorem q_12 : Cond.selects "ChairFront$Reader" ⟨"ChairFront$Reader", "skipBlanks", "()V"⟩ ⟨"ChairFront$Reader", "skipBlanks", "()V"⟩ ∈ WS := mW 12 (by decide +kernel) rfl
theorem q_13 : Cond.selects "ChairFront$Reader" ⟨"ChairFront$Reader", "passName", "()V"⟩ ⟨"ChairFront$Reader", "passName", "()V"⟩ ∈ WS := mW 13 (by decide +kernel) rfl
theorem q_14 : Cond.selects "ChairFront$Reader" ⟨"ChairFront$Reader", "passNumber", "()V"⟩ ⟨"ChairFront$Reader", "passNumber", "()V"⟩ ∈ WS := mW 14 (by decide +kernel) rfl
theorem q_15 : Cond.selects "ChairFront$Reader" ⟨"ChairFront$Reader", "readLine", "(LChairFront$Rules;)Z"⟩ ⟨"ChairFront$Reader", "readLine", "(LChairFront$Rules;)Z"⟩ ∈ WS := mW 15 (by decide +kernel) rfl
theorem q_16 : Cond.selects "ChairFront$Reader" ⟨"ChairFront$Reader", "isWord", "(Ljava/lang/String;)Z"⟩ ⟨"ChairFront$Reader", "isWord", "(Ljava/lang/String;)Z"⟩ ∈ WS := mW 16 (by decide +kernel) rfl
theorem q_17 : Cond.selects "ChairFront$Reader" ⟨"ChairFront$Reader", "readHold", "(LChairFront$Rules;)Z"⟩ ⟨"ChairFront$Reader", "readHold", "(LChairFront$Rules;)Z"⟩ ∈ WS := mW 17 (by decide +kernel) rfl
theorem q_18 : Cond.selects "ChairFront$Reader" ⟨"ChairFront$Reader", "refuse", "(I)Z"⟩ ⟨"ChairFront$Reader", "refuse", "(I)Z"⟩ ∈ WS := mW 18 (by decide +kernel) rfl
theorem q_19 : Cond.selects "ChairFront$Reader" ⟨"ChairFront$Reader", "readSign", "()Z"⟩ ⟨"ChairFront$Reader", "readSign", "()Z"⟩ ∈ WS := mW 19 (by decide +kernel) rfl
theorem q_20 : Cond.selects "ChairFront$Reader" ⟨"ChairFront$Reader", "readRain", "(LChairFront$Rules;)Z"⟩ ⟨"ChairFront$Reader", "readRain", "(LChairFront$Rules;)Z"⟩ ∈ WS := mW 20 (by decide +kernel) rfl
theorem q_21 : Cond.selects "ChairFront$Reader" ⟨"ChairFront$Reader", "readPart", "(II)Z"⟩ ⟨"ChairFront$Reader", "readPart", "(II)Z"⟩ ∈ WS := mW 21 (by decide +kernel) rfl
theorem q_22 : Cond.selects "ChairFront$Reader" ⟨"ChairFront$Reader", "standsNumber", "(II)Z"⟩ ⟨"ChairFront$Reader", "standsNumber", "(II)Z"⟩ ∈ WS := mW 22 (by decide +kernel) rfl
theorem q_23 : Cond.selects "ChairFront$Reader" ⟨"ChairFront$Reader", "readRent", "(LChairFront$Rules;)Z"⟩ ⟨"ChairFront$Reader", "readRent", "(LChairFront$Rules;)Z"⟩ ∈ WS := mW 23 (by decide +kernel) rfl
theorem q_24 : Cond.selects "ChairFront$BestWalk" ⟨"ChairFront$BestWalk", "addStop", "(ILChairFront$Stretch;)V"⟩ ⟨"ChairFront$BestWalk", "addStop", "(ILChairFront$Stretch;)V"⟩ ∈ WS := mW 24 (by decide +kernel) rfl
theorem q_25 : Cond.selects "ChairFront$BestWalk" ⟨"ChairFront$BestWalk", "allStops", "()I"⟩ ⟨"ChairFront$BestWalk", "allStops", "()I"⟩ ∈ WS := mW 25 (by decide +kernel) rfl
theorem q_26 : Cond.selects "ChairFront$BestWalk" ⟨"ChairFront$BestWalk", "bestNext", "(I)I"⟩ ⟨"ChairFront$BestWalk", "bestNext", "(I)I"⟩ ∈ WS := mW 26 (by decide +kernel) rfl
theorem q_27 : Cond.selects "ChairFront$BestWalk" ⟨"ChairFront$BestWalk", "findsBy", "(II)I"⟩ ⟨"ChairFront$BestWalk", "findsBy", "(II)I"⟩ ∈ WS := mW 27 (by decide +kernel) rfl
theorem q_28 : Cond.selects "ChairFront$Asks" ⟨"ChairFront$Asks", "worthOfCrowd", "(LChairFront$Stretch;)I"⟩ ⟨"ChairFront$Asks", "worthOfCrowd", "(LChairFront$Stretch;)I"⟩ ∈ WS := mW 28 (by decide +kernel) rfl
theorem q_29 : Cond.selects "ChairFront$Asks" ⟨"ChairFront$Asks", "leave", "(I)V"⟩ ⟨"ChairFront$Asks", "leave", "(I)V"⟩ ∈ WS := mW 29 (by decide +kernel) rfl
theorem q_30 : Cond.selects "ChairFront$Asks" ⟨"ChairFront$Asks", "worthOfSold", "(LChairFront$Stretch;)I"⟩ ⟨"ChairFront$Asks", "worthOfSold", "(LChairFront$Stretch;)I"⟩ ∈ WS := mW 30 (by decide +kernel) rfl
theorem q_31 : Cond.selects "ChairFront$Asks" ⟨"ChairFront$Asks", "worthLent", "(LChairFront$Stretch;)I"⟩ ⟨"ChairFront$Asks", "worthLent", "(LChairFront$Stretch;)I"⟩ ∈ WS := mW 31 (by decide +kernel) rfl
theorem q_32 : Cond.selects "ChairFront$Asks" ⟨"ChairFront$Asks", "markOfCrowd", "(LChairFront$Stretch;)I"⟩ ⟨"ChairFront$Asks", "markOfCrowd", "(LChairFront$Stretch;)I"⟩ ∈ WS := mW 32 (by decide +kernel) rfl
theorem q_33 : Cond.selects "ChairFront$Asks" ⟨"ChairFront$Asks", "markLent", "(LChairFront$Stretch;)I"⟩ ⟨"ChairFront$Asks", "markLent", "(LChairFront$Stretch;)I"⟩ ∈ WS := mW 33 (by decide +kernel) rfl
theorem q_34 : Cond.selects "ChairFront$Asks" ⟨"ChairFront$Asks", "worthOfBare", "(LChairFront$Stretch;)I"⟩ ⟨"ChairFront$Asks", "worthOfBare", "(LChairFront$Stretch;)I"⟩ ∈ WS := mW 34 (by decide +kernel) rfl
theorem q_35 : Cond.selects "ChairFront$Asks" ⟨"ChairFront$Asks", "markOfBare", "(LChairFront$Stretch;)I"⟩ ⟨"ChairFront$Asks", "markOfBare", "(LChairFront$Stretch;)I"⟩ ∈ WS := mW 35 (by decide +kernel) rfl
theorem q_36 : Cond.selects "ChairFront" ⟨"ChairFront", "allStanding", "()I"⟩ ⟨"ChairFront", "allStanding", "()I"⟩ ∈ WS := mW 36 (by decide +kernel) rfl
theorem q_37 : Cond.selects "ChairFrontModel" ⟨"ChairFrontModel", "isStretch", "(I)Z"⟩ ⟨"ChairFrontModel", "isStretch", "(I)Z"⟩ ∈ WS := mW 37 (by decide +kernel) rfl
theorem q_38 : Cond.selects "ChairFrontModel" ⟨"ChairFrontModel", "standing", "(I)I"⟩ ⟨"ChairFrontModel", "standing", "(I)I"⟩ ∈ WS := mW 38 (by decide +kernel) rfl
theorem q_39 : Cond.selects "ChairFrontModel" ⟨"ChairFrontModel", "slotOf", "(I)I"⟩ ⟨"ChairFrontModel", "slotOf", "(I)I"⟩ ∈ WS := mW 39 (by decide +kernel) rfl
theorem q_40 : Cond.selects "ChairFrontModel" ⟨"ChairFrontModel", "end", "(I)V"⟩ ⟨"ChairFrontModel", "end", "(I)V"⟩ ∈ WS := mW 40 (by decide +kernel) rfl
theorem q_41 : Cond.selects "ChairFrontModel" ⟨"ChairFrontModel", "tear", "(I)V"⟩ ⟨"ChairFrontModel", "tear", "(I)V"⟩ ∈ WS := mW 41 (by decide +kernel) rfl
theorem q_42 : Cond.selects "ChairFrontModel" ⟨"ChairFrontModel", "step", "()V"⟩ ⟨"ChairFrontModel", "step", "()V"⟩ ∈ WS := mW 42 (by decide +kernel) rfl
theorem q_43 : Cond.selects "ChairFrontModel" ⟨"ChairFrontModel", "byteAt", "(I)I"⟩ ⟨"ChairFrontModel", "byteAt", "(I)I"⟩ ∈ WS := mW 43 (by decide +kernel) rfl
theorem q_44 : Cond.selects "ChairFrontModel" ⟨"ChairFrontModel", "readLine", "()V"⟩ ⟨"ChairFrontModel", "readLine", "()V"⟩ ∈ WS := mW 44 (by decide +kernel) rfl
theorem q_45 : Cond.selects "ChairFrontModel" ⟨"ChairFrontModel", "word", "()J"⟩ ⟨"ChairFrontModel", "word", "()J"⟩ ∈ WS := mW 45 (by decide +kernel) rfl
theorem q_46 : Cond.selects "ChairFrontModel" ⟨"ChairFrontModel", "bad", "(I)V"⟩ ⟨"ChairFrontModel", "bad", "(I)V"⟩ ∈ WS := mW 46 (by decide +kernel) rfl
theorem q_47 : Cond.selects "ChairFrontModel" ⟨"ChairFrontModel", "need", "(Z)V"⟩ ⟨"ChairFrontModel", "need", "(Z)V"⟩ ∈ WS := mW 47 (by decide +kernel) rfl
theorem q_48 : Cond.selects "ChairFrontModel" ⟨"ChairFrontModel", "numberIn", "(II)I"⟩ ⟨"ChairFrontModel", "numberIn", "(II)I"⟩ ∈ WS := mW 48 (by decide +kernel) rfl
theorem q_49 : Cond.selects "ChairFrontModel" ⟨"ChairFrontModel", "next", "(I)Z"⟩ ⟨"ChairFrontModel", "next", "(I)Z"⟩ ∈ WS := mW 49 (by decide +kernel) rfl
theorem q_50 : Cond.selects "ChairFrontModel" ⟨"ChairFrontModel", "kindOf", "(I)I"⟩ ⟨"ChairFrontModel", "kindOf", "(I)I"⟩ ∈ WS := mW 50 (by decide +kernel) rfl
theorem q_51 : Cond.selects "ChairFrontModel" ⟨"ChairFrontModel", "worth", "(I)I"⟩ ⟨"ChairFrontModel", "worth", "(I)I"⟩ ∈ WS := mW 51 (by decide +kernel) rfl
theorem q_52 : Cond.selects "ChairFrontModel" ⟨"ChairFrontModel", "bareWorth", "(I)I"⟩ ⟨"ChairFrontModel", "bareWorth", "(I)I"⟩ ∈ WS := mW 52 (by decide +kernel) rfl
theorem q_53 : Cond.selects "ChairFrontModel" ⟨"ChairFrontModel", "began", "(I)V"⟩ ⟨"ChairFrontModel", "began", "(I)V"⟩ ∈ WS := mW 53 (by decide +kernel) rfl
theorem q_54 : Cond.selects "ChairFrontModel" ⟨"ChairFrontModel", "marked", "(I)I"⟩ ⟨"ChairFrontModel", "marked", "(I)I"⟩ ∈ WS := mW 54 (by decide +kernel) rfl
theorem q_55 : (Jvm.Cond.initialized "ChairFrontLaw") ∈ WS := mW 55 (by decide +kernel) rfl
theorem q_56 : (Jvm.Cond.initialized "ChairFront") ∈ WS := mW 56 (by decide +kernel) rfl
theorem q_57 : (Jvm.Cond.initialized "ChairFront$TicketBook") ∈ WS := mW 57 (by decide +kernel) rfl
theorem q_58 : (Jvm.Cond.initialized "ChairFront$Ticket") ∈ WS := mW 58 (by decide +kernel) rfl
theorem q_59 : (Jvm.Cond.initialized "ChairFront$Reader") ∈ WS := mW 59 (by decide +kernel) rfl
theorem q_60 : (Jvm.Cond.initialized "ChairFront$Tape") ∈ WS := mW 60 (by decide +kernel) rfl
theorem q_61 : (Jvm.Cond.initialized "ChairFront$Rules") ∈ WS := mW 61 (by decide +kernel) rfl
theorem q_62 : (Jvm.Cond.initialized "ChairFront$BestWalk") ∈ WS := mW 62 (by decide +kernel) rfl
theorem q_63 : (Jvm.Cond.initialized "ChairFront$Asks") ∈ WS := mW 63 (by decide +kernel) rfl
theorem q_64 : (Jvm.Cond.initialized "java/lang/Math") ∈ WS := mW 64 (by decide +kernel) rfl
theorem q_65 : (Jvm.Cond.initialized "ChairFront$Stretch") ∈ WS := mW 65 (by decide +kernel) rfl
theorem q_66 : (Jvm.Cond.initialized "ChairFrontModel") ∈ WS := mW 66 (by decide +kernel) rfl
theorem q_67 : (Jvm.Cond.initialized "java/lang/String") ∈ WS := mW 67 (by decide +kernel) rfl
theorem q_68 : (Jvm.Cond.initialized "java/lang/StringLatin1") ∈ WS := mW 68 (by decide +kernel) rfl
theorem q_69 : (Jvm.Cond.initialized "jdk/internal/util/Preconditions") ∈ WS := mW 69 (by decide +kernel) rfl
theorem q_70 : (Jvm.Cond.initialized "java/lang/StringUTF16") ∈ WS := mW 70 (by decide +kernel) rfl
theorem q_71 : (Jvm.Cond.initialized "java/lang/Integer") ∈ WS := mW 71 (by decide +kernel) rfl
theorem q_72 : (Jvm.Cond.classLink "ChairFrontLaw" (7 : Nat) "ChairFront") ∈ WS := mW 72 (by decide +kernel) rfl
theorem q_73 : (Jvm.Cond.instantiable "ChairFront" (16 : Nat)) ∈ WS := mW 73 (by decide +kernel) rfl
theorem q_74 : (Jvm.Cond.methodLink "ChairFrontLaw" (15 : Nat) ({ cls := "ChairFront", name := "<init>", desc := "(I)V" } : Jvm.MethodName)) ∈ WS := mW 74 (by decide +kernel) rfl
theorem q_75 : (Jvm.Cond.instanceMethod ({ cls := "ChairFront", name := "<init>", desc := "(I)V" } : Jvm.MethodName)) ∈ WS := mW 75 (by decide +kernel) rfl
theorem q_76 : (Jvm.Cond.code ({ cls := "ChairFront", name := "<init>", desc := "(I)V" } : Jvm.MethodName) prog_1_method_1_code (3 : Nat) (Option.none : Option Jvm.ClassFile.FieldType)) ∈ WS := mW 76 (by decide +kernel) rfl
theorem q_77 : (Jvm.Cond.methodLink "ChairFront" (1 : Nat) ({ cls := "java/lang/Object", name := "<init>", desc := "()V" } : Jvm.MethodName)) ∈ WS := mW 77 (by decide +kernel) rfl
theorem q_78 : (Jvm.Cond.instanceMethod ({ cls := "java/lang/Object", name := "<init>", desc := "()V" } : Jvm.MethodName)) ∈ WS := mW 78 (by decide +kernel) rfl
theorem q_79 : (Jvm.Cond.code ({ cls := "java/lang/Object", name := "<init>", desc := "()V" } : Jvm.MethodName) object_method_1_code (1 : Nat) (Option.none : Option Jvm.ClassFile.FieldType)) ∈ WS := mW 79 (by decide +kernel) rfl
theorem q_80 : (Jvm.Cond.classLink "ChairFront" (16 : Nat) "ChairFront$Stretch") ∈ WS := mW 80 (by decide +kernel) rfl
theorem q_82 : (Jvm.Cond.classLink "ChairFront" (22 : Nat) "ChairFront$TicketBook") ∈ WS := mW 82 (by decide +kernel) rfl
theorem q_83 : (Jvm.Cond.instantiable "ChairFront$TicketBook" (5 : Nat)) ∈ WS := mW 83 (by decide +kernel) rfl
theorem q_84 : (Jvm.Cond.methodLink "ChairFront" (24 : Nat) ({ cls := "ChairFront$TicketBook", name := "<init>", desc := "()V" } : Jvm.MethodName)) ∈ WS := mW 84 (by decide +kernel) rfl
theorem q_85 : (Jvm.Cond.instanceMethod ({ cls := "ChairFront$TicketBook", name := "<init>", desc := "()V" } : Jvm.MethodName)) ∈ WS := mW 85 (by decide +kernel) rfl
theorem q_86 : (Jvm.Cond.code ({ cls := "ChairFront$TicketBook", name := "<init>", desc := "()V" } : Jvm.MethodName) prog_9_method_1_code (2 : Nat) (Option.none : Option Jvm.ClassFile.FieldType)) ∈ WS := mW 86 (by decide +kernel) rfl
theorem q_87 : (Jvm.Cond.methodLink "ChairFront$TicketBook" (1 : Nat) ({ cls := "java/lang/Object", name := "<init>", desc := "()V" } : Jvm.MethodName)) ∈ WS := mW 87 (by decide +kernel) rfl
theorem q_88 : (Jvm.Cond.classLink "ChairFront$TicketBook" (9 : Nat) "ChairFront$Ticket") ∈ WS := mW 88 (by decide +kernel) rfl
theorem q_90 : (Jvm.Cond.instantiable "ChairFront$Ticket" (7 : Nat)) ∈ WS := mW 90 (by decide +kernel) rfl
theorem q_92 : (Jvm.Cond.instanceMethod ({ cls := "ChairFront$Ticket", name := "<init>", desc := "()V" } : Jvm.MethodName)) ∈ WS := mW 92 (by decide +kernel) rfl
theorem q_93 : (Jvm.Cond.code ({ cls := "ChairFront$Ticket", name := "<init>", desc := "()V" } : Jvm.MethodName) prog_8_method_1_code (1 : Nat) (Option.none : Option Jvm.ClassFile.FieldType)) ∈ WS := mW 93 (by decide +kernel) rfl
theorem q_94 : (Jvm.Cond.methodLink "ChairFront$Ticket" (1 : Nat) ({ cls := "java/lang/Object", name := "<init>", desc := "()V" } : Jvm.MethodName)) ∈ WS := mW 94 (by decide +kernel) rfl
theorem q_95 : (Jvm.Cond.fieldLink "ChairFront$TicketBook" (23 : Nat) "ChairFront$Ticket" "number" "I") ∈ WS := mW 95 (by decide +kernel) rfl
theorem q_96 : (Jvm.Cond.fieldLink "ChairFront" (150 : Nat) "ChairFront$Ticket" "number" "I") ∈ WS := mW 96 (by decide +kernel) rfl
theorem q_97 : (Jvm.Cond.fieldLink "ChairFront$TicketBook" (26 : Nat) "ChairFront$Ticket" "place" "I") ∈ WS := mW 97 (by decide +kernel) rfl
theorem q_98 : (Jvm.Cond.fieldLink "ChairFront" (133 : Nat) "ChairFront$Ticket" "place" "I") ∈ WS := mW 98 (by decide +kernel) rfl
theorem q_99 : (Jvm.Cond.fieldLink "ChairFront" (138 : Nat) "ChairFront$Ticket" "zone" "I") ∈ WS := mW 99 (by decide +kernel) rfl
theorem q_100 : (Jvm.Cond.fieldLink "ChairFront$TicketBook" (29 : Nat) "ChairFront$Ticket" "chairs" "I") ∈ WS := mW 100 (by decide +kernel) rfl
theorem q_101 : (Jvm.Cond.fieldLink "ChairFront" (139 : Nat) "ChairFront$Ticket" "chairs" "I") ∈ WS := mW 101 (by decide +kernel) rfl
theorem q_102 : (Jvm.Cond.fieldLink "ChairFront" (142 : Nat) "ChairFront$Ticket" "hoursLeft" "I") ∈ WS := mW 102 (by decide +kernel) rfl
theorem q_103 : (Jvm.Cond.fieldLink "ChairFront" (145 : Nat) "ChairFront$Ticket" "price" "I") ∈ WS := mW 103 (by decide +kernel) rfl
theorem q_104 : (Jvm.Cond.fieldLink "ChairFront" (146 : Nat) "ChairFront$Ticket" "paid" "I") ∈ WS := mW 104 (by decide +kernel) rfl
theorem q_120 : (Jvm.Cond.fieldLink "ChairFront$TicketBook" (11 : Nat) "ChairFront$TicketBook" "tickets" "[LChairFront$Ticket;") ∈ WS := mW 120 (by decide +kernel) rfl
theorem q_121 : (Jvm.Cond.fieldLink "ChairFront" (278 : Nat) "ChairFront$TicketBook" "tickets" "[LChairFront$Ticket;") ∈ WS := mW 121 (by decide +kernel) rfl
theorem q_122 : (Jvm.Cond.fieldLink "ChairFront$TicketBook" (16 : Nat) "ChairFront$TicketBook" "running" "I") ∈ WS := mW 122 (by decide +kernel) rfl
theorem q_123 : (Jvm.Cond.fieldLink "ChairFront" (183 : Nat) "ChairFront$TicketBook" "running" "I") ∈ WS := mW 123 (by decide +kernel) rfl
theorem q_124 : (Jvm.Cond.fieldLink "ChairFront$TicketBook" (20 : Nat) "ChairFront$TicketBook" "ever" "I") ∈ WS := mW 124 (by decide +kernel) rfl
theorem q_125 : (Jvm.Cond.fieldLink "ChairFront" (275 : Nat) "ChairFront$TicketBook" "ever" "I") ∈ WS := mW 125 (by decide +kernel) rfl
theorem q_126 : (Jvm.Cond.fieldLink "ChairFront" (149 : Nat) "ChairFront$TicketBook" "paid" "I") ∈ WS := mW 126 (by decide +kernel) rfl
theorem q_127 : (Jvm.Cond.fieldLink "ChairFront" (223 : Nat) "ChairFront$TicketBook" "back" "I") ∈ WS := mW 127 (by decide +kernel) rfl
theorem q_139 : (Jvm.Cond.classLink "ChairFront" (29 : Nat) "ChairFront$Reader") ∈ WS := mW 139 (by decide +kernel) rfl
theorem q_140 : (Jvm.Cond.instantiable "ChairFront$Reader" (9 : Nat)) ∈ WS := mW 140 (by decide +kernel) rfl
theorem q_142 : (Jvm.Cond.instanceMethod ({ cls := "ChairFront$Reader", name := "<init>", desc := "()V" } : Jvm.MethodName)) ∈ WS := mW 142 (by decide +kernel) rfl
theorem q_143 : (Jvm.Cond.code ({ cls := "ChairFront$Reader", name := "<init>", desc := "()V" } : Jvm.MethodName) prog_4_method_1_code (1 : Nat) (Option.none : Option Jvm.ClassFile.FieldType)) ∈ WS := mW 143 (by decide +kernel) rfl
theorem q_144 : (Jvm.Cond.methodLink "ChairFront$Reader" (1 : Nat) ({ cls := "java/lang/Object", name := "<init>", desc := "()V" } : Jvm.MethodName)) ∈ WS := mW 144 (by decide +kernel) rfl
theorem q_145 : (Jvm.Cond.classLink "ChairFront$Reader" (7 : Nat) "ChairFront$Tape") ∈ WS := mW 145 (by decide +kernel) rfl
theorem q_146 : (Jvm.Cond.instantiable "ChairFront$Tape" (2 : Nat)) ∈ WS := mW 146 (by decide +kernel) rfl
theorem q_148 : (Jvm.Cond.instanceMethod ({ cls := "ChairFront$Tape", name := "<init>", desc := "()V" } : Jvm.MethodName)) ∈ WS := mW 148 (by decide +kernel) rfl
theorem q_149 : (Jvm.Cond.code ({ cls := "ChairFront$Tape", name := "<init>", desc := "()V" } : Jvm.MethodName) prog_7_method_1_code (1 : Nat) (Option.none : Option Jvm.ClassFile.FieldType)) ∈ WS := mW 149 (by decide +kernel) rfl
theorem q_150 : (Jvm.Cond.methodLink "ChairFront$Tape" (1 : Nat) ({ cls := "java/lang/Object", name := "<init>", desc := "()V" } : Jvm.MethodName)) ∈ WS := mW 150 (by decide +kernel) rfl
theorem q_151 : (Jvm.Cond.fieldLink "ChairFront$Tape" (9 : Nat) "ChairFront$Tape" "bytes" "[B") ∈ WS := mW 151 (by decide +kernel) rfl
theorem q_152 : (Jvm.Cond.fieldLink "ChairFront$Tape" (13 : Nat) "ChairFront$Tape" "length" "I") ∈ WS := mW 152 (by decide +kernel) rfl
theorem q_153 : (Jvm.Cond.fieldLink "ChairFront" (199 : Nat) "ChairFront$Tape" "length" "I") ∈ WS := mW 153 (by decide +kernel) rfl
theorem q_154 : (Jvm.Cond.fieldLink "ChairFront$Reader" (148 : Nat) "ChairFront$Tape" "length" "I") ∈ WS := mW 154 (by decide +kernel) rfl
theorem q_160 : (Jvm.Cond.arrayClass Jvm.ClassFile.FieldType.byte) ∈ WS := mW 160 (by decide +kernel) rfl
theorem q_161 : (Jvm.Cond.fieldLink "ChairFront$Reader" (10 : Nat) "ChairFront$Reader" "tape" "LChairFront$Tape;") ∈ WS := mW 161 (by decide +kernel) rfl
theorem q_162 : (Jvm.Cond.fieldLink "ChairFront" (186 : Nat) "ChairFront$Reader" "tape" "LChairFront$Tape;") ∈ WS := mW 162 (by decide +kernel) rfl
theorem q_163 : (Jvm.Cond.fieldLink "ChairFront$Reader" (23 : Nat) "ChairFront$Reader" "token" "I") ∈ WS := mW 163 (by decide +kernel) rfl
theorem q_164 : (Jvm.Cond.fieldLink "ChairFront$Reader" (114 : Nat) "ChairFront$Reader" "start" "I") ∈ WS := mW 164 (by decide +kernel) rfl
theorem q_165 : (Jvm.Cond.fieldLink "ChairFront$Reader" (16 : Nat) "ChairFront$Reader" "next" "I") ∈ WS := mW 165 (by decide +kernel) rfl
theorem q_166 : (Jvm.Cond.fieldLink "ChairFront$Reader" (101 : Nat) "ChairFront$Reader" "value" "I") ∈ WS := mW 166 (by decide +kernel) rfl
theorem q_167 : (Jvm.Cond.fieldLink "ChairFront$Reader" (77 : Nat) "ChairFront$Reader" "bound" "I") ∈ WS := mW 167 (by decide +kernel) rfl
theorem q_168 : (Jvm.Cond.fieldLink "ChairFront$Reader" (80 : Nat) "ChairFront$Reader" "part" "I") ∈ WS := mW 168 (by decide +kernel) rfl
theorem q_169 : (Jvm.Cond.fieldLink "ChairFront$Reader" (111 : Nat) "ChairFront$Reader" "faultNumber" "I") ∈ WS := mW 169 (by decide +kernel) rfl
theorem q_170 : (Jvm.Cond.fieldLink "ChairFront" (209 : Nat) "ChairFront$Reader" "faultNumber" "I") ∈ WS := mW 170 (by decide +kernel) rfl
theorem q_171 : (Jvm.Cond.fieldLink "ChairFront$Reader" (117 : Nat) "ChairFront$Reader" "faultPlace" "I") ∈ WS := mW 171 (by decide +kernel) rfl
theorem q_172 : (Jvm.Cond.fieldLink "ChairFront" (216 : Nat) "ChairFront$Reader" "faultPlace" "I") ∈ WS := mW 172 (by decide +kernel) rfl
theorem q_192 : (Jvm.Cond.classLink "ChairFront" (36 : Nat) "ChairFront$Rules") ∈ WS := mW 192 (by decide +kernel) rfl
theorem q_193 : (Jvm.Cond.instantiable "ChairFront$Rules" (8 : Nat)) ∈ WS := mW 193 (by decide +kernel) rfl
theorem q_195 : (Jvm.Cond.instanceMethod ({ cls := "ChairFront$Rules", name := "<init>", desc := "()V" } : Jvm.MethodName)) ∈ WS := mW 195 (by decide +kernel) rfl
theorem q_196 : (Jvm.Cond.code ({ cls := "ChairFront$Rules", name := "<init>", desc := "()V" } : Jvm.MethodName) prog_5_method_1_code (1 : Nat) (Option.none : Option Jvm.ClassFile.FieldType)) ∈ WS := mW 196 (by decide +kernel) rfl
theorem q_197 : (Jvm.Cond.methodLink "ChairFront$Rules" (1 : Nat) ({ cls := "java/lang/Object", name := "<init>", desc := "()V" } : Jvm.MethodName)) ∈ WS := mW 197 (by decide +kernel) rfl
theorem q_198 : (Jvm.Cond.fieldLink "ChairFront$Rules" (22 : Nat) "ChairFront$Rules" "lines" "I") ∈ WS := mW 198 (by decide +kernel) rfl
theorem q_199 : (Jvm.Cond.fieldLink "ChairFront$Reader" (30 : Nat) "ChairFront$Rules" "lines" "I") ∈ WS := mW 199 (by decide +kernel) rfl
theorem q_200 : (Jvm.Cond.fieldLink "ChairFront" (219 : Nat) "ChairFront$Rules" "lines" "I") ∈ WS := mW 200 (by decide +kernel) rfl
theorem q_201 : (Jvm.Cond.fieldLink "ChairFront$Rules" (26 : Nat) "ChairFront$Rules" "hold" "I") ∈ WS := mW 201 (by decide +kernel) rfl
theorem q_202 : (Jvm.Cond.fieldLink "ChairFront$Reader" (60 : Nat) "ChairFront$Rules" "hold" "I") ∈ WS := mW 202 (by decide +kernel) rfl
theorem q_203 : (Jvm.Cond.fieldLink "ChairFront$Rules" (29 : Nat) "ChairFront$Rules" "rainLines" "I") ∈ WS := mW 203 (by decide +kernel) rfl
theorem q_204 : (Jvm.Cond.fieldLink "ChairFront$Reader" (70 : Nat) "ChairFront$Rules" "rainLines" "I") ∈ WS := mW 204 (by decide +kernel) rfl
theorem q_205 : (Jvm.Cond.fieldLink "ChairFront$Rules" (32 : Nat) "ChairFront$Rules" "rentLines" "I") ∈ WS := mW 205 (by decide +kernel) rfl
theorem q_206 : (Jvm.Cond.fieldLink "ChairFront$Reader" (87 : Nat) "ChairFront$Rules" "rentLines" "I") ∈ WS := mW 206 (by decide +kernel) rfl
theorem q_207 : (Jvm.Cond.fieldLink "ChairFront$Rules" (9 : Nat) "ChairFront$Rules" "rainFrom" "[I") ∈ WS := mW 207 (by decide +kernel) rfl
theorem q_208 : (Jvm.Cond.fieldLink "ChairFront$Rules" (13 : Nat) "ChairFront$Rules" "rainPart" "[I") ∈ WS := mW 208 (by decide +kernel) rfl
theorem q_209 : (Jvm.Cond.fieldLink "ChairFront$Rules" (16 : Nat) "ChairFront$Rules" "rentEnd" "[I") ∈ WS := mW 209 (by decide +kernel) rfl
theorem q_210 : (Jvm.Cond.fieldLink "ChairFront$Rules" (19 : Nat) "ChairFront$Rules" "rentPart" "[I") ∈ WS := mW 210 (by decide +kernel) rfl
theorem q_228 : (Jvm.Cond.arrayClass Jvm.ClassFile.FieldType.int) ∈ WS := mW 228 (by decide +kernel) rfl
theorem q_229 : (Jvm.Cond.classLink "ChairFront" (46 : Nat) "ChairFront$BestWalk") ∈ WS := mW 229 (by decide +kernel) rfl
theorem q_230 : (Jvm.Cond.instantiable "ChairFront$BestWalk" (4 : Nat)) ∈ WS := mW 230 (by decide +kernel) rfl
theorem q_232 : (Jvm.Cond.instanceMethod ({ cls := "ChairFront$BestWalk", name := "<init>", desc := "()V" } : Jvm.MethodName)) ∈ WS := mW 232 (by decide +kernel) rfl
theorem q_233 : (Jvm.Cond.code ({ cls := "ChairFront$BestWalk", name := "<init>", desc := "()V" } : Jvm.MethodName) prog_3_method_1_code (1 : Nat) (Option.none : Option Jvm.ClassFile.FieldType)) ∈ WS := mW 233 (by decide +kernel) rfl
theorem q_234 : (Jvm.Cond.methodLink "ChairFront$BestWalk" (3 : Nat) ({ cls := "java/lang/Object", name := "<init>", desc := "()V" } : Jvm.MethodName)) ∈ WS := mW 234 (by decide +kernel) rfl
theorem q_235 : (Jvm.Cond.fieldLink "ChairFront$BestWalk" (11 : Nat) "ChairFront$BestWalk" "stops" "[I") ∈ WS := mW 235 (by decide +kernel) rfl
theorem q_236 : (Jvm.Cond.fieldLink "ChairFront$BestWalk" (15 : Nat) "ChairFront$BestWalk" "found" "[I") ∈ WS := mW 236 (by decide +kernel) rfl
theorem q_237 : (Jvm.Cond.fieldLink "ChairFront$BestWalk" (18 : Nat) "ChairFront$BestWalk" "mostOfLeft" "[I") ∈ WS := mW 237 (by decide +kernel) rfl
theorem q_238 : (Jvm.Cond.fieldLink "ChairFront$BestWalk" (21 : Nat) "ChairFront$BestWalk" "length" "I") ∈ WS := mW 238 (by decide +kernel) rfl
theorem q_248 : (Jvm.Cond.classLink "ChairFront" (53 : Nat) "ChairFront$Asks") ∈ WS := mW 248 (by decide +kernel) rfl
theorem q_249 : (Jvm.Cond.instantiable "ChairFront$Asks" (2 : Nat)) ∈ WS := mW 249 (by decide +kernel) rfl
theorem q_251 : (Jvm.Cond.instanceMethod ({ cls := "ChairFront$Asks", name := "<init>", desc := "()V" } : Jvm.MethodName)) ∈ WS := mW 251 (by decide +kernel) rfl
theorem q_252 : (Jvm.Cond.code ({ cls := "ChairFront$Asks", name := "<init>", desc := "()V" } : Jvm.MethodName) prog_2_method_1_code (1 : Nat) (Option.none : Option Jvm.ClassFile.FieldType)) ∈ WS := mW 252 (by decide +kernel) rfl
theorem q_253 : (Jvm.Cond.methodLink "ChairFront$Asks" (1 : Nat) ({ cls := "java/lang/Object", name := "<init>", desc := "()V" } : Jvm.MethodName)) ∈ WS := mW 253 (by decide +kernel) rfl
theorem q_254 : (Jvm.Cond.fieldLink "ChairFront$Asks" (9 : Nat) "ChairFront$Asks" "bodies" "[I") ∈ WS := mW 254 (by decide +kernel) rfl
theorem q_255 : (Jvm.Cond.fieldLink "ChairFront" (265 : Nat) "ChairFront$Asks" "bodies" "[I") ∈ WS := mW 255 (by decide +kernel) rfl
theorem q_256 : (Jvm.Cond.fieldLink "ChairFront$Asks" (58 : Nat) "ChairFront$Asks" "traced" "I") ∈ WS := mW 256 (by decide +kernel) rfl
theorem q_257 : (Jvm.Cond.fieldLink "ChairFront" (255 : Nat) "ChairFront$Asks" "traced" "I") ∈ WS := mW 257 (by decide +kernel) rfl
theorem q_263 : (Jvm.Cond.methodLink "ChairFront" (60 : Nat) ({ cls := "java/lang/Math", name := "min", desc := "(II)I" } : Jvm.MethodName)) ∈ WS := mW 263 (by decide +kernel) rfl
theorem q_264 : (Jvm.Cond.static ({ cls := "java/lang/Math", name := "min", desc := "(II)I" } : Jvm.MethodName)) ∈ WS := mW 264 (by decide +kernel) rfl
theorem q_265 : (Jvm.Cond.code ({ cls := "java/lang/Math", name := "min", desc := "(II)I" } : Jvm.MethodName) prog_13_method_69_code (2 : Nat) (Option.some Jvm.ClassFile.FieldType.int)) ∈ WS := mW 265 (by decide +kernel) rfl
theorem q_266 : (Jvm.Cond.methodLink "ChairFront" (66 : Nat) ({ cls := "java/lang/Math", name := "max", desc := "(II)I" } : Jvm.MethodName)) ∈ WS := mW 266 (by decide +kernel) rfl
theorem q_267 : (Jvm.Cond.static ({ cls := "java/lang/Math", name := "max", desc := "(II)I" } : Jvm.MethodName)) ∈ WS := mW 267 (by decide +kernel) rfl
theorem q_268 : (Jvm.Cond.code ({ cls := "java/lang/Math", name := "max", desc := "(II)I" } : Jvm.MethodName) prog_13_method_65_code (2 : Nat) (Option.some Jvm.ClassFile.FieldType.int)) ∈ WS := mW 268 (by decide +kernel) rfl
theorem q_269 : (Jvm.Cond.instantiable "ChairFront$Stretch" (7 : Nat)) ∈ WS := mW 269 (by decide +kernel) rfl
theorem q_271 : (Jvm.Cond.instanceMethod ({ cls := "ChairFront$Stretch", name := "<init>", desc := "()V" } : Jvm.MethodName)) ∈ WS := mW 271 (by decide +kernel) rfl
theorem q_272 : (Jvm.Cond.code ({ cls := "ChairFront$Stretch", name := "<init>", desc := "()V" } : Jvm.MethodName) prog_6_method_1_code (1 : Nat) (Option.none : Option Jvm.ClassFile.FieldType)) ∈ WS := mW 272 (by decide +kernel) rfl
theorem q_273 : (Jvm.Cond.methodLink "ChairFront$Stretch" (1 : Nat) ({ cls := "java/lang/Object", name := "<init>", desc := "()V" } : Jvm.MethodName)) ∈ WS := mW 273 (by decide +kernel) rfl
theorem q_274 : (Jvm.Cond.fieldLink "ChairFront" (82 : Nat) "ChairFront$Stretch" "height" "I") ∈ WS := mW 274 (by decide +kernel) rfl
theorem q_275 : (Jvm.Cond.fieldLink "ChairFront$Asks" (49 : Nat) "ChairFront$Stretch" "height" "I") ∈ WS := mW 275 (by decide +kernel) rfl
theorem q_276 : (Jvm.Cond.fieldLink "ChairFront" (85 : Nat) "ChairFront$Stretch" "zone" "I") ∈ WS := mW 276 (by decide +kernel) rfl
theorem q_277 : (Jvm.Cond.fieldLink "ChairFront$Asks" (52 : Nat) "ChairFront$Stretch" "zone" "I") ∈ WS := mW 277 (by decide +kernel) rfl
theorem q_278 : (Jvm.Cond.fieldLink "ChairFront$Stretch" (7 : Nat) "ChairFront$Stretch" "standing" "I") ∈ WS := mW 278 (by decide +kernel) rfl
theorem q_279 : (Jvm.Cond.fieldLink "ChairFront$Asks" (45 : Nat) "ChairFront$Stretch" "standing" "I") ∈ WS := mW 279 (by decide +kernel) rfl
theorem q_280 : (Jvm.Cond.fieldLink "ChairFront" (103 : Nat) "ChairFront$Stretch" "standing" "I") ∈ WS := mW 280 (by decide +kernel) rfl
theorem q_281 : (Jvm.Cond.fieldLink "ChairFront$Stretch" (13 : Nat) "ChairFront$Stretch" "hired" "I") ∈ WS := mW 281 (by decide +kernel) rfl
theorem q_282 : (Jvm.Cond.fieldLink "ChairFront" (126 : Nat) "ChairFront$Stretch" "hired" "I") ∈ WS := mW 282 (by decide +kernel) rfl
theorem q_283 : (Jvm.Cond.fieldLink "ChairFront" (110 : Nat) "ChairFront$Stretch" "wear" "I") ∈ WS := mW 283 (by decide +kernel) rfl
theorem q_284 : (Jvm.Cond.fieldLink "ChairFront$Stretch" (20 : Nat) "ChairFront$Stretch" "unpaid" "I") ∈ WS := mW 284 (by decide +kernel) rfl
theorem q_285 : (Jvm.Cond.fieldLink "ChairFront" (113 : Nat) "ChairFront$Stretch" "unpaid" "I") ∈ WS := mW 285 (by decide +kernel) rfl
theorem q_286 : (Jvm.Cond.fieldLink "ChairFront$Asks" (55 : Nat) "ChairFront$Stretch" "unpaid" "I") ∈ WS := mW 286 (by decide +kernel) rfl
theorem q_287 : (Jvm.Cond.fieldLink "ChairFront$Stretch" (26 : Nat) "ChairFront$Stretch" "going" "I") ∈ WS := mW 287 (by decide +kernel) rfl
theorem q_288 : (Jvm.Cond.fieldLink "ChairFront" (230 : Nat) "ChairFront$Stretch" "going" "I") ∈ WS := mW 288 (by decide +kernel) rfl
theorem q_304 : (Jvm.Cond.fieldLink "ChairFront" (69 : Nat) "ChairFront" "stack" "I") ∈ WS := mW 304 (by decide +kernel) rfl
theorem q_305 : (Jvm.Cond.fieldLink "ChairFront" (272 : Nat) "ChairFront" "lost" "I") ∈ WS := mW 305 (by decide +kernel) rfl
theorem q_306 : (Jvm.Cond.fieldLink "ChairFront" (116 : Nat) "ChairFront" "broken" "I") ∈ WS := mW 306 (by decide +kernel) rfl
theorem q_307 : (Jvm.Cond.fieldLink "ChairFront" (7 : Nat) "ChairFront" "price" "I") ∈ WS := mW 307 (by decide +kernel) rfl
theorem q_308 : (Jvm.Cond.fieldLink "ChairFront" (13 : Nat) "ChairFront" "stop" "I") ∈ WS := mW 308 (by decide +kernel) rfl
theorem q_309 : (Jvm.Cond.fieldLink "ChairFront" (161 : Nat) "ChairFront" "hoursGone" "I") ∈ WS := mW 309 (by decide +kernel) rfl
theorem q_310 : (Jvm.Cond.fieldLink "ChairFront" (119 : Nat) "ChairFront" "latestWind" "I") ∈ WS := mW 310 (by decide +kernel) rfl
theorem q_311 : (Jvm.Cond.fieldLink "ChairFront" (78 : Nat) "ChairFront" "stretchCount" "I") ∈ WS := mW 311 (by decide +kernel) rfl
theorem q_312 : (Jvm.Cond.fieldLink "ChairFront" (18 : Nat) "ChairFront" "stretches" "[LChairFront$Stretch;") ∈ WS := mW 312 (by decide +kernel) rfl
theorem q_313 : (Jvm.Cond.fieldLink "ChairFront" (25 : Nat) "ChairFront" "book" "LChairFront$TicketBook;") ∈ WS := mW 313 (by decide +kernel) rfl
theorem q_314 : (Jvm.Cond.fieldLink "ChairFront" (32 : Nat) "ChairFront" "reader" "LChairFront$Reader;") ∈ WS := mW 314 (by decide +kernel) rfl
theorem q_315 : (Jvm.Cond.fieldLink "ChairFront" (39 : Nat) "ChairFront" "current" "LChairFront$Rules;") ∈ WS := mW 315 (by decide +kernel) rfl
theorem q_316 : (Jvm.Cond.fieldLink "ChairFront" (43 : Nat) "ChairFront" "draft" "LChairFront$Rules;") ∈ WS := mW 316 (by decide +kernel) rfl
theorem q_317 : (Jvm.Cond.fieldLink "ChairFront" (212 : Nat) "ChairFront" "latestFault" "I") ∈ WS := mW 317 (by decide +kernel) rfl
theorem q_318 : (Jvm.Cond.fieldLink "ChairFront" (49 : Nat) "ChairFront" "bestWalk" "LChairFront$BestWalk;") ∈ WS := mW 318 (by decide +kernel) rfl
theorem q_319 : (Jvm.Cond.fieldLink "ChairFront" (56 : Nat) "ChairFront" "asks" "LChairFront$Asks;") ∈ WS := mW 319 (by decide +kernel) rfl
theorem q_353 : (Jvm.Cond.methodLink "ChairFrontLaw" (21 : Nat) ({ cls := "ChairFront", name := "stretch", desc := "(II)I" } : Jvm.MethodName)) ∈ WS := mW 353 (by decide +kernel) rfl
theorem q_354 : (Jvm.Cond.instanceMethod ({ cls := "ChairFront", name := "stretch", desc := "(II)I" } : Jvm.MethodName)) ∈ WS := mW 354 (by decide +kernel) rfl
theorem q_355 : (Jvm.Cond.selects "ChairFront" ({ cls := "ChairFront", name := "stretch", desc := "(II)I" } : Jvm.MethodName) ({ cls := "ChairFront", name := "stretch", desc := "(II)I" } : Jvm.MethodName)) ∈ WS := mW 355 (by decide +kernel) rfl
theorem q_356 : (Jvm.Cond.code ({ cls := "ChairFront", name := "stretch", desc := "(II)I" } : Jvm.MethodName) prog_1_method_2_code (4 : Nat) (Option.some Jvm.ClassFile.FieldType.int)) ∈ WS := mW 356 (by decide +kernel) rfl
theorem q_357 : (Jvm.Cond.methodLink "ChairFront" (73 : Nat) ({ cls := "ChairFront", name := "within", desc := "(III)Z" } : Jvm.MethodName)) ∈ WS := mW 357 (by decide +kernel) rfl
theorem q_358 : (Jvm.Cond.static ({ cls := "ChairFront", name := "within", desc := "(III)Z" } : Jvm.MethodName)) ∈ WS := mW 358 (by decide +kernel) rfl
theorem q_359 : (Jvm.Cond.code ({ cls := "ChairFront", name := "within", desc := "(III)Z" } : Jvm.MethodName) prog_1_method_22_code (3 : Nat) (Option.some Jvm.ClassFile.FieldType.boolean)) ∈ WS := mW 359 (by decide +kernel) rfl
theorem q_360 : (Jvm.Cond.constant "ChairFront" (77 : Nat) (-1000001 : Int32)) ∈ WS := mW 360 (by decide +kernel) rfl
theorem q_361 : (Jvm.Cond.constant "ChairFront" (81 : Nat) (-1000003 : Int32)) ∈ WS := mW 361 (by decide +kernel) rfl
theorem q_362 : (Jvm.Cond.methodLink "ChairFrontLaw" (26 : Nat) ({ cls := "ChairFront", name := "carry", desc := "(III)I" } : Jvm.MethodName)) ∈ WS := mW 362 (by decide +kernel) rfl
theorem q_363 : (Jvm.Cond.instanceMethod ({ cls := "ChairFront", name := "carry", desc := "(III)I" } : Jvm.MethodName)) ∈ WS := mW 363 (by decide +kernel) rfl
theorem q_364 : (Jvm.Cond.selects "ChairFront" ({ cls := "ChairFront", name := "carry", desc := "(III)I" } : Jvm.MethodName) ({ cls := "ChairFront", name := "carry", desc := "(III)I" } : Jvm.MethodName)) ∈ WS := mW 364 (by decide +kernel) rfl
theorem q_365 : (Jvm.Cond.code ({ cls := "ChairFront", name := "carry", desc := "(III)I" } : Jvm.MethodName) prog_1_method_3_code (4 : Nat) (Option.some Jvm.ClassFile.FieldType.int)) ∈ WS := mW 365 (by decide +kernel) rfl
theorem q_366 : (Jvm.Cond.methodLink "ChairFront" (88 : Nat) ({ cls := "ChairFront", name := "isPlace", desc := "(I)Z" } : Jvm.MethodName)) ∈ WS := mW 366 (by decide +kernel) rfl
theorem q_368 : (Jvm.Cond.instanceMethod ({ cls := "ChairFront", name := "isPlace", desc := "(I)Z" } : Jvm.MethodName)) ∈ WS := mW 368 (by decide +kernel) rfl
theorem q_369 : (Jvm.Cond.code ({ cls := "ChairFront", name := "isPlace", desc := "(I)Z" } : Jvm.MethodName) prog_1_method_24_code (2 : Nat) (Option.some Jvm.ClassFile.FieldType.boolean)) ∈ WS := mW 369 (by decide +kernel) rfl
theorem q_370 : (Jvm.Cond.constant "ChairFront" (222 : Nat) (-1000000 : Int32)) ∈ WS := mW 370 (by decide +kernel) rfl
theorem q_371 : (Jvm.Cond.methodLink "ChairFront" (100 : Nat) ({ cls := "ChairFront", name := "isStretch", desc := "(I)Z" } : Jvm.MethodName)) ∈ WS := mW 371 (by decide +kernel) rfl
theorem q_373 : (Jvm.Cond.instanceMethod ({ cls := "ChairFront", name := "isStretch", desc := "(I)Z" } : Jvm.MethodName)) ∈ WS := mW 373 (by decide +kernel) rfl
theorem q_374 : (Jvm.Cond.code ({ cls := "ChairFront", name := "isStretch", desc := "(I)Z" } : Jvm.MethodName) prog_1_method_23_code (2 : Nat) (Option.some Jvm.ClassFile.FieldType.boolean)) ∈ WS := mW 374 (by decide +kernel) rfl
theorem q_375 : (Jvm.Cond.methodLink "ChairFront" (92 : Nat) ({ cls := "ChairFront", name := "chairsToTake", desc := "(I)I" } : Jvm.MethodName)) ∈ WS := mW 375 (by decide +kernel) rfl
theorem q_377 : (Jvm.Cond.instanceMethod ({ cls := "ChairFront", name := "chairsToTake", desc := "(I)I" } : Jvm.MethodName)) ∈ WS := mW 377 (by decide +kernel) rfl
theorem q_378 : (Jvm.Cond.code ({ cls := "ChairFront", name := "chairsToTake", desc := "(I)I" } : Jvm.MethodName) prog_1_method_25_code (2 : Nat) (Option.some Jvm.ClassFile.FieldType.int)) ∈ WS := mW 378 (by decide +kernel) rfl
theorem q_379 : (Jvm.Cond.methodLink "ChairFront" (106 : Nat) ({ cls := "ChairFront$Stretch", name := "free", desc := "()I" } : Jvm.MethodName)) ∈ WS := mW 379 (by decide +kernel) rfl
theorem q_380 : (Jvm.Cond.instanceMethod ({ cls := "ChairFront$Stretch", name := "free", desc := "()I" } : Jvm.MethodName)) ∈ WS := mW 380 (by decide +kernel) rfl
theorem q_381 : (Jvm.Cond.selects "ChairFront$Stretch" ({ cls := "ChairFront$Stretch", name := "free", desc := "()I" } : Jvm.MethodName) ({ cls := "ChairFront$Stretch", name := "free", desc := "()I" } : Jvm.MethodName)) ∈ WS := mW 381 (by decide +kernel) rfl
theorem q_382 : (Jvm.Cond.code ({ cls := "ChairFront$Stretch", name := "free", desc := "()I" } : Jvm.MethodName) prog_6_method_2_code (1 : Nat) (Option.some Jvm.ClassFile.FieldType.int)) ∈ WS := mW 382 (by decide +kernel) rfl
theorem q_383 : (Jvm.Cond.constant "ChairFront" (96 : Nat) (-1000002 : Int32)) ∈ WS := mW 383 (by decide +kernel) rfl
theorem q_384 : (Jvm.Cond.methodLink "ChairFront" (97 : Nat) ({ cls := "ChairFront", name := "addChairs", desc := "(II)I" } : Jvm.MethodName)) ∈ WS := mW 384 (by decide +kernel) rfl
theorem q_386 : (Jvm.Cond.instanceMethod ({ cls := "ChairFront", name := "addChairs", desc := "(II)I" } : Jvm.MethodName)) ∈ WS := mW 386 (by decide +kernel) rfl
theorem q_387 : (Jvm.Cond.code ({ cls := "ChairFront", name := "addChairs", desc := "(II)I" } : Jvm.MethodName) prog_1_method_26_code (3 : Nat) (Option.some Jvm.ClassFile.FieldType.int)) ∈ WS := mW 387 (by decide +kernel) rfl
theorem q_388 : (Jvm.Cond.methodLink "ChairFrontLaw" (31 : Nat) ({ cls := "ChairFront", name := "told", desc := "(II)I" } : Jvm.MethodName)) ∈ WS := mW 388 (by decide +kernel) rfl
theorem q_389 : (Jvm.Cond.instanceMethod ({ cls := "ChairFront", name := "told", desc := "(II)I" } : Jvm.MethodName)) ∈ WS := mW 389 (by decide +kernel) rfl
theorem q_390 : (Jvm.Cond.selects "ChairFront" ({ cls := "ChairFront", name := "told", desc := "(II)I" } : Jvm.MethodName) ({ cls := "ChairFront", name := "told", desc := "(II)I" } : Jvm.MethodName)) ∈ WS := mW 390 (by decide +kernel) rfl
theorem q_391 : (Jvm.Cond.code ({ cls := "ChairFront", name := "told", desc := "(II)I" } : Jvm.MethodName) prog_1_method_4_code (4 : Nat) (Option.some Jvm.ClassFile.FieldType.int)) ∈ WS := mW 391 (by decide +kernel) rfl
theorem q_392 : (Jvm.Cond.methodLink "ChairFrontLaw" (35 : Nat) ({ cls := "ChairFront", name := "rule", desc := "(II)I" } : Jvm.MethodName)) ∈ WS := mW 392 (by decide +kernel) rfl
theorem q_393 : (Jvm.Cond.instanceMethod ({ cls := "ChairFront", name := "rule", desc := "(II)I" } : Jvm.MethodName)) ∈ WS := mW 393 (by decide +kernel) rfl
theorem q_394 : (Jvm.Cond.selects "ChairFront" ({ cls := "ChairFront", name := "rule", desc := "(II)I" } : Jvm.MethodName) ({ cls := "ChairFront", name := "rule", desc := "(II)I" } : Jvm.MethodName)) ∈ WS := mW 394 (by decide +kernel) rfl
theorem q_395 : (Jvm.Cond.code ({ cls := "ChairFront", name := "rule", desc := "(II)I" } : Jvm.MethodName) prog_1_method_5_code (4 : Nat) (Option.some Jvm.ClassFile.FieldType.int)) ∈ WS := mW 395 (by decide +kernel) rfl
theorem q_396 : (Jvm.Cond.methodLink "ChairFrontLaw" (39 : Nat) ({ cls := "ChairFront", name := "mend", desc := "(I)I" } : Jvm.MethodName)) ∈ WS := mW 396 (by decide +kernel) rfl
theorem q_397 : (Jvm.Cond.instanceMethod ({ cls := "ChairFront", name := "mend", desc := "(I)I" } : Jvm.MethodName)) ∈ WS := mW 397 (by decide +kernel) rfl
theorem q_398 : (Jvm.Cond.selects "ChairFront" ({ cls := "ChairFront", name := "mend", desc := "(I)I" } : Jvm.MethodName) ({ cls := "ChairFront", name := "mend", desc := "(I)I" } : Jvm.MethodName)) ∈ WS := mW 398 (by decide +kernel) rfl
theorem q_399 : (Jvm.Cond.code ({ cls := "ChairFront", name := "mend", desc := "(I)I" } : Jvm.MethodName) prog_1_method_6_code (2 : Nat) (Option.some Jvm.ClassFile.FieldType.int)) ∈ WS := mW 399 (by decide +kernel) rfl
theorem q_400 : (Jvm.Cond.methodLink "ChairFrontLaw" (44 : Nat) ({ cls := "ChairFront", name := "hire", desc := "(III)I" } : Jvm.MethodName)) ∈ WS := mW 400 (by decide +kernel) rfl
theorem q_401 : (Jvm.Cond.instanceMethod ({ cls := "ChairFront", name := "hire", desc := "(III)I" } : Jvm.MethodName)) ∈ WS := mW 401 (by decide +kernel) rfl
theorem q_402 : (Jvm.Cond.selects "ChairFront" ({ cls := "ChairFront", name := "hire", desc := "(III)I" } : Jvm.MethodName) ({ cls := "ChairFront", name := "hire", desc := "(III)I" } : Jvm.MethodName)) ∈ WS := mW 402 (by decide +kernel) rfl
theorem q_403 : (Jvm.Cond.code ({ cls := "ChairFront", name := "hire", desc := "(III)I" } : Jvm.MethodName) prog_1_method_7_code (6 : Nat) (Option.some Jvm.ClassFile.FieldType.int)) ∈ WS := mW 403 (by decide +kernel) rfl
theorem q_404 : (Jvm.Cond.methodLink "ChairFront" (122 : Nat) ({ cls := "ChairFront$TicketBook", name := "isFull", desc := "()Z" } : Jvm.MethodName)) ∈ WS := mW 404 (by decide +kernel) rfl
theorem q_405 : (Jvm.Cond.instanceMethod ({ cls := "ChairFront$TicketBook", name := "isFull", desc := "()Z" } : Jvm.MethodName)) ∈ WS := mW 405 (by decide +kernel) rfl
theorem q_406 : (Jvm.Cond.selects "ChairFront$TicketBook" ({ cls := "ChairFront$TicketBook", name := "isFull", desc := "()Z" } : Jvm.MethodName) ({ cls := "ChairFront$TicketBook", name := "isFull", desc := "()Z" } : Jvm.MethodName)) ∈ WS := mW 406 (by decide +kernel) rfl
theorem q_407 : (Jvm.Cond.code ({ cls := "ChairFront$TicketBook", name := "isFull", desc := "()Z" } : Jvm.MethodName) prog_9_method_2_code (1 : Nat) (Option.some Jvm.ClassFile.FieldType.boolean)) ∈ WS := mW 407 (by decide +kernel) rfl
theorem q_408 : (Jvm.Cond.methodLink "ChairFront" (129 : Nat) ({ cls := "ChairFront$TicketBook", name := "open", desc := "()LChairFront$Ticket;" } : Jvm.MethodName)) ∈ WS := mW 408 (by decide +kernel) rfl
theorem q_409 : (Jvm.Cond.instanceMethod ({ cls := "ChairFront$TicketBook", name := "open", desc := "()LChairFront$Ticket;" } : Jvm.MethodName)) ∈ WS := mW 409 (by decide +kernel) rfl
theorem q_410 : (Jvm.Cond.selects "ChairFront$TicketBook" ({ cls := "ChairFront$TicketBook", name := "open", desc := "()LChairFront$Ticket;" } : Jvm.MethodName) ({ cls := "ChairFront$TicketBook", name := "open", desc := "()LChairFront$Ticket;" } : Jvm.MethodName)) ∈ WS := mW 410 (by decide +kernel) rfl
theorem q_411 : (Jvm.Cond.code ({ cls := "ChairFront$TicketBook", name := "open", desc := "()LChairFront$Ticket;" } : Jvm.MethodName) prog_9_method_3_code (2 : Nat) (Option.some (Jvm.ClassFile.FieldType.object "ChairFront$Ticket"))) ∈ WS := mW 411 (by decide +kernel) rfl
theorem q_412 : (Jvm.Cond.methodLink "ChairFrontLaw" (48 : Nat) ({ cls := "ChairFront", name := "shift", desc := "(II)I" } : Jvm.MethodName)) ∈ WS := mW 412 (by decide +kernel) rfl
theorem q_413 : (Jvm.Cond.instanceMethod ({ cls := "ChairFront", name := "shift", desc := "(II)I" } : Jvm.MethodName)) ∈ WS := mW 413 (by decide +kernel) rfl
theorem q_414 : (Jvm.Cond.selects "ChairFront" ({ cls := "ChairFront", name := "shift", desc := "(II)I" } : Jvm.MethodName) ({ cls := "ChairFront", name := "shift", desc := "(II)I" } : Jvm.MethodName)) ∈ WS := mW 414 (by decide +kernel) rfl
theorem q_415 : (Jvm.Cond.code ({ cls := "ChairFront", name := "shift", desc := "(II)I" } : Jvm.MethodName) prog_1_method_8_code (5 : Nat) (Option.some Jvm.ClassFile.FieldType.int)) ∈ WS := mW 415 (by decide +kernel) rfl
theorem q_416 : (Jvm.Cond.methodLink "ChairFront" (153 : Nat) ({ cls := "ChairFront$TicketBook", name := "find", desc := "(I)LChairFront$Ticket;" } : Jvm.MethodName)) ∈ WS := mW 416 (by decide +kernel) rfl
theorem q_417 : (Jvm.Cond.instanceMethod ({ cls := "ChairFront$TicketBook", name := "find", desc := "(I)LChairFront$Ticket;" } : Jvm.MethodName)) ∈ WS := mW 417 (by decide +kernel) rfl
theorem q_418 : (Jvm.Cond.selects "ChairFront$TicketBook" ({ cls := "ChairFront$TicketBook", name := "find", desc := "(I)LChairFront$Ticket;" } : Jvm.MethodName) ({ cls := "ChairFront$TicketBook", name := "find", desc := "(I)LChairFront$Ticket;" } : Jvm.MethodName)) ∈ WS := mW 418 (by decide +kernel) rfl
theorem q_419 : (Jvm.Cond.code ({ cls := "ChairFront$TicketBook", name := "find", desc := "(I)LChairFront$Ticket;" } : Jvm.MethodName) prog_9_method_4_code (3 : Nat) (Option.some (Jvm.ClassFile.FieldType.object "ChairFront$Ticket"))) ∈ WS := mW 419 (by decide +kernel) rfl
theorem q_420 : (Jvm.Cond.methodLink "ChairFront" (157 : Nat) ({ cls := "ChairFront$Rules", name := "holdsIn", desc := "(II)Z" } : Jvm.MethodName)) ∈ WS := mW 420 (by decide +kernel) rfl
theorem q_421 : (Jvm.Cond.instanceMethod ({ cls := "ChairFront$Rules", name := "holdsIn", desc := "(II)Z" } : Jvm.MethodName)) ∈ WS := mW 421 (by decide +kernel) rfl
theorem q_422 : (Jvm.Cond.selects "ChairFront$Rules" ({ cls := "ChairFront$Rules", name := "holdsIn", desc := "(II)Z" } : Jvm.MethodName) ({ cls := "ChairFront$Rules", name := "holdsIn", desc := "(II)Z" } : Jvm.MethodName)) ∈ WS := mW 422 (by decide +kernel) rfl
theorem q_423 : (Jvm.Cond.code ({ cls := "ChairFront$Rules", name := "holdsIn", desc := "(II)Z" } : Jvm.MethodName) prog_5_method_3_code (3 : Nat) (Option.some Jvm.ClassFile.FieldType.boolean)) ∈ WS := mW 423 (by decide +kernel) rfl
theorem q_424 : (Jvm.Cond.methodLink "ChairFrontLaw" (52 : Nat) ({ cls := "ChairFront", name := "ticket", desc := "(II)I" } : Jvm.MethodName)) ∈ WS := mW 424 (by decide +kernel) rfl
theorem q_425 : (Jvm.Cond.instanceMethod ({ cls := "ChairFront", name := "ticket", desc := "(II)I" } : Jvm.MethodName)) ∈ WS := mW 425 (by decide +kernel) rfl
theorem q_426 : (Jvm.Cond.selects "ChairFront" ({ cls := "ChairFront", name := "ticket", desc := "(II)I" } : Jvm.MethodName) ({ cls := "ChairFront", name := "ticket", desc := "(II)I" } : Jvm.MethodName)) ∈ WS := mW 426 (by decide +kernel) rfl
theorem q_427 : (Jvm.Cond.code ({ cls := "ChairFront", name := "ticket", desc := "(II)I" } : Jvm.MethodName) prog_1_method_9_code (4 : Nat) (Option.some Jvm.ClassFile.FieldType.int)) ∈ WS := mW 427 (by decide +kernel) rfl
theorem q_428 : (Jvm.Cond.methodLink "ChairFrontLaw" (56 : Nat) ({ cls := "ChairFront", name := "hour", desc := "(IIII)I" } : Jvm.MethodName)) ∈ WS := mW 428 (by decide +kernel) rfl
theorem q_429 : (Jvm.Cond.instanceMethod ({ cls := "ChairFront", name := "hour", desc := "(IIII)I" } : Jvm.MethodName)) ∈ WS := mW 429 (by decide +kernel) rfl
theorem q_430 : (Jvm.Cond.selects "ChairFront" ({ cls := "ChairFront", name := "hour", desc := "(IIII)I" } : Jvm.MethodName) ({ cls := "ChairFront", name := "hour", desc := "(IIII)I" } : Jvm.MethodName)) ∈ WS := mW 430 (by decide +kernel) rfl
theorem q_431 : (Jvm.Cond.code ({ cls := "ChairFront", name := "hour", desc := "(IIII)I" } : Jvm.MethodName) prog_1_method_10_code (5 : Nat) (Option.some Jvm.ClassFile.FieldType.int)) ∈ WS := mW 431 (by decide +kernel) rfl
theorem q_432 : (Jvm.Cond.methodLink "ChairFront" (164 : Nat) ({ cls := "ChairFront", name := "takeByTide", desc := "(I)V" } : Jvm.MethodName)) ∈ WS := mW 432 (by decide +kernel) rfl
theorem q_434 : (Jvm.Cond.instanceMethod ({ cls := "ChairFront", name := "takeByTide", desc := "(I)V" } : Jvm.MethodName)) ∈ WS := mW 434 (by decide +kernel) rfl
theorem q_435 : (Jvm.Cond.code ({ cls := "ChairFront", name := "takeByTide", desc := "(I)V" } : Jvm.MethodName) prog_1_method_28_code (4 : Nat) (Option.none : Option Jvm.ClassFile.FieldType)) ∈ WS := mW 435 (by decide +kernel) rfl
theorem q_436 : (Jvm.Cond.methodLink "ChairFront" (282 : Nat) ({ cls := "ChairFront", name := "endTicket", desc := "(LChairFront$Ticket;)V" } : Jvm.MethodName)) ∈ WS := mW 436 (by decide +kernel) rfl
theorem q_438 : (Jvm.Cond.instanceMethod ({ cls := "ChairFront", name := "endTicket", desc := "(LChairFront$Ticket;)V" } : Jvm.MethodName)) ∈ WS := mW 438 (by decide +kernel) rfl
theorem q_439 : (Jvm.Cond.code ({ cls := "ChairFront", name := "endTicket", desc := "(LChairFront$Ticket;)V" } : Jvm.MethodName) prog_1_method_34_code (2 : Nat) (Option.none : Option Jvm.ClassFile.FieldType)) ∈ WS := mW 439 (by decide +kernel) rfl
theorem q_440 : (Jvm.Cond.methodLink "ChairFront" (168 : Nat) ({ cls := "ChairFront", name := "endAllByWind", desc := "()V" } : Jvm.MethodName)) ∈ WS := mW 440 (by decide +kernel) rfl
theorem q_442 : (Jvm.Cond.instanceMethod ({ cls := "ChairFront", name := "endAllByWind", desc := "()V" } : Jvm.MethodName)) ∈ WS := mW 442 (by decide +kernel) rfl
theorem q_443 : (Jvm.Cond.code ({ cls := "ChairFront", name := "endAllByWind", desc := "()V" } : Jvm.MethodName) prog_1_method_29_code (3 : Nat) (Option.none : Option Jvm.ClassFile.FieldType)) ∈ WS := mW 443 (by decide +kernel) rfl
theorem q_444 : (Jvm.Cond.methodLink "ChairFront" (171 : Nat) ({ cls := "ChairFront", name := "payBackRain", desc := "(I)V" } : Jvm.MethodName)) ∈ WS := mW 444 (by decide +kernel) rfl
theorem q_446 : (Jvm.Cond.instanceMethod ({ cls := "ChairFront", name := "payBackRain", desc := "(I)V" } : Jvm.MethodName)) ∈ WS := mW 446 (by decide +kernel) rfl
theorem q_447 : (Jvm.Cond.code ({ cls := "ChairFront", name := "payBackRain", desc := "(I)V" } : Jvm.MethodName) prog_1_method_30_code (5 : Nat) (Option.none : Option Jvm.ClassFile.FieldType)) ∈ WS := mW 447 (by decide +kernel) rfl
theorem q_448 : (Jvm.Cond.methodLink "ChairFront" (286 : Nat) ({ cls := "ChairFront$Rules", name := "partOfRain", desc := "(I)I" } : Jvm.MethodName)) ∈ WS := mW 448 (by decide +kernel) rfl
theorem q_449 : (Jvm.Cond.instanceMethod ({ cls := "ChairFront$Rules", name := "partOfRain", desc := "(I)I" } : Jvm.MethodName)) ∈ WS := mW 449 (by decide +kernel) rfl
theorem q_450 : (Jvm.Cond.selects "ChairFront$Rules" ({ cls := "ChairFront$Rules", name := "partOfRain", desc := "(I)I" } : Jvm.MethodName) ({ cls := "ChairFront$Rules", name := "partOfRain", desc := "(I)I" } : Jvm.MethodName)) ∈ WS := mW 450 (by decide +kernel) rfl
theorem q_451 : (Jvm.Cond.code ({ cls := "ChairFront$Rules", name := "partOfRain", desc := "(I)I" } : Jvm.MethodName) prog_5_method_7_code (3 : Nat) (Option.some Jvm.ClassFile.FieldType.int)) ∈ WS := mW 451 (by decide +kernel) rfl
theorem q_452 : (Jvm.Cond.methodLink "ChairFront" (174 : Nat) ({ cls := "ChairFront", name := "wearAll", desc := "(I)V" } : Jvm.MethodName)) ∈ WS := mW 452 (by decide +kernel) rfl
theorem q_454 : (Jvm.Cond.instanceMethod ({ cls := "ChairFront", name := "wearAll", desc := "(I)V" } : Jvm.MethodName)) ∈ WS := mW 454 (by decide +kernel) rfl
theorem q_455 : (Jvm.Cond.code ({ cls := "ChairFront", name := "wearAll", desc := "(I)V" } : Jvm.MethodName) prog_1_method_31_code (6 : Nat) (Option.none : Option Jvm.ClassFile.FieldType)) ∈ WS := mW 455 (by decide +kernel) rfl
theorem q_456 : (Jvm.Cond.methodLink "ChairFront" (289 : Nat) ({ cls := "ChairFront", name := "breakChair", desc := "(I)V" } : Jvm.MethodName)) ∈ WS := mW 456 (by decide +kernel) rfl
theorem q_458 : (Jvm.Cond.instanceMethod ({ cls := "ChairFront", name := "breakChair", desc := "(I)V" } : Jvm.MethodName)) ∈ WS := mW 458 (by decide +kernel) rfl
theorem q_459 : (Jvm.Cond.code ({ cls := "ChairFront", name := "breakChair", desc := "(I)V" } : Jvm.MethodName) prog_1_method_32_code (4 : Nat) (Option.none : Option Jvm.ClassFile.FieldType)) ∈ WS := mW 459 (by decide +kernel) rfl
theorem q_460 : (Jvm.Cond.methodLink "ChairFront" (292 : Nat) ({ cls := "ChairFront$TicketBook", name := "latestAt", desc := "(I)LChairFront$Ticket;" } : Jvm.MethodName)) ∈ WS := mW 460 (by decide +kernel) rfl
theorem q_461 : (Jvm.Cond.instanceMethod ({ cls := "ChairFront$TicketBook", name := "latestAt", desc := "(I)LChairFront$Ticket;" } : Jvm.MethodName)) ∈ WS := mW 461 (by decide +kernel) rfl
theorem q_462 : (Jvm.Cond.selects "ChairFront$TicketBook" ({ cls := "ChairFront$TicketBook", name := "latestAt", desc := "(I)LChairFront$Ticket;" } : Jvm.MethodName) ({ cls := "ChairFront$TicketBook", name := "latestAt", desc := "(I)LChairFront$Ticket;" } : Jvm.MethodName)) ∈ WS := mW 462 (by decide +kernel) rfl
theorem q_463 : (Jvm.Cond.code ({ cls := "ChairFront$TicketBook", name := "latestAt", desc := "(I)LChairFront$Ticket;" } : Jvm.MethodName) prog_9_method_5_code (3 : Nat) (Option.some (Jvm.ClassFile.FieldType.object "ChairFront$Ticket"))) ∈ WS := mW 463 (by decide +kernel) rfl
theorem q_464 : (Jvm.Cond.methodLink "ChairFront" (177 : Nat) ({ cls := "ChairFront", name := "passAnHour", desc := "()V" } : Jvm.MethodName)) ∈ WS := mW 464 (by decide +kernel) rfl
theorem q_466 : (Jvm.Cond.instanceMethod ({ cls := "ChairFront", name := "passAnHour", desc := "()V" } : Jvm.MethodName)) ∈ WS := mW 466 (by decide +kernel) rfl
theorem q_467 : (Jvm.Cond.code ({ cls := "ChairFront", name := "passAnHour", desc := "()V" } : Jvm.MethodName) prog_1_method_33_code (3 : Nat) (Option.none : Option Jvm.ClassFile.FieldType)) ∈ WS := mW 467 (by decide +kernel) rfl
theorem q_468 : (Jvm.Cond.methodLink "ChairFront" (180 : Nat) ({ cls := "ChairFront$TicketBook", name := "dropEnded", desc := "()V" } : Jvm.MethodName)) ∈ WS := mW 468 (by decide +kernel) rfl
theorem q_469 : (Jvm.Cond.instanceMethod ({ cls := "ChairFront$TicketBook", name := "dropEnded", desc := "()V" } : Jvm.MethodName)) ∈ WS := mW 469 (by decide +kernel) rfl
theorem q_470 : (Jvm.Cond.selects "ChairFront$TicketBook" ({ cls := "ChairFront$TicketBook", name := "dropEnded", desc := "()V" } : Jvm.MethodName) ({ cls := "ChairFront$TicketBook", name := "dropEnded", desc := "()V" } : Jvm.MethodName)) ∈ WS := mW 470 (by decide +kernel) rfl
theorem q_471 : (Jvm.Cond.code ({ cls := "ChairFront$TicketBook", name := "dropEnded", desc := "()V" } : Jvm.MethodName) prog_9_method_6_code (4 : Nat) (Option.none : Option Jvm.ClassFile.FieldType)) ∈ WS := mW 471 (by decide +kernel) rfl
theorem q_472 : (Jvm.Cond.methodLink "ChairFrontLaw" (63 : Nat) ({ cls := "ChairFront", name := "feed", desc := "(JI)I" } : Jvm.MethodName)) ∈ WS := mW 472 (by decide +kernel) rfl
theorem q_473 : (Jvm.Cond.instanceMethod ({ cls := "ChairFront", name := "feed", desc := "(JI)I" } : Jvm.MethodName)) ∈ WS := mW 473 (by decide +kernel) rfl
theorem q_474 : (Jvm.Cond.selects "ChairFront" ({ cls := "ChairFront", name := "feed", desc := "(JI)I" } : Jvm.MethodName) ({ cls := "ChairFront", name := "feed", desc := "(JI)I" } : Jvm.MethodName)) ∈ WS := mW 474 (by decide +kernel) rfl
theorem q_475 : (Jvm.Cond.code ({ cls := "ChairFront", name := "feed", desc := "(JI)I" } : Jvm.MethodName) prog_1_method_11_code (4 : Nat) (Option.some Jvm.ClassFile.FieldType.int)) ∈ WS := mW 475 (by decide +kernel) rfl
theorem q_476 : (Jvm.Cond.methodLink "ChairFront" (190 : Nat) ({ cls := "ChairFront$Tape", name := "hasRoomFor", desc := "(I)Z" } : Jvm.MethodName)) ∈ WS := mW 476 (by decide +kernel) rfl
theorem q_477 : (Jvm.Cond.instanceMethod ({ cls := "ChairFront$Tape", name := "hasRoomFor", desc := "(I)Z" } : Jvm.MethodName)) ∈ WS := mW 477 (by decide +kernel) rfl
theorem q_478 : (Jvm.Cond.selects "ChairFront$Tape" ({ cls := "ChairFront$Tape", name := "hasRoomFor", desc := "(I)Z" } : Jvm.MethodName) ({ cls := "ChairFront$Tape", name := "hasRoomFor", desc := "(I)Z" } : Jvm.MethodName)) ∈ WS := mW 478 (by decide +kernel) rfl
theorem q_479 : (Jvm.Cond.code ({ cls := "ChairFront$Tape", name := "hasRoomFor", desc := "(I)Z" } : Jvm.MethodName) prog_7_method_2_code (2 : Nat) (Option.some Jvm.ClassFile.FieldType.boolean)) ∈ WS := mW 479 (by decide +kernel) rfl
theorem q_480 : (Jvm.Cond.methodLink "ChairFront" (195 : Nat) ({ cls := "ChairFront$Tape", name := "append", desc := "(JI)V" } : Jvm.MethodName)) ∈ WS := mW 480 (by decide +kernel) rfl
theorem q_481 : (Jvm.Cond.instanceMethod ({ cls := "ChairFront$Tape", name := "append", desc := "(JI)V" } : Jvm.MethodName)) ∈ WS := mW 481 (by decide +kernel) rfl
theorem q_482 : (Jvm.Cond.selects "ChairFront$Tape" ({ cls := "ChairFront$Tape", name := "append", desc := "(JI)V" } : Jvm.MethodName) ({ cls := "ChairFront$Tape", name := "append", desc := "(JI)V" } : Jvm.MethodName)) ∈ WS := mW 482 (by decide +kernel) rfl
theorem q_483 : (Jvm.Cond.code ({ cls := "ChairFront$Tape", name := "append", desc := "(JI)V" } : Jvm.MethodName) prog_7_method_3_code (5 : Nat) (Option.none : Option Jvm.ClassFile.FieldType)) ∈ WS := mW 483 (by decide +kernel) rfl
theorem q_484 : (Jvm.Cond.methodLink "ChairFrontLaw" (68 : Nat) ({ cls := "ChairFront", name := "rules", desc := "()I" } : Jvm.MethodName)) ∈ WS := mW 484 (by decide +kernel) rfl
theorem q_485 : (Jvm.Cond.instanceMethod ({ cls := "ChairFront", name := "rules", desc := "()I" } : Jvm.MethodName)) ∈ WS := mW 485 (by decide +kernel) rfl
theorem q_486 : (Jvm.Cond.selects "ChairFront" ({ cls := "ChairFront", name := "rules", desc := "()I" } : Jvm.MethodName) ({ cls := "ChairFront", name := "rules", desc := "()I" } : Jvm.MethodName)) ∈ WS := mW 486 (by decide +kernel) rfl
theorem q_487 : (Jvm.Cond.code ({ cls := "ChairFront", name := "rules", desc := "()I" } : Jvm.MethodName) prog_1_method_12_code (3 : Nat) (Option.some Jvm.ClassFile.FieldType.int)) ∈ WS := mW 487 (by decide +kernel) rfl
theorem q_488 : (Jvm.Cond.methodLink "ChairFront" (202 : Nat) ({ cls := "ChairFront$Rules", name := "clear", desc := "()V" } : Jvm.MethodName)) ∈ WS := mW 488 (by decide +kernel) rfl
theorem q_489 : (Jvm.Cond.instanceMethod ({ cls := "ChairFront$Rules", name := "clear", desc := "()V" } : Jvm.MethodName)) ∈ WS := mW 489 (by decide +kernel) rfl
theorem q_490 : (Jvm.Cond.selects "ChairFront$Rules" ({ cls := "ChairFront$Rules", name := "clear", desc := "()V" } : Jvm.MethodName) ({ cls := "ChairFront$Rules", name := "clear", desc := "()V" } : Jvm.MethodName)) ∈ WS := mW 490 (by decide +kernel) rfl
theorem q_491 : (Jvm.Cond.code ({ cls := "ChairFront$Rules", name := "clear", desc := "()V" } : Jvm.MethodName) prog_5_method_2_code (1 : Nat) (Option.none : Option Jvm.ClassFile.FieldType)) ∈ WS := mW 491 (by decide +kernel) rfl
theorem q_492 : (Jvm.Cond.methodLink "ChairFront" (205 : Nat) ({ cls := "ChairFront$Reader", name := "readInto", desc := "(LChairFront$Rules;)Z" } : Jvm.MethodName)) ∈ WS := mW 492 (by decide +kernel) rfl
theorem q_493 : (Jvm.Cond.instanceMethod ({ cls := "ChairFront$Reader", name := "readInto", desc := "(LChairFront$Rules;)Z" } : Jvm.MethodName)) ∈ WS := mW 493 (by decide +kernel) rfl
theorem q_494 : (Jvm.Cond.selects "ChairFront$Reader" ({ cls := "ChairFront$Reader", name := "readInto", desc := "(LChairFront$Rules;)Z" } : Jvm.MethodName) ({ cls := "ChairFront$Reader", name := "readInto", desc := "(LChairFront$Rules;)Z" } : Jvm.MethodName)) ∈ WS := mW 494 (by decide +kernel) rfl
theorem q_495 : (Jvm.Cond.code ({ cls := "ChairFront$Reader", name := "readInto", desc := "(LChairFront$Rules;)Z" } : Jvm.MethodName) prog_4_method_2_code (3 : Nat) (Option.some Jvm.ClassFile.FieldType.boolean)) ∈ WS := mW 495 (by decide +kernel) rfl
theorem q_496 : (Jvm.Cond.methodLink "ChairFront$Reader" (20 : Nat) ({ cls := "ChairFront$Reader", name := "advance", desc := "()V" } : Jvm.MethodName)) ∈ WS := mW 496 (by decide +kernel) rfl
theorem q_498 : (Jvm.Cond.instanceMethod ({ cls := "ChairFront$Reader", name := "advance", desc := "()V" } : Jvm.MethodName)) ∈ WS := mW 498 (by decide +kernel) rfl
theorem q_499 : (Jvm.Cond.code ({ cls := "ChairFront$Reader", name := "advance", desc := "()V" } : Jvm.MethodName) prog_4_method_12_code (2 : Nat) (Option.none : Option Jvm.ClassFile.FieldType)) ∈ WS := mW 499 (by decide +kernel) rfl
theorem q_500 : (Jvm.Cond.methodLink "ChairFront$Reader" (133 : Nat) ({ cls := "ChairFront$Reader", name := "skipBlanks", desc := "()V" } : Jvm.MethodName)) ∈ WS := mW 500 (by decide +kernel) rfl
theorem q_502 : (Jvm.Cond.instanceMethod ({ cls := "ChairFront$Reader", name := "skipBlanks", desc := "()V" } : Jvm.MethodName)) ∈ WS := mW 502 (by decide +kernel) rfl
theorem q_503 : (Jvm.Cond.code ({ cls := "ChairFront$Reader", name := "skipBlanks", desc := "()V" } : Jvm.MethodName) prog_4_method_13_code (1 : Nat) (Option.none : Option Jvm.ClassFile.FieldType)) ∈ WS := mW 503 (by decide +kernel) rfl
theorem q_504 : (Jvm.Cond.methodLink "ChairFront$Reader" (125 : Nat) ({ cls := "ChairFront$Tape", name := "at", desc := "(I)I" } : Jvm.MethodName)) ∈ WS := mW 504 (by decide +kernel) rfl
theorem q_505 : (Jvm.Cond.instanceMethod ({ cls := "ChairFront$Tape", name := "at", desc := "(I)I" } : Jvm.MethodName)) ∈ WS := mW 505 (by decide +kernel) rfl
theorem q_506 : (Jvm.Cond.selects "ChairFront$Tape" ({ cls := "ChairFront$Tape", name := "at", desc := "(I)I" } : Jvm.MethodName) ({ cls := "ChairFront$Tape", name := "at", desc := "(I)I" } : Jvm.MethodName)) ∈ WS := mW 506 (by decide +kernel) rfl
theorem q_507 : (Jvm.Cond.code ({ cls := "ChairFront$Tape", name := "at", desc := "(I)I" } : Jvm.MethodName) prog_7_method_4_code (2 : Nat) (Option.some Jvm.ClassFile.FieldType.int)) ∈ WS := mW 507 (by decide +kernel) rfl
theorem q_508 : (Jvm.Cond.methodLink "ChairFront$Reader" (150 : Nat) ({ cls := "ChairFront$Reader", name := "isBlank", desc := "(I)Z" } : Jvm.MethodName)) ∈ WS := mW 508 (by decide +kernel) rfl
theorem q_509 : (Jvm.Cond.static ({ cls := "ChairFront$Reader", name := "isBlank", desc := "(I)Z" } : Jvm.MethodName)) ∈ WS := mW 509 (by decide +kernel) rfl
theorem q_510 : (Jvm.Cond.code ({ cls := "ChairFront$Reader", name := "isBlank", desc := "(I)Z" } : Jvm.MethodName) prog_4_method_16_code (1 : Nat) (Option.some Jvm.ClassFile.FieldType.boolean)) ∈ WS := mW 510 (by decide +kernel) rfl
theorem q_511 : (Jvm.Cond.methodLink "ChairFront$Reader" (136 : Nat) ({ cls := "ChairFront$Reader", name := "isLetter", desc := "(I)Z" } : Jvm.MethodName)) ∈ WS := mW 511 (by decide +kernel) rfl
theorem q_512 : (Jvm.Cond.static ({ cls := "ChairFront$Reader", name := "isLetter", desc := "(I)Z" } : Jvm.MethodName)) ∈ WS := mW 512 (by decide +kernel) rfl
theorem q_513 : (Jvm.Cond.code ({ cls := "ChairFront$Reader", name := "isLetter", desc := "(I)Z" } : Jvm.MethodName) prog_4_method_17_code (1 : Nat) (Option.some Jvm.ClassFile.FieldType.boolean)) ∈ WS := mW 513 (by decide +kernel) rfl
theorem q_515 : (Jvm.Cond.methodLink "ChairFront$Reader" (139 : Nat) ({ cls := "ChairFront$Reader", name := "passName", desc := "()V" } : Jvm.MethodName)) ∈ WS := mW 515 (by decide +kernel) rfl
theorem q_517 : (Jvm.Cond.instanceMethod ({ cls := "ChairFront$Reader", name := "passName", desc := "()V" } : Jvm.MethodName)) ∈ WS := mW 517 (by decide +kernel) rfl
theorem q_518 : (Jvm.Cond.code ({ cls := "ChairFront$Reader", name := "passName", desc := "()V" } : Jvm.MethodName) prog_4_method_14_code (1 : Nat) (Option.none : Option Jvm.ClassFile.FieldType)) ∈ WS := mW 518 (by decide +kernel) rfl
theorem q_519 : (Jvm.Cond.methodLink "ChairFront$Reader" (142 : Nat) ({ cls := "ChairFront$Reader", name := "isFigure", desc := "(I)Z" } : Jvm.MethodName)) ∈ WS := mW 519 (by decide +kernel) rfl
theorem q_520 : (Jvm.Cond.static ({ cls := "ChairFront$Reader", name := "isFigure", desc := "(I)Z" } : Jvm.MethodName)) ∈ WS := mW 520 (by decide +kernel) rfl
theorem q_521 : (Jvm.Cond.code ({ cls := "ChairFront$Reader", name := "isFigure", desc := "(I)Z" } : Jvm.MethodName) prog_4_method_18_code (1 : Nat) (Option.some Jvm.ClassFile.FieldType.boolean)) ∈ WS := mW 521 (by decide +kernel) rfl
theorem q_522 : (Jvm.Cond.methodLink "ChairFront$Reader" (145 : Nat) ({ cls := "ChairFront$Reader", name := "passNumber", desc := "()V" } : Jvm.MethodName)) ∈ WS := mW 522 (by decide +kernel) rfl
theorem q_524 : (Jvm.Cond.instanceMethod ({ cls := "ChairFront$Reader", name := "passNumber", desc := "()V" } : Jvm.MethodName)) ∈ WS := mW 524 (by decide +kernel) rfl
theorem q_525 : (Jvm.Cond.code ({ cls := "ChairFront$Reader", name := "passNumber", desc := "()V" } : Jvm.MethodName) prog_4_method_15_code (1 : Nat) (Option.none : Option Jvm.ClassFile.FieldType)) ∈ WS := mW 525 (by decide +kernel) rfl
theorem q_526 : (Jvm.Cond.methodLink "ChairFront$Reader" (26 : Nat) ({ cls := "ChairFront$Reader", name := "readLine", desc := "(LChairFront$Rules;)Z" } : Jvm.MethodName)) ∈ WS := mW 526 (by decide +kernel) rfl
theorem q_528 : (Jvm.Cond.instanceMethod ({ cls := "ChairFront$Reader", name := "readLine", desc := "(LChairFront$Rules;)Z" } : Jvm.MethodName)) ∈ WS := mW 528 (by decide +kernel) rfl
theorem q_529 : (Jvm.Cond.code ({ cls := "ChairFront$Reader", name := "readLine", desc := "(LChairFront$Rules;)Z" } : Jvm.MethodName) prog_4_method_3_code (2 : Nat) (Option.some Jvm.ClassFile.FieldType.boolean)) ∈ WS := mW 529 (by decide +kernel) rfl
theorem q_531 : (Jvm.Cond.methodLink "ChairFront$Reader" (37 : Nat) ({ cls := "ChairFront$Reader", name := "isWord", desc := "(Ljava/lang/String;)Z" } : Jvm.MethodName)) ∈ WS := mW 531 (by decide +kernel) rfl
theorem q_533 : (Jvm.Cond.instanceMethod ({ cls := "ChairFront$Reader", name := "isWord", desc := "(Ljava/lang/String;)Z" } : Jvm.MethodName)) ∈ WS := mW 533 (by decide +kernel) rfl
theorem q_534 : (Jvm.Cond.code ({ cls := "ChairFront$Reader", name := "isWord", desc := "(Ljava/lang/String;)Z" } : Jvm.MethodName) prog_4_method_11_code (3 : Nat) (Option.some Jvm.ClassFile.FieldType.boolean)) ∈ WS := mW 534 (by decide +kernel) rfl
theorem q_535 : (Jvm.Cond.methodLink "ChairFront$Reader" (120 : Nat) ({ cls := "java/lang/String", name := "length", desc := "()I" } : Jvm.MethodName)) ∈ WS := mW 535 (by decide +kernel) rfl
theorem q_536 : (Jvm.Cond.instanceMethod ({ cls := "java/lang/String", name := "length", desc := "()I" } : Jvm.MethodName)) ∈ WS := mW 536 (by decide +kernel) rfl
theorem q_537 : (Jvm.Cond.selects "java/lang/String" ({ cls := "java/lang/String", name := "length", desc := "()I" } : Jvm.MethodName) ({ cls := "java/lang/String", name := "length", desc := "()I" } : Jvm.MethodName)) ∈ WS := mW 537 (by decide +kernel) rfl
theorem q_538 : (Jvm.Cond.code ({ cls := "java/lang/String", name := "length", desc := "()I" } : Jvm.MethodName) prog_14_method_54_code (1 : Nat) (Option.some Jvm.ClassFile.FieldType.int)) ∈ WS := mW 538 (by decide +kernel) rfl
theorem q_539 : (Jvm.Cond.methodLink "java/lang/String" (335 : Nat) ({ cls := "java/lang/String", name := "coder", desc := "()B" } : Jvm.MethodName)) ∈ WS := mW 539 (by decide +kernel) rfl
theorem q_540 : (Jvm.Cond.instanceMethod ({ cls := "java/lang/String", name := "coder", desc := "()B" } : Jvm.MethodName)) ∈ WS := mW 540 (by decide +kernel) rfl
theorem q_541 : (Jvm.Cond.selects "java/lang/String" ({ cls := "java/lang/String", name := "coder", desc := "()B" } : Jvm.MethodName) ({ cls := "java/lang/String", name := "coder", desc := "()B" } : Jvm.MethodName)) ∈ WS := mW 541 (by decide +kernel) rfl
theorem q_542 : (Jvm.Cond.code ({ cls := "java/lang/String", name := "coder", desc := "()B" } : Jvm.MethodName) prog_14_method_152_code (1 : Nat) (Option.some Jvm.ClassFile.FieldType.byte)) ∈ WS := mW 542 (by decide +kernel) rfl
theorem q_543 : (Jvm.Cond.fieldLink "java/lang/String" (38 : Nat) "java/lang/String" "COMPACT_STRINGS" "Z") ∈ WS := mW 543 (by decide +kernel) rfl
theorem q_545 : (Jvm.Cond.methodLink "ChairFront$Reader" (129 : Nat) ({ cls := "java/lang/String", name := "charAt", desc := "(I)C" } : Jvm.MethodName)) ∈ WS := mW 545 (by decide +kernel) rfl
theorem q_546 : (Jvm.Cond.instanceMethod ({ cls := "java/lang/String", name := "charAt", desc := "(I)C" } : Jvm.MethodName)) ∈ WS := mW 546 (by decide +kernel) rfl
theorem q_547 : (Jvm.Cond.selects "java/lang/String" ({ cls := "java/lang/String", name := "charAt", desc := "(I)C" } : Jvm.MethodName) ({ cls := "java/lang/String", name := "charAt", desc := "(I)C" } : Jvm.MethodName)) ∈ WS := mW 547 (by decide +kernel) rfl
theorem q_548 : (Jvm.Cond.code ({ cls := "java/lang/String", name := "charAt", desc := "(I)C" } : Jvm.MethodName) prog_14_method_56_code (2 : Nat) (Option.some Jvm.ClassFile.FieldType.char)) ∈ WS := mW 548 (by decide +kernel) rfl
theorem q_549 : (Jvm.Cond.methodLink "java/lang/String" (492 : Nat) ({ cls := "java/lang/String", name := "isLatin1", desc := "()Z" } : Jvm.MethodName)) ∈ WS := mW 549 (by decide +kernel) rfl
theorem q_550 : (Jvm.Cond.instanceMethod ({ cls := "java/lang/String", name := "isLatin1", desc := "()Z" } : Jvm.MethodName)) ∈ WS := mW 550 (by decide +kernel) rfl
theorem q_551 : (Jvm.Cond.selects "java/lang/String" ({ cls := "java/lang/String", name := "isLatin1", desc := "()Z" } : Jvm.MethodName) ({ cls := "java/lang/String", name := "isLatin1", desc := "()Z" } : Jvm.MethodName)) ∈ WS := mW 551 (by decide +kernel) rfl
theorem q_552 : (Jvm.Cond.code ({ cls := "java/lang/String", name := "isLatin1", desc := "()Z" } : Jvm.MethodName) prog_14_method_154_code (1 : Nat) (Option.some Jvm.ClassFile.FieldType.boolean)) ∈ WS := mW 552 (by decide +kernel) rfl
theorem q_553 : (Jvm.Cond.methodLink "java/lang/String" (495 : Nat) ({ cls := "java/lang/StringLatin1", name := "charAt", desc := "([BI)C" } : Jvm.MethodName)) ∈ WS := mW 553 (by decide +kernel) rfl
theorem q_554 : (Jvm.Cond.static ({ cls := "java/lang/StringLatin1", name := "charAt", desc := "([BI)C" } : Jvm.MethodName)) ∈ WS := mW 554 (by decide +kernel) rfl
theorem q_555 : (Jvm.Cond.code ({ cls := "java/lang/StringLatin1", name := "charAt", desc := "([BI)C" } : Jvm.MethodName) prog_15_method_2_code (2 : Nat) (Option.some Jvm.ClassFile.FieldType.char)) ∈ WS := mW 555 (by decide +kernel) rfl
theorem q_556 : (Jvm.Cond.methodLink "java/lang/StringLatin1" (9 : Nat) ({ cls := "java/lang/String", name := "checkIndex", desc := "(II)V" } : Jvm.MethodName)) ∈ WS := mW 556 (by decide +kernel) rfl
theorem q_557 : (Jvm.Cond.static ({ cls := "java/lang/String", name := "checkIndex", desc := "(II)V" } : Jvm.MethodName)) ∈ WS := mW 557 (by decide +kernel) rfl
theorem q_558 : (Jvm.Cond.code ({ cls := "java/lang/String", name := "checkIndex", desc := "(II)V" } : Jvm.MethodName) prog_14_method_155_code (2 : Nat) (Option.none : Option Jvm.ClassFile.FieldType)) ∈ WS := mW 558 (by decide +kernel) rfl
theorem q_559 : (Jvm.Cond.fieldLink "java/lang/String" (1053 : Nat) "jdk/internal/util/Preconditions" "SIOOBE_FORMATTER" "Ljava/util/function/BiFunction;") ∈ WS := mW 559 (by decide +kernel) rfl
theorem q_561 : (Jvm.Cond.methodLink "java/lang/String" (1059 : Nat) ({ cls := "jdk/internal/util/Preconditions", name := "checkIndex", desc := "(IILjava/util/function/BiFunction;)I" } : Jvm.MethodName)) ∈ WS := mW 561 (by decide +kernel) rfl
theorem q_562 : (Jvm.Cond.static ({ cls := "jdk/internal/util/Preconditions", name := "checkIndex", desc := "(IILjava/util/function/BiFunction;)I" } : Jvm.MethodName)) ∈ WS := mW 562 (by decide +kernel) rfl
theorem q_563 : (Jvm.Cond.code ({ cls := "jdk/internal/util/Preconditions", name := "checkIndex", desc := "(IILjava/util/function/BiFunction;)I" } : Jvm.MethodName) prog_17_method_11_code (3 : Nat) (Option.some Jvm.ClassFile.FieldType.int)) ∈ WS := mW 563 (by decide +kernel) rfl
theorem q_564 : (Jvm.Cond.methodLink "java/lang/String" (498 : Nat) ({ cls := "java/lang/StringUTF16", name := "charAt", desc := "([BI)C" } : Jvm.MethodName)) ∈ WS := mW 564 (by decide +kernel) rfl
theorem q_565 : (Jvm.Cond.static ({ cls := "java/lang/StringUTF16", name := "charAt", desc := "([BI)C" } : Jvm.MethodName)) ∈ WS := mW 565 (by decide +kernel) rfl
theorem q_566 : (Jvm.Cond.code ({ cls := "java/lang/StringUTF16", name := "charAt", desc := "([BI)C" } : Jvm.MethodName) prog_16_method_83_code (2 : Nat) (Option.some Jvm.ClassFile.FieldType.char)) ∈ WS := mW 566 (by decide +kernel) rfl
theorem q_567 : (Jvm.Cond.methodLink "java/lang/StringUTF16" (67 : Nat) ({ cls := "java/lang/StringUTF16", name := "checkIndex", desc := "(I[B)V" } : Jvm.MethodName)) ∈ WS := mW 567 (by decide +kernel) rfl
theorem q_568 : (Jvm.Cond.static ({ cls := "java/lang/StringUTF16", name := "checkIndex", desc := "(I[B)V" } : Jvm.MethodName)) ∈ WS := mW 568 (by decide +kernel) rfl
theorem q_569 : (Jvm.Cond.code ({ cls := "java/lang/StringUTF16", name := "checkIndex", desc := "(I[B)V" } : Jvm.MethodName) prog_16_method_91_code (2 : Nat) (Option.none : Option Jvm.ClassFile.FieldType)) ∈ WS := mW 569 (by decide +kernel) rfl
theorem q_570 : (Jvm.Cond.methodLink "java/lang/StringUTF16" (48 : Nat) ({ cls := "java/lang/StringUTF16", name := "length", desc := "([B)I" } : Jvm.MethodName)) ∈ WS := mW 570 (by decide +kernel) rfl
theorem q_571 : (Jvm.Cond.static ({ cls := "java/lang/StringUTF16", name := "length", desc := "([B)I" } : Jvm.MethodName)) ∈ WS := mW 571 (by decide +kernel) rfl
theorem q_572 : (Jvm.Cond.code ({ cls := "java/lang/StringUTF16", name := "length", desc := "([B)I" } : Jvm.MethodName) prog_16_method_6_code (1 : Nat) (Option.some Jvm.ClassFile.FieldType.int)) ∈ WS := mW 572 (by decide +kernel) rfl
theorem q_573 : (Jvm.Cond.methodLink "java/lang/StringUTF16" (414 : Nat) ({ cls := "java/lang/String", name := "checkIndex", desc := "(II)V" } : Jvm.MethodName)) ∈ WS := mW 573 (by decide +kernel) rfl
theorem q_574 : (Jvm.Cond.methodLink "java/lang/StringUTF16" (71 : Nat) ({ cls := "java/lang/StringUTF16", name := "getChar", desc := "([BI)C" } : Jvm.MethodName)) ∈ WS := mW 574 (by decide +kernel) rfl
theorem q_575 : (Jvm.Cond.static ({ cls := "java/lang/StringUTF16", name := "getChar", desc := "([BI)C" } : Jvm.MethodName)) ∈ WS := mW 575 (by decide +kernel) rfl
theorem q_576 : (Jvm.Cond.code ({ cls := "java/lang/StringUTF16", name := "getChar", desc := "([BI)C" } : Jvm.MethodName) prog_16_method_5_code (2 : Nat) (Option.some Jvm.ClassFile.FieldType.char)) ∈ WS := mW 576 (by decide +kernel) rfl
theorem q_577 : (Jvm.Cond.fieldLink "java/lang/StringUTF16" (44 : Nat) "java/lang/StringUTF16" "$assertionsDisabled" "Z") ∈ WS := mW 577 (by decide +kernel) rfl
theorem q_579 : (Jvm.Cond.fieldLink "java/lang/StringUTF16" (59 : Nat) "java/lang/StringUTF16" "HI_BYTE_SHIFT" "I") ∈ WS := mW 579 (by decide +kernel) rfl
theorem q_581 : (Jvm.Cond.fieldLink "java/lang/StringUTF16" (63 : Nat) "java/lang/StringUTF16" "LO_BYTE_SHIFT" "I") ∈ WS := mW 581 (by decide +kernel) rfl
theorem q_583 : (Jvm.Cond.methodLink "ChairFront$Reader" (41 : Nat) ({ cls := "ChairFront$Reader", name := "readHold", desc := "(LChairFront$Rules;)Z" } : Jvm.MethodName)) ∈ WS := mW 583 (by decide +kernel) rfl
theorem q_585 : (Jvm.Cond.instanceMethod ({ cls := "ChairFront$Reader", name := "readHold", desc := "(LChairFront$Rules;)Z" } : Jvm.MethodName)) ∈ WS := mW 585 (by decide +kernel) rfl
theorem q_586 : (Jvm.Cond.code ({ cls := "ChairFront$Reader", name := "readHold", desc := "(LChairFront$Rules;)Z" } : Jvm.MethodName) prog_4_method_4_code (2 : Nat) (Option.some Jvm.ClassFile.FieldType.boolean)) ∈ WS := mW 586 (by decide +kernel) rfl
theorem q_590 : (Jvm.Cond.methodLink "ChairFront$Reader" (54 : Nat) ({ cls := "ChairFront$Reader", name := "refuse", desc := "(I)Z" } : Jvm.MethodName)) ∈ WS := mW 590 (by decide +kernel) rfl
theorem q_592 : (Jvm.Cond.instanceMethod ({ cls := "ChairFront$Reader", name := "refuse", desc := "(I)Z" } : Jvm.MethodName)) ∈ WS := mW 592 (by decide +kernel) rfl
theorem q_593 : (Jvm.Cond.code ({ cls := "ChairFront$Reader", name := "refuse", desc := "(I)Z" } : Jvm.MethodName) prog_4_method_10_code (2 : Nat) (Option.some Jvm.ClassFile.FieldType.boolean)) ∈ WS := mW 593 (by decide +kernel) rfl
theorem q_594 : (Jvm.Cond.methodLink "ChairFront$Reader" (66 : Nat) ({ cls := "ChairFront$Reader", name := "readSign", desc := "()Z" } : Jvm.MethodName)) ∈ WS := mW 594 (by decide +kernel) rfl
theorem q_596 : (Jvm.Cond.instanceMethod ({ cls := "ChairFront$Reader", name := "readSign", desc := "()Z" } : Jvm.MethodName)) ∈ WS := mW 596 (by decide +kernel) rfl
theorem q_597 : (Jvm.Cond.code ({ cls := "ChairFront$Reader", name := "readSign", desc := "()Z" } : Jvm.MethodName) prog_4_method_9_code (1 : Nat) (Option.some Jvm.ClassFile.FieldType.boolean)) ∈ WS := mW 597 (by decide +kernel) rfl
theorem q_599 : (Jvm.Cond.methodLink "ChairFront$Reader" (46 : Nat) ({ cls := "ChairFront$Reader", name := "readRain", desc := "(LChairFront$Rules;)Z" } : Jvm.MethodName)) ∈ WS := mW 599 (by decide +kernel) rfl
theorem q_601 : (Jvm.Cond.instanceMethod ({ cls := "ChairFront$Reader", name := "readRain", desc := "(LChairFront$Rules;)Z" } : Jvm.MethodName)) ∈ WS := mW 601 (by decide +kernel) rfl
theorem q_602 : (Jvm.Cond.code ({ cls := "ChairFront$Reader", name := "readRain", desc := "(LChairFront$Rules;)Z" } : Jvm.MethodName) prog_4_method_5_code (2 : Nat) (Option.some Jvm.ClassFile.FieldType.boolean)) ∈ WS := mW 602 (by decide +kernel) rfl
theorem q_603 : (Jvm.Cond.methodLink "ChairFront$Reader" (73 : Nat) ({ cls := "ChairFront$Reader", name := "readPart", desc := "(II)Z" } : Jvm.MethodName)) ∈ WS := mW 603 (by decide +kernel) rfl
theorem q_605 : (Jvm.Cond.instanceMethod ({ cls := "ChairFront$Reader", name := "readPart", desc := "(II)Z" } : Jvm.MethodName)) ∈ WS := mW 605 (by decide +kernel) rfl
theorem q_606 : (Jvm.Cond.code ({ cls := "ChairFront$Reader", name := "readPart", desc := "(II)Z" } : Jvm.MethodName) prog_4_method_7_code (3 : Nat) (Option.some Jvm.ClassFile.FieldType.boolean)) ∈ WS := mW 606 (by decide +kernel) rfl
theorem q_607 : (Jvm.Cond.methodLink "ChairFront$Reader" (98 : Nat) ({ cls := "ChairFront$Reader", name := "standsNumber", desc := "(II)Z" } : Jvm.MethodName)) ∈ WS := mW 607 (by decide +kernel) rfl
theorem q_609 : (Jvm.Cond.instanceMethod ({ cls := "ChairFront$Reader", name := "standsNumber", desc := "(II)Z" } : Jvm.MethodName)) ∈ WS := mW 609 (by decide +kernel) rfl
theorem q_610 : (Jvm.Cond.code ({ cls := "ChairFront$Reader", name := "standsNumber", desc := "(II)Z" } : Jvm.MethodName) prog_4_method_8_code (3 : Nat) (Option.some Jvm.ClassFile.FieldType.boolean)) ∈ WS := mW 610 (by decide +kernel) rfl
theorem q_612 : (Jvm.Cond.methodLink "ChairFront$Reader" (83 : Nat) ({ cls := "ChairFront$Rules", name := "addRain", desc := "(II)V" } : Jvm.MethodName)) ∈ WS := mW 612 (by decide +kernel) rfl
theorem q_613 : (Jvm.Cond.instanceMethod ({ cls := "ChairFront$Rules", name := "addRain", desc := "(II)V" } : Jvm.MethodName)) ∈ WS := mW 613 (by decide +kernel) rfl
theorem q_614 : (Jvm.Cond.selects "ChairFront$Rules" ({ cls := "ChairFront$Rules", name := "addRain", desc := "(II)V" } : Jvm.MethodName) ({ cls := "ChairFront$Rules", name := "addRain", desc := "(II)V" } : Jvm.MethodName)) ∈ WS := mW 614 (by decide +kernel) rfl
theorem q_615 : (Jvm.Cond.code ({ cls := "ChairFront$Rules", name := "addRain", desc := "(II)V" } : Jvm.MethodName) prog_5_method_4_code (3 : Nat) (Option.none : Option Jvm.ClassFile.FieldType)) ∈ WS := mW 615 (by decide +kernel) rfl
theorem q_617 : (Jvm.Cond.methodLink "ChairFront$Reader" (51 : Nat) ({ cls := "ChairFront$Reader", name := "readRent", desc := "(LChairFront$Rules;)Z" } : Jvm.MethodName)) ∈ WS := mW 617 (by decide +kernel) rfl
theorem q_619 : (Jvm.Cond.instanceMethod ({ cls := "ChairFront$Reader", name := "readRent", desc := "(LChairFront$Rules;)Z" } : Jvm.MethodName)) ∈ WS := mW 619 (by decide +kernel) rfl
theorem q_620 : (Jvm.Cond.code ({ cls := "ChairFront$Reader", name := "readRent", desc := "(LChairFront$Rules;)Z" } : Jvm.MethodName) prog_4_method_6_code (2 : Nat) (Option.some Jvm.ClassFile.FieldType.boolean)) ∈ WS := mW 620 (by decide +kernel) rfl
theorem q_621 : (Jvm.Cond.methodLink "ChairFront$Reader" (90 : Nat) ({ cls := "ChairFront$Rules", name := "leastNextEnd", desc := "()I" } : Jvm.MethodName)) ∈ WS := mW 621 (by decide +kernel) rfl
theorem q_622 : (Jvm.Cond.instanceMethod ({ cls := "ChairFront$Rules", name := "leastNextEnd", desc := "()I" } : Jvm.MethodName)) ∈ WS := mW 622 (by decide +kernel) rfl
theorem q_623 : (Jvm.Cond.selects "ChairFront$Rules" ({ cls := "ChairFront$Rules", name := "leastNextEnd", desc := "()I" } : Jvm.MethodName) ({ cls := "ChairFront$Rules", name := "leastNextEnd", desc := "()I" } : Jvm.MethodName)) ∈ WS := mW 623 (by decide +kernel) rfl
theorem q_624 : (Jvm.Cond.code ({ cls := "ChairFront$Rules", name := "leastNextEnd", desc := "()I" } : Jvm.MethodName) prog_5_method_6_code (1 : Nat) (Option.some Jvm.ClassFile.FieldType.int)) ∈ WS := mW 624 (by decide +kernel) rfl
theorem q_625 : (Jvm.Cond.constant "ChairFront$Reader" (94 : Nat) (99999 : Int32)) ∈ WS := mW 625 (by decide +kernel) rfl
theorem q_626 : (Jvm.Cond.methodLink "ChairFront$Reader" (95 : Nat) ({ cls := "ChairFront$Rules", name := "addRent", desc := "(II)V" } : Jvm.MethodName)) ∈ WS := mW 626 (by decide +kernel) rfl
theorem q_627 : (Jvm.Cond.instanceMethod ({ cls := "ChairFront$Rules", name := "addRent", desc := "(II)V" } : Jvm.MethodName)) ∈ WS := mW 627 (by decide +kernel) rfl
theorem q_628 : (Jvm.Cond.selects "ChairFront$Rules" ({ cls := "ChairFront$Rules", name := "addRent", desc := "(II)V" } : Jvm.MethodName) ({ cls := "ChairFront$Rules", name := "addRent", desc := "(II)V" } : Jvm.MethodName)) ∈ WS := mW 628 (by decide +kernel) rfl
theorem q_629 : (Jvm.Cond.code ({ cls := "ChairFront$Rules", name := "addRent", desc := "(II)V" } : Jvm.MethodName) prog_5_method_5_code (3 : Nat) (Option.none : Option Jvm.ClassFile.FieldType)) ∈ WS := mW 629 (by decide +kernel) rfl
theorem q_630 : (Jvm.Cond.constant "ChairFront" (215 : Nat) (-1000100 : Int32)) ∈ WS := mW 630 (by decide +kernel) rfl
theorem q_631 : (Jvm.Cond.methodLink "ChairFrontLaw" (73 : Nat) ({ cls := "ChairFront", name := "fault", desc := "()I" } : Jvm.MethodName)) ∈ WS := mW 631 (by decide +kernel) rfl
theorem q_632 : (Jvm.Cond.instanceMethod ({ cls := "ChairFront", name := "fault", desc := "()I" } : Jvm.MethodName)) ∈ WS := mW 632 (by decide +kernel) rfl
theorem q_633 : (Jvm.Cond.selects "ChairFront" ({ cls := "ChairFront", name := "fault", desc := "()I" } : Jvm.MethodName) ({ cls := "ChairFront", name := "fault", desc := "()I" } : Jvm.MethodName)) ∈ WS := mW 633 (by decide +kernel) rfl
theorem q_634 : (Jvm.Cond.code ({ cls := "ChairFront", name := "fault", desc := "()I" } : Jvm.MethodName) prog_1_method_13_code (1 : Nat) (Option.some Jvm.ClassFile.FieldType.int)) ∈ WS := mW 634 (by decide +kernel) rfl
theorem q_635 : (Jvm.Cond.methodLink "ChairFrontLaw" (77 : Nat) ({ cls := "ChairFront", name := "rent", desc := "(I)I" } : Jvm.MethodName)) ∈ WS := mW 635 (by decide +kernel) rfl
theorem q_636 : (Jvm.Cond.instanceMethod ({ cls := "ChairFront", name := "rent", desc := "(I)I" } : Jvm.MethodName)) ∈ WS := mW 636 (by decide +kernel) rfl
theorem q_637 : (Jvm.Cond.selects "ChairFront" ({ cls := "ChairFront", name := "rent", desc := "(I)I" } : Jvm.MethodName) ({ cls := "ChairFront", name := "rent", desc := "(I)I" } : Jvm.MethodName)) ∈ WS := mW 637 (by decide +kernel) rfl
theorem q_638 : (Jvm.Cond.code ({ cls := "ChairFront", name := "rent", desc := "(I)I" } : Jvm.MethodName) prog_1_method_14_code (2 : Nat) (Option.some Jvm.ClassFile.FieldType.int)) ∈ WS := mW 638 (by decide +kernel) rfl
theorem q_639 : (Jvm.Cond.methodLink "ChairFront" (226 : Nat) ({ cls := "ChairFront$Rules", name := "rentOf", desc := "(I)I" } : Jvm.MethodName)) ∈ WS := mW 639 (by decide +kernel) rfl
theorem q_640 : (Jvm.Cond.instanceMethod ({ cls := "ChairFront$Rules", name := "rentOf", desc := "(I)I" } : Jvm.MethodName)) ∈ WS := mW 640 (by decide +kernel) rfl
theorem q_641 : (Jvm.Cond.selects "ChairFront$Rules" ({ cls := "ChairFront$Rules", name := "rentOf", desc := "(I)I" } : Jvm.MethodName) ({ cls := "ChairFront$Rules", name := "rentOf", desc := "(I)I" } : Jvm.MethodName)) ∈ WS := mW 641 (by decide +kernel) rfl
theorem q_642 : (Jvm.Cond.code ({ cls := "ChairFront$Rules", name := "rentOf", desc := "(I)I" } : Jvm.MethodName) prog_5_method_8_code (6 : Nat) (Option.some Jvm.ClassFile.FieldType.int)) ∈ WS := mW 642 (by decide +kernel) rfl
theorem q_643 : (Jvm.Cond.methodLink "ChairFront$Rules" (35 : Nat) ({ cls := "java/lang/Math", name := "min", desc := "(II)I" } : Jvm.MethodName)) ∈ WS := mW 643 (by decide +kernel) rfl
theorem q_644 : (Jvm.Cond.methodLink "ChairFront$Rules" (41 : Nat) ({ cls := "java/lang/Math", name := "max", desc := "(II)I" } : Jvm.MethodName)) ∈ WS := mW 644 (by decide +kernel) rfl
theorem q_645 : (Jvm.Cond.constant "ChairFront" (229 : Nat) (1000000 : Int32)) ∈ WS := mW 645 (by decide +kernel) rfl
theorem q_646 : (Jvm.Cond.methodLink "ChairFrontLaw" (81 : Nat) ({ cls := "ChairFront", name := "unpaid", desc := "(III)I" } : Jvm.MethodName)) ∈ WS := mW 646 (by decide +kernel) rfl
theorem q_647 : (Jvm.Cond.instanceMethod ({ cls := "ChairFront", name := "unpaid", desc := "(III)I" } : Jvm.MethodName)) ∈ WS := mW 647 (by decide +kernel) rfl
theorem q_648 : (Jvm.Cond.selects "ChairFront" ({ cls := "ChairFront", name := "unpaid", desc := "(III)I" } : Jvm.MethodName) ({ cls := "ChairFront", name := "unpaid", desc := "(III)I" } : Jvm.MethodName)) ∈ WS := mW 648 (by decide +kernel) rfl
theorem q_649 : (Jvm.Cond.code ({ cls := "ChairFront", name := "unpaid", desc := "(III)I" } : Jvm.MethodName) prog_1_method_15_code (4 : Nat) (Option.some Jvm.ClassFile.FieldType.int)) ∈ WS := mW 649 (by decide +kernel) rfl
theorem q_650 : (Jvm.Cond.methodLink "ChairFrontLaw" (85 : Nat) ({ cls := "ChairFront", name := "walk", desc := "(II)I" } : Jvm.MethodName)) ∈ WS := mW 650 (by decide +kernel) rfl
theorem q_651 : (Jvm.Cond.instanceMethod ({ cls := "ChairFront", name := "walk", desc := "(II)I" } : Jvm.MethodName)) ∈ WS := mW 651 (by decide +kernel) rfl
theorem q_652 : (Jvm.Cond.selects "ChairFront" ({ cls := "ChairFront", name := "walk", desc := "(II)I" } : Jvm.MethodName) ({ cls := "ChairFront", name := "walk", desc := "(II)I" } : Jvm.MethodName)) ∈ WS := mW 652 (by decide +kernel) rfl
theorem q_653 : (Jvm.Cond.code ({ cls := "ChairFront", name := "walk", desc := "(II)I" } : Jvm.MethodName) prog_1_method_16_code (3 : Nat) (Option.some Jvm.ClassFile.FieldType.int)) ∈ WS := mW 653 (by decide +kernel) rfl
theorem q_654 : (Jvm.Cond.methodLink "ChairFront" (233 : Nat) ({ cls := "java/lang/Integer", name := "bitCount", desc := "(I)I" } : Jvm.MethodName)) ∈ WS := mW 654 (by decide +kernel) rfl
theorem q_655 : (Jvm.Cond.static ({ cls := "java/lang/Integer", name := "bitCount", desc := "(I)I" } : Jvm.MethodName)) ∈ WS := mW 655 (by decide +kernel) rfl
theorem q_656 : (Jvm.Cond.code ({ cls := "java/lang/Integer", name := "bitCount", desc := "(I)I" } : Jvm.MethodName) prog_12_method_49_code (1 : Nat) (Option.some Jvm.ClassFile.FieldType.int)) ∈ WS := mW 656 (by decide +kernel) rfl
theorem q_657 : (Jvm.Cond.constant "java/lang/Integer" (265 : Nat) (1431655765 : Int32)) ∈ WS := mW 657 (by decide +kernel) rfl
theorem q_658 : (Jvm.Cond.constant "java/lang/Integer" (266 : Nat) (858993459 : Int32)) ∈ WS := mW 658 (by decide +kernel) rfl
theorem q_659 : (Jvm.Cond.constant "java/lang/Integer" (267 : Nat) (252645135 : Int32)) ∈ WS := mW 659 (by decide +kernel) rfl
theorem q_660 : (Jvm.Cond.methodLink "ChairFront" (238 : Nat) ({ cls := "ChairFront$BestWalk", name := "plan", desc := "(I[LChairFront$Stretch;)V" } : Jvm.MethodName)) ∈ WS := mW 660 (by decide +kernel) rfl
theorem q_661 : (Jvm.Cond.instanceMethod ({ cls := "ChairFront$BestWalk", name := "plan", desc := "(I[LChairFront$Stretch;)V" } : Jvm.MethodName)) ∈ WS := mW 661 (by decide +kernel) rfl
theorem q_662 : (Jvm.Cond.selects "ChairFront$BestWalk" ({ cls := "ChairFront$BestWalk", name := "plan", desc := "(I[LChairFront$Stretch;)V" } : Jvm.MethodName) ({ cls := "ChairFront$BestWalk", name := "plan", desc := "(I[LChairFront$Stretch;)V" } : Jvm.MethodName)) ∈ WS := mW 662 (by decide +kernel) rfl
theorem q_663 : (Jvm.Cond.code ({ cls := "ChairFront$BestWalk", name := "plan", desc := "(I[LChairFront$Stretch;)V" } : Jvm.MethodName) prog_3_method_2_code (5 : Nat) (Option.none : Option Jvm.ClassFile.FieldType)) ∈ WS := mW 663 (by decide +kernel) rfl
theorem q_664 : (Jvm.Cond.methodLink "ChairFront$BestWalk" (25 : Nat) ({ cls := "ChairFront$BestWalk", name := "addStop", desc := "(ILChairFront$Stretch;)V" } : Jvm.MethodName)) ∈ WS := mW 664 (by decide +kernel) rfl
theorem q_666 : (Jvm.Cond.instanceMethod ({ cls := "ChairFront$BestWalk", name := "addStop", desc := "(ILChairFront$Stretch;)V" } : Jvm.MethodName)) ∈ WS := mW 666 (by decide +kernel) rfl
theorem q_667 : (Jvm.Cond.code ({ cls := "ChairFront$BestWalk", name := "addStop", desc := "(ILChairFront$Stretch;)V" } : Jvm.MethodName) prog_3_method_3_code (4 : Nat) (Option.none : Option Jvm.ClassFile.FieldType)) ∈ WS := mW 667 (by decide +kernel) rfl
theorem q_668 : (Jvm.Cond.methodLink "ChairFront$BestWalk" (41 : Nat) ({ cls := "ChairFront$Stretch", name := "foundAt", desc := "(I)I" } : Jvm.MethodName)) ∈ WS := mW 668 (by decide +kernel) rfl
theorem q_669 : (Jvm.Cond.instanceMethod ({ cls := "ChairFront$Stretch", name := "foundAt", desc := "(I)I" } : Jvm.MethodName)) ∈ WS := mW 669 (by decide +kernel) rfl
theorem q_670 : (Jvm.Cond.selects "ChairFront$Stretch" ({ cls := "ChairFront$Stretch", name := "foundAt", desc := "(I)I" } : Jvm.MethodName) ({ cls := "ChairFront$Stretch", name := "foundAt", desc := "(I)I" } : Jvm.MethodName)) ∈ WS := mW 670 (by decide +kernel) rfl
theorem q_671 : (Jvm.Cond.code ({ cls := "ChairFront$Stretch", name := "foundAt", desc := "(I)I" } : Jvm.MethodName) prog_6_method_5_code (2 : Nat) (Option.some Jvm.ClassFile.FieldType.int)) ∈ WS := mW 671 (by decide +kernel) rfl
theorem q_672 : (Jvm.Cond.methodLink "ChairFront$Stretch" (29 : Nat) ({ cls := "java/lang/Math", name := "max", desc := "(II)I" } : Jvm.MethodName)) ∈ WS := mW 672 (by decide +kernel) rfl
theorem q_673 : (Jvm.Cond.methodLink "ChairFront$BestWalk" (29 : Nat) ({ cls := "ChairFront$BestWalk", name := "allStops", desc := "()I" } : Jvm.MethodName)) ∈ WS := mW 673 (by decide +kernel) rfl
theorem q_675 : (Jvm.Cond.instanceMethod ({ cls := "ChairFront$BestWalk", name := "allStops", desc := "()I" } : Jvm.MethodName)) ∈ WS := mW 675 (by decide +kernel) rfl
theorem q_676 : (Jvm.Cond.code ({ cls := "ChairFront$BestWalk", name := "allStops", desc := "()I" } : Jvm.MethodName) prog_3_method_6_code (1 : Nat) (Option.some Jvm.ClassFile.FieldType.int)) ∈ WS := mW 676 (by decide +kernel) rfl
theorem q_677 : (Jvm.Cond.methodLink "ChairFront$BestWalk" (33 : Nat) ({ cls := "ChairFront$BestWalk", name := "bestNext", desc := "(I)I" } : Jvm.MethodName)) ∈ WS := mW 677 (by decide +kernel) rfl
theorem q_679 : (Jvm.Cond.instanceMethod ({ cls := "ChairFront$BestWalk", name := "bestNext", desc := "(I)I" } : Jvm.MethodName)) ∈ WS := mW 679 (by decide +kernel) rfl
theorem q_680 : (Jvm.Cond.code ({ cls := "ChairFront$BestWalk", name := "bestNext", desc := "(I)I" } : Jvm.MethodName) prog_3_method_7_code (5 : Nat) (Option.some Jvm.ClassFile.FieldType.int)) ∈ WS := mW 680 (by decide +kernel) rfl
theorem q_681 : (Jvm.Cond.methodLink "ChairFront$BestWalk" (37 : Nat) ({ cls := "ChairFront$BestWalk", name := "findsBy", desc := "(II)I" } : Jvm.MethodName)) ∈ WS := mW 681 (by decide +kernel) rfl
theorem q_683 : (Jvm.Cond.instanceMethod ({ cls := "ChairFront$BestWalk", name := "findsBy", desc := "(II)I" } : Jvm.MethodName)) ∈ WS := mW 683 (by decide +kernel) rfl
theorem q_684 : (Jvm.Cond.code ({ cls := "ChairFront$BestWalk", name := "findsBy", desc := "(II)I" } : Jvm.MethodName) prog_3_method_8_code (4 : Nat) (Option.some Jvm.ClassFile.FieldType.int)) ∈ WS := mW 684 (by decide +kernel) rfl
theorem q_685 : (Jvm.Cond.methodLink "ChairFront$BestWalk" (51 : Nat) ({ cls := "java/lang/Integer", name := "bitCount", desc := "(I)I" } : Jvm.MethodName)) ∈ WS := mW 685 (by decide +kernel) rfl
theorem q_686 : (Jvm.Cond.methodLink "ChairFront" (242 : Nat) ({ cls := "ChairFront$BestWalk", name := "finds", desc := "()I" } : Jvm.MethodName)) ∈ WS := mW 686 (by decide +kernel) rfl
theorem q_687 : (Jvm.Cond.instanceMethod ({ cls := "ChairFront$BestWalk", name := "finds", desc := "()I" } : Jvm.MethodName)) ∈ WS := mW 687 (by decide +kernel) rfl
theorem q_688 : (Jvm.Cond.selects "ChairFront$BestWalk" ({ cls := "ChairFront$BestWalk", name := "finds", desc := "()I" } : Jvm.MethodName) ({ cls := "ChairFront$BestWalk", name := "finds", desc := "()I" } : Jvm.MethodName)) ∈ WS := mW 688 (by decide +kernel) rfl
theorem q_689 : (Jvm.Cond.code ({ cls := "ChairFront$BestWalk", name := "finds", desc := "()I" } : Jvm.MethodName) prog_3_method_4_code (1 : Nat) (Option.some Jvm.ClassFile.FieldType.int)) ∈ WS := mW 689 (by decide +kernel) rfl
theorem q_690 : (Jvm.Cond.methodLink "ChairFront" (245 : Nat) ({ cls := "ChairFront$BestWalk", name := "stopAt", desc := "(I)I" } : Jvm.MethodName)) ∈ WS := mW 690 (by decide +kernel) rfl
theorem q_691 : (Jvm.Cond.instanceMethod ({ cls := "ChairFront$BestWalk", name := "stopAt", desc := "(I)I" } : Jvm.MethodName)) ∈ WS := mW 691 (by decide +kernel) rfl
theorem q_692 : (Jvm.Cond.selects "ChairFront$BestWalk" ({ cls := "ChairFront$BestWalk", name := "stopAt", desc := "(I)I" } : Jvm.MethodName) ({ cls := "ChairFront$BestWalk", name := "stopAt", desc := "(I)I" } : Jvm.MethodName)) ∈ WS := mW 692 (by decide +kernel) rfl
theorem q_693 : (Jvm.Cond.code ({ cls := "ChairFront$BestWalk", name := "stopAt", desc := "(I)I" } : Jvm.MethodName) prog_3_method_5_code (4 : Nat) (Option.some Jvm.ClassFile.FieldType.int)) ∈ WS := mW 693 (by decide +kernel) rfl
theorem q_695 : (Jvm.Cond.constant "ChairFront$BestWalk" (50 : Nat) (-1000000 : Int32)) ∈ WS := mW 695 (by decide +kernel) rfl
theorem q_696 : (Jvm.Cond.methodLink "ChairFrontLaw" (89 : Nat) ({ cls := "ChairFront", name := "kind", desc := "(I)I" } : Jvm.MethodName)) ∈ WS := mW 696 (by decide +kernel) rfl
theorem q_697 : (Jvm.Cond.instanceMethod ({ cls := "ChairFront", name := "kind", desc := "(I)I" } : Jvm.MethodName)) ∈ WS := mW 697 (by decide +kernel) rfl
theorem q_698 : (Jvm.Cond.selects "ChairFront" ({ cls := "ChairFront", name := "kind", desc := "(I)I" } : Jvm.MethodName) ({ cls := "ChairFront", name := "kind", desc := "(I)I" } : Jvm.MethodName)) ∈ WS := mW 698 (by decide +kernel) rfl
theorem q_699 : (Jvm.Cond.code ({ cls := "ChairFront", name := "kind", desc := "(I)I" } : Jvm.MethodName) prog_1_method_17_code (2 : Nat) (Option.some Jvm.ClassFile.FieldType.int)) ∈ WS := mW 699 (by decide +kernel) rfl
theorem q_700 : (Jvm.Cond.methodLink "ChairFront" (248 : Nat) ({ cls := "ChairFront$Stretch", name := "toldKind", desc := "()I" } : Jvm.MethodName)) ∈ WS := mW 700 (by decide +kernel) rfl
theorem q_701 : (Jvm.Cond.instanceMethod ({ cls := "ChairFront$Stretch", name := "toldKind", desc := "()I" } : Jvm.MethodName)) ∈ WS := mW 701 (by decide +kernel) rfl
theorem q_702 : (Jvm.Cond.selects "ChairFront$Stretch" ({ cls := "ChairFront$Stretch", name := "toldKind", desc := "()I" } : Jvm.MethodName) ({ cls := "ChairFront$Stretch", name := "toldKind", desc := "()I" } : Jvm.MethodName)) ∈ WS := mW 702 (by decide +kernel) rfl
theorem q_703 : (Jvm.Cond.code ({ cls := "ChairFront$Stretch", name := "toldKind", desc := "()I" } : Jvm.MethodName) prog_6_method_3_code (1 : Nat) (Option.some Jvm.ClassFile.FieldType.int)) ∈ WS := mW 703 (by decide +kernel) rfl
theorem q_704 : (Jvm.Cond.methodLink "ChairFront$Stretch" (16 : Nat) ({ cls := "ChairFront$Stretch", name := "free", desc := "()I" } : Jvm.MethodName)) ∈ WS := mW 704 (by decide +kernel) rfl
theorem q_705 : (Jvm.Cond.methodLink "ChairFrontLaw" (93 : Nat) ({ cls := "ChairFront", name := "as", desc := "(II)I" } : Jvm.MethodName)) ∈ WS := mW 705 (by decide +kernel) rfl
theorem q_706 : (Jvm.Cond.instanceMethod ({ cls := "ChairFront", name := "as", desc := "(II)I" } : Jvm.MethodName)) ∈ WS := mW 706 (by decide +kernel) rfl
theorem q_707 : (Jvm.Cond.selects "ChairFront" ({ cls := "ChairFront", name := "as", desc := "(II)I" } : Jvm.MethodName) ({ cls := "ChairFront", name := "as", desc := "(II)I" } : Jvm.MethodName)) ∈ WS := mW 707 (by decide +kernel) rfl
theorem q_708 : (Jvm.Cond.code ({ cls := "ChairFront", name := "as", desc := "(II)I" } : Jvm.MethodName) prog_1_method_18_code (4 : Nat) (Option.some Jvm.ClassFile.FieldType.int)) ∈ WS := mW 708 (by decide +kernel) rfl
theorem q_709 : (Jvm.Cond.methodLink "ChairFront" (251 : Nat) ({ cls := "ChairFront$Stretch", name := "isOf", desc := "(I)Z" } : Jvm.MethodName)) ∈ WS := mW 709 (by decide +kernel) rfl
theorem q_710 : (Jvm.Cond.instanceMethod ({ cls := "ChairFront$Stretch", name := "isOf", desc := "(I)Z" } : Jvm.MethodName)) ∈ WS := mW 710 (by decide +kernel) rfl
theorem q_711 : (Jvm.Cond.selects "ChairFront$Stretch" ({ cls := "ChairFront$Stretch", name := "isOf", desc := "(I)Z" } : Jvm.MethodName) ({ cls := "ChairFront$Stretch", name := "isOf", desc := "(I)Z" } : Jvm.MethodName)) ∈ WS := mW 711 (by decide +kernel) rfl
theorem q_712 : (Jvm.Cond.code ({ cls := "ChairFront$Stretch", name := "isOf", desc := "(I)Z" } : Jvm.MethodName) prog_6_method_4_code (3 : Nat) (Option.some Jvm.ClassFile.FieldType.boolean)) ∈ WS := mW 712 (by decide +kernel) rfl
theorem q_713 : (Jvm.Cond.methodLink "ChairFront$Stretch" (23 : Nat) ({ cls := "ChairFront$Stretch", name := "toldKind", desc := "()I" } : Jvm.MethodName)) ∈ WS := mW 713 (by decide +kernel) rfl
theorem q_714 : (Jvm.Cond.constant "ChairFront" (254 : Nat) (-1000004 : Int32)) ∈ WS := mW 714 (by decide +kernel) rfl
theorem q_715 : (Jvm.Cond.methodLink "ChairFrontLaw" (97 : Nat) ({ cls := "ChairFront", name := "ask", desc := "(II)I" } : Jvm.MethodName)) ∈ WS := mW 715 (by decide +kernel) rfl
theorem q_716 : (Jvm.Cond.instanceMethod ({ cls := "ChairFront", name := "ask", desc := "(II)I" } : Jvm.MethodName)) ∈ WS := mW 716 (by decide +kernel) rfl
theorem q_717 : (Jvm.Cond.selects "ChairFront" ({ cls := "ChairFront", name := "ask", desc := "(II)I" } : Jvm.MethodName) ({ cls := "ChairFront", name := "ask", desc := "(II)I" } : Jvm.MethodName)) ∈ WS := mW 717 (by decide +kernel) rfl
theorem q_718 : (Jvm.Cond.code ({ cls := "ChairFront", name := "ask", desc := "(II)I" } : Jvm.MethodName) prog_1_method_19_code (4 : Nat) (Option.some Jvm.ClassFile.FieldType.int)) ∈ WS := mW 718 (by decide +kernel) rfl
theorem q_719 : (Jvm.Cond.methodLink "ChairFront" (258 : Nat) ({ cls := "ChairFront$Asks", name := "worthOf", desc := "(LChairFront$Stretch;)I" } : Jvm.MethodName)) ∈ WS := mW 719 (by decide +kernel) rfl
theorem q_720 : (Jvm.Cond.instanceMethod ({ cls := "ChairFront$Asks", name := "worthOf", desc := "(LChairFront$Stretch;)I" } : Jvm.MethodName)) ∈ WS := mW 720 (by decide +kernel) rfl
theorem q_721 : (Jvm.Cond.selects "ChairFront$Asks" ({ cls := "ChairFront$Asks", name := "worthOf", desc := "(LChairFront$Stretch;)I" } : Jvm.MethodName) ({ cls := "ChairFront$Asks", name := "worthOf", desc := "(LChairFront$Stretch;)I" } : Jvm.MethodName)) ∈ WS := mW 721 (by decide +kernel) rfl
theorem q_722 : (Jvm.Cond.code ({ cls := "ChairFront$Asks", name := "worthOf", desc := "(LChairFront$Stretch;)I" } : Jvm.MethodName) prog_2_method_2_code (2 : Nat) (Option.some Jvm.ClassFile.FieldType.int)) ∈ WS := mW 722 (by decide +kernel) rfl
theorem q_723 : (Jvm.Cond.methodLink "ChairFront$Asks" (13 : Nat) ({ cls := "ChairFront$Stretch", name := "toldKind", desc := "()I" } : Jvm.MethodName)) ∈ WS := mW 723 (by decide +kernel) rfl
theorem q_724 : (Jvm.Cond.methodLink "ChairFront$Asks" (19 : Nat) ({ cls := "ChairFront$Asks", name := "worthOfCrowd", desc := "(LChairFront$Stretch;)I" } : Jvm.MethodName)) ∈ WS := mW 724 (by decide +kernel) rfl
theorem q_726 : (Jvm.Cond.instanceMethod ({ cls := "ChairFront$Asks", name := "worthOfCrowd", desc := "(LChairFront$Stretch;)I" } : Jvm.MethodName)) ∈ WS := mW 726 (by decide +kernel) rfl
theorem q_727 : (Jvm.Cond.code ({ cls := "ChairFront$Asks", name := "worthOfCrowd", desc := "(LChairFront$Stretch;)I" } : Jvm.MethodName) prog_2_method_6_code (3 : Nat) (Option.some Jvm.ClassFile.FieldType.int)) ∈ WS := mW 727 (by decide +kernel) rfl
theorem q_728 : (Jvm.Cond.methodLink "ChairFront$Asks" (41 : Nat) ({ cls := "ChairFront$Asks", name := "leave", desc := "(I)V" } : Jvm.MethodName)) ∈ WS := mW 728 (by decide +kernel) rfl
theorem q_730 : (Jvm.Cond.instanceMethod ({ cls := "ChairFront$Asks", name := "leave", desc := "(I)V" } : Jvm.MethodName)) ∈ WS := mW 730 (by decide +kernel) rfl
theorem q_731 : (Jvm.Cond.code ({ cls := "ChairFront$Asks", name := "leave", desc := "(I)V" } : Jvm.MethodName) prog_2_method_11_code (2 : Nat) (Option.none : Option Jvm.ClassFile.FieldType)) ∈ WS := mW 731 (by decide +kernel) rfl
theorem q_732 : (Jvm.Cond.methodLink "ChairFront$Asks" (23 : Nat) ({ cls := "ChairFront$Asks", name := "worthOfSold", desc := "(LChairFront$Stretch;)I" } : Jvm.MethodName)) ∈ WS := mW 732 (by decide +kernel) rfl
theorem q_734 : (Jvm.Cond.instanceMethod ({ cls := "ChairFront$Asks", name := "worthOfSold", desc := "(LChairFront$Stretch;)I" } : Jvm.MethodName)) ∈ WS := mW 734 (by decide +kernel) rfl
theorem q_735 : (Jvm.Cond.code ({ cls := "ChairFront$Asks", name := "worthOfSold", desc := "(LChairFront$Stretch;)I" } : Jvm.MethodName) prog_2_method_5_code (2 : Nat) (Option.some Jvm.ClassFile.FieldType.int)) ∈ WS := mW 735 (by decide +kernel) rfl
theorem q_736 : (Jvm.Cond.methodLink "ChairFront$Asks" (29 : Nat) ({ cls := "ChairFront$Asks", name := "worthLent", desc := "(LChairFront$Stretch;)I" } : Jvm.MethodName)) ∈ WS := mW 736 (by decide +kernel) rfl
theorem q_738 : (Jvm.Cond.instanceMethod ({ cls := "ChairFront$Asks", name := "worthLent", desc := "(LChairFront$Stretch;)I" } : Jvm.MethodName)) ∈ WS := mW 738 (by decide +kernel) rfl
theorem q_739 : (Jvm.Cond.code ({ cls := "ChairFront$Asks", name := "worthLent", desc := "(LChairFront$Stretch;)I" } : Jvm.MethodName) prog_2_method_4_code (2 : Nat) (Option.some Jvm.ClassFile.FieldType.int)) ∈ WS := mW 739 (by decide +kernel) rfl
theorem q_740 : (Jvm.Cond.methodLink "ChairFront$Asks" (32 : Nat) ({ cls := "ChairFront$Asks", name := "markOfCrowd", desc := "(LChairFront$Stretch;)I" } : Jvm.MethodName)) ∈ WS := mW 740 (by decide +kernel) rfl
theorem q_742 : (Jvm.Cond.instanceMethod ({ cls := "ChairFront$Asks", name := "markOfCrowd", desc := "(LChairFront$Stretch;)I" } : Jvm.MethodName)) ∈ WS := mW 742 (by decide +kernel) rfl
theorem q_743 : (Jvm.Cond.code ({ cls := "ChairFront$Asks", name := "markOfCrowd", desc := "(LChairFront$Stretch;)I" } : Jvm.MethodName) prog_2_method_9_code (2 : Nat) (Option.some Jvm.ClassFile.FieldType.int)) ∈ WS := mW 743 (by decide +kernel) rfl
theorem q_744 : (Jvm.Cond.methodLink "ChairFront$Asks" (38 : Nat) ({ cls := "ChairFront$Asks", name := "markLent", desc := "(LChairFront$Stretch;)I" } : Jvm.MethodName)) ∈ WS := mW 744 (by decide +kernel) rfl
theorem q_746 : (Jvm.Cond.instanceMethod ({ cls := "ChairFront$Asks", name := "markLent", desc := "(LChairFront$Stretch;)I" } : Jvm.MethodName)) ∈ WS := mW 746 (by decide +kernel) rfl
theorem q_747 : (Jvm.Cond.code ({ cls := "ChairFront$Asks", name := "markLent", desc := "(LChairFront$Stretch;)I" } : Jvm.MethodName) prog_2_method_8_code (2 : Nat) (Option.some Jvm.ClassFile.FieldType.int)) ∈ WS := mW 747 (by decide +kernel) rfl
theorem q_748 : (Jvm.Cond.methodLink "ChairFront$Asks" (26 : Nat) ({ cls := "ChairFront$Asks", name := "worthOfBare", desc := "(LChairFront$Stretch;)I" } : Jvm.MethodName)) ∈ WS := mW 748 (by decide +kernel) rfl
theorem q_750 : (Jvm.Cond.instanceMethod ({ cls := "ChairFront$Asks", name := "worthOfBare", desc := "(LChairFront$Stretch;)I" } : Jvm.MethodName)) ∈ WS := mW 750 (by decide +kernel) rfl
theorem q_751 : (Jvm.Cond.code ({ cls := "ChairFront$Asks", name := "worthOfBare", desc := "(LChairFront$Stretch;)I" } : Jvm.MethodName) prog_2_method_7_code (2 : Nat) (Option.some Jvm.ClassFile.FieldType.int)) ∈ WS := mW 751 (by decide +kernel) rfl
theorem q_752 : (Jvm.Cond.methodLink "ChairFront" (262 : Nat) ({ cls := "ChairFront$Asks", name := "markOf", desc := "(LChairFront$Stretch;)I" } : Jvm.MethodName)) ∈ WS := mW 752 (by decide +kernel) rfl
theorem q_753 : (Jvm.Cond.instanceMethod ({ cls := "ChairFront$Asks", name := "markOf", desc := "(LChairFront$Stretch;)I" } : Jvm.MethodName)) ∈ WS := mW 753 (by decide +kernel) rfl
theorem q_754 : (Jvm.Cond.selects "ChairFront$Asks" ({ cls := "ChairFront$Asks", name := "markOf", desc := "(LChairFront$Stretch;)I" } : Jvm.MethodName) ({ cls := "ChairFront$Asks", name := "markOf", desc := "(LChairFront$Stretch;)I" } : Jvm.MethodName)) ∈ WS := mW 754 (by decide +kernel) rfl
theorem q_755 : (Jvm.Cond.code ({ cls := "ChairFront$Asks", name := "markOf", desc := "(LChairFront$Stretch;)I" } : Jvm.MethodName) prog_2_method_3_code (2 : Nat) (Option.some Jvm.ClassFile.FieldType.int)) ∈ WS := mW 755 (by decide +kernel) rfl
theorem q_756 : (Jvm.Cond.methodLink "ChairFront$Asks" (35 : Nat) ({ cls := "ChairFront$Asks", name := "markOfBare", desc := "(LChairFront$Stretch;)I" } : Jvm.MethodName)) ∈ WS := mW 756 (by decide +kernel) rfl
theorem q_758 : (Jvm.Cond.instanceMethod ({ cls := "ChairFront$Asks", name := "markOfBare", desc := "(LChairFront$Stretch;)I" } : Jvm.MethodName)) ∈ WS := mW 758 (by decide +kernel) rfl
theorem q_759 : (Jvm.Cond.code ({ cls := "ChairFront$Asks", name := "markOfBare", desc := "(LChairFront$Stretch;)I" } : Jvm.MethodName) prog_2_method_10_code (3 : Nat) (Option.some Jvm.ClassFile.FieldType.int)) ∈ WS := mW 759 (by decide +kernel) rfl
theorem q_760 : (Jvm.Cond.methodLink "ChairFrontLaw" (101 : Nat) ({ cls := "ChairFront", name := "trace", desc := "(I)I" } : Jvm.MethodName)) ∈ WS := mW 760 (by decide +kernel) rfl
theorem q_761 : (Jvm.Cond.instanceMethod ({ cls := "ChairFront", name := "trace", desc := "(I)I" } : Jvm.MethodName)) ∈ WS := mW 761 (by decide +kernel) rfl
theorem q_762 : (Jvm.Cond.selects "ChairFront" ({ cls := "ChairFront", name := "trace", desc := "(I)I" } : Jvm.MethodName) ({ cls := "ChairFront", name := "trace", desc := "(I)I" } : Jvm.MethodName)) ∈ WS := mW 762 (by decide +kernel) rfl
theorem q_763 : (Jvm.Cond.code ({ cls := "ChairFront", name := "trace", desc := "(I)I" } : Jvm.MethodName) prog_1_method_20_code (2 : Nat) (Option.some Jvm.ClassFile.FieldType.int)) ∈ WS := mW 763 (by decide +kernel) rfl
theorem q_764 : (Jvm.Cond.methodLink "ChairFrontLaw" (105 : Nat) ({ cls := "ChairFront", name := "count", desc := "(I)I" } : Jvm.MethodName)) ∈ WS := mW 764 (by decide +kernel) rfl
theorem q_765 : (Jvm.Cond.instanceMethod ({ cls := "ChairFront", name := "count", desc := "(I)I" } : Jvm.MethodName)) ∈ WS := mW 765 (by decide +kernel) rfl
theorem q_766 : (Jvm.Cond.selects "ChairFront" ({ cls := "ChairFront", name := "count", desc := "(I)I" } : Jvm.MethodName) ({ cls := "ChairFront", name := "count", desc := "(I)I" } : Jvm.MethodName)) ∈ WS := mW 766 (by decide +kernel) rfl
theorem q_767 : (Jvm.Cond.code ({ cls := "ChairFront", name := "count", desc := "(I)I" } : Jvm.MethodName) prog_1_method_21_code (2 : Nat) (Option.some Jvm.ClassFile.FieldType.int)) ∈ WS := mW 767 (by decide +kernel) rfl
theorem q_768 : (Jvm.Cond.methodLink "ChairFront" (269 : Nat) ({ cls := "ChairFront", name := "allStanding", desc := "()I" } : Jvm.MethodName)) ∈ WS := mW 768 (by decide +kernel) rfl
theorem q_770 : (Jvm.Cond.instanceMethod ({ cls := "ChairFront", name := "allStanding", desc := "()I" } : Jvm.MethodName)) ∈ WS := mW 770 (by decide +kernel) rfl
theorem q_771 : (Jvm.Cond.code ({ cls := "ChairFront", name := "allStanding", desc := "()I" } : Jvm.MethodName) prog_1_method_27_code (3 : Nat) (Option.some Jvm.ClassFile.FieldType.int)) ∈ WS := mW 771 (by decide +kernel) rfl
theorem q_772 : (Jvm.Cond.methodLink "ChairFrontLaw" (9 : Nat) ({ cls := "ChairFrontLaw", name := "cell", desc := "([II)I" } : Jvm.MethodName)) ∈ WS := mW 772 (by decide +kernel) rfl
theorem q_773 : (Jvm.Cond.static ({ cls := "ChairFrontLaw", name := "cell", desc := "([II)I" } : Jvm.MethodName)) ∈ WS := mW 773 (by decide +kernel) rfl
theorem q_774 : (Jvm.Cond.code ({ cls := "ChairFrontLaw", name := "cell", desc := "([II)I" } : Jvm.MethodName) method_2_code (2 : Nat) (Option.some Jvm.ClassFile.FieldType.int)) ∈ WS := mW 774 (by decide +kernel) rfl
theorem q_775 : (Jvm.Cond.classLink "ChairFrontLaw" (18 : Nat) "ChairFrontModel") ∈ WS := mW 775 (by decide +kernel) rfl
theorem q_776 : (Jvm.Cond.instantiable "ChairFrontModel" (55 : Nat)) ∈ WS := mW 776 (by decide +kernel) rfl
theorem q_777 : (Jvm.Cond.methodLink "ChairFrontLaw" (20 : Nat) ({ cls := "ChairFrontModel", name := "<init>", desc := "(I)V" } : Jvm.MethodName)) ∈ WS := mW 777 (by decide +kernel) rfl
theorem q_778 : (Jvm.Cond.instanceMethod ({ cls := "ChairFrontModel", name := "<init>", desc := "(I)V" } : Jvm.MethodName)) ∈ WS := mW 778 (by decide +kernel) rfl
theorem q_779 : (Jvm.Cond.code ({ cls := "ChairFrontModel", name := "<init>", desc := "(I)V" } : Jvm.MethodName) prog_11_method_3_code (2 : Nat) (Option.none : Option Jvm.ClassFile.FieldType)) ∈ WS := mW 779 (by decide +kernel) rfl
theorem q_780 : (Jvm.Cond.methodLink "ChairFrontModel" (7 : Nat) ({ cls := "java/lang/Object", name := "<init>", desc := "()V" } : Jvm.MethodName)) ∈ WS := mW 780 (by decide +kernel) rfl
theorem q_781 : (Jvm.Cond.fieldLink "ChairFrontModel" (1 : Nat) "ChairFrontModel" "thrown" "I") ∈ WS := mW 781 (by decide +kernel) rfl
theorem q_782 : (Jvm.Cond.fieldLink "ChairFrontModel" (98 : Nat) "ChairFrontModel" "stack" "I") ∈ WS := mW 782 (by decide +kernel) rfl
theorem q_783 : (Jvm.Cond.fieldLink "ChairFrontModel" (166 : Nat) "ChairFrontModel" "lost" "I") ∈ WS := mW 783 (by decide +kernel) rfl
theorem q_784 : (Jvm.Cond.fieldLink "ChairFrontModel" (130 : Nat) "ChairFrontModel" "broken" "I") ∈ WS := mW 784 (by decide +kernel) rfl
theorem q_785 : (Jvm.Cond.fieldLink "ChairFrontModel" (13 : Nat) "ChairFrontModel" "price" "I") ∈ WS := mW 785 (by decide +kernel) rfl
theorem q_786 : (Jvm.Cond.fieldLink "ChairFrontModel" (16 : Nat) "ChairFrontModel" "stop" "I") ∈ WS := mW 786 (by decide +kernel) rfl
theorem q_787 : (Jvm.Cond.fieldLink "ChairFrontModel" (135 : Nat) "ChairFrontModel" "wind" "I") ∈ WS := mW 787 (by decide +kernel) rfl
theorem q_788 : (Jvm.Cond.fieldLink "ChairFrontModel" (163 : Nat) "ChairFrontModel" "hours" "I") ∈ WS := mW 788 (by decide +kernel) rfl
theorem q_789 : (Jvm.Cond.fieldLink "ChairFrontModel" (144 : Nat) "ChairFrontModel" "paid" "I") ∈ WS := mW 789 (by decide +kernel) rfl
theorem q_790 : (Jvm.Cond.fieldLink "ChairFrontModel" (169 : Nat) "ChairFrontModel" "back" "I") ∈ WS := mW 790 (by decide +kernel) rfl
theorem q_791 : (Jvm.Cond.fieldLink "ChairFrontModel" (101 : Nat) "ChairFrontModel" "stretches" "I") ∈ WS := mW 791 (by decide +kernel) rfl
theorem q_792 : (Jvm.Cond.fieldLink "ChairFrontModel" (19 : Nat) "ChairFrontModel" "height" "[I") ∈ WS := mW 792 (by decide +kernel) rfl
theorem q_793 : (Jvm.Cond.fieldLink "ChairFrontModel" (23 : Nat) "ChairFrontModel" "zone" "[I") ∈ WS := mW 793 (by decide +kernel) rfl
theorem q_794 : (Jvm.Cond.fieldLink "ChairFrontModel" (26 : Nat) "ChairFrontModel" "free" "[I") ∈ WS := mW 794 (by decide +kernel) rfl
theorem q_795 : (Jvm.Cond.fieldLink "ChairFrontModel" (29 : Nat) "ChairFrontModel" "hired" "[I") ∈ WS := mW 795 (by decide +kernel) rfl
theorem q_796 : (Jvm.Cond.fieldLink "ChairFrontModel" (32 : Nat) "ChairFrontModel" "wear" "[I") ∈ WS := mW 796 (by decide +kernel) rfl
theorem q_797 : (Jvm.Cond.fieldLink "ChairFrontModel" (35 : Nat) "ChairFrontModel" "unpaid" "[I") ∈ WS := mW 797 (by decide +kernel) rfl
theorem q_798 : (Jvm.Cond.fieldLink "ChairFrontModel" (38 : Nat) "ChairFrontModel" "goes" "[I") ∈ WS := mW 798 (by decide +kernel) rfl
theorem q_799 : (Jvm.Cond.fieldLink "ChairFrontModel" (138 : Nat) "ChairFrontModel" "running" "I") ∈ WS := mW 799 (by decide +kernel) rfl
theorem q_800 : (Jvm.Cond.fieldLink "ChairFrontModel" (141 : Nat) "ChairFrontModel" "ever" "I") ∈ WS := mW 800 (by decide +kernel) rfl
theorem q_801 : (Jvm.Cond.fieldLink "ChairFrontModel" (41 : Nat) "ChairFrontModel" "number" "[I") ∈ WS := mW 801 (by decide +kernel) rfl
theorem q_802 : (Jvm.Cond.fieldLink "ChairFrontModel" (44 : Nat) "ChairFrontModel" "place" "[I") ∈ WS := mW 802 (by decide +kernel) rfl
theorem q_803 : (Jvm.Cond.fieldLink "ChairFrontModel" (47 : Nat) "ChairFrontModel" "chairs" "[I") ∈ WS := mW 803 (by decide +kernel) rfl
theorem q_804 : (Jvm.Cond.fieldLink "ChairFrontModel" (50 : Nat) "ChairFrontModel" "left" "[I") ∈ WS := mW 804 (by decide +kernel) rfl
theorem q_805 : (Jvm.Cond.fieldLink "ChairFrontModel" (53 : Nat) "ChairFrontModel" "own" "[I") ∈ WS := mW 805 (by decide +kernel) rfl
theorem q_806 : (Jvm.Cond.fieldLink "ChairFrontModel" (56 : Nat) "ChairFrontModel" "cost" "[I") ∈ WS := mW 806 (by decide +kernel) rfl
theorem q_807 : (Jvm.Cond.fieldLink "ChairFrontModel" (59 : Nat) "ChairFrontModel" "home" "[I") ∈ WS := mW 807 (by decide +kernel) rfl
theorem q_808 : (Jvm.Cond.fieldLink "ChairFrontModel" (150 : Nat) "ChairFrontModel" "hold" "I") ∈ WS := mW 808 (by decide +kernel) rfl
theorem q_809 : (Jvm.Cond.fieldLink "ChairFrontModel" (172 : Nat) "ChairFrontModel" "rains" "I") ∈ WS := mW 809 (by decide +kernel) rfl
theorem q_810 : (Jvm.Cond.fieldLink "ChairFrontModel" (62 : Nat) "ChairFrontModel" "rainFrom" "[I") ∈ WS := mW 810 (by decide +kernel) rfl
theorem q_811 : (Jvm.Cond.fieldLink "ChairFrontModel" (65 : Nat) "ChairFrontModel" "rainPart" "[I") ∈ WS := mW 811 (by decide +kernel) rfl
theorem q_812 : (Jvm.Cond.fieldLink "ChairFrontModel" (264 : Nat) "ChairFrontModel" "rents" "I") ∈ WS := mW 812 (by decide +kernel) rfl
theorem q_813 : (Jvm.Cond.fieldLink "ChairFrontModel" (68 : Nat) "ChairFrontModel" "rentTo" "[I") ∈ WS := mW 813 (by decide +kernel) rfl
theorem q_814 : (Jvm.Cond.fieldLink "ChairFrontModel" (71 : Nat) "ChairFrontModel" "rentPart" "[I") ∈ WS := mW 814 (by decide +kernel) rfl
theorem q_815 : (Jvm.Cond.fieldLink "ChairFrontModel" (245 : Nat) "ChairFrontModel" "newHold" "I") ∈ WS := mW 815 (by decide +kernel) rfl
theorem q_816 : (Jvm.Cond.fieldLink "ChairFrontModel" (231 : Nat) "ChairFrontModel" "newRains" "I") ∈ WS := mW 816 (by decide +kernel) rfl
theorem q_817 : (Jvm.Cond.fieldLink "ChairFrontModel" (74 : Nat) "ChairFrontModel" "newRainFrom" "[I") ∈ WS := mW 817 (by decide +kernel) rfl
theorem q_818 : (Jvm.Cond.fieldLink "ChairFrontModel" (77 : Nat) "ChairFrontModel" "newRainPart" "[I") ∈ WS := mW 818 (by decide +kernel) rfl
theorem q_819 : (Jvm.Cond.fieldLink "ChairFrontModel" (236 : Nat) "ChairFrontModel" "newRents" "I") ∈ WS := mW 819 (by decide +kernel) rfl
theorem q_820 : (Jvm.Cond.fieldLink "ChairFrontModel" (80 : Nat) "ChairFrontModel" "newRentTo" "[I") ∈ WS := mW 820 (by decide +kernel) rfl
theorem q_821 : (Jvm.Cond.fieldLink "ChairFrontModel" (83 : Nat) "ChairFrontModel" "newRentPart" "[I") ∈ WS := mW 821 (by decide +kernel) rfl
theorem q_822 : (Jvm.Cond.fieldLink "ChairFrontModel" (86 : Nat) "ChairFrontModel" "tape" "[I") ∈ WS := mW 822 (by decide +kernel) rfl
theorem q_823 : (Jvm.Cond.fieldLink "ChairFrontModel" (180 : Nat) "ChairFrontModel" "taped" "I") ∈ WS := mW 823 (by decide +kernel) rfl
theorem q_824 : (Jvm.Cond.fieldLink "ChairFrontModel" (260 : Nat) "ChairFrontModel" "latest" "I") ∈ WS := mW 824 (by decide +kernel) rfl
theorem q_825 : (Jvm.Cond.fieldLink "ChairFrontModel" (185 : Nat) "ChairFrontModel" "size" "I") ∈ WS := mW 825 (by decide +kernel) rfl
theorem q_826 : (Jvm.Cond.fieldLink "ChairFrontModel" (188 : Nat) "ChairFrontModel" "at" "I") ∈ WS := mW 826 (by decide +kernel) rfl
theorem q_827 : (Jvm.Cond.fieldLink "ChairFrontModel" (197 : Nat) "ChairFrontModel" "sort" "I") ∈ WS := mW 827 (by decide +kernel) rfl
theorem q_828 : (Jvm.Cond.fieldLink "ChairFrontModel" (194 : Nat) "ChairFrontModel" "from" "I") ∈ WS := mW 828 (by decide +kernel) rfl
theorem q_829 : (Jvm.Cond.fieldLink "ChairFrontModel" (206 : Nat) "ChairFrontModel" "till" "I") ∈ WS := mW 829 (by decide +kernel) rfl
theorem q_830 : (Jvm.Cond.fieldLink "ChairFrontModel" (209 : Nat) "ChairFrontModel" "fault" "I") ∈ WS := mW 830 (by decide +kernel) rfl
theorem q_831 : (Jvm.Cond.fieldLink "ChairFrontModel" (212 : Nat) "ChairFrontModel" "faultAt" "I") ∈ WS := mW 831 (by decide +kernel) rfl
theorem q_832 : (Jvm.Cond.fieldLink "ChairFrontModel" (89 : Nat) "ChairFrontModel" "order" "[I") ∈ WS := mW 832 (by decide +kernel) rfl
theorem q_833 : (Jvm.Cond.fieldLink "ChairFrontModel" (92 : Nat) "ChairFrontModel" "best" "[I") ∈ WS := mW 833 (by decide +kernel) rfl
theorem q_834 : (Jvm.Cond.fieldLink "ChairFrontModel" (95 : Nat) "ChairFrontModel" "trace" "[I") ∈ WS := mW 834 (by decide +kernel) rfl
theorem q_835 : (Jvm.Cond.fieldLink "ChairFrontModel" (276 : Nat) "ChairFrontModel" "traced" "I") ∈ WS := mW 835 (by decide +kernel) rfl
theorem q_947 : (Jvm.Cond.methodLink "ChairFrontLaw" (25 : Nat) ({ cls := "ChairFrontModel", name := "stretch", desc := "(II)I" } : Jvm.MethodName)) ∈ WS := mW 947 (by decide +kernel) rfl
theorem q_948 : (Jvm.Cond.instanceMethod ({ cls := "ChairFrontModel", name := "stretch", desc := "(II)I" } : Jvm.MethodName)) ∈ WS := mW 948 (by decide +kernel) rfl
theorem q_949 : (Jvm.Cond.selects "ChairFrontModel" ({ cls := "ChairFrontModel", name := "stretch", desc := "(II)I" } : Jvm.MethodName) ({ cls := "ChairFrontModel", name := "stretch", desc := "(II)I" } : Jvm.MethodName)) ∈ WS := mW 949 (by decide +kernel) rfl
theorem q_950 : (Jvm.Cond.code ({ cls := "ChairFrontModel", name := "stretch", desc := "(II)I" } : Jvm.MethodName) prog_11_method_5_code (3 : Nat) (Option.some Jvm.ClassFile.FieldType.int)) ∈ WS := mW 950 (by decide +kernel) rfl
theorem q_951 : (Jvm.Cond.constantLong "ChairFrontModel" (108 : Nat) (500 : Int64)) ∈ WS := mW 951 (by decide +kernel) rfl
theorem q_952 : (Jvm.Cond.methodLink "ChairFrontModel" (104 : Nat) ({ cls := "ChairFrontModel", name := "in", desc := "(JJJ)Z" } : Jvm.MethodName)) ∈ WS := mW 952 (by decide +kernel) rfl
theorem q_953 : (Jvm.Cond.static ({ cls := "ChairFrontModel", name := "in", desc := "(JJJ)Z" } : Jvm.MethodName)) ∈ WS := mW 953 (by decide +kernel) rfl
theorem q_954 : (Jvm.Cond.code ({ cls := "ChairFrontModel", name := "in", desc := "(JJJ)Z" } : Jvm.MethodName) prog_11_method_2_code (6 : Nat) (Option.some Jvm.ClassFile.FieldType.boolean)) ∈ WS := mW 954 (by decide +kernel) rfl
theorem q_955 : (Jvm.Cond.constantLong "ChairFrontModel" (110 : Nat) (3 : Int64)) ∈ WS := mW 955 (by decide +kernel) rfl
theorem q_956 : (Jvm.Cond.constant "ChairFrontModel" (112 : Nat) (-1000001 : Int32)) ∈ WS := mW 956 (by decide +kernel) rfl
theorem q_957 : (Jvm.Cond.constant "ChairFrontModel" (113 : Nat) (-1000003 : Int32)) ∈ WS := mW 957 (by decide +kernel) rfl
theorem q_958 : (Jvm.Cond.methodLink "ChairFrontLaw" (30 : Nat) ({ cls := "ChairFrontModel", name := "carry", desc := "(III)I" } : Jvm.MethodName)) ∈ WS := mW 958 (by decide +kernel) rfl
theorem q_959 : (Jvm.Cond.instanceMethod ({ cls := "ChairFrontModel", name := "carry", desc := "(III)I" } : Jvm.MethodName)) ∈ WS := mW 959 (by decide +kernel) rfl
theorem q_960 : (Jvm.Cond.selects "ChairFrontModel" ({ cls := "ChairFrontModel", name := "carry", desc := "(III)I" } : Jvm.MethodName) ({ cls := "ChairFrontModel", name := "carry", desc := "(III)I" } : Jvm.MethodName)) ∈ WS := mW 960 (by decide +kernel) rfl
theorem q_961 : (Jvm.Cond.code ({ cls := "ChairFrontModel", name := "carry", desc := "(III)I" } : Jvm.MethodName) prog_11_method_7_code (4 : Nat) (Option.some Jvm.ClassFile.FieldType.int)) ∈ WS := mW 961 (by decide +kernel) rfl
theorem q_962 : (Jvm.Cond.constant "ChairFrontModel" (114 : Nat) (-1000000 : Int32)) ∈ WS := mW 962 (by decide +kernel) rfl
theorem q_963 : (Jvm.Cond.methodLink "ChairFrontModel" (115 : Nat) ({ cls := "ChairFrontModel", name := "isStretch", desc := "(I)Z" } : Jvm.MethodName)) ∈ WS := mW 963 (by decide +kernel) rfl
theorem q_965 : (Jvm.Cond.instanceMethod ({ cls := "ChairFrontModel", name := "isStretch", desc := "(I)Z" } : Jvm.MethodName)) ∈ WS := mW 965 (by decide +kernel) rfl
theorem q_966 : (Jvm.Cond.code ({ cls := "ChairFrontModel", name := "isStretch", desc := "(I)Z" } : Jvm.MethodName) prog_11_method_4_code (2 : Nat) (Option.some Jvm.ClassFile.FieldType.boolean)) ∈ WS := mW 966 (by decide +kernel) rfl
theorem q_967 : (Jvm.Cond.constantLong "ChairFrontModel" (119 : Nat) (9000 : Int64)) ∈ WS := mW 967 (by decide +kernel) rfl
theorem q_968 : (Jvm.Cond.constant "ChairFrontModel" (121 : Nat) (-1000002 : Int32)) ∈ WS := mW 968 (by decide +kernel) rfl
theorem q_969 : (Jvm.Cond.methodLink "ChairFrontModel" (122 : Nat) ({ cls := "ChairFrontModel", name := "standing", desc := "(I)I" } : Jvm.MethodName)) ∈ WS := mW 969 (by decide +kernel) rfl
theorem q_971 : (Jvm.Cond.instanceMethod ({ cls := "ChairFrontModel", name := "standing", desc := "(I)I" } : Jvm.MethodName)) ∈ WS := mW 971 (by decide +kernel) rfl
theorem q_972 : (Jvm.Cond.code ({ cls := "ChairFrontModel", name := "standing", desc := "(I)I" } : Jvm.MethodName) prog_11_method_6_code (2 : Nat) (Option.some Jvm.ClassFile.FieldType.int)) ∈ WS := mW 972 (by decide +kernel) rfl
theorem q_973 : (Jvm.Cond.methodLink "ChairFrontLaw" (34 : Nat) ({ cls := "ChairFrontModel", name := "told", desc := "(II)I" } : Jvm.MethodName)) ∈ WS := mW 973 (by decide +kernel) rfl
theorem q_974 : (Jvm.Cond.instanceMethod ({ cls := "ChairFrontModel", name := "told", desc := "(II)I" } : Jvm.MethodName)) ∈ WS := mW 974 (by decide +kernel) rfl
theorem q_975 : (Jvm.Cond.selects "ChairFrontModel" ({ cls := "ChairFrontModel", name := "told", desc := "(II)I" } : Jvm.MethodName) ({ cls := "ChairFrontModel", name := "told", desc := "(II)I" } : Jvm.MethodName)) ∈ WS := mW 975 (by decide +kernel) rfl
theorem q_976 : (Jvm.Cond.code ({ cls := "ChairFrontModel", name := "told", desc := "(II)I" } : Jvm.MethodName) prog_11_method_8_code (3 : Nat) (Option.some Jvm.ClassFile.FieldType.int)) ∈ WS := mW 976 (by decide +kernel) rfl
theorem q_977 : (Jvm.Cond.constantLong "ChairFrontModel" (126 : Nat) (5 : Int64)) ∈ WS := mW 977 (by decide +kernel) rfl
theorem q_978 : (Jvm.Cond.methodLink "ChairFrontLaw" (38 : Nat) ({ cls := "ChairFrontModel", name := "rule", desc := "(II)I" } : Jvm.MethodName)) ∈ WS := mW 978 (by decide +kernel) rfl
theorem q_979 : (Jvm.Cond.instanceMethod ({ cls := "ChairFrontModel", name := "rule", desc := "(II)I" } : Jvm.MethodName)) ∈ WS := mW 979 (by decide +kernel) rfl
theorem q_980 : (Jvm.Cond.selects "ChairFrontModel" ({ cls := "ChairFrontModel", name := "rule", desc := "(II)I" } : Jvm.MethodName) ({ cls := "ChairFrontModel", name := "rule", desc := "(II)I" } : Jvm.MethodName)) ∈ WS := mW 980 (by decide +kernel) rfl
theorem q_981 : (Jvm.Cond.code ({ cls := "ChairFrontModel", name := "rule", desc := "(II)I" } : Jvm.MethodName) prog_11_method_9_code (4 : Nat) (Option.some Jvm.ClassFile.FieldType.int)) ∈ WS := mW 981 (by decide +kernel) rfl
theorem q_982 : (Jvm.Cond.constantLong "ChairFrontModel" (128 : Nat) (100 : Int64)) ∈ WS := mW 982 (by decide +kernel) rfl
theorem q_983 : (Jvm.Cond.methodLink "ChairFrontLaw" (43 : Nat) ({ cls := "ChairFrontModel", name := "mend", desc := "(I)I" } : Jvm.MethodName)) ∈ WS := mW 983 (by decide +kernel) rfl
theorem q_984 : (Jvm.Cond.instanceMethod ({ cls := "ChairFrontModel", name := "mend", desc := "(I)I" } : Jvm.MethodName)) ∈ WS := mW 984 (by decide +kernel) rfl
theorem q_985 : (Jvm.Cond.selects "ChairFrontModel" ({ cls := "ChairFrontModel", name := "mend", desc := "(I)I" } : Jvm.MethodName) ({ cls := "ChairFrontModel", name := "mend", desc := "(I)I" } : Jvm.MethodName)) ∈ WS := mW 985 (by decide +kernel) rfl
theorem q_986 : (Jvm.Cond.code ({ cls := "ChairFrontModel", name := "mend", desc := "(I)I" } : Jvm.MethodName) prog_11_method_10_code (2 : Nat) (Option.some Jvm.ClassFile.FieldType.int)) ∈ WS := mW 986 (by decide +kernel) rfl
theorem q_987 : (Jvm.Cond.methodLink "ChairFrontLaw" (47 : Nat) ({ cls := "ChairFrontModel", name := "hire", desc := "(III)I" } : Jvm.MethodName)) ∈ WS := mW 987 (by decide +kernel) rfl
theorem q_988 : (Jvm.Cond.instanceMethod ({ cls := "ChairFrontModel", name := "hire", desc := "(III)I" } : Jvm.MethodName)) ∈ WS := mW 988 (by decide +kernel) rfl
theorem q_989 : (Jvm.Cond.selects "ChairFrontModel" ({ cls := "ChairFrontModel", name := "hire", desc := "(III)I" } : Jvm.MethodName) ({ cls := "ChairFrontModel", name := "hire", desc := "(III)I" } : Jvm.MethodName)) ∈ WS := mW 989 (by decide +kernel) rfl
theorem q_990 : (Jvm.Cond.code ({ cls := "ChairFrontModel", name := "hire", desc := "(III)I" } : Jvm.MethodName) prog_11_method_11_code (4 : Nat) (Option.some Jvm.ClassFile.FieldType.int)) ∈ WS := mW 990 (by decide +kernel) rfl
theorem q_991 : (Jvm.Cond.constantLong "ChairFrontModel" (133 : Nat) (12 : Int64)) ∈ WS := mW 991 (by decide +kernel) rfl
theorem q_992 : (Jvm.Cond.methodLink "ChairFrontLaw" (51 : Nat) ({ cls := "ChairFrontModel", name := "shift", desc := "(II)I" } : Jvm.MethodName)) ∈ WS := mW 992 (by decide +kernel) rfl
theorem q_993 : (Jvm.Cond.instanceMethod ({ cls := "ChairFrontModel", name := "shift", desc := "(II)I" } : Jvm.MethodName)) ∈ WS := mW 993 (by decide +kernel) rfl
theorem q_994 : (Jvm.Cond.selects "ChairFrontModel" ({ cls := "ChairFrontModel", name := "shift", desc := "(II)I" } : Jvm.MethodName) ({ cls := "ChairFrontModel", name := "shift", desc := "(II)I" } : Jvm.MethodName)) ∈ WS := mW 994 (by decide +kernel) rfl
theorem q_995 : (Jvm.Cond.code ({ cls := "ChairFrontModel", name := "shift", desc := "(II)I" } : Jvm.MethodName) prog_11_method_13_code (4 : Nat) (Option.some Jvm.ClassFile.FieldType.int)) ∈ WS := mW 995 (by decide +kernel) rfl
theorem q_996 : (Jvm.Cond.methodLink "ChairFrontModel" (147 : Nat) ({ cls := "ChairFrontModel", name := "slotOf", desc := "(I)I" } : Jvm.MethodName)) ∈ WS := mW 996 (by decide +kernel) rfl
theorem q_998 : (Jvm.Cond.instanceMethod ({ cls := "ChairFrontModel", name := "slotOf", desc := "(I)I" } : Jvm.MethodName)) ∈ WS := mW 998 (by decide +kernel) rfl
theorem q_999 : (Jvm.Cond.code ({ cls := "ChairFrontModel", name := "slotOf", desc := "(I)I" } : Jvm.MethodName) prog_11_method_12_code (4 : Nat) (Option.some Jvm.ClassFile.FieldType.int)) ∈ WS := mW 999 (by decide +kernel) rfl
theorem q_1000 : (Jvm.Cond.methodLink "ChairFrontLaw" (55 : Nat) ({ cls := "ChairFrontModel", name := "ticket", desc := "(II)I" } : Jvm.MethodName)) ∈ WS := mW 1000 (by decide +kernel) rfl
theorem q_1001 : (Jvm.Cond.instanceMethod ({ cls := "ChairFrontModel", name := "ticket", desc := "(II)I" } : Jvm.MethodName)) ∈ WS := mW 1001 (by decide +kernel) rfl
theorem q_1002 : (Jvm.Cond.selects "ChairFrontModel" ({ cls := "ChairFrontModel", name := "ticket", desc := "(II)I" } : Jvm.MethodName) ({ cls := "ChairFrontModel", name := "ticket", desc := "(II)I" } : Jvm.MethodName)) ∈ WS := mW 1002 (by decide +kernel) rfl
theorem q_1003 : (Jvm.Cond.code ({ cls := "ChairFrontModel", name := "ticket", desc := "(II)I" } : Jvm.MethodName) prog_11_method_14_code (4 : Nat) (Option.some Jvm.ClassFile.FieldType.int)) ∈ WS := mW 1003 (by decide +kernel) rfl
theorem q_1004 : (Jvm.Cond.methodLink "ChairFrontLaw" (60 : Nat) ({ cls := "ChairFrontModel", name := "hour", desc := "(IIII)I" } : Jvm.MethodName)) ∈ WS := mW 1004 (by decide +kernel) rfl
theorem q_1005 : (Jvm.Cond.instanceMethod ({ cls := "ChairFrontModel", name := "hour", desc := "(IIII)I" } : Jvm.MethodName)) ∈ WS := mW 1005 (by decide +kernel) rfl
theorem q_1006 : (Jvm.Cond.selects "ChairFrontModel" ({ cls := "ChairFrontModel", name := "hour", desc := "(IIII)I" } : Jvm.MethodName) ({ cls := "ChairFrontModel", name := "hour", desc := "(IIII)I" } : Jvm.MethodName)) ∈ WS := mW 1006 (by decide +kernel) rfl
theorem q_1007 : (Jvm.Cond.code ({ cls := "ChairFrontModel", name := "hour", desc := "(IIII)I" } : Jvm.MethodName) prog_11_method_17_code (7 : Nat) (Option.some Jvm.ClassFile.FieldType.int)) ∈ WS := mW 1007 (by decide +kernel) rfl
theorem q_1008 : (Jvm.Cond.constantLong "ChairFrontModel" (157 : Nat) (1000 : Int64)) ∈ WS := mW 1008 (by decide +kernel) rfl
theorem q_1009 : (Jvm.Cond.constantLong "ChairFrontModel" (159 : Nat) (60 : Int64)) ∈ WS := mW 1009 (by decide +kernel) rfl
theorem q_1010 : (Jvm.Cond.constantLong "ChairFrontModel" (161 : Nat) (10 : Int64)) ∈ WS := mW 1010 (by decide +kernel) rfl
theorem q_1011 : (Jvm.Cond.methodLink "ChairFrontModel" (153 : Nat) ({ cls := "ChairFrontModel", name := "end", desc := "(I)V" } : Jvm.MethodName)) ∈ WS := mW 1011 (by decide +kernel) rfl
theorem q_1013 : (Jvm.Cond.instanceMethod ({ cls := "ChairFrontModel", name := "end", desc := "(I)V" } : Jvm.MethodName)) ∈ WS := mW 1013 (by decide +kernel) rfl
theorem q_1014 : (Jvm.Cond.code ({ cls := "ChairFrontModel", name := "end", desc := "(I)V" } : Jvm.MethodName) prog_11_method_15_code (3 : Nat) (Option.none : Option Jvm.ClassFile.FieldType)) ∈ WS := mW 1014 (by decide +kernel) rfl
theorem q_1015 : (Jvm.Cond.methodLink "ChairFrontModel" (175 : Nat) ({ cls := "ChairFrontModel", name := "tear", desc := "(I)V" } : Jvm.MethodName)) ∈ WS := mW 1015 (by decide +kernel) rfl
theorem q_1017 : (Jvm.Cond.instanceMethod ({ cls := "ChairFrontModel", name := "tear", desc := "(I)V" } : Jvm.MethodName)) ∈ WS := mW 1017 (by decide +kernel) rfl
theorem q_1018 : (Jvm.Cond.code ({ cls := "ChairFrontModel", name := "tear", desc := "(I)V" } : Jvm.MethodName) prog_11_method_16_code (4 : Nat) (Option.none : Option Jvm.ClassFile.FieldType)) ∈ WS := mW 1018 (by decide +kernel) rfl
theorem q_1019 : (Jvm.Cond.methodLink "ChairFrontLaw" (67 : Nat) ({ cls := "ChairFrontModel", name := "feed", desc := "(JI)I" } : Jvm.MethodName)) ∈ WS := mW 1019 (by decide +kernel) rfl
theorem q_1020 : (Jvm.Cond.instanceMethod ({ cls := "ChairFrontModel", name := "feed", desc := "(JI)I" } : Jvm.MethodName)) ∈ WS := mW 1020 (by decide +kernel) rfl
theorem q_1021 : (Jvm.Cond.selects "ChairFrontModel" ({ cls := "ChairFrontModel", name := "feed", desc := "(JI)I" } : Jvm.MethodName) ({ cls := "ChairFrontModel", name := "feed", desc := "(JI)I" } : Jvm.MethodName)) ∈ WS := mW 1021 (by decide +kernel) rfl
theorem q_1022 : (Jvm.Cond.code ({ cls := "ChairFrontModel", name := "feed", desc := "(JI)I" } : Jvm.MethodName) prog_11_method_18_code (5 : Nat) (Option.some Jvm.ClassFile.FieldType.int)) ∈ WS := mW 1022 (by decide +kernel) rfl
theorem q_1023 : (Jvm.Cond.constantLong "ChairFrontModel" (178 : Nat) (8 : Int64)) ∈ WS := mW 1023 (by decide +kernel) rfl
theorem q_1024 : (Jvm.Cond.constantLong "ChairFrontModel" (183 : Nat) (255 : Int64)) ∈ WS := mW 1024 (by decide +kernel) rfl
theorem q_1025 : (Jvm.Cond.methodLink "ChairFrontLaw" (72 : Nat) ({ cls := "ChairFrontModel", name := "rules", desc := "()I" } : Jvm.MethodName)) ∈ WS := mW 1025 (by decide +kernel) rfl
theorem q_1026 : (Jvm.Cond.instanceMethod ({ cls := "ChairFrontModel", name := "rules", desc := "()I" } : Jvm.MethodName)) ∈ WS := mW 1026 (by decide +kernel) rfl
theorem q_1027 : (Jvm.Cond.selects "ChairFrontModel" ({ cls := "ChairFrontModel", name := "rules", desc := "()I" } : Jvm.MethodName) ({ cls := "ChairFrontModel", name := "rules", desc := "()I" } : Jvm.MethodName)) ∈ WS := mW 1027 (by decide +kernel) rfl
theorem q_1028 : (Jvm.Cond.code ({ cls := "ChairFrontModel", name := "rules", desc := "()I" } : Jvm.MethodName) prog_11_method_28_code (3 : Nat) (Option.some Jvm.ClassFile.FieldType.int)) ∈ WS := mW 1028 (by decide +kernel) rfl
theorem q_1029 : (Jvm.Cond.methodLink "ChairFrontModel" (218 : Nat) ({ cls := "ChairFrontModel", name := "step", desc := "()V" } : Jvm.MethodName)) ∈ WS := mW 1029 (by decide +kernel) rfl
theorem q_1031 : (Jvm.Cond.instanceMethod ({ cls := "ChairFrontModel", name := "step", desc := "()V" } : Jvm.MethodName)) ∈ WS := mW 1031 (by decide +kernel) rfl
theorem q_1032 : (Jvm.Cond.code ({ cls := "ChairFrontModel", name := "step", desc := "()V" } : Jvm.MethodName) prog_11_method_22_code (2 : Nat) (Option.none : Option Jvm.ClassFile.FieldType)) ∈ WS := mW 1032 (by decide +kernel) rfl
theorem q_1033 : (Jvm.Cond.methodLink "ChairFrontModel" (191 : Nat) ({ cls := "ChairFrontModel", name := "byteAt", desc := "(I)I" } : Jvm.MethodName)) ∈ WS := mW 1033 (by decide +kernel) rfl
theorem q_1035 : (Jvm.Cond.instanceMethod ({ cls := "ChairFrontModel", name := "byteAt", desc := "(I)I" } : Jvm.MethodName)) ∈ WS := mW 1035 (by decide +kernel) rfl
theorem q_1036 : (Jvm.Cond.code ({ cls := "ChairFrontModel", name := "byteAt", desc := "(I)I" } : Jvm.MethodName) prog_11_method_19_code (2 : Nat) (Option.some Jvm.ClassFile.FieldType.int)) ∈ WS := mW 1036 (by decide +kernel) rfl
theorem q_1037 : (Jvm.Cond.methodLink "ChairFrontModel" (200 : Nat) ({ cls := "ChairFrontModel", name := "isLetter", desc := "(I)Z" } : Jvm.MethodName)) ∈ WS := mW 1037 (by decide +kernel) rfl
theorem q_1038 : (Jvm.Cond.static ({ cls := "ChairFrontModel", name := "isLetter", desc := "(I)Z" } : Jvm.MethodName)) ∈ WS := mW 1038 (by decide +kernel) rfl
theorem q_1039 : (Jvm.Cond.code ({ cls := "ChairFrontModel", name := "isLetter", desc := "(I)Z" } : Jvm.MethodName) prog_11_method_20_code (1 : Nat) (Option.some Jvm.ClassFile.FieldType.boolean)) ∈ WS := mW 1039 (by decide +kernel) rfl
theorem q_1040 : (Jvm.Cond.methodLink "ChairFrontModel" (203 : Nat) ({ cls := "ChairFrontModel", name := "isFigure", desc := "(I)Z" } : Jvm.MethodName)) ∈ WS := mW 1040 (by decide +kernel) rfl
theorem q_1041 : (Jvm.Cond.static ({ cls := "ChairFrontModel", name := "isFigure", desc := "(I)Z" } : Jvm.MethodName)) ∈ WS := mW 1041 (by decide +kernel) rfl
theorem q_1042 : (Jvm.Cond.code ({ cls := "ChairFrontModel", name := "isFigure", desc := "(I)Z" } : Jvm.MethodName) prog_11_method_21_code (1 : Nat) (Option.some Jvm.ClassFile.FieldType.boolean)) ∈ WS := mW 1042 (by decide +kernel) rfl
theorem q_1043 : (Jvm.Cond.methodLink "ChairFrontModel" (257 : Nat) ({ cls := "ChairFrontModel", name := "readLine", desc := "()V" } : Jvm.MethodName)) ∈ WS := mW 1043 (by decide +kernel) rfl
theorem q_1045 : (Jvm.Cond.instanceMethod ({ cls := "ChairFrontModel", name := "readLine", desc := "()V" } : Jvm.MethodName)) ∈ WS := mW 1045 (by decide +kernel) rfl
theorem q_1046 : (Jvm.Cond.code ({ cls := "ChairFrontModel", name := "readLine", desc := "()V" } : Jvm.MethodName) prog_11_method_27_code (7 : Nat) (Option.none : Option Jvm.ClassFile.FieldType)) ∈ WS := mW 1046 (by decide +kernel) rfl
theorem q_1047 : (Jvm.Cond.methodLink "ChairFrontModel" (225 : Nat) ({ cls := "ChairFrontModel", name := "word", desc := "()J" } : Jvm.MethodName)) ∈ WS := mW 1047 (by decide +kernel) rfl
theorem q_1049 : (Jvm.Cond.instanceMethod ({ cls := "ChairFrontModel", name := "word", desc := "()J" } : Jvm.MethodName)) ∈ WS := mW 1049 (by decide +kernel) rfl
theorem q_1050 : (Jvm.Cond.code ({ cls := "ChairFrontModel", name := "word", desc := "()J" } : Jvm.MethodName) prog_11_method_25_code (4 : Nat) (Option.some Jvm.ClassFile.FieldType.long)) ∈ WS := mW 1050 (by decide +kernel) rfl
theorem q_1051 : (Jvm.Cond.constantLong "ChairFrontModel" (229 : Nat) (1918986606 : Int64)) ∈ WS := mW 1051 (by decide +kernel) rfl
theorem q_1052 : (Jvm.Cond.constantLong "ChairFrontModel" (234 : Nat) (1919250036 : Int64)) ∈ WS := mW 1052 (by decide +kernel) rfl
theorem q_1053 : (Jvm.Cond.methodLink "ChairFrontModel" (215 : Nat) ({ cls := "ChairFrontModel", name := "bad", desc := "(I)V" } : Jvm.MethodName)) ∈ WS := mW 1053 (by decide +kernel) rfl
theorem q_1055 : (Jvm.Cond.instanceMethod ({ cls := "ChairFrontModel", name := "bad", desc := "(I)V" } : Jvm.MethodName)) ∈ WS := mW 1055 (by decide +kernel) rfl
theorem q_1056 : (Jvm.Cond.code ({ cls := "ChairFrontModel", name := "bad", desc := "(I)V" } : Jvm.MethodName) prog_11_method_23_code (2 : Nat) (Option.none : Option Jvm.ClassFile.FieldType)) ∈ WS := mW 1056 (by decide +kernel) rfl
theorem q_1057 : (Jvm.Cond.constantLong "ChairFrontModel" (239 : Nat) (1752132708 : Int64)) ∈ WS := mW 1057 (by decide +kernel) rfl
theorem q_1058 : (Jvm.Cond.methodLink "ChairFrontModel" (221 : Nat) ({ cls := "ChairFrontModel", name := "need", desc := "(Z)V" } : Jvm.MethodName)) ∈ WS := mW 1058 (by decide +kernel) rfl
theorem q_1060 : (Jvm.Cond.instanceMethod ({ cls := "ChairFrontModel", name := "need", desc := "(Z)V" } : Jvm.MethodName)) ∈ WS := mW 1060 (by decide +kernel) rfl
theorem q_1061 : (Jvm.Cond.code ({ cls := "ChairFrontModel", name := "need", desc := "(Z)V" } : Jvm.MethodName) prog_11_method_24_code (2 : Nat) (Option.none : Option Jvm.ClassFile.FieldType)) ∈ WS := mW 1061 (by decide +kernel) rfl
theorem q_1062 : (Jvm.Cond.constantLong "ChairFrontModel" (241 : Nat) (2054123109 : Int64)) ∈ WS := mW 1062 (by decide +kernel) rfl
theorem q_1063 : (Jvm.Cond.constantLong "ChairFrontModel" (243 : Nat) (6385273 : Int64)) ∈ WS := mW 1063 (by decide +kernel) rfl
theorem q_1064 : (Jvm.Cond.constantLong "ChairFrontModel" (248 : Nat) (482854658917 : Int64)) ∈ WS := mW 1064 (by decide +kernel) rfl
theorem q_1065 : (Jvm.Cond.constant "ChairFrontModel" (250 : Nat) (99999 : Int32)) ∈ WS := mW 1065 (by decide +kernel) rfl
theorem q_1066 : (Jvm.Cond.methodLink "ChairFrontModel" (251 : Nat) ({ cls := "ChairFrontModel", name := "numberIn", desc := "(II)I" } : Jvm.MethodName)) ∈ WS := mW 1066 (by decide +kernel) rfl
theorem q_1068 : (Jvm.Cond.instanceMethod ({ cls := "ChairFrontModel", name := "numberIn", desc := "(II)I" } : Jvm.MethodName)) ∈ WS := mW 1068 (by decide +kernel) rfl
theorem q_1069 : (Jvm.Cond.code ({ cls := "ChairFrontModel", name := "numberIn", desc := "(II)I" } : Jvm.MethodName) prog_11_method_26_code (5 : Nat) (Option.some Jvm.ClassFile.FieldType.int)) ∈ WS := mW 1069 (by decide +kernel) rfl
theorem q_1070 : (Jvm.Cond.constantLong "ChairFrontModel" (255 : Nat) (1885434484 : Int64)) ∈ WS := mW 1070 (by decide +kernel) rfl
theorem q_1071 : (Jvm.Cond.constant "ChairFrontModel" (263 : Nat) (-1000100 : Int32)) ∈ WS := mW 1071 (by decide +kernel) rfl
theorem q_1072 : (Jvm.Cond.methodLink "ChairFrontLaw" (76 : Nat) ({ cls := "ChairFrontModel", name := "fault", desc := "()I" } : Jvm.MethodName)) ∈ WS := mW 1072 (by decide +kernel) rfl
theorem q_1073 : (Jvm.Cond.instanceMethod ({ cls := "ChairFrontModel", name := "fault", desc := "()I" } : Jvm.MethodName)) ∈ WS := mW 1073 (by decide +kernel) rfl
theorem q_1074 : (Jvm.Cond.selects "ChairFrontModel" ({ cls := "ChairFrontModel", name := "fault", desc := "()I" } : Jvm.MethodName) ({ cls := "ChairFrontModel", name := "fault", desc := "()I" } : Jvm.MethodName)) ∈ WS := mW 1074 (by decide +kernel) rfl
theorem q_1075 : (Jvm.Cond.code ({ cls := "ChairFrontModel", name := "fault", desc := "()I" } : Jvm.MethodName) prog_11_method_29_code (1 : Nat) (Option.some Jvm.ClassFile.FieldType.int)) ∈ WS := mW 1075 (by decide +kernel) rfl
theorem q_1076 : (Jvm.Cond.methodLink "ChairFrontLaw" (80 : Nat) ({ cls := "ChairFrontModel", name := "rent", desc := "(I)I" } : Jvm.MethodName)) ∈ WS := mW 1076 (by decide +kernel) rfl
theorem q_1077 : (Jvm.Cond.instanceMethod ({ cls := "ChairFrontModel", name := "rent", desc := "(I)I" } : Jvm.MethodName)) ∈ WS := mW 1077 (by decide +kernel) rfl
theorem q_1078 : (Jvm.Cond.selects "ChairFrontModel" ({ cls := "ChairFrontModel", name := "rent", desc := "(I)I" } : Jvm.MethodName) ({ cls := "ChairFrontModel", name := "rent", desc := "(I)I" } : Jvm.MethodName)) ∈ WS := mW 1078 (by decide +kernel) rfl
theorem q_1079 : (Jvm.Cond.code ({ cls := "ChairFrontModel", name := "rent", desc := "(I)I" } : Jvm.MethodName) prog_11_method_30_code (7 : Nat) (Option.some Jvm.ClassFile.FieldType.int)) ∈ WS := mW 1079 (by decide +kernel) rfl
theorem q_1080 : (Jvm.Cond.constantLong "ChairFrontModel" (267 : Nat) (1000000 : Int64)) ∈ WS := mW 1080 (by decide +kernel) rfl
theorem q_1081 : (Jvm.Cond.methodLink "ChairFrontLaw" (84 : Nat) ({ cls := "ChairFrontModel", name := "unpaid", desc := "(III)I" } : Jvm.MethodName)) ∈ WS := mW 1081 (by decide +kernel) rfl
theorem q_1082 : (Jvm.Cond.instanceMethod ({ cls := "ChairFrontModel", name := "unpaid", desc := "(III)I" } : Jvm.MethodName)) ∈ WS := mW 1082 (by decide +kernel) rfl
theorem q_1083 : (Jvm.Cond.selects "ChairFrontModel" ({ cls := "ChairFrontModel", name := "unpaid", desc := "(III)I" } : Jvm.MethodName) ({ cls := "ChairFrontModel", name := "unpaid", desc := "(III)I" } : Jvm.MethodName)) ∈ WS := mW 1083 (by decide +kernel) rfl
theorem q_1084 : (Jvm.Cond.code ({ cls := "ChairFrontModel", name := "unpaid", desc := "(III)I" } : Jvm.MethodName) prog_11_method_31_code (4 : Nat) (Option.some Jvm.ClassFile.FieldType.int)) ∈ WS := mW 1084 (by decide +kernel) rfl
theorem q_1085 : (Jvm.Cond.methodLink "ChairFrontLaw" (88 : Nat) ({ cls := "ChairFrontModel", name := "walk", desc := "(II)I" } : Jvm.MethodName)) ∈ WS := mW 1085 (by decide +kernel) rfl
theorem q_1086 : (Jvm.Cond.instanceMethod ({ cls := "ChairFrontModel", name := "walk", desc := "(II)I" } : Jvm.MethodName)) ∈ WS := mW 1086 (by decide +kernel) rfl
theorem q_1087 : (Jvm.Cond.selects "ChairFrontModel" ({ cls := "ChairFrontModel", name := "walk", desc := "(II)I" } : Jvm.MethodName) ({ cls := "ChairFrontModel", name := "walk", desc := "(II)I" } : Jvm.MethodName)) ∈ WS := mW 1087 (by decide +kernel) rfl
theorem q_1088 : (Jvm.Cond.code ({ cls := "ChairFrontModel", name := "walk", desc := "(II)I" } : Jvm.MethodName) prog_11_method_33_code (9 : Nat) (Option.some Jvm.ClassFile.FieldType.int)) ∈ WS := mW 1088 (by decide +kernel) rfl
theorem q_1089 : (Jvm.Cond.methodLink "ChairFrontModel" (269 : Nat) ({ cls := "ChairFrontModel", name := "next", desc := "(I)Z" } : Jvm.MethodName)) ∈ WS := mW 1089 (by decide +kernel) rfl
theorem q_1091 : (Jvm.Cond.instanceMethod ({ cls := "ChairFrontModel", name := "next", desc := "(I)Z" } : Jvm.MethodName)) ∈ WS := mW 1091 (by decide +kernel) rfl
theorem q_1092 : (Jvm.Cond.code ({ cls := "ChairFrontModel", name := "next", desc := "(I)Z" } : Jvm.MethodName) prog_11_method_32_code (7 : Nat) (Option.some Jvm.ClassFile.FieldType.boolean)) ∈ WS := mW 1092 (by decide +kernel) rfl
theorem q_1093 : (Jvm.Cond.methodLink "ChairFrontLaw" (92 : Nat) ({ cls := "ChairFrontModel", name := "kind", desc := "(I)I" } : Jvm.MethodName)) ∈ WS := mW 1093 (by decide +kernel) rfl
theorem q_1094 : (Jvm.Cond.instanceMethod ({ cls := "ChairFrontModel", name := "kind", desc := "(I)I" } : Jvm.MethodName)) ∈ WS := mW 1094 (by decide +kernel) rfl
theorem q_1095 : (Jvm.Cond.selects "ChairFrontModel" ({ cls := "ChairFrontModel", name := "kind", desc := "(I)I" } : Jvm.MethodName) ({ cls := "ChairFrontModel", name := "kind", desc := "(I)I" } : Jvm.MethodName)) ∈ WS := mW 1095 (by decide +kernel) rfl
theorem q_1096 : (Jvm.Cond.code ({ cls := "ChairFrontModel", name := "kind", desc := "(I)I" } : Jvm.MethodName) prog_11_method_35_code (2 : Nat) (Option.some Jvm.ClassFile.FieldType.int)) ∈ WS := mW 1096 (by decide +kernel) rfl
theorem q_1097 : (Jvm.Cond.methodLink "ChairFrontModel" (272 : Nat) ({ cls := "ChairFrontModel", name := "kindOf", desc := "(I)I" } : Jvm.MethodName)) ∈ WS := mW 1097 (by decide +kernel) rfl
theorem q_1099 : (Jvm.Cond.instanceMethod ({ cls := "ChairFrontModel", name := "kindOf", desc := "(I)I" } : Jvm.MethodName)) ∈ WS := mW 1099 (by decide +kernel) rfl
theorem q_1100 : (Jvm.Cond.code ({ cls := "ChairFrontModel", name := "kindOf", desc := "(I)I" } : Jvm.MethodName) prog_11_method_34_code (2 : Nat) (Option.some Jvm.ClassFile.FieldType.int)) ∈ WS := mW 1100 (by decide +kernel) rfl
theorem q_1101 : (Jvm.Cond.methodLink "ChairFrontLaw" (96 : Nat) ({ cls := "ChairFrontModel", name := "as", desc := "(II)I" } : Jvm.MethodName)) ∈ WS := mW 1101 (by decide +kernel) rfl
theorem q_1102 : (Jvm.Cond.instanceMethod ({ cls := "ChairFrontModel", name := "as", desc := "(II)I" } : Jvm.MethodName)) ∈ WS := mW 1102 (by decide +kernel) rfl
theorem q_1103 : (Jvm.Cond.selects "ChairFrontModel" ({ cls := "ChairFrontModel", name := "as", desc := "(II)I" } : Jvm.MethodName) ({ cls := "ChairFrontModel", name := "as", desc := "(II)I" } : Jvm.MethodName)) ∈ WS := mW 1103 (by decide +kernel) rfl
theorem q_1104 : (Jvm.Cond.code ({ cls := "ChairFrontModel", name := "as", desc := "(II)I" } : Jvm.MethodName) prog_11_method_36_code (4 : Nat) (Option.some Jvm.ClassFile.FieldType.int)) ∈ WS := mW 1104 (by decide +kernel) rfl
theorem q_1105 : (Jvm.Cond.constant "ChairFrontModel" (275 : Nat) (-1000004 : Int32)) ∈ WS := mW 1105 (by decide +kernel) rfl
theorem q_1106 : (Jvm.Cond.methodLink "ChairFrontLaw" (100 : Nat) ({ cls := "ChairFrontModel", name := "ask", desc := "(II)I" } : Jvm.MethodName)) ∈ WS := mW 1106 (by decide +kernel) rfl
theorem q_1107 : (Jvm.Cond.instanceMethod ({ cls := "ChairFrontModel", name := "ask", desc := "(II)I" } : Jvm.MethodName)) ∈ WS := mW 1107 (by decide +kernel) rfl
theorem q_1108 : (Jvm.Cond.selects "ChairFrontModel" ({ cls := "ChairFrontModel", name := "ask", desc := "(II)I" } : Jvm.MethodName) ({ cls := "ChairFrontModel", name := "ask", desc := "(II)I" } : Jvm.MethodName)) ∈ WS := mW 1108 (by decide +kernel) rfl
theorem q_1109 : (Jvm.Cond.code ({ cls := "ChairFrontModel", name := "ask", desc := "(II)I" } : Jvm.MethodName) prog_11_method_41_code (3 : Nat) (Option.some Jvm.ClassFile.FieldType.int)) ∈ WS := mW 1109 (by decide +kernel) rfl
theorem q_1110 : (Jvm.Cond.methodLink "ChairFrontModel" (288 : Nat) ({ cls := "ChairFrontModel", name := "worth", desc := "(I)I" } : Jvm.MethodName)) ∈ WS := mW 1110 (by decide +kernel) rfl
theorem q_1112 : (Jvm.Cond.instanceMethod ({ cls := "ChairFrontModel", name := "worth", desc := "(I)I" } : Jvm.MethodName)) ∈ WS := mW 1112 (by decide +kernel) rfl
theorem q_1113 : (Jvm.Cond.code ({ cls := "ChairFrontModel", name := "worth", desc := "(I)I" } : Jvm.MethodName) prog_11_method_40_code (4 : Nat) (Option.some Jvm.ClassFile.FieldType.int)) ∈ WS := mW 1113 (by decide +kernel) rfl
theorem q_1114 : (Jvm.Cond.methodLink "ChairFrontModel" (282 : Nat) ({ cls := "ChairFrontModel", name := "bareWorth", desc := "(I)I" } : Jvm.MethodName)) ∈ WS := mW 1114 (by decide +kernel) rfl
theorem q_1116 : (Jvm.Cond.instanceMethod ({ cls := "ChairFrontModel", name := "bareWorth", desc := "(I)I" } : Jvm.MethodName)) ∈ WS := mW 1116 (by decide +kernel) rfl
theorem q_1117 : (Jvm.Cond.code ({ cls := "ChairFrontModel", name := "bareWorth", desc := "(I)I" } : Jvm.MethodName) prog_11_method_38_code (2 : Nat) (Option.some Jvm.ClassFile.FieldType.int)) ∈ WS := mW 1117 (by decide +kernel) rfl
theorem q_1118 : (Jvm.Cond.methodLink "ChairFrontModel" (279 : Nat) ({ cls := "ChairFrontModel", name := "began", desc := "(I)V" } : Jvm.MethodName)) ∈ WS := mW 1118 (by decide +kernel) rfl
theorem q_1120 : (Jvm.Cond.instanceMethod ({ cls := "ChairFrontModel", name := "began", desc := "(I)V" } : Jvm.MethodName)) ∈ WS := mW 1120 (by decide +kernel) rfl
theorem q_1121 : (Jvm.Cond.code ({ cls := "ChairFrontModel", name := "began", desc := "(I)V" } : Jvm.MethodName) prog_11_method_37_code (2 : Nat) (Option.none : Option Jvm.ClassFile.FieldType)) ∈ WS := mW 1121 (by decide +kernel) rfl
theorem q_1122 : (Jvm.Cond.methodLink "ChairFrontModel" (285 : Nat) ({ cls := "ChairFrontModel", name := "marked", desc := "(I)I" } : Jvm.MethodName)) ∈ WS := mW 1122 (by decide +kernel) rfl
theorem q_1124 : (Jvm.Cond.instanceMethod ({ cls := "ChairFrontModel", name := "marked", desc := "(I)I" } : Jvm.MethodName)) ∈ WS := mW 1124 (by decide +kernel) rfl
theorem q_1125 : (Jvm.Cond.code ({ cls := "ChairFrontModel", name := "marked", desc := "(I)I" } : Jvm.MethodName) prog_11_method_39_code (3 : Nat) (Option.some Jvm.ClassFile.FieldType.int)) ∈ WS := mW 1125 (by decide +kernel) rfl
theorem q_1126 : (Jvm.Cond.methodLink "ChairFrontLaw" (104 : Nat) ({ cls := "ChairFrontModel", name := "trace", desc := "(I)I" } : Jvm.MethodName)) ∈ WS := mW 1126 (by decide +kernel) rfl
theorem q_1127 : (Jvm.Cond.instanceMethod ({ cls := "ChairFrontModel", name := "trace", desc := "(I)I" } : Jvm.MethodName)) ∈ WS := mW 1127 (by decide +kernel) rfl
theorem q_1128 : (Jvm.Cond.selects "ChairFrontModel" ({ cls := "ChairFrontModel", name := "trace", desc := "(I)I" } : Jvm.MethodName) ({ cls := "ChairFrontModel", name := "trace", desc := "(I)I" } : Jvm.MethodName)) ∈ WS := mW 1128 (by decide +kernel) rfl
theorem q_1129 : (Jvm.Cond.code ({ cls := "ChairFrontModel", name := "trace", desc := "(I)I" } : Jvm.MethodName) prog_11_method_42_code (2 : Nat) (Option.some Jvm.ClassFile.FieldType.int)) ∈ WS := mW 1129 (by decide +kernel) rfl
theorem q_1130 : (Jvm.Cond.methodLink "ChairFrontLaw" (108 : Nat) ({ cls := "ChairFrontModel", name := "count", desc := "(I)I" } : Jvm.MethodName)) ∈ WS := mW 1130 (by decide +kernel) rfl
theorem q_1131 : (Jvm.Cond.instanceMethod ({ cls := "ChairFrontModel", name := "count", desc := "(I)I" } : Jvm.MethodName)) ∈ WS := mW 1131 (by decide +kernel) rfl
theorem q_1132 : (Jvm.Cond.selects "ChairFrontModel" ({ cls := "ChairFrontModel", name := "count", desc := "(I)I" } : Jvm.MethodName) ({ cls := "ChairFrontModel", name := "count", desc := "(I)I" } : Jvm.MethodName)) ∈ WS := mW 1132 (by decide +kernel) rfl
theorem q_1133 : (Jvm.Cond.code ({ cls := "ChairFrontModel", name := "count", desc := "(I)I" } : Jvm.MethodName) prog_11_method_43_code (4 : Nat) (Option.some Jvm.ClassFile.FieldType.int)) ∈ WS := mW 1133 (by decide +kernel) rfl
theorem q_1134 : (Jvm.Cond.constantLong "ChairFrontLaw" (61 : Nat) (4294967295 : Int64)) ∈ WS := mW 1134 (by decide +kernel) rfl
theorem q_1135 : (Jvm.Cond.fieldLink "java/lang/String" (9 : Nat) "java/lang/String" "value" "[B") ∈ WS := mW 1135 (by decide +kernel) rfl
theorem q_1136 : (Jvm.Cond.fieldLink "java/lang/String" (15 : Nat) "java/lang/String" "coder" "B") ∈ WS := mW 1136 (by decide +kernel) rfl
theorem lw_0 : ∀ k, k < 2 → (lw_tbl[([258, 260] : List Nat).getD k 0]? = some (u_lay RX0 TX0 k) ∧ goodWord (u_lay RX0 TX0 k) = true) := by decide +kernel
theorem iw_0 : ∀ w ∈ u_ws RX0 TX0 2, w ∈ WS := by
  intro w hw
  unfold u_ws at hw
  obtain ⟨k, hk, rfl⟩ := List.mem_map.mp hw
  obtain ⟨h1, h2⟩ := lw_0 k (List.mem_range.mp hk)
  exact mW _ h1 h2
theorem lw_1 : ∀ k, k < 4 → (lw_tbl[([239, 241, 243, 245] : List Nat).getD k 0]? = some (u_lay RX1 TX1 k) ∧ goodWord (u_lay RX1 TX1 k) = true) := by decide +kernel
theorem iw_1 : ∀ w ∈ u_ws RX1 TX1 4, w ∈ WS := by
  intro w hw
  unfold u_ws at hw
  obtain ⟨k, hk, rfl⟩ := List.mem_map.mp hw
  obtain ⟨h1, h2⟩ := lw_1 k (List.mem_range.mp hk)
  exact mW _ h1 h2
theorem lw_2 : ∀ k, k < 9 → (lw_tbl[([173, 175, 177, 179, 181, 183, 185, 187, 189] : List Nat).getD k 0]? = some (u_lay RX2 TX2 k) ∧ goodWord (u_lay RX2 TX2 k) = true) := by decide +kernel
theorem iw_2 : ∀ w ∈ u_ws RX2 TX2 9, w ∈ WS := by
  intro w hw
  unfold u_ws at hw
  obtain ⟨k, hk, rfl⟩ := List.mem_map.mp hw
  obtain ⟨h1, h2⟩ := lw_2 k (List.mem_range.mp hk)
  exact mW _ h1 h2
theorem lw_3 : ∀ k, k < 8 → (lw_tbl[([211, 213, 215, 217, 219, 221, 223, 225] : List Nat).getD k 0]? = some (u_lay RX3 TX3 k) ∧ goodWord (u_lay RX3 TX3 k) = true) := by decide +kernel
theorem iw_3 : ∀ w ∈ u_ws RX3 TX3 8, w ∈ WS := by
  intro w hw
  unfold u_ws at hw
  obtain ⟨k, hk, rfl⟩ := List.mem_map.mp hw
  obtain ⟨h1, h2⟩ := lw_3 k (List.mem_range.mp hk)
  exact mW _ h1 h2
theorem lw_4 : ∀ k, k < 7 → (lw_tbl[([289, 291, 293, 295, 297, 299, 301] : List Nat).getD k 0]? = some (u_lay RX4 TX4 k) ∧ goodWord (u_lay RX4 TX4 k) = true) := by decide +kernel
theorem iw_4 : ∀ w ∈ u_ws RX4 TX4 7, w ∈ WS := by
  intro w hw
  unfold u_ws at hw
  obtain ⟨k, hk, rfl⟩ := List.mem_map.mp hw
  obtain ⟨h1, h2⟩ := lw_4 k (List.mem_range.mp hk)
  exact mW _ h1 h2
theorem lw_5 : ∀ k, k < 2 → (lw_tbl[([155, 157] : List Nat).getD k 0]? = some (u_lay RX5 TX5 k) ∧ goodWord (u_lay RX5 TX5 k) = true) := by decide +kernel
theorem iw_5 : ∀ w ∈ u_ws RX5 TX5 2, w ∈ WS := by
  intro w hw
  unfold u_ws at hw
  obtain ⟨k, hk, rfl⟩ := List.mem_map.mp hw
  obtain ⟨h1, h2⟩ := lw_5 k (List.mem_range.mp hk)
  exact mW _ h1 h2
theorem lw_6 : ∀ k, k < 7 → (lw_tbl[([105, 107, 109, 111, 113, 115, 117] : List Nat).getD k 0]? = some (u_lay RX6 TX6 k) ∧ goodWord (u_lay RX6 TX6 k) = true) := by decide +kernel
theorem iw_6 : ∀ w ∈ u_ws RX6 TX6 7, w ∈ WS := by
  intro w hw
  unfold u_ws at hw
  obtain ⟨k, hk, rfl⟩ := List.mem_map.mp hw
  obtain ⟨h1, h2⟩ := lw_6 k (List.mem_range.mp hk)
  exact mW _ h1 h2
theorem lw_7 : ∀ k, k < 5 → (lw_tbl[([128, 130, 132, 134, 136] : List Nat).getD k 0]? = some (u_lay RX7 TX7 k) ∧ goodWord (u_lay RX7 TX7 k) = true) := by decide +kernel
theorem iw_7 : ∀ w ∈ u_ws RX7 TX7 5, w ∈ WS := by
  intro w hw
  unfold u_ws at hw
  obtain ⟨k, hk, rfl⟩ := List.mem_map.mp hw
  obtain ⟨h1, h2⟩ := lw_7 k (List.mem_range.mp hk)
  exact mW _ h1 h2
theorem lw_8 : ∀ k, k < 16 → (lw_tbl[([320, 322, 324, 326, 328, 330, 332, 334, 336, 338, 340, 342, 344, 346, 348, 350] : List Nat).getD k 0]? = some (u_lay RX8 TX8 k) ∧ goodWord (u_lay RX8 TX8 k) = true) := by decide +kernel
theorem iw_8 : ∀ w ∈ u_ws RX8 TX8 16, w ∈ WS := by
  intro w hw
  unfold u_ws at hw
  obtain ⟨k, hk, rfl⟩ := List.mem_map.mp hw
  obtain ⟨h1, h2⟩ := lw_8 k (List.mem_range.mp hk)
  exact mW _ h1 h2
theorem lw_9 : ∀ k, k < 55 → (lw_tbl[([836, 838, 840, 842, 844, 846, 848, 850, 852, 854, 856, 858, 860, 862, 864, 866, 868, 870, 872, 874, 876, 878, 880, 882, 884, 886, 888, 890, 892, 894, 896, 898, 900, 902, 904, 906, 908, 910, 912, 914, 916, 918, 920, 922, 924, 926, 928, 930, 932, 934, 936, 938, 940, 942, 944] : List Nat).getD k 0]? = some (u_lay RX9 TX9 k) ∧ goodWord (u_lay RX9 TX9 k) = true) := by decide +kernel
theorem iw_9 : ∀ w ∈ u_ws RX9 TX9 55, w ∈ WS := by
  intro w hw
  unfold u_ws at hw
  obtain ⟨k, hk, rfl⟩ := List.mem_map.mp hw
  obtain ⟨h1, h2⟩ := lw_9 k (List.mem_range.mp hk)
  exact mW _ h1 h2
theorem q_max : Cond.code Lib.Math.max.name Lib.Math.max.code 2 (some .int) ∈ WS := mW 268 (by decide +kernel) rfl
theorem qs_max : Cond.static Lib.Math.max.name ∈ WS := mW 267 (by decide +kernel) rfl
theorem ql_max_66_266 : Cond.methodLink "ChairFront" 66 Lib.Math.max.name ∈ WS := mW 266 (by decide +kernel) rfl
theorem ql_max_41_644 : Cond.methodLink "ChairFront$Rules" 41 Lib.Math.max.name ∈ WS := mW 644 (by decide +kernel) rfl
theorem ql_max_29_672 : Cond.methodLink "ChairFront$Stretch" 29 Lib.Math.max.name ∈ WS := mW 672 (by decide +kernel) rfl
theorem q_min : Cond.code Lib.Math.min.name Lib.Math.min.code 2 (some .int) ∈ WS := mW 265 (by decide +kernel) rfl
theorem qs_min : Cond.static Lib.Math.min.name ∈ WS := mW 264 (by decide +kernel) rfl
theorem ql_min_60_263 : Cond.methodLink "ChairFront" 60 Lib.Math.min.name ∈ WS := mW 263 (by decide +kernel) rfl
theorem ql_min_35_643 : Cond.methodLink "ChairFront$Rules" 35 Lib.Math.min.name ∈ WS := mW 643 (by decide +kernel) rfl
end
section
/-! ONE STATE OF BOTH SYSTEMS: cells 0..62 are the class's, 63..89 the reference's; σ k j is field or element j of cell k -/
abbrev XT : Type := (Nat → ClassId) × (Nat → Nat → Nat) × (Nat → Nat) × (Nat → ClassId) × (Nat → Nat) × (Nat → Nat)
def xD (X : XT) : va_G := (X.1, X.2.1)
def xa (X : XT) : Nat → Nat := X.2.2.1
def xc (X : XT) : Nat → ClassId := X.2.2.2.1
def xk (X : XT) : Nat → Nat := X.2.2.2.2.1
def xv (X : XT) : Nat → Nat := X.2.2.2.2.2
def xA (X : XT) : Nat → Prop := fun q => ∃ k, k < 90 ∧ q = xa X k
abbrev ST : Type := Nat → Nat → Int32
def up (σ : ST) (k j : Nat) (v : Int32) : ST := fun a b => if a = k ∧ b = j then v else σ a b
def kdL : List Nat := [8, 12, 7, 13, 2, 5, 11, 3, 3, 10, 10, 10, 10, 10, 10, 10, 10, 1, 10, 10, 10, 0, 10] ++ List.replicate 10 4 ++ List.replicate 30 6 ++ [9] ++ List.replicate 26 10
def lnL : List Nat := [16, 10, 5, 30, 9, 2, 300, 8, 8, 5, 5, 5, 5, 5, 5, 5, 5, 4, 7, 49, 128, 2, 16] ++ List.replicate 10 7 ++ List.replicate 30 7 ++ [55] ++ List.replicate 7 10 ++ List.replicate 7 30 ++ List.replicate 8 5 ++ [300, 7, 7, 16]
def kd (k : Nat) : Nat := kdL.getD k 99
def ln (k : Nat) : Nat := lnL.getD k 0
/-- what a field holds: 0 a number; c + 1 cell c; 1001 + b cell b + (σ k j) -/
def rtL : List (List Nat) := [[23], [19, 20, 21], [6], [], [], [7], [], [4], [0, 0, 0, 0, 0, 0, 0, 0, 2, 3, 5, 1008, 1008, 0, 18, 22],
  [0, 0, 0, 0, 0, 0, 0, 0, 0, 0, 0, 65, 66, 67, 68, 69, 70, 71, 0, 0, 72, 73, 74, 75, 76, 77, 78, 0, 0, 79, 80, 0, 81, 82, 0, 0, 83, 84, 0, 85, 86, 87, 0, 0, 0, 0, 0, 0, 0, 0, 0, 88, 89, 90, 0]]
def rt (k j : Nat) : Nat := if kd k = 3 ∧ 4 ≤ j then 4 * k - 22 + j else (rtL.getD (kd k) []).getD j 0
def sv (X : XT) (σ : ST) (k j : Nat) : Value := if rt k j = 0 then .int (σ k j) else if 1000 < rt k j then .ref (xa X (rt k j - 1001 + (σ k j).toNatClampNeg)) else .ref (xa X (rt k j - 1))
def en (X : XT) (σ : ST) (k : Nat) : va_E :=
  if kd k < 10 then .inr (kd k, (List.range (ln k)).map (sv X σ k))
  else if kd k = 10 then .inl (xc X 0, ln k, .inl (σ k))
  else if kd k = 11 then .inl (xc X 1, ln k, .inl (σ k))
  else if kd k = 12 then .inl (xc X 2, ln k, .inr (.inr (.inr (.inr (fun j => some (xa X (23 + j)))))))
  else .inl (xc X 3, ln k, .inr (.inr (.inr (.inr (fun j => some (xa X (33 + (σ k j).toNatClampNeg)))))))
def wl (X : XT) (σ : ST) : va_W := (List.range 90).map (fun k => (xa X k, en X σ k))
def okc (ci k : Nat) : Prop := k < 90 ∧ kd k = ci
theorem wl_get (X : XT) (σ : ST) {k : Nat} (h : k < 90) : (wl X σ)[k]? = some (xa X k, en X σ k) := by
  simp [wl, h]
theorem wl_none (X : XT) (σ : ST) {k : Nat} (h : 90 ≤ k) : (wl X σ)[k]? = none := by
  rw [List.getElem?_eq_none_iff]
  simpa [wl] using h
theorem en_congr (X : XT) {σ τ : ST} {k : Nat} (h : τ k = σ k) : en X τ k = en X σ k := by
  have hs : sv X τ k = sv X σ k := by
    funext j
    simp only [sv, h]
  simp only [en, hs, h]
theorem wl_set (X : XT) {σ τ : ST} {k : Nat} {e : va_E} (he : e = en X τ k) (ho : ∀ j, j ≠ k → τ j = σ j) : (wl X σ).set k (xa X k, e) = wl X τ := by
  apply List.ext_getElem?
  intro i
  rw [List.getElem?_set]
  by_cases hi : k = i
  · subst hi
    by_cases hk : k < 90
    · rw [if_pos rfl, if_pos (by simp [wl, hk]), wl_get X τ hk, he]
    · rw [if_pos rfl, if_neg (by simpa [wl] using hk)]
      exact (wl_none X τ (by omega)).symm
  · rw [if_neg hi]
    by_cases hk : i < 90
    · rw [wl_get X σ hk, wl_get X τ hk, en_congr X (ho i (fun z => hi z.symm))]
    · rw [wl_none X σ (by omega), wl_none X τ (by omega)]
theorem up_row {σ : ST} {k j : Nat} {v : Int32} {i : Nat} (h : i ≠ k) : up σ k j v i = σ i := by
  funext b
  simp [up, h]
theorem up_self (σ : ST) (k j : Nat) (v : Int32) : up σ k j v k j = v := by simp [up]
theorem up_ne (σ : ST) {k j a b : Nat} (v : Int32) (h : ¬ (a = k ∧ b = j)) : up σ k j v a b = σ a b := if_neg h
theorem up_upd (σ : ST) (k j : Nat) (v : Int32) : up σ k j v k = upd (σ k) j v := by
  funext b
  simp [up, upd]
theorem wl_D {X : XT} {A : Nat → Prop} (σ : ST) (ha : ∀ i j, i < 90 → j < 90 → xa X i = xa X j → i = j) (hA : ∀ k, k < 90 → A (xa X k)) : va_D A (wl X σ) := by
  have hg : ∀ (i : Nat) (p : Nat × va_E), (wl X σ)[i]? = some p → i < 90 ∧ p.1 = xa X i := by
    intro i p hp
    by_cases hi : i < 90
    · rw [wl_get X σ hi] at hp
      cases hp
      exact ⟨hi, rfl⟩
    · rw [wl_none X σ (by omega)] at hp
      cases hp
  refine ⟨fun i j p q hp hq e => ?_, fun k q hq => ?_⟩
  · obtain ⟨h1, h2⟩ := hg i p hp
    obtain ⟨h3, h4⟩ := hg j q hq
    exact ha i j h1 h3 (by rw [← h2, ← h4]; exact e)
  · obtain ⟨h1, h2⟩ := hg k q hq
    rw [h2]
    exact hA k h1
theorem kd_ln : ∀ k, k < 90 → kd k < 10 → (vwCl[kd k]?).map (fun q => q.2.2) = some (ln k) := by decide +kernel
theorem en_obj (X : XT) (σ : ST) {ci k : Nat} {C : String} {T : u_T} {N : Nat} (hk : okc ci k) (hc : vwCl[ci]? = some (C, T, N)) : en X σ k = .inr (ci, (List.range N).map (sv X σ k)) ∧ ci < 10 := by
  obtain ⟨h1, h2⟩ := hk
  have h10 : ci < 10 := (List.getElem?_eq_some_iff.mp hc).1
  have h3 := kd_ln k h1 (by rw [h2]; exact h10)
  rw [h2, hc] at h3
  have h4 : N = ln k := Option.some.inj h3
  refine ⟨?_, h10⟩
  unfold en
  rw [if_pos (by rw [h2]; exact h10), h2, h4]
theorem en_int (X : XT) (σ : ST) {k : Nat} (hk : okc 10 k) : en X σ k = .inl (xc X 0, ln k, .inl (σ k)) := by
  unfold en
  rw [hk.2]
  rfl
theorem en_byte (X : XT) (σ : ST) {k : Nat} (hk : okc 11 k) : en X σ k = .inl (xc X 1, ln k, .inl (σ k)) := by
  unfold en
  rw [hk.2]
  rfl
theorem en_sts (X : XT) (σ : ST) {k : Nat} (hk : okc 12 k) : en X σ k = .inl (xc X 2, ln k, .inr (.inr (.inr (.inr (fun j => some (xa X (23 + j))))))) := by
  unfold en
  rw [hk.2]
  rfl
theorem en_tks (X : XT) (σ : ST) {k : Nat} (hk : okc 13 k) : en X σ k = .inl (xc X 3, ln k, .inr (.inr (.inr (.inr (fun j => some (xa X (33 + (σ k j).toNatClampNeg))))))) := by
  unfold en
  rw [hk.2]
  rfl
/-! the tables, the texts and statics that nobody writes -/
abbrev tyL (X : XT) : List (ClassId × FieldType) := [(xc X 0, .int), (xc X 1, .byte), (xc X 2, .object RX4), (xc X 3, .object RX6)]
def txL : List (Nat × String) := [(35, "hold"), (44, "rain"), (49, "rent"), (58, "zone"), (62, "any"), (64, "place"), (104, "part")]
def lenS : List Nat := [4, 4, 4, 4, 3, 5, 4]
def bytS : List (List Int32) := [[104, 111, 108, 100], [114, 97, 105, 110], [114, 101, 110, 116], [122, 111, 110, 101], [97, 110, 121], [112, 108, 97, 99, 101], [112, 97, 114, 116]]
def Kb (X : XT) (U : State) : Prop := va_K (xD X) vwCl (tyL X) U ∧ va_Nw (.methodLinkNest RX2 105 yX8_within RX8) U ∧ va_Nw (.methodLinkNest RX1 46 yX8_within RX8) U ∧ ∀ i, i < 7 → vk_R RX2 (txL.getD i (0, "")).1 (txL.getD i (0, "")).2 (xk X i) U
def Sb (X : XT) (A : Nat → Prop) (U : State) (H : Heap) : Prop := vk_S 7 lenS bytS (xk X) (xv X) A U H ∧ va_Z "java/lang/String" "COMPACT_STRINGS" "Z" (.int 1) A U H ∧ va_Zq "jdk/internal/util/Preconditions" "SIOOBE_FORMATTER" "Ljava/util/function/BiFunction;" A U H
theorem Kb.warm {X : XT} {s U : State} (hW : s.WarmedH U.vm) (h : Kb X s) : Kb X U := ⟨va_K.moved hW.alike h.1, va_Nw.warmM hW h.2.1, va_Nw.warmM hW h.2.2.1, fun i hi => vk_R.warm hW (h.2.2.2 i hi)⟩
theorem Kb.same {X : XT} {s U : State} (hv : U.vm = s.vm) (h : Kb X s) : Kb X U := ⟨va_K.moved (hv ▸ Vm.Alike.refl s.vm) h.1, va_Nw.same rfl hv.symm h.2.1, va_Nw.same rfl hv.symm h.2.2.1, fun i hi => vk_R.same hv (h.2.2.2 i hi)⟩
theorem Sb.moved {X : XT} {A : Nat → Prop} {u U : State} {H : Heap} (hvm : u.vm.Alike U.vm) (h : Sb X A u H) : Sb X A U H := ⟨h.1.moved hvm, h.2.1.moved hvm, h.2.2.moved hvm⟩
theorem Sb.kept {X : XT} {A : Nat → Prop} {U : State} {H H1 : Heap} (h : Sb X A U H) (hq : ∀ a : Nat, a < H.size → ¬ A a → H1[a]? = H[a]?) : Sb X A U H1 := ⟨h.1.kept hq, h.2.1.kept hq, h.2.2.kept hq⟩
theorem Sb.narrow {X : XT} {A B : Nat → Prop} {U : State} {H : Heap} (h : Sb X A U H) (hAB : ∀ q, B q → A q) : Sb X B U H := ⟨h.1.narrow hAB, h.2.1.narrow hAB, h.2.2.narrow hAB⟩
/-- a method's start: the state σ, all cells apart -/
def Pw (X : XT) (σ : ST) (U : State) : Prop := va_P (xD X) vwCl (wl X σ) U.heap ∧ Kb X U ∧ Sb X (xA X) U U.heap ∧ ∀ i j, i < 90 → j < 90 → xa X i = xa X j → i = j
abbrev Bw (X : XT) (σ : ST) (t : State) : Prop := va_P (xD X) vwCl (wl X σ) t.heap
def rv (X : XT) (r : Option Nat) : Value := match r with
  | none => .null
  | some k => .ref (xa X k)
def va_Qo (X : XT) (post : Option Nat → ST → Prop) : Array Value → State → Outcome → State → Prop := fun _ st oc t => (∃ (r : Option Nat) (u : ST), oc = .returned (some (rv X r)) ∧ post r u ∧ Bw X u t) ∧ va_F (xA X) st t
abbrev MetI (l : Launch) (y : MethodName) (ws : List Cond) (rm : Room) (X : XT) (σ : ST) (As : List Value) (Q : Int32 → ST → Prop) : Prop := Met l y ws rm (va_Pc As (Pw X σ)) (va_Qi Q (Bw X) (xA X)) 0 0 (xA X)
abbrev MetL (l : Launch) (y : MethodName) (ws : List Cond) (rm : Room) (X : XT) (σ : ST) (As : List Value) (Q : Int64 → ST → Prop) : Prop := Met l y ws rm (va_Pc As (Pw X σ)) (va_Ql Q (Bw X) (xA X)) 0 0 (xA X)
abbrev MetV (l : Launch) (y : MethodName) (ws : List Cond) (rm : Room) (X : XT) (σ : ST) (As : List Value) (Q : ST → Prop) : Prop := Met l y ws rm (va_Pc As (Pw X σ)) (va_Qv Q (Bw X) (xA X)) 0 0 (xA X)
abbrev MetO (l : Launch) (y : MethodName) (ws : List Cond) (rm : Room) (X : XT) (σ : ST) (As : List Value) (Q : Option Nat → ST → Prop) : Prop := Met l y ws rm (va_Pc As (Pw X σ)) (va_Qo X Q) 0 0 (xA X)
/-! the locals, by their places -/
def Lv (ls : Array Slot) (nL : Nat) (lv : List (Option Value)) : Prop := ls.size = nL ∧ lv_wf ls ∧ ∀ (i : Nat) (v : Value), lv[i]? = some (some v) → ls[i]? = some (.val v)
def lvl (lv : List (Option Value)) : List (Nat × Value) := (List.range lv.length).filterMap (fun i => match lv[i]? with | some (some v) => some (i, v) | _ => none)
theorem lvl_mem {lv : List (Option Value)} {q : Nat × Value} : q ∈ lvl lv ↔ lv[q.1]? = some (some q.2) := by
  unfold lvl
  rw [List.mem_filterMap]
  constructor
  · rintro ⟨i, -, h⟩
    split at h
    · rename_i v hv
      cases h
      exact hv
    · cases h
  · intro h
    refine ⟨q.1, ?_, ?_⟩
    · rw [List.mem_range]
      exact (List.getElem?_eq_some_iff.mp h).1
    · rw [h]
theorem Lv.has {ls : Array Slot} {nL : Nat} {lv : List (Option Value)} (h : Lv ls nL lv) : lv_has ls nL (lvl lv) := ⟨h.1, h.2.1, fun q hq => h.2.2 q.1 q.2 (lvl_mem.mp hq)⟩
/-- no long ends at i -/
def pv (lv : List (Option Value)) (i : Nat) : Bool := match i with
  | 0 => true
  | j + 1 => match lv[j]? with
    | some (some w) => w.category == 1
    | _ => true
theorem pv_ok {lv : List (Option Value)} {i j : Nat} {w : Value} (h : pv lv i = true) (hj : lv[j]? = some (some w)) : ¬ (j + 1 = i ∧ w.category = 2) := by
  rintro ⟨rfl, h2⟩
  simp [pv, hj, h2] at h
theorem Lv.store1 {ls : Array Slot} {nL : Nat} {lv : List (Option Value)} {i : Nat} {v : Value} (h : Lv ls nL lv) (hi : i < nL) (hc : v.category = 1) (hp : pv lv i = true) : ∃ ls', storeLocals ls i v = some ls' ∧ Lv ls' nL (lv.set i (some v)) := by
  obtain ⟨ls', e, h1, h2, h3⟩ := lv_store1 h.has hi hc
  refine ⟨ls', e, h1, h2, fun j w hw => ?_⟩
  by_cases hj : i = j
  · subst hj
    rw [List.getElem?_set] at hw
    split at hw
    · split at hw
      · cases hw
        exact h3 (i, v) List.mem_cons_self
      · cases hw
    · rename_i hn; exact absurd rfl hn
  · rw [List.getElem?_set_ne hj] at hw
    refine h3 (j, w) (List.mem_cons_of_mem _ (List.mem_filter.mpr ⟨lvl_mem.mpr hw, ?_⟩))
    have := pv_ok hp hw
    simp only [Bool.and_eq_true, Bool.not_eq_true', beq_eq_false_iff_ne, Bool.and_eq_false_iff]
    refine ⟨fun z => hj z.symm, ?_⟩
    by_cases h1 : j + 1 = i
    · right
      intro z
      exact this ⟨h1, z⟩
    · left
      exact h1
theorem Lv.store2 {ls : Array Slot} {nL : Nat} {lv : List (Option Value)} {i : Nat} {v : Value} (h : Lv ls nL lv) (hi : i + 1 < nL) (hc : v.category = 2) (hp : pv lv i = true) : ∃ ls', storeLocals ls i v = some ls' ∧ Lv ls' nL ((lv.set i (some v)).set (i + 1) none) := by
  obtain ⟨ls', e, h1, h2, h3⟩ := lv_store2 h.has hi hc
  refine ⟨ls', e, h1, h2, fun j w hw => ?_⟩
  by_cases hj1 : i + 1 = j
  · subst hj1
    rw [List.getElem?_set] at hw
    split at hw
    · split at hw <;> cases hw
    · rename_i hn; exact absurd rfl hn
  rw [List.getElem?_set_ne hj1] at hw
  by_cases hj : i = j
  · subst hj
    rw [List.getElem?_set] at hw
    split at hw
    · split at hw
      · cases hw
        exact h3 (i, v) List.mem_cons_self
      · cases hw
    · rename_i hn; exact absurd rfl hn
  · rw [List.getElem?_set_ne hj] at hw
    refine h3 (j, w) (List.mem_cons_of_mem _ (List.mem_filter.mpr ⟨lvl_mem.mpr hw, ?_⟩))
    have := pv_ok hp hw
    simp only [Bool.and_eq_true, Bool.not_eq_true', beq_eq_false_iff_ne, Bool.and_eq_false_iff]
    refine ⟨fun z => hj z.symm, fun z => hj1 z.symm, ?_⟩
    by_cases h1 : j + 1 = i
    · right
      intro z
      exact this ⟨h1, z⟩
    · left
      exact h1
def lvE : List Value → List (Option Value)
  | [] => []
  | v :: vs => if v.category = 2 then some v :: none :: lvE vs else some v :: lvE vs
theorem lvE_args : ∀ (vs : List Value) (b i : Nat) (v : Value), (lvE vs)[i]? = some (some v) → (b + i, v) ∈ lv_args b vs := by
  intro vs
  induction vs with
  | nil => intro b i v h; simp [lvE] at h
  | cons w vs ih =>
    intro b i v h
    unfold lvE at h
    unfold lv_args
    by_cases hc : w.category = 2
    · rw [if_pos hc] at h ⊢
      match i, h with
      | 0, h => simp at h; subst h; simp
      | 1, h => simp at h
      | i + 2, h =>
        have h' : (lvE vs)[i]? = some (some v) := by simpa using h
        have := ih (b + 2) i v h'
        rw [show b + (i + 2) = b + 2 + i by omega]
        exact List.mem_cons_of_mem _ this
    · rw [if_neg hc] at h ⊢
      match i, h with
      | 0, h => simp at h; subst h; simp
      | i + 1, h =>
        have h' : (lvE vs)[i]? = some (some v) := by simpa using h
        have := ih (b + 1) i v h'
        rw [show b + (i + 1) = b + 1 + i by omega]
        exact List.mem_cons_of_mem _ this
theorem Lv.entry (vs : List Value) {n k : Nat} (h : (lg_sl vs).length ≤ n) : Lv ((lg_sl vs ++ List.replicate (n - (lg_sl vs).length) Slot.unset).toArray) n (lvE vs ++ List.replicate k none) := by
  obtain ⟨h1, h2, h3⟩ := lv_entry vs h
  refine ⟨h1, h2, fun i v hv => ?_⟩
  rw [List.getElem?_append] at hv
  split at hv
  · have := h3 _ (lvE_args vs 0 i v hv)
    simpa using this
  · rw [List.getElem?_replicate] at hv
    split at hv <;> cases hv
theorem okc_st : ∀ i, i < 10 → kd (23 + i) = 4 := by decide +kernel
theorem okc_tk : ∀ i, i < 30 → kd (33 + i) = 6 := by decide +kernel
theorem okS {i : Nat} (h : i < 10) : okc 4 (23 + i) := ⟨by omega, okc_st i h⟩
theorem okT {i : Nat} (h : i < 30) : okc 6 (33 + i) := ⟨by omega, okc_tk i h⟩
end
section
/-! THE WALK OVER σ: a row an instruction; the heap, the locals and the frame are inside G -/
section GR
variable {p : Program} {l : Launch} {e : Env} {R : Room} {s : State} {m : MethodId} {args : Array Value} {below : List Frame} {meth : Method} {c : Code} {X : XT} {A : Nat → Prop} {nL cells slots : Nat} {Qf : State → Prop} {cc : ByteArray} {own : String}
def G (p : Program) (l : Launch) (e : Env) (R : Room) (s : State) (m : MethodId) (args : Array Value) (below : List Frame) (meth : Method) (c : Code) (X : XT) (A : Nat → Prop) (nL cells slots : Nat) (Qf : State → Prop) (σ : ST) (pc : Nat) (lv : List (Option Value)) (st : List Value) : Prop :=
  ∀ (H : Heap) (locs : List Loc) (ls : Array Slot), va_P (xD X) vwCl (wl X σ) H → va_S A s.heap H locs → Lv ls nL lv → W p l e R s m args below meth c H locs cells slots Qf (F0 m pc ls st)
/-- what stands all the way through a method -/
def Ev (p : Program) (R : Room) (s : State) (m : MethodId) (args : Array Value) (meth : Method) (c : Code) (X : XT) (A : Nat → Prop) (nL cells slots : Nat) (cc : ByteArray) (own : String) : Prop :=
  p.tables.exec = Jvm.exec ∧ c.code = cc ∧ c.maxLocals = nL ∧ s.vm.findClass own = some m.cls ∧ (∀ w ∈ WS, w.before args s = true) ∧ Kb X s ∧ Sb X A s s.heap ∧ (∀ i j, i < 90 → j < 90 → xa X i = xa X j → i = j) ∧ (∀ k, k < 90 → A (xa X k)) ∧ meth.locks = false ∧ cells ≤ R.cells ∧ slots ≤ R.slots
theorem Ev.x (E : Ev p R s m args meth c X A nL cells slots cc own) : p.tables.exec = Jvm.exec := E.1
theorem Ev.b (E : Ev p R s m args meth c X A nL cells slots cc own) : c.code = cc := E.2.1
theorem Ev.ml (E : Ev p R s m args meth c X A nL cells slots cc own) : c.maxLocals = nL := E.2.2.1
theorem Ev.ow (E : Ev p R s m args meth c X A nL cells slots cc own) : s.vm.findClass own = some m.cls := E.2.2.2.1
theorem Ev.ts (E : Ev p R s m args meth c X A nL cells slots cc own) : ∀ w ∈ WS, w.before args s = true := E.2.2.2.2.1
theorem Ev.kb (E : Ev p R s m args meth c X A nL cells slots cc own) : Kb X s := E.2.2.2.2.2.1
theorem Ev.sb (E : Ev p R s m args meth c X A nL cells slots cc own) : Sb X A s s.heap := E.2.2.2.2.2.2.1
theorem Ev.ap (E : Ev p R s m args meth c X A nL cells slots cc own) : ∀ i j, i < 90 → j < 90 → xa X i = xa X j → i = j := E.2.2.2.2.2.2.2.1
theorem Ev.ia (E : Ev p R s m args meth c X A nL cells slots cc own) : ∀ k, k < 90 → A (xa X k) := E.2.2.2.2.2.2.2.2.1
theorem Ev.lk (E : Ev p R s m args meth c X A nL cells slots cc own) : meth.locks = false := E.2.2.2.2.2.2.2.2.2.1
theorem Ev.rc (E : Ev p R s m args meth c X A nL cells slots cc own) : cells ≤ R.cells := E.2.2.2.2.2.2.2.2.2.2.1
theorem Ev.rs (E : Ev p R s m args meth c X A nL cells slots cc own) : slots ≤ R.slots := E.2.2.2.2.2.2.2.2.2.2.2
theorem Ev.D (E : Ev p R s m args meth c X A nL cells slots cc own) (σ : ST) : va_D A (wl X σ) := wl_D σ E.ap E.ia
variable {σ : ST} {pc : Nat} {lv lv' : List (Option Value)} {st : List Value}
theorem r_iconst (E : Ev p R s m args meth c X A nL cells slots cc own) {n : Int} {v : Int32} (hd : decode cc pc = .ok (.iconst n, 1)) (hv : Int32.ofInt n = v) (k : G p l e R s m args below meth c X A nL cells slots Qf σ (pc + 1) lv (.int v :: st)) : G p l e R s m args below meth c X A nL cells slots Qf σ pc lv st :=
  fun H locs ls hP hS hl => lv_iconst E.x E.b hd hv (k H locs ls hP hS hl)
theorem r_bipush (E : Ev p R s m args meth c X A nL cells slots cc own) {n : Int} {v : Int32} (hd : decode cc pc = .ok (.bipush n, 2)) (hv : (Int8.ofInt n).toInt32 = v) (k : G p l e R s m args below meth c X A nL cells slots Qf σ (pc + 2) lv (.int v :: st)) : G p l e R s m args below meth c X A nL cells slots Qf σ pc lv st :=
  fun H locs ls hP hS hl => lv_bipush E.x E.b hd hv (k H locs ls hP hS hl)
theorem r_sipush (E : Ev p R s m args meth c X A nL cells slots cc own) {n : Int} {v : Int32} (hd : decode cc pc = .ok (.sipush n, 3)) (hv : (Int16.ofInt n).toInt32 = v) (k : G p l e R s m args below meth c X A nL cells slots Qf σ (pc + 3) lv (.int v :: st)) : G p l e R s m args below meth c X A nL cells slots Qf σ pc lv st :=
  fun H locs ls hP hS hl => lv_sipush E.x E.b hd hv (k H locs ls hP hS hl)
theorem r_lconst (E : Ev p R s m args meth c X A nL cells slots cc own) {n : Fin 2} {v : Int64} (hd : decode cc pc = .ok (.lconst n, 1)) (hv : Int64.ofNat (n : Nat) = v) (k : G p l e R s m args below meth c X A nL cells slots Qf σ (pc + 1) lv (.long v :: st)) : G p l e R s m args below meth c X A nL cells slots Qf σ pc lv st :=
  fun H locs ls hP hS hl => lv_lconst E.x E.b hd hv (k H locs ls hP hS hl)
theorem r_ldc (E : Ev p R s m args meth c X A nL cells slots cc own) {index : Nat} {v : Int32} (hw : Cond.constant own index v ∈ WS) (hd : decode cc pc = .ok (.ldc index, 2)) (k : G p l e R s m args below meth c X A nL cells slots Qf σ (pc + 2) lv (.int v :: st)) : G p l e R s m args below meth c X A nL cells slots Qf σ pc lv st :=
  fun H locs ls hP hS hl => lv_ldc E.x E.b E.ow (E.ts _ hw) hd (k H locs ls hP hS hl)
theorem r_ldc2 (E : Ev p R s m args meth c X A nL cells slots cc own) {index : Nat} {v : Int64} (hw : Cond.constantLong own index v ∈ WS) (hd : decode cc pc = .ok (.ldc2_w index, 3)) (k : G p l e R s m args below meth c X A nL cells slots Qf σ (pc + 3) lv (.long v :: st)) : G p l e R s m args below meth c X A nL cells slots Qf σ pc lv st :=
  fun H locs ls hP hS hl => lv_ldc2 E.x E.b E.ow (E.ts _ hw) hd (k H locs ls hP hS hl)
theorem r_iload_n (E : Ev p R s m args meth c X A nL cells slots cc own) {j : Fin 4} {i : Nat} {x : Int32} (hd : decode cc pc = .ok (.iload_n j, 1)) (hi : (j : Nat) = i) (hg : lv[i]? = some (some (.int x))) (k : G p l e R s m args below meth c X A nL cells slots Qf σ (pc + 1) lv (.int x :: st)) : G p l e R s m args below meth c X A nL cells slots Qf σ pc lv st :=
  fun H locs ls hP hS hl => lv_iload_n E.x E.b hd hi (hl.2.2 _ _ hg) (k H locs ls hP hS hl)
theorem r_iload (E : Ev p R s m args meth c X A nL cells slots cc own) {i : Nat} {x : Int32} (hd : decode cc pc = .ok (.iload i, 2)) (hg : lv[i]? = some (some (.int x))) (k : G p l e R s m args below meth c X A nL cells slots Qf σ (pc + 2) lv (.int x :: st)) : G p l e R s m args below meth c X A nL cells slots Qf σ pc lv st :=
  fun H locs ls hP hS hl => lv_iload E.x E.b hd (hl.2.2 _ _ hg) (k H locs ls hP hS hl)
theorem r_lload_n (E : Ev p R s m args meth c X A nL cells slots cc own) {j : Fin 4} {i : Nat} {x : Int64} (hd : decode cc pc = .ok (.lload_n j, 1)) (hi : (j : Nat) = i) (hg : lv[i]? = some (some (.long x))) (k : G p l e R s m args below meth c X A nL cells slots Qf σ (pc + 1) lv (.long x :: st)) : G p l e R s m args below meth c X A nL cells slots Qf σ pc lv st :=
  fun H locs ls hP hS hl => lv_lload_n E.x E.b hd hi (hl.2.2 _ _ hg) (k H locs ls hP hS hl)
theorem r_lload (E : Ev p R s m args meth c X A nL cells slots cc own) {i : Nat} {x : Int64} (hd : decode cc pc = .ok (.lload i, 2)) (hg : lv[i]? = some (some (.long x))) (k : G p l e R s m args below meth c X A nL cells slots Qf σ (pc + 2) lv (.long x :: st)) : G p l e R s m args below meth c X A nL cells slots Qf σ pc lv st :=
  fun H locs ls hP hS hl => lv_lload E.x E.b hd (hl.2.2 _ _ hg) (k H locs ls hP hS hl)
theorem r_aload_n (E : Ev p R s m args meth c X A nL cells slots cc own) {j : Fin 4} {i : Nat} {x : Nat} (hd : decode cc pc = .ok (.aload_n j, 1)) (hi : (j : Nat) = i) (hg : lv[i]? = some (some (.ref x))) (k : G p l e R s m args below meth c X A nL cells slots Qf σ (pc + 1) lv (.ref x :: st)) : G p l e R s m args below meth c X A nL cells slots Qf σ pc lv st :=
  fun H locs ls hP hS hl => lv_aload_n E.x E.b hd hi (hl.2.2 _ _ hg) (k H locs ls hP hS hl)
theorem r_aload (E : Ev p R s m args meth c X A nL cells slots cc own) {i : Nat} {x : Nat} (hd : decode cc pc = .ok (.aload i, 2)) (hg : lv[i]? = some (some (.ref x))) (k : G p l e R s m args below meth c X A nL cells slots Qf σ (pc + 2) lv (.ref x :: st)) : G p l e R s m args below meth c X A nL cells slots Qf σ pc lv st :=
  fun H locs ls hP hS hl => lv_aload E.x E.b hd (hl.2.2 _ _ hg) (k H locs ls hP hS hl)
theorem r_aload_nN (E : Ev p R s m args meth c X A nL cells slots cc own) {j : Fin 4} {i : Nat} (hd : decode cc pc = .ok (.aload_n j, 1)) (hi : (j : Nat) = i) (hg : lv[i]? = some (some .null)) (k : G p l e R s m args below meth c X A nL cells slots Qf σ (pc + 1) lv (.null :: st)) : G p l e R s m args below meth c X A nL cells slots Qf σ pc lv st :=
  fun H locs ls hP hS hl => lv_aload_nN E.x E.b hd hi (hl.2.2 _ _ hg) (k H locs ls hP hS hl)
theorem r_istore_n (E : Ev p R s m args meth c X A nL cells slots cc own) {j : Fin 4} {i : Nat} {x : Int32} (hd : decode cc pc = .ok (.istore_n j, 1)) (hi : (j : Nat) = i) (hn : Nat.ble (i + 1) nL = true) (hp : pv lv i = true) (hs : lv.set i (some (.int x)) = lv') (k : G p l e R s m args below meth c X A nL cells slots Qf σ (pc + 1) lv' st) : G p l e R s m args below meth c X A nL cells slots Qf σ pc lv (.int x :: st) := by
  subst hi
  intro H locs ls hP hS hl T hT Z
  obtain ⟨ls', e', h'⟩ := hl.store1 (v := .int x) (Nat.le_of_ble_eq_true hn) rfl hp
  obtain ⟨t, a, b⟩ := k H locs ls' hP hS (hs ▸ h') T hT Z
  refine ⟨t, ?_, b⟩
  jvm_step Z.here [Z.here.top, ↓top_set Z.here.top, E.x, E.b, hd, e']
  exact a
theorem r_istore (E : Ev p R s m args meth c X A nL cells slots cc own) {i : Nat} {x : Int32} (hd : decode cc pc = .ok (.istore i, 2)) (hn : Nat.ble (i + 1) nL = true) (hp : pv lv i = true) (hs : lv.set i (some (.int x)) = lv') (k : G p l e R s m args below meth c X A nL cells slots Qf σ (pc + 2) lv' st) : G p l e R s m args below meth c X A nL cells slots Qf σ pc lv (.int x :: st) := by
  intro H locs ls hP hS hl T hT Z
  obtain ⟨ls', e', h'⟩ := hl.store1 (v := .int x) (Nat.le_of_ble_eq_true hn) rfl hp
  obtain ⟨t, a, b⟩ := k H locs ls' hP hS (hs ▸ h') T hT Z
  refine ⟨t, ?_, b⟩
  jvm_step Z.here [Z.here.top, ↓top_set Z.here.top, E.x, E.b, hd, e']
  exact a
theorem r_lstore_n (E : Ev p R s m args meth c X A nL cells slots cc own) {j : Fin 4} {i : Nat} {x : Int64} (hd : decode cc pc = .ok (.lstore_n j, 1)) (hi : (j : Nat) = i) (hn : Nat.ble (i + 2) nL = true) (hp : pv lv i = true) (hs : (lv.set i (some (.long x))).set (i + 1) none = lv') (k : G p l e R s m args below meth c X A nL cells slots Qf σ (pc + 1) lv' st) : G p l e R s m args below meth c X A nL cells slots Qf σ pc lv (.long x :: st) := by
  subst hi
  intro H locs ls hP hS hl T hT Z
  obtain ⟨ls', e', h'⟩ := hl.store2 (v := .long x) (Nat.le_of_ble_eq_true hn) rfl hp
  obtain ⟨t, a, b⟩ := k H locs ls' hP hS (hs ▸ h') T hT Z
  refine ⟨t, ?_, b⟩
  jvm_step Z.here [Z.here.top, ↓top_set Z.here.top, E.x, E.b, hd, e']
  exact a
theorem r_astore_n (E : Ev p R s m args meth c X A nL cells slots cc own) {j : Fin 4} {i : Nat} {x : Nat} (hd : decode cc pc = .ok (.astore_n j, 1)) (hi : (j : Nat) = i) (hn : Nat.ble (i + 1) nL = true) (hp : pv lv i = true) (hs : lv.set i (some (.ref x)) = lv') (k : G p l e R s m args below meth c X A nL cells slots Qf σ (pc + 1) lv' st) : G p l e R s m args below meth c X A nL cells slots Qf σ pc lv (.ref x :: st) := by
  subst hi
  intro H locs ls hP hS hl T hT Z
  obtain ⟨ls', e', h'⟩ := hl.store1 (v := .ref x) (Nat.le_of_ble_eq_true hn) rfl hp
  obtain ⟨t, a, b⟩ := k H locs ls' hP hS (hs ▸ h') T hT Z
  refine ⟨t, ?_, b⟩
  jvm_step Z.here [Z.here.top, ↓top_set Z.here.top, E.x, E.b, hd, e', Value.isRef]
  exact a
theorem r_astore (E : Ev p R s m args meth c X A nL cells slots cc own) {i : Nat} {x : Nat} (hd : decode cc pc = .ok (.astore i, 2)) (hn : Nat.ble (i + 1) nL = true) (hp : pv lv i = true) (hs : lv.set i (some (.ref x)) = lv') (k : G p l e R s m args below meth c X A nL cells slots Qf σ (pc + 2) lv' st) : G p l e R s m args below meth c X A nL cells slots Qf σ pc lv (.ref x :: st) := by
  intro H locs ls hP hS hl T hT Z
  obtain ⟨ls', e', h'⟩ := hl.store1 (v := .ref x) (Nat.le_of_ble_eq_true hn) rfl hp
  obtain ⟨t, a, b⟩ := k H locs ls' hP hS (hs ▸ h') T hT Z
  refine ⟨t, ?_, b⟩
  jvm_step Z.here [Z.here.top, ↓top_set Z.here.top, E.x, E.b, hd, e', Value.isRef]
  exact a
theorem r_astore_nN (E : Ev p R s m args meth c X A nL cells slots cc own) {j : Fin 4} {i : Nat} (hd : decode cc pc = .ok (.astore_n j, 1)) (hi : (j : Nat) = i) (hn : Nat.ble (i + 1) nL = true) (hp : pv lv i = true) (hs : lv.set i (some .null) = lv') (k : G p l e R s m args below meth c X A nL cells slots Qf σ (pc + 1) lv' st) : G p l e R s m args below meth c X A nL cells slots Qf σ pc lv (.null :: st) := by
  subst hi
  intro H locs ls hP hS hl T hT Z
  obtain ⟨ls', e', h'⟩ := hl.store1 (v := .null) (Nat.le_of_ble_eq_true hn) rfl hp
  obtain ⟨t, a, b⟩ := k H locs ls' hP hS (hs ▸ h') T hT Z
  refine ⟨t, ?_, b⟩
  jvm_step Z.here [Z.here.top, ↓top_set Z.here.top, E.x, E.b, hd, e', Value.isRef]
  exact a
theorem r_iinc (E : Ev p R s m args meth c X A nL cells slots cc own) {i : Nat} {n : Int} {x v : Int32} (hd : decode cc pc = .ok (.iinc i n, 3)) (hg : lv[i]? = some (some (.int x))) (hv : Int32.ofInt n = v) (hn : Nat.ble (i + 1) nL = true) (hp : pv lv i = true) (hs : lv.set i (some (.int (x + v))) = lv') (k : G p l e R s m args below meth c X A nL cells slots Qf σ (pc + 3) lv' st) : G p l e R s m args below meth c X A nL cells slots Qf σ pc lv st := by
  subst hv
  intro H locs ls hP hS hl T hT Z
  obtain ⟨ls', e', h'⟩ := hl.store1 (v := .int (x + Int32.ofInt n)) (Nat.le_of_ble_eq_true hn) rfl hp
  have hgg := hl.2.2 _ _ hg
  obtain ⟨t, a, b⟩ := k H locs ls' hP hS (hs ▸ h') T hT Z
  refine ⟨t, ?_, b⟩
  jvm_step Z.here [Z.here.top, ↓top_set Z.here.top, E.x, E.b, hd, hgg, e']
  exact a
theorem r_iadd (E : Ev p R s m args meth c X A nL cells slots cc own) {x y : Int32} (hd : decode cc pc = .ok (.iadd, 1)) (k : G p l e R s m args below meth c X A nL cells slots Qf σ (pc + 1) lv (.int (x + y) :: st)) : G p l e R s m args below meth c X A nL cells slots Qf σ pc lv (.int y :: .int x :: st) :=
  fun H locs ls hP hS hl => lv_iadd E.x E.b hd (k H locs ls hP hS hl)
theorem r_isub (E : Ev p R s m args meth c X A nL cells slots cc own) {x y : Int32} (hd : decode cc pc = .ok (.isub, 1)) (k : G p l e R s m args below meth c X A nL cells slots Qf σ (pc + 1) lv (.int (x - y) :: st)) : G p l e R s m args below meth c X A nL cells slots Qf σ pc lv (.int y :: .int x :: st) :=
  fun H locs ls hP hS hl => lv_isub E.x E.b hd (k H locs ls hP hS hl)
theorem r_imul (E : Ev p R s m args meth c X A nL cells slots cc own) {x y : Int32} (hd : decode cc pc = .ok (.imul, 1)) (k : G p l e R s m args below meth c X A nL cells slots Qf σ (pc + 1) lv (.int (x * y) :: st)) : G p l e R s m args below meth c X A nL cells slots Qf σ pc lv (.int y :: .int x :: st) :=
  fun H locs ls hP hS hl => lv_imul E.x E.b hd (k H locs ls hP hS hl)
theorem r_iand (E : Ev p R s m args meth c X A nL cells slots cc own) {x y : Int32} (hd : decode cc pc = .ok (.iand, 1)) (k : G p l e R s m args below meth c X A nL cells slots Qf σ (pc + 1) lv (.int (x &&& y) :: st)) : G p l e R s m args below meth c X A nL cells slots Qf σ pc lv (.int y :: .int x :: st) :=
  fun H locs ls hP hS hl => lv_iand E.x E.b hd (k H locs ls hP hS hl)
theorem r_ixor (E : Ev p R s m args meth c X A nL cells slots cc own) {x y : Int32} (hd : decode cc pc = .ok (.ixor, 1)) (k : G p l e R s m args below meth c X A nL cells slots Qf σ (pc + 1) lv (.int (x ^^^ y) :: st)) : G p l e R s m args below meth c X A nL cells slots Qf σ pc lv (.int y :: .int x :: st) :=
  fun H locs ls hP hS hl => lv_ixor E.x E.b hd (k H locs ls hP hS hl)
theorem r_idiv (E : Ev p R s m args meth c X A nL cells slots cc own) {x y : Int32} (hd : decode cc pc = .ok (.idiv, 1)) (hne : ¬ y = 0) (k : G p l e R s m args below meth c X A nL cells slots Qf σ (pc + 1) lv (.int (x / y) :: st)) : G p l e R s m args below meth c X A nL cells slots Qf σ pc lv (.int y :: .int x :: st) :=
  fun H locs ls hP hS hl => lv_idiv E.x E.b hd hne (k H locs ls hP hS hl)
theorem r_irem (E : Ev p R s m args meth c X A nL cells slots cc own) {x y : Int32} (hd : decode cc pc = .ok (.irem, 1)) (hne : ¬ y = 0) (k : G p l e R s m args below meth c X A nL cells slots Qf σ (pc + 1) lv (.int (x - x / y * y) :: st)) : G p l e R s m args below meth c X A nL cells slots Qf σ pc lv (.int y :: .int x :: st) :=
  fun H locs ls hP hS hl => lv_irem E.x E.b hd hne (k H locs ls hP hS hl)
theorem r_ineg (E : Ev p R s m args meth c X A nL cells slots cc own) {x : Int32} (hd : decode cc pc = .ok (.ineg, 1)) (k : G p l e R s m args below meth c X A nL cells slots Qf σ (pc + 1) lv (.int (-x) :: st)) : G p l e R s m args below meth c X A nL cells slots Qf σ pc lv (.int x :: st) :=
  fun H locs ls hP hS hl => lv_ineg E.x E.b hd (k H locs ls hP hS hl)
theorem r_ishl (E : Ev p R s m args meth c X A nL cells slots cc own) {x y : Int32} (hd : decode cc pc = .ok (.ishl, 1)) (k : G p l e R s m args below meth c X A nL cells slots Qf σ (pc + 1) lv (.int (x <<< (y &&& 31)) :: st)) : G p l e R s m args below meth c X A nL cells slots Qf σ pc lv (.int y :: .int x :: st) :=
  fun H locs ls hP hS hl => lv_ishl E.x E.b hd (k H locs ls hP hS hl)
theorem r_ishr (E : Ev p R s m args meth c X A nL cells slots cc own) {x y : Int32} (hd : decode cc pc = .ok (.ishr, 1)) (k : G p l e R s m args below meth c X A nL cells slots Qf σ (pc + 1) lv (.int (x >>> (y &&& 31)) :: st)) : G p l e R s m args below meth c X A nL cells slots Qf σ pc lv (.int y :: .int x :: st) :=
  fun H locs ls hP hS hl => lv_ishr E.x E.b hd (k H locs ls hP hS hl)
theorem r_iushr (E : Ev p R s m args meth c X A nL cells slots cc own) {x y : Int32} (hd : decode cc pc = .ok (.iushr, 1)) (k : G p l e R s m args below meth c X A nL cells slots Qf σ (pc + 1) lv (.int ((x.toUInt32 >>> (y.toUInt32 &&& Int32.toUInt32 31)).toInt32) :: st)) : G p l e R s m args below meth c X A nL cells slots Qf σ pc lv (.int y :: .int x :: st) :=
  fun H locs ls hP hS hl => lv_iushr E.x E.b hd rfl (k H locs ls hP hS hl)
theorem r_i2l (E : Ev p R s m args meth c X A nL cells slots cc own) {x : Int32} (hd : decode cc pc = .ok (.i2l, 1)) (k : G p l e R s m args below meth c X A nL cells slots Qf σ (pc + 1) lv (.long x.toInt64 :: st)) : G p l e R s m args below meth c X A nL cells slots Qf σ pc lv (.int x :: st) :=
  fun H locs ls hP hS hl => lv_i2l E.x E.b hd rfl (k H locs ls hP hS hl)
theorem r_l2i (E : Ev p R s m args meth c X A nL cells slots cc own) {x : Int64} (hd : decode cc pc = .ok (.l2i, 1)) (k : G p l e R s m args below meth c X A nL cells slots Qf σ (pc + 1) lv (.int x.toInt32 :: st)) : G p l e R s m args below meth c X A nL cells slots Qf σ pc lv (.long x :: st) :=
  fun H locs ls hP hS hl => lv_l2i E.x E.b hd rfl (k H locs ls hP hS hl)
theorem r_i2b (E : Ev p R s m args meth c X A nL cells slots cc own) {x : Int32} (hd : decode cc pc = .ok (.i2b, 1)) (k : G p l e R s m args below meth c X A nL cells slots Qf σ (pc + 1) lv (.int x.toInt8.toInt32 :: st)) : G p l e R s m args below meth c X A nL cells slots Qf σ pc lv (.int x :: st) :=
  fun H locs ls hP hS hl => lv_i2b E.x E.b hd rfl (k H locs ls hP hS hl)
theorem r_lshl (E : Ev p R s m args meth c X A nL cells slots cc own) {x : Int64} {y : Int32} (hd : decode cc pc = .ok (.lshl, 1)) (k : G p l e R s m args below meth c X A nL cells slots Qf σ (pc + 1) lv (.long (x <<< (y.toInt64 &&& 63)) :: st)) : G p l e R s m args below meth c X A nL cells slots Qf σ pc lv (.int y :: .long x :: st) :=
  fun H locs ls hP hS hl => lv_lshl E.x E.b hd rfl (k H locs ls hP hS hl)
theorem r_lshr (E : Ev p R s m args meth c X A nL cells slots cc own) {x : Int64} {y : Int32} (hd : decode cc pc = .ok (.lshr, 1)) (k : G p l e R s m args below meth c X A nL cells slots Qf σ (pc + 1) lv (.long (x >>> (y.toInt64 &&& 63)) :: st)) : G p l e R s m args below meth c X A nL cells slots Qf σ pc lv (.int y :: .long x :: st) :=
  fun H locs ls hP hS hl => lv_lshr E.x E.b hd rfl (k H locs ls hP hS hl)
theorem r_land (E : Ev p R s m args meth c X A nL cells slots cc own) {x y : Int64} (hd : decode cc pc = .ok (.land, 1)) (k : G p l e R s m args below meth c X A nL cells slots Qf σ (pc + 1) lv (.long (x &&& y) :: st)) : G p l e R s m args below meth c X A nL cells slots Qf σ pc lv (.long y :: .long x :: st) :=
  fun H locs ls hP hS hl => lv_land E.x E.b hd (k H locs ls hP hS hl)
theorem r_lor (E : Ev p R s m args meth c X A nL cells slots cc own) {x y : Int64} (hd : decode cc pc = .ok (.lor, 1)) (k : G p l e R s m args below meth c X A nL cells slots Qf σ (pc + 1) lv (.long (x ||| y) :: st)) : G p l e R s m args below meth c X A nL cells slots Qf σ pc lv (.long y :: .long x :: st) :=
  fun H locs ls hP hS hl => lv_lor E.x E.b hd (k H locs ls hP hS hl)
theorem r_lcmp (E : Ev p R s m args meth c X A nL cells slots cc own) {x y : Int64} (hd : decode cc pc = .ok (.lcmp, 1)) (k : G p l e R s m args below meth c X A nL cells slots Qf σ (pc + 1) lv (.int (lg_cmp x y) :: st)) : G p l e R s m args below meth c X A nL cells slots Qf σ pc lv (.long y :: .long x :: st) :=
  fun H locs ls hP hS hl => W.lcmp E.x E.b hd (k H locs ls hP hS hl)
theorem r_dup (E : Ev p R s m args meth c X A nL cells slots cc own) {v : Value} (hd : decode cc pc = .ok (.dup, 1)) (hc : v.category = 1) (k : G p l e R s m args below meth c X A nL cells slots Qf σ (pc + 1) lv (v :: v :: st)) : G p l e R s m args below meth c X A nL cells slots Qf σ pc lv (v :: st) :=
  fun H locs ls hP hS hl => lv_dup E.x E.b hd hc (k H locs ls hP hS hl)
theorem r_dup2 (E : Ev p R s m args meth c X A nL cells slots cc own) {v w : Value} (hd : decode cc pc = .ok (.dup2, 1)) (hc : v.category = 1) (hc2 : w.category = 1) (k : G p l e R s m args below meth c X A nL cells slots Qf σ (pc + 1) lv (v :: w :: v :: w :: st)) : G p l e R s m args below meth c X A nL cells slots Qf σ pc lv (v :: w :: st) :=
  fun H locs ls hP hS hl => lv_dup2_11 E.x E.b hd hc hc2 (k H locs ls hP hS hl)
theorem r_pop (E : Ev p R s m args meth c X A nL cells slots cc own) {v : Value} (hd : decode cc pc = .ok (.pop, 1)) (hc : v.category = 1) (k : G p l e R s m args below meth c X A nL cells slots Qf σ (pc + 1) lv st) : G p l e R s m args below meth c X A nL cells slots Qf σ pc lv (v :: st) :=
  fun H locs ls hP hS hl => lv_pop E.x E.b hd hc (k H locs ls hP hS hl)
theorem r_null (E : Ev p R s m args meth c X A nL cells slots cc own) (hd : decode cc pc = .ok (.aconst_null, 1)) (k : G p l e R s m args below meth c X A nL cells slots Qf σ (pc + 1) lv (.null :: st)) : G p l e R s m args below meth c X A nL cells slots Qf σ pc lv st :=
  fun H locs ls hP hS hl => lv_null E.x E.b hd (k H locs ls hP hS hl)
theorem r_goto (E : Ev p R s m args meth c X A nL cells slots cc own) {off : Int} {tgt : Nat} (hd : decode cc pc = .ok (.goto off, 3)) (ht : (pc : Int) + off = (tgt : Int)) (k : G p l e R s m args below meth c X A nL cells slots Qf σ tgt lv st) : G p l e R s m args below meth c X A nL cells slots Qf σ pc lv st :=
  fun H locs ls hP hS hl => lv_goto E.x E.b hd ht (k H locs ls hP hS hl)
theorem r_ifnonnull (E : Ev p R s m args meth c X A nL cells slots cc own) {x : Nat} {off : Int} {tgt : Nat} (hd : decode cc pc = .ok (.ifnonnull off, 3)) (ht : (pc : Int) + off = (tgt : Int)) (k : G p l e R s m args below meth c X A nL cells slots Qf σ tgt lv st) : G p l e R s m args below meth c X A nL cells slots Qf σ pc lv (.ref x :: st) :=
  fun H locs ls hP hS hl => lv_ifnonnull E.x E.b hd ht (k H locs ls hP hS hl)
theorem r_ifnull (E : Ev p R s m args meth c X A nL cells slots cc own) {x : Nat} {off : Int} (hd : decode cc pc = .ok (.ifnull off, 3)) (k : G p l e R s m args below meth c X A nL cells slots Qf σ (pc + 3) lv st) : G p l e R s m args below meth c X A nL cells slots Qf σ pc lv (.ref x :: st) :=
  fun H locs ls hP hS hl => lv_ifnull E.x E.b hd (k H locs ls hP hS hl)
theorem r_ifnullN (E : Ev p R s m args meth c X A nL cells slots cc own) {off : Int} {tgt : Nat} (hd : decode cc pc = .ok (.ifnull off, 3)) (ht : (pc : Int) + off = (tgt : Int)) (k : G p l e R s m args below meth c X A nL cells slots Qf σ tgt lv st) : G p l e R s m args below meth c X A nL cells slots Qf σ pc lv (.null :: st) :=
  fun H locs ls hP hS hl => lv_ifnullN E.x E.b hd ht (k H locs ls hP hS hl)
theorem r_ifnonnullN (E : Ev p R s m args meth c X A nL cells slots cc own) {off : Int} (hd : decode cc pc = .ok (.ifnonnull off, 3)) (k : G p l e R s m args below meth c X A nL cells slots Qf σ (pc + 3) lv st) : G p l e R s m args below meth c X A nL cells slots Qf σ pc lv (.null :: st) :=
  fun H locs ls hP hS hl => lv_ifnonnullN E.x E.b hd (k H locs ls hP hS hl)
theorem r_if_eq (E : Ev p R s m args meth c X A nL cells slots cc own) {x : Int32} {off : Int} {tgt : Nat} (hd : decode cc pc = .ok (.ifCond .eq off, 3)) (ht : (pc : Int) + off = (tgt : Int)) (kt : x = 0 → G p l e R s m args below meth c X A nL cells slots Qf σ tgt lv st) (kf : ¬ (x = 0) → G p l e R s m args below meth c X A nL cells slots Qf σ (pc + 3) lv st) : G p l e R s m args below meth c X A nL cells slots Qf σ pc lv (.int x :: st) :=
  fun H locs ls hP hS hl => lv_if_eq E.x E.b hd ht (fun z => kt z H locs ls hP hS hl) (fun z => kf z H locs ls hP hS hl)
theorem r_icmp_eq (E : Ev p R s m args meth c X A nL cells slots cc own) {x y : Int32} {off : Int} {tgt : Nat} (hd : decode cc pc = .ok (.if_icmp .eq off, 3)) (ht : (pc : Int) + off = (tgt : Int)) (kt : x = y → G p l e R s m args below meth c X A nL cells slots Qf σ tgt lv st) (kf : ¬ (x = y) → G p l e R s m args below meth c X A nL cells slots Qf σ (pc + 3) lv st) : G p l e R s m args below meth c X A nL cells slots Qf σ pc lv (.int y :: .int x :: st) :=
  fun H locs ls hP hS hl => lv_icmp_eq E.x E.b hd ht (fun z => kt z H locs ls hP hS hl) (fun z => kf z H locs ls hP hS hl)
theorem r_if_ne (E : Ev p R s m args meth c X A nL cells slots cc own) {x : Int32} {off : Int} {tgt : Nat} (hd : decode cc pc = .ok (.ifCond .ne off, 3)) (ht : (pc : Int) + off = (tgt : Int)) (kt : ¬ x = 0 → G p l e R s m args below meth c X A nL cells slots Qf σ tgt lv st) (kf : x = 0 → G p l e R s m args below meth c X A nL cells slots Qf σ (pc + 3) lv st) : G p l e R s m args below meth c X A nL cells slots Qf σ pc lv (.int x :: st) :=
  fun H locs ls hP hS hl => lv_if_ne E.x E.b hd ht (fun z => kt z H locs ls hP hS hl) (fun z => kf z H locs ls hP hS hl)
theorem r_icmp_ne (E : Ev p R s m args meth c X A nL cells slots cc own) {x y : Int32} {off : Int} {tgt : Nat} (hd : decode cc pc = .ok (.if_icmp .ne off, 3)) (ht : (pc : Int) + off = (tgt : Int)) (kt : ¬ x = y → G p l e R s m args below meth c X A nL cells slots Qf σ tgt lv st) (kf : x = y → G p l e R s m args below meth c X A nL cells slots Qf σ (pc + 3) lv st) : G p l e R s m args below meth c X A nL cells slots Qf σ pc lv (.int y :: .int x :: st) :=
  fun H locs ls hP hS hl => lv_icmp_ne E.x E.b hd ht (fun z => kt z H locs ls hP hS hl) (fun z => kf z H locs ls hP hS hl)
theorem r_if_lt (E : Ev p R s m args meth c X A nL cells slots cc own) {x : Int32} {off : Int} {tgt : Nat} (hd : decode cc pc = .ok (.ifCond .lt off, 3)) (ht : (pc : Int) + off = (tgt : Int)) (kt : x < 0 → G p l e R s m args below meth c X A nL cells slots Qf σ tgt lv st) (kf : ¬ (x < 0) → G p l e R s m args below meth c X A nL cells slots Qf σ (pc + 3) lv st) : G p l e R s m args below meth c X A nL cells slots Qf σ pc lv (.int x :: st) :=
  fun H locs ls hP hS hl => lv_if_lt E.x E.b hd ht (fun z => kt z H locs ls hP hS hl) (fun z => kf z H locs ls hP hS hl)
theorem r_icmp_lt (E : Ev p R s m args meth c X A nL cells slots cc own) {x y : Int32} {off : Int} {tgt : Nat} (hd : decode cc pc = .ok (.if_icmp .lt off, 3)) (ht : (pc : Int) + off = (tgt : Int)) (kt : x < y → G p l e R s m args below meth c X A nL cells slots Qf σ tgt lv st) (kf : ¬ (x < y) → G p l e R s m args below meth c X A nL cells slots Qf σ (pc + 3) lv st) : G p l e R s m args below meth c X A nL cells slots Qf σ pc lv (.int y :: .int x :: st) :=
  fun H locs ls hP hS hl => lv_icmp_lt E.x E.b hd ht (fun z => kt z H locs ls hP hS hl) (fun z => kf z H locs ls hP hS hl)
theorem r_if_ge (E : Ev p R s m args meth c X A nL cells slots cc own) {x : Int32} {off : Int} {tgt : Nat} (hd : decode cc pc = .ok (.ifCond .ge off, 3)) (ht : (pc : Int) + off = (tgt : Int)) (kt : 0 ≤ x → G p l e R s m args below meth c X A nL cells slots Qf σ tgt lv st) (kf : ¬ (0 ≤ x) → G p l e R s m args below meth c X A nL cells slots Qf σ (pc + 3) lv st) : G p l e R s m args below meth c X A nL cells slots Qf σ pc lv (.int x :: st) :=
  fun H locs ls hP hS hl => lv_if_ge E.x E.b hd ht (fun z => kt z H locs ls hP hS hl) (fun z => kf z H locs ls hP hS hl)
theorem r_icmp_ge (E : Ev p R s m args meth c X A nL cells slots cc own) {x y : Int32} {off : Int} {tgt : Nat} (hd : decode cc pc = .ok (.if_icmp .ge off, 3)) (ht : (pc : Int) + off = (tgt : Int)) (kt : y ≤ x → G p l e R s m args below meth c X A nL cells slots Qf σ tgt lv st) (kf : ¬ (y ≤ x) → G p l e R s m args below meth c X A nL cells slots Qf σ (pc + 3) lv st) : G p l e R s m args below meth c X A nL cells slots Qf σ pc lv (.int y :: .int x :: st) :=
  fun H locs ls hP hS hl => lv_icmp_ge E.x E.b hd ht (fun z => kt z H locs ls hP hS hl) (fun z => kf z H locs ls hP hS hl)
theorem r_if_gt (E : Ev p R s m args meth c X A nL cells slots cc own) {x : Int32} {off : Int} {tgt : Nat} (hd : decode cc pc = .ok (.ifCond .gt off, 3)) (ht : (pc : Int) + off = (tgt : Int)) (kt : 0 < x → G p l e R s m args below meth c X A nL cells slots Qf σ tgt lv st) (kf : ¬ (0 < x) → G p l e R s m args below meth c X A nL cells slots Qf σ (pc + 3) lv st) : G p l e R s m args below meth c X A nL cells slots Qf σ pc lv (.int x :: st) :=
  fun H locs ls hP hS hl => lv_if_gt E.x E.b hd ht (fun z => kt z H locs ls hP hS hl) (fun z => kf z H locs ls hP hS hl)
theorem r_icmp_gt (E : Ev p R s m args meth c X A nL cells slots cc own) {x y : Int32} {off : Int} {tgt : Nat} (hd : decode cc pc = .ok (.if_icmp .gt off, 3)) (ht : (pc : Int) + off = (tgt : Int)) (kt : y < x → G p l e R s m args below meth c X A nL cells slots Qf σ tgt lv st) (kf : ¬ (y < x) → G p l e R s m args below meth c X A nL cells slots Qf σ (pc + 3) lv st) : G p l e R s m args below meth c X A nL cells slots Qf σ pc lv (.int y :: .int x :: st) :=
  fun H locs ls hP hS hl => lv_icmp_gt E.x E.b hd ht (fun z => kt z H locs ls hP hS hl) (fun z => kf z H locs ls hP hS hl)
theorem r_if_le (E : Ev p R s m args meth c X A nL cells slots cc own) {x : Int32} {off : Int} {tgt : Nat} (hd : decode cc pc = .ok (.ifCond .le off, 3)) (ht : (pc : Int) + off = (tgt : Int)) (kt : x ≤ 0 → G p l e R s m args below meth c X A nL cells slots Qf σ tgt lv st) (kf : ¬ (x ≤ 0) → G p l e R s m args below meth c X A nL cells slots Qf σ (pc + 3) lv st) : G p l e R s m args below meth c X A nL cells slots Qf σ pc lv (.int x :: st) :=
  fun H locs ls hP hS hl => lv_if_le E.x E.b hd ht (fun z => kt z H locs ls hP hS hl) (fun z => kf z H locs ls hP hS hl)
theorem r_icmp_le (E : Ev p R s m args meth c X A nL cells slots cc own) {x y : Int32} {off : Int} {tgt : Nat} (hd : decode cc pc = .ok (.if_icmp .le off, 3)) (ht : (pc : Int) + off = (tgt : Int)) (kt : x ≤ y → G p l e R s m args below meth c X A nL cells slots Qf σ tgt lv st) (kf : ¬ (x ≤ y) → G p l e R s m args below meth c X A nL cells slots Qf σ (pc + 3) lv st) : G p l e R s m args below meth c X A nL cells slots Qf σ pc lv (.int y :: .int x :: st) :=
  fun H locs ls hP hS hl => lv_icmp_le E.x E.b hd ht (fun z => kt z H locs ls hP hS hl) (fun z => kf z H locs ls hP hS hl)
/-! fields -/
/-- a class of the tables: its place, its types, its names apart -/
def KC (ci : Nat) (C : String) (T : u_T) (N : Nat) (ty : Nat → FieldType) : Prop := vwCl[ci]? = some (C, T, N) ∧ (∀ k, k < N → parseFieldDescriptor (T k).2.2.1 = some (ty k)) ∧ (∀ a, a < N → ∀ b, b < N → a ≠ b → (T a).2.1 ≠ (T b).2.1) ∧ ∀ w ∈ u_ws C T N, w ∈ WS
theorem map_at {α : Type} (f : Nat → α) {n j : Nat} (h : j < n) : ((List.range n).map f)[j]? = some (f j) := by simp [h]
theorem map_no {α : Type} (f : Nat → α) {n j : Nat} (h : n ≤ j) : ((List.range n).map f)[j]? = none := by
  rw [List.getElem?_eq_none_iff]
  simpa using h
theorem r_get (E : Ev p R s m args meth c X A nL cells slots cc own) {ci k j index : Nat} {C : String} {T : u_T} {N : Nat} {ty : Nat → FieldType} {v : Value} (hk : okc ci k) (hc : KC ci C T N ty) (hj : Nat.ble (j + 1) N = true) (hlink : Cond.fieldLink own index (T j).1 (T j).2.1 (T j).2.2.1 ∈ WS) (hv : sv X σ k j = v) (hd : decode cc pc = .ok (.getfield index, 3))
    (kk : G p l e R s m args below meth c X A nL cells slots Qf σ (pc + 3) lv (v :: st)) : G p l e R s m args below meth c X A nL cells slots Qf σ pc lv (.ref (xa X k) :: st) := by
  intro H locs ls hP hS hl
  have hj := Nat.le_of_ble_eq_true hj
  have hg := wl_get X σ hk.1
  rw [(en_obj X σ hk hc.1).1] at hg
  exact va_get (D := xD X) (tys := tyL X) (C := C) (T := T) (N := N) E.x E.b E.ts hc.2.2.2 E.ow E.kb.1 hP k hg hc.1 j hj (E.ts _ hlink) (fun _ h9 => h9) (by rw [map_at _ hj, hv]) hd (kk H locs ls hP hS hl)
theorem set_row (X : XT) (σ : ST) {k j N : Nat} {v : Int32} (h0 : rt k j = 0) : ((List.range N).map (sv X σ k)).set j (.int v) = (List.range N).map (sv X (up σ k j v) k) := by
  apply List.ext_getElem?
  intro i
  rw [List.getElem?_set]
  by_cases hi : j = i
  · subst hi
    by_cases hj : j < N
    · rw [if_pos rfl, if_pos (by simpa using hj), map_at _ hj]
      simp [sv, h0, up]
    · rw [if_pos rfl, if_neg (by simpa using hj), map_no _ (by omega)]
  · rw [if_neg hi]
    by_cases hj : i < N
    · rw [map_at _ hj, map_at _ hj]
      congr 1
      have hz : up σ k j v k i = σ k i := up_ne σ v (fun z => hi z.2.symm)
      simp only [sv, hz]
    · rw [map_no _ (by omega), map_no _ (by omega)]
theorem r_put (E : Ev p R s m args meth c X A nL cells slots cc own) {ci k j index : Nat} {C : String} {T : u_T} {N : Nat} {ty : Nat → FieldType} {x : Int32} (hk : okc ci k) (hc : KC ci C T N ty) (hj : Nat.ble (j + 1) N = true) (hlink : Cond.fieldLink own index (T j).1 (T j).2.1 (T j).2.2.1 ∈ WS) (h0 : rt k j = 0) (hfin : (T j).2.2.2 = false) (hty : ty j = .int) (hd : decode cc pc = .ok (.putfield index, 3))
    (kk : ∀ τ : ST, τ = up σ k j x → G p l e R s m args below meth c X A nL cells slots Qf τ (pc + 3) lv st) : G p l e R s m args below meth c X A nL cells slots Qf σ pc lv (.int x :: .ref (xa X k) :: st) := by
  intro H locs ls hP hS hl
  have hj := Nat.le_of_ble_eq_true hj
  have hg := wl_get X σ hk.1
  have he := en_obj X σ hk hc.1
  have he2 := en_obj X (up σ k j x) hk hc.1
  rw [he.1] at hg
  refine va_put (D := xD X) (tys := tyL X) (C := C) (T := T) (N := N) (ty := .int) (v := .int x) E.x E.b E.ts hc.2.2.2 ty hc.2.1 hc.2.2.1 E.ow E.kb.1 hP (E.D σ) hS k hg hc.1 j hj (E.ts _ hlink) (fun _ h9 => h9) hfin (by rw [hc.2.1 j hj, hty]) rfl rfl (by rw [List.length_map, List.length_range]; exact hj) hd (fun H1 locs1 hP1 _ hS1 => ?_)
  refine kk _ rfl H1 locs1 ls ?_ hS1 hl
  rw [set_row X σ h0] at hP1
  rw [wl_set X (τ := up σ k j x) he2.1.symm (fun i hi => up_row hi)] at hP1
  exact hP1
/-- a field that names one of the two Rules -/
theorem r_putR (E : Ev p R s m args meth c X A nL cells slots cc own) {j index q : Nat} (hj : j = 11 ∨ j = 12) (hc : KC 8 RX8 TX8 16 tyX8) (hlink : Cond.fieldLink own index (TX8 j).1 (TX8 j).2.1 (TX8 j).2.2.1 ∈ WS) (hq : okc 3 q) (hd : decode cc pc = .ok (.putfield index, 3))
    (kk : ∀ τ : ST, τ = up σ 0 j (nI (q - 7)) → G p l e R s m args below meth c X A nL cells slots Qf τ (pc + 3) lv st) : G p l e R s m args below meth c X A nL cells slots Qf σ pc lv (.ref (xa X q) :: .ref (xa X 0) :: st) := by
  have hq2 : q = 7 ∨ q = 8 := by
    obtain ⟨h1, h2⟩ := hq
    have : ∀ q, q < 90 → kd q = 3 → q = 7 ∨ q = 8 := by decide +kernel
    exact this q h1 h2
  have hn : 7 + (nI (q - 7)).toNatClampNeg = q := by
    rcases hq2 with rfl | rfl <;> decide +kernel
  intro H locs ls hP hS hl
  have hk : okc 8 0 := ⟨by decide, by decide⟩
  have hg := wl_get X σ hk.1
  have he := en_obj X σ hk hc.1
  have he2 := en_obj X (up σ 0 j (nI (q - 7))) hk hc.1
  rw [he.1] at hg
  have hj16 : j < 16 := by omega
  have hrt : rt 0 j = 1008 := by rcases hj with rfl | rfl <;> decide
  refine va_put (D := xD X) (tys := tyL X) (C := RX8) (T := TX8) (N := 16) (ty := .object "ChairFront$Rules") (v := .ref (xa X q)) E.x E.b E.ts hc.2.2.2 tyX8 hc.2.1 hc.2.2.1 E.ow E.kb.1 hP (E.D σ) hS 0 hg hc.1 j hj16 (E.ts _ hlink) (fun _ h9 => h9) (by rcases hj with rfl | rfl <;> rfl) (by rcases hj with rfl | rfl <;> decide +kernel) rfl rfl (by simpa using hj16) hd (fun H1 locs1 hP1 _ hS1 => ?_)
  refine kk _ rfl H1 locs1 ls ?_ hS1 hl
  have hset : ((List.range 16).map (sv X σ 0)).set j (.ref (xa X q)) = (List.range 16).map (sv X (up σ 0 j (nI (q - 7))) 0) := by
    apply List.ext_getElem?
    intro i
    rw [List.getElem?_set]
    by_cases hi : j = i
    · subst hi
      rw [if_pos rfl, if_pos (by simpa using hj16), map_at _ hj16]
      simp only [sv, hrt, up_self]
      rw [if_neg (by decide), if_pos (by decide), hn]
    · rw [if_neg hi]
      by_cases hj : i < 16
      · rw [map_at _ hj, map_at _ hj]
        congr 1
        have hz : up σ 0 j (nI (q - 7)) 0 i = σ 0 i := up_ne σ _ (fun z => hi z.2.symm)
        simp only [sv, hz]
      · rw [map_no _ (by omega), map_no _ (by omega)]
  rw [hset] at hP1
  rw [wl_set X (τ := up σ 0 j (nI (q - 7))) he2.1.symm (fun i hi => up_row hi)] at hP1
  exact hP1
theorem svI {X : XT} {σ : ST} {k j : Nat} (h : rt k j = 0) : sv X σ k j = .int (σ k j) := if_pos h
theorem rt_st : ∀ k, k < 90 → kd k = 4 → ∀ j, j < 7 → rt k j = 0 := by decide +kernel
theorem rt_tk : ∀ k, k < 90 → kd k = 6 → ∀ j, j < 7 → rt k j = 0 := by decide +kernel
theorem rt_ru : ∀ k, k < 90 → kd k = 3 → ∀ j, j < 4 → rt k j = 0 := by decide +kernel
theorem rt_ra : ∀ k, k < 90 → kd k = 3 → ∀ j, j < 4 → (rt k (4 + j) = 4 * k - 18 + j ∧ 4 * k - 18 + j < 90 ∧ 0 < 4 * k - 18 + j ∧ kd (4 * k - 18 + j - 1) = 10 ∧ ln (4 * k - 18 + j - 1) = 5) := by decide +kernel
theorem r0 {k j : Nat} (h : okc 4 k ∨ okc 6 k) (hj : Nat.ble (j + 1) 7 = true) : rt k j = 0 := by
  have hj := Nat.le_of_ble_eq_true hj
  rcases h with h | h
  · exact rt_st k h.1 h.2 j hj
  · exact rt_tk k h.1 h.2 j hj
theorem r0R {k j : Nat} (h : okc 3 k) (hj : Nat.ble (j + 1) 4 = true) : rt k j = 0 := rt_ru k h.1 h.2 j (Nat.le_of_ble_eq_true hj)
/-- the rows of a Rules: cell 4 k - 19 + j -/
theorem svR {X : XT} {σ : ST} {k : Nat} (h : okc 3 k) (j : Nat) (hj : Nat.ble (j + 1) 4 = true) : sv X σ k (4 + j) = .ref (xa X (4 * k - 18 + j - 1)) := by
  obtain ⟨h1, h2, h3, -⟩ := rt_ra k h.1 h.2 j (Nat.le_of_ble_eq_true hj)
  unfold sv
  rw [h1, if_neg (by omega), if_neg (by omega)]
theorem okRA {k : Nat} (h : okc 3 k) (j : Nat) (hj : Nat.ble (j + 1) 4 = true) : okc 10 (4 * k - 18 + j - 1) := by
  obtain ⟨h1, h2, h3, h4, -⟩ := rt_ra k h.1 h.2 j (Nat.le_of_ble_eq_true hj)
  exact ⟨by omega, h4⟩
theorem lnRA {k : Nat} (h : okc 3 k) (j : Nat) (hj : Nat.ble (j + 1) 4 = true) : ln (4 * k - 18 + j - 1) = 5 := (rt_ra k h.1 h.2 j (Nat.le_of_ble_eq_true hj)).2.2.2.2
/-! arrays -/
theorem r_iald (E : Ev p R s m args meth c X A nL cells slots cc own) {k n : Nat} {i : Int32} (hk : okc 10 k) (hn : ln k = n) (hi : vp_in i n) (hd : decode cc pc = .ok (.iaload, 1)) (kk : G p l e R s m args below meth c X A nL cells slots Qf σ (pc + 1) lv (.int (σ k i.toNatClampNeg) :: st)) : G p l e R s m args below meth c X A nL cells slots Qf σ pc lv (.int i :: .ref (xa X k) :: st) := by
  intro H locs ls hP hS hl
  subst hn
  have hg := wl_get X σ hk.1
  rw [en_int X σ hk] at hg
  exact va_iald (D := xD X) (tys := tyL X) E.x E.b E.kb.1 hP k 0 hg rfl hi hd (kk H locs ls hP hS hl)
theorem r_iast (E : Ev p R s m args meth c X A nL cells slots cc own) {k n : Nat} {i x : Int32} (hk : okc 10 k) (hn : ln k = n) (hi : vp_in i n) (hd : decode cc pc = .ok (.iastore, 1)) (kk : ∀ τ : ST, τ = up σ k i.toNatClampNeg x → G p l e R s m args below meth c X A nL cells slots Qf τ (pc + 1) lv st) : G p l e R s m args below meth c X A nL cells slots Qf σ pc lv (.int x :: .int i :: .ref (xa X k) :: st) := by
  intro H locs ls hP hS hl
  subst hn
  have hg := wl_get X σ hk.1
  rw [en_int X σ hk] at hg
  refine va_iast (D := xD X) (tys := tyL X) E.x E.b E.kb.1 hP (E.D σ) hS k 0 hg rfl hi hd (fun H1 locs1 hP1 _ hS1 => ?_)
  refine kk _ rfl H1 locs1 ls ?_ hS1 hl
  rw [wl_set X (τ := up σ k i.toNatClampNeg x) (by rw [en_int X _ hk, up_upd]) (fun i hi => up_row hi)] at hP1
  exact hP1
theorem r_bald (E : Ev p R s m args meth c X A nL cells slots cc own) {k n : Nat} {i : Int32} (hk : okc 11 k) (hn : ln k = n) (hi : vp_in i n) (hd : decode cc pc = .ok (.baload, 1)) (kk : G p l e R s m args below meth c X A nL cells slots Qf σ (pc + 1) lv (.int (σ k i.toNatClampNeg) :: st)) : G p l e R s m args below meth c X A nL cells slots Qf σ pc lv (.int i :: .ref (xa X k) :: st) := by
  intro H locs ls hP hS hl
  subst hn
  have hg := wl_get X σ hk.1
  rw [en_byte X σ hk] at hg
  exact va_bald (D := xD X) (tys := tyL X) E.x E.b E.kb.1 hP k 1 hg rfl hi hd (kk H locs ls hP hS hl)
theorem r_bast (E : Ev p R s m args meth c X A nL cells slots cc own) {k n : Nat} {i x : Int32} (hk : okc 11 k) (hn : ln k = n) (hi : vp_in i n) (hd : decode cc pc = .ok (.bastore, 1)) (kk : ∀ τ : ST, τ = up σ k i.toNatClampNeg x.toInt8.toInt32 → G p l e R s m args below meth c X A nL cells slots Qf τ (pc + 1) lv st) : G p l e R s m args below meth c X A nL cells slots Qf σ pc lv (.int x :: .int i :: .ref (xa X k) :: st) := by
  intro H locs ls hP hS hl
  subst hn
  have hg := wl_get X σ hk.1
  rw [en_byte X σ hk] at hg
  refine va_bast (D := xD X) (tys := tyL X) E.x E.b E.kb.1 hP (E.D σ) hS k 1 hg rfl hi hd (fun H1 locs1 hP1 _ hS1 => ?_)
  refine kk _ rfl H1 locs1 ls ?_ hS1 hl
  rw [vp_nar_byte, wl_set X (τ := up σ k i.toNatClampNeg x.toInt8.toInt32) (by rw [en_byte X _ hk, up_upd]) (fun i hi => up_row hi)] at hP1
  exact hP1
theorem r_aldS (E : Ev p R s m args meth c X A nL cells slots cc own) {i : Int32} (hi : vp_in i 10) (hd : decode cc pc = .ok (.aaload, 1)) (kk : G p l e R s m args below meth c X A nL cells slots Qf σ (pc + 1) lv (.ref (xa X (23 + i.toNatClampNeg)) :: st)) : G p l e R s m args below meth c X A nL cells slots Qf σ pc lv (.int i :: .ref (xa X 1) :: st) := by
  intro H locs ls hP hS hl
  have hk : okc 12 1 := ⟨by decide, by decide⟩
  have hg := wl_get X σ hk.1
  rw [en_sts X σ hk] at hg
  exact va_aldq (D := xD X) (tys := tyL X) E.x E.b E.kb.1 hP 1 2 hg rfl hi hd (kk H locs ls hP hS hl)
theorem r_aldT (E : Ev p R s m args meth c X A nL cells slots cc own) {i : Int32} (hi : vp_in i 30) (hd : decode cc pc = .ok (.aaload, 1)) (kk : G p l e R s m args below meth c X A nL cells slots Qf σ (pc + 1) lv (.ref (xa X (33 + (σ 3 i.toNatClampNeg).toNatClampNeg)) :: st)) : G p l e R s m args below meth c X A nL cells slots Qf σ pc lv (.int i :: .ref (xa X 3) :: st) := by
  intro H locs ls hP hS hl
  have hk : okc 13 3 := ⟨by decide, by decide⟩
  have hg := wl_get X σ hk.1
  rw [en_tks X σ hk] at hg
  exact va_aldq (D := xD X) (tys := tyL X) E.x E.b E.kb.1 hP 3 3 hg rfl hi hd (kk H locs ls hP hS hl)
theorem r_astT (E : Ev p R s m args meth c X A nL cells slots cc own) {i : Int32} {q : Nat} (hi : vp_in i 30) (hq : okc 6 q) (hd : decode cc pc = .ok (.aastore, 1)) (kk : ∀ τ : ST, τ = up σ 3 i.toNatClampNeg (nI (q - 33)) → G p l e R s m args below meth c X A nL cells slots Qf τ (pc + 1) lv st) : G p l e R s m args below meth c X A nL cells slots Qf σ pc lv (.ref (xa X q) :: .int i :: .ref (xa X 3) :: st) := by
  intro H locs ls hP hS hl
  have hk : okc 13 3 := ⟨by decide, by decide⟩
  have hq2 : 33 ≤ q ∧ q < 63 := by
    have : ∀ q, q < 90 → kd q = 6 → 33 ≤ q ∧ q < 63 := by decide +kernel
    exact this q hq.1 hq.2
  have hn : 33 + (nI (q - 33)).toNatClampNeg = q := by
    rw [nI_clamp (by omega)]
    omega
  have hg := wl_get X σ hk.1
  rw [en_tks X σ hk] at hg
  have hgq := wl_get X σ hq.1
  rw [(en_obj X σ hq (C := RX6) (T := TX6) (N := 7) rfl).1] at hgq
  refine va_astq (D := xD X) (tys := tyL X) (r := (RX6, TX6, 7)) E.x E.b E.kb.1 hP (E.D σ) hS 3 3 q 6 hg rfl hgq rfl hi hd (fun H1 locs1 hP1 _ hS1 => ?_)
  refine kk _ rfl H1 locs1 ls ?_ hS1 hl
  rw [wl_set X (τ := up σ 3 i.toNatClampNeg (nI (q - 33))) (by
    rw [en_tks X _ hk]
    congr 7
    funext b
    unfold va_up up
    by_cases hb : b = i.toNatClampNeg
    · rw [if_pos hb, if_pos ⟨rfl, hb⟩, hn]
    · rw [if_neg hb, if_neg (fun z => hb z.2)]) (fun i hi => up_row hi)] at hP1
  exact hP1
theorem r_alen (E : Ev p R s m args meth c X A nL cells slots cc own) {k : Nat} {v : Int32} (hk : k < 90) (hk2 : Nat.ble 10 (kd k) = true) (hk3 : Nat.ble (kd k) 13 = true) (hv : Int32.ofNat (ln k) = v) (hd : decode cc pc = .ok (.arraylength, 1)) (kk : G p l e R s m args below meth c X A nL cells slots Qf σ (pc + 1) lv (.int v :: st)) : G p l e R s m args below meth c X A nL cells slots Qf σ pc lv (.ref (xa X k) :: st) := by
  intro H locs ls hP hS hl
  have h1 := Nat.le_of_ble_eq_true hk2
  have h2 := Nat.le_of_ble_eq_true hk3
  have hg := wl_get X σ hk
  rcases (show kd k = 10 ∨ kd k = 11 ∨ kd k = 12 ∨ kd k = 13 by omega) with h | h | h | h
  · rw [en_int X σ ⟨hk, h⟩] at hg
    exact va_alen (D := xD X) (tys := tyL X) E.x E.b E.kb.1 hP k 0 hg rfl hv hd (kk H locs ls hP hS hl)
  · rw [en_byte X σ ⟨hk, h⟩] at hg
    exact va_alen (D := xD X) (tys := tyL X) E.x E.b E.kb.1 hP k 1 hg rfl hv hd (kk H locs ls hP hS hl)
  · rw [en_sts X σ ⟨hk, h⟩] at hg
    exact va_alen (D := xD X) (tys := tyL X) E.x E.b E.kb.1 hP k 2 hg rfl hv hd (kk H locs ls hP hS hl)
  · rw [en_tks X σ ⟨hk, h⟩] at hg
    exact va_alen (D := xD X) (tys := tyL X) E.x E.b E.kb.1 hP k 3 hg rfl hv hd (kk H locs ls hP hS hl)
end GR
end
section
/-! calls, answers, entries -/
section GC
variable {p : Program} {l : Launch} {e : Env} {R : Room} {s : State} {m : MethodId} {args : Array Value} {below : List Frame} {meth : Method} {c : Code} {X : XT} {A : Nat → Prop} {nL cells slots : Nat} {Qf : State → Prop} {cc : ByteArray} {own : String}
variable {σ : ST} {pc : Nat} {lv lv' : List (Option Value)} {st : List Value}
theorem xA_in (E : Ev p R s m args meth c X A nL cells slots cc own) : ∀ q, xA X q → A q := fun q h => by
  obtain ⟨k, h1, rfl⟩ := h
  exact E.ia k h1
/-- the callee's start -/
theorem Ev.pw (E : Ev p R s m args meth c X A nL cells slots cc own) {H : Heap} {locs : List Loc} (hP : va_P (xD X) vwCl (wl X σ) H) (hS : va_S A s.heap H locs) (U : State) (hU : U.heap = H) (hW : s.WarmedH U.vm) : Pw X σ U :=
  ⟨by rw [hU]; exact hP, E.kb.warm hW, by rw [hU]; exact ((E.sb.kept hS.2.1).narrow (xA_in E)).moved hW.alike, E.ap⟩
theorem pw_blind {As : List Value} : FrameBlind (va_Pc As (Pw X σ)) := fun a U g mk h => ⟨h.1, h.2.1, Kb.same (s := U) (U := U.calling g mk a) rfl h.2.2.1, Sb.moved (u := U) (U := U.calling g mk a) (Vm.Alike.refl U.vm) h.2.2.2.1, h.2.2.2.2⟩
/-- an instance method of the tables -/
def CI (y : MethodName) (C : String) (bytes : ByteArray) (maxL : Nat) (ret : Option FieldType) (n : Nat) : Prop := Cond.instanceMethod y ∈ WS ∧ Cond.selects C y y ∈ WS ∧ Cond.initialized C ∈ WS ∧ Cond.code y bytes maxL ret ∈ WS ∧ (y.cls = C ∧ y.cls ≠ "java/lang/invoke/MethodHandle" ∧ y.cls ≠ "java/lang/invoke/VarHandle" ∧ (parseMethodDescriptor y.desc).map (fun d => d.parameters.length) = some n)
/-- a static method of the tables -/
def CS (y : MethodName) (bytes : ByteArray) (maxL : Nat) (ret : Option FieldType) (n : Nat) : Prop := Cond.static y ∈ WS ∧ Cond.initialized y.cls ∈ WS ∧ Cond.code y bytes maxL ret ∈ WS ∧ (y.cls ≠ "java/lang/invoke/MethodHandle" ∧ y.cls ≠ "java/lang/invoke/VarHandle" ∧ (parseMethodDescriptor y.desc).map (fun d => d.parameters.length) = some n)
/-- the callee's room in the caller's -/
def rOk (rm R : Room) (maxL : Nat) : Bool := Nat.ble (rm.frames + 1) R.frames && Nat.ble (8 + (maxL + 11) + rm.locals) R.locals && (rm.cells == 0) && (rm.slots == 0)
theorem rOk_spec {rm R : Room} {maxL : Nat} (h : rOk rm R maxL = true) : (rm.frames + 1 ≤ R.frames ∧ 8 + (maxL + 11) + rm.locals ≤ R.locals) ∧ rm.cells = 0 ∧ rm.slots = 0 := by
  simp only [rOk, Bool.and_eq_true, beq_iff_eq] at h
  exact ⟨⟨Nat.le_of_ble_eq_true h.1.1.1, Nat.le_of_ble_eq_true h.1.1.2⟩, h.1.2, h.2⟩
def cat8 (st : List Value) : Bool := Nat.ble ((st.map fun v => v.category).sum) 8
theorem runV (E : Ev p R s m args meth c X A nL cells slots cc own) {y : MethodName} {bytes : ByteArray} {maxL n index ci k : Nat} {ret : Option FieldType} {rm : Room} {C : String} {T : u_T} {N : Nat} {As rest : List Value} {Qc : Array Value → State → Outcome → State → Prop}
    (hM : Met l y (wS y bytes maxL ret) rm (va_Pc (.ref (xa X k) :: As) (Pw X σ)) Qc 0 0 (xA X)) (hk : okc ci k) (hc : vwCl[ci]? = some (C, T, N)) (hci : CI y C bytes maxL ret n) (hml : Cond.methodLink own index y ∈ WS) (hr : rOk rm R maxL = true) (hn : As.length = n) (hst : st = As.reverse ++ .ref (xa X k) :: rest) (h8 : cat8 rest = true) (hd : decode cc pc = .ok (.invokevirtual index, 3))
    {H : Heap} {locs : List Loc} {ls : Array Slot} (hP : va_P (xD X) vwCl (wl X σ) H) (hS : va_S A s.heap H locs) (hl : Lv ls nL lv) :
    va_Run p l e R s m args below meth c H locs cells slots 0 0 (F0 m pc ls st) rest (Qc (.ref (xa X k) :: As).toArray) (xA X) := by
  obtain ⟨c1, c2, c3, c4, c5⟩ := hci
  obtain ⟨g1, g2, g3⟩ := rOk_spec hr
  have hg := wl_get X σ hk.1
  rw [(en_obj X σ hk hc).1] at hg
  have hG : GoodIn WS (wsV own index C y (wS y bytes maxL ret)) := by
    intro w hw
    unfold wsV at hw
    rcases List.mem_append.mp hw with hw | hw
    · rcases List.mem_cons.mp hw with rfl | hw
      · exact ⟨hml, WS_good _ hml⟩
      rcases List.mem_cons.mp hw with rfl | hw
      · exact ⟨c1, WS_good _ c1⟩
      rcases List.mem_cons.mp hw with rfl | hw
      · exact ⟨c2, WS_good _ c2⟩
      rcases List.mem_cons.mp hw with rfl | hw
      · exact ⟨c3, WS_good _ c3⟩
      · cases hw
    · exact wS_good (fun w h => h) c4 w hw
  exact va_runV (As := As) (rest := rest) ⟨E.x, E.b, E.ml, E.ow, E.ts⟩ hM (cwV n E.ts hG rfl g2 g3 c5 g1) ⟨pw_blind, va_recv E.kb.1 hP hc hg, fun U hU hW => ⟨rfl, E.pw hP hS U hU hW⟩⟩ rfl hn hl.1 hst (lv_room (Nat.le_of_ble_eq_true h8)) hd ⟨E.rc, E.rs⟩
theorem runS (E : Ev p R s m args meth c X A nL cells slots cc own) {y : MethodName} {bytes : ByteArray} {maxL n index : Nat} {ret : Option FieldType} {rm : Room} {As rest : List Value} {Qc : Array Value → State → Outcome → State → Prop}
    (hM : Met l y (wS y bytes maxL ret) rm (va_Pc As (Pw X σ)) Qc 0 0 (xA X)) (hcs : CS y bytes maxL ret n) (hml : Cond.methodLink own index y ∈ WS) (hr : rOk rm R maxL = true) (hn : As.length = n) (hst : st = As.reverse ++ rest) (h8 : cat8 rest = true) (hd : decode cc pc = .ok (.invokestatic index, 3))
    {H : Heap} {locs : List Loc} {ls : Array Slot} (hP : va_P (xD X) vwCl (wl X σ) H) (hS : va_S A s.heap H locs) (hl : Lv ls nL lv) :
    va_Run p l e R s m args below meth c H locs cells slots 0 0 (F0 m pc ls st) rest (Qc As.toArray) (xA X) := by
  obtain ⟨c1, c2, c3, c4⟩ := hcs
  obtain ⟨g1, g2, g3⟩ := rOk_spec hr
  exact va_runS (As := As) (rest := rest) ⟨E.x, E.b, E.ml, E.ow, E.ts⟩ hM ⟨callB_of n E.ts (wS_good (fun w h => h) c3) rfl g2 g3 (E.ts _ c2) (E.ts _ hml) c4 g1, E.ts _ c1⟩ ⟨pw_blind, fun U hU hW => ⟨rfl, E.pw hP hS U hU hW⟩⟩ rfl hn hl.1 hst (lv_room (Nat.le_of_ble_eq_true h8)) hd ⟨E.rc, E.rs⟩
theorem runN (E : Ev p R s m args meth c X A nL cells slots cc own) {y : MethodName} {bytes : ByteArray} {maxL n index : Nat} {ret : Option FieldType} {rm : Room} {host : String} {As rest : List Value} {Qc : Array Value → State → Outcome → State → Prop}
    (hM : Met l y (wS y bytes maxL ret) rm (va_Pc As (Pw X σ)) Qc 0 0 (xA X)) (hcs : CS y bytes maxL ret n) (hml : va_Nw (.methodLinkNest own index y host) s) (hr : rOk rm R maxL = true) (hn : As.length = n) (hst : st = As.reverse ++ rest) (h8 : cat8 rest = true) (hd : decode cc pc = .ok (.invokestatic index, 3))
    {H : Heap} {locs : List Loc} {ls : Array Slot} (hP : va_P (xD X) vwCl (wl X σ) H) (hS : va_S A s.heap H locs) (hl : Lv ls nL lv) :
    va_Run p l e R s m args below meth c H locs cells slots 0 0 (F0 m pc ls st) rest (Qc As.toArray) (xA X) := by
  obtain ⟨c1, c2, c3, c4⟩ := hcs
  obtain ⟨g1, g2, g3⟩ := rOk_spec hr
  exact va_runSN (As := As) (rest := rest) ⟨E.x, E.b, E.ml, E.ow, E.ts⟩ hM ⟨va_cnB n E.ts (wS_good (fun w h => h) c3) rfl g2 g3 hml (E.ts _ c2) c4 g1, E.ts _ c1, trivial⟩ ⟨pw_blind, fun U hU hW => ⟨rfl, E.pw hP hS U hU hW⟩⟩ rfl hn hl.1 hst (lv_room (Nat.le_of_ble_eq_true h8)) hd ⟨E.rc, E.rs⟩
/-- behind a call -/
theorem afterI (E : Ev p R s m args meth c X A nL cells slots cc own) {Q1 : Int32 → ST → Prop} {a : Array Value} {rest : List Value} (hr : ∀ (H : Heap) (locs : List Loc) (ls : Array Slot), va_P (xD X) vwCl (wl X σ) H → va_S A s.heap H locs → Lv ls nL lv → va_Run p l e R s m args below meth c H locs cells slots 0 0 (F0 m pc ls st) rest (va_Qi Q1 (Bw X) (xA X) a) (xA X))
    (kk : ∀ (r : Int32) (τ : ST), Q1 r τ → G p l e R s m args below meth c X A nL cells slots Qf τ (pc + 3) lv (.int r :: rest)) : G p l e R s m args below meth c X A nL cells slots Qf σ pc lv st :=
  fun H locs ls hP hS hl => va_calli (hr H locs ls hP hS hl) hS (fun q _ h => xA_in E q h) (xA_in E) (fun r u t H1 locs1 ht _ hp hB _ _ hS1 => kk r u hp H1 locs1 ls (ht ▸ hB) hS1 hl)
theorem afterL (E : Ev p R s m args meth c X A nL cells slots cc own) {Q1 : Int64 → ST → Prop} {a : Array Value} {rest : List Value} (hr : ∀ (H : Heap) (locs : List Loc) (ls : Array Slot), va_P (xD X) vwCl (wl X σ) H → va_S A s.heap H locs → Lv ls nL lv → va_Run p l e R s m args below meth c H locs cells slots 0 0 (F0 m pc ls st) rest (va_Ql Q1 (Bw X) (xA X) a) (xA X))
    (kk : ∀ (r : Int64) (τ : ST), Q1 r τ → G p l e R s m args below meth c X A nL cells slots Qf τ (pc + 3) lv (.long r :: rest)) : G p l e R s m args below meth c X A nL cells slots Qf σ pc lv st :=
  fun H locs ls hP hS hl => va_calll (hr H locs ls hP hS hl) hS (fun q _ h => xA_in E q h) (xA_in E) (fun r u t H1 locs1 ht _ hp hB _ _ hS1 => kk r u hp H1 locs1 ls (ht ▸ hB) hS1 hl)
theorem afterV (E : Ev p R s m args meth c X A nL cells slots cc own) {Q1 : ST → Prop} {a : Array Value} {rest : List Value} (hr : ∀ (H : Heap) (locs : List Loc) (ls : Array Slot), va_P (xD X) vwCl (wl X σ) H → va_S A s.heap H locs → Lv ls nL lv → va_Run p l e R s m args below meth c H locs cells slots 0 0 (F0 m pc ls st) rest (va_Qv Q1 (Bw X) (xA X) a) (xA X))
    (kk : ∀ (τ : ST), Q1 τ → G p l e R s m args below meth c X A nL cells slots Qf τ (pc + 3) lv rest) : G p l e R s m args below meth c X A nL cells slots Qf σ pc lv st :=
  fun H locs ls hP hS hl => va_callv (hr H locs ls hP hS hl) hS (fun q _ h => xA_in E q h) (xA_in E) (fun u t H1 locs1 ht _ hp hB _ _ hS1 => kk u hp H1 locs1 ls (ht ▸ hB) hS1 hl)
theorem afterO (E : Ev p R s m args meth c X A nL cells slots cc own) {Q1 : Option Nat → ST → Prop} {a : Array Value} {rest : List Value} (hr : ∀ (H : Heap) (locs : List Loc) (ls : Array Slot), va_P (xD X) vwCl (wl X σ) H → va_S A s.heap H locs → Lv ls nL lv → va_Run p l e R s m args below meth c H locs cells slots 0 0 (F0 m pc ls st) rest (va_Qo X Q1 a) (xA X))
    (kk : ∀ (r : Option Nat) (τ : ST), Q1 r τ → G p l e R s m args below meth c X A nL cells slots Qf τ (pc + 3) lv (rv X r :: rest)) : G p l e R s m args below meth c X A nL cells slots Qf σ pc lv st := by
  intro H locs ls hP hS hl T hT Z
  obtain ⟨v, st₀, t, T', L, h0, Z', hL, e1, e2, ⟨⟨r, u, hv, hp, hb⟩, hz, hk⟩, sg⟩ := hr H locs ls hP hS hl T hT Z
  cases hv
  rw [h0] at hz hk
  have hA := xA_in E
  obtain ⟨t2, a1, b1⟩ := kk r u hp T'.heap (locs ++ L) ls (by rw [e1]; exact hb)
    ⟨Nat.le_trans hS.1 (by rw [e1]; exact hz), fun q h1 h2 => by rw [e1, hk q (Nat.lt_of_lt_of_le h1 hS.1) (fun z => h2 (hA q z))]; exact hS.2.1 q h1 h2, fun q hq => by
      rcases List.mem_append.mp hq with h | h
      · exact hS.2.2 q h
      · exact hA _ (hL q h)⟩ hl T' rfl Z'
  exact ⟨t2, sg t2 a1, b1⟩
/-! answers -/
theorem r_iret {Q : Int32 → ST → Prop} {x : Int32} (E : Ev p R s m args meth c X (xA X) nL 0 0 cc own) (hr : meth.sig.returnType = some .int) (hd : decode cc pc = .ok (.ireturn, 1)) (hq : Q x σ) : G p l e R s m args below meth c X (xA X) nL 0 0 (MQ below (va_Qi Q (Bw X) (xA X)) args s 0 0 (xA X)) σ pc lv [.int x] :=
  fun H locs ls hP hS hl => W.iret (v := x) E.x E.b hr (fun t ht hW => ⟨⟨x, σ, rfl, hq, by show va_P _ _ _ t.heap; rw [ht]; exact hP⟩, hS.F ht⟩) hS.2.2 hd E.lk
theorem r_zret {Q : Int32 → ST → Prop} {x : Int32} (E : Ev p R s m args meth c X (xA X) nL 0 0 cc own) (hr : meth.sig.returnType = some .boolean) (hd : decode cc pc = .ok (.ireturn, 1)) (hn : narrow .boolean (.int x) = .int x) (hq : Q x σ) : G p l e R s m args below meth c X (xA X) nL 0 0 (MQ below (va_Qi Q (Bw X) (xA X)) args s 0 0 (xA X)) σ pc lv [.int x] :=
  fun H locs ls hP hS hl => W.zret (v := x) E.x E.b hr hn (fun t ht hW => ⟨⟨x, σ, rfl, hq, by show va_P _ _ _ t.heap; rw [ht]; exact hP⟩, hS.F ht⟩) hS.2.2 hd E.lk
theorem r_lret {Q : Int64 → ST → Prop} {x : Int64} (E : Ev p R s m args meth c X (xA X) nL 0 0 cc own) (hr : meth.sig.returnType = some .long) (hd : decode cc pc = .ok (.lreturn, 1)) (hq : Q x σ) : G p l e R s m args below meth c X (xA X) nL 0 0 (MQ below (va_Ql Q (Bw X) (xA X)) args s 0 0 (xA X)) σ pc lv [.long x] :=
  fun H locs ls hP hS hl => W.lret (v := x) E.x E.b hr (fun t ht hW => ⟨⟨x, σ, rfl, hq, by show va_P _ _ _ t.heap; rw [ht]; exact hP⟩, hS.F ht⟩) hS.2.2 hd E.lk
theorem r_vret {Q : ST → Prop} (E : Ev p R s m args meth c X (xA X) nL 0 0 cc own) (hr : meth.sig.returnType = none) (hd : decode cc pc = .ok (.return_, 1)) (hq : Q σ) : G p l e R s m args below meth c X (xA X) nL 0 0 (MQ below (va_Qv Q (Bw X) (xA X)) args s 0 0 (xA X)) σ pc lv [] :=
  fun H locs ls hP hS hl => W.vret E.x E.b hr (fun t ht hW => ⟨⟨σ, rfl, hq, by show va_P _ _ _ t.heap; rw [ht]; exact hP⟩, hS.F ht⟩) hS.2.2 hd E.lk
theorem r_oret {Q : Option Nat → ST → Prop} (r : Option Nat) {n : String} {v : Value} (E : Ev p R s m args meth c X (xA X) nL 0 0 cc own) (hr : meth.sig.returnType = some (.object n)) (hd : decode cc pc = .ok (.areturn, 1)) (hv : rv X r = v) (hq : Q r σ) : G p l e R s m args below meth c X (xA X) nL 0 0 (MQ below (va_Qo X Q) args s 0 0 (xA X)) σ pc lv [v] := by
  subst hv
  exact fun H locs ls hP hS hl => W.aret (v := rv X r) E.x E.b hr (Or.inl ⟨n, rfl⟩) (by cases r <;> simp [rv]) (fun t ht hW => ⟨⟨r, σ, rfl, hq, by show va_P _ _ _ t.heap; rw [ht]; exact hP⟩, hS.F ht⟩) hS.2.2 hd E.lk
/-- a method's entry -/
theorem metG {y : MethodName} {bytes : ByteArray} {maxL k : Nat} {ret : Option FieldType} {rm : Room} {As : List Value} {Qc : Array Value → State → Outcome → State → Prop} {lv0 : List (Option Value)} (hy : plainName y.cls = true) (ho : y.cls = own) (hk : Nat.ble (lg_sl As).length maxL = true) (hlv : lvE As ++ List.replicate k none = lv0)
    (body : ∀ (p : Program) (e : Env) (s : State) (m : MethodId) (args : Array Value) (below : List Frame) (meth : Method) (c : Code), Ev p rm s m args meth c X (xA X) maxL 0 0 bytes own → meth.sig.returnType = ret → G p l e rm s m args below meth c X (xA X) maxL 0 0 (MQ below Qc args s 0 0 (xA X)) σ 0 lv0 []) : Met l y (wS y bytes maxL ret) rm (va_Pc As (Pw X σ)) Qc 0 0 (xA X) := by
  refine Met.ofW (cc := bytes) (maxL := maxL) (ret := ret) hy rfl ?_
  intro p e s m args below meth c s₁ B hml hv
  obtain ⟨rfl, hP, hK, hSb, hap⟩ := hv
  have hts := atoms_spec (ws := wS y bytes maxL ret) B.pre
  have hown : s.vm.findClass own = some m.cls := ho ▸ findClass_of_methodNamed B.named
  have E : Ev p rm s m As.toArray meth c X (xA X) maxL 0 0 bytes own := ⟨B.exec, B.bytes, hml, hown, fun w h => hts w (List.mem_cons_of_mem _ h), hK, hSb, hap, fun k h => ⟨k, h, rfl⟩, B.notSynchronized, Nat.zero_le _, Nat.zero_le _⟩
  rw [lg_entry_eq]
  subst hlv
  exact body p e s m As.toArray below meth c E B.returns s.heap [] _ hP va_S.rf (Lv.entry As (Nat.le_of_ble_eq_true hk))
/-- Math.max, Math.min -/
theorem r_mmax (E : Ev p R s m args meth c X A nL cells slots cc own) {index : Nat} {x y : Int32} (h1 : Cond.methodLink own index Lib.Math.max.name ∈ WS) (h2 : Cond.static Lib.Math.max.name ∈ WS) (h3 : Cond.initialized "java/lang/Math" ∈ WS) (h4 : Cond.code Lib.Math.max.name Lib.Math.max.code 2 (some .int) ∈ WS) (hf : Nat.ble 1 R.frames = true) (hlo : Nat.ble 21 R.locals = true) (h8 : cat8 st = true) (hd : decode cc pc = .ok (.invokestatic index, 3))
    (kk : G p l e R s m args below meth c X A nL cells slots Qf σ (pc + 3) lv (.int (if x < y then y else x) :: st)) : G p l e R s m args below meth c X A nL cells slots Qf σ pc lv (.int y :: .int x :: st) :=
  fun H locs ls hP hS hl => va_mmax E.x E.b (E.ml.trans hl.1.symm) E.ow (E.ts _ h1) (E.ts _ h2) (E.ts _ h3) (E.ts _ h4) (Nat.le_of_ble_eq_true hf) (by have := Nat.le_of_ble_eq_true hlo; have := Nat.le_of_ble_eq_true h8; omega) E.rc E.rs hd (kk H locs ls hP hS hl)
theorem r_mmin (E : Ev p R s m args meth c X A nL cells slots cc own) {index : Nat} {x y : Int32} (h1 : Cond.methodLink own index Lib.Math.min.name ∈ WS) (h2 : Cond.static Lib.Math.min.name ∈ WS) (h3 : Cond.initialized "java/lang/Math" ∈ WS) (h4 : Cond.code Lib.Math.min.name Lib.Math.min.code 2 (some .int) ∈ WS) (hf : Nat.ble 1 R.frames = true) (hlo : Nat.ble 21 R.locals = true) (h8 : cat8 st = true) (hd : decode cc pc = .ok (.invokestatic index, 3))
    (kk : G p l e R s m args below meth c X A nL cells slots Qf σ (pc + 3) lv (.int (if y < x then y else x) :: st)) : G p l e R s m args below meth c X A nL cells slots Qf σ pc lv (.int y :: .int x :: st) :=
  fun H locs ls hP hS hl => va_mmin E.x E.b (E.ml.trans hl.1.symm) E.ow (E.ts _ h1) (E.ts _ h2) (E.ts _ h3) (E.ts _ h4) (Nat.le_of_ble_eq_true hf) (by have := Nat.le_of_ble_eq_true hlo; have := Nat.le_of_ble_eq_true h8; omega) E.rc E.rs hd (kk H locs ls hP hS hl)
theorem r_ldcS (E : Ev p R s m args meth c X A nL cells slots cc own) {index i : Nat} {tx : String} (hi : i < 7) (ho : RX2 = own) (ht : txL.getD i (0, "") = (index, tx)) (hd : decode cc pc = .ok (.ldc index, 2)) (kk : G p l e R s m args below meth c X A nL cells slots Qf σ (pc + 2) lv (.ref (xk X i) :: st)) : G p l e R s m args below meth c X A nL cells slots Qf σ pc lv st := by
  intro H locs ls hP hS hl
  have h := E.kb.2.2.2 i hi
  rw [ht] at h
  subst ho
  exact va_ldcS E.x E.b E.ow h hd (kk H locs ls hP hS hl)
end GC
end
