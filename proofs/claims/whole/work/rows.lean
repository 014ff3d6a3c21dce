section
-- ===== PART A: goes FIRST, ahead of the names: the tables' words, and 'selects' of the private methods out of them =====
/-- a private method of a class that the tables say can be made, by its rows of tables_1 -/
def lw_okq (q : MethodName × Nat) : Prop := (q.1.cls ≠ "java/lang/invoke/MethodHandle" ∧ q.1.cls ≠ "java/lang/invoke/VarHandle") ∧ Cond.instantiable q.1.cls q.2 ∈ tables_1 ∧ Cond.privateMethod q.1 ∈ tables_1 ∧ Cond.instanceMethod q.1 ∈ tables_1
theorem lw_p0 : lw_okq (⟨"Classfederation", "isSeatWon", "(ILClassfederation$Offer;I)Z"⟩, 13) := ⟨⟨by decide +kernel, by decide +kernel⟩, List.mem_of_getElem? (i := 18) (by decide +kernel), List.mem_of_getElem? (i := 162) (by decide +kernel), List.mem_of_getElem? (i := 163) (by decide +kernel)⟩
theorem lw_p1 : lw_okq (⟨"Classfederation", "needsOnlySeat", "(ILClassfederation$Offer;I)Z"⟩, 13) := ⟨⟨by decide +kernel, by decide +kernel⟩, List.mem_of_getElem? (i := 18) (by decide +kernel), List.mem_of_getElem? (i := 166) (by decide +kernel), List.mem_of_getElem? (i := 167) (by decide +kernel)⟩
theorem lw_p2 : lw_okq (⟨"Classfederation", "isClosed", "(LClassfederation$Offer;)Z"⟩, 13) := ⟨⟨by decide +kernel, by decide +kernel⟩, List.mem_of_getElem? (i := 18) (by decide +kernel), List.mem_of_getElem? (i := 170) (by decide +kernel), List.mem_of_getElem? (i := 171) (by decide +kernel)⟩
theorem lw_p3 : lw_okq (⟨"Classfederation", "mayHaveSeat", "(ILClassfederation$Offer;)Z"⟩, 13) := ⟨⟨by decide +kernel, by decide +kernel⟩, List.mem_of_getElem? (i := 18) (by decide +kernel), List.mem_of_getElem? (i := 174) (by decide +kernel), List.mem_of_getElem? (i := 175) (by decide +kernel)⟩
theorem lw_p4 : lw_okq (⟨"Classfederation$Records", "isRightGiven", "(II)Z"⟩, 2) := ⟨⟨by decide +kernel, by decide +kernel⟩, List.mem_of_getElem? (i := 26) (by decide +kernel), List.mem_of_getElem? (i := 178) (by decide +kernel), List.mem_of_getElem? (i := 179) (by decide +kernel)⟩
theorem lw_p5 : lw_okq (⟨"Classfederation$Records", "isAgreed", "(II)Z"⟩, 2) := ⟨⟨by decide +kernel, by decide +kernel⟩, List.mem_of_getElem? (i := 26) (by decide +kernel), List.mem_of_getElem? (i := 185) (by decide +kernel), List.mem_of_getElem? (i := 186) (by decide +kernel)⟩
theorem lw_p6 : lw_okq (⟨"Classfederation$Records", "valueByOwner", "(III)I"⟩, 2) := ⟨⟨by decide +kernel, by decide +kernel⟩, List.mem_of_getElem? (i := 26) (by decide +kernel), List.mem_of_getElem? (i := 189) (by decide +kernel), List.mem_of_getElem? (i := 190) (by decide +kernel)⟩
theorem lw_p7 : lw_okq (⟨"Classfederation$Records", "valueIn", "(IIII)I"⟩, 2) := ⟨⟨by decide +kernel, by decide +kernel⟩, List.mem_of_getElem? (i := 26) (by decide +kernel), List.mem_of_getElem? (i := 193) (by decide +kernel), List.mem_of_getElem? (i := 194) (by decide +kernel)⟩
theorem lw_p8 : lw_okq (⟨"Classfederation$Records", "isResitOpen", "(II)Z"⟩, 2) := ⟨⟨by decide +kernel, by decide +kernel⟩, List.mem_of_getElem? (i := 26) (by decide +kernel), List.mem_of_getElem? (i := 197) (by decide +kernel), List.mem_of_getElem? (i := 198) (by decide +kernel)⟩
theorem lw_p9 : lw_okq (⟨"Classfederation", "offerHeldFor", "(IIZ)I"⟩, 13) := ⟨⟨by decide +kernel, by decide +kernel⟩, List.mem_of_getElem? (i := 18) (by decide +kernel), List.mem_of_getElem? (i := 202) (by decide +kernel), List.mem_of_getElem? (i := 203) (by decide +kernel)⟩
theorem lw_p10 : lw_okq (⟨"Classfederation$Offer", "isOf", "(IZ)Z"⟩, 9) := ⟨⟨by decide +kernel, by decide +kernel⟩, List.mem_of_getElem? (i := 70) (by decide +kernel), List.mem_of_getElem? (i := 206) (by decide +kernel), List.mem_of_getElem? (i := 207) (by decide +kernel)⟩
theorem lw_p11 : lw_okq (⟨"Classfederation$Offer", "hasSeated", "(I)Z"⟩, 9) := ⟨⟨by decide +kernel, by decide +kernel⟩, List.mem_of_getElem? (i := 70) (by decide +kernel), List.mem_of_getElem? (i := 210) (by decide +kernel), List.mem_of_getElem? (i := 211) (by decide +kernel)⟩
theorem lw_p12 : lw_okq (⟨"Classfederation", "offerHeldAt", "(II)I"⟩, 13) := ⟨⟨by decide +kernel, by decide +kernel⟩, List.mem_of_getElem? (i := 18) (by decide +kernel), List.mem_of_getElem? (i := 214) (by decide +kernel), List.mem_of_getElem? (i := 215) (by decide +kernel)⟩
theorem lw_p13 : lw_okq (⟨"Classfederation$Offer", "isFull", "()Z"⟩, 9) := ⟨⟨by decide +kernel, by decide +kernel⟩, List.mem_of_getElem? (i := 70) (by decide +kernel), List.mem_of_getElem? (i := 218) (by decide +kernel), List.mem_of_getElem? (i := 219) (by decide +kernel)⟩
theorem lw_p14 : lw_okq (⟨"Classfederation$Offer", "countTaken", "()I"⟩, 9) := ⟨⟨by decide +kernel, by decide +kernel⟩, List.mem_of_getElem? (i := 70) (by decide +kernel), List.mem_of_getElem? (i := 222) (by decide +kernel), List.mem_of_getElem? (i := 223) (by decide +kernel)⟩
theorem lw_p15 : lw_okq (⟨"Classfederation$Offer", "letWait", "(II)V"⟩, 9) := ⟨⟨by decide +kernel, by decide +kernel⟩, List.mem_of_getElem? (i := 70) (by decide +kernel), List.mem_of_getElem? (i := 227) (by decide +kernel), List.mem_of_getElem? (i := 228) (by decide +kernel)⟩
def lw_privs_1 : List (MethodName × Nat) := [(⟨"Classfederation", "isSeatWon", "(ILClassfederation$Offer;I)Z"⟩, 13), (⟨"Classfederation", "needsOnlySeat", "(ILClassfederation$Offer;I)Z"⟩, 13), (⟨"Classfederation", "isClosed", "(LClassfederation$Offer;)Z"⟩, 13), (⟨"Classfederation", "mayHaveSeat", "(ILClassfederation$Offer;)Z"⟩, 13), (⟨"Classfederation$Records", "isRightGiven", "(II)Z"⟩, 2), (⟨"Classfederation$Records", "isAgreed", "(II)Z"⟩, 2), (⟨"Classfederation$Records", "valueByOwner", "(III)I"⟩, 2), (⟨"Classfederation$Records", "valueIn", "(IIII)I"⟩, 2), (⟨"Classfederation$Records", "isResitOpen", "(II)Z"⟩, 2), (⟨"Classfederation", "offerHeldFor", "(IIZ)I"⟩, 13), (⟨"Classfederation$Offer", "isOf", "(IZ)Z"⟩, 9), (⟨"Classfederation$Offer", "hasSeated", "(I)Z"⟩, 9), (⟨"Classfederation", "offerHeldAt", "(II)I"⟩, 13), (⟨"Classfederation$Offer", "isFull", "()Z"⟩, 9), (⟨"Classfederation$Offer", "countTaken", "()I"⟩, 9), (⟨"Classfederation$Offer", "letWait", "(II)V"⟩, 9)]
theorem lw_r1 : ∀ q ∈ lw_privs_1, lw_okq q := List.forall_mem_cons.mpr ⟨lw_p0, List.forall_mem_cons.mpr ⟨lw_p1, List.forall_mem_cons.mpr ⟨lw_p2, List.forall_mem_cons.mpr ⟨lw_p3, List.forall_mem_cons.mpr ⟨lw_p4, List.forall_mem_cons.mpr ⟨lw_p5, List.forall_mem_cons.mpr ⟨lw_p6, List.forall_mem_cons.mpr ⟨lw_p7, List.forall_mem_cons.mpr ⟨lw_p8, List.forall_mem_cons.mpr ⟨lw_p9, List.forall_mem_cons.mpr ⟨lw_p10, List.forall_mem_cons.mpr ⟨lw_p11, List.forall_mem_cons.mpr ⟨lw_p12, List.forall_mem_cons.mpr ⟨lw_p13, List.forall_mem_cons.mpr ⟨lw_p14, List.forall_mem_cons.mpr ⟨lw_p15, fun _ h => absurd h List.not_mem_nil⟩⟩⟩⟩⟩⟩⟩⟩⟩⟩⟩⟩⟩⟩⟩⟩
theorem lw_p16 : lw_okq (⟨"Classfederation$Offer", "placeInQueue", "(I)I"⟩, 9) := ⟨⟨by decide +kernel, by decide +kernel⟩, List.mem_of_getElem? (i := 70) (by decide +kernel), List.mem_of_getElem? (i := 231) (by decide +kernel), List.mem_of_getElem? (i := 232) (by decide +kernel)⟩
theorem lw_p17 : lw_okq (⟨"Classfederation", "giveSeat", "(ILClassfederation$Offer;I)V"⟩, 13) := ⟨⟨by decide +kernel, by decide +kernel⟩, List.mem_of_getElem? (i := 18) (by decide +kernel), List.mem_of_getElem? (i := 235) (by decide +kernel), List.mem_of_getElem? (i := 236) (by decide +kernel)⟩
theorem lw_p18 : lw_okq (⟨"Classfederation$Offer", "letWaitNoMore", "(I)V"⟩, 9) := ⟨⟨by decide +kernel, by decide +kernel⟩, List.mem_of_getElem? (i := 70) (by decide +kernel), List.mem_of_getElem? (i := 239) (by decide +kernel), List.mem_of_getElem? (i := 240) (by decide +kernel)⟩
theorem lw_p19 : lw_okq (⟨"Classfederation", "hasSeatsThatClash", "(I)Z"⟩, 13) := ⟨⟨by decide +kernel, by decide +kernel⟩, List.mem_of_getElem? (i := 18) (by decide +kernel), List.mem_of_getElem? (i := 255) (by decide +kernel), List.mem_of_getElem? (i := 256) (by decide +kernel)⟩
theorem lw_p20 : lw_okq (⟨"Classfederation", "arePointsWhole", "(I)Z"⟩, 13) := ⟨⟨by decide +kernel, by decide +kernel⟩, List.mem_of_getElem? (i := 18) (by decide +kernel), List.mem_of_getElem? (i := 259) (by decide +kernel), List.mem_of_getElem? (i := 260) (by decide +kernel)⟩
theorem lw_p21 : lw_okq (⟨"Classfederation$Offer", "hasSeatedWaiter", "()Z"⟩, 9) := ⟨⟨by decide +kernel, by decide +kernel⟩, List.mem_of_getElem? (i := 70) (by decide +kernel), List.mem_of_getElem? (i := 264) (by decide +kernel), List.mem_of_getElem? (i := 265) (by decide +kernel)⟩
theorem lw_p22 : lw_okq (⟨"Classfederation", "isRoomShared", "(I)Z"⟩, 13) := ⟨⟨by decide +kernel, by decide +kernel⟩, List.mem_of_getElem? (i := 18) (by decide +kernel), List.mem_of_getElem? (i := 268) (by decide +kernel), List.mem_of_getElem? (i := 269) (by decide +kernel)⟩
theorem lw_p23 : lw_okq (⟨"java/lang/Throwable", "fillInStackTrace", "(I)Ljava/lang/Throwable;"⟩, 6) := ⟨⟨by decide +kernel, by decide +kernel⟩, List.mem_of_getElem? (i := 323) (by decide +kernel), List.mem_of_getElem? (i := 321) (by decide +kernel), List.mem_of_getElem? (i := 322) (by decide +kernel)⟩
theorem lw_p24 : lw_okq (⟨"Classfederation", "needExam", "(I)V"⟩, 13) := ⟨⟨by decide +kernel, by decide +kernel⟩, List.mem_of_getElem? (i := 18) (by decide +kernel), List.mem_of_getElem? (i := 417) (by decide +kernel), List.mem_of_getElem? (i := 418) (by decide +kernel)⟩
theorem lw_p25 : lw_okq (⟨"Classfederation", "isRoomTaken", "(II)Z"⟩, 13) := ⟨⟨by decide +kernel, by decide +kernel⟩, List.mem_of_getElem? (i := 18) (by decide +kernel), List.mem_of_getElem? (i := 439) (by decide +kernel), List.mem_of_getElem? (i := 440) (by decide +kernel)⟩
theorem lw_p26 : lw_okq (⟨"Classfederation$Offer", "open", "(IIIIZ)V"⟩, 9) := ⟨⟨by decide +kernel, by decide +kernel⟩, List.mem_of_getElem? (i := 70) (by decide +kernel), List.mem_of_getElem? (i := 460) (by decide +kernel), List.mem_of_getElem? (i := 461) (by decide +kernel)⟩
theorem lw_p27 : lw_okq (⟨"Classfederation", "needPupil", "(I)V"⟩, 13) := ⟨⟨by decide +kernel, by decide +kernel⟩, List.mem_of_getElem? (i := 18) (by decide +kernel), List.mem_of_getElem? (i := 471) (by decide +kernel), List.mem_of_getElem? (i := 472) (by decide +kernel)⟩
theorem lw_p28 : lw_okq (⟨"Classfederation", "offerNumbered", "(I)LClassfederation$Offer;"⟩, 13) := ⟨⟨by decide +kernel, by decide +kernel⟩, List.mem_of_getElem? (i := 18) (by decide +kernel), List.mem_of_getElem? (i := 476) (by decide +kernel), List.mem_of_getElem? (i := 477) (by decide +kernel)⟩
theorem lw_p29 : lw_okq (⟨"Classfederation", "needOffer", "(I)V"⟩, 13) := ⟨⟨by decide +kernel, by decide +kernel⟩, List.mem_of_getElem? (i := 18) (by decide +kernel), List.mem_of_getElem? (i := 480) (by decide +kernel), List.mem_of_getElem? (i := 481) (by decide +kernel)⟩
theorem lw_p30 : lw_okq (⟨"Classfederation$Round", "sumOf", "(I)I"⟩, 4) := ⟨⟨by decide +kernel, by decide +kernel⟩, List.mem_of_getElem? (i := 46) (by decide +kernel), List.mem_of_getElem? (i := 486) (by decide +kernel), List.mem_of_getElem? (i := 487) (by decide +kernel)⟩
theorem lw_p31 : lw_okq (⟨"Classfederation$Round", "pointsBid", "(II)I"⟩, 4) := ⟨⟨by decide +kernel, by decide +kernel⟩, List.mem_of_getElem? (i := 46) (by decide +kernel), List.mem_of_getElem? (i := 490) (by decide +kernel), List.mem_of_getElem? (i := 491) (by decide +kernel)⟩
def lw_privs_2 : List (MethodName × Nat) := [(⟨"Classfederation$Offer", "placeInQueue", "(I)I"⟩, 9), (⟨"Classfederation", "giveSeat", "(ILClassfederation$Offer;I)V"⟩, 13), (⟨"Classfederation$Offer", "letWaitNoMore", "(I)V"⟩, 9), (⟨"Classfederation", "hasSeatsThatClash", "(I)Z"⟩, 13), (⟨"Classfederation", "arePointsWhole", "(I)Z"⟩, 13), (⟨"Classfederation$Offer", "hasSeatedWaiter", "()Z"⟩, 9), (⟨"Classfederation", "isRoomShared", "(I)Z"⟩, 13), (⟨"java/lang/Throwable", "fillInStackTrace", "(I)Ljava/lang/Throwable;"⟩, 6), (⟨"Classfederation", "needExam", "(I)V"⟩, 13), (⟨"Classfederation", "isRoomTaken", "(II)Z"⟩, 13), (⟨"Classfederation$Offer", "open", "(IIIIZ)V"⟩, 9), (⟨"Classfederation", "needPupil", "(I)V"⟩, 13), (⟨"Classfederation", "offerNumbered", "(I)LClassfederation$Offer;"⟩, 13), (⟨"Classfederation", "needOffer", "(I)V"⟩, 13), (⟨"Classfederation$Round", "sumOf", "(I)I"⟩, 4), (⟨"Classfederation$Round", "pointsBid", "(II)I"⟩, 4)]
theorem lw_r2 : ∀ q ∈ lw_privs_2, lw_okq q := List.forall_mem_cons.mpr ⟨lw_p16, List.forall_mem_cons.mpr ⟨lw_p17, List.forall_mem_cons.mpr ⟨lw_p18, List.forall_mem_cons.mpr ⟨lw_p19, List.forall_mem_cons.mpr ⟨lw_p20, List.forall_mem_cons.mpr ⟨lw_p21, List.forall_mem_cons.mpr ⟨lw_p22, List.forall_mem_cons.mpr ⟨lw_p23, List.forall_mem_cons.mpr ⟨lw_p24, List.forall_mem_cons.mpr ⟨lw_p25, List.forall_mem_cons.mpr ⟨lw_p26, List.forall_mem_cons.mpr ⟨lw_p27, List.forall_mem_cons.mpr ⟨lw_p28, List.forall_mem_cons.mpr ⟨lw_p29, List.forall_mem_cons.mpr ⟨lw_p30, List.forall_mem_cons.mpr ⟨lw_p31, fun _ h => absurd h List.not_mem_nil⟩⟩⟩⟩⟩⟩⟩⟩⟩⟩⟩⟩⟩⟩⟩⟩
theorem lw_p32 : lw_okq (⟨"Classfederation$Round", "placeOf", "(II)I"⟩, 4) := ⟨⟨by decide +kernel, by decide +kernel⟩, List.mem_of_getElem? (i := 46) (by decide +kernel), List.mem_of_getElem? (i := 494) (by decide +kernel), List.mem_of_getElem? (i := 495) (by decide +kernel)⟩
theorem lw_p33 : lw_okq (⟨"Classfederation$Round", "takeOut", "(II)V"⟩, 4) := ⟨⟨by decide +kernel, by decide +kernel⟩, List.mem_of_getElem? (i := 46) (by decide +kernel), List.mem_of_getElem? (i := 499) (by decide +kernel), List.mem_of_getElem? (i := 500) (by decide +kernel)⟩
theorem lw_p34 : lw_okq (⟨"Classfederation$Round", "tell", "(III)V"⟩, 4) := ⟨⟨by decide +kernel, by decide +kernel⟩, List.mem_of_getElem? (i := 46) (by decide +kernel), List.mem_of_getElem? (i := 503) (by decide +kernel), List.mem_of_getElem? (i := 504) (by decide +kernel)⟩
theorem lw_p35 : lw_okq (⟨"Classfederation", "examHeldAt", "(II)I"⟩, 13) := ⟨⟨by decide +kernel, by decide +kernel⟩, List.mem_of_getElem? (i := 18) (by decide +kernel), List.mem_of_getElem? (i := 553) (by decide +kernel), List.mem_of_getElem? (i := 554) (by decide +kernel)⟩
theorem lw_p36 : lw_okq (⟨"Classfederation$Offer", "pupilSeated", "(I)I"⟩, 9) := ⟨⟨by decide +kernel, by decide +kernel⟩, List.mem_of_getElem? (i := 70) (by decide +kernel), List.mem_of_getElem? (i := 572) (by decide +kernel), List.mem_of_getElem? (i := 573) (by decide +kernel)⟩
theorem lw_p37 : lw_okq (⟨"Classfederation$Offer", "unseat", "(I)I"⟩, 9) := ⟨⟨by decide +kernel, by decide +kernel⟩, List.mem_of_getElem? (i := 70) (by decide +kernel), List.mem_of_getElem? (i := 608) (by decide +kernel), List.mem_of_getElem? (i := 609) (by decide +kernel)⟩
theorem lw_p38 : lw_okq (⟨"Classfederation", "payBack", "(II)V"⟩, 13) := ⟨⟨by decide +kernel, by decide +kernel⟩, List.mem_of_getElem? (i := 18) (by decide +kernel), List.mem_of_getElem? (i := 612) (by decide +kernel), List.mem_of_getElem? (i := 613) (by decide +kernel)⟩
theorem lw_p39 : lw_okq (⟨"Classfederation", "moveOneUp", "(LClassfederation$Offer;)I"⟩, 13) := ⟨⟨by decide +kernel, by decide +kernel⟩, List.mem_of_getElem? (i := 18) (by decide +kernel), List.mem_of_getElem? (i := 616) (by decide +kernel), List.mem_of_getElem? (i := 617) (by decide +kernel)⟩
theorem lw_p40 : lw_okq (⟨"Classfederation", "isSeatLostByMove", "(ILClassfederation$Offer;I)Z"⟩, 13) := ⟨⟨by decide +kernel, by decide +kernel⟩, List.mem_of_getElem? (i := 18) (by decide +kernel), List.mem_of_getElem? (i := 628) (by decide +kernel), List.mem_of_getElem? (i := 629) (by decide +kernel)⟩
theorem lw_p41 : lw_okq (⟨"Classfederation", "moveAllUp", "(LClassfederation$Offer;)V"⟩, 13) := ⟨⟨by decide +kernel, by decide +kernel⟩, List.mem_of_getElem? (i := 18) (by decide +kernel), List.mem_of_getElem? (i := 632) (by decide +kernel), List.mem_of_getElem? (i := 633) (by decide +kernel)⟩
theorem lw_p42 : lw_okq (⟨"Classfederation$Records", "put", "(IIIII)V"⟩, 2) := ⟨⟨by decide +kernel, by decide +kernel⟩, List.mem_of_getElem? (i := 26) (by decide +kernel), List.mem_of_getElem? (i := 663) (by decide +kernel), List.mem_of_getElem? (i := 664) (by decide +kernel)⟩
theorem lw_p43 : lw_okq (⟨"Classfederation$Records", "copyOwned", "(II)I"⟩, 2) := ⟨⟨by decide +kernel, by decide +kernel⟩, List.mem_of_getElem? (i := 26) (by decide +kernel), List.mem_of_getElem? (i := 682) (by decide +kernel), List.mem_of_getElem? (i := 683) (by decide +kernel)⟩
theorem lw_p44 : lw_okq (⟨"Classfederation$Records", "areSame", "(III)Z"⟩, 2) := ⟨⟨by decide +kernel, by decide +kernel⟩, List.mem_of_getElem? (i := 26) (by decide +kernel), List.mem_of_getElem? (i := 703) (by decide +kernel), List.mem_of_getElem? (i := 704) (by decide +kernel)⟩
theorem lw_p45 : lw_okq (⟨"Classfederation$Records", "countApart", "(I)I"⟩, 2) := ⟨⟨by decide +kernel, by decide +kernel⟩, List.mem_of_getElem? (i := 26) (by decide +kernel), List.mem_of_getElem? (i := 715) (by decide +kernel), List.mem_of_getElem? (i := 716) (by decide +kernel)⟩
theorem lw_p46 : lw_okq (⟨"Classfederation", "letSit", "(LClassfederation$Offer;)I"⟩, 13) := ⟨⟨by decide +kernel, by decide +kernel⟩, List.mem_of_getElem? (i := 18) (by decide +kernel), List.mem_of_getElem? (i := 741) (by decide +kernel), List.mem_of_getElem? (i := 742) (by decide +kernel)⟩
theorem lw_p47 : lw_okq (⟨"ClassfederationModel", "isExam", "(I)Z"⟩, 24) := ⟨⟨by decide +kernel, by decide +kernel⟩, List.mem_of_getElem? (i := 791) (by decide +kernel), List.mem_of_getElem? (i := 893) (by decide +kernel), List.mem_of_getElem? (i := 894) (by decide +kernel)⟩
def lw_privs_3 : List (MethodName × Nat) := [(⟨"Classfederation$Round", "placeOf", "(II)I"⟩, 4), (⟨"Classfederation$Round", "takeOut", "(II)V"⟩, 4), (⟨"Classfederation$Round", "tell", "(III)V"⟩, 4), (⟨"Classfederation", "examHeldAt", "(II)I"⟩, 13), (⟨"Classfederation$Offer", "pupilSeated", "(I)I"⟩, 9), (⟨"Classfederation$Offer", "unseat", "(I)I"⟩, 9), (⟨"Classfederation", "payBack", "(II)V"⟩, 13), (⟨"Classfederation", "moveOneUp", "(LClassfederation$Offer;)I"⟩, 13), (⟨"Classfederation", "isSeatLostByMove", "(ILClassfederation$Offer;I)Z"⟩, 13), (⟨"Classfederation", "moveAllUp", "(LClassfederation$Offer;)V"⟩, 13), (⟨"Classfederation$Records", "put", "(IIIII)V"⟩, 2), (⟨"Classfederation$Records", "copyOwned", "(II)I"⟩, 2), (⟨"Classfederation$Records", "areSame", "(III)Z"⟩, 2), (⟨"Classfederation$Records", "countApart", "(I)I"⟩, 2), (⟨"Classfederation", "letSit", "(LClassfederation$Offer;)I"⟩, 13), (⟨"ClassfederationModel", "isExam", "(I)Z"⟩, 24)]
theorem lw_r3 : ∀ q ∈ lw_privs_3, lw_okq q := List.forall_mem_cons.mpr ⟨lw_p32, List.forall_mem_cons.mpr ⟨lw_p33, List.forall_mem_cons.mpr ⟨lw_p34, List.forall_mem_cons.mpr ⟨lw_p35, List.forall_mem_cons.mpr ⟨lw_p36, List.forall_mem_cons.mpr ⟨lw_p37, List.forall_mem_cons.mpr ⟨lw_p38, List.forall_mem_cons.mpr ⟨lw_p39, List.forall_mem_cons.mpr ⟨lw_p40, List.forall_mem_cons.mpr ⟨lw_p41, List.forall_mem_cons.mpr ⟨lw_p42, List.forall_mem_cons.mpr ⟨lw_p43, List.forall_mem_cons.mpr ⟨lw_p44, List.forall_mem_cons.mpr ⟨lw_p45, List.forall_mem_cons.mpr ⟨lw_p46, List.forall_mem_cons.mpr ⟨lw_p47, fun _ h => absurd h List.not_mem_nil⟩⟩⟩⟩⟩⟩⟩⟩⟩⟩⟩⟩⟩⟩⟩⟩
theorem lw_p48 : lw_okq (⟨"ClassfederationModel", "isTaken", "(II)Z"⟩, 24) := ⟨⟨by decide +kernel, by decide +kernel⟩, List.mem_of_getElem? (i := 791) (by decide +kernel), List.mem_of_getElem? (i := 900) (by decide +kernel), List.mem_of_getElem? (i := 901) (by decide +kernel)⟩
theorem lw_p49 : lw_okq (⟨"ClassfederationModel", "isPupil", "(I)Z"⟩, 24) := ⟨⟨by decide +kernel, by decide +kernel⟩, List.mem_of_getElem? (i := 791) (by decide +kernel), List.mem_of_getElem? (i := 908) (by decide +kernel), List.mem_of_getElem? (i := 909) (by decide +kernel)⟩
theorem lw_p50 : lw_okq (⟨"ClassfederationModel", "isOffer", "(I)Z"⟩, 24) := ⟨⟨by decide +kernel, by decide +kernel⟩, List.mem_of_getElem? (i := 791) (by decide +kernel), List.mem_of_getElem? (i := 912) (by decide +kernel), List.mem_of_getElem? (i := 913) (by decide +kernel)⟩
theorem lw_p51 : lw_okq (⟨"ClassfederationModel", "nextBid", "()I"⟩, 24) := ⟨⟨by decide +kernel, by decide +kernel⟩, List.mem_of_getElem? (i := 791) (by decide +kernel), List.mem_of_getElem? (i := 931) (by decide +kernel), List.mem_of_getElem? (i := 932) (by decide +kernel)⟩
theorem lw_p52 : lw_okq (⟨"ClassfederationModel", "does", "(III)Z"⟩, 24) := ⟨⟨by decide +kernel, by decide +kernel⟩, List.mem_of_getElem? (i := 791) (by decide +kernel), List.mem_of_getElem? (i := 935) (by decide +kernel), List.mem_of_getElem? (i := 936) (by decide +kernel)⟩
theorem lw_p53 : lw_okq (⟨"ClassfederationModel", "can", "(II)Z"⟩, 24) := ⟨⟨by decide +kernel, by decide +kernel⟩, List.mem_of_getElem? (i := 791) (by decide +kernel), List.mem_of_getElem? (i := 939) (by decide +kernel), List.mem_of_getElem? (i := 940) (by decide +kernel)⟩
theorem lw_p54 : lw_okq (⟨"ClassfederationModel", "opens", "(II)Z"⟩, 24) := ⟨⟨by decide +kernel, by decide +kernel⟩, List.mem_of_getElem? (i := 791) (by decide +kernel), List.mem_of_getElem? (i := 943) (by decide +kernel), List.mem_of_getElem? (i := 944) (by decide +kernel)⟩
theorem lw_p55 : lw_okq (⟨"ClassfederationModel", "agree", "(III)Z"⟩, 24) := ⟨⟨by decide +kernel, by decide +kernel⟩, List.mem_of_getElem? (i := 791) (by decide +kernel), List.mem_of_getElem? (i := 947) (by decide +kernel), List.mem_of_getElem? (i := 948) (by decide +kernel)⟩
theorem lw_p56 : lw_okq (⟨"ClassfederationModel", "sits", "(II)Z"⟩, 24) := ⟨⟨by decide +kernel, by decide +kernel⟩, List.mem_of_getElem? (i := 791) (by decide +kernel), List.mem_of_getElem? (i := 954) (by decide +kernel), List.mem_of_getElem? (i := 955) (by decide +kernel)⟩
theorem lw_p57 : lw_okq (⟨"ClassfederationModel", "isFree", "(II)Z"⟩, 24) := ⟨⟨by decide +kernel, by decide +kernel⟩, List.mem_of_getElem? (i := 791) (by decide +kernel), List.mem_of_getElem? (i := 958) (by decide +kernel), List.mem_of_getElem? (i := 959) (by decide +kernel)⟩
theorem lw_p58 : lw_okq (⟨"ClassfederationModel", "isLike", "(II)Z"⟩, 24) := ⟨⟨by decide +kernel, by decide +kernel⟩, List.mem_of_getElem? (i := 791) (by decide +kernel), List.mem_of_getElem? (i := 962) (by decide +kernel), List.mem_of_getElem? (i := 963) (by decide +kernel)⟩
theorem lw_p59 : lw_okq (⟨"ClassfederationModel", "hasSeat", "(I)Z"⟩, 24) := ⟨⟨by decide +kernel, by decide +kernel⟩, List.mem_of_getElem? (i := 791) (by decide +kernel), List.mem_of_getElem? (i := 966) (by decide +kernel), List.mem_of_getElem? (i := 967) (by decide +kernel)⟩
theorem lw_p60 : lw_okq (⟨"ClassfederationModel", "held", "(I)I"⟩, 24) := ⟨⟨by decide +kernel, by decide +kernel⟩, List.mem_of_getElem? (i := 791) (by decide +kernel), List.mem_of_getElem? (i := 970) (by decide +kernel), List.mem_of_getElem? (i := 971) (by decide +kernel)⟩
theorem lw_p61 : lw_okq (⟨"ClassfederationModel", "give", "(III)V"⟩, 24) := ⟨⟨by decide +kernel, by decide +kernel⟩, List.mem_of_getElem? (i := 791) (by decide +kernel), List.mem_of_getElem? (i := 974) (by decide +kernel), List.mem_of_getElem? (i := 975) (by decide +kernel)⟩
theorem lw_p62 : lw_okq (⟨"ClassfederationModel", "leave", "(II)V"⟩, 24) := ⟨⟨by decide +kernel, by decide +kernel⟩, List.mem_of_getElem? (i := 791) (by decide +kernel), List.mem_of_getElem? (i := 978) (by decide +kernel), List.mem_of_getElem? (i := 979) (by decide +kernel)⟩
theorem lw_p63 : lw_okq (⟨"ClassfederationModel", "placeOf", "(II)I"⟩, 24) := ⟨⟨by decide +kernel, by decide +kernel⟩, List.mem_of_getElem? (i := 791) (by decide +kernel), List.mem_of_getElem? (i := 982) (by decide +kernel), List.mem_of_getElem? (i := 983) (by decide +kernel)⟩
def lw_privs_4 : List (MethodName × Nat) := [(⟨"ClassfederationModel", "isTaken", "(II)Z"⟩, 24), (⟨"ClassfederationModel", "isPupil", "(I)Z"⟩, 24), (⟨"ClassfederationModel", "isOffer", "(I)Z"⟩, 24), (⟨"ClassfederationModel", "nextBid", "()I"⟩, 24), (⟨"ClassfederationModel", "does", "(III)Z"⟩, 24), (⟨"ClassfederationModel", "can", "(II)Z"⟩, 24), (⟨"ClassfederationModel", "opens", "(II)Z"⟩, 24), (⟨"ClassfederationModel", "agree", "(III)Z"⟩, 24), (⟨"ClassfederationModel", "sits", "(II)Z"⟩, 24), (⟨"ClassfederationModel", "isFree", "(II)Z"⟩, 24), (⟨"ClassfederationModel", "isLike", "(II)Z"⟩, 24), (⟨"ClassfederationModel", "hasSeat", "(I)Z"⟩, 24), (⟨"ClassfederationModel", "held", "(I)I"⟩, 24), (⟨"ClassfederationModel", "give", "(III)V"⟩, 24), (⟨"ClassfederationModel", "leave", "(II)V"⟩, 24), (⟨"ClassfederationModel", "placeOf", "(II)I"⟩, 24)]
theorem lw_r4 : ∀ q ∈ lw_privs_4, lw_okq q := List.forall_mem_cons.mpr ⟨lw_p48, List.forall_mem_cons.mpr ⟨lw_p49, List.forall_mem_cons.mpr ⟨lw_p50, List.forall_mem_cons.mpr ⟨lw_p51, List.forall_mem_cons.mpr ⟨lw_p52, List.forall_mem_cons.mpr ⟨lw_p53, List.forall_mem_cons.mpr ⟨lw_p54, List.forall_mem_cons.mpr ⟨lw_p55, List.forall_mem_cons.mpr ⟨lw_p56, List.forall_mem_cons.mpr ⟨lw_p57, List.forall_mem_cons.mpr ⟨lw_p58, List.forall_mem_cons.mpr ⟨lw_p59, List.forall_mem_cons.mpr ⟨lw_p60, List.forall_mem_cons.mpr ⟨lw_p61, List.forall_mem_cons.mpr ⟨lw_p62, List.forall_mem_cons.mpr ⟨lw_p63, fun _ h => absurd h List.not_mem_nil⟩⟩⟩⟩⟩⟩⟩⟩⟩⟩⟩⟩⟩⟩⟩⟩
theorem lw_p64 : lw_okq (⟨"ClassfederationModel", "noneAt", "(II)Z"⟩, 24) := ⟨⟨by decide +kernel, by decide +kernel⟩, List.mem_of_getElem? (i := 791) (by decide +kernel), List.mem_of_getElem? (i := 1002) (by decide +kernel), List.mem_of_getElem? (i := 1003) (by decide +kernel)⟩
theorem lw_p65 : lw_okq (⟨"ClassfederationModel", "offerAt", "(II)I"⟩, 24) := ⟨⟨by decide +kernel, by decide +kernel⟩, List.mem_of_getElem? (i := 791) (by decide +kernel), List.mem_of_getElem? (i := 1006) (by decide +kernel), List.mem_of_getElem? (i := 1007) (by decide +kernel)⟩
theorem lw_p66 : lw_okq (⟨"ClassfederationModel", "bring", "(II)V"⟩, 24) := ⟨⟨by decide +kernel, by decide +kernel⟩, List.mem_of_getElem? (i := 791) (by decide +kernel), List.mem_of_getElem? (i := 1034) (by decide +kernel), List.mem_of_getElem? (i := 1035) (by decide +kernel)⟩
theorem lw_p67 : lw_okq (⟨"ClassfederationModel", "movesUp", "(I)I"⟩, 24) := ⟨⟨by decide +kernel, by decide +kernel⟩, List.mem_of_getElem? (i := 791) (by decide +kernel), List.mem_of_getElem? (i := 1038) (by decide +kernel), List.mem_of_getElem? (i := 1039) (by decide +kernel)⟩
theorem lw_p68 : lw_okq (⟨"ClassfederationModel", "noRecord", "(III)Z"⟩, 24) := ⟨⟨by decide +kernel, by decide +kernel⟩, List.mem_of_getElem? (i := 791) (by decide +kernel), List.mem_of_getElem? (i := 1061) (by decide +kernel), List.mem_of_getElem? (i := 1062) (by decide +kernel)⟩
def lw_privs_5 : List (MethodName × Nat) := [(⟨"ClassfederationModel", "noneAt", "(II)Z"⟩, 24), (⟨"ClassfederationModel", "offerAt", "(II)I"⟩, 24), (⟨"ClassfederationModel", "bring", "(II)V"⟩, 24), (⟨"ClassfederationModel", "movesUp", "(I)I"⟩, 24), (⟨"ClassfederationModel", "noRecord", "(III)Z"⟩, 24)]
theorem lw_r5 : ∀ q ∈ lw_privs_5, lw_okq q := List.forall_mem_cons.mpr ⟨lw_p64, List.forall_mem_cons.mpr ⟨lw_p65, List.forall_mem_cons.mpr ⟨lw_p66, List.forall_mem_cons.mpr ⟨lw_p67, List.forall_mem_cons.mpr ⟨lw_p68, fun _ h => absurd h List.not_mem_nil⟩⟩⟩⟩⟩
def lw_privs : List (MethodName × Nat) := lw_privs_1 ++ (lw_privs_2 ++ (lw_privs_3 ++ (lw_privs_4 ++ (lw_privs_5))))
def lw_tbl : List Cond := k2_sels lw_privs ++ tables_1
theorem lw_privs_ok : ∀ q ∈ lw_privs, lw_okq q := by
  show ∀ q ∈ lw_privs_1 ++ (lw_privs_2 ++ (lw_privs_3 ++ (lw_privs_4 ++ (lw_privs_5)))), lw_okq q
  exact List.forall_mem_append.mpr ⟨lw_r1, List.forall_mem_append.mpr ⟨lw_r2, List.forall_mem_append.mpr ⟨lw_r3, List.forall_mem_append.mpr ⟨lw_r4, lw_r5⟩⟩⟩⟩
/-- the streams that the claim lets the run draw from -/
abbrev lw_cs : List Choice := [Jvm.Choice.named "NaN.bits"]
theorem lw_bits : nanBits ∈ lw_cs := by first | decide | exact List.mem_cons_self | simp [lw_cs, nanBits]
end
section
/-! ===== BEGIN words of one list among another's, by their places ===== -/
theorem goodIn_r {big : List Cond} (ws : List Cond) (ps : List Nat) (hp : ws = ps.filterMap (fun i => big[i]?)) (h : ws.all goodWord = true) : GoodIn big ws := by
  intro w hw
  have h1 := List.all_eq_true.mp h w hw
  rw [hp] at hw
  obtain ⟨i, -, hi⟩ := List.mem_filterMap.mp hw
  have hm : w ∈ big := by first | exact List.mem_of_getElem? hi | exact List.getElem?_mem hi
  exact ⟨hm, good_of_word h1⟩
theorem goodIn_app {big a b : List Cond} (ha : GoodIn big a) (hb : GoodIn big b) : GoodIn big (a ++ b) := fun w h => (List.mem_append.mp h).elim (ha w) (hb w)
theorem goodIn_ca {big a b : List Cond} {c : Cond} (ha : GoodIn big (c :: a)) (hb : GoodIn big b) : GoodIn big (c :: (a ++ b)) := fun w h => (List.mem_cons.mp h).elim (fun e => ha w (List.mem_cons.mpr (Or.inl e))) (fun h => (List.mem_append.mp h).elim (fun h => ha w (List.mem_cons.mpr (Or.inr h))) (hb w))
theorem goodIn_sub {big ws : List Cond} (hm : ∀ w ∈ ws, w ∈ big) (h : ws.all goodWord = true) : GoodIn big ws := fun w hw => ⟨hm w hw, good_of_word (List.all_eq_true.mp h w hw)⟩
/-! ===== END ===== -/

/-! ===== BEGIN exceptions that leave a method, and their catching by the caller (launches without stack traces) ===== -/
section VXA
/-! The laws vx_back, vx_callV, vx_callS, vx_callSW, vx_throw0, vx_throwS follow proofs of the library, with one case more: JvmDerived/Free/Laws.lean (Back.of_free), Shelf42/LK1.lean (callV, callS), Shelf/KitTraced.lean (throwNew0V, throwNewS). -/
/-- where a method has thrown q: the class by its name, the cell, what was written, the world -/
def vx_T (XC : String → State → State → Prop) (st : State) (q : Addr) (t : State) (mc ms : Nat) (free : Addr → Prop) : Prop :=
  ∃ (E : String) (ce : Cell) (L : List Loc), XC E st t ∧ t.heap[q]? = some ce ∧ ce.vm = .none ∧ st.vm.findClass E = some ce.cls ∧ st.WarmedH t.vm ∧ st.sameButNew ({ t with vm := st.vm } : State) L mc ms ∧ ∀ z ∈ L, free z.base
def vx_Q (Qc : Array Value → State → Outcome → State → Prop) (XC : String → State → State → Prop) (mc ms : Nat) (free : Addr → Prop) : Array Value → State → Outcome → State → Prop := fun a st o t =>
  (Qc a st o t ∧ ∃ L, FrameEnd st o t L mc ms ∧ ∀ q ∈ L, free q.base) ∨ ∃ q, o = .threw q ∧ vx_T XC st q t mc ms free
/-- a callee that returns or throws -/
def vx_Met (l : Launch) (y : MethodName) (ws : List Cond) (rm : Room) (Pc : Array Value → State → Prop) (Qc : Array Value → State → Outcome → State → Prop) (XC : String → State → State → Prop) (mc ms : Nat) (free : Addr → Prop) : Prop :=
  MetFree l y (headSpec ws rm) Pc (fun _ _ _ _ _ => True) (vx_Q Qc XC mc ms free)
def vx_Post (XC : String → State → State → Prop) (mc ms : Nat) (free : Addr → Prop) : Pt → Array Value → Addr → Pt → Prop := fun A a q B =>
  ∃ (g : JFrame) (mk : MethodId) (t : State) (L : List Loc) (E : String) (ce : Cell), B.U.heap = t.heap ∧ B.U.vm = t.vm ∧ XC E (A.U.calling g mk a) t ∧ t.heap[q]? = some ce ∧ ce.vm = .none ∧ A.U.vm.findClass E = some ce.cls ∧ B.locs = A.locs ++ L ∧ (∀ z ∈ L, free z.base) ∧ B.cells = A.cells + mc ∧ B.slots = A.slots + ms
def vx_Back (l : Launch) (R : Room) (p : Program) (e : Env) (below : List Frame) (s : State) (sargs : Array Value) (y : MethodName) (len W9 : Nat)
    (Pre : Pt → Array Value → Prop) (Post : Pt → Array Value → Option Value → Pt → Prop) (PostX : Pt → Array Value → Addr → Pt → Prop) : Prop :=
  ∀ (m : MethodId) (meth : Method) (c : Code) (A : Pt) (g : JFrame) (ig : Instr) (mk : MethodId) (a : Array Value),
    Stand p l e R s m sargs below meth c A.U A.locs A.cells A.slots → g.method = m → g.locals.size = c.maxLocals → decode c.code g.pc = .ok (ig, len) →
    2 * g.monitorRoom + (g.stack.map fun v => v.category).sum ≤ W9 → A.U.methodNamed? y = some mk → Pre A a →
    (∃ (v : Option Value) (B : Pt), Stand p l e R s m sargs below meth c B.U B.locs B.cells B.slots ∧ Post A a v B ∧
      Steps p.tables e below (doInvoke e (A.U.setTop g) [] mk a).1 (B.U.setTop { g with pc := g.pc + len, stack := v.toList ++ g.stack })) ∨
    (∃ (q : Addr) (B : Pt), Stand p l e R s m sargs below meth c B.U B.locs B.cells B.slots ∧ PostX A a q B ∧
      Steps p.tables e below (doInvoke e (A.U.setTop g) [] mk a).1 ((B.U.setTop g).pushFrame (.throwing q)))
section Payer
variable {l : Launch} {R : Room} {p : Program} {e : Env} {below : List Frame} {s : State} {sargs : Array Value} {y : MethodName} {len W9 : Nat}
theorem vx_back {ws : List Cond} {rm : Room} {Pc : Array Value → State → Prop} {Qc : Array Value → State → Outcome → State → Prop} {XC : String → State → State → Prop} {mc ms : Nat} {free : Addr → Prop} {bytes : ByteArray} {maxL : Nat} {ret : Option FieldType}
    (hM : vx_Met l y ws rm Pc Qc XC mc ms free) (hblind : FrameBlind Pc) (hrc : rm.cells = mc) (hrs : rm.slots = ms)
    (hframes : rm.frames + 1 ≤ R.frames) (hlocals : W9 + (maxL + 11) + rm.locals ≤ R.locals)
    (hws : ∀ w ∈ ws, ∀ a' U, s.WarmedH U.vm → w.before a' U = true) (hcode : Cond.code y bytes maxL ret ∈ ws) (hinit : ∀ a' U, s.WarmedH U.vm → (Cond.initialized y.cls).before a' U = true) :
    vx_Back l R p e below s sargs y len W9 (PreOf R mc ms Pc) (PostOf Qc mc ms free) (vx_Post XC mc ms free) := by
  intro m meth c A g ig mk a X hg hsize hdg hW hn hp
  have h1 : (headSpec ws rm).pre.before a A.U = true := atoms_intro fun w hw => hws w hw _ _ X.warmed
  have h2 : (Cond.code y bytes maxL ret).before a A.U = true := hws _ hcode _ _ X.warmed
  have h3 : (Cond.initialized y.cls).before a A.U = true := hinit _ _ X.warmed
  have h4 : A.cells + (headSpec ws rm).room.cells ≤ R.cells := by rw [show (headSpec ws rm).room.cells = mc from hrc]; exact hp.1
  have h5 : A.slots + (headSpec ws rm).room.slots ≤ R.slots := by rw [show (headSpec ws rm).room.slots = ms from hrs]; exact hp.2.1
  have hPc : Pc a (A.U.calling g mk a) := hblind _ _ _ _ hp.2.2
  obtain ⟨U, Ls, c0, s0⟩ := A
  dsimp only [Pt.U, Pt.locs, Pt.cells, Pt.slots] at h1 h2 h3 h4 h5 X hn hPc ⊢
  obtain ⟨methY, cY, hmY, hcY, -, hlY, -, -, -, -⟩ := Cond.code_spec hn h2
  obtain ⟨kY, hkY, -⟩ := className_of_methodNamed hn
  have hinitY : kY.init = .initialized := Cond.initialized_spec (findClass_of_methodNamed hn) hkY h3
  have h : At U g.method c below := by rw [hg]; exact X.here
  have hlocals9 : W9 + (maxL + 11) + (headSpec ws rm).room.locals ≤ R.locals := hlocals
  have happ : (headSpec ws rm).appliesLoose y e.platform (U.calling g mk a) = true :=
    Spec.appliesLoose_calling (g := g) h hdg hn hkY hinitY
      (X.room_calling (g := g) (R' := (headSpec ws rm).room) hsize hmY hcY hframes (by rw [hlY]; omega) h4 h5) h1
  obtain ⟨mid, hmid⟩ := h.above
  have hfr : (U.setTop g).frames = (.java g :: mid) ++ below := by rw [State.frames_setTop' g h.top, hmid]; rfl
  obtain ⟨o, s₂, hsteps, -, hend, hq⟩ := Steps.callFree hM p X.admits X.cas X.clock (acts := []) hfr happ hPc trivial
  have hq' : vx_Q Qc XC mc ms free a (U.calling g mk a) o s₂ := hq
  rw [State.frames_setTop' g h.top] at hend
  obtain ⟨g₀, hg0⟩ := Option.isSome_iff_exists.mp h.top
  obtain ⟨r, hr⟩ := State.topJava?_eq_some.mp hg0
  have hr' : (({ U with heap := s₂.heap, slotsUsed := s₂.slotsUsed } : State).setVm s₂.vm).frames = .java g₀ :: r := hr
  rcases hq' with ⟨hqc, L, hfe, hL⟩ | ⟨q, rfl, E, ce, L, hx, hce, hcv, hcl, hW₂, hsm, hL⟩
  · obtain ⟨⟨v, rfl⟩, hW₂, e2, q2, q3, q4, q5, q6⟩ := id hfe
    have e3 : s₂ = ({ (U.calling g mk a).setFrames s₂.frames with heap := s₂.heap, slotsUsed := s₂.slotsUsed } : State).setVm s₂.vm := by
      have : s₂ = ({ s₂ with vm := (U.calling g mk a).vm } : State).setVm s₂.vm := rfl
      rw [e2] at this
      exact this
    obtain ⟨c₂, i₂, len₂, hc₂, hd₂, hf₂⟩ := hend
    have hW' : U.WarmedH s₂.vm := hW₂
    have hcc : c₂ = c := by
      have h1 : s₂.code? g.method = U.code? g.method := by
        rw [State.code?_eq, State.code?_eq, hW'.alike.method?]
      exact Option.some.inj (hc₂.symm.trans (h1.trans h.code))
    subst hcc
    have hlen : len₂ = len := by rw [hdg] at hd₂; cases hd₂; rfl
    subst hlen
    have hs₂ : s₂ = (({ U with heap := s₂.heap, slotsUsed := s₂.slotsUsed } : State).setVm s₂.vm).setTop { g with pc := g.pc + len₂, stack := v.toList ++ g.stack } := by
      refine e3.trans ?_
      rw [hf₂, State.calling_eq h.top, State.setFrames_setFrames, State.setTop_of_frames _ hr', hr]
      rfl
    have hsame : U.sameButNew ({ U with heap := s₂.heap, slotsUsed := s₂.slotsUsed } : State) L mc ms := by
      refine ⟨?_, q2, q3, q4, q5, q6⟩
      obtain ⟨t, ht, -⟩ := State.frames_cons hr
      show ({ U with heap := s₂.heap, slotsUsed := s₂.slotsUsed } : State) = { U.setFrames U.frames with heap := s₂.heap, slotsUsed := s₂.slotsUsed }
      rw [State.setFrames_self ht]
    subst hg
    refine Or.inl ⟨v, ⟨(({ U with heap := s₂.heap, slotsUsed := s₂.slotsUsed } : State).setVm s₂.vm), Ls ++ L, c0 + mc, s0 + ms⟩,
      ⟨X.admits, X.cas, X.clock, X.frames, X.room, X.hears, X.method, X.code, (X.here.setHeapUsed s₂.heap s₂.slotsUsed).setVm hW'.alike, X.tail, State.WarmedH.trans X.warmed hW', X.limits, X.bytes, X.same.trans (hsame.setVm s.vm)⟩,
      ⟨g, mk, s₂, L, rfl, rfl, hqc, rfl, hL, rfl, rfl⟩, ?_⟩
    show Steps p.tables e below _ ((({ U with heap := s₂.heap, slotsUsed := s₂.slotsUsed } : State).setVm s₂.vm).setTop { g with pc := g.pc + len₂, stack := v.toList ++ g.stack })
    rw [← hs₂]
    exact hsteps
  · obtain ⟨e2, q2, q3, q4, q5, q6⟩ := id hsm
    have e3 : s₂ = ({ (U.calling g mk a).setFrames s₂.frames with heap := s₂.heap, slotsUsed := s₂.slotsUsed } : State).setVm s₂.vm := by
      have : s₂ = ({ s₂ with vm := (U.calling g mk a).vm } : State).setVm s₂.vm := rfl
      rw [e2] at this
      exact this
    have hf₂ : s₂.frames = .throwing q :: .java g :: U.frames.tail := hend
    have hW' : U.WarmedH s₂.vm := hW₂
    have hs₂ : s₂ = ((({ U with heap := s₂.heap, slotsUsed := s₂.slotsUsed } : State).setVm s₂.vm).setTop g).pushFrame (.throwing q) := by
      refine e3.trans ?_
      rw [hf₂, State.calling_eq h.top, State.setFrames_setFrames, State.pushFrame, State.frames_setTop _ hr', State.setTop_of_frames _ hr', State.setFrames_setFrames, hr]
      rfl
    have hsame : U.sameButNew ({ U with heap := s₂.heap, slotsUsed := s₂.slotsUsed } : State) L mc ms := by
      refine ⟨?_, q2, q3, q4, q5, q6⟩
      obtain ⟨t, ht, -⟩ := State.frames_cons hr
      show ({ U with heap := s₂.heap, slotsUsed := s₂.slotsUsed } : State) = { U.setFrames U.frames with heap := s₂.heap, slotsUsed := s₂.slotsUsed }
      rw [State.setFrames_self ht]
    subst hg
    refine Or.inr ⟨q, ⟨(({ U with heap := s₂.heap, slotsUsed := s₂.slotsUsed } : State).setVm s₂.vm), Ls ++ L, c0 + mc, s0 + ms⟩,
      ⟨X.admits, X.cas, X.clock, X.frames, X.room, X.hears, X.method, X.code, (X.here.setHeapUsed s₂.heap s₂.slotsUsed).setVm hW'.alike, X.tail, State.WarmedH.trans X.warmed hW', X.limits, X.bytes, X.same.trans (hsame.setVm s.vm)⟩,
      ⟨g, mk, s₂, L, E, ce, rfl, rfl, hx, hce, hcv, hcl, rfl, hL, rfl, rfl⟩, ?_⟩
    show Steps p.tables e below _ (((({ U with heap := s₂.heap, slotsUsed := s₂.slotsUsed } : State).setVm s₂.vm).setTop g).pushFrame (.throwing q))
    rw [← hs₂]
    exact hsteps
end Payer
section Calls
variable {p : Program} {l : Launch} {e : Env} {R : Room} {s : State} {m : MethodId} {args : Array Value} {below : List Frame} {meth : Method} {c : Code} {T : State} {locs : List Loc} {cells slots : Nat}
theorem vx_callV (X : Stand p l e R s m args below meth c T locs cells slots) (hexec : p.tables.exec = Jvm.exec) {own C : String} {index : Nat} {y : MethodName} {bytes : ByteArray} {maxL : Nat} {ret : Option FieldType}
    (hown : s.vm.findClass own = some m.cls) (hlink : (Cond.methodLink own index y).before args s = true) (hinst : (Cond.instanceMethod y).before args s = true) (hsel : (Cond.selects C y y).before args s = true)
    (hcode : (Cond.code y bytes maxL ret).before args s = true) (hy : y.cls ≠ "java/lang/invoke/MethodHandle" ∧ y.cls ≠ "java/lang/invoke/VarHandle")
    {W9 : Nat} {Pre : Pt → Array Value → Prop} {Post : Pt → Array Value → Option Value → Pt → Prop} {PostX : Pt → Array Value → Addr → Pt → Prop} (hK : vx_Back l R p e below s args y 3 W9 Pre Post PostX)
    {b : Addr} {cellB : Cell} (hcell : T.heap[b]? = some cellB) (hobj : cellB.vm.isStatics = false) (hcls : s.vm.findClass C = some cellB.cls)
    {g : JFrame} (hg : g.method = m) (hsize : g.locals.size = c.maxLocals) {argsL rest : List Value} (hlen : ∀ sig, parseMethodDescriptor y.desc = some sig → argsL.length = sig.parameters.length)
    (hstack : g.stack = argsL.reverse ++ .ref b :: rest) (hW : 2 * g.monitorRoom + (rest.map fun v => v.category).sum ≤ W9) (hdg : decode c.code g.pc = .ok (.invokevirtual index, 3))
    (hpre : ∀ vm₁, s.WarmedH vm₁ → Pre ⟨T.setVm vm₁, locs, cells, slots⟩ (Value.ref b :: argsL).toArray) :
    (∃ (v : Option Value) (vm₁ : Vm) (B : Pt), s.WarmedH vm₁ ∧ Stand p l e R s m args below meth c B.U B.locs B.cells B.slots ∧ Post ⟨T.setVm vm₁, locs, cells, slots⟩ (Value.ref b :: argsL).toArray v B ∧
      ∀ target, Steps p.tables e below (B.U.setTop { g with pc := g.pc + 3, stack := v.toList ++ rest }) target → Steps p.tables e below (T.setTop g) target) ∨
    (∃ (q : Addr) (vm₁ : Vm) (B : Pt), s.WarmedH vm₁ ∧ Stand p l e R s m args below meth c B.U B.locs B.cells B.slots ∧ PostX ⟨T.setVm vm₁, locs, cells, slots⟩ (Value.ref b :: argsL).toArray q B ∧
      Steps p.tables e below (T.setTop g) ((B.U.setTop { g with stack := rest }).pushFrame (.throwing q))) := by
  obtain ⟨mk, methM, hnamed, hmethM, hstM, habM⟩ := Cond.instanceMethod_spec hinst
  obtain ⟨methM', cM, hmethM', -, -, -, -, -, -, hsigM⟩ := Cond.code_spec hnamed hcode
  cases hmethM.symm.trans hmethM'
  obtain ⟨c2, r2, m2, q1, q2, q3, q4, kP, hkP, hkPi⟩ := Cond.selects_spec hsel
  cases hcls.symm.trans q1
  cases (State.methodFound?_of_named hnamed hy).symm.trans q2
  cases hnamed.symm.trans q3
  have hselP : selectMethod e.platform s.vm cellB.cls mk = .method mk := by rw [Launch.admits_selectMethod X.admits]; exact q4
  obtain ⟨vm₁, X₁, hstep₁⟩ := X.invokevirtual hexec hown hlink hnamed hmethM hstM hkP hkPi hy (a := b) (cell := cellB) hcell
    (fun z h => by rw [h] at hobj; cases hobj) hselP hmethM habM hkP hkPi (g := g) hg (argsL := argsL) (rest := rest) (hlen _ hsigM) hstack hdg
  rcases hK m meth c ⟨T.setVm vm₁, locs, cells, slots⟩ { g with stack := rest } (.invokevirtual index) mk (Value.ref b :: argsL).toArray X₁ hg hsize hdg hW (X₁.named hnamed) (hpre vm₁ X₁.warmed) with ⟨v, B, X', hpost, hsteps⟩ | ⟨q, B, X', hpost, hsteps⟩
  · exact Or.inl ⟨v, vm₁, B, X₁.warmed, X', hpost, fun target h => hstep₁ _ fun acts => by rw [doInvoke_state]; exact hsteps.trans h⟩
  · exact Or.inr ⟨q, vm₁, B, X₁.warmed, X', hpost, hstep₁ _ fun acts => by rw [doInvoke_state]; exact hsteps⟩
theorem vx_callS (X : Stand p l e R s m args below meth c T locs cells slots) (hexec : p.tables.exec = Jvm.exec) {own : String} {index : Nat} {y : MethodName} {bytes : ByteArray} {maxL : Nat} {ret : Option FieldType}
    (hown : s.vm.findClass own = some m.cls) (hlink : (Cond.methodLink own index y).before args s = true) (hstat : (Cond.static y).before args s = true) (hinit : (Cond.initialized y.cls).before args s = true)
    (hcode : (Cond.code y bytes maxL ret).before args s = true) (hy : y.cls ≠ "java/lang/invoke/MethodHandle" ∧ y.cls ≠ "java/lang/invoke/VarHandle")
    {W9 : Nat} {Pre : Pt → Array Value → Prop} {Post : Pt → Array Value → Option Value → Pt → Prop} {PostX : Pt → Array Value → Addr → Pt → Prop} (hK : vx_Back l R p e below s args y 3 W9 Pre Post PostX)
    {g : JFrame} (hg : g.method = m) (hsize : g.locals.size = c.maxLocals) {argsL rest : List Value} (hlen : ∀ sig, parseMethodDescriptor y.desc = some sig → argsL.length = sig.parameters.length)
    (hstack : g.stack = argsL.reverse ++ rest) (hW : 2 * g.monitorRoom + (rest.map fun v => v.category).sum ≤ W9) (hdg : decode c.code g.pc = .ok (.invokestatic index, 3))
    (hpre : ∀ vm₁, s.WarmedH vm₁ → Pre ⟨T.setVm vm₁, locs, cells, slots⟩ argsL.toArray) :
    (∃ (v : Option Value) (vm₁ : Vm) (B : Pt), s.WarmedH vm₁ ∧ Stand p l e R s m args below meth c B.U B.locs B.cells B.slots ∧ Post ⟨T.setVm vm₁, locs, cells, slots⟩ argsL.toArray v B ∧
      ∀ target, Steps p.tables e below (B.U.setTop { g with pc := g.pc + 3, stack := v.toList ++ rest }) target → Steps p.tables e below (T.setTop g) target) ∨
    (∃ (q : Addr) (vm₁ : Vm) (B : Pt), s.WarmedH vm₁ ∧ Stand p l e R s m args below meth c B.U B.locs B.cells B.slots ∧ PostX ⟨T.setVm vm₁, locs, cells, slots⟩ argsL.toArray q B ∧
      Steps p.tables e below (T.setTop g) ((B.U.setTop { g with stack := rest }).pushFrame (.throwing q))) := by
  obtain ⟨mk, hnamed⟩ := Cond.code_named hcode
  obtain ⟨methM, cM, hmethM, -, -, -, -, -, -, hsigM⟩ := Cond.code_spec hnamed hcode
  have hstatic : methM.isStatic = true := Cond.static_spec hnamed hmethM hstat
  obtain ⟨kP, hkP, -⟩ := className_of_methodNamed hnamed
  have hinitP : kP.init = .initialized := Cond.initialized_spec (findClass_of_methodNamed hnamed) hkP hinit
  obtain ⟨vm₁, X₁, hstep₁⟩ := X.invokestatic hexec hown hlink hnamed hmethM hstatic hkP hinitP hy (g := g) hg (argsL := argsL) (rest := rest) (hlen _ hsigM) hstack hdg
  rcases hK m meth c ⟨T.setVm vm₁, locs, cells, slots⟩ { g with stack := rest } (.invokestatic index) mk argsL.toArray X₁ hg hsize hdg hW (X₁.named hnamed) (hpre vm₁ X₁.warmed) with ⟨v, B, X', hpost, hsteps⟩ | ⟨q, B, X', hpost, hsteps⟩
  · exact Or.inl ⟨v, vm₁, B, X₁.warmed, X', hpost, fun target h => hstep₁ _ fun acts => by rw [doInvoke_state]; exact hsteps.trans h⟩
  · exact Or.inr ⟨q, vm₁, B, X₁.warmed, X', hpost, hstep₁ _ fun acts => by rw [doInvoke_state]; exact hsteps⟩
end Calls
theorem vx_cls {s : State} {T : State} {vm₁ : Vm} {E : String} {k : ClassId} (hW : s.WarmedH vm₁) (h : (T.setVm vm₁).vm.findClass E = some k) : s.vm.findClass E = some k := by
  have h1 : vm₁.findClass E = some k := h
  rw [hW.alike.findClass] at h1
  exact h1
/-- the method's frame g, with q thrown over it -/
def vx_W (p : Program) (l : Launch) (e : Env) (R : Room) (s : State) (m : MethodId) (args : Array Value) (below : List Frame) (meth : Method) (c : Code) (H : Heap) (locs : List Loc) (cells slots : Nat) (Q : State → Prop) (g : JFrame) (q : Addr) : Prop :=
  ∀ T : State, T.heap = H → Stand p l e R s m args below meth c T locs cells slots → ∃ t, Steps p.tables e below ((T.setTop g).pushFrame (.throwing q)) t ∧ Q t
def vx_Run (p : Program) (l : Launch) (e : Env) (R : Room) (s : State) (m : MethodId) (args : Array Value) (below : List Frame) (meth : Method) (c : Code) (H : Heap) (locs : List Loc) (cells slots mc ms : Nat) (g : JFrame) (rest : List Value) (Qa : State → Outcome → State → Prop) (XC : String → State → State → Prop) (free : Addr → Prop) : Prop :=
  ∀ T : State, T.heap = H → Stand p l e R s m args below meth c T locs cells slots →
    (∃ (v : Option Value) (st₀ t T' : State) (L : List Loc), st₀.heap = H ∧ Stand p l e R s m args below meth c T' (locs ++ L) (cells + mc) (slots + ms) ∧ (∀ q ∈ L, free q.base) ∧ T'.heap = t.heap ∧ T'.vm = t.vm ∧ Qa st₀ (.returned v) t ∧
      Goes p e below T g T' { g with pc := g.pc + 3, stack := v.toList ++ rest }) ∨
    (∃ (q : Addr) (st₀ t T' : State) (L : List Loc) (E : String) (ce : Cell), st₀.heap = H ∧ Stand p l e R s m args below meth c T' (locs ++ L) (cells + mc) (slots + ms) ∧ (∀ z ∈ L, free z.base) ∧ T'.heap = t.heap ∧ T'.vm = t.vm ∧ XC E st₀ t ∧ t.heap[q]? = some ce ∧ ce.vm = .none ∧ s.vm.findClass E = some ce.cls ∧
      Steps p.tables e below (T.setTop g) ((T'.setTop { g with stack := rest }).pushFrame (.throwing q)))
def vx_X {S : Type} (px : S → Prop) (B : String → S → State → Prop) (A : Nat → Prop) : String → State → State → Prop := fun E st t => ∃ u : S, px u ∧ B E u t ∧ va_F A st t
section Runs
variable {p : Program} {l : Launch} {e : Env} {R : Room} {s : State} {m : MethodId} {args : Array Value} {below : List Frame} {meth : Method} {c : Code} {H : Heap} {locs : List Loc} {cells slots : Nat}
variable {y : MethodName} {bytes cc : ByteArray} {maxL nL mc ms n index : Nat} {ret : Option FieldType} {ws : List Cond} {rm : Room} {Pc : Array Value → State → Prop} {Qc : Array Value → State → Outcome → State → Prop} {XC : String → State → State → Prop} {free : Addr → Prop} {Ts : List Cond} {own C : String} {b : Addr} {As rest : List Value} {g : JFrame}
theorem vx_callBack (cb : CallB R s args own index y bytes maxL ret ws rm mc ms n) (hM : vx_Met l y ws rm Pc Qc XC mc ms free) (hbl : FrameBlind Pc) : vx_Back l R p e below s args y 3 8 (PreOf R mc ms Pc) (PostOf Qc mc ms free) (vx_Post XC mc ms free) := by
  obtain ⟨hrc, hrs, hfr, hlo, hws, hcw, -, hini, -⟩ := cb
  exact vx_back (bytes := bytes) (maxL := maxL) (ret := ret) hM hbl hrc hrs hfr hlo hws hcw (fun a' U hW => word_at hW (Or.inl (by first | rfl | simp [Cond.onTables, Cond.keeps, Cond.steady])) hini)
theorem vx_runV (S : CallFix p m c cc nL s args Ts own) (hM : vx_Met l y ws rm Pc Qc XC mc ms free) (cw : CallW R s args own C index y bytes maxL ret ws rm mc ms n) (hp : PreV s H C b Pc As)
    (hg : g.method = m) (hn : As.length = n) (hsize : g.locals.size = nL) (hstack : g.stack = As.reverse ++ .ref b :: rest) (hW : 2 * g.monitorRoom + (rest.map fun v => v.category).sum ≤ 8) (hdg : decode cc g.pc = .ok (.invokevirtual index, 3)) (hf : cells + mc ≤ R.cells ∧ slots + ms ≤ R.slots) :
    vx_Run p l e R s m args below meth c H locs cells slots mc ms g rest (Qc (Value.ref b :: As).toArray) XC free := by
  have hK : vx_Back l R p e below s args y 3 8 (PreOf R mc ms Pc) (PostOf Qc mc ms free) (vx_Post XC mc ms free) := vx_callBack cw.1 hM hp.1
  obtain ⟨⟨-, -, -, -, -, -, hcode, -, hy, hlen, hl⟩, hin, hse⟩ := cw
  obtain ⟨hx, hb, hml, ho, -⟩ := S
  obtain ⟨-, ⟨cellB, hcB, hoB, hclB⟩, hPc⟩ := hp
  intro T hT X
  rcases vx_callV X hx (C := C) (bytes := bytes) (maxL := maxL) (ret := ret) ho hl hin hse hcode hy hK (by rw [hT]; exact hcB) hoB hclB hg (hsize.trans hml.symm) (argsL := As) (rest := rest) (fun sig h => hn.trans (hlen sig h)) hstack hW (by rw [hb]; exact hdg)
    (fun vm₁ hW₁ => ⟨hf.1, hf.2, hPc (T.setVm vm₁) hT hW₁⟩) with ⟨v, vm₁, ⟨U', l2, c2, s2⟩, hW₁, X', ⟨g', mk, t, L, e1, e2, hq, h1, hL, h2, h3⟩, st⟩ | ⟨q, vm₁, ⟨U', l2, c2, s2⟩, hW₁, X', ⟨g', mk, t, L, E, ce, e1, e2, hq, hce, hcv, hcl, h1, hL, h2, h3⟩, st⟩
  · dsimp only [Pt.U, Pt.locs, Pt.cells, Pt.slots] at X' e1 e2 h1 h2 h3 st
    subst h1; subst h2; subst h3
    exact Or.inl ⟨v, (T.setVm vm₁).calling g' mk (Value.ref b :: As).toArray, t, U', L, hT, X', hL, e1, e2, hq, st⟩
  · dsimp only [Pt.U, Pt.locs, Pt.cells, Pt.slots] at X' e1 e2 h1 h2 h3 st hcl
    subst h1; subst h2; subst h3
    exact Or.inr ⟨q, (T.setVm vm₁).calling g' mk (Value.ref b :: As).toArray, t, U', L, E, ce, hT, X', hL, e1, e2, hq, hce, hcv, vx_cls hW₁ hcl, st⟩
theorem vx_runS (S : CallFix p m c cc nL s args Ts own) (hM : vx_Met l y ws rm Pc Qc XC mc ms free) (cw : CallB R s args own index y bytes maxL ret ws rm mc ms n ∧ (Cond.static y).before args s = true) (hp : PreS s H Pc As)
    (hg : g.method = m) (hn : As.length = n) (hsize : g.locals.size = nL) (hstack : g.stack = As.reverse ++ rest) (hW : 2 * g.monitorRoom + (rest.map fun v => v.category).sum ≤ 8) (hdg : decode cc g.pc = .ok (.invokestatic index, 3)) (hf : cells + mc ≤ R.cells ∧ slots + ms ≤ R.slots) :
    vx_Run p l e R s m args below meth c H locs cells slots mc ms g rest (Qc As.toArray) XC free := by
  have hK : vx_Back l R p e below s args y 3 8 (PreOf R mc ms Pc) (PostOf Qc mc ms free) (vx_Post XC mc ms free) := vx_callBack cw.1 hM hp.1
  obtain ⟨⟨-, -, -, -, -, -, hcode, hini, hy, hlen, hl⟩, hstt⟩ := cw
  obtain ⟨hx, hb, hml, ho, -⟩ := S
  intro T hT X
  rcases vx_callS X hx (bytes := bytes) (maxL := maxL) (ret := ret) ho hl hstt hini hcode hy hK hg (hsize.trans hml.symm) (argsL := As) (rest := rest) (fun sig h => hn.trans (hlen sig h)) hstack hW (by rw [hb]; exact hdg)
    (fun vm₁ hW₁ => ⟨hf.1, hf.2, hp.2 (T.setVm vm₁) hT hW₁⟩) with ⟨v, vm₁, ⟨U', l2, c2, s2⟩, hW₁, X', ⟨g', mk, t, L, e1, e2, hq, h1, hL, h2, h3⟩, st⟩ | ⟨q, vm₁, ⟨U', l2, c2, s2⟩, hW₁, X', ⟨g', mk, t, L, E, ce, e1, e2, hq, hce, hcv, hcl, h1, hL, h2, h3⟩, st⟩
  · dsimp only [Pt.U, Pt.locs, Pt.cells, Pt.slots] at X' e1 e2 h1 h2 h3 st
    subst h1; subst h2; subst h3
    exact Or.inl ⟨v, (T.setVm vm₁).calling g' mk As.toArray, t, U', L, hT, X', hL, e1, e2, hq, st⟩
  · dsimp only [Pt.U, Pt.locs, Pt.cells, Pt.slots] at X' e1 e2 h1 h2 h3 st hcl
    subst h1; subst h2; subst h3
    exact Or.inr ⟨q, (T.setVm vm₁).calling g' mk As.toArray, t, U', L, E, ce, hT, X', hL, e1, e2, hq, hce, hcv, vx_cls hW₁ hcl, st⟩
end Runs
section Rows
variable {p : Program} {l : Launch} {e : Env} {R : Room} {s : State} {m : MethodId} {args : Array Value} {below : List Frame} {meth : Method} {c : Code} {H : Heap} {locs : List Loc} {cells slots : Nat} {Q : State → Prop}
variable {mc ms : Nat} {free : Addr → Prop} {A0 A1 : Nat → Prop} {H0 : Heap} {a : Array Value} {pc : Nat} {ls : Array Slot} {st0 rest : List Value}
theorem vx_keep {st₀ t T' : State} {L : List Loc} (h0 : st₀.heap = H) (e1 : T'.heap = t.heap) (hS : va_S A0 H0 H locs) (hA : ∀ q, q < H.size → A1 q → A0 q) (hf : ∀ q, free q → A0 q) (hL : ∀ q ∈ L, free q.base) (hF : va_F A1 st₀ t) :
    H.size ≤ T'.heap.size ∧ (∀ q : Nat, q < H.size → ¬ A1 q → T'.heap[q]? = H[q]?) ∧ va_S A0 H0 T'.heap (locs ++ L) := by
  obtain ⟨hz, hk⟩ := hF
  rw [h0] at hz hk
  exact ⟨by rw [e1]; exact hz, fun q h1 h2 => by rw [e1]; exact hk q h1 h2,
    ⟨Nat.le_trans hS.1 (by rw [e1]; exact hz), fun q h1 h2 => by rw [e1, hk q (Nat.lt_of_lt_of_le h1 hS.1) (fun z => h2 (hA q (Nat.lt_of_lt_of_le h1 hS.1) z))]; exact hS.2.1 q h1 h2, fun q hq => by
      rcases List.mem_append.mp hq with h | h
      · exact hS.2.2 q h
      · exact hf _ (hL q h)⟩⟩
theorem vx_calli {S SX : Type} {post : Int32 → S → Prop} {px : SX → Prop} {B : S → State → Prop} {BX : String → SX → State → Prop} {AX : Nat → Prop} (hr : vx_Run p l e R s m args below meth c H locs cells slots mc ms (F0 m pc ls st0) rest (va_Qi post B A1 a) (vx_X px BX AX) free) (hS : va_S A0 H0 H locs) (hA : ∀ q, q < H.size → A1 q → A0 q) (hf : ∀ q, free q → A0 q) (hAX : ∀ q, q < H.size → AX q → A0 q)
    (kx : ∀ (E : String) (ce : Cell) (q9 : Addr) (u : SX) (t : State) (H1 : Heap) (locs1 : List Loc), t.heap = H1 → s.vm.Alike t.vm → px u → BX E u t → H.size ≤ H1.size → (∀ q : Nat, q < H.size → ¬ AX q → H1[q]? = H[q]?) → va_S A0 H0 H1 locs1 → H1[q9]? = some ce → ce.vm = .none → s.vm.findClass E = some ce.cls → vx_W p l e R s m args below meth c H1 locs1 (cells + mc) (slots + ms) Q (F0 m pc ls rest) q9)
    (kk : ∀ (r : Int32) (u : S) (t : State) (H1 : Heap) (locs1 : List Loc), t.heap = H1 → s.vm.Alike t.vm → post r u → B u t → H.size ≤ H1.size → (∀ q : Nat, q < H.size → ¬ A1 q → H1[q]? = H[q]?) → va_S A0 H0 H1 locs1 → W p l e R s m args below meth c H1 locs1 (cells + mc) (slots + ms) Q (F0 m (pc + 3) ls (.int r :: rest))) : W p l e R s m args below meth c H locs cells slots Q (F0 m pc ls st0) := by
  intro T hT X
  rcases hr T hT X with ⟨v, st₀, t, T', L, h0, X', hL, e1, e2, ⟨⟨r, u, hv, hp, hb⟩, hF⟩, st⟩ | ⟨q, st₀, t, T', L, E, ce, h0, X', hL, e1, e2, ⟨u, hp, hb, hF⟩, hce, hcv, hcl, st⟩
  · cases hv
    obtain ⟨k1, k2, k3⟩ := vx_keep h0 e1 hS hA hf hL hF
    obtain ⟨t2, a1, b1⟩ := kk r u t T'.heap (locs ++ L) e1.symm (by rw [← e2]; exact X'.warmed.alike) hp hb k1 k2 k3 T' rfl X'
    exact ⟨t2, st t2 a1, b1⟩
  · obtain ⟨k1, k2, k3⟩ := vx_keep h0 e1 hS hAX hf hL hF
    obtain ⟨t2, a1, b1⟩ := kx E ce q u t T'.heap (locs ++ L) e1.symm (by rw [← e2]; exact X'.warmed.alike) hp hb k1 k2 k3 (by rw [e1]; exact hce) hcv hcl T' rfl X'
    exact ⟨t2, st.trans a1, b1⟩
theorem vx_calll {S SX : Type} {post : Int64 → S → Prop} {px : SX → Prop} {B : S → State → Prop} {BX : String → SX → State → Prop} {AX : Nat → Prop} (hr : vx_Run p l e R s m args below meth c H locs cells slots mc ms (F0 m pc ls st0) rest (va_Ql post B A1 a) (vx_X px BX AX) free) (hS : va_S A0 H0 H locs) (hA : ∀ q, q < H.size → A1 q → A0 q) (hf : ∀ q, free q → A0 q) (hAX : ∀ q, q < H.size → AX q → A0 q)
    (kx : ∀ (E : String) (ce : Cell) (q9 : Addr) (u : SX) (t : State) (H1 : Heap) (locs1 : List Loc), t.heap = H1 → s.vm.Alike t.vm → px u → BX E u t → H.size ≤ H1.size → (∀ q : Nat, q < H.size → ¬ AX q → H1[q]? = H[q]?) → va_S A0 H0 H1 locs1 → H1[q9]? = some ce → ce.vm = .none → s.vm.findClass E = some ce.cls → vx_W p l e R s m args below meth c H1 locs1 (cells + mc) (slots + ms) Q (F0 m pc ls rest) q9)
    (kk : ∀ (r : Int64) (u : S) (t : State) (H1 : Heap) (locs1 : List Loc), t.heap = H1 → s.vm.Alike t.vm → post r u → B u t → H.size ≤ H1.size → (∀ q : Nat, q < H.size → ¬ A1 q → H1[q]? = H[q]?) → va_S A0 H0 H1 locs1 → W p l e R s m args below meth c H1 locs1 (cells + mc) (slots + ms) Q (F0 m (pc + 3) ls (.long r :: rest))) : W p l e R s m args below meth c H locs cells slots Q (F0 m pc ls st0) := by
  intro T hT X
  rcases hr T hT X with ⟨v, st₀, t, T', L, h0, X', hL, e1, e2, ⟨⟨r, u, hv, hp, hb⟩, hF⟩, st⟩ | ⟨q, st₀, t, T', L, E, ce, h0, X', hL, e1, e2, ⟨u, hp, hb, hF⟩, hce, hcv, hcl, st⟩
  · cases hv
    obtain ⟨k1, k2, k3⟩ := vx_keep h0 e1 hS hA hf hL hF
    obtain ⟨t2, a1, b1⟩ := kk r u t T'.heap (locs ++ L) e1.symm (by rw [← e2]; exact X'.warmed.alike) hp hb k1 k2 k3 T' rfl X'
    exact ⟨t2, st t2 a1, b1⟩
  · obtain ⟨k1, k2, k3⟩ := vx_keep h0 e1 hS hAX hf hL hF
    obtain ⟨t2, a1, b1⟩ := kx E ce q u t T'.heap (locs ++ L) e1.symm (by rw [← e2]; exact X'.warmed.alike) hp hb k1 k2 k3 (by rw [e1]; exact hce) hcv hcl T' rfl X'
    exact ⟨t2, st.trans a1, b1⟩
theorem vx_callf {S SX : Type} {post : UInt32 → S → Prop} {px : SX → Prop} {B : S → State → Prop} {BX : String → SX → State → Prop} {AX : Nat → Prop} (hr : vx_Run p l e R s m args below meth c H locs cells slots mc ms (F0 m pc ls st0) rest (va_Qf post B A1 a) (vx_X px BX AX) free) (hS : va_S A0 H0 H locs) (hA : ∀ q, q < H.size → A1 q → A0 q) (hf : ∀ q, free q → A0 q) (hAX : ∀ q, q < H.size → AX q → A0 q)
    (kx : ∀ (E : String) (ce : Cell) (q9 : Addr) (u : SX) (t : State) (H1 : Heap) (locs1 : List Loc), t.heap = H1 → s.vm.Alike t.vm → px u → BX E u t → H.size ≤ H1.size → (∀ q : Nat, q < H.size → ¬ AX q → H1[q]? = H[q]?) → va_S A0 H0 H1 locs1 → H1[q9]? = some ce → ce.vm = .none → s.vm.findClass E = some ce.cls → vx_W p l e R s m args below meth c H1 locs1 (cells + mc) (slots + ms) Q (F0 m pc ls rest) q9)
    (kk : ∀ (r : UInt32) (u : S) (t : State) (H1 : Heap) (locs1 : List Loc), t.heap = H1 → s.vm.Alike t.vm → post r u → B u t → H.size ≤ H1.size → (∀ q : Nat, q < H.size → ¬ A1 q → H1[q]? = H[q]?) → va_S A0 H0 H1 locs1 → W p l e R s m args below meth c H1 locs1 (cells + mc) (slots + ms) Q (F0 m (pc + 3) ls (.float r :: rest))) : W p l e R s m args below meth c H locs cells slots Q (F0 m pc ls st0) := by
  intro T hT X
  rcases hr T hT X with ⟨v, st₀, t, T', L, h0, X', hL, e1, e2, ⟨⟨r, u, hv, hp, hb⟩, hF⟩, st⟩ | ⟨q, st₀, t, T', L, E, ce, h0, X', hL, e1, e2, ⟨u, hp, hb, hF⟩, hce, hcv, hcl, st⟩
  · cases hv
    obtain ⟨k1, k2, k3⟩ := vx_keep h0 e1 hS hA hf hL hF
    obtain ⟨t2, a1, b1⟩ := kk r u t T'.heap (locs ++ L) e1.symm (by rw [← e2]; exact X'.warmed.alike) hp hb k1 k2 k3 T' rfl X'
    exact ⟨t2, st t2 a1, b1⟩
  · obtain ⟨k1, k2, k3⟩ := vx_keep h0 e1 hS hAX hf hL hF
    obtain ⟨t2, a1, b1⟩ := kx E ce q u t T'.heap (locs ++ L) e1.symm (by rw [← e2]; exact X'.warmed.alike) hp hb k1 k2 k3 (by rw [e1]; exact hce) hcv hcl T' rfl X'
    exact ⟨t2, st.trans a1, b1⟩
theorem vx_calld {S SX : Type} {post : UInt64 → S → Prop} {px : SX → Prop} {B : S → State → Prop} {BX : String → SX → State → Prop} {AX : Nat → Prop} (hr : vx_Run p l e R s m args below meth c H locs cells slots mc ms (F0 m pc ls st0) rest (va_Qd post B A1 a) (vx_X px BX AX) free) (hS : va_S A0 H0 H locs) (hA : ∀ q, q < H.size → A1 q → A0 q) (hf : ∀ q, free q → A0 q) (hAX : ∀ q, q < H.size → AX q → A0 q)
    (kx : ∀ (E : String) (ce : Cell) (q9 : Addr) (u : SX) (t : State) (H1 : Heap) (locs1 : List Loc), t.heap = H1 → s.vm.Alike t.vm → px u → BX E u t → H.size ≤ H1.size → (∀ q : Nat, q < H.size → ¬ AX q → H1[q]? = H[q]?) → va_S A0 H0 H1 locs1 → H1[q9]? = some ce → ce.vm = .none → s.vm.findClass E = some ce.cls → vx_W p l e R s m args below meth c H1 locs1 (cells + mc) (slots + ms) Q (F0 m pc ls rest) q9)
    (kk : ∀ (r : UInt64) (u : S) (t : State) (H1 : Heap) (locs1 : List Loc), t.heap = H1 → s.vm.Alike t.vm → post r u → B u t → H.size ≤ H1.size → (∀ q : Nat, q < H.size → ¬ A1 q → H1[q]? = H[q]?) → va_S A0 H0 H1 locs1 → W p l e R s m args below meth c H1 locs1 (cells + mc) (slots + ms) Q (F0 m (pc + 3) ls (.double r :: rest))) : W p l e R s m args below meth c H locs cells slots Q (F0 m pc ls st0) := by
  intro T hT X
  rcases hr T hT X with ⟨v, st₀, t, T', L, h0, X', hL, e1, e2, ⟨⟨r, u, hv, hp, hb⟩, hF⟩, st⟩ | ⟨q, st₀, t, T', L, E, ce, h0, X', hL, e1, e2, ⟨u, hp, hb, hF⟩, hce, hcv, hcl, st⟩
  · cases hv
    obtain ⟨k1, k2, k3⟩ := vx_keep h0 e1 hS hA hf hL hF
    obtain ⟨t2, a1, b1⟩ := kk r u t T'.heap (locs ++ L) e1.symm (by rw [← e2]; exact X'.warmed.alike) hp hb k1 k2 k3 T' rfl X'
    exact ⟨t2, st t2 a1, b1⟩
  · obtain ⟨k1, k2, k3⟩ := vx_keep h0 e1 hS hAX hf hL hF
    obtain ⟨t2, a1, b1⟩ := kx E ce q u t T'.heap (locs ++ L) e1.symm (by rw [← e2]; exact X'.warmed.alike) hp hb k1 k2 k3 (by rw [e1]; exact hce) hcv hcl T' rfl X'
    exact ⟨t2, st.trans a1, b1⟩
theorem vx_callv {S SX : Type} {post : S → Prop} {px : SX → Prop} {B : S → State → Prop} {BX : String → SX → State → Prop} {AX : Nat → Prop} (hr : vx_Run p l e R s m args below meth c H locs cells slots mc ms (F0 m pc ls st0) rest (va_Qv post B A1 a) (vx_X px BX AX) free) (hS : va_S A0 H0 H locs) (hA : ∀ q, q < H.size → A1 q → A0 q) (hf : ∀ q, free q → A0 q) (hAX : ∀ q, q < H.size → AX q → A0 q)
    (kx : ∀ (E : String) (ce : Cell) (q9 : Addr) (u : SX) (t : State) (H1 : Heap) (locs1 : List Loc), t.heap = H1 → s.vm.Alike t.vm → px u → BX E u t → H.size ≤ H1.size → (∀ q : Nat, q < H.size → ¬ AX q → H1[q]? = H[q]?) → va_S A0 H0 H1 locs1 → H1[q9]? = some ce → ce.vm = .none → s.vm.findClass E = some ce.cls → vx_W p l e R s m args below meth c H1 locs1 (cells + mc) (slots + ms) Q (F0 m pc ls rest) q9)
    (kk : ∀ (u : S) (t : State) (H1 : Heap) (locs1 : List Loc), t.heap = H1 → s.vm.Alike t.vm → post u → B u t → H.size ≤ H1.size → (∀ q : Nat, q < H.size → ¬ A1 q → H1[q]? = H[q]?) → va_S A0 H0 H1 locs1 → W p l e R s m args below meth c H1 locs1 (cells + mc) (slots + ms) Q (F0 m (pc + 3) ls (rest))) : W p l e R s m args below meth c H locs cells slots Q (F0 m pc ls st0) := by
  intro T hT X
  rcases hr T hT X with ⟨v, st₀, t, T', L, h0, X', hL, e1, e2, ⟨⟨u, hv, hp, hb⟩, hF⟩, st⟩ | ⟨q, st₀, t, T', L, E, ce, h0, X', hL, e1, e2, ⟨u, hp, hb, hF⟩, hce, hcv, hcl, st⟩
  · cases hv
    obtain ⟨k1, k2, k3⟩ := vx_keep h0 e1 hS hA hf hL hF
    obtain ⟨t2, a1, b1⟩ := kk u t T'.heap (locs ++ L) e1.symm (by rw [← e2]; exact X'.warmed.alike) hp hb k1 k2 k3 T' rfl X'
    exact ⟨t2, st t2 a1, b1⟩
  · obtain ⟨k1, k2, k3⟩ := vx_keep h0 e1 hS hAX hf hL hF
    obtain ⟨t2, a1, b1⟩ := kx E ce q u t T'.heap (locs ++ L) e1.symm (by rw [← e2]; exact X'.warmed.alike) hp hb k1 k2 k3 (by rw [e1]; exact hce) hcv hcl T' rfl X'
    exact ⟨t2, st.trans a1, b1⟩
/-- caught by the row x of this method's table; the rows ahead don't take it -/
theorem vx_catch {own name : String} {E : String} {ce : Cell} {q : Addr} (hown : s.vm.findClass own = some m.cls) (pre : List ExceptionTableEntry) (x : ExceptionTableEntry) (suf : List ExceptionTableEntry) (hsplit : c.exceptionTable.toList = pre ++ x :: suf)
    (hpass : ∀ z ∈ pre, covers z pc = false ∨ (z.catchType ≠ 0 ∧ ∃ nm : String, (Cond.classLink own z.catchType nm).before args s = true ∧ va_Nc E nm s)) (hx : covers x pc = true) (h0 : x.catchType ≠ 0)
    (hlink : (Cond.classLink own x.catchType name).before args s = true) (hcast : (Cond.castable E name).before args s = true) (hcell : H[q]? = some ce) (hv : ce.vm = .none) (hcl : s.vm.findClass E = some ce.cls)
    (kk : W p l e R s m args below meth c H locs cells slots Q (F0 m x.handlerPc ls [.ref q])) : vx_W p l e R s m args below meth c H locs cells slots Q (F0 m pc ls rest) q := by
  intro T hT X
  have hpl : e.platform.magicAccessors = ({} : Platform).magicAccessors := by rw [X.admits.platform]
  obtain ⟨c3, c4, hc3, hc4, hasg⟩ := Cond.castable_spec hcast
  cases Option.some.inj (hc3.symm.trans hcl)
  obtain ⟨c5, hc5, hcl5⟩ := Cond.classLink_spec hown hlink e.platform hpl
  cases Option.some.inj (hc4.symm.trans hc5)
  obtain ⟨vm', X', st⟩ := X.thenCaughtThrough q (g := F0 m pc ls rest) rfl (Steps.refl _) (by rw [hT]; exact hcell) (by rw [hv]; rfl) (by obtain ⟨k9, h9, -⟩ := Vm.findClass_spec hcl; exact ⟨k9, h9⟩) pre x suf hsplit
    (fun z hz => by
      rcases hpass z hz with h | ⟨hz0, nm, hl1, hn1⟩
      · exact Or.inl h
      · obtain ⟨c6, hc6, hcl6⟩ := Cond.classLink_spec hown hl1 e.platform hpl
        obtain ⟨a8, b8, h1, h2, h3⟩ := hn1
        cases Option.some.inj (h1.symm.trans hcl)
        cases Option.some.inj (h2.symm.trans hc6)
        exact Or.inr ⟨hz0, _, hcl6, h3⟩) hx (Or.inr ⟨h0, c4, hcl5, hasg⟩)
  obtain ⟨t, a1, b1⟩ := kk (T.setVm vm') hT X'
  exact ⟨t, st.trans a1, b1⟩
end Rows
section Ends
variable {p : Program} {l : Launch} {e : Env} {R : Room} {s : State} {m : MethodId} {args : Array Value} {below : List Frame} {meth : Method} {c : Code} {H : Heap} {locs : List Loc} {cells slots : Nat} {Q : State → Prop}
variable {mc ms : Nat} {free : Addr → Prop} {A0 A1 : Nat → Prop} {H0 : Heap} {a : Array Value} {ls : Array Slot} {st0 rest : List Value}
variable {Qc : Array Value → State → Outcome → State → Prop} {XC : String → State → State → Prop}
/-- what a body that may throw owes at its end -/
def vx_MQ (below : List Frame) (Qc : Array Value → State → Outcome → State → Prop) (XC : String → State → State → Prop) (a : Array Value) (s : State) (mc ms : Nat) (free : Addr → Prop) : State → Prop := fun t =>
  ∃ o, t.status = .running ∧ Ended t below o ∧ vx_Q Qc XC mc ms free a s o t
theorem vx_ret {g : JFrame} {mc ms : Nat} (k : W p l e R s m args below meth c H locs cells slots (MQ below Qc args s mc ms free) g) : W p l e R s m args below meth c H locs cells slots (vx_MQ below Qc XC args s mc ms free) g := by
  intro T hT X
  obtain ⟨t, a1, o, b1, b2, b3, b4⟩ := k T hT X
  exact ⟨t, a1, o, b1, b2, Or.inl ⟨b3, b4⟩⟩
/-- not caught here: it goes on to the caller -/
theorem vx_widen {g : JFrame} {q : Addr} {k n : Nat} (h1 : cells ≤ k) (h2 : slots ≤ n) (kk : vx_W p l e R s m args below meth c H locs k n Q g q) : vx_W p l e R s m args below meth c H locs cells slots Q g q := fun T hT X => kk T hT (stand_widen X h1 h2)
theorem vx_out {pc : Nat} {E : String} {ce : Cell} {q : Addr} {mc ms : Nat} (hout : ∀ x ∈ c.exceptionTable.toList, covers x pc = false) (hlocks : meth.locks = false) (hcell : H[q]? = some ce) (hv : ce.vm = .none) (hcl : s.vm.findClass E = some ce.cls)
    (hx : ∀ t : State, t.heap = H → s.vm.Alike t.vm → XC E s t) (hf : ∀ z ∈ locs, free z.base) (hc : cells ≤ mc) (hs : slots ≤ ms) :
    vx_W p l e R s m args below meth c H locs cells slots (vx_MQ below Qc XC args s mc ms free) (F0 m pc ls rest) q := by
  intro T hT X
  obtain ⟨st1, hrun, hend, hW, hsm⟩ := X.leaveThrown q (g := F0 m pc ls rest) rfl rfl rfl hout hlocks
  have hcell9 : (T.setFrames (.throwing q :: below)).heap[q]? = some ce := by
    show T.heap[q]? = some ce
    rw [hT]; exact hcell
  exact ⟨_, st1, .threw q, hrun, hend, Or.inr ⟨q, rfl, E, ce, locs, hx _ hT hW.alike, hcell9, hv, hcl, hW, hsm.mono hc hs, hf⟩⟩
theorem vx_frame {U : State} {k n : Nat} (h : s.sameButNew ({ U with vm := s.vm } : State) locs k n) : s.heap.size ≤ U.heap.size ∧ ∀ q : Nat, q < s.heap.size → (∀ z ∈ locs, z.base ≠ q) → U.heap[q]? = s.heap[q]? := by
  obtain ⟨-, h2, -, -, -, h6⟩ := h
  refine ⟨h2, fun q hq hz => ?_⟩
  obtain ⟨c9, e1, e2, e3, e4⟩ := h6 q _ (Array.getElem?_eq_getElem hq)
  have hs : c9.slots = (s.heap[q]).slots := Array.ext_getElem? fun i => e4 i fun hm => hz _ hm rfl
  have h9 : c9 = s.heap[q] := by
    rw [hs] at e2
    exact e2
  have e5 : U.heap[q]? = some c9 := e1
  rw [e5, h9, Array.getElem?_eq_getElem hq]
/-- the words of a throw but the four that speak of the heap -/
def vx_no (w : Cond) : Bool := decide (w ≠ .isRef (.static Bundle.tN "UNASSIGNED_STACK" Bundle.steD)) && decide (w ≠ .isRef (.static Bundle.tN "SUPPRESSED_SENTINEL" Bundle.listD)) && decide (w ≠ .laysStatic Bundle.tN "UNASSIGNED_STACK" Bundle.steD) && decide (w ≠ .laysStatic Bundle.tN "SUPPRESSED_SENTINEL" Bundle.listD)
def vx_at0 (own : String) (ic : Nat) (X : String) (names : List String) : List Cond := (Bundle.ownAtoms0 own ic X names).filter vx_no
def vx_atS (own : String) (ic : Nat) (X : String) (names : List String) : List Cond := (Bundle.ownAtoms own ic X names).filter vx_no
/-- a word that the tables alone decide, or a good one -/
def vx_ot (w : Cond) : Bool := w.onTables || goodWord w
theorem vx_ot_at {args a' : Array Value} {s U : State} {w : Cond} (hW : s.WarmedH U.vm) (hvm : s.vm = U.vm) (hg : vx_ot w = true) (h : w.before args s = true) : w.before a' U = true := by
  simp only [vx_ot, Bool.or_eq_true] at hg
  rcases hg with hg | hg
  · exact va_tabs hg hvm h
  · exact word_at hW (good_of_word hg) h
/-- a list's words: the good ones out of the method's own list, the others by premises of their own -/
theorem vx_hat {args : Array Value} {s : State} {L B : List Cond} (h1 : ∀ w ∈ L.filter goodWord, w.before args s = true) (h2 : ∀ w ∈ L.filter (fun w => !goodWord w), w ∈ B) (h3 : ∀ w ∈ B, w.before args s = true) : ∀ w ∈ L, w.before args s = true := by
  intro w hw
  by_cases g : goodWord w = true
  · exact h1 w (List.mem_filter.mpr ⟨hw, g⟩)
  · refine h3 w (h2 w (List.mem_filter.mpr ⟨hw, ?_⟩))
    show (!goodWord w) = true
    cases hgw : goodWord w
    · rfl
    · exact absurd hgw g
theorem vx_c {args : Array Value} {s : State} {w : Cond} {B : List Cond} (h : w.before args s = true) (t : ∀ w ∈ B, w.before args s = true) : ∀ w' ∈ w :: B, w'.before args s = true := fun w' h' => (List.mem_cons.mp h').elim (fun e => by rw [e]; exact h) (t w')
theorem vx_n {args : Array Value} {s : State} : ∀ w ∈ ([] : List Cond), w.before args s = true := fun _ h => nomatch h
theorem vx_own {args : Array Value} {s : State} {L : List Cond} (h1 : ∀ w ∈ L.filter vx_no, w.before args s = true)
    (hU : (Cond.isRef (.static Bundle.tN "UNASSIGNED_STACK" Bundle.steD)).before args s = true) (hN : (Cond.isRef (.static Bundle.tN "SUPPRESSED_SENTINEL" Bundle.listD)).before args s = true)
    (lU : (Cond.laysStatic Bundle.tN "UNASSIGNED_STACK" Bundle.steD).before args s = true) (lN : (Cond.laysStatic Bundle.tN "SUPPRESSED_SENTINEL" Bundle.listD).before args s = true) : ∀ w ∈ L, w.before args s = true := by
  intro w hw
  by_cases e1 : w = .isRef (.static Bundle.tN "UNASSIGNED_STACK" Bundle.steD)
  · rw [e1]; exact hU
  · by_cases e2 : w = .isRef (.static Bundle.tN "SUPPRESSED_SENTINEL" Bundle.listD)
    · rw [e2]; exact hN
    · by_cases e3 : w = .laysStatic Bundle.tN "UNASSIGNED_STACK" Bundle.steD
      · rw [e3]; exact lU
      · by_cases e4 : w = .laysStatic Bundle.tN "SUPPRESSED_SENTINEL" Bundle.listD
        · rw [e4]; exact lN
        · exact h1 w (List.mem_filter.mpr ⟨hw, by unfold vx_no; rw [decide_eq_true e1, decide_eq_true e2, decide_eq_true e3, decide_eq_true e4]; rfl⟩)
/-- where a static field lies, its class's statics cell in H -/
def vx_L (C n d : String) (A : Nat → Prop) (U : State) (H : Heap) : Prop := ∃ (c : ClassId) (k : Class) (i : Nat) (f : Field) (a : Nat) (cell : Cell), U.vm.findClass C = some c ∧ U.fieldFound? C n d = some (c, k, i, f) ∧ f.isStatic = true ∧ k.statics = some a ∧ H[a]? = some cell ∧ cell.vm.isStatics = true ∧ cell.cls = c ∧ f.slot < cell.slots.size ∧ k.staticTypes[f.slot]? = some f.type ∧ ¬ A a
theorem vx_L.moved {C n d : String} {A : Nat → Prop} {u U : State} {H : Heap} (hvm : u.vm.Alike U.vm) (h : vx_L C n d A u H) : vx_L C n d A U H := by
  obtain ⟨c, k, i, f, a, cell, h1, h2, h3, h4, h5, h6, h7, h8, h9, h10⟩ := h
  obtain ⟨k', hi', he⟩ := State.fieldFound?_setVm hvm h2
  exact ⟨c, k', i, f, a, cell, by rw [hvm.findClass]; exact h1, hi', h3, by rw [he]; exact h4, h5, h6, h7, h8, by rw [he]; exact h9, h10⟩
theorem vx_L.kept {C n d : String} {A : Nat → Prop} {U : State} {H H1 : Heap} (h : vx_L C n d A U H) (hq : ∀ a : Nat, a < H.size → ¬ A a → H1[a]? = H[a]?) : vx_L C n d A U H1 := by
  obtain ⟨c, k, i, f, a, cell, h1, h2, h3, h4, h5, h6, h7, h8, h9, h10⟩ := h
  exact ⟨c, k, i, f, a, cell, h1, h2, h3, h4, by rw [hq a (Array.getElem?_eq_some_iff.mp h5).1 h10]; exact h5, h6, h7, h8, h9, h10⟩
theorem vx_L.narrow {C n d : String} {A B : Nat → Prop} {U : State} {H : Heap} (h : vx_L C n d A U H) (hAB : ∀ q, B q → A q) : vx_L C n d B U H := by
  obtain ⟨c, k, i, f, a, cell, h1, h2, h3, h4, h5, h6, h7, h8, h9, h10⟩ := h
  exact ⟨c, k, i, f, a, cell, h1, h2, h3, h4, h5, h6, h7, h8, h9, fun z => h10 (hAB _ z)⟩
theorem vx_L.word {C n d : String} {A : Nat → Prop} {s : State} {args : Array Value} (h : vx_L C n d A s s.heap) : (Cond.laysStatic C n d).before args s = true := by
  obtain ⟨c, k, i, f, a, cell, h1, h2, h3, h4, h5, h6, h7, h8, h9, -⟩ := h
  show (Cond.laysStatic C n d).holds args s none s [] = true
  exact Cond.laysStatic_of h1 h2 h3 h4 h5 h6 h7 h8 h9
/-- .. and what it holds: null or some reference -/
def vx_Zq (C n d : String) (A : Nat → Prop) (U : State) (H : Heap) : Prop := va_Zq C n d A U H ∧ vx_L C n d A U H
theorem vx_Zq.moved {C n d : String} {A : Nat → Prop} {u U : State} {H : Heap} (hvm : u.vm.Alike U.vm) (h : vx_Zq C n d A u H) : vx_Zq C n d A U H := ⟨va_Zq.moved hvm h.1, vx_L.moved hvm h.2⟩
theorem vx_Zq.kept {C n d : String} {A : Nat → Prop} {U : State} {H H1 : Heap} (h : vx_Zq C n d A U H) (hq : ∀ a : Nat, a < H.size → ¬ A a → H1[a]? = H[a]?) : vx_Zq C n d A U H1 := ⟨va_Zq.kept h.1 hq, vx_L.kept h.2 hq⟩
theorem vx_Zq.narrow {C n d : String} {A B : Nat → Prop} {U : State} {H : Heap} (h : vx_Zq C n d A U H) (hAB : ∀ q, B q → A q) : vx_Zq C n d B U H := ⟨va_Zq.narrow h.1 hAB, vx_L.narrow h.2 hAB⟩
theorem vx_Zqof {args : Array Value} {s : State} {C n d : String} {A : Nat → Prop} (hl : (Cond.laysStatic C n d).before args s = true) (hini : (Cond.initialized C).before args s = true) (h : (Cond.isRef (.static C n d)).before args s = true) (hA : ∀ a : Nat, a < s.heap.size → ¬ A a) : vx_Zq C n d A s s.heap := by
  refine ⟨va_Zqof hl hini h hA, ?_⟩
  obtain ⟨c, k, i, f, a, cell, h1, h2, h3, h4, h5, h6, h7, h8, h9⟩ := Cond.laysStatic_spec hl
  exact ⟨c, k, i, f, a, cell, h1, h2, h3, h4, h5, h6, h7, h8, h9, hA a (Array.getElem?_eq_some_iff.mp h5).1⟩
theorem vx_isRef {C n d : String} {v : Value} {A : Nat → Prop} {s : State} {args : Array Value} (h : va_Z C n d v A s s.heap) (hv : v.isRef = true) : (Cond.isRef (.static C n d)).before args s = true := by
  obtain ⟨cf, kf, fi, f, a, cell, h1, h2, h3, h4, h5, h6, h7, -⟩ := h
  have he : (Term.static C n d).eval args s none [] s = some v := by
    simp [Term.eval, State.fieldNamed?, h1, h2, h4, h5, h6, h7]
  simp only [Cond.before, Cond.holds, Cond.value, he]
  cases v <;> simp_all [Value.isRef]
theorem vx_isRefq {C n d : String} {A : Nat → Prop} {s : State} {args : Array Value} (h : va_Zq C n d A s s.heap) : (Cond.isRef (.static C n d)).before args s = true := by
  rcases h with h | ⟨t, h⟩
  · exact vx_isRef h rfl
  · exact vx_isRef h rfl
/-- the same frame, seen from here: as if the method were called anew in this heap -/
theorem vx_rebase {T : State} (X : Stand p l e R s m args below meth c T locs cells slots) {R' : Room} (hf : R'.frames ≤ R.frames) (hl : R'.locals ≤ R.locals) (hc : cells + R'.cells ≤ R.cells) (hs : slots + R'.slots ≤ R.slots) :
    Stand p l e R' ((T.setVm s.vm).setFrames (.invoking m args :: below)) m args below meth c T [] 0 0 := by
  have htop : (T.setVm s.vm).topJava?.isSome := X.here.top
  have hF : ((T.setVm s.vm).setFrames (.invoking m args :: below)).frames = .invoking m args :: below := State.frames_setFrames _ (State.cur_lt_of_top htop)
  obtain ⟨g₀, hg0⟩ := Option.isSome_iff_exists.mp htop
  obtain ⟨r, hr⟩ := State.topJava?_eq_some.mp hg0
  have hl9 : e.platform.stackLimits (T.setVm s.vm).me = e.platform.stackLimits s.me := X.limits
  have hb9 : (T.setVm s.vm).me.stackBytes = s.me.stackBytes := X.bytes
  refine ⟨X.admits, X.cas, X.clock, hF, ?_, X.hears, X.method, X.code, X.here, X.tail, X.warmed, ?_, ?_, ?_⟩
  · have h := X.room
    have hU : ((T.setVm s.vm).setFrames (.invoking m args :: below)).localsInUse = s.localsInUse := by
      rw [State.localsInUse_invoking hF (meth := meth) (c := c) X.method X.code, State.localsInUse_invoking X.frames X.method X.code]
    simp only [State.hasRoom, Bool.and_eq_true, decide_eq_true_eq] at h ⊢
    obtain ⟨⟨⟨⟨h1, h2, h3, h4, h5, h6⟩, h7⟩, h8⟩, h9⟩ := h
    rw [X.frames, List.length_cons] at h2 h3
    have q1 := X.heapSize
    have q2 := X.used
    simp only [hF, hU, List.length_cons, State.stackLimits_setFrames, State.stackBytes_setFrames, hl9, hb9]
    refine ⟨⟨⟨⟨by omega, by omega, by omega, by omega, by omega, h6⟩, ?_⟩, ?_⟩, X.book⟩
    · show T.heap.size + R'.cells ≤ e.platform.maxCells
      omega
    · show T.slotsUsed + R'.slots ≤ e.platform.maxSlots
      omega
  · rw [State.stackLimits_setFrames]; rfl
  · rw [State.stackBytes_setFrames]; rfl
  · refine ⟨?_, Nat.le_refl _, Nat.le_refl _, ?_, ?_, fun a c9 h9 => ⟨c9, h9, rfl, rfl, fun _ _ => rfl⟩⟩
    · obtain ⟨t, ht, -⟩ := State.frames_cons hr
      show T.setVm s.vm = { ((T.setVm s.vm).setFrames (.invoking m args :: below)).setFrames (T.setVm s.vm).frames with heap := T.heap, slotsUsed := T.slotsUsed }
      rw [State.setFrames_setFrames, State.setFrames_self ht]
      rfl
    · show T.slotsUsed = T.slotsUsed + ((T.heap.toList.drop T.heap.size).map (·.slots.size)).sum
      rw [List.drop_eq_nil_of_le (Nat.le_of_eq Array.length_toList)]
      rfl
    · show ((T.heap.toList.drop T.heap.size).map (·.slots.size)).sum ≤ 0
      rw [List.drop_eq_nil_of_le (Nat.le_of_eq Array.length_toList)]
      exact Nat.le_refl _
/-- 'throw new E()': new; dup; invokespecial; athrow -/
theorem vx_throw0 {cc : ByteArray} {pc : Nat} (hexec : p.tables.exec = Jvm.exec) (hb : c.code = cc) (hl : l.stackTraces = false) {own cls : String} {names : List String} {ik ic mc ms : Nat} {A : Nat → Prop}
    (hown : s.vm.findClass own = some m.cls) (hcls : Bundle.fit cls = true) (hnames : ∀ n ∈ names, Bundle.fit n = true)
    (hk : (Cond.classLink own ik cls).before args s = true) (hini : (Cond.initialized cls).before args s = true) (hat : ∀ w ∈ vx_at0 own ic cls names, w.before args s = true)
    (hgood : ∀ w ∈ Cond.classLink own ik cls :: Cond.initialized cls :: vx_at0 own ic cls names, vx_ot w = true)
    (hU : vx_Zq Bundle.tN "UNASSIGNED_STACK" Bundle.steD A s s.heap) (hN : vx_Zq Bundle.tN "SUPPRESSED_SENTINEL" Bundle.listD A s s.heap) (hS : va_S A s.heap H locs) (hsize : ls.size = c.maxLocals)
    (d0 : decode cc pc = .ok (.new ik, 3)) (d3 : decode cc (pc + 3) = .ok (.dup, 1)) (d4 : decode cc (pc + 4) = .ok (.invokespecial ic, 3)) (d7 : decode cc (pc + 7) = .ok (.athrow, 1))
    (hout : ∀ x ∈ c.exceptionTable.toList, covers x (pc + 7) = false)
    (hRframes : names.length + 3 < R.frames) (hRlocals : (rest.map fun v => v.category).sum + (13 * (names.length + 1) + 42) ≤ R.locals) (hRcells : cells + 1 ≤ R.cells) (hRslots : slots + 6 ≤ R.slots) (hlocks : meth.locks = false)
    (hx : ∀ t : State, s.vm.Alike t.vm → H.size ≤ t.heap.size → (∀ q : Nat, q < H.size → t.heap[q]? = H[q]?) → XC cls s t)
    (hf : ∀ z ∈ locs, free z.base) (hc : cells + 1 ≤ mc) (hs : slots + 6 ≤ ms) :
    W p l e R s m args below meth c H locs cells slots (vx_MQ below Qc XC args s mc ms free) (F0 m pc ls rest) := by
  intro T hT X
  have htr : e.platform.stackTraces = false := (show e.platform.stackTraces = l.stackTraces by rw [X.admits.platform]).trans hl
  have Y := vx_rebase X (R' := { frames := R.frames, locals := R.locals, cells := 1, slots := 6 }) (Nat.le_refl _) (Nat.le_refl _) hRcells hRslots
  obtain ⟨s', hA⟩ : ∃ z, z = (T.setVm s.vm).setFrames (.invoking m args :: below) := ⟨_, rfl⟩
  rw [← hA] at Y
  have hvm : s'.vm = s.vm := by rw [hA]; rfl
  have hhp : s'.heap = H := by rw [hA]; exact hT
  have hW0 : s.WarmedH s'.vm := by rw [hvm]; exact State.WarmedH.refl s
  have hat' : ∀ w ∈ vx_at0 own ic cls names, w.before args s' = true := fun w hw => vx_ot_at hW0 hvm.symm (hgood w (List.mem_cons_of_mem _ (List.mem_cons_of_mem _ hw))) (hat w hw)
  have hk' : (Cond.classLink own ik cls).before args s' = true := vx_ot_at hW0 hvm.symm (hgood _ List.mem_cons_self) hk
  have hini' : (Cond.initialized cls).before args s' = true := vx_ot_at hW0 hvm.symm (hgood _ (List.mem_cons_of_mem _ List.mem_cons_self)) hini
  have hU' : vx_Zq Bundle.tN "UNASSIGNED_STACK" Bundle.steD A s' s'.heap := by rw [hhp]; exact vx_Zq.moved hW0.alike (hU.kept hS.2.1)
  have hN' : vx_Zq Bundle.tN "SUPPRESSED_SENTINEL" Bundle.listD A s' s'.heap := by rw [hhp]; exact vx_Zq.moved hW0.alike (hN.kept hS.2.1)
  have h : ∀ w ∈ Bundle.ownAtoms0 own ic cls names, w.before args s' = true := vx_own hat' (vx_isRefq hU'.1) (vx_isRefq hN'.1) hU'.2.word hN'.2.word
  have hown' : s'.vm.findClass own = some m.cls := by rw [hvm]; exact hown
  have hins : (Cond.instantiable cls 6).before args s' = true := h _ (by simp [Bundle.ownAtoms0])
  obtain ⟨vm₁, cX, kX, hfX, hkX, -, -, X₁, st1⟩ := Y.newCold hexec (own := own) (C := cls) (index := ik) (n := 6) hown' hk' hins hini'
    (g := F0 m pc ls rest) rfl (by rw [hb]; exact d0) (Nat.le_refl _) (Nat.le_refl _)
  generalize hT1 : (T.setVm vm₁).pushCell { cls := cX, slots := kX.instanceTypes.map defaultValue, vm := .none } = T1 at X₁ st1
  have hcat : (Value.ref T.heap.size).category = 1 := rfl
  have hcellA : T1.heap[T.heap.size]? = some (freshCell cX kX) := by rw [← hT1]; exact State.heap_pushCell_size _ _
  have d3' : decode c.code (pc + 3) = .ok (.dup, 1) := by rw [hb]; exact d3
  obtain ⟨U, hsteps, hrun, hend, hW, hsame, ce, hce, hO⟩ := X₁.ctorThrow0 hexec htr (own := own) (cls := cls) (names := names) (ic := ic) hown' hcls hnames h (fun x hx => nomatch hx) hfX hkX hcellA (by rw [hhp, hT]; exact Nat.le_refl _)
    (g := { method := m, pc := pc + 4, locals := ls, stack := .ref T.heap.size :: .ref T.heap.size :: rest, locked := none }) rfl hsize rfl rfl (rest := rest) rfl
    (by rw [hb]; exact d4) (by rw [hb]; exact d7) hout hRframes (by simp only [List.map_cons, List.sum_cons, hcat]; omega) hlocks
  obtain ⟨f1, f2⟩ := vx_frame hsame
  rw [hhp] at f1 f2
  have hWs : s.WarmedH U.vm := State.WarmedH.trans hW0 hW
  have hcl : s.vm.findClass cls = some ce.cls := by
    have h9 := hO.cls
    rw [hvm] at h9
    exact h9
  have hall : s.sameButNew ({ U with vm := s.vm } : State) locs mc ms := by
    subst hA
    obtain ⟨e1, e2⟩ := hsame
    rw [State.setFrames_setFrames] at e1
    have h2 : (T.setVm s.vm).sameButNew ({ U with vm := s.vm } : State) [] (0 + 1) (0 + 6) := ⟨e1, e2⟩
    have h3 := X.same.trans h2
    rw [List.append_nil] at h3
    exact h3.mono hc hs
  refine ⟨U, ?_, .threw T.heap.size, hrun, hend, Or.inr ⟨T.heap.size, rfl, cls, ce, locs, hx U hWs.alike f1 (fun q hq => f2 q hq (fun z hz => nomatch hz)), hce, hO.vm, hcl, hWs, hall, hf⟩⟩
  refine st1 _ ?_
  show Steps p.tables e below (T1.setTop { method := m, pc := pc + 3, locals := ls, stack := .ref T.heap.size :: rest, locked := none }) _
  jvm_step X₁.here [X₁.here.top, hexec, d3', Value.category]
  exact hsteps
/-- 'throw new E("text")': new; dup; ldc; invokespecial; athrow -/
theorem vx_throwS {cc : ByteArray} {pc : Nat} (hexec : p.tables.exec = Jvm.exec) (hb : c.code = cc) (hl : l.stackTraces = false) {own cls text : String} {names : List String} {ik is ic mc ms sa : Nat} {A : Nat → Prop}
    (hown : s.vm.findClass own = some m.cls) (hcls : Bundle.fit cls = true) (hnames : ∀ n ∈ names, Bundle.fit n = true)
    (hk : (Cond.classLink own ik cls).before args s = true) (hini : (Cond.initialized cls).before args s = true) (hstr : vk_R own is text sa s) (hat : ∀ w ∈ vx_atS own ic cls names, w.before args s = true)
    (hgood : ∀ w ∈ Cond.classLink own ik cls :: Cond.initialized cls :: vx_atS own ic cls names, vx_ot w = true)
    (hU : vx_Zq Bundle.tN "UNASSIGNED_STACK" Bundle.steD A s s.heap) (hN : vx_Zq Bundle.tN "SUPPRESSED_SENTINEL" Bundle.listD A s s.heap) (hS : va_S A s.heap H locs) (hsize : ls.size = c.maxLocals)
    (d0 : decode cc pc = .ok (.new ik, 3)) (d3 : decode cc (pc + 3) = .ok (.dup, 1)) (d4 : decode cc (pc + 4) = .ok (.ldc is, 2)) (d6 : decode cc (pc + 6) = .ok (.invokespecial ic, 3)) (d9 : decode cc (pc + 9) = .ok (.athrow, 1))
    (hout : ∀ x ∈ c.exceptionTable.toList, covers x (pc + 9) = false)
    (hRframes : names.length + 3 < R.frames) (hRlocals : (rest.map fun v => v.category).sum + (13 * (names.length + 1) + 43) ≤ R.locals) (hRcells : cells + 1 ≤ R.cells) (hRslots : slots + 6 ≤ R.slots) (hlocks : meth.locks = false)
    (hx : ∀ t : State, s.vm.Alike t.vm → H.size ≤ t.heap.size → (∀ q : Nat, q < H.size → t.heap[q]? = H[q]?) → XC cls s t)
    (hf : ∀ z ∈ locs, free z.base) (hc : cells + 1 ≤ mc) (hs : slots + 6 ≤ ms) :
    W p l e R s m args below meth c H locs cells slots (vx_MQ below Qc XC args s mc ms free) (F0 m pc ls rest) := by
  intro T hT X
  have htr : e.platform.stackTraces = false := (show e.platform.stackTraces = l.stackTraces by rw [X.admits.platform]).trans hl
  have Y := vx_rebase X (R' := { frames := R.frames, locals := R.locals, cells := 1, slots := 6 }) (Nat.le_refl _) (Nat.le_refl _) hRcells hRslots
  obtain ⟨s', hA⟩ : ∃ z, z = (T.setVm s.vm).setFrames (.invoking m args :: below) := ⟨_, rfl⟩
  rw [← hA] at Y
  have hvm : s'.vm = s.vm := by rw [hA]; rfl
  have hhp : s'.heap = H := by rw [hA]; exact hT
  have hW0 : s.WarmedH s'.vm := by rw [hvm]; exact State.WarmedH.refl s
  have hat' : ∀ w ∈ vx_atS own ic cls names, w.before args s' = true := fun w hw => vx_ot_at hW0 hvm.symm (hgood w (List.mem_cons_of_mem _ (List.mem_cons_of_mem _ hw))) (hat w hw)
  have hk' : (Cond.classLink own ik cls).before args s' = true := vx_ot_at hW0 hvm.symm (hgood _ List.mem_cons_self) hk
  have hini' : (Cond.initialized cls).before args s' = true := vx_ot_at hW0 hvm.symm (hgood _ (List.mem_cons_of_mem _ List.mem_cons_self)) hini
  have hU' : vx_Zq Bundle.tN "UNASSIGNED_STACK" Bundle.steD A s' s'.heap := by rw [hhp]; exact vx_Zq.moved hW0.alike (hU.kept hS.2.1)
  have hN' : vx_Zq Bundle.tN "SUPPRESSED_SENTINEL" Bundle.listD A s' s'.heap := by rw [hhp]; exact vx_Zq.moved hW0.alike (hN.kept hS.2.1)
  have h : ∀ w ∈ Bundle.ownAtoms own ic cls names, w.before args s' = true := vx_own hat' (vx_isRefq hU'.1) (vx_isRefq hN'.1) hU'.2.word hN'.2.word
  have hown' : s'.vm.findClass own = some m.cls := by rw [hvm]; exact hown
  have hins : (Cond.instantiable cls 6).before args s' = true := h _ (by simp [Bundle.ownAtoms])
  obtain ⟨vm₁, cX, kX, hfX, hkX, -, -, X₁, st1⟩ := Y.newCold hexec (own := own) (C := cls) (index := ik) (n := 6) hown' hk' hins hini'
    (g := F0 m pc ls rest) rfl (by rw [hb]; exact d0) (Nat.le_refl _) (Nat.le_refl _)
  generalize hT1 : (T.setVm vm₁).pushCell { cls := cX, slots := kX.instanceTypes.map defaultValue, vm := .none } = T1 at X₁ st1
  have hcat : (Value.ref T.heap.size).category = 1 := rfl
  have hcellA : T1.heap[T.heap.size]? = some (freshCell cX kX) := by rw [← hT1]; exact State.heap_pushCell_size _ _
  have d3' : decode c.code (pc + 3) = .ok (.dup, 1) := by rw [hb]; exact d3
  have d4' : decode c.code (pc + 4) = .ok (.ldc is, 2) := by rw [hb]; exact d4
  have hstr' : vk_R own is text sa s' := vk_R.warm hW0 hstr
  obtain ⟨U, hsteps, hrun, hend, hW, hsame, ce, hce, hO⟩ := X₁.ctorThrowS hexec htr (own := own) (cls := cls) (names := names) (ic := ic) hown' hcls hnames h (fun x hx => nomatch hx) hfX hkX hcellA (by rw [hhp, hT]; exact Nat.le_refl _) (msg := .ref sa) rfl
    (g := { method := m, pc := pc + 6, locals := ls, stack := .ref sa :: .ref T.heap.size :: .ref T.heap.size :: rest, locked := none }) rfl hsize rfl rfl (rest := rest) rfl
    (by rw [hb]; exact d6) (by rw [hb]; exact d9) hout hRframes (by simp only [List.map_cons, List.sum_cons, hcat]; omega) hlocks
  obtain ⟨f1, f2⟩ := vx_frame hsame
  rw [hhp] at f1 f2
  have hWs : s.WarmedH U.vm := State.WarmedH.trans hW0 hW
  have hcl : s.vm.findClass cls = some ce.cls := by
    have h9 := hO.cls
    rw [hvm] at h9
    exact h9
  have hall : s.sameButNew ({ U with vm := s.vm } : State) locs mc ms := by
    subst hA
    obtain ⟨e1, e2⟩ := hsame
    rw [State.setFrames_setFrames] at e1
    have h2 : (T.setVm s.vm).sameButNew ({ U with vm := s.vm } : State) [] (0 + 1) (0 + 6) := ⟨e1, e2⟩
    have h3 := X.same.trans h2
    rw [List.append_nil] at h3
    exact h3.mono hc hs
  refine ⟨U, ?_, .threw T.heap.size, hrun, hend, Or.inr ⟨T.heap.size, rfl, cls, ce, locs, hx U hWs.alike f1 (fun q hq => f2 q hq (fun z hz => nomatch hz)), hce, hO.vm, hcl, hWs, hall, hf⟩⟩
  refine st1 _ ?_
  show Steps p.tables e below (T1.setTop { method := m, pc := pc + 3, locals := ls, stack := .ref T.heap.size :: rest, locked := none }) _
  jvm_step X₁.here [X₁.here.top, hexec, d3', Value.category]
  exact X₁.ldcString hexec (own := own) (text := text) (index := is) (a := sa) hown' hstr'.1 hstr'.2
    (g := { method := m, pc := pc + 4, locals := ls, stack := .ref T.heap.size :: .ref T.heap.size :: rest, locked := none }) rfl d4' _ hsteps
/-- 'throw new E("text")', the text by a wide index -/
theorem vx_throwSW {cc : ByteArray} {pc : Nat} (hexec : p.tables.exec = Jvm.exec) (hb : c.code = cc) (hl : l.stackTraces = false) {own cls text : String} {names : List String} {ik is ic mc ms sa : Nat} {A : Nat → Prop}
    (hown : s.vm.findClass own = some m.cls) (hcls : Bundle.fit cls = true) (hnames : ∀ n ∈ names, Bundle.fit n = true)
    (hk : (Cond.classLink own ik cls).before args s = true) (hini : (Cond.initialized cls).before args s = true) (hstr : vk_R own is text sa s) (hat : ∀ w ∈ vx_atS own ic cls names, w.before args s = true)
    (hgood : ∀ w ∈ Cond.classLink own ik cls :: Cond.initialized cls :: vx_atS own ic cls names, vx_ot w = true)
    (hU : vx_Zq Bundle.tN "UNASSIGNED_STACK" Bundle.steD A s s.heap) (hN : vx_Zq Bundle.tN "SUPPRESSED_SENTINEL" Bundle.listD A s s.heap) (hS : va_S A s.heap H locs) (hsize : ls.size = c.maxLocals)
    (d0 : decode cc pc = .ok (.new ik, 3)) (d3 : decode cc (pc + 3) = .ok (.dup, 1)) (d4 : decode cc (pc + 4) = .ok (.ldc_w is, 3)) (d7 : decode cc (pc + 7) = .ok (.invokespecial ic, 3)) (d10 : decode cc (pc + 10) = .ok (.athrow, 1))
    (hout : ∀ x ∈ c.exceptionTable.toList, covers x (pc + 10) = false)
    (hRframes : names.length + 3 < R.frames) (hRlocals : (rest.map fun v => v.category).sum + (13 * (names.length + 1) + 43) ≤ R.locals) (hRcells : cells + 1 ≤ R.cells) (hRslots : slots + 6 ≤ R.slots) (hlocks : meth.locks = false)
    (hx : ∀ t : State, s.vm.Alike t.vm → H.size ≤ t.heap.size → (∀ q : Nat, q < H.size → t.heap[q]? = H[q]?) → XC cls s t)
    (hf : ∀ z ∈ locs, free z.base) (hc : cells + 1 ≤ mc) (hs : slots + 6 ≤ ms) :
    W p l e R s m args below meth c H locs cells slots (vx_MQ below Qc XC args s mc ms free) (F0 m pc ls rest) := by
  intro T hT X
  have htr : e.platform.stackTraces = false := (show e.platform.stackTraces = l.stackTraces by rw [X.admits.platform]).trans hl
  have Y := vx_rebase X (R' := { frames := R.frames, locals := R.locals, cells := 1, slots := 6 }) (Nat.le_refl _) (Nat.le_refl _) hRcells hRslots
  obtain ⟨s', hA⟩ : ∃ z, z = (T.setVm s.vm).setFrames (.invoking m args :: below) := ⟨_, rfl⟩
  rw [← hA] at Y
  have hvm : s'.vm = s.vm := by rw [hA]; rfl
  have hhp : s'.heap = H := by rw [hA]; exact hT
  have hW0 : s.WarmedH s'.vm := by rw [hvm]; exact State.WarmedH.refl s
  have hat' : ∀ w ∈ vx_atS own ic cls names, w.before args s' = true := fun w hw => vx_ot_at hW0 hvm.symm (hgood w (List.mem_cons_of_mem _ (List.mem_cons_of_mem _ hw))) (hat w hw)
  have hk' : (Cond.classLink own ik cls).before args s' = true := vx_ot_at hW0 hvm.symm (hgood _ List.mem_cons_self) hk
  have hini' : (Cond.initialized cls).before args s' = true := vx_ot_at hW0 hvm.symm (hgood _ (List.mem_cons_of_mem _ List.mem_cons_self)) hini
  have hU' : vx_Zq Bundle.tN "UNASSIGNED_STACK" Bundle.steD A s' s'.heap := by rw [hhp]; exact vx_Zq.moved hW0.alike (hU.kept hS.2.1)
  have hN' : vx_Zq Bundle.tN "SUPPRESSED_SENTINEL" Bundle.listD A s' s'.heap := by rw [hhp]; exact vx_Zq.moved hW0.alike (hN.kept hS.2.1)
  have h : ∀ w ∈ Bundle.ownAtoms own ic cls names, w.before args s' = true := vx_own hat' (vx_isRefq hU'.1) (vx_isRefq hN'.1) hU'.2.word hN'.2.word
  have hown' : s'.vm.findClass own = some m.cls := by rw [hvm]; exact hown
  have hins : (Cond.instantiable cls 6).before args s' = true := h _ (by simp [Bundle.ownAtoms])
  obtain ⟨vm₁, cX, kX, hfX, hkX, -, -, X₁, st1⟩ := Y.newCold hexec (own := own) (C := cls) (index := ik) (n := 6) hown' hk' hins hini'
    (g := F0 m pc ls rest) rfl (by rw [hb]; exact d0) (Nat.le_refl _) (Nat.le_refl _)
  generalize hT1 : (T.setVm vm₁).pushCell { cls := cX, slots := kX.instanceTypes.map defaultValue, vm := .none } = T1 at X₁ st1
  have hcat : (Value.ref T.heap.size).category = 1 := rfl
  have hcellA : T1.heap[T.heap.size]? = some (freshCell cX kX) := by rw [← hT1]; exact State.heap_pushCell_size _ _
  have d3' : decode c.code (pc + 3) = .ok (.dup, 1) := by rw [hb]; exact d3
  have d4' : decode c.code (pc + 4) = .ok (.ldc_w is, 3) := by rw [hb]; exact d4
  have hstr' : vk_R own is text sa s' := vk_R.warm hW0 hstr
  obtain ⟨U, hsteps, hrun, hend, hW, hsame, ce, hce, hO⟩ := X₁.ctorThrowS hexec htr (own := own) (cls := cls) (names := names) (ic := ic) hown' hcls hnames h (fun x hx => nomatch hx) hfX hkX hcellA (by rw [hhp, hT]; exact Nat.le_refl _) (msg := .ref sa) rfl
    (g := { method := m, pc := pc + 7, locals := ls, stack := .ref sa :: .ref T.heap.size :: .ref T.heap.size :: rest, locked := none }) rfl hsize rfl rfl (rest := rest) rfl
    (by rw [hb]; exact d7) (by rw [hb]; exact d10) hout hRframes (by simp only [List.map_cons, List.sum_cons, hcat]; omega) hlocks
  obtain ⟨f1, f2⟩ := vx_frame hsame
  rw [hhp] at f1 f2
  have hWs : s.WarmedH U.vm := State.WarmedH.trans hW0 hW
  have hcl : s.vm.findClass cls = some ce.cls := by
    have h9 := hO.cls
    rw [hvm] at h9
    exact h9
  have hall : s.sameButNew ({ U with vm := s.vm } : State) locs mc ms := by
    subst hA
    obtain ⟨e1, e2⟩ := hsame
    rw [State.setFrames_setFrames] at e1
    have h2 : (T.setVm s.vm).sameButNew ({ U with vm := s.vm } : State) [] (0 + 1) (0 + 6) := ⟨e1, e2⟩
    have h3 := X.same.trans h2
    rw [List.append_nil] at h3
    exact h3.mono hc hs
  refine ⟨U, ?_, .threw T.heap.size, hrun, hend, Or.inr ⟨T.heap.size, rfl, cls, ce, locs, hx U hWs.alike f1 (fun q hq => f2 q hq (fun z hz => nomatch hz)), hce, hO.vm, hcl, hWs, hall, hf⟩⟩
  refine st1 _ ?_
  show Steps p.tables e below (T1.setTop { method := m, pc := pc + 3, locals := ls, stack := .ref T.heap.size :: rest, locked := none }) _
  jvm_step X₁.here [X₁.here.top, hexec, d3', Value.category]
  exact X₁.ldcStringW hexec (own := own) (text := text) (index := is) (a := sa) hown' hstr'.1 hstr'.2
    (g := { method := m, pc := pc + 4, locals := ls, stack := .ref T.heap.size :: .ref T.heap.size :: rest, locked := none }) rfl d4' _ hsteps
end Ends
section Bodies
variable {l : Launch}
theorem vx_ofW {y : MethodName} {ws ws' : List Cond} {rm : Room} {Pc : Array Value → State → Prop} {Qc : Array Value → State → Outcome → State → Prop} {XC : String → State → State → Prop} {mc ms : Nat} {free : Addr → Prop} {cc : ByteArray} {maxL : Nat} {ret : Option FieldType}
    (hy : plainName y.cls = true) (hw : ws = Cond.code y cc maxL ret :: ws')
    (body : ∀ p e s m args below meth c s₁, BodyLoose p l y (headSpec ws rm) cc maxL ret e s m args below meth c s₁ → c.maxLocals = maxL → (∀ x ∈ c.exceptionTable.toList, False) → Pc args s →
      W p l e (headSpec ws rm).room s m args below meth c s.heap [] 0 0 (vx_MQ below Qc XC args s mc ms free) (entryFrame m args maxL)) : vx_Met l y ws rm Pc Qc XC mc ms free := by
  refine MetFree.of_bodyS (code := cc) (maxLocals := maxL) (ret := ret) hy ?_ ?_
  · intro args s m h hn
    obtain ⟨meth, c, h1, h2, h3, h4, h5, h6, -, -⟩ := Cond.code_spec hn (atoms_spec (ws := ws) h _ (by rw [hw]; exact List.mem_cons_self))
    exact ⟨meth, c, h1, h2, h3, h4, h5, h6⟩
  · intro p e s m args below meth c s₁ B hml hP _
    have hh0 : s₁.heap = s.heap := by rw [B.state]; rfl
    have ht : ∀ x ∈ c.exceptionTable.toList, False := by
      obtain ⟨meth9, c9, h1, h2, -, -, -, -, h7, -⟩ := Cond.code_spec B.named (atoms_spec (ws := ws) B.pre _ (by rw [hw]; exact List.mem_cons_self))
      cases Option.some.inj (h1.symm.trans B.method)
      cases Option.some.inj (h2.symm.trans (Stand.of_body B).code)
      intro x hx
      rw [Array.isEmpty_iff.mp h7] at hx
      cases hx
    obtain ⟨t, a1, o, b1, b2, b3⟩ := body p e s m args below meth c s₁ B hml ht hP s₁ hh0 (Stand.of_body B)
    exact ⟨t, o, a1, b1, b2, b3⟩
/-- the table of a body with handlers -/
theorem vx_table {p : Program} {x y : MethodName} {S : Spec} {cc bytes : ByteArray} {maxL maxL' : Nat} {ret ret' : Option FieldType} {e : Env} {s s₁ : State} {m : MethodId} {args : Array Value} {below : List Frame} {meth : Method} {c : Code} {hh : List (Nat × Nat × Nat × Nat)}
    (B : BodyLoose p l y S cc maxL ret e s m args below meth c s₁) (h : (Cond.codeWith y bytes maxL' ret' hh).before args s = true) : c.exceptionTable.toList = tableOf hh := by
  obtain ⟨m9, meth9, c9, hn9, h1, h2, -, -, h6, -⟩ := Cond.codeWith_spec h
  cases Option.some.inj (hn9.symm.trans B.named)
  cases Option.some.inj (h1.symm.trans B.method)
  cases Option.some.inj (h2.symm.trans (Stand.of_body B).code)
  rw [← h6, table_eq]
end Bodies
end VXA
/-! ===== END ===== -/
/-! ===== BEGIN a static call of a method with an exception table ===== -/
section VXS
variable {p : Program} {l : Launch} {e : Env} {R : Room} {s : State} {m : MethodId} {args : Array Value} {below : List Frame} {meth : Method} {c : Code} {T : State} {H : Heap} {locs : List Loc} {cells slots : Nat}
abbrev vx_CSW (R : Room) (s : State) (args : Array Value) (own : String) (index : Nat) (y : MethodName) (bytes : ByteArray) (maxL : Nat) (ret : Option FieldType) (hh : List (Nat × Nat × Nat × Nat)) (ws : List Cond) (rm : Room) (mc ms n : Nat) : Prop :=
  (rm.cells = mc ∧ rm.slots = ms ∧ rm.frames + 1 ≤ R.frames ∧ 8 + (maxL + 11) + rm.locals ≤ R.locals ∧ (∀ w ∈ ws, ∀ (a' : Array Value) (U : State), s.WarmedH U.vm → w.before a' U = true) ∧ Cond.codeWith y bytes maxL ret hh ∈ ws) ∧
  (Cond.codeWith y bytes maxL ret hh).before args s = true ∧ (Cond.initialized y.cls).before args s = true ∧ (y.cls ≠ "java/lang/invoke/MethodHandle" ∧ y.cls ≠ "java/lang/invoke/VarHandle") ∧
  (∀ sig, parseMethodDescriptor y.desc = some sig → n = sig.parameters.length) ∧ (Cond.methodLink own index y).before args s = true ∧ (Cond.static y).before args s = true
theorem vx_cwSW {own : String} {index maxL mc ms : Nat} {y : MethodName} {bytes : ByteArray} {ret : Option FieldType} {hh : List (Nat × Nat × Nat × Nat)} {Ts ws ws' : List Cond} {rm : Room} (n : Nat) (ht : ∀ w ∈ Ts, w.before args s = true) (hT : GoodIn Ts (va_wsS own index y ws)) (hw : ws = Cond.codeWith y bytes maxL ret hh :: ws') (hrc : rm.cells = mc) (hrs : rm.slots = ms)
    (hd : y.cls ≠ "java/lang/invoke/MethodHandle" ∧ y.cls ≠ "java/lang/invoke/VarHandle" ∧ (parseMethodDescriptor y.desc).map (fun d => d.parameters.length) = some n) (hR : rm.frames + 1 ≤ R.frames ∧ 8 + (maxL + 11) + rm.locals ≤ R.locals) :
    vx_CSW R s args own index y bytes maxL ret hh ws rm mc ms n := by
  have ok : ∀ w ∈ va_wsS own index y ws, w.before args s = true := fun w h => ht w (hT w h).1
  have hG : GoodIn Ts ws := fun w h => hT w (by unfold va_wsS; exact List.mem_append_right _ h)
  have hc : Cond.codeWith y bytes maxL ret hh ∈ ws := by rw [hw]; exact List.mem_cons_self
  refine ⟨⟨hrc, hrs, hR.1, hR.2, pay_in ht hG, hc⟩, ht _ (hG _ hc).1, ok _ (by simp [va_wsS]), ⟨hd.1, hd.2.1⟩, fun sig h => ?_, ok _ (by simp [va_wsS]), ok _ (by simp [va_wsS])⟩
  have h2 := hd.2.2
  rw [h] at h2
  exact (Option.some.inj h2).symm
theorem vx_callSW (X : Stand p l e R s m args below meth c T locs cells slots) (hexec : p.tables.exec = Jvm.exec) {own : String} {index : Nat} {y : MethodName} {bytes : ByteArray} {maxL : Nat} {ret : Option FieldType} {hh : List (Nat × Nat × Nat × Nat)}
    (hown : s.vm.findClass own = some m.cls) (hlink : (Cond.methodLink own index y).before args s = true) (hstat : (Cond.static y).before args s = true) (hinit : (Cond.initialized y.cls).before args s = true)
    (hcode : (Cond.codeWith y bytes maxL ret hh).before args s = true) (hy : y.cls ≠ "java/lang/invoke/MethodHandle" ∧ y.cls ≠ "java/lang/invoke/VarHandle")
    {W9 : Nat} {Pre : Pt → Array Value → Prop} {Post : Pt → Array Value → Option Value → Pt → Prop} (hK : Back l R p e below s args y 3 W9 Pre Post)
    {g : JFrame} (hg : g.method = m) (hsize : g.locals.size = c.maxLocals) {argsL rest : List Value} (hlen : ∀ sig, parseMethodDescriptor y.desc = some sig → argsL.length = sig.parameters.length)
    (hstack : g.stack = argsL.reverse ++ rest) (hW : 2 * g.monitorRoom + (rest.map fun v => v.category).sum ≤ W9) (hdg : decode c.code g.pc = .ok (.invokestatic index, 3))
    (hpre : ∀ vm₁, s.WarmedH vm₁ → Pre ⟨T.setVm vm₁, locs, cells, slots⟩ argsL.toArray) :
    ∃ (v : Option Value) (vm₁ : Vm) (B : Pt), s.WarmedH vm₁ ∧ Stand p l e R s m args below meth c B.U B.locs B.cells B.slots ∧ Post ⟨T.setVm vm₁, locs, cells, slots⟩ argsL.toArray v B ∧
      ∀ target, Steps p.tables e below (B.U.setTop { g with pc := g.pc + 3, stack := v.toList ++ rest }) target → Steps p.tables e below (T.setTop g) target := by
  obtain ⟨mk, methM, cM, hnamed, hmethM, -, -, -, -, -, -, hsigM⟩ := Cond.codeWith_spec hcode
  have hstatic : methM.isStatic = true := Cond.static_spec hnamed hmethM hstat
  obtain ⟨kP, hkP, -⟩ := className_of_methodNamed hnamed
  have hinitP : kP.init = .initialized := Cond.initialized_spec (findClass_of_methodNamed hnamed) hkP hinit
  obtain ⟨vm₁, X₁, hstep₁⟩ := X.invokestatic hexec hown hlink hnamed hmethM hstatic hkP hinitP hy (g := g) hg (argsL := argsL) (rest := rest) (hlen _ hsigM) hstack hdg
  obtain ⟨v, B, X', hpost, hsteps⟩ := hK m meth c ⟨T.setVm vm₁, locs, cells, slots⟩ { g with stack := rest } (.invokestatic index) mk argsL.toArray X₁ hg hsize hdg hW (X₁.named hnamed) (hpre vm₁ X₁.warmed)
  exact ⟨v, vm₁, B, X₁.warmed, X', hpost, fun target h => hstep₁ _ fun acts => by rw [doInvoke_state]; exact hsteps.trans h⟩
theorem vx_runSW {y : MethodName} {bytes cc : ByteArray} {maxL nL mc ms n index : Nat} {ret : Option FieldType} {hh : List (Nat × Nat × Nat × Nat)} {ws : List Cond} {rm : Room} {Pc : Array Value → State → Prop} {Qc : Array Value → State → Outcome → State → Prop} {free : Addr → Prop} {Ts : List Cond} {own : String} {As rest : List Value} {g : JFrame}
    (S : CallFix p m c cc nL s args Ts own) (hM : Met l y ws rm Pc Qc mc ms free) (cw : vx_CSW R s args own index y bytes maxL ret hh ws rm mc ms n) (hp : PreS s H Pc As)
    (hg : g.method = m) (hn : As.length = n) (hsize : g.locals.size = nL) (hstack : g.stack = As.reverse ++ rest) (hW : 2 * g.monitorRoom + (rest.map fun v => v.category).sum ≤ 8) (hdg : decode cc g.pc = .ok (.invokestatic index, 3)) (hf : cells + mc ≤ R.cells ∧ slots + ms ≤ R.slots) :
    va_Run p l e R s m args below meth c H locs cells slots mc ms g rest (Qc As.toArray) (free) := by
  obtain ⟨⟨hrc, hrs, hfr, hlo, hws, hcw⟩, hcode, hini, hy, hlen, hl, hstt⟩ := cw
  have hK : Back l R p e below s args y 3 8 (PreOf R mc ms Pc) (PostOf Qc mc ms free) := va_backW (hh := hh) (bytes := bytes) (maxL := maxL) (ret := ret) hM hp.1 hrc hrs hfr hlo hws hcw (fun a' U hW => word_at hW (Or.inl (by first | rfl | simp [Cond.onTables, Cond.keeps, Cond.steady])) hini)
  obtain ⟨hx, hb, hml, ho, -⟩ := S
  intro T hT X
  obtain ⟨v, vm₁, ⟨U', l2, c2, s2⟩, hW₁, X', ⟨g', mk, t, L, e1, e2, hq, h1, hL, h2, h3⟩, st⟩ := vx_callSW X hx (hh := hh) (bytes := bytes) (maxL := maxL) (ret := ret) ho hl hstt hini hcode hy hK hg (hsize.trans hml.symm) (argsL := As) (rest := rest) (fun sig h => hn.trans (hlen sig h)) hstack hW (by rw [hb]; exact hdg)
    (fun vm₁ hW₁ => ⟨hf.1, hf.2, hp.2 (T.setVm vm₁) hT hW₁⟩)
  dsimp only [Pt.U, Pt.locs, Pt.cells, Pt.slots] at X' e1 e2 h1 h2 h3 st
  subst h1; subst h2; subst h3
  exact ⟨v, (T.setVm vm₁).calling g' mk As.toArray, t, U', L, hT, X', hL, e1, e2, hq, st⟩
/-- not caught here, past rows that name other classes: it goes on to the caller -/
theorem vx_outP {p : Program} {l : Launch} {e : Env} {R : Room} {s : State} {m : MethodId} {args : Array Value} {below : List Frame} {meth : Method} {c : Code} {H : Heap} {locs : List Loc} {cells slots : Nat} {free : Addr → Prop} {ls : Array Slot} {rest : List Value} {Qc : Array Value → State → Outcome → State → Prop} {XC : String → State → State → Prop}
    {pc : Nat} {own E : String} {ce : Cell} {q : Addr} {mc ms : Nat} (hown : s.vm.findClass own = some m.cls) (hlocks : meth.locks = false)
    (hpass : ∀ z ∈ c.exceptionTable.toList, covers z pc = false ∨ (z.catchType ≠ 0 ∧ ∃ nm : String, (Cond.classLink own z.catchType nm).before args s = true ∧ va_Nc E nm s)) (hcell : H[q]? = some ce) (hv : ce.vm = .none) (hcl : s.vm.findClass E = some ce.cls)
    (hx : ∀ t : State, t.heap = H → s.vm.Alike t.vm → XC E s t) (hf : ∀ z ∈ locs, free z.base) (hc : cells ≤ mc) (hs : slots ≤ ms) :
    vx_W p l e R s m args below meth c H locs cells slots (vx_MQ below Qc XC args s mc ms free) (F0 m pc ls rest) q := by
  intro T hT X
  have hpl : e.platform.magicAccessors = ({} : Platform).magicAccessors := by rw [X.admits.platform]
  obtain ⟨vm', hW', X', st⟩ := X.outThrough hlocks q (g := F0 m pc ls rest) rfl rfl rfl (cell := ce) (by rw [hT]; exact hcell) (by rw [hv]; rfl)
    (by obtain ⟨k9, h9, -⟩ := Vm.findClass_spec hcl; exact ⟨k9, h9⟩) (fun z hz => by
      rcases hpass z hz with h | ⟨hz0, nm, hl1, hn1⟩
      · exact Or.inl h
      · obtain ⟨c6, hc6, hcl6⟩ := Cond.classLink_spec hown hl1 e.platform hpl
        obtain ⟨a8, b8, h1, h2, h3⟩ := hn1
        cases Option.some.inj (h1.symm.trans hcl)
        cases Option.some.inj (h2.symm.trans hc6)
        exact Or.inr ⟨hz0, _, hcl6, h3⟩)
  obtain ⟨g₀, hfr⟩ := X'.frames_eq
  have hcell9 : ((T.setVm vm').setFrames (.throwing q :: below)).heap[q]? = some ce := by
    show T.heap[q]? = some ce
    rw [hT]; exact hcell
  have hend : Ended ((T.setVm vm').setFrames (.throwing q :: below)) below (.threw q) := State.frames_setFrames _ (State.cur_lt_of_frames hfr)
  refine ⟨(T.setVm vm').setFrames (.throwing q :: below), ?_, .threw q, X'.here.running, hend, Or.inr ⟨q, rfl, E, ce, locs, hx _ hT (X'.ends _).1.alike, hcell9, hv, hcl, (X'.ends _).1, (X'.ends _).2.mono hc hs, hf⟩⟩
  rw [X.pushThrowing_eq]
  exact st
/-- a thing of a world lies in the heap -/
theorem vx_lt {D : va_G} {cl : List vw_C} {ws : va_W} {H1 : Heap} (h : va_P D cl ws H1) {k : Nat} {q : Nat × va_E} (hk : ws[k]? = some q) : q.1 < H1.size := (h k q hk).lt
end VXS
/-! ===== END ===== -/
/-! ===== BEGIN methods with a table of their own: called by a name, returning or throwing ===== -/
section VXH
/-! vx_backW, vx_callVX, vx_callSX, vx_callVW, vx_runVW, vx_runVX, vx_runSX, vx_ofWH follow the same proofs as their sisters above (Free/Laws.lean, Shelf42/LK1.lean); vx_outP calls Shelf42/NT130.lean (outThrough). -/
section
variable {l : Launch} {R : Room} {p : Program} {e : Env} {below : List Frame} {s : State} {sargs : Array Value} {y : MethodName} {len W9 : Nat}
theorem vx_backW {ws : List Cond} {rm : Room} {Pc : Array Value → State → Prop} {Qc : Array Value → State → Outcome → State → Prop} {XC : String → State → State → Prop} {mc ms : Nat} {free : Addr → Prop} {bytes : ByteArray} {maxL : Nat} {ret : Option FieldType} {hh : List (Nat × Nat × Nat × Nat)}
    (hM : vx_Met l y ws rm Pc Qc XC mc ms free) (hblind : FrameBlind Pc) (hrc : rm.cells = mc) (hrs : rm.slots = ms)
    (hframes : rm.frames + 1 ≤ R.frames) (hlocals : W9 + (maxL + 11) + rm.locals ≤ R.locals)
    (hws : ∀ w ∈ ws, ∀ a' U, s.WarmedH U.vm → w.before a' U = true) (hcode : Cond.codeWith y bytes maxL ret hh ∈ ws) (hinit : ∀ a' U, s.WarmedH U.vm → (Cond.initialized y.cls).before a' U = true) :
    vx_Back l R p e below s sargs y len W9 (PreOf R mc ms Pc) (PostOf Qc mc ms free) (vx_Post XC mc ms free) := by
  intro m meth c A g ig mk a X hg hsize hdg hW hn hp
  have h1 : (headSpec ws rm).pre.before a A.U = true := atoms_intro fun w hw => hws w hw _ _ X.warmed
  have h2 : (Cond.codeWith y bytes maxL ret hh).before a A.U = true := hws _ hcode _ _ X.warmed
  have h3 : (Cond.initialized y.cls).before a A.U = true := hinit _ _ X.warmed
  have h4 : A.cells + (headSpec ws rm).room.cells ≤ R.cells := by rw [show (headSpec ws rm).room.cells = mc from hrc]; exact hp.1
  have h5 : A.slots + (headSpec ws rm).room.slots ≤ R.slots := by rw [show (headSpec ws rm).room.slots = ms from hrs]; exact hp.2.1
  have hPc : Pc a (A.U.calling g mk a) := hblind _ _ _ _ hp.2.2
  obtain ⟨U, Ls, c0, s0⟩ := A
  dsimp only [Pt.U, Pt.locs, Pt.cells, Pt.slots] at h1 h2 h3 h4 h5 X hn hPc ⊢
  obtain ⟨m9, methY, cY, hn9, hmY, hcY, -, hlY, -⟩ := Cond.codeWith_spec h2
  cases Option.some.inj (hn9.symm.trans hn)
  obtain ⟨kY, hkY, -⟩ := className_of_methodNamed hn
  have hinitY : kY.init = .initialized := Cond.initialized_spec (findClass_of_methodNamed hn) hkY h3
  have h : At U g.method c below := by rw [hg]; exact X.here
  have hlocals9 : W9 + (maxL + 11) + (headSpec ws rm).room.locals ≤ R.locals := hlocals
  have happ : (headSpec ws rm).appliesLoose y e.platform (U.calling g mk a) = true :=
    Spec.appliesLoose_calling (g := g) h hdg hn hkY hinitY
      (X.room_calling (g := g) (R' := (headSpec ws rm).room) hsize hmY hcY hframes (by rw [hlY]; omega) h4 h5) h1
  obtain ⟨mid, hmid⟩ := h.above
  have hfr : (U.setTop g).frames = (.java g :: mid) ++ below := by rw [State.frames_setTop' g h.top, hmid]; rfl
  obtain ⟨o, s₂, hsteps, -, hend, hq⟩ := Steps.callFree hM p X.admits X.cas X.clock (acts := []) hfr happ hPc trivial
  have hq' : vx_Q Qc XC mc ms free a (U.calling g mk a) o s₂ := hq
  rw [State.frames_setTop' g h.top] at hend
  obtain ⟨g₀, hg0⟩ := Option.isSome_iff_exists.mp h.top
  obtain ⟨r, hr⟩ := State.topJava?_eq_some.mp hg0
  have hr' : (({ U with heap := s₂.heap, slotsUsed := s₂.slotsUsed } : State).setVm s₂.vm).frames = .java g₀ :: r := hr
  rcases hq' with ⟨hqc, L, hfe, hL⟩ | ⟨q, rfl, E, ce, L, hx, hce, hcv, hcl, hW₂, hsm, hL⟩
  · obtain ⟨⟨v, rfl⟩, hW₂, e2, q2, q3, q4, q5, q6⟩ := id hfe
    have e3 : s₂ = ({ (U.calling g mk a).setFrames s₂.frames with heap := s₂.heap, slotsUsed := s₂.slotsUsed } : State).setVm s₂.vm := by
      have : s₂ = ({ s₂ with vm := (U.calling g mk a).vm } : State).setVm s₂.vm := rfl
      rw [e2] at this
      exact this
    obtain ⟨c₂, i₂, len₂, hc₂, hd₂, hf₂⟩ := hend
    have hW' : U.WarmedH s₂.vm := hW₂
    have hcc : c₂ = c := by
      have h1 : s₂.code? g.method = U.code? g.method := by
        rw [State.code?_eq, State.code?_eq, hW'.alike.method?]
      exact Option.some.inj (hc₂.symm.trans (h1.trans h.code))
    subst hcc
    have hlen : len₂ = len := by rw [hdg] at hd₂; cases hd₂; rfl
    subst hlen
    have hs₂ : s₂ = (({ U with heap := s₂.heap, slotsUsed := s₂.slotsUsed } : State).setVm s₂.vm).setTop { g with pc := g.pc + len₂, stack := v.toList ++ g.stack } := by
      refine e3.trans ?_
      rw [hf₂, State.calling_eq h.top, State.setFrames_setFrames, State.setTop_of_frames _ hr', hr]
      rfl
    have hsame : U.sameButNew ({ U with heap := s₂.heap, slotsUsed := s₂.slotsUsed } : State) L mc ms := by
      refine ⟨?_, q2, q3, q4, q5, q6⟩
      obtain ⟨t, ht, -⟩ := State.frames_cons hr
      show ({ U with heap := s₂.heap, slotsUsed := s₂.slotsUsed } : State) = { U.setFrames U.frames with heap := s₂.heap, slotsUsed := s₂.slotsUsed }
      rw [State.setFrames_self ht]
    subst hg
    refine Or.inl ⟨v, ⟨(({ U with heap := s₂.heap, slotsUsed := s₂.slotsUsed } : State).setVm s₂.vm), Ls ++ L, c0 + mc, s0 + ms⟩,
      ⟨X.admits, X.cas, X.clock, X.frames, X.room, X.hears, X.method, X.code, (X.here.setHeapUsed s₂.heap s₂.slotsUsed).setVm hW'.alike, X.tail, State.WarmedH.trans X.warmed hW', X.limits, X.bytes, X.same.trans (hsame.setVm s.vm)⟩,
      ⟨g, mk, s₂, L, rfl, rfl, hqc, rfl, hL, rfl, rfl⟩, ?_⟩
    show Steps p.tables e below _ ((({ U with heap := s₂.heap, slotsUsed := s₂.slotsUsed } : State).setVm s₂.vm).setTop { g with pc := g.pc + len₂, stack := v.toList ++ g.stack })
    rw [← hs₂]
    exact hsteps
  · obtain ⟨e2, q2, q3, q4, q5, q6⟩ := id hsm
    have e3 : s₂ = ({ (U.calling g mk a).setFrames s₂.frames with heap := s₂.heap, slotsUsed := s₂.slotsUsed } : State).setVm s₂.vm := by
      have : s₂ = ({ s₂ with vm := (U.calling g mk a).vm } : State).setVm s₂.vm := rfl
      rw [e2] at this
      exact this
    have hf₂ : s₂.frames = .throwing q :: .java g :: U.frames.tail := hend
    have hW' : U.WarmedH s₂.vm := hW₂
    have hs₂ : s₂ = ((({ U with heap := s₂.heap, slotsUsed := s₂.slotsUsed } : State).setVm s₂.vm).setTop g).pushFrame (.throwing q) := by
      refine e3.trans ?_
      rw [hf₂, State.calling_eq h.top, State.setFrames_setFrames, State.pushFrame, State.frames_setTop _ hr', State.setTop_of_frames _ hr', State.setFrames_setFrames, hr]
      rfl
    have hsame : U.sameButNew ({ U with heap := s₂.heap, slotsUsed := s₂.slotsUsed } : State) L mc ms := by
      refine ⟨?_, q2, q3, q4, q5, q6⟩
      obtain ⟨t, ht, -⟩ := State.frames_cons hr
      show ({ U with heap := s₂.heap, slotsUsed := s₂.slotsUsed } : State) = { U.setFrames U.frames with heap := s₂.heap, slotsUsed := s₂.slotsUsed }
      rw [State.setFrames_self ht]
    subst hg
    refine Or.inr ⟨q, ⟨(({ U with heap := s₂.heap, slotsUsed := s₂.slotsUsed } : State).setVm s₂.vm), Ls ++ L, c0 + mc, s0 + ms⟩,
      ⟨X.admits, X.cas, X.clock, X.frames, X.room, X.hears, X.method, X.code, (X.here.setHeapUsed s₂.heap s₂.slotsUsed).setVm hW'.alike, X.tail, State.WarmedH.trans X.warmed hW', X.limits, X.bytes, X.same.trans (hsame.setVm s.vm)⟩,
      ⟨g, mk, s₂, L, E, ce, rfl, rfl, hx, hce, hcv, hcl, rfl, hL, rfl, rfl⟩, ?_⟩
    show Steps p.tables e below _ (((({ U with heap := s₂.heap, slotsUsed := s₂.slotsUsed } : State).setVm s₂.vm).setTop g).pushFrame (.throwing q))
    rw [← hs₂]
    exact hsteps
end
variable {p : Program} {l : Launch} {e : Env} {R : Room} {s : State} {m : MethodId} {args : Array Value} {below : List Frame} {meth : Method} {c : Code} {T : State} {H : Heap} {locs : List Loc} {cells slots : Nat}
theorem vx_callVX (X : Stand p l e R s m args below meth c T locs cells slots) (hexec : p.tables.exec = Jvm.exec) {own C : String} {index : Nat} {y : MethodName} {bytes : ByteArray} {maxL : Nat} {ret : Option FieldType} {hh : List (Nat × Nat × Nat × Nat)}
    (hown : s.vm.findClass own = some m.cls) (hlink : (Cond.methodLink own index y).before args s = true) (hinst : (Cond.instanceMethod y).before args s = true) (hsel : (Cond.selects C y y).before args s = true)
    (hcode : (Cond.codeWith y bytes maxL ret hh).before args s = true) (hy : y.cls ≠ "java/lang/invoke/MethodHandle" ∧ y.cls ≠ "java/lang/invoke/VarHandle")
    {W9 : Nat} {Pre : Pt → Array Value → Prop} {Post : Pt → Array Value → Option Value → Pt → Prop} {PostX : Pt → Array Value → Addr → Pt → Prop} (hK : vx_Back l R p e below s args y 3 W9 Pre Post PostX)
    {b : Addr} {cellB : Cell} (hcell : T.heap[b]? = some cellB) (hobj : cellB.vm.isStatics = false) (hcls : s.vm.findClass C = some cellB.cls)
    {g : JFrame} (hg : g.method = m) (hsize : g.locals.size = c.maxLocals) {argsL rest : List Value} (hlen : ∀ sig, parseMethodDescriptor y.desc = some sig → argsL.length = sig.parameters.length)
    (hstack : g.stack = argsL.reverse ++ .ref b :: rest) (hW : 2 * g.monitorRoom + (rest.map fun v => v.category).sum ≤ W9) (hdg : decode c.code g.pc = .ok (.invokevirtual index, 3))
    (hpre : ∀ vm₁, s.WarmedH vm₁ → Pre ⟨T.setVm vm₁, locs, cells, slots⟩ (Value.ref b :: argsL).toArray) :
    (∃ (v : Option Value) (vm₁ : Vm) (B : Pt), s.WarmedH vm₁ ∧ Stand p l e R s m args below meth c B.U B.locs B.cells B.slots ∧ Post ⟨T.setVm vm₁, locs, cells, slots⟩ (Value.ref b :: argsL).toArray v B ∧
      ∀ target, Steps p.tables e below (B.U.setTop { g with pc := g.pc + 3, stack := v.toList ++ rest }) target → Steps p.tables e below (T.setTop g) target) ∨
    (∃ (q : Addr) (vm₁ : Vm) (B : Pt), s.WarmedH vm₁ ∧ Stand p l e R s m args below meth c B.U B.locs B.cells B.slots ∧ PostX ⟨T.setVm vm₁, locs, cells, slots⟩ (Value.ref b :: argsL).toArray q B ∧
      Steps p.tables e below (T.setTop g) ((B.U.setTop { g with stack := rest }).pushFrame (.throwing q))) := by
  obtain ⟨mk, methM, hnamed, hmethM, hstM, habM⟩ := Cond.instanceMethod_spec hinst
  obtain ⟨m8, methM', cM, hn8, hmethM', -, -, -, -, -, -, hsigM⟩ := Cond.codeWith_spec hcode
  cases Option.some.inj (hn8.symm.trans hnamed)
  cases hmethM.symm.trans hmethM'
  obtain ⟨c2, r2, m2, q1, q2, q3, q4, kP, hkP, hkPi⟩ := Cond.selects_spec hsel
  cases hcls.symm.trans q1
  cases (State.methodFound?_of_named hnamed hy).symm.trans q2
  cases hnamed.symm.trans q3
  have hselP : selectMethod e.platform s.vm cellB.cls mk = .method mk := by rw [Launch.admits_selectMethod X.admits]; exact q4
  obtain ⟨vm₁, X₁, hstep₁⟩ := X.invokevirtual hexec hown hlink hnamed hmethM hstM hkP hkPi hy (a := b) (cell := cellB) hcell
    (fun z h => by rw [h] at hobj; cases hobj) hselP hmethM habM hkP hkPi (g := g) hg (argsL := argsL) (rest := rest) (hlen _ hsigM) hstack hdg
  rcases hK m meth c ⟨T.setVm vm₁, locs, cells, slots⟩ { g with stack := rest } (.invokevirtual index) mk (Value.ref b :: argsL).toArray X₁ hg hsize hdg hW (X₁.named hnamed) (hpre vm₁ X₁.warmed) with ⟨v, B, X', hpost, hsteps⟩ | ⟨q, B, X', hpost, hsteps⟩
  · exact Or.inl ⟨v, vm₁, B, X₁.warmed, X', hpost, fun target h => hstep₁ _ fun acts => by rw [doInvoke_state]; exact hsteps.trans h⟩
  · exact Or.inr ⟨q, vm₁, B, X₁.warmed, X', hpost, hstep₁ _ fun acts => by rw [doInvoke_state]; exact hsteps⟩
theorem vx_callSX (X : Stand p l e R s m args below meth c T locs cells slots) (hexec : p.tables.exec = Jvm.exec) {own : String} {index : Nat} {y : MethodName} {bytes : ByteArray} {maxL : Nat} {ret : Option FieldType} {hh : List (Nat × Nat × Nat × Nat)}
    (hown : s.vm.findClass own = some m.cls) (hlink : (Cond.methodLink own index y).before args s = true) (hstat : (Cond.static y).before args s = true) (hinit : (Cond.initialized y.cls).before args s = true)
    (hcode : (Cond.codeWith y bytes maxL ret hh).before args s = true) (hy : y.cls ≠ "java/lang/invoke/MethodHandle" ∧ y.cls ≠ "java/lang/invoke/VarHandle")
    {W9 : Nat} {Pre : Pt → Array Value → Prop} {Post : Pt → Array Value → Option Value → Pt → Prop} {PostX : Pt → Array Value → Addr → Pt → Prop} (hK : vx_Back l R p e below s args y 3 W9 Pre Post PostX)
    {g : JFrame} (hg : g.method = m) (hsize : g.locals.size = c.maxLocals) {argsL rest : List Value} (hlen : ∀ sig, parseMethodDescriptor y.desc = some sig → argsL.length = sig.parameters.length)
    (hstack : g.stack = argsL.reverse ++ rest) (hW : 2 * g.monitorRoom + (rest.map fun v => v.category).sum ≤ W9) (hdg : decode c.code g.pc = .ok (.invokestatic index, 3))
    (hpre : ∀ vm₁, s.WarmedH vm₁ → Pre ⟨T.setVm vm₁, locs, cells, slots⟩ argsL.toArray) :
    (∃ (v : Option Value) (vm₁ : Vm) (B : Pt), s.WarmedH vm₁ ∧ Stand p l e R s m args below meth c B.U B.locs B.cells B.slots ∧ Post ⟨T.setVm vm₁, locs, cells, slots⟩ argsL.toArray v B ∧
      ∀ target, Steps p.tables e below (B.U.setTop { g with pc := g.pc + 3, stack := v.toList ++ rest }) target → Steps p.tables e below (T.setTop g) target) ∨
    (∃ (q : Addr) (vm₁ : Vm) (B : Pt), s.WarmedH vm₁ ∧ Stand p l e R s m args below meth c B.U B.locs B.cells B.slots ∧ PostX ⟨T.setVm vm₁, locs, cells, slots⟩ argsL.toArray q B ∧
      Steps p.tables e below (T.setTop g) ((B.U.setTop { g with stack := rest }).pushFrame (.throwing q))) := by
  obtain ⟨mk, methM, cM, hnamed, hmethM, -, -, -, -, -, -, hsigM⟩ := Cond.codeWith_spec hcode
  have hstatic : methM.isStatic = true := Cond.static_spec hnamed hmethM hstat
  obtain ⟨kP, hkP, -⟩ := className_of_methodNamed hnamed
  have hinitP : kP.init = .initialized := Cond.initialized_spec (findClass_of_methodNamed hnamed) hkP hinit
  obtain ⟨vm₁, X₁, hstep₁⟩ := X.invokestatic hexec hown hlink hnamed hmethM hstatic hkP hinitP hy (g := g) hg (argsL := argsL) (rest := rest) (hlen _ hsigM) hstack hdg
  rcases hK m meth c ⟨T.setVm vm₁, locs, cells, slots⟩ { g with stack := rest } (.invokestatic index) mk argsL.toArray X₁ hg hsize hdg hW (X₁.named hnamed) (hpre vm₁ X₁.warmed) with ⟨v, B, X', hpost, hsteps⟩ | ⟨q, B, X', hpost, hsteps⟩
  · exact Or.inl ⟨v, vm₁, B, X₁.warmed, X', hpost, fun target h => hstep₁ _ fun acts => by rw [doInvoke_state]; exact hsteps.trans h⟩
  · exact Or.inr ⟨q, vm₁, B, X₁.warmed, X', hpost, hstep₁ _ fun acts => by rw [doInvoke_state]; exact hsteps⟩
theorem vx_callVW (X : Stand p l e R s m args below meth c T locs cells slots) (hexec : p.tables.exec = Jvm.exec) {own C : String} {index : Nat} {y : MethodName} {bytes : ByteArray} {maxL : Nat} {ret : Option FieldType} {hh : List (Nat × Nat × Nat × Nat)}
    (hown : s.vm.findClass own = some m.cls) (hlink : (Cond.methodLink own index y).before args s = true) (hinst : (Cond.instanceMethod y).before args s = true) (hsel : (Cond.selects C y y).before args s = true)
    (hcode : (Cond.codeWith y bytes maxL ret hh).before args s = true) (hy : y.cls ≠ "java/lang/invoke/MethodHandle" ∧ y.cls ≠ "java/lang/invoke/VarHandle")
    {W9 : Nat} {Pre : Pt → Array Value → Prop} {Post : Pt → Array Value → Option Value → Pt → Prop} (hK : Back l R p e below s args y 3 W9 Pre Post)
    {b : Addr} {cellB : Cell} (hcell : T.heap[b]? = some cellB) (hobj : cellB.vm.isStatics = false) (hcls : s.vm.findClass C = some cellB.cls)
    {g : JFrame} (hg : g.method = m) (hsize : g.locals.size = c.maxLocals) {argsL rest : List Value} (hlen : ∀ sig, parseMethodDescriptor y.desc = some sig → argsL.length = sig.parameters.length)
    (hstack : g.stack = argsL.reverse ++ .ref b :: rest) (hW : 2 * g.monitorRoom + (rest.map fun v => v.category).sum ≤ W9) (hdg : decode c.code g.pc = .ok (.invokevirtual index, 3))
    (hpre : ∀ vm₁, s.WarmedH vm₁ → Pre ⟨T.setVm vm₁, locs, cells, slots⟩ (Value.ref b :: argsL).toArray) :
    ∃ (v : Option Value) (vm₁ : Vm) (B : Pt), s.WarmedH vm₁ ∧ Stand p l e R s m args below meth c B.U B.locs B.cells B.slots ∧ Post ⟨T.setVm vm₁, locs, cells, slots⟩ (Value.ref b :: argsL).toArray v B ∧
      ∀ target, Steps p.tables e below (B.U.setTop { g with pc := g.pc + 3, stack := v.toList ++ rest }) target → Steps p.tables e below (T.setTop g) target := by
  obtain ⟨mk, methM, hnamed, hmethM, hstM, habM⟩ := Cond.instanceMethod_spec hinst
  obtain ⟨m8, methM', cM, hn8, hmethM', -, -, -, -, -, -, hsigM⟩ := Cond.codeWith_spec hcode
  cases Option.some.inj (hn8.symm.trans hnamed)
  cases hmethM.symm.trans hmethM'
  obtain ⟨c2, r2, m2, q1, q2, q3, q4, kP, hkP, hkPi⟩ := Cond.selects_spec hsel
  cases hcls.symm.trans q1
  cases (State.methodFound?_of_named hnamed hy).symm.trans q2
  cases hnamed.symm.trans q3
  have hselP : selectMethod e.platform s.vm cellB.cls mk = .method mk := by rw [Launch.admits_selectMethod X.admits]; exact q4
  obtain ⟨vm₁, X₁, hstep₁⟩ := X.invokevirtual hexec hown hlink hnamed hmethM hstM hkP hkPi hy (a := b) (cell := cellB) hcell
    (fun z h => by rw [h] at hobj; cases hobj) hselP hmethM habM hkP hkPi (g := g) hg (argsL := argsL) (rest := rest) (hlen _ hsigM) hstack hdg
  obtain ⟨v, B, X', hpost, hsteps⟩ := hK m meth c ⟨T.setVm vm₁, locs, cells, slots⟩ { g with stack := rest } (.invokevirtual index) mk (Value.ref b :: argsL).toArray X₁ hg hsize hdg hW (X₁.named hnamed) (hpre vm₁ X₁.warmed)
  exact ⟨v, vm₁, B, X₁.warmed, X', hpost, fun target h => hstep₁ _ fun acts => by rw [doInvoke_state]; exact hsteps.trans h⟩
abbrev vx_CVW (R : Room) (s : State) (args : Array Value) (own C : String) (index : Nat) (y : MethodName) (bytes : ByteArray) (maxL : Nat) (ret : Option FieldType) (hh : List (Nat × Nat × Nat × Nat)) (ws : List Cond) (rm : Room) (mc ms n : Nat) : Prop :=
  (rm.cells = mc ∧ rm.slots = ms ∧ rm.frames + 1 ≤ R.frames ∧ 8 + (maxL + 11) + rm.locals ≤ R.locals ∧ (∀ w ∈ ws, ∀ (a' : Array Value) (U : State), s.WarmedH U.vm → w.before a' U = true) ∧ Cond.codeWith y bytes maxL ret hh ∈ ws) ∧
  (Cond.codeWith y bytes maxL ret hh).before args s = true ∧ (Cond.initialized y.cls).before args s = true ∧ (y.cls ≠ "java/lang/invoke/MethodHandle" ∧ y.cls ≠ "java/lang/invoke/VarHandle") ∧
  (∀ sig, parseMethodDescriptor y.desc = some sig → n = sig.parameters.length) ∧ (Cond.methodLink own index y).before args s = true ∧ (Cond.instanceMethod y).before args s = true ∧ (Cond.selects C y y).before args s = true
theorem vx_cwVW {own C : String} {index maxL mc ms : Nat} {y : MethodName} {bytes : ByteArray} {ret : Option FieldType} {hh : List (Nat × Nat × Nat × Nat)} {Ts ws ws' : List Cond} {rm : Room} (n : Nat) (ht : ∀ w ∈ Ts, w.before args s = true) (hT : GoodIn Ts (wsV own index C y ws)) (hw : ws = Cond.codeWith y bytes maxL ret hh :: ws') (hrc : rm.cells = mc) (hrs : rm.slots = ms)
    (hd : y.cls = C ∧ y.cls ≠ "java/lang/invoke/MethodHandle" ∧ y.cls ≠ "java/lang/invoke/VarHandle" ∧ (parseMethodDescriptor y.desc).map (fun d => d.parameters.length) = some n) (hR : rm.frames + 1 ≤ R.frames ∧ 8 + (maxL + 11) + rm.locals ≤ R.locals) :
    vx_CVW R s args own C index y bytes maxL ret hh ws rm mc ms n := by
  obtain ⟨hC, hd⟩ := hd
  subst hC
  have ok : ∀ w ∈ wsV own index y.cls y ws, w.before args s = true := fun w h => ht w (hT w h).1
  have hG : GoodIn Ts ws := fun w h => hT w (by unfold wsV; exact List.mem_append_right _ h)
  have hc : Cond.codeWith y bytes maxL ret hh ∈ ws := by rw [hw]; exact List.mem_cons_self
  refine ⟨⟨hrc, hrs, hR.1, hR.2, pay_in ht hG, hc⟩, ht _ (hG _ hc).1, ok _ (by simp [wsV]), ⟨hd.1, hd.2.1⟩, fun sig h => ?_, ok _ (by simp [wsV]), ok _ (by simp [wsV]), ok _ (by simp [wsV])⟩
  have h2 := hd.2.2
  rw [h] at h2
  exact (Option.some.inj h2).symm
theorem vx_runVW {y : MethodName} {bytes cc : ByteArray} {maxL nL mc ms n index : Nat} {ret : Option FieldType} {hh : List (Nat × Nat × Nat × Nat)} {ws : List Cond} {rm : Room} {Pc : Array Value → State → Prop} {Qc : Array Value → State → Outcome → State → Prop} {free : Addr → Prop} {Ts : List Cond} {own C : String} {b : Addr} {As rest : List Value} {g : JFrame}
    (S : CallFix p m c cc nL s args Ts own) (hM : Met l y ws rm Pc Qc mc ms free) (cw : vx_CVW R s args own C index y bytes maxL ret hh ws rm mc ms n) (hp : PreV s H C b Pc As)
    (hg : g.method = m) (hn : As.length = n) (hsize : g.locals.size = nL) (hstack : g.stack = As.reverse ++ .ref b :: rest) (hW : 2 * g.monitorRoom + (rest.map fun v => v.category).sum ≤ 8) (hdg : decode cc g.pc = .ok (.invokevirtual index, 3)) (hf : cells + mc ≤ R.cells ∧ slots + ms ≤ R.slots) :
    va_Run p l e R s m args below meth c H locs cells slots mc ms g rest (Qc (Value.ref b :: As).toArray) free := by
  obtain ⟨⟨hrc, hrs, hfr, hlo, hws, hcw⟩, hcode, hini, hy, hlen, hl, hin, hse⟩ := cw
  have hK : Back l R p e below s args y 3 8 (PreOf R mc ms Pc) (PostOf Qc mc ms free) := va_backW (hh := hh) (bytes := bytes) (maxL := maxL) (ret := ret) hM hp.1 hrc hrs hfr hlo hws hcw (fun a' U hW => word_at hW (Or.inl (by first | rfl | simp [Cond.onTables, Cond.keeps, Cond.steady])) hini)
  obtain ⟨hx, hb, hml, ho, -⟩ := S
  obtain ⟨-, ⟨cellB, hcB, hoB, hclB⟩, hPc⟩ := hp
  intro T hT X
  obtain ⟨v, vm₁, ⟨U', l2, c2, s2⟩, hW₁, X', ⟨g', mk, t, L, e1, e2, hq, h1, hL, h2, h3⟩, st⟩ := vx_callVW X hx (C := C) (hh := hh) (bytes := bytes) (maxL := maxL) (ret := ret) ho hl hin hse hcode hy hK (by rw [hT]; exact hcB) hoB hclB hg (hsize.trans hml.symm) (argsL := As) (rest := rest) (fun sig h => hn.trans (hlen sig h)) hstack hW (by rw [hb]; exact hdg)
    (fun vm₁ hW₁ => ⟨hf.1, hf.2, hPc (T.setVm vm₁) hT hW₁⟩)
  dsimp only [Pt.U, Pt.locs, Pt.cells, Pt.slots] at X' e1 e2 h1 h2 h3 st
  subst h1; subst h2; subst h3
  exact ⟨v, (T.setVm vm₁).calling g' mk (Value.ref b :: As).toArray, t, U', L, hT, X', hL, e1, e2, hq, st⟩
section
variable {y : MethodName} {bytes cc : ByteArray} {maxL nL mc ms n index : Nat} {ret : Option FieldType} {ws : List Cond} {rm : Room} {Pc : Array Value → State → Prop} {Qc : Array Value → State → Outcome → State → Prop} {XC : String → State → State → Prop} {free : Addr → Prop} {Ts : List Cond} {own C : String} {b : Addr} {As rest : List Value} {g : JFrame}
theorem vx_runVX {hh : List (Nat × Nat × Nat × Nat)} (S : CallFix p m c cc nL s args Ts own) (hM : vx_Met l y ws rm Pc Qc XC mc ms free) (cw : vx_CVW R s args own C index y bytes maxL ret hh ws rm mc ms n) (hp : PreV s H C b Pc As)
    (hg : g.method = m) (hn : As.length = n) (hsize : g.locals.size = nL) (hstack : g.stack = As.reverse ++ .ref b :: rest) (hW : 2 * g.monitorRoom + (rest.map fun v => v.category).sum ≤ 8) (hdg : decode cc g.pc = .ok (.invokevirtual index, 3)) (hf : cells + mc ≤ R.cells ∧ slots + ms ≤ R.slots) :
    vx_Run p l e R s m args below meth c H locs cells slots mc ms g rest (Qc (Value.ref b :: As).toArray) XC free := by
  obtain ⟨⟨hrc, hrs, hfr, hlo, hws, hcw⟩, hcode, hini, hy, hlen, hl, hin, hse⟩ := cw
  have hK : vx_Back l R p e below s args y 3 8 (PreOf R mc ms Pc) (PostOf Qc mc ms free) (vx_Post XC mc ms free) := vx_backW (hh := hh) (bytes := bytes) (maxL := maxL) (ret := ret) hM hp.1 hrc hrs hfr hlo hws hcw (fun a' U hW => word_at hW (Or.inl (by first | rfl | simp [Cond.onTables, Cond.keeps, Cond.steady])) hini)
  obtain ⟨hx, hb, hml, ho, -⟩ := S
  obtain ⟨-, ⟨cellB, hcB, hoB, hclB⟩, hPc⟩ := hp
  intro T hT X
  rcases vx_callVX X hx (C := C) (hh := hh) (bytes := bytes) (maxL := maxL) (ret := ret) ho hl hin hse hcode hy hK (by rw [hT]; exact hcB) hoB hclB hg (hsize.trans hml.symm) (argsL := As) (rest := rest) (fun sig h => hn.trans (hlen sig h)) hstack hW (by rw [hb]; exact hdg)
    (fun vm₁ hW₁ => ⟨hf.1, hf.2, hPc (T.setVm vm₁) hT hW₁⟩) with ⟨v, vm₁, ⟨U', l2, c2, s2⟩, hW₁, X', ⟨g', mk, t, L, e1, e2, hq, h1, hL, h2, h3⟩, st⟩ | ⟨q, vm₁, ⟨U', l2, c2, s2⟩, hW₁, X', ⟨g', mk, t, L, E, ce, e1, e2, hq, hce, hcv, hcl, h1, hL, h2, h3⟩, st⟩
  · dsimp only [Pt.U, Pt.locs, Pt.cells, Pt.slots] at X' e1 e2 h1 h2 h3 st
    subst h1; subst h2; subst h3
    exact Or.inl ⟨v, (T.setVm vm₁).calling g' mk (Value.ref b :: As).toArray, t, U', L, hT, X', hL, e1, e2, hq, st⟩
  · dsimp only [Pt.U, Pt.locs, Pt.cells, Pt.slots] at X' e1 e2 h1 h2 h3 st hcl
    subst h1; subst h2; subst h3
    exact Or.inr ⟨q, (T.setVm vm₁).calling g' mk (Value.ref b :: As).toArray, t, U', L, E, ce, hT, X', hL, e1, e2, hq, hce, hcv, vx_cls hW₁ hcl, st⟩
theorem vx_runSX {hh : List (Nat × Nat × Nat × Nat)} (S : CallFix p m c cc nL s args Ts own) (hM : vx_Met l y ws rm Pc Qc XC mc ms free) (cw : vx_CSW R s args own index y bytes maxL ret hh ws rm mc ms n) (hp : PreS s H Pc As)
    (hg : g.method = m) (hn : As.length = n) (hsize : g.locals.size = nL) (hstack : g.stack = As.reverse ++ rest) (hW : 2 * g.monitorRoom + (rest.map fun v => v.category).sum ≤ 8) (hdg : decode cc g.pc = .ok (.invokestatic index, 3)) (hf : cells + mc ≤ R.cells ∧ slots + ms ≤ R.slots) :
    vx_Run p l e R s m args below meth c H locs cells slots mc ms g rest (Qc As.toArray) XC free := by
  obtain ⟨⟨hrc, hrs, hfr, hlo, hws, hcw⟩, hcode, hini, hy, hlen, hl, hstt⟩ := cw
  have hK : vx_Back l R p e below s args y 3 8 (PreOf R mc ms Pc) (PostOf Qc mc ms free) (vx_Post XC mc ms free) := vx_backW (hh := hh) (bytes := bytes) (maxL := maxL) (ret := ret) hM hp.1 hrc hrs hfr hlo hws hcw (fun a' U hW => word_at hW (Or.inl (by first | rfl | simp [Cond.onTables, Cond.keeps, Cond.steady])) hini)
  obtain ⟨hx, hb, hml, ho, -⟩ := S
  intro T hT X
  rcases vx_callSX X hx (hh := hh) (bytes := bytes) (maxL := maxL) (ret := ret) ho hl hstt hini hcode hy hK hg (hsize.trans hml.symm) (argsL := As) (rest := rest) (fun sig h => hn.trans (hlen sig h)) hstack hW (by rw [hb]; exact hdg)
    (fun vm₁ hW₁ => ⟨hf.1, hf.2, hp.2 (T.setVm vm₁) hT hW₁⟩) with ⟨v, vm₁, ⟨U', l2, c2, s2⟩, hW₁, X', ⟨g', mk, t, L, e1, e2, hq, h1, hL, h2, h3⟩, st⟩ | ⟨q, vm₁, ⟨U', l2, c2, s2⟩, hW₁, X', ⟨g', mk, t, L, E, ce, e1, e2, hq, hce, hcv, hcl, h1, hL, h2, h3⟩, st⟩
  · dsimp only [Pt.U, Pt.locs, Pt.cells, Pt.slots] at X' e1 e2 h1 h2 h3 st
    subst h1; subst h2; subst h3
    exact Or.inl ⟨v, (T.setVm vm₁).calling g' mk As.toArray, t, U', L, hT, X', hL, e1, e2, hq, st⟩
  · dsimp only [Pt.U, Pt.locs, Pt.cells, Pt.slots] at X' e1 e2 h1 h2 h3 st hcl
    subst h1; subst h2; subst h3
    exact Or.inr ⟨q, (T.setVm vm₁).calling g' mk As.toArray, t, U', L, E, ce, hT, X', hL, e1, e2, hq, hce, hcv, vx_cls hW₁ hcl, st⟩
end
end VXH
theorem vx_ofWH {l : Launch} {y : MethodName} {ws ws' : List Cond} {rm : Room} {Pc : Array Value → State → Prop} {Qc : Array Value → State → Outcome → State → Prop} {XC : String → State → State → Prop} {mc ms : Nat} {free : Addr → Prop} {cc : ByteArray} {maxL : Nat} {ret : Option FieldType} {hh : List (Nat × Nat × Nat × Nat)}
    (hy : plainName y.cls = true) (hw : ws = Cond.codeWith y cc maxL ret hh :: ws')
    (body : ∀ p e s m args below meth c s₁, BodyLoose p l y (headSpec ws rm) cc maxL ret e s m args below meth c s₁ → c.maxLocals = maxL → Pc args s →
      W p l e (headSpec ws rm).room s m args below meth c s.heap [] 0 0 (vx_MQ below Qc XC args s mc ms free) (entryFrame m args maxL)) : vx_Met l y ws rm Pc Qc XC mc ms free := by
  refine MetFree.of_bodyS (code := cc) (maxLocals := maxL) (ret := ret) hy ?_ ?_
  · intro args s m h hn
    obtain ⟨m9, meth, c, hn9, h1, h2, h3, h4, -, h5, h6, -⟩ := Cond.codeWith_spec (atoms_spec (ws := ws) h _ (by rw [hw]; exact List.mem_cons_self))
    cases hn.symm.trans hn9
    exact ⟨meth, c, h1, h2, h3, h4, h5, h6⟩
  · intro p e s m args below meth c s₁ B hml hP _
    have hh0 : s₁.heap = s.heap := by rw [B.state]; rfl
    obtain ⟨t, a1, o, b1, b2, b3⟩ := body p e s m args below meth c s₁ B hml hP s₁ hh0 (Stand.of_body B)
    exact ⟨t, o, a1, b1, b2, b3⟩
/-! ===== END ===== -/
end
section
def RX0 : String := "Classfederation$Offer"
def TX0 : u_T := fun k => match k with
  | 0 => ("Classfederation$Offer", "exam", "I", false)
  | 1 => ("Classfederation$Offer", "slot", "I", false)
  | 2 => ("Classfederation$Offer", "room", "I", false)
  | 3 => ("Classfederation$Offer", "seats", "I", false)
  | 4 => ("Classfederation$Offer", "isResit", "Z", false)
  | 5 => ("Classfederation$Offer", "paidBy", "[I", true)
  | 6 => ("Classfederation$Offer", "waiters", "[I", true)
  | 7 => ("Classfederation$Offer", "waiterPoints", "[I", true)
  | _ => ("Classfederation$Offer", "waiterCount", "I", false)
def tyX0 : Nat → FieldType := fun k => match k with
  | 0 => .int
  | 1 => .int
  | 2 => .int
  | 3 => .int
  | 4 => .boolean
  | 5 => .array .int
  | 6 => .array .int
  | 7 => .array .int
  | _ => .int
abbrev wsX00 : List Cond := u_ws RX0 TX0 9
theorem nmX0 : ∀ a, a < 9 → ∀ b, b < 9 → a ≠ b → (TX0 a).2.1 ≠ (TX0 b).2.1 := by decide +kernel
theorem tyX0_ok : ∀ k, k < 9 → parseFieldDescriptor (TX0 k).2.2.1 = some (tyX0 k) := by decide +kernel
abbrev cX0_init : ByteArray := prog_2_method_1_code
def yX0_init : MethodName := ⟨RX0, "<init>", "()V"⟩
abbrev cX0_open : ByteArray := prog_2_method_2_code
def yX0_open : MethodName := ⟨RX0, "open", "(IIIIZ)V"⟩
abbrev cX0_isOf : ByteArray := prog_2_method_3_code
def yX0_isOf : MethodName := ⟨RX0, "isOf", "(IZ)Z"⟩
abbrev cX0_hasSeated : ByteArray := prog_2_method_4_code
def yX0_hasSeated : MethodName := ⟨RX0, "hasSeated", "(I)Z"⟩
abbrev cX0_countTaken : ByteArray := prog_2_method_5_code
def yX0_countTaken : MethodName := ⟨RX0, "countTaken", "()I"⟩
abbrev cX0_isFull : ByteArray := prog_2_method_6_code
def yX0_isFull : MethodName := ⟨RX0, "isFull", "()Z"⟩
abbrev cX0_pupilSeated : ByteArray := prog_2_method_7_code
def yX0_pupilSeated : MethodName := ⟨RX0, "pupilSeated", "(I)I"⟩
abbrev cX0_unseat : ByteArray := prog_2_method_8_code
def yX0_unseat : MethodName := ⟨RX0, "unseat", "(I)I"⟩
abbrev cX0_placeInQueue : ByteArray := prog_2_method_9_code
def yX0_placeInQueue : MethodName := ⟨RX0, "placeInQueue", "(I)I"⟩
abbrev cX0_letWait : ByteArray := prog_2_method_10_code
def yX0_letWait : MethodName := ⟨RX0, "letWait", "(II)V"⟩
abbrev cX0_letWaitNoMore : ByteArray := prog_2_method_11_code
def yX0_letWaitNoMore : MethodName := ⟨RX0, "letWaitNoMore", "(I)V"⟩
abbrev cX0_hasSeatedWaiter : ByteArray := prog_2_method_12_code
def yX0_hasSeatedWaiter : MethodName := ⟨RX0, "hasSeatedWaiter", "()Z"⟩
def RX1 : String := "Classfederation$Records"
def TX1 : u_T := fun k => match k with
  | 0 => ("Classfederation$Records", "values", "[[I", true)
  | _ => ("Classfederation$Records", "owners", "[I", true)
def tyX1 : Nat → FieldType := fun k => match k with
  | 0 => .array (.array .int)
  | _ => .array .int
abbrev wsX10 : List Cond := u_ws RX1 TX1 2
theorem nmX1 : ∀ a, a < 2 → ∀ b, b < 2 → a ≠ b → (TX1 a).2.1 ≠ (TX1 b).2.1 := by decide +kernel
theorem tyX1_ok : ∀ k, k < 2 → parseFieldDescriptor (TX1 k).2.2.1 = some (tyX1 k) := by decide +kernel
abbrev cX1_init : ByteArray := prog_3_method_1_code
def yX1_init : MethodName := ⟨RX1, "<init>", "()V"⟩
abbrev cX1_rowOf : ByteArray := prog_3_method_2_code
def yX1_rowOf : MethodName := ⟨RX1, "rowOf", "(II)I"⟩
abbrev cX1_cellOf : ByteArray := prog_3_method_3_code
def yX1_cellOf : MethodName := ⟨RX1, "cellOf", "(II)I"⟩
abbrev cX1_isInRange : ByteArray := prog_3_method_4_code
def yX1_isInRange : MethodName := ⟨RX1, "isInRange", "(II)Z"⟩
abbrev cX1_valueIn : ByteArray := prog_3_method_5_code
def yX1_valueIn : MethodName := ⟨RX1, "valueIn", "(IIII)I"⟩
abbrev cX1_valueByOwner : ByteArray := prog_3_method_6_code
def yX1_valueByOwner : MethodName := ⟨RX1, "valueByOwner", "(III)I"⟩
abbrev cX1_put : ByteArray := prog_3_method_7_code
def yX1_put : MethodName := ⟨RX1, "put", "(IIIII)V"⟩
abbrev cX1_copyOwned : ByteArray := prog_3_method_8_code
def yX1_copyOwned : MethodName := ⟨RX1, "copyOwned", "(II)I"⟩
abbrev cX1_copyRow : ByteArray := prog_3_method_9_code
def yX1_copyRow : MethodName := ⟨RX1, "copyRow", "([I[I)I"⟩
abbrev cX1_areSame : ByteArray := prog_3_method_10_code
def yX1_areSame : MethodName := ⟨RX1, "areSame", "(III)Z"⟩
abbrev cX1_isAgreed : ByteArray := prog_3_method_11_code
def yX1_isAgreed : MethodName := ⟨RX1, "isAgreed", "(II)Z"⟩
abbrev cX1_countApart : ByteArray := prog_3_method_12_code
def yX1_countApart : MethodName := ⟨RX1, "countApart", "(I)I"⟩
abbrev cX1_isRightGiven : ByteArray := prog_3_method_13_code
def yX1_isRightGiven : MethodName := ⟨RX1, "isRightGiven", "(II)Z"⟩
abbrev cX1_isResitOpen : ByteArray := prog_3_method_14_code
def yX1_isResitOpen : MethodName := ⟨RX1, "isResitOpen", "(II)Z"⟩
def RX2 : String := "Classfederation$Round"
def TX2 : u_T := fun k => match k with
  | 0 => ("Classfederation$Round", "pupils", "[I", true)
  | 1 => ("Classfederation$Round", "offers", "[I", true)
  | 2 => ("Classfederation$Round", "points", "[I", true)
  | _ => ("Classfederation$Round", "count", "I", false)
def tyX2 : Nat → FieldType := fun k => match k with
  | 0 => .array .int
  | 1 => .array .int
  | 2 => .array .int
  | _ => .int
abbrev wsX20 : List Cond := u_ws RX2 TX2 4
theorem nmX2 : ∀ a, a < 4 → ∀ b, b < 4 → a ≠ b → (TX2 a).2.1 ≠ (TX2 b).2.1 := by decide +kernel
theorem tyX2_ok : ∀ k, k < 4 → parseFieldDescriptor (TX2 k).2.2.1 = some (tyX2 k) := by decide +kernel
abbrev cX2_init : ByteArray := prog_4_method_1_code
def yX2_init : MethodName := ⟨RX2, "<init>", "()V"⟩
abbrev cX2_placeOf : ByteArray := prog_4_method_2_code
def yX2_placeOf : MethodName := ⟨RX2, "placeOf", "(II)I"⟩
abbrev cX2_pointsBid : ByteArray := prog_4_method_3_code
def yX2_pointsBid : MethodName := ⟨RX2, "pointsBid", "(II)I"⟩
abbrev cX2_sumOf : ByteArray := prog_4_method_4_code
def yX2_sumOf : MethodName := ⟨RX2, "sumOf", "(I)I"⟩
abbrev cX2_tell : ByteArray := prog_4_method_5_code
def yX2_tell : MethodName := ⟨RX2, "tell", "(III)V"⟩
abbrev cX2_takeOut : ByteArray := prog_4_method_6_code
def yX2_takeOut : MethodName := ⟨RX2, "takeOut", "(II)V"⟩
def RX3 : String := "Classfederation"
def TX3 : u_T := fun k => match k with
  | 0 => ("Classfederation", "records", "LClassfederation$Records;", true)
  | 1 => ("Classfederation", "round", "LClassfederation$Round;", true)
  | 2 => ("Classfederation", "offers", "[LClassfederation$Offer;", true)
  | 3 => ("Classfederation", "seatsOfRoom", "[I", true)
  | 4 => ("Classfederation", "pointsLeft", "[I", true)
  | 5 => ("Classfederation", "forfeited", "[I", true)
  | 6 => ("Classfederation", "slotWasSat", "[Z", true)
  | 7 => ("Classfederation", "roomCount", "I", false)
  | 8 => ("Classfederation", "examCount", "I", false)
  | 9 => ("Classfederation", "pupilCount", "I", false)
  | 10 => ("Classfederation", "offerCount", "I", false)
  | 11 => ("Classfederation", "settledRounds", "I", false)
  | _ => ("Classfederation", "refundSum", "I", false)
def tyX3 : Nat → FieldType := fun k => match k with
  | 0 => .object "Classfederation$Records"
  | 1 => .object "Classfederation$Round"
  | 2 => .array (.object "Classfederation$Offer")
  | 3 => .array .int
  | 4 => .array .int
  | 5 => .array .int
  | 6 => .array .boolean
  | 7 => .int
  | 8 => .int
  | 9 => .int
  | 10 => .int
  | 11 => .int
  | _ => .int
abbrev wsX30 : List Cond := u_ws RX3 TX3 13
theorem nmX3 : ∀ a, a < 13 → ∀ b, b < 13 → a ≠ b → (TX3 a).2.1 ≠ (TX3 b).2.1 := by decide +kernel
theorem tyX3_ok : ∀ k, k < 13 → parseFieldDescriptor (TX3 k).2.2.1 = some (tyX3 k) := by decide +kernel
abbrev cX3_init : ByteArray := prog_1_method_1_code
def yX3_init : MethodName := ⟨RX3, "<init>", "()V"⟩
abbrev cX3_room : ByteArray := prog_1_method_2_code
def yX3_room : MethodName := ⟨RX3, "room", "(I)I"⟩
abbrev cX3_exam : ByteArray := prog_1_method_3_code
def yX3_exam : MethodName := ⟨RX3, "exam", "()I"⟩
abbrev cX3_pupil : ByteArray := prog_1_method_4_code
def yX3_pupil : MethodName := ⟨RX3, "pupil", "()I"⟩
abbrev cX3_offer : ByteArray := prog_1_method_5_code
def yX3_offer : MethodName := ⟨RX3, "offer", "(IIIZ)I"⟩
abbrev cX3_slotOf : ByteArray := prog_1_method_6_code
def yX3_slotOf : MethodName := ⟨RX3, "slotOf", "(I)I"⟩
abbrev cX3_bid : ByteArray := prog_1_method_7_code
def yX3_bid : MethodName := ⟨RX3, "bid", "(III)I"⟩
abbrev cX3_unbid : ByteArray := prog_1_method_8_code
def yX3_unbid : MethodName := ⟨RX3, "unbid", "(II)I"⟩
abbrev cX3_bids : ByteArray := prog_1_method_9_code
def yX3_bids : MethodName := ⟨RX3, "bids", "()I"⟩
abbrev cX3_settle : ByteArray := prog_1_method_10_code
def yX3_settle : MethodName := ⟨RX3, "settle", "()I"⟩
abbrev cX3_rounds : ByteArray := prog_1_method_11_code
def yX3_rounds : MethodName := ⟨RX3, "rounds", "()I"⟩
abbrev cX3_points : ByteArray := prog_1_method_12_code
def yX3_points : MethodName := ⟨RX3, "points", "(I)I"⟩
abbrev cX3_seat : ByteArray := prog_1_method_13_code
def yX3_seat : MethodName := ⟨RX3, "seat", "(IIZ)I"⟩
abbrev cX3_at : ByteArray := prog_1_method_14_code
def yX3_at : MethodName := ⟨RX3, "at", "(II)I"⟩
abbrev cX3_holders : ByteArray := prog_1_method_15_code
def yX3_holders : MethodName := ⟨RX3, "holders", "(I)I"⟩
abbrev cX3_holder : ByteArray := prog_1_method_16_code
def yX3_holder : MethodName := ⟨RX3, "holder", "(II)I"⟩
abbrev cX3_paid : ByteArray := prog_1_method_17_code
def yX3_paid : MethodName := ⟨RX3, "paid", "(II)I"⟩
abbrev cX3_waiting : ByteArray := prog_1_method_18_code
def yX3_waiting : MethodName := ⟨RX3, "waiting", "(I)I"⟩
abbrev cX3_waiter : ByteArray := prog_1_method_19_code
def yX3_waiter : MethodName := ⟨RX3, "waiter", "(II)I"⟩
abbrev cX3_giveUp : ByteArray := prog_1_method_20_code
def yX3_giveUp : MethodName := ⟨RX3, "giveUp", "(II)I"⟩
abbrev cX3_move : ByteArray := prog_1_method_21_code
def yX3_move : MethodName := ⟨RX3, "move", "(II)I"⟩
abbrev cX3_refunds : ByteArray := prog_1_method_22_code
def yX3_refunds : MethodName := ⟨RX3, "refunds", "()I"⟩
abbrev cX3_write : ByteArray := prog_1_method_23_code
def yX3_write : MethodName := ⟨RX3, "write", "(IIICI)I"⟩
abbrev cX3_read : ByteArray := prog_1_method_24_code
def yX3_read : MethodName := ⟨RX3, "read", "(IIIC)I"⟩
abbrev cX3_sync : ByteArray := prog_1_method_25_code
def yX3_sync : MethodName := ⟨RX3, "sync", "(II)I"⟩
abbrev cX3_owner : ByteArray := prog_1_method_26_code
def yX3_owner : MethodName := ⟨RX3, "owner", "(C)I"⟩
abbrev cX3_setOwner : ByteArray := prog_1_method_27_code
def yX3_setOwner : MethodName := ⟨RX3, "setOwner", "(CI)I"⟩
abbrev cX3_apart : ByteArray := prog_1_method_28_code
def yX3_apart : MethodName := ⟨RX3, "apart", "(C)I"⟩
abbrev cX3_maySit : ByteArray := prog_1_method_29_code
def yX3_maySit : MethodName := ⟨RX3, "maySit", "(II)Z"⟩
abbrev cX3_isOpen : ByteArray := prog_1_method_30_code
def yX3_isOpen : MethodName := ⟨RX3, "isOpen", "(II)Z"⟩
abbrev cX3_sit : ByteArray := prog_1_method_31_code
def yX3_sit : MethodName := ⟨RX3, "sit", "(I)I"⟩
abbrev cX3_hasSat : ByteArray := prog_1_method_32_code
def yX3_hasSat : MethodName := ⟨RX3, "hasSat", "(IIZ)Z"⟩
abbrev cX3_more : ByteArray := prog_1_method_33_code
def yX3_more : MethodName := ⟨RX3, "more", "(II)I"⟩
abbrev cX3_takenShare : ByteArray := prog_1_method_34_code
def yX3_takenShare : MethodName := ⟨RX3, "takenShare", "()F"⟩
abbrev cX3_meanPoints : ByteArray := prog_1_method_35_code
def yX3_meanPoints : MethodName := ⟨RX3, "meanPoints", "()D"⟩
abbrev cX3_isTrue : ByteArray := prog_1_method_36_code
def yX3_isTrue : MethodName := ⟨RX3, "isTrue", "()Z"⟩
abbrev cX3_needPupil : ByteArray := prog_1_method_37_code
def yX3_needPupil : MethodName := ⟨RX3, "needPupil", "(I)V"⟩
abbrev cX3_needExam : ByteArray := prog_1_method_38_code
def yX3_needExam : MethodName := ⟨RX3, "needExam", "(I)V"⟩
abbrev cX3_needOffer : ByteArray := prog_1_method_39_code
def yX3_needOffer : MethodName := ⟨RX3, "needOffer", "(I)V"⟩
abbrev cX3_offerNumbered : ByteArray := prog_1_method_40_code
def yX3_offerNumbered : MethodName := ⟨RX3, "offerNumbered", "(I)LClassfederation$Offer;"⟩
abbrev cX3_needStore : ByteArray := prog_1_method_41_code
def yX3_needStore : MethodName := ⟨RX3, "needStore", "(I)V"⟩
abbrev cX3_needSlot : ByteArray := prog_1_method_42_code
def yX3_needSlot : MethodName := ⟨RX3, "needSlot", "(I)V"⟩
abbrev cX3_fieldNumbered : ByteArray := prog_1_method_43_code
def yX3_fieldNumbered : MethodName := ⟨RX3, "fieldNumbered", "(C)I"⟩
abbrev cX3_isClosed : ByteArray := prog_1_method_44_code
def yX3_isClosed : MethodName := ⟨RX3, "isClosed", "(LClassfederation$Offer;)Z"⟩
abbrev cX3_isRoomTaken : ByteArray := prog_1_method_45_code
def yX3_isRoomTaken : MethodName := ⟨RX3, "isRoomTaken", "(II)Z"⟩
abbrev cX3_offerHeldFor : ByteArray := prog_1_method_46_code
def yX3_offerHeldFor : MethodName := ⟨RX3, "offerHeldFor", "(IIZ)I"⟩
abbrev cX3_offerHeldAt : ByteArray := prog_1_method_47_code
def yX3_offerHeldAt : MethodName := ⟨RX3, "offerHeldAt", "(II)I"⟩
abbrev cX3_examHeldAt : ByteArray := prog_1_method_48_code
def yX3_examHeldAt : MethodName := ⟨RX3, "examHeldAt", "(II)I"⟩
abbrev cX3_mayHaveSeat : ByteArray := prog_1_method_49_code
def yX3_mayHaveSeat : MethodName := ⟨RX3, "mayHaveSeat", "(ILClassfederation$Offer;)Z"⟩
abbrev cX3_needsOnlySeat : ByteArray := prog_1_method_50_code
def yX3_needsOnlySeat : MethodName := ⟨RX3, "needsOnlySeat", "(ILClassfederation$Offer;I)Z"⟩
abbrev cX3_isSeatWon : ByteArray := prog_1_method_51_code
def yX3_isSeatWon : MethodName := ⟨RX3, "isSeatWon", "(ILClassfederation$Offer;I)Z"⟩
abbrev cX3_giveSeat : ByteArray := prog_1_method_52_code
def yX3_giveSeat : MethodName := ⟨RX3, "giveSeat", "(ILClassfederation$Offer;I)V"⟩
abbrev cX3_payBack : ByteArray := prog_1_method_53_code
def yX3_payBack : MethodName := ⟨RX3, "payBack", "(II)V"⟩
abbrev cX3_moveOneUp : ByteArray := prog_1_method_54_code
def yX3_moveOneUp : MethodName := ⟨RX3, "moveOneUp", "(LClassfederation$Offer;)I"⟩
abbrev cX3_moveAllUp : ByteArray := prog_1_method_55_code
def yX3_moveAllUp : MethodName := ⟨RX3, "moveAllUp", "(LClassfederation$Offer;)V"⟩
abbrev cX3_isSeatLostByMove : ByteArray := prog_1_method_56_code
def yX3_isSeatLostByMove : MethodName := ⟨RX3, "isSeatLostByMove", "(ILClassfederation$Offer;I)Z"⟩
abbrev cX3_letSit : ByteArray := prog_1_method_57_code
def yX3_letSit : MethodName := ⟨RX3, "letSit", "(LClassfederation$Offer;)I"⟩
abbrev cX3_hasSeatsThatClash : ByteArray := prog_1_method_58_code
def yX3_hasSeatsThatClash : MethodName := ⟨RX3, "hasSeatsThatClash", "(I)Z"⟩
abbrev cX3_arePointsWhole : ByteArray := prog_1_method_59_code
def yX3_arePointsWhole : MethodName := ⟨RX3, "arePointsWhole", "(I)Z"⟩
abbrev cX3_isRoomShared : ByteArray := prog_1_method_60_code
def yX3_isRoomShared : MethodName := ⟨RX3, "isRoomShared", "(I)Z"⟩
def RX4 : String := "ClassfederationModel"
def TX4 : u_T := fun k => match k with
  | 0 => ("ClassfederationModel", "thrown", "I", false)
  | 1 => ("ClassfederationModel", "rooms", "I", false)
  | 2 => ("ClassfederationModel", "exams", "I", false)
  | 3 => ("ClassfederationModel", "pupils", "I", false)
  | 4 => ("ClassfederationModel", "offers", "I", false)
  | 5 => ("ClassfederationModel", "rounds", "I", false)
  | 6 => ("ClassfederationModel", "refunds", "I", false)
  | 7 => ("ClassfederationModel", "told", "I", false)
  | 8 => ("ClassfederationModel", "seats", "[I", true)
  | 9 => ("ClassfederationModel", "exam", "[I", true)
  | 10 => ("ClassfederationModel", "slot", "[I", true)
  | 11 => ("ClassfederationModel", "room", "[I", true)
  | 12 => ("ClassfederationModel", "isResit", "[Z", true)
  | 13 => ("ClassfederationModel", "waiting", "[I", true)
  | 14 => ("ClassfederationModel", "waiter", "[I", true)
  | 15 => ("ClassfederationModel", "waits", "[I", true)
  | 16 => ("ClassfederationModel", "bid", "[I", true)
  | 17 => ("ClassfederationModel", "when", "[I", true)
  | 18 => ("ClassfederationModel", "paid", "[I", true)
  | 19 => ("ClassfederationModel", "value", "[I", true)
  | 20 => ("ClassfederationModel", "owner", "[I", true)
  | 21 => ("ClassfederationModel", "points", "[I", true)
  | 22 => ("ClassfederationModel", "isSat", "[Z", true)
  | _ => ("ClassfederationModel", "hasSat", "[Z", true)
def tyX4 : Nat → FieldType := fun k => match k with
  | 0 => .int
  | 1 => .int
  | 2 => .int
  | 3 => .int
  | 4 => .int
  | 5 => .int
  | 6 => .int
  | 7 => .int
  | 8 => .array .int
  | 9 => .array .int
  | 10 => .array .int
  | 11 => .array .int
  | 12 => .array .boolean
  | 13 => .array .int
  | 14 => .array .int
  | 15 => .array .int
  | 16 => .array .int
  | 17 => .array .int
  | 18 => .array .int
  | 19 => .array .int
  | 20 => .array .int
  | 21 => .array .int
  | 22 => .array .boolean
  | _ => .array .boolean
abbrev wsX40 : List Cond := u_ws RX4 TX4 24
theorem nmX4 : ∀ a, a < 24 → ∀ b, b < 24 → a ≠ b → (TX4 a).2.1 ≠ (TX4 b).2.1 := by decide +kernel
theorem tyX4_ok : ∀ k, k < 24 → parseFieldDescriptor (TX4 k).2.2.1 = some (tyX4 k) := by decide +kernel
abbrev cX4_init : ByteArray := prog_6_method_1_code
def yX4_init : MethodName := ⟨RX4, "<init>", "()V"⟩
abbrev cX4_thrown : ByteArray := prog_6_method_2_code
def yX4_thrown : MethodName := ⟨RX4, "thrown", "()I"⟩
abbrev cX4_in : ByteArray := prog_6_method_3_code
def yX4_in : MethodName := ⟨RX4, "in", "(III)Z"⟩
abbrev cX4_isPupil : ByteArray := prog_6_method_4_code
def yX4_isPupil : MethodName := ⟨RX4, "isPupil", "(I)Z"⟩
abbrev cX4_isExam : ByteArray := prog_6_method_5_code
def yX4_isExam : MethodName := ⟨RX4, "isExam", "(I)Z"⟩
abbrev cX4_isOffer : ByteArray := prog_6_method_6_code
def yX4_isOffer : MethodName := ⟨RX4, "isOffer", "(I)Z"⟩
abbrev cX4_isStore : ByteArray := prog_6_method_7_code
def yX4_isStore : MethodName := ⟨RX4, "isStore", "(I)Z"⟩
abbrev cX4_isSlot : ByteArray := prog_6_method_8_code
def yX4_isSlot : MethodName := ⟨RX4, "isSlot", "(I)Z"⟩
abbrev cX4_fieldOf : ByteArray := prog_6_method_9_code
def yX4_fieldOf : MethodName := ⟨RX4, "fieldOf", "(C)I"⟩
abbrev cX4_cell : ByteArray := prog_6_method_10_code
def yX4_cell : MethodName := ⟨RX4, "cell", "(IIII)I"⟩
abbrev cX4_pair : ByteArray := prog_6_method_11_code
def yX4_pair : MethodName := ⟨RX4, "pair", "(II)I"⟩
abbrev cX4_room : ByteArray := prog_6_method_12_code
def yX4_room : MethodName := ⟨RX4, "room", "(I)I"⟩
abbrev cX4_exam : ByteArray := prog_6_method_13_code
def yX4_exam : MethodName := ⟨RX4, "exam", "()I"⟩
abbrev cX4_pupil : ByteArray := prog_6_method_14_code
def yX4_pupil : MethodName := ⟨RX4, "pupil", "()I"⟩
abbrev cX4_isTaken : ByteArray := prog_6_method_15_code
def yX4_isTaken : MethodName := ⟨RX4, "isTaken", "(II)Z"⟩
abbrev cX4_offer : ByteArray := prog_6_method_16_code
def yX4_offer : MethodName := ⟨RX4, "offer", "(IIIZ)I"⟩
abbrev cX4_bid : ByteArray := prog_6_method_17_code
def yX4_bid : MethodName := ⟨RX4, "bid", "(III)I"⟩
abbrev cX4_unbid : ByteArray := prog_6_method_18_code
def yX4_unbid : MethodName := ⟨RX4, "unbid", "(II)I"⟩
abbrev cX4_bids : ByteArray := prog_6_method_19_code
def yX4_bids : MethodName := ⟨RX4, "bids", "()I"⟩
abbrev cX4_agree : ByteArray := prog_6_method_20_code
def yX4_agree : MethodName := ⟨RX4, "agree", "(III)Z"⟩
abbrev cX4_sits : ByteArray := prog_6_method_21_code
def yX4_sits : MethodName := ⟨RX4, "sits", "(II)Z"⟩
abbrev cX4_opens : ByteArray := prog_6_method_22_code
def yX4_opens : MethodName := ⟨RX4, "opens", "(II)Z"⟩
abbrev cX4_can : ByteArray := prog_6_method_23_code
def yX4_can : MethodName := ⟨RX4, "can", "(II)Z"⟩
abbrev cX4_isLike : ByteArray := prog_6_method_24_code
def yX4_isLike : MethodName := ⟨RX4, "isLike", "(II)Z"⟩
abbrev cX4_isFree : ByteArray := prog_6_method_25_code
def yX4_isFree : MethodName := ⟨RX4, "isFree", "(II)Z"⟩
abbrev cX4_held : ByteArray := prog_6_method_26_code
def yX4_held : MethodName := ⟨RX4, "held", "(I)I"⟩
abbrev cX4_hasSeat : ByteArray := prog_6_method_27_code
def yX4_hasSeat : MethodName := ⟨RX4, "hasSeat", "(I)Z"⟩
abbrev cX4_does : ByteArray := prog_6_method_28_code
def yX4_does : MethodName := ⟨RX4, "does", "(III)Z"⟩
abbrev cX4_placeOf : ByteArray := prog_6_method_29_code
def yX4_placeOf : MethodName := ⟨RX4, "placeOf", "(II)I"⟩
abbrev cX4_leave : ByteArray := prog_6_method_30_code
def yX4_leave : MethodName := ⟨RX4, "leave", "(II)V"⟩
abbrev cX4_give : ByteArray := prog_6_method_31_code
def yX4_give : MethodName := ⟨RX4, "give", "(III)V"⟩
abbrev cX4_nextBid : ByteArray := prog_6_method_32_code
def yX4_nextBid : MethodName := ⟨RX4, "nextBid", "()I"⟩
abbrev cX4_settle : ByteArray := prog_6_method_33_code
def yX4_settle : MethodName := ⟨RX4, "settle", "()I"⟩
abbrev cX4_rounds : ByteArray := prog_6_method_34_code
def yX4_rounds : MethodName := ⟨RX4, "rounds", "()I"⟩
abbrev cX4_points : ByteArray := prog_6_method_35_code
def yX4_points : MethodName := ⟨RX4, "points", "(I)I"⟩
abbrev cX4_seat : ByteArray := prog_6_method_36_code
def yX4_seat : MethodName := ⟨RX4, "seat", "(IIZ)I"⟩
abbrev cX4_offerAt : ByteArray := prog_6_method_37_code
def yX4_offerAt : MethodName := ⟨RX4, "offerAt", "(II)I"⟩
abbrev cX4_noneAt : ByteArray := prog_6_method_38_code
def yX4_noneAt : MethodName := ⟨RX4, "noneAt", "(II)Z"⟩
abbrev cX4_at : ByteArray := prog_6_method_39_code
def yX4_at : MethodName := ⟨RX4, "at", "(II)I"⟩
abbrev cX4_holders : ByteArray := prog_6_method_40_code
def yX4_holders : MethodName := ⟨RX4, "holders", "(I)I"⟩
abbrev cX4_holder : ByteArray := prog_6_method_41_code
def yX4_holder : MethodName := ⟨RX4, "holder", "(II)I"⟩
abbrev cX4_paid : ByteArray := prog_6_method_42_code
def yX4_paid : MethodName := ⟨RX4, "paid", "(II)I"⟩
abbrev cX4_waiting : ByteArray := prog_6_method_43_code
def yX4_waiting : MethodName := ⟨RX4, "waiting", "(I)I"⟩
abbrev cX4_waiter : ByteArray := prog_6_method_44_code
def yX4_waiter : MethodName := ⟨RX4, "waiter", "(II)I"⟩
abbrev cX4_movesUp : ByteArray := prog_6_method_45_code
def yX4_movesUp : MethodName := ⟨RX4, "movesUp", "(I)I"⟩
abbrev cX4_bring : ByteArray := prog_6_method_46_code
def yX4_bring : MethodName := ⟨RX4, "bring", "(II)V"⟩
abbrev cX4_giveUp : ByteArray := prog_6_method_47_code
def yX4_giveUp : MethodName := ⟨RX4, "giveUp", "(II)I"⟩
abbrev cX4_move : ByteArray := prog_6_method_48_code
def yX4_move : MethodName := ⟨RX4, "move", "(II)I"⟩
abbrev cX4_slotOf : ByteArray := prog_6_method_49_code
def yX4_slotOf : MethodName := ⟨RX4, "slotOf", "(I)I"⟩
abbrev cX4_refunds : ByteArray := prog_6_method_50_code
def yX4_refunds : MethodName := ⟨RX4, "refunds", "()I"⟩
abbrev cX4_noRecord : ByteArray := prog_6_method_51_code
def yX4_noRecord : MethodName := ⟨RX4, "noRecord", "(III)Z"⟩
abbrev cX4_write : ByteArray := prog_6_method_52_code
def yX4_write : MethodName := ⟨RX4, "write", "(IIICI)I"⟩
abbrev cX4_read : ByteArray := prog_6_method_53_code
def yX4_read : MethodName := ⟨RX4, "read", "(IIIC)I"⟩
abbrev cX4_sync : ByteArray := prog_6_method_54_code
def yX4_sync : MethodName := ⟨RX4, "sync", "(II)I"⟩
abbrev cX4_owner : ByteArray := prog_6_method_55_code
def yX4_owner : MethodName := ⟨RX4, "owner", "(C)I"⟩
abbrev cX4_setOwner : ByteArray := prog_6_method_56_code
def yX4_setOwner : MethodName := ⟨RX4, "setOwner", "(CI)I"⟩
abbrev cX4_apart : ByteArray := prog_6_method_57_code
def yX4_apart : MethodName := ⟨RX4, "apart", "(C)I"⟩
abbrev cX4_maySit : ByteArray := prog_6_method_58_code
def yX4_maySit : MethodName := ⟨RX4, "maySit", "(II)Z"⟩
abbrev cX4_isOpen : ByteArray := prog_6_method_59_code
def yX4_isOpen : MethodName := ⟨RX4, "isOpen", "(II)Z"⟩
abbrev cX4_satCell : ByteArray := prog_6_method_60_code
def yX4_satCell : MethodName := ⟨RX4, "satCell", "(IIZ)I"⟩
abbrev cX4_sit : ByteArray := prog_6_method_61_code
def yX4_sit : MethodName := ⟨RX4, "sit", "(I)I"⟩
abbrev cX4_hasSat : ByteArray := prog_6_method_62_code
def yX4_hasSat : MethodName := ⟨RX4, "hasSat", "(IIZ)Z"⟩
abbrev cX4_more : ByteArray := prog_6_method_63_code
def yX4_more : MethodName := ⟨RX4, "more", "(II)I"⟩
abbrev cX4_takenShare : ByteArray := prog_6_method_64_code
def yX4_takenShare : MethodName := ⟨RX4, "takenShare", "()F"⟩
abbrev cX4_meanPoints : ByteArray := prog_6_method_65_code
def yX4_meanPoints : MethodName := ⟨RX4, "meanPoints", "()D"⟩
abbrev cX4_isTrue : ByteArray := prog_6_method_66_code
def yX4_isTrue : MethodName := ⟨RX4, "isTrue", "()Z"⟩
def RJx00060 : String := "java/lang/ArrayIndexOutOfBoundsException"
def TJx00060 : u_T := fun k => match k with
  | 0 => ("java/lang/Throwable", "backtrace", "Ljava/lang/Object;", false)
  | 1 => ("java/lang/Throwable", "detailMessage", "Ljava/lang/String;", false)
  | 2 => ("java/lang/Throwable", "cause", "Ljava/lang/Throwable;", false)
  | 3 => ("java/lang/Throwable", "stackTrace", "[Ljava/lang/StackTraceElement;", false)
  | 4 => ("java/lang/Throwable", "depth", "I", false)
  | _ => ("java/lang/Throwable", "suppressedExceptions", "Ljava/util/List;", false)
def tyJx00060 : Nat → FieldType := fun k => match k with
  | 0 => .object "java/lang/Object"
  | 1 => .object "java/lang/String"
  | 2 => .object "java/lang/Throwable"
  | 3 => .array (.object "java/lang/StackTraceElement")
  | 4 => .int
  | _ => .object "java/util/List"
abbrev wsJx000600 : List Cond := u_ws RJx00060 TJx00060 6
theorem nmJx00060 : ∀ a, a < 6 → ∀ b, b < 6 → a ≠ b → (TJx00060 a).2.1 ≠ (TJx00060 b).2.1 := by decide +kernel
theorem tyJx00060_ok : ∀ k, k < 6 → parseFieldDescriptor (TJx00060 k).2.2.1 = some (tyJx00060 k) := by decide +kernel
def yJx00060_init_a7421 : MethodName := ⟨RJx00060, "<init>", "(Ljava/lang/String;)V"⟩
def RJ0 : String := "java/lang/String"
def TJ0 : u_T := fun k => match k with
  | 0 => ("java/lang/String", "value", "[B", true)
  | _ => ("java/lang/String", "coder", "B", true)
def tyJ0 : Nat → FieldType := fun k => match k with
  | 0 => .array .byte
  | _ => .byte
abbrev wsJ00 : List Cond := u_ws RJ0 TJ0 2
theorem nmJ0 : ∀ a, a < 2 → ∀ b, b < 2 → a ≠ b → (TJ0 a).2.1 ≠ (TJ0 b).2.1 := by decide +kernel
theorem tyJ0_ok : ∀ k, k < 2 → parseFieldDescriptor (TJ0 k).2.2.1 = some (tyJ0 k) := by decide +kernel
def RL : String := "ClassfederationLaw"
abbrev cL_room : ByteArray := method_3_code
def yL_room : MethodName := ⟨RL, "room", "(LClassfederation;I[J)I"⟩
abbrev cL_exam : ByteArray := method_4_code
def yL_exam : MethodName := ⟨RL, "exam", "(LClassfederation;[J)I"⟩
abbrev cL_pupil : ByteArray := method_5_code
def yL_pupil : MethodName := ⟨RL, "pupil", "(LClassfederation;[J)I"⟩
abbrev cL_offer : ByteArray := method_6_code
def yL_offer : MethodName := ⟨RL, "offer", "(LClassfederation;IIIZ[J)I"⟩
abbrev cL_bid : ByteArray := method_7_code
def yL_bid : MethodName := ⟨RL, "bid", "(LClassfederation;III[J)I"⟩
abbrev cL_unbid : ByteArray := method_8_code
def yL_unbid : MethodName := ⟨RL, "unbid", "(LClassfederation;II[J)I"⟩
abbrev cL_points : ByteArray := method_9_code
def yL_points : MethodName := ⟨RL, "points", "(LClassfederation;I[J)I"⟩
abbrev cL_seat : ByteArray := method_10_code
def yL_seat : MethodName := ⟨RL, "seat", "(LClassfederation;IIZ[J)I"⟩
abbrev cL_at : ByteArray := method_11_code
def yL_at : MethodName := ⟨RL, "at", "(LClassfederation;II[J)I"⟩
abbrev cL_holders : ByteArray := method_12_code
def yL_holders : MethodName := ⟨RL, "holders", "(LClassfederation;I[J)I"⟩
abbrev cL_holder : ByteArray := method_13_code
def yL_holder : MethodName := ⟨RL, "holder", "(LClassfederation;II[J)I"⟩
abbrev cL_paid : ByteArray := method_14_code
def yL_paid : MethodName := ⟨RL, "paid", "(LClassfederation;II[J)I"⟩
abbrev cL_waiting : ByteArray := method_15_code
def yL_waiting : MethodName := ⟨RL, "waiting", "(LClassfederation;I[J)I"⟩
abbrev cL_waiter : ByteArray := method_16_code
def yL_waiter : MethodName := ⟨RL, "waiter", "(LClassfederation;II[J)I"⟩
abbrev cL_giveUp : ByteArray := method_17_code
def yL_giveUp : MethodName := ⟨RL, "giveUp", "(LClassfederation;II[J)I"⟩
abbrev cL_move : ByteArray := method_18_code
def yL_move : MethodName := ⟨RL, "move", "(LClassfederation;II[J)I"⟩
abbrev cL_slotOf : ByteArray := method_19_code
def yL_slotOf : MethodName := ⟨RL, "slotOf", "(LClassfederation;I[J)I"⟩
abbrev cL_write : ByteArray := method_20_code
def yL_write : MethodName := ⟨RL, "write", "(LClassfederation;IIICI[J)I"⟩
abbrev cL_read : ByteArray := method_21_code
def yL_read : MethodName := ⟨RL, "read", "(LClassfederation;IIIC[J)I"⟩
abbrev cL_sync : ByteArray := method_22_code
def yL_sync : MethodName := ⟨RL, "sync", "(LClassfederation;II[J)I"⟩
abbrev cL_owner : ByteArray := method_23_code
def yL_owner : MethodName := ⟨RL, "owner", "(LClassfederation;C[J)I"⟩
abbrev cL_setOwner : ByteArray := method_24_code
def yL_setOwner : MethodName := ⟨RL, "setOwner", "(LClassfederation;CI[J)I"⟩
abbrev cL_apart : ByteArray := method_25_code
def yL_apart : MethodName := ⟨RL, "apart", "(LClassfederation;C[J)I"⟩
abbrev cL_maySit : ByteArray := method_26_code
def yL_maySit : MethodName := ⟨RL, "maySit", "(LClassfederation;II[J)I"⟩
abbrev cL_isOpen : ByteArray := method_27_code
def yL_isOpen : MethodName := ⟨RL, "isOpen", "(LClassfederation;II[J)I"⟩
abbrev cL_sit : ByteArray := method_28_code
def yL_sit : MethodName := ⟨RL, "sit", "(LClassfederation;I[J)I"⟩
abbrev cL_hasSat : ByteArray := method_29_code
def yL_hasSat : MethodName := ⟨RL, "hasSat", "(LClassfederation;IIZ[J)I"⟩
abbrev cL_more : ByteArray := method_30_code
def yL_more : MethodName := ⟨RL, "more", "(LClassfederation;II[J)I"⟩
abbrev cL_takenShare : ByteArray := method_31_code
def yL_takenShare : MethodName := ⟨RL, "takenShare", "(LClassfederation;[D)I"⟩
abbrev cL_meanPoints : ByteArray := method_32_code
def yL_meanPoints : MethodName := ⟨RL, "meanPoints", "(LClassfederation;[D)I"⟩
abbrev cL_law : ByteArray := code
def yL_law : MethodName := ⟨RL, "law", "([I)Z"⟩
abbrev vwCl : List vw_C := [(RJ0, TJ0, 2), (RJx00060, TJx00060, 6), (RX0, TX0, 9), (RX1, TX1, 2), (RX2, TX2, 4), (RX3, TX3, 13), (RX4, TX4, 24)]
end
section
theorem dX0_init_0 : decode cX0_init 0 = .ok (.aload_n 0, 1) := by decide +kernel
theorem dX0_init_1 : decode cX0_init 1 = .ok (.invokespecial 3, 3) := by decide +kernel
theorem dX0_init_4 : decode cX0_init 4 = .ok (.aload_n 0, 1) := by decide +kernel
theorem dX0_init_5 : decode cX0_init 5 = .ok (.bipush 10, 2) := by decide +kernel
theorem dX0_init_7 : decode cX0_init 7 = .ok (.newarray .int, 2) := by decide +kernel
theorem dX0_init_9 : decode cX0_init 9 = .ok (.putfield 9, 3) := by decide +kernel
theorem dX0_init_12 : decode cX0_init 12 = .ok (.iconst 0, 1) := by decide +kernel
theorem dX0_init_13 : decode cX0_init 13 = .ok (.istore_n 1, 1) := by decide +kernel
theorem dX0_init_14 : decode cX0_init 14 = .ok (.iload_n 1, 1) := by decide +kernel
theorem dX0_init_15 : decode cX0_init 15 = .ok (.bipush 10, 2) := by decide +kernel
theorem dX0_init_17 : decode cX0_init 17 = .ok (.if_icmp .ge 16, 3) := by decide +kernel
theorem dX0_init_20 : decode cX0_init 20 = .ok (.aload_n 0, 1) := by decide +kernel
theorem dX0_init_21 : decode cX0_init 21 = .ok (.getfield 9, 3) := by decide +kernel
theorem dX0_init_24 : decode cX0_init 24 = .ok (.iload_n 1, 1) := by decide +kernel
theorem dX0_init_25 : decode cX0_init 25 = .ok (.iconst (-1), 1) := by decide +kernel
theorem dX0_init_26 : decode cX0_init 26 = .ok (.iastore, 1) := by decide +kernel
theorem dX0_init_27 : decode cX0_init 27 = .ok (.iinc 1 1, 3) := by decide +kernel
theorem dX0_init_30 : decode cX0_init 30 = .ok (.goto (-16), 3) := by decide +kernel
theorem dX0_init_33 : decode cX0_init 33 = .ok (.aload_n 0, 1) := by decide +kernel
theorem dX0_init_34 : decode cX0_init 34 = .ok (.bipush 10, 2) := by decide +kernel
theorem dX0_init_36 : decode cX0_init 36 = .ok (.newarray .int, 2) := by decide +kernel
theorem dX0_init_38 : decode cX0_init 38 = .ok (.putfield 15, 3) := by decide +kernel
theorem dX0_init_41 : decode cX0_init 41 = .ok (.aload_n 0, 1) := by decide +kernel
theorem dX0_init_42 : decode cX0_init 42 = .ok (.bipush 10, 2) := by decide +kernel
theorem dX0_init_44 : decode cX0_init 44 = .ok (.newarray .int, 2) := by decide +kernel
theorem dX0_init_46 : decode cX0_init 46 = .ok (.putfield 18, 3) := by decide +kernel
theorem dX0_init_49 : decode cX0_init 49 = .ok (.return_, 1) := by decide +kernel
theorem dX0_open_0 : decode cX0_open 0 = .ok (.aload_n 0, 1) := by decide +kernel
theorem dX0_open_1 : decode cX0_open 1 = .ok (.iload_n 1, 1) := by decide +kernel
theorem dX0_open_2 : decode cX0_open 2 = .ok (.putfield 21, 3) := by decide +kernel
theorem dX0_open_5 : decode cX0_open 5 = .ok (.aload_n 0, 1) := by decide +kernel
theorem dX0_open_6 : decode cX0_open 6 = .ok (.iload_n 2, 1) := by decide +kernel
theorem dX0_open_7 : decode cX0_open 7 = .ok (.putfield 25, 3) := by decide +kernel
theorem dX0_open_10 : decode cX0_open 10 = .ok (.aload_n 0, 1) := by decide +kernel
theorem dX0_open_11 : decode cX0_open 11 = .ok (.iload_n 3, 1) := by decide +kernel
theorem dX0_open_12 : decode cX0_open 12 = .ok (.putfield 28, 3) := by decide +kernel
theorem dX0_open_15 : decode cX0_open 15 = .ok (.aload_n 0, 1) := by decide +kernel
theorem dX0_open_16 : decode cX0_open 16 = .ok (.iload 4, 2) := by decide +kernel
theorem dX0_open_18 : decode cX0_open 18 = .ok (.putfield 31, 3) := by decide +kernel
theorem dX0_open_21 : decode cX0_open 21 = .ok (.aload_n 0, 1) := by decide +kernel
theorem dX0_open_22 : decode cX0_open 22 = .ok (.iload 5, 2) := by decide +kernel
theorem dX0_open_24 : decode cX0_open 24 = .ok (.putfield 34, 3) := by decide +kernel
theorem dX0_open_27 : decode cX0_open 27 = .ok (.return_, 1) := by decide +kernel
theorem dX0_isOf_0 : decode cX0_isOf 0 = .ok (.aload_n 0, 1) := by decide +kernel
theorem dX0_isOf_1 : decode cX0_isOf 1 = .ok (.getfield 21, 3) := by decide +kernel
theorem dX0_isOf_4 : decode cX0_isOf 4 = .ok (.iload_n 1, 1) := by decide +kernel
theorem dX0_isOf_5 : decode cX0_isOf 5 = .ok (.if_icmp .ne 15, 3) := by decide +kernel
theorem dX0_isOf_8 : decode cX0_isOf 8 = .ok (.aload_n 0, 1) := by decide +kernel
theorem dX0_isOf_9 : decode cX0_isOf 9 = .ok (.getfield 34, 3) := by decide +kernel
theorem dX0_isOf_12 : decode cX0_isOf 12 = .ok (.iload_n 2, 1) := by decide +kernel
theorem dX0_isOf_13 : decode cX0_isOf 13 = .ok (.if_icmp .ne 7, 3) := by decide +kernel
theorem dX0_isOf_16 : decode cX0_isOf 16 = .ok (.iconst 1, 1) := by decide +kernel
theorem dX0_isOf_17 : decode cX0_isOf 17 = .ok (.goto 4, 3) := by decide +kernel
theorem dX0_isOf_20 : decode cX0_isOf 20 = .ok (.iconst 0, 1) := by decide +kernel
theorem dX0_isOf_21 : decode cX0_isOf 21 = .ok (.ireturn, 1) := by decide +kernel
theorem dX0_hasSeated_0 : decode cX0_hasSeated 0 = .ok (.aload_n 0, 1) := by decide +kernel
theorem dX0_hasSeated_1 : decode cX0_hasSeated 1 = .ok (.getfield 9, 3) := by decide +kernel
theorem dX0_hasSeated_4 : decode cX0_hasSeated 4 = .ok (.iload_n 1, 1) := by decide +kernel
theorem dX0_hasSeated_5 : decode cX0_hasSeated 5 = .ok (.iaload, 1) := by decide +kernel
theorem dX0_hasSeated_6 : decode cX0_hasSeated 6 = .ok (.iconst (-1), 1) := by decide +kernel
theorem dX0_hasSeated_7 : decode cX0_hasSeated 7 = .ok (.if_icmp .eq 7, 3) := by decide +kernel
theorem dX0_hasSeated_10 : decode cX0_hasSeated 10 = .ok (.iconst 1, 1) := by decide +kernel
theorem dX0_hasSeated_11 : decode cX0_hasSeated 11 = .ok (.goto 4, 3) := by decide +kernel
theorem dX0_hasSeated_14 : decode cX0_hasSeated 14 = .ok (.iconst 0, 1) := by decide +kernel
theorem dX0_hasSeated_15 : decode cX0_hasSeated 15 = .ok (.ireturn, 1) := by decide +kernel
theorem dX0_countTaken_0 : decode cX0_countTaken 0 = .ok (.iconst 0, 1) := by decide +kernel
theorem dX0_countTaken_1 : decode cX0_countTaken 1 = .ok (.istore_n 1, 1) := by decide +kernel
theorem dX0_countTaken_2 : decode cX0_countTaken 2 = .ok (.iconst 0, 1) := by decide +kernel
theorem dX0_countTaken_3 : decode cX0_countTaken 3 = .ok (.istore_n 2, 1) := by decide +kernel
theorem dX0_countTaken_4 : decode cX0_countTaken 4 = .ok (.iload_n 2, 1) := by decide +kernel
theorem dX0_countTaken_5 : decode cX0_countTaken 5 = .ok (.bipush 10, 2) := by decide +kernel
theorem dX0_countTaken_7 : decode cX0_countTaken 7 = .ok (.if_icmp .ge 20, 3) := by decide +kernel
theorem dX0_countTaken_10 : decode cX0_countTaken 10 = .ok (.aload_n 0, 1) := by decide +kernel
theorem dX0_countTaken_11 : decode cX0_countTaken 11 = .ok (.iload_n 2, 1) := by decide +kernel
theorem dX0_countTaken_12 : decode cX0_countTaken 12 = .ok (.invokevirtual 38, 3) := by decide +kernel
theorem dX0_countTaken_15 : decode cX0_countTaken 15 = .ok (.ifCond .eq 6, 3) := by decide +kernel
theorem dX0_countTaken_18 : decode cX0_countTaken 18 = .ok (.iinc 1 1, 3) := by decide +kernel
theorem dX0_countTaken_21 : decode cX0_countTaken 21 = .ok (.iinc 2 1, 3) := by decide +kernel
theorem dX0_countTaken_24 : decode cX0_countTaken 24 = .ok (.goto (-20), 3) := by decide +kernel
theorem dX0_countTaken_27 : decode cX0_countTaken 27 = .ok (.iload_n 1, 1) := by decide +kernel
theorem dX0_countTaken_28 : decode cX0_countTaken 28 = .ok (.ireturn, 1) := by decide +kernel
theorem dX0_isFull_0 : decode cX0_isFull 0 = .ok (.aload_n 0, 1) := by decide +kernel
theorem dX0_isFull_1 : decode cX0_isFull 1 = .ok (.invokevirtual 42, 3) := by decide +kernel
theorem dX0_isFull_4 : decode cX0_isFull 4 = .ok (.aload_n 0, 1) := by decide +kernel
theorem dX0_isFull_5 : decode cX0_isFull 5 = .ok (.getfield 31, 3) := by decide +kernel
theorem dX0_isFull_8 : decode cX0_isFull 8 = .ok (.if_icmp .lt 7, 3) := by decide +kernel
theorem dX0_isFull_11 : decode cX0_isFull 11 = .ok (.iconst 1, 1) := by decide +kernel
theorem dX0_isFull_12 : decode cX0_isFull 12 = .ok (.goto 4, 3) := by decide +kernel
theorem dX0_isFull_15 : decode cX0_isFull 15 = .ok (.iconst 0, 1) := by decide +kernel
theorem dX0_isFull_16 : decode cX0_isFull 16 = .ok (.ireturn, 1) := by decide +kernel
theorem dX0_pupilSeated_0 : decode cX0_pupilSeated 0 = .ok (.iconst 0, 1) := by decide +kernel
theorem dX0_pupilSeated_1 : decode cX0_pupilSeated 1 = .ok (.istore_n 2, 1) := by decide +kernel
theorem dX0_pupilSeated_2 : decode cX0_pupilSeated 2 = .ok (.iconst 0, 1) := by decide +kernel
theorem dX0_pupilSeated_3 : decode cX0_pupilSeated 3 = .ok (.istore_n 3, 1) := by decide +kernel
theorem dX0_pupilSeated_4 : decode cX0_pupilSeated 4 = .ok (.iload_n 3, 1) := by decide +kernel
theorem dX0_pupilSeated_5 : decode cX0_pupilSeated 5 = .ok (.bipush 10, 2) := by decide +kernel
theorem dX0_pupilSeated_7 : decode cX0_pupilSeated 7 = .ok (.if_icmp .ge 27, 3) := by decide +kernel
theorem dX0_pupilSeated_10 : decode cX0_pupilSeated 10 = .ok (.aload_n 0, 1) := by decide +kernel
theorem dX0_pupilSeated_11 : decode cX0_pupilSeated 11 = .ok (.iload_n 3, 1) := by decide +kernel
theorem dX0_pupilSeated_12 : decode cX0_pupilSeated 12 = .ok (.invokevirtual 38, 3) := by decide +kernel
theorem dX0_pupilSeated_15 : decode cX0_pupilSeated 15 = .ok (.ifCond .eq 13, 3) := by decide +kernel
theorem dX0_pupilSeated_18 : decode cX0_pupilSeated 18 = .ok (.iload_n 2, 1) := by decide +kernel
theorem dX0_pupilSeated_19 : decode cX0_pupilSeated 19 = .ok (.iload_n 1, 1) := by decide +kernel
theorem dX0_pupilSeated_20 : decode cX0_pupilSeated 20 = .ok (.if_icmp .ne 5, 3) := by decide +kernel
theorem dX0_pupilSeated_23 : decode cX0_pupilSeated 23 = .ok (.iload_n 3, 1) := by decide +kernel
theorem dX0_pupilSeated_24 : decode cX0_pupilSeated 24 = .ok (.ireturn, 1) := by decide +kernel
theorem dX0_pupilSeated_25 : decode cX0_pupilSeated 25 = .ok (.iinc 2 1, 3) := by decide +kernel
theorem dX0_pupilSeated_28 : decode cX0_pupilSeated 28 = .ok (.iinc 3 1, 3) := by decide +kernel
theorem dX0_pupilSeated_31 : decode cX0_pupilSeated 31 = .ok (.goto (-27), 3) := by decide +kernel
theorem dX0_pupilSeated_34 : decode cX0_pupilSeated 34 = .ok (.iconst (-1), 1) := by decide +kernel
theorem dX0_pupilSeated_35 : decode cX0_pupilSeated 35 = .ok (.ireturn, 1) := by decide +kernel
theorem dX0_unseat_0 : decode cX0_unseat 0 = .ok (.aload_n 0, 1) := by decide +kernel
theorem dX0_unseat_1 : decode cX0_unseat 1 = .ok (.getfield 9, 3) := by decide +kernel
theorem dX0_unseat_4 : decode cX0_unseat 4 = .ok (.iload_n 1, 1) := by decide +kernel
theorem dX0_unseat_5 : decode cX0_unseat 5 = .ok (.iaload, 1) := by decide +kernel
theorem dX0_unseat_6 : decode cX0_unseat 6 = .ok (.istore_n 2, 1) := by decide +kernel
theorem dX0_unseat_7 : decode cX0_unseat 7 = .ok (.aload_n 0, 1) := by decide +kernel
theorem dX0_unseat_8 : decode cX0_unseat 8 = .ok (.getfield 9, 3) := by decide +kernel
theorem dX0_unseat_11 : decode cX0_unseat 11 = .ok (.iload_n 1, 1) := by decide +kernel
theorem dX0_unseat_12 : decode cX0_unseat 12 = .ok (.iconst (-1), 1) := by decide +kernel
theorem dX0_unseat_13 : decode cX0_unseat 13 = .ok (.iastore, 1) := by decide +kernel
theorem dX0_unseat_14 : decode cX0_unseat 14 = .ok (.iload_n 2, 1) := by decide +kernel
theorem dX0_unseat_15 : decode cX0_unseat 15 = .ok (.ireturn, 1) := by decide +kernel
theorem dX0_placeInQueue_0 : decode cX0_placeInQueue 0 = .ok (.iconst 0, 1) := by decide +kernel
theorem dX0_placeInQueue_1 : decode cX0_placeInQueue 1 = .ok (.istore_n 2, 1) := by decide +kernel
theorem dX0_placeInQueue_2 : decode cX0_placeInQueue 2 = .ok (.iload_n 2, 1) := by decide +kernel
theorem dX0_placeInQueue_3 : decode cX0_placeInQueue 3 = .ok (.aload_n 0, 1) := by decide +kernel
theorem dX0_placeInQueue_4 : decode cX0_placeInQueue 4 = .ok (.getfield 46, 3) := by decide +kernel
theorem dX0_placeInQueue_7 : decode cX0_placeInQueue 7 = .ok (.if_icmp .ge 21, 3) := by decide +kernel
theorem dX0_placeInQueue_10 : decode cX0_placeInQueue 10 = .ok (.aload_n 0, 1) := by decide +kernel
theorem dX0_placeInQueue_11 : decode cX0_placeInQueue 11 = .ok (.getfield 15, 3) := by decide +kernel
theorem dX0_placeInQueue_14 : decode cX0_placeInQueue 14 = .ok (.iload_n 2, 1) := by decide +kernel
theorem dX0_placeInQueue_15 : decode cX0_placeInQueue 15 = .ok (.iaload, 1) := by decide +kernel
theorem dX0_placeInQueue_16 : decode cX0_placeInQueue 16 = .ok (.iload_n 1, 1) := by decide +kernel
theorem dX0_placeInQueue_17 : decode cX0_placeInQueue 17 = .ok (.if_icmp .ne 5, 3) := by decide +kernel
theorem dX0_placeInQueue_20 : decode cX0_placeInQueue 20 = .ok (.iload_n 2, 1) := by decide +kernel
theorem dX0_placeInQueue_21 : decode cX0_placeInQueue 21 = .ok (.ireturn, 1) := by decide +kernel
theorem dX0_placeInQueue_22 : decode cX0_placeInQueue 22 = .ok (.iinc 2 1, 3) := by decide +kernel
theorem dX0_placeInQueue_25 : decode cX0_placeInQueue 25 = .ok (.goto (-23), 3) := by decide +kernel
theorem dX0_placeInQueue_28 : decode cX0_placeInQueue 28 = .ok (.iconst (-1), 1) := by decide +kernel
theorem dX0_placeInQueue_29 : decode cX0_placeInQueue 29 = .ok (.ireturn, 1) := by decide +kernel
theorem dX0_letWait_0 : decode cX0_letWait 0 = .ok (.aload_n 0, 1) := by decide +kernel
theorem dX0_letWait_1 : decode cX0_letWait 1 = .ok (.iload_n 1, 1) := by decide +kernel
theorem dX0_letWait_2 : decode cX0_letWait 2 = .ok (.invokevirtual 49, 3) := by decide +kernel
theorem dX0_letWait_5 : decode cX0_letWait 5 = .ok (.iconst (-1), 1) := by decide +kernel
theorem dX0_letWait_6 : decode cX0_letWait 6 = .ok (.if_icmp .ne 12, 3) := by decide +kernel
theorem dX0_letWait_9 : decode cX0_letWait 9 = .ok (.aload_n 0, 1) := by decide +kernel
theorem dX0_letWait_10 : decode cX0_letWait 10 = .ok (.getfield 46, 3) := by decide +kernel
theorem dX0_letWait_13 : decode cX0_letWait 13 = .ok (.bipush 10, 2) := by decide +kernel
theorem dX0_letWait_15 : decode cX0_letWait 15 = .ok (.if_icmp .lt 4, 3) := by decide +kernel
theorem dX0_letWait_18 : decode cX0_letWait 18 = .ok (.return_, 1) := by decide +kernel
theorem dX0_letWait_19 : decode cX0_letWait 19 = .ok (.aload_n 0, 1) := by decide +kernel
theorem dX0_letWait_20 : decode cX0_letWait 20 = .ok (.getfield 15, 3) := by decide +kernel
theorem dX0_letWait_23 : decode cX0_letWait 23 = .ok (.aload_n 0, 1) := by decide +kernel
theorem dX0_letWait_24 : decode cX0_letWait 24 = .ok (.getfield 46, 3) := by decide +kernel
theorem dX0_letWait_27 : decode cX0_letWait 27 = .ok (.iload_n 1, 1) := by decide +kernel
theorem dX0_letWait_28 : decode cX0_letWait 28 = .ok (.iastore, 1) := by decide +kernel
theorem dX0_letWait_29 : decode cX0_letWait 29 = .ok (.aload_n 0, 1) := by decide +kernel
theorem dX0_letWait_30 : decode cX0_letWait 30 = .ok (.getfield 18, 3) := by decide +kernel
theorem dX0_letWait_33 : decode cX0_letWait 33 = .ok (.aload_n 0, 1) := by decide +kernel
theorem dX0_letWait_34 : decode cX0_letWait 34 = .ok (.getfield 46, 3) := by decide +kernel
theorem dX0_letWait_37 : decode cX0_letWait 37 = .ok (.iload_n 2, 1) := by decide +kernel
theorem dX0_letWait_38 : decode cX0_letWait 38 = .ok (.iastore, 1) := by decide +kernel
theorem dX0_letWait_39 : decode cX0_letWait 39 = .ok (.aload_n 0, 1) := by decide +kernel
theorem dX0_letWait_40 : decode cX0_letWait 40 = .ok (.dup, 1) := by decide +kernel
theorem dX0_letWait_41 : decode cX0_letWait 41 = .ok (.getfield 46, 3) := by decide +kernel
theorem dX0_letWait_44 : decode cX0_letWait 44 = .ok (.iconst 1, 1) := by decide +kernel
theorem dX0_letWait_45 : decode cX0_letWait 45 = .ok (.iadd, 1) := by decide +kernel
theorem dX0_letWait_46 : decode cX0_letWait 46 = .ok (.putfield 46, 3) := by decide +kernel
theorem dX0_letWait_49 : decode cX0_letWait 49 = .ok (.return_, 1) := by decide +kernel
theorem dX0_letWaitNoMore_0 : decode cX0_letWaitNoMore 0 = .ok (.aload_n 0, 1) := by decide +kernel
theorem dX0_letWaitNoMore_1 : decode cX0_letWaitNoMore 1 = .ok (.iload_n 1, 1) := by decide +kernel
theorem dX0_letWaitNoMore_2 : decode cX0_letWaitNoMore 2 = .ok (.invokevirtual 49, 3) := by decide +kernel
theorem dX0_letWaitNoMore_5 : decode cX0_letWaitNoMore 5 = .ok (.istore_n 2, 1) := by decide +kernel
theorem dX0_letWaitNoMore_6 : decode cX0_letWaitNoMore 6 = .ok (.iload_n 2, 1) := by decide +kernel
theorem dX0_letWaitNoMore_7 : decode cX0_letWaitNoMore 7 = .ok (.iconst (-1), 1) := by decide +kernel
theorem dX0_letWaitNoMore_8 : decode cX0_letWaitNoMore 8 = .ok (.if_icmp .ne 4, 3) := by decide +kernel
theorem dX0_letWaitNoMore_11 : decode cX0_letWaitNoMore 11 = .ok (.return_, 1) := by decide +kernel
theorem dX0_letWaitNoMore_12 : decode cX0_letWaitNoMore 12 = .ok (.aload_n 0, 1) := by decide +kernel
theorem dX0_letWaitNoMore_13 : decode cX0_letWaitNoMore 13 = .ok (.dup, 1) := by decide +kernel
theorem dX0_letWaitNoMore_14 : decode cX0_letWaitNoMore 14 = .ok (.getfield 46, 3) := by decide +kernel
theorem dX0_letWaitNoMore_17 : decode cX0_letWaitNoMore 17 = .ok (.iconst 1, 1) := by decide +kernel
theorem dX0_letWaitNoMore_18 : decode cX0_letWaitNoMore 18 = .ok (.isub, 1) := by decide +kernel
theorem dX0_letWaitNoMore_19 : decode cX0_letWaitNoMore 19 = .ok (.putfield 46, 3) := by decide +kernel
theorem dX0_letWaitNoMore_22 : decode cX0_letWaitNoMore 22 = .ok (.iload_n 2, 1) := by decide +kernel
theorem dX0_letWaitNoMore_23 : decode cX0_letWaitNoMore 23 = .ok (.istore_n 3, 1) := by decide +kernel
theorem dX0_letWaitNoMore_24 : decode cX0_letWaitNoMore 24 = .ok (.iload_n 3, 1) := by decide +kernel
theorem dX0_letWaitNoMore_25 : decode cX0_letWaitNoMore 25 = .ok (.aload_n 0, 1) := by decide +kernel
theorem dX0_letWaitNoMore_26 : decode cX0_letWaitNoMore 26 = .ok (.getfield 46, 3) := by decide +kernel
theorem dX0_letWaitNoMore_29 : decode cX0_letWaitNoMore 29 = .ok (.if_icmp .ge 37, 3) := by decide +kernel
theorem dX0_letWaitNoMore_32 : decode cX0_letWaitNoMore 32 = .ok (.aload_n 0, 1) := by decide +kernel
theorem dX0_letWaitNoMore_33 : decode cX0_letWaitNoMore 33 = .ok (.getfield 15, 3) := by decide +kernel
theorem dX0_letWaitNoMore_36 : decode cX0_letWaitNoMore 36 = .ok (.iload_n 3, 1) := by decide +kernel
theorem dX0_letWaitNoMore_37 : decode cX0_letWaitNoMore 37 = .ok (.aload_n 0, 1) := by decide +kernel
theorem dX0_letWaitNoMore_38 : decode cX0_letWaitNoMore 38 = .ok (.getfield 15, 3) := by decide +kernel
theorem dX0_letWaitNoMore_41 : decode cX0_letWaitNoMore 41 = .ok (.iload_n 3, 1) := by decide +kernel
theorem dX0_letWaitNoMore_42 : decode cX0_letWaitNoMore 42 = .ok (.iconst 1, 1) := by decide +kernel
theorem dX0_letWaitNoMore_43 : decode cX0_letWaitNoMore 43 = .ok (.iadd, 1) := by decide +kernel
theorem dX0_letWaitNoMore_44 : decode cX0_letWaitNoMore 44 = .ok (.iaload, 1) := by decide +kernel
theorem dX0_letWaitNoMore_45 : decode cX0_letWaitNoMore 45 = .ok (.iastore, 1) := by decide +kernel
theorem dX0_letWaitNoMore_46 : decode cX0_letWaitNoMore 46 = .ok (.aload_n 0, 1) := by decide +kernel
theorem dX0_letWaitNoMore_47 : decode cX0_letWaitNoMore 47 = .ok (.getfield 18, 3) := by decide +kernel
theorem dX0_letWaitNoMore_50 : decode cX0_letWaitNoMore 50 = .ok (.iload_n 3, 1) := by decide +kernel
theorem dX0_letWaitNoMore_51 : decode cX0_letWaitNoMore 51 = .ok (.aload_n 0, 1) := by decide +kernel
theorem dX0_letWaitNoMore_52 : decode cX0_letWaitNoMore 52 = .ok (.getfield 18, 3) := by decide +kernel
theorem dX0_letWaitNoMore_55 : decode cX0_letWaitNoMore 55 = .ok (.iload_n 3, 1) := by decide +kernel
theorem dX0_letWaitNoMore_56 : decode cX0_letWaitNoMore 56 = .ok (.iconst 1, 1) := by decide +kernel
theorem dX0_letWaitNoMore_57 : decode cX0_letWaitNoMore 57 = .ok (.iadd, 1) := by decide +kernel
theorem dX0_letWaitNoMore_58 : decode cX0_letWaitNoMore 58 = .ok (.iaload, 1) := by decide +kernel
theorem dX0_letWaitNoMore_59 : decode cX0_letWaitNoMore 59 = .ok (.iastore, 1) := by decide +kernel
theorem dX0_letWaitNoMore_60 : decode cX0_letWaitNoMore 60 = .ok (.iinc 3 1, 3) := by decide +kernel
theorem dX0_letWaitNoMore_63 : decode cX0_letWaitNoMore 63 = .ok (.goto (-39), 3) := by decide +kernel
theorem dX0_letWaitNoMore_66 : decode cX0_letWaitNoMore 66 = .ok (.return_, 1) := by decide +kernel
theorem dX0_hasSeatedWaiter_0 : decode cX0_hasSeatedWaiter 0 = .ok (.iconst 0, 1) := by decide +kernel
theorem dX0_hasSeatedWaiter_1 : decode cX0_hasSeatedWaiter 1 = .ok (.istore_n 1, 1) := by decide +kernel
theorem dX0_hasSeatedWaiter_2 : decode cX0_hasSeatedWaiter 2 = .ok (.iload_n 1, 1) := by decide +kernel
theorem dX0_hasSeatedWaiter_3 : decode cX0_hasSeatedWaiter 3 = .ok (.aload_n 0, 1) := by decide +kernel
theorem dX0_hasSeatedWaiter_4 : decode cX0_hasSeatedWaiter 4 = .ok (.getfield 46, 3) := by decide +kernel
theorem dX0_hasSeatedWaiter_7 : decode cX0_hasSeatedWaiter 7 = .ok (.if_icmp .ge 24, 3) := by decide +kernel
theorem dX0_hasSeatedWaiter_10 : decode cX0_hasSeatedWaiter 10 = .ok (.aload_n 0, 1) := by decide +kernel
theorem dX0_hasSeatedWaiter_11 : decode cX0_hasSeatedWaiter 11 = .ok (.aload_n 0, 1) := by decide +kernel
theorem dX0_hasSeatedWaiter_12 : decode cX0_hasSeatedWaiter 12 = .ok (.getfield 15, 3) := by decide +kernel
theorem dX0_hasSeatedWaiter_15 : decode cX0_hasSeatedWaiter 15 = .ok (.iload_n 1, 1) := by decide +kernel
theorem dX0_hasSeatedWaiter_16 : decode cX0_hasSeatedWaiter 16 = .ok (.iaload, 1) := by decide +kernel
theorem dX0_hasSeatedWaiter_17 : decode cX0_hasSeatedWaiter 17 = .ok (.invokevirtual 38, 3) := by decide +kernel
theorem dX0_hasSeatedWaiter_20 : decode cX0_hasSeatedWaiter 20 = .ok (.ifCond .eq 5, 3) := by decide +kernel
theorem dX0_hasSeatedWaiter_23 : decode cX0_hasSeatedWaiter 23 = .ok (.iconst 1, 1) := by decide +kernel
theorem dX0_hasSeatedWaiter_24 : decode cX0_hasSeatedWaiter 24 = .ok (.ireturn, 1) := by decide +kernel
theorem dX0_hasSeatedWaiter_25 : decode cX0_hasSeatedWaiter 25 = .ok (.iinc 1 1, 3) := by decide +kernel
theorem dX0_hasSeatedWaiter_28 : decode cX0_hasSeatedWaiter 28 = .ok (.goto (-26), 3) := by decide +kernel
theorem dX0_hasSeatedWaiter_31 : decode cX0_hasSeatedWaiter 31 = .ok (.iconst 0, 1) := by decide +kernel
theorem dX0_hasSeatedWaiter_32 : decode cX0_hasSeatedWaiter 32 = .ok (.ireturn, 1) := by decide +kernel
theorem dX1_init_0 : decode cX1_init 0 = .ok (.aload_n 0, 1) := by decide +kernel
theorem dX1_init_1 : decode cX1_init 1 = .ok (.invokespecial 3, 3) := by decide +kernel
theorem dX1_init_4 : decode cX1_init 4 = .ok (.aload_n 0, 1) := by decide +kernel
theorem dX1_init_5 : decode cX1_init 5 = .ok (.bipush 9, 2) := by decide +kernel
theorem dX1_init_7 : decode cX1_init 7 = .ok (.bipush 60, 2) := by decide +kernel
theorem dX1_init_9 : decode cX1_init 9 = .ok (.multianewarray 11 2, 4) := by decide +kernel
theorem dX1_init_13 : decode cX1_init 13 = .ok (.putfield 13, 3) := by decide +kernel
theorem dX1_init_16 : decode cX1_init 16 = .ok (.iconst 0, 1) := by decide +kernel
theorem dX1_init_17 : decode cX1_init 17 = .ok (.istore_n 1, 1) := by decide +kernel
theorem dX1_init_18 : decode cX1_init 18 = .ok (.iload_n 1, 1) := by decide +kernel
theorem dX1_init_19 : decode cX1_init 19 = .ok (.iconst 3, 1) := by decide +kernel
theorem dX1_init_20 : decode cX1_init 20 = .ok (.if_icmp .ge 36, 3) := by decide +kernel
theorem dX1_init_23 : decode cX1_init 23 = .ok (.iconst 0, 1) := by decide +kernel
theorem dX1_init_24 : decode cX1_init 24 = .ok (.istore_n 2, 1) := by decide +kernel
theorem dX1_init_25 : decode cX1_init 25 = .ok (.iload_n 2, 1) := by decide +kernel
theorem dX1_init_26 : decode cX1_init 26 = .ok (.bipush 60, 2) := by decide +kernel
theorem dX1_init_28 : decode cX1_init 28 = .ok (.if_icmp .ge 22, 3) := by decide +kernel
theorem dX1_init_31 : decode cX1_init 31 = .ok (.aload_n 0, 1) := by decide +kernel
theorem dX1_init_32 : decode cX1_init 32 = .ok (.getfield 13, 3) := by decide +kernel
theorem dX1_init_35 : decode cX1_init 35 = .ok (.iload_n 1, 1) := by decide +kernel
theorem dX1_init_36 : decode cX1_init 36 = .ok (.iconst 1, 1) := by decide +kernel
theorem dX1_init_37 : decode cX1_init 37 = .ok (.invokestatic 16, 3) := by decide +kernel
theorem dX1_init_40 : decode cX1_init 40 = .ok (.aaload, 1) := by decide +kernel
theorem dX1_init_41 : decode cX1_init 41 = .ok (.iload_n 2, 1) := by decide +kernel
theorem dX1_init_42 : decode cX1_init 42 = .ok (.iconst (-1), 1) := by decide +kernel
theorem dX1_init_43 : decode cX1_init 43 = .ok (.iastore, 1) := by decide +kernel
theorem dX1_init_44 : decode cX1_init 44 = .ok (.iinc 2 1, 3) := by decide +kernel
theorem dX1_init_47 : decode cX1_init 47 = .ok (.goto (-22), 3) := by decide +kernel
theorem dX1_init_50 : decode cX1_init 50 = .ok (.iinc 1 1, 3) := by decide +kernel
theorem dX1_init_53 : decode cX1_init 53 = .ok (.goto (-35), 3) := by decide +kernel
theorem dX1_init_56 : decode cX1_init 56 = .ok (.aload_n 0, 1) := by decide +kernel
theorem dX1_init_57 : decode cX1_init 57 = .ok (.iconst 3, 1) := by decide +kernel
theorem dX1_init_58 : decode cX1_init 58 = .ok (.newarray .int, 2) := by decide +kernel
theorem dX1_init_60 : decode cX1_init 60 = .ok (.putfield 20, 3) := by decide +kernel
theorem dX1_init_63 : decode cX1_init 63 = .ok (.iconst 0, 1) := by decide +kernel
theorem dX1_init_64 : decode cX1_init 64 = .ok (.istore_n 1, 1) := by decide +kernel
theorem dX1_init_65 : decode cX1_init 65 = .ok (.iload_n 1, 1) := by decide +kernel
theorem dX1_init_66 : decode cX1_init 66 = .ok (.iconst 3, 1) := by decide +kernel
theorem dX1_init_67 : decode cX1_init 67 = .ok (.if_icmp .ge 16, 3) := by decide +kernel
theorem dX1_init_70 : decode cX1_init 70 = .ok (.aload_n 0, 1) := by decide +kernel
theorem dX1_init_71 : decode cX1_init 71 = .ok (.getfield 20, 3) := by decide +kernel
theorem dX1_init_74 : decode cX1_init 74 = .ok (.iload_n 1, 1) := by decide +kernel
theorem dX1_init_75 : decode cX1_init 75 = .ok (.iload_n 1, 1) := by decide +kernel
theorem dX1_init_76 : decode cX1_init 76 = .ok (.iastore, 1) := by decide +kernel
theorem dX1_init_77 : decode cX1_init 77 = .ok (.iinc 1 1, 3) := by decide +kernel
theorem dX1_init_80 : decode cX1_init 80 = .ok (.goto (-15), 3) := by decide +kernel
theorem dX1_init_83 : decode cX1_init 83 = .ok (.return_, 1) := by decide +kernel
theorem dX1_rowOf_0 : decode cX1_rowOf 0 = .ok (.iload_n 0, 1) := by decide +kernel
theorem dX1_rowOf_1 : decode cX1_rowOf 1 = .ok (.iconst 3, 1) := by decide +kernel
theorem dX1_rowOf_2 : decode cX1_rowOf 2 = .ok (.imul, 1) := by decide +kernel
theorem dX1_rowOf_3 : decode cX1_rowOf 3 = .ok (.iload_n 1, 1) := by decide +kernel
theorem dX1_rowOf_4 : decode cX1_rowOf 4 = .ok (.iadd, 1) := by decide +kernel
theorem dX1_rowOf_5 : decode cX1_rowOf 5 = .ok (.ireturn, 1) := by decide +kernel
theorem dX1_cellOf_0 : decode cX1_cellOf 0 = .ok (.iload_n 0, 1) := by decide +kernel
theorem dX1_cellOf_1 : decode cX1_cellOf 1 = .ok (.bipush 6, 2) := by decide +kernel
theorem dX1_cellOf_3 : decode cX1_cellOf 3 = .ok (.imul, 1) := by decide +kernel
theorem dX1_cellOf_4 : decode cX1_cellOf 4 = .ok (.iload_n 1, 1) := by decide +kernel
theorem dX1_cellOf_5 : decode cX1_cellOf 5 = .ok (.iadd, 1) := by decide +kernel
theorem dX1_cellOf_6 : decode cX1_cellOf 6 = .ok (.ireturn, 1) := by decide +kernel
theorem dX1_isInRange_0 : decode cX1_isInRange 0 = .ok (.iload_n 0, 1) := by decide +kernel
theorem dX1_isInRange_1 : decode cX1_isInRange 1 = .ok (.ifCond .ne 18, 3) := by decide +kernel
theorem dX1_isInRange_4 : decode cX1_isInRange 4 = .ok (.iload_n 1, 1) := by decide +kernel
theorem dX1_isInRange_5 : decode cX1_isInRange 5 = .ok (.ifCond .lt 12, 3) := by decide +kernel
theorem dX1_isInRange_8 : decode cX1_isInRange 8 = .ok (.iload_n 1, 1) := by decide +kernel
theorem dX1_isInRange_9 : decode cX1_isInRange 9 = .ok (.iconst 1, 1) := by decide +kernel
theorem dX1_isInRange_10 : decode cX1_isInRange 10 = .ok (.if_icmp .gt 7, 3) := by decide +kernel
theorem dX1_isInRange_13 : decode cX1_isInRange 13 = .ok (.iconst 1, 1) := by decide +kernel
theorem dX1_isInRange_14 : decode cX1_isInRange 14 = .ok (.goto 4, 3) := by decide +kernel
theorem dX1_isInRange_17 : decode cX1_isInRange 17 = .ok (.iconst 0, 1) := by decide +kernel
theorem dX1_isInRange_18 : decode cX1_isInRange 18 = .ok (.ireturn, 1) := by decide +kernel
theorem dX1_isInRange_19 : decode cX1_isInRange 19 = .ok (.iload_n 0, 1) := by decide +kernel
theorem dX1_isInRange_20 : decode cX1_isInRange 20 = .ok (.iconst 1, 1) := by decide +kernel
theorem dX1_isInRange_21 : decode cX1_isInRange 21 = .ok (.if_icmp .ne 20, 3) := by decide +kernel
theorem dX1_isInRange_24 : decode cX1_isInRange 24 = .ok (.iload_n 1, 1) := by decide +kernel
theorem dX1_isInRange_25 : decode cX1_isInRange 25 = .ok (.iconst (-1), 1) := by decide +kernel
theorem dX1_isInRange_26 : decode cX1_isInRange 26 = .ok (.if_icmp .lt 13, 3) := by decide +kernel
theorem dX1_isInRange_29 : decode cX1_isInRange 29 = .ok (.iload_n 1, 1) := by decide +kernel
theorem dX1_isInRange_30 : decode cX1_isInRange 30 = .ok (.bipush 100, 2) := by decide +kernel
theorem dX1_isInRange_32 : decode cX1_isInRange 32 = .ok (.if_icmp .gt 7, 3) := by decide +kernel
theorem dX1_isInRange_35 : decode cX1_isInRange 35 = .ok (.iconst 1, 1) := by decide +kernel
theorem dX1_isInRange_36 : decode cX1_isInRange 36 = .ok (.goto 4, 3) := by decide +kernel
theorem dX1_isInRange_39 : decode cX1_isInRange 39 = .ok (.iconst 0, 1) := by decide +kernel
theorem dX1_isInRange_40 : decode cX1_isInRange 40 = .ok (.ireturn, 1) := by decide +kernel
theorem dX1_isInRange_41 : decode cX1_isInRange 41 = .ok (.iload_n 1, 1) := by decide +kernel
theorem dX1_isInRange_42 : decode cX1_isInRange 42 = .ok (.ifCond .lt 13, 3) := by decide +kernel
theorem dX1_isInRange_45 : decode cX1_isInRange 45 = .ok (.iload_n 1, 1) := by decide +kernel
theorem dX1_isInRange_46 : decode cX1_isInRange 46 = .ok (.bipush 60, 2) := by decide +kernel
theorem dX1_isInRange_48 : decode cX1_isInRange 48 = .ok (.if_icmp .gt 7, 3) := by decide +kernel
theorem dX1_isInRange_51 : decode cX1_isInRange 51 = .ok (.iconst 1, 1) := by decide +kernel
theorem dX1_isInRange_52 : decode cX1_isInRange 52 = .ok (.goto 4, 3) := by decide +kernel
theorem dX1_isInRange_55 : decode cX1_isInRange 55 = .ok (.iconst 0, 1) := by decide +kernel
theorem dX1_isInRange_56 : decode cX1_isInRange 56 = .ok (.ireturn, 1) := by decide +kernel
theorem dX1_valueIn_0 : decode cX1_valueIn 0 = .ok (.aload_n 0, 1) := by decide +kernel
theorem dX1_valueIn_1 : decode cX1_valueIn 1 = .ok (.getfield 13, 3) := by decide +kernel
theorem dX1_valueIn_4 : decode cX1_valueIn 4 = .ok (.iload_n 1, 1) := by decide +kernel
theorem dX1_valueIn_5 : decode cX1_valueIn 5 = .ok (.iload_n 2, 1) := by decide +kernel
theorem dX1_valueIn_6 : decode cX1_valueIn 6 = .ok (.invokestatic 16, 3) := by decide +kernel
theorem dX1_valueIn_9 : decode cX1_valueIn 9 = .ok (.aaload, 1) := by decide +kernel
theorem dX1_valueIn_10 : decode cX1_valueIn 10 = .ok (.iload_n 3, 1) := by decide +kernel
theorem dX1_valueIn_11 : decode cX1_valueIn 11 = .ok (.iload 4, 2) := by decide +kernel
theorem dX1_valueIn_13 : decode cX1_valueIn 13 = .ok (.invokestatic 24, 3) := by decide +kernel
theorem dX1_valueIn_16 : decode cX1_valueIn 16 = .ok (.iaload, 1) := by decide +kernel
theorem dX1_valueIn_17 : decode cX1_valueIn 17 = .ok (.ireturn, 1) := by decide +kernel
theorem dX1_valueByOwner_0 : decode cX1_valueByOwner 0 = .ok (.aload_n 0, 1) := by decide +kernel
theorem dX1_valueByOwner_1 : decode cX1_valueByOwner 1 = .ok (.aload_n 0, 1) := by decide +kernel
theorem dX1_valueByOwner_2 : decode cX1_valueByOwner 2 = .ok (.getfield 20, 3) := by decide +kernel
theorem dX1_valueByOwner_5 : decode cX1_valueByOwner 5 = .ok (.iload_n 1, 1) := by decide +kernel
theorem dX1_valueByOwner_6 : decode cX1_valueByOwner 6 = .ok (.iaload, 1) := by decide +kernel
theorem dX1_valueByOwner_7 : decode cX1_valueByOwner 7 = .ok (.iload_n 1, 1) := by decide +kernel
theorem dX1_valueByOwner_8 : decode cX1_valueByOwner 8 = .ok (.iload_n 2, 1) := by decide +kernel
theorem dX1_valueByOwner_9 : decode cX1_valueByOwner 9 = .ok (.iload_n 3, 1) := by decide +kernel
theorem dX1_valueByOwner_10 : decode cX1_valueByOwner 10 = .ok (.invokevirtual 27, 3) := by decide +kernel
theorem dX1_valueByOwner_13 : decode cX1_valueByOwner 13 = .ok (.ireturn, 1) := by decide +kernel
theorem dX1_put_0 : decode cX1_put 0 = .ok (.aload_n 0, 1) := by decide +kernel
theorem dX1_put_1 : decode cX1_put 1 = .ok (.getfield 13, 3) := by decide +kernel
theorem dX1_put_4 : decode cX1_put 4 = .ok (.iload_n 1, 1) := by decide +kernel
theorem dX1_put_5 : decode cX1_put 5 = .ok (.iload_n 2, 1) := by decide +kernel
theorem dX1_put_6 : decode cX1_put 6 = .ok (.invokestatic 16, 3) := by decide +kernel
theorem dX1_put_9 : decode cX1_put 9 = .ok (.aaload, 1) := by decide +kernel
theorem dX1_put_10 : decode cX1_put 10 = .ok (.iload_n 3, 1) := by decide +kernel
theorem dX1_put_11 : decode cX1_put 11 = .ok (.iload 4, 2) := by decide +kernel
theorem dX1_put_13 : decode cX1_put 13 = .ok (.invokestatic 24, 3) := by decide +kernel
theorem dX1_put_16 : decode cX1_put 16 = .ok (.iload 5, 2) := by decide +kernel
theorem dX1_put_18 : decode cX1_put 18 = .ok (.iastore, 1) := by decide +kernel
theorem dX1_put_19 : decode cX1_put 19 = .ok (.return_, 1) := by decide +kernel
theorem dX1_copyOwned_0 : decode cX1_copyOwned 0 = .ok (.iconst 0, 1) := by decide +kernel
theorem dX1_copyOwned_1 : decode cX1_copyOwned 1 = .ok (.istore_n 3, 1) := by decide +kernel
theorem dX1_copyOwned_2 : decode cX1_copyOwned 2 = .ok (.iconst 0, 1) := by decide +kernel
theorem dX1_copyOwned_3 : decode cX1_copyOwned 3 = .ok (.istore 4, 2) := by decide +kernel
theorem dX1_copyOwned_5 : decode cX1_copyOwned 5 = .ok (.iload 4, 2) := by decide +kernel
theorem dX1_copyOwned_7 : decode cX1_copyOwned 7 = .ok (.iconst 3, 1) := by decide +kernel
theorem dX1_copyOwned_8 : decode cX1_copyOwned 8 = .ok (.if_icmp .ge 48, 3) := by decide +kernel
theorem dX1_copyOwned_11 : decode cX1_copyOwned 11 = .ok (.aload_n 0, 1) := by decide +kernel
theorem dX1_copyOwned_12 : decode cX1_copyOwned 12 = .ok (.getfield 20, 3) := by decide +kernel
theorem dX1_copyOwned_15 : decode cX1_copyOwned 15 = .ok (.iload 4, 2) := by decide +kernel
theorem dX1_copyOwned_17 : decode cX1_copyOwned 17 = .ok (.iaload, 1) := by decide +kernel
theorem dX1_copyOwned_18 : decode cX1_copyOwned 18 = .ok (.iload_n 1, 1) := by decide +kernel
theorem dX1_copyOwned_19 : decode cX1_copyOwned 19 = .ok (.if_icmp .ne 31, 3) := by decide +kernel
theorem dX1_copyOwned_22 : decode cX1_copyOwned 22 = .ok (.iload_n 3, 1) := by decide +kernel
theorem dX1_copyOwned_23 : decode cX1_copyOwned 23 = .ok (.aload_n 0, 1) := by decide +kernel
theorem dX1_copyOwned_24 : decode cX1_copyOwned 24 = .ok (.getfield 13, 3) := by decide +kernel
theorem dX1_copyOwned_27 : decode cX1_copyOwned 27 = .ok (.iload_n 1, 1) := by decide +kernel
theorem dX1_copyOwned_28 : decode cX1_copyOwned 28 = .ok (.iload 4, 2) := by decide +kernel
theorem dX1_copyOwned_30 : decode cX1_copyOwned 30 = .ok (.invokestatic 16, 3) := by decide +kernel
theorem dX1_copyOwned_33 : decode cX1_copyOwned 33 = .ok (.aaload, 1) := by decide +kernel
theorem dX1_copyOwned_34 : decode cX1_copyOwned 34 = .ok (.aload_n 0, 1) := by decide +kernel
theorem dX1_copyOwned_35 : decode cX1_copyOwned 35 = .ok (.getfield 13, 3) := by decide +kernel
theorem dX1_copyOwned_38 : decode cX1_copyOwned 38 = .ok (.iload_n 2, 1) := by decide +kernel
theorem dX1_copyOwned_39 : decode cX1_copyOwned 39 = .ok (.iload 4, 2) := by decide +kernel
theorem dX1_copyOwned_41 : decode cX1_copyOwned 41 = .ok (.invokestatic 16, 3) := by decide +kernel
theorem dX1_copyOwned_44 : decode cX1_copyOwned 44 = .ok (.aaload, 1) := by decide +kernel
theorem dX1_copyOwned_45 : decode cX1_copyOwned 45 = .ok (.invokestatic 31, 3) := by decide +kernel
theorem dX1_copyOwned_48 : decode cX1_copyOwned 48 = .ok (.iadd, 1) := by decide +kernel
theorem dX1_copyOwned_49 : decode cX1_copyOwned 49 = .ok (.istore_n 3, 1) := by decide +kernel
theorem dX1_copyOwned_50 : decode cX1_copyOwned 50 = .ok (.iinc 4 1, 3) := by decide +kernel
theorem dX1_copyOwned_53 : decode cX1_copyOwned 53 = .ok (.goto (-48), 3) := by decide +kernel
theorem dX1_copyOwned_56 : decode cX1_copyOwned 56 = .ok (.iload_n 3, 1) := by decide +kernel
theorem dX1_copyOwned_57 : decode cX1_copyOwned 57 = .ok (.ireturn, 1) := by decide +kernel
theorem dX1_copyRow_0 : decode cX1_copyRow 0 = .ok (.iconst 0, 1) := by decide +kernel
theorem dX1_copyRow_1 : decode cX1_copyRow 1 = .ok (.istore_n 2, 1) := by decide +kernel
theorem dX1_copyRow_2 : decode cX1_copyRow 2 = .ok (.iconst 0, 1) := by decide +kernel
theorem dX1_copyRow_3 : decode cX1_copyRow 3 = .ok (.istore_n 3, 1) := by decide +kernel
theorem dX1_copyRow_4 : decode cX1_copyRow 4 = .ok (.iload_n 3, 1) := by decide +kernel
theorem dX1_copyRow_5 : decode cX1_copyRow 5 = .ok (.bipush 60, 2) := by decide +kernel
theorem dX1_copyRow_7 : decode cX1_copyRow 7 = .ok (.if_icmp .ge 27, 3) := by decide +kernel
theorem dX1_copyRow_10 : decode cX1_copyRow 10 = .ok (.aload_n 1, 1) := by decide +kernel
theorem dX1_copyRow_11 : decode cX1_copyRow 11 = .ok (.iload_n 3, 1) := by decide +kernel
theorem dX1_copyRow_12 : decode cX1_copyRow 12 = .ok (.iaload, 1) := by decide +kernel
theorem dX1_copyRow_13 : decode cX1_copyRow 13 = .ok (.aload_n 0, 1) := by decide +kernel
theorem dX1_copyRow_14 : decode cX1_copyRow 14 = .ok (.iload_n 3, 1) := by decide +kernel
theorem dX1_copyRow_15 : decode cX1_copyRow 15 = .ok (.iaload, 1) := by decide +kernel
theorem dX1_copyRow_16 : decode cX1_copyRow 16 = .ok (.if_icmp .eq 12, 3) := by decide +kernel
theorem dX1_copyRow_19 : decode cX1_copyRow 19 = .ok (.aload_n 1, 1) := by decide +kernel
theorem dX1_copyRow_20 : decode cX1_copyRow 20 = .ok (.iload_n 3, 1) := by decide +kernel
theorem dX1_copyRow_21 : decode cX1_copyRow 21 = .ok (.aload_n 0, 1) := by decide +kernel
theorem dX1_copyRow_22 : decode cX1_copyRow 22 = .ok (.iload_n 3, 1) := by decide +kernel
theorem dX1_copyRow_23 : decode cX1_copyRow 23 = .ok (.iaload, 1) := by decide +kernel
theorem dX1_copyRow_24 : decode cX1_copyRow 24 = .ok (.iastore, 1) := by decide +kernel
theorem dX1_copyRow_25 : decode cX1_copyRow 25 = .ok (.iinc 2 1, 3) := by decide +kernel
theorem dX1_copyRow_28 : decode cX1_copyRow 28 = .ok (.iinc 3 1, 3) := by decide +kernel
theorem dX1_copyRow_31 : decode cX1_copyRow 31 = .ok (.goto (-27), 3) := by decide +kernel
theorem dX1_copyRow_34 : decode cX1_copyRow 34 = .ok (.iload_n 2, 1) := by decide +kernel
theorem dX1_copyRow_35 : decode cX1_copyRow 35 = .ok (.ireturn, 1) := by decide +kernel
theorem dX1_areSame_0 : decode cX1_areSame 0 = .ok (.iconst 0, 1) := by decide +kernel
theorem dX1_areSame_1 : decode cX1_areSame 1 = .ok (.istore 4, 2) := by decide +kernel
theorem dX1_areSame_3 : decode cX1_areSame 3 = .ok (.iload 4, 2) := by decide +kernel
theorem dX1_areSame_5 : decode cX1_areSame 5 = .ok (.bipush 60, 2) := by decide +kernel
theorem dX1_areSame_7 : decode cX1_areSame 7 = .ok (.if_icmp .ge 40, 3) := by decide +kernel
theorem dX1_areSame_10 : decode cX1_areSame 10 = .ok (.aload_n 0, 1) := by decide +kernel
theorem dX1_areSame_11 : decode cX1_areSame 11 = .ok (.getfield 13, 3) := by decide +kernel
theorem dX1_areSame_14 : decode cX1_areSame 14 = .ok (.iload_n 2, 1) := by decide +kernel
theorem dX1_areSame_15 : decode cX1_areSame 15 = .ok (.iload_n 1, 1) := by decide +kernel
theorem dX1_areSame_16 : decode cX1_areSame 16 = .ok (.invokestatic 16, 3) := by decide +kernel
theorem dX1_areSame_19 : decode cX1_areSame 19 = .ok (.aaload, 1) := by decide +kernel
theorem dX1_areSame_20 : decode cX1_areSame 20 = .ok (.iload 4, 2) := by decide +kernel
theorem dX1_areSame_22 : decode cX1_areSame 22 = .ok (.iaload, 1) := by decide +kernel
theorem dX1_areSame_23 : decode cX1_areSame 23 = .ok (.aload_n 0, 1) := by decide +kernel
theorem dX1_areSame_24 : decode cX1_areSame 24 = .ok (.getfield 13, 3) := by decide +kernel
theorem dX1_areSame_27 : decode cX1_areSame 27 = .ok (.iload_n 3, 1) := by decide +kernel
theorem dX1_areSame_28 : decode cX1_areSame 28 = .ok (.iload_n 1, 1) := by decide +kernel
theorem dX1_areSame_29 : decode cX1_areSame 29 = .ok (.invokestatic 16, 3) := by decide +kernel
theorem dX1_areSame_32 : decode cX1_areSame 32 = .ok (.aaload, 1) := by decide +kernel
theorem dX1_areSame_33 : decode cX1_areSame 33 = .ok (.iload 4, 2) := by decide +kernel
theorem dX1_areSame_35 : decode cX1_areSame 35 = .ok (.iaload, 1) := by decide +kernel
theorem dX1_areSame_36 : decode cX1_areSame 36 = .ok (.if_icmp .eq 5, 3) := by decide +kernel
theorem dX1_areSame_39 : decode cX1_areSame 39 = .ok (.iconst 0, 1) := by decide +kernel
theorem dX1_areSame_40 : decode cX1_areSame 40 = .ok (.ireturn, 1) := by decide +kernel
theorem dX1_areSame_41 : decode cX1_areSame 41 = .ok (.iinc 4 1, 3) := by decide +kernel
theorem dX1_areSame_44 : decode cX1_areSame 44 = .ok (.goto (-41), 3) := by decide +kernel
theorem dX1_areSame_47 : decode cX1_areSame 47 = .ok (.iconst 1, 1) := by decide +kernel
theorem dX1_areSame_48 : decode cX1_areSame 48 = .ok (.ireturn, 1) := by decide +kernel
theorem dX1_isAgreed_0 : decode cX1_isAgreed 0 = .ok (.aload_n 0, 1) := by decide +kernel
theorem dX1_isAgreed_1 : decode cX1_isAgreed 1 = .ok (.getfield 13, 3) := by decide +kernel
theorem dX1_isAgreed_4 : decode cX1_isAgreed 4 = .ok (.iconst 0, 1) := by decide +kernel
theorem dX1_isAgreed_5 : decode cX1_isAgreed 5 = .ok (.iload_n 1, 1) := by decide +kernel
theorem dX1_isAgreed_6 : decode cX1_isAgreed 6 = .ok (.invokestatic 16, 3) := by decide +kernel
theorem dX1_isAgreed_9 : decode cX1_isAgreed 9 = .ok (.aaload, 1) := by decide +kernel
theorem dX1_isAgreed_10 : decode cX1_isAgreed 10 = .ok (.iload_n 2, 1) := by decide +kernel
theorem dX1_isAgreed_11 : decode cX1_isAgreed 11 = .ok (.iaload, 1) := by decide +kernel
theorem dX1_isAgreed_12 : decode cX1_isAgreed 12 = .ok (.istore_n 3, 1) := by decide +kernel
theorem dX1_isAgreed_13 : decode cX1_isAgreed 13 = .ok (.iconst 1, 1) := by decide +kernel
theorem dX1_isAgreed_14 : decode cX1_isAgreed 14 = .ok (.istore 4, 2) := by decide +kernel
theorem dX1_isAgreed_16 : decode cX1_isAgreed 16 = .ok (.iload 4, 2) := by decide +kernel
theorem dX1_isAgreed_18 : decode cX1_isAgreed 18 = .ok (.iconst 3, 1) := by decide +kernel
theorem dX1_isAgreed_19 : decode cX1_isAgreed 19 = .ok (.if_icmp .ge 28, 3) := by decide +kernel
theorem dX1_isAgreed_22 : decode cX1_isAgreed 22 = .ok (.aload_n 0, 1) := by decide +kernel
theorem dX1_isAgreed_23 : decode cX1_isAgreed 23 = .ok (.getfield 13, 3) := by decide +kernel
theorem dX1_isAgreed_26 : decode cX1_isAgreed 26 = .ok (.iload 4, 2) := by decide +kernel
theorem dX1_isAgreed_28 : decode cX1_isAgreed 28 = .ok (.iload_n 1, 1) := by decide +kernel
theorem dX1_isAgreed_29 : decode cX1_isAgreed 29 = .ok (.invokestatic 16, 3) := by decide +kernel
theorem dX1_isAgreed_32 : decode cX1_isAgreed 32 = .ok (.aaload, 1) := by decide +kernel
theorem dX1_isAgreed_33 : decode cX1_isAgreed 33 = .ok (.iload_n 2, 1) := by decide +kernel
theorem dX1_isAgreed_34 : decode cX1_isAgreed 34 = .ok (.iaload, 1) := by decide +kernel
theorem dX1_isAgreed_35 : decode cX1_isAgreed 35 = .ok (.iload_n 3, 1) := by decide +kernel
theorem dX1_isAgreed_36 : decode cX1_isAgreed 36 = .ok (.if_icmp .eq 5, 3) := by decide +kernel
theorem dX1_isAgreed_39 : decode cX1_isAgreed 39 = .ok (.iconst 0, 1) := by decide +kernel
theorem dX1_isAgreed_40 : decode cX1_isAgreed 40 = .ok (.ireturn, 1) := by decide +kernel
theorem dX1_isAgreed_41 : decode cX1_isAgreed 41 = .ok (.iinc 4 1, 3) := by decide +kernel
theorem dX1_isAgreed_44 : decode cX1_isAgreed 44 = .ok (.goto (-28), 3) := by decide +kernel
theorem dX1_isAgreed_47 : decode cX1_isAgreed 47 = .ok (.iconst 1, 1) := by decide +kernel
theorem dX1_isAgreed_48 : decode cX1_isAgreed 48 = .ok (.ireturn, 1) := by decide +kernel
theorem dX1_countApart_0 : decode cX1_countApart 0 = .ok (.iconst 0, 1) := by decide +kernel
theorem dX1_countApart_1 : decode cX1_countApart 1 = .ok (.istore_n 2, 1) := by decide +kernel
theorem dX1_countApart_2 : decode cX1_countApart 2 = .ok (.iconst 0, 1) := by decide +kernel
theorem dX1_countApart_3 : decode cX1_countApart 3 = .ok (.istore_n 3, 1) := by decide +kernel
theorem dX1_countApart_4 : decode cX1_countApart 4 = .ok (.iload_n 3, 1) := by decide +kernel
theorem dX1_countApart_5 : decode cX1_countApart 5 = .ok (.bipush 60, 2) := by decide +kernel
theorem dX1_countApart_7 : decode cX1_countApart 7 = .ok (.if_icmp .ge 21, 3) := by decide +kernel
theorem dX1_countApart_10 : decode cX1_countApart 10 = .ok (.aload_n 0, 1) := by decide +kernel
theorem dX1_countApart_11 : decode cX1_countApart 11 = .ok (.iload_n 1, 1) := by decide +kernel
theorem dX1_countApart_12 : decode cX1_countApart 12 = .ok (.iload_n 3, 1) := by decide +kernel
theorem dX1_countApart_13 : decode cX1_countApart 13 = .ok (.invokevirtual 35, 3) := by decide +kernel
theorem dX1_countApart_16 : decode cX1_countApart 16 = .ok (.ifCond .ne 6, 3) := by decide +kernel
theorem dX1_countApart_19 : decode cX1_countApart 19 = .ok (.iinc 2 1, 3) := by decide +kernel
theorem dX1_countApart_22 : decode cX1_countApart 22 = .ok (.iinc 3 1, 3) := by decide +kernel
theorem dX1_countApart_25 : decode cX1_countApart 25 = .ok (.goto (-21), 3) := by decide +kernel
theorem dX1_countApart_28 : decode cX1_countApart 28 = .ok (.iload_n 2, 1) := by decide +kernel
theorem dX1_countApart_29 : decode cX1_countApart 29 = .ok (.ireturn, 1) := by decide +kernel
theorem dX1_isRightGiven_0 : decode cX1_isRightGiven 0 = .ok (.aload_n 0, 1) := by decide +kernel
theorem dX1_isRightGiven_1 : decode cX1_isRightGiven 1 = .ok (.iconst 0, 1) := by decide +kernel
theorem dX1_isRightGiven_2 : decode cX1_isRightGiven 2 = .ok (.iload_n 1, 1) := by decide +kernel
theorem dX1_isRightGiven_3 : decode cX1_isRightGiven 3 = .ok (.iload_n 2, 1) := by decide +kernel
theorem dX1_isRightGiven_4 : decode cX1_isRightGiven 4 = .ok (.invokestatic 24, 3) := by decide +kernel
theorem dX1_isRightGiven_7 : decode cX1_isRightGiven 7 = .ok (.invokevirtual 35, 3) := by decide +kernel
theorem dX1_isRightGiven_10 : decode cX1_isRightGiven 10 = .ok (.ifCond .eq 18, 3) := by decide +kernel
theorem dX1_isRightGiven_13 : decode cX1_isRightGiven 13 = .ok (.aload_n 0, 1) := by decide +kernel
theorem dX1_isRightGiven_14 : decode cX1_isRightGiven 14 = .ok (.iconst 0, 1) := by decide +kernel
theorem dX1_isRightGiven_15 : decode cX1_isRightGiven 15 = .ok (.iload_n 1, 1) := by decide +kernel
theorem dX1_isRightGiven_16 : decode cX1_isRightGiven 16 = .ok (.iload_n 2, 1) := by decide +kernel
theorem dX1_isRightGiven_17 : decode cX1_isRightGiven 17 = .ok (.invokevirtual 39, 3) := by decide +kernel
theorem dX1_isRightGiven_20 : decode cX1_isRightGiven 20 = .ok (.iconst 1, 1) := by decide +kernel
theorem dX1_isRightGiven_21 : decode cX1_isRightGiven 21 = .ok (.if_icmp .ne 7, 3) := by decide +kernel
theorem dX1_isRightGiven_24 : decode cX1_isRightGiven 24 = .ok (.iconst 1, 1) := by decide +kernel
theorem dX1_isRightGiven_25 : decode cX1_isRightGiven 25 = .ok (.goto 4, 3) := by decide +kernel
theorem dX1_isRightGiven_28 : decode cX1_isRightGiven 28 = .ok (.iconst 0, 1) := by decide +kernel
theorem dX1_isRightGiven_29 : decode cX1_isRightGiven 29 = .ok (.ireturn, 1) := by decide +kernel
theorem dX1_isResitOpen_0 : decode cX1_isResitOpen 0 = .ok (.aload_n 0, 1) := by decide +kernel
theorem dX1_isResitOpen_1 : decode cX1_isResitOpen 1 = .ok (.iconst 1, 1) := by decide +kernel
theorem dX1_isResitOpen_2 : decode cX1_isResitOpen 2 = .ok (.iload_n 1, 1) := by decide +kernel
theorem dX1_isResitOpen_3 : decode cX1_isResitOpen 3 = .ok (.iload_n 2, 1) := by decide +kernel
theorem dX1_isResitOpen_4 : decode cX1_isResitOpen 4 = .ok (.invokevirtual 39, 3) := by decide +kernel
theorem dX1_isResitOpen_7 : decode cX1_isResitOpen 7 = .ok (.istore_n 3, 1) := by decide +kernel
theorem dX1_isResitOpen_8 : decode cX1_isResitOpen 8 = .ok (.aload_n 0, 1) := by decide +kernel
theorem dX1_isResitOpen_9 : decode cX1_isResitOpen 9 = .ok (.iconst 1, 1) := by decide +kernel
theorem dX1_isResitOpen_10 : decode cX1_isResitOpen 10 = .ok (.iload_n 1, 1) := by decide +kernel
theorem dX1_isResitOpen_11 : decode cX1_isResitOpen 11 = .ok (.iload_n 2, 1) := by decide +kernel
theorem dX1_isResitOpen_12 : decode cX1_isResitOpen 12 = .ok (.invokestatic 24, 3) := by decide +kernel
theorem dX1_isResitOpen_15 : decode cX1_isResitOpen 15 = .ok (.invokevirtual 35, 3) := by decide +kernel
theorem dX1_isResitOpen_18 : decode cX1_isResitOpen 18 = .ok (.ifCond .eq 17, 3) := by decide +kernel
theorem dX1_isResitOpen_21 : decode cX1_isResitOpen 21 = .ok (.iload_n 3, 1) := by decide +kernel
theorem dX1_isResitOpen_22 : decode cX1_isResitOpen 22 = .ok (.ifCond .lt 13, 3) := by decide +kernel
theorem dX1_isResitOpen_25 : decode cX1_isResitOpen 25 = .ok (.iload_n 3, 1) := by decide +kernel
theorem dX1_isResitOpen_26 : decode cX1_isResitOpen 26 = .ok (.bipush 49, 2) := by decide +kernel
theorem dX1_isResitOpen_28 : decode cX1_isResitOpen 28 = .ok (.if_icmp .gt 7, 3) := by decide +kernel
theorem dX1_isResitOpen_31 : decode cX1_isResitOpen 31 = .ok (.iconst 1, 1) := by decide +kernel
theorem dX1_isResitOpen_32 : decode cX1_isResitOpen 32 = .ok (.goto 4, 3) := by decide +kernel
theorem dX1_isResitOpen_35 : decode cX1_isResitOpen 35 = .ok (.iconst 0, 1) := by decide +kernel
theorem dX1_isResitOpen_36 : decode cX1_isResitOpen 36 = .ok (.ireturn, 1) := by decide +kernel
theorem dX2_init_0 : decode cX2_init 0 = .ok (.aload_n 0, 1) := by decide +kernel
theorem dX2_init_1 : decode cX2_init 1 = .ok (.invokespecial 3, 3) := by decide +kernel
theorem dX2_init_4 : decode cX2_init 4 = .ok (.aload_n 0, 1) := by decide +kernel
theorem dX2_init_5 : decode cX2_init 5 = .ok (.bipush 120, 2) := by decide +kernel
theorem dX2_init_7 : decode cX2_init 7 = .ok (.newarray .int, 2) := by decide +kernel
theorem dX2_init_9 : decode cX2_init 9 = .ok (.putfield 11, 3) := by decide +kernel
theorem dX2_init_12 : decode cX2_init 12 = .ok (.aload_n 0, 1) := by decide +kernel
theorem dX2_init_13 : decode cX2_init 13 = .ok (.bipush 120, 2) := by decide +kernel
theorem dX2_init_15 : decode cX2_init 15 = .ok (.newarray .int, 2) := by decide +kernel
theorem dX2_init_17 : decode cX2_init 17 = .ok (.putfield 15, 3) := by decide +kernel
theorem dX2_init_20 : decode cX2_init 20 = .ok (.aload_n 0, 1) := by decide +kernel
theorem dX2_init_21 : decode cX2_init 21 = .ok (.bipush 120, 2) := by decide +kernel
theorem dX2_init_23 : decode cX2_init 23 = .ok (.newarray .int, 2) := by decide +kernel
theorem dX2_init_25 : decode cX2_init 25 = .ok (.putfield 18, 3) := by decide +kernel
theorem dX2_init_28 : decode cX2_init 28 = .ok (.return_, 1) := by decide +kernel
theorem dX2_placeOf_0 : decode cX2_placeOf 0 = .ok (.iconst 0, 1) := by decide +kernel
theorem dX2_placeOf_1 : decode cX2_placeOf 1 = .ok (.istore_n 3, 1) := by decide +kernel
theorem dX2_placeOf_2 : decode cX2_placeOf 2 = .ok (.iload_n 3, 1) := by decide +kernel
theorem dX2_placeOf_3 : decode cX2_placeOf 3 = .ok (.aload_n 0, 1) := by decide +kernel
theorem dX2_placeOf_4 : decode cX2_placeOf 4 = .ok (.getfield 21, 3) := by decide +kernel
theorem dX2_placeOf_7 : decode cX2_placeOf 7 = .ok (.if_icmp .ge 31, 3) := by decide +kernel
theorem dX2_placeOf_10 : decode cX2_placeOf 10 = .ok (.aload_n 0, 1) := by decide +kernel
theorem dX2_placeOf_11 : decode cX2_placeOf 11 = .ok (.getfield 11, 3) := by decide +kernel
theorem dX2_placeOf_14 : decode cX2_placeOf 14 = .ok (.iload_n 3, 1) := by decide +kernel
theorem dX2_placeOf_15 : decode cX2_placeOf 15 = .ok (.iaload, 1) := by decide +kernel
theorem dX2_placeOf_16 : decode cX2_placeOf 16 = .ok (.iload_n 1, 1) := by decide +kernel
theorem dX2_placeOf_17 : decode cX2_placeOf 17 = .ok (.if_icmp .ne 15, 3) := by decide +kernel
theorem dX2_placeOf_20 : decode cX2_placeOf 20 = .ok (.aload_n 0, 1) := by decide +kernel
theorem dX2_placeOf_21 : decode cX2_placeOf 21 = .ok (.getfield 15, 3) := by decide +kernel
theorem dX2_placeOf_24 : decode cX2_placeOf 24 = .ok (.iload_n 3, 1) := by decide +kernel
theorem dX2_placeOf_25 : decode cX2_placeOf 25 = .ok (.iaload, 1) := by decide +kernel
theorem dX2_placeOf_26 : decode cX2_placeOf 26 = .ok (.iload_n 2, 1) := by decide +kernel
theorem dX2_placeOf_27 : decode cX2_placeOf 27 = .ok (.if_icmp .ne 5, 3) := by decide +kernel
theorem dX2_placeOf_30 : decode cX2_placeOf 30 = .ok (.iload_n 3, 1) := by decide +kernel
theorem dX2_placeOf_31 : decode cX2_placeOf 31 = .ok (.ireturn, 1) := by decide +kernel
theorem dX2_placeOf_32 : decode cX2_placeOf 32 = .ok (.iinc 3 1, 3) := by decide +kernel
theorem dX2_placeOf_35 : decode cX2_placeOf 35 = .ok (.goto (-33), 3) := by decide +kernel
theorem dX2_placeOf_38 : decode cX2_placeOf 38 = .ok (.iconst (-1), 1) := by decide +kernel
theorem dX2_placeOf_39 : decode cX2_placeOf 39 = .ok (.ireturn, 1) := by decide +kernel
theorem dX2_pointsBid_0 : decode cX2_pointsBid 0 = .ok (.aload_n 0, 1) := by decide +kernel
theorem dX2_pointsBid_1 : decode cX2_pointsBid 1 = .ok (.iload_n 1, 1) := by decide +kernel
theorem dX2_pointsBid_2 : decode cX2_pointsBid 2 = .ok (.iload_n 2, 1) := by decide +kernel
theorem dX2_pointsBid_3 : decode cX2_pointsBid 3 = .ok (.invokevirtual 25, 3) := by decide +kernel
theorem dX2_pointsBid_6 : decode cX2_pointsBid 6 = .ok (.istore_n 3, 1) := by decide +kernel
theorem dX2_pointsBid_7 : decode cX2_pointsBid 7 = .ok (.iload_n 3, 1) := by decide +kernel
theorem dX2_pointsBid_8 : decode cX2_pointsBid 8 = .ok (.iconst (-1), 1) := by decide +kernel
theorem dX2_pointsBid_9 : decode cX2_pointsBid 9 = .ok (.if_icmp .ne 7, 3) := by decide +kernel
theorem dX2_pointsBid_12 : decode cX2_pointsBid 12 = .ok (.iconst 0, 1) := by decide +kernel
theorem dX2_pointsBid_13 : decode cX2_pointsBid 13 = .ok (.goto 9, 3) := by decide +kernel
theorem dX2_pointsBid_16 : decode cX2_pointsBid 16 = .ok (.aload_n 0, 1) := by decide +kernel
theorem dX2_pointsBid_17 : decode cX2_pointsBid 17 = .ok (.getfield 18, 3) := by decide +kernel
theorem dX2_pointsBid_20 : decode cX2_pointsBid 20 = .ok (.iload_n 3, 1) := by decide +kernel
theorem dX2_pointsBid_21 : decode cX2_pointsBid 21 = .ok (.iaload, 1) := by decide +kernel
theorem dX2_pointsBid_22 : decode cX2_pointsBid 22 = .ok (.ireturn, 1) := by decide +kernel
theorem dX2_sumOf_0 : decode cX2_sumOf 0 = .ok (.iconst 0, 1) := by decide +kernel
theorem dX2_sumOf_1 : decode cX2_sumOf 1 = .ok (.istore_n 2, 1) := by decide +kernel
theorem dX2_sumOf_2 : decode cX2_sumOf 2 = .ok (.iconst 0, 1) := by decide +kernel
theorem dX2_sumOf_3 : decode cX2_sumOf 3 = .ok (.istore_n 3, 1) := by decide +kernel
theorem dX2_sumOf_4 : decode cX2_sumOf 4 = .ok (.iload_n 3, 1) := by decide +kernel
theorem dX2_sumOf_5 : decode cX2_sumOf 5 = .ok (.aload_n 0, 1) := by decide +kernel
theorem dX2_sumOf_6 : decode cX2_sumOf 6 = .ok (.getfield 21, 3) := by decide +kernel
theorem dX2_sumOf_9 : decode cX2_sumOf 9 = .ok (.if_icmp .ge 28, 3) := by decide +kernel
theorem dX2_sumOf_12 : decode cX2_sumOf 12 = .ok (.aload_n 0, 1) := by decide +kernel
theorem dX2_sumOf_13 : decode cX2_sumOf 13 = .ok (.getfield 11, 3) := by decide +kernel
theorem dX2_sumOf_16 : decode cX2_sumOf 16 = .ok (.iload_n 3, 1) := by decide +kernel
theorem dX2_sumOf_17 : decode cX2_sumOf 17 = .ok (.iaload, 1) := by decide +kernel
theorem dX2_sumOf_18 : decode cX2_sumOf 18 = .ok (.iload_n 1, 1) := by decide +kernel
theorem dX2_sumOf_19 : decode cX2_sumOf 19 = .ok (.if_icmp .ne 12, 3) := by decide +kernel
theorem dX2_sumOf_22 : decode cX2_sumOf 22 = .ok (.iload_n 2, 1) := by decide +kernel
theorem dX2_sumOf_23 : decode cX2_sumOf 23 = .ok (.aload_n 0, 1) := by decide +kernel
theorem dX2_sumOf_24 : decode cX2_sumOf 24 = .ok (.getfield 18, 3) := by decide +kernel
theorem dX2_sumOf_27 : decode cX2_sumOf 27 = .ok (.iload_n 3, 1) := by decide +kernel
theorem dX2_sumOf_28 : decode cX2_sumOf 28 = .ok (.iaload, 1) := by decide +kernel
theorem dX2_sumOf_29 : decode cX2_sumOf 29 = .ok (.iadd, 1) := by decide +kernel
theorem dX2_sumOf_30 : decode cX2_sumOf 30 = .ok (.istore_n 2, 1) := by decide +kernel
theorem dX2_sumOf_31 : decode cX2_sumOf 31 = .ok (.iinc 3 1, 3) := by decide +kernel
theorem dX2_sumOf_34 : decode cX2_sumOf 34 = .ok (.goto (-30), 3) := by decide +kernel
theorem dX2_sumOf_37 : decode cX2_sumOf 37 = .ok (.iload_n 2, 1) := by decide +kernel
theorem dX2_sumOf_38 : decode cX2_sumOf 38 = .ok (.ireturn, 1) := by decide +kernel
theorem dX2_tell_0 : decode cX2_tell 0 = .ok (.aload_n 0, 1) := by decide +kernel
theorem dX2_tell_1 : decode cX2_tell 1 = .ok (.getfield 21, 3) := by decide +kernel
theorem dX2_tell_4 : decode cX2_tell 4 = .ok (.bipush 120, 2) := by decide +kernel
theorem dX2_tell_6 : decode cX2_tell 6 = .ok (.if_icmp .lt 4, 3) := by decide +kernel
theorem dX2_tell_9 : decode cX2_tell 9 = .ok (.return_, 1) := by decide +kernel
theorem dX2_tell_10 : decode cX2_tell 10 = .ok (.aload_n 0, 1) := by decide +kernel
theorem dX2_tell_11 : decode cX2_tell 11 = .ok (.getfield 21, 3) := by decide +kernel
theorem dX2_tell_14 : decode cX2_tell 14 = .ok (.istore 4, 2) := by decide +kernel
theorem dX2_tell_16 : decode cX2_tell 16 = .ok (.iload 4, 2) := by decide +kernel
theorem dX2_tell_18 : decode cX2_tell 18 = .ok (.ifCond .le 70, 3) := by decide +kernel
theorem dX2_tell_21 : decode cX2_tell 21 = .ok (.aload_n 0, 1) := by decide +kernel
theorem dX2_tell_22 : decode cX2_tell 22 = .ok (.getfield 18, 3) := by decide +kernel
theorem dX2_tell_25 : decode cX2_tell 25 = .ok (.iload 4, 2) := by decide +kernel
theorem dX2_tell_27 : decode cX2_tell 27 = .ok (.iconst 1, 1) := by decide +kernel
theorem dX2_tell_28 : decode cX2_tell 28 = .ok (.isub, 1) := by decide +kernel
theorem dX2_tell_29 : decode cX2_tell 29 = .ok (.iaload, 1) := by decide +kernel
theorem dX2_tell_30 : decode cX2_tell 30 = .ok (.iload_n 3, 1) := by decide +kernel
theorem dX2_tell_31 : decode cX2_tell 31 = .ok (.if_icmp .ge 57, 3) := by decide +kernel
theorem dX2_tell_34 : decode cX2_tell 34 = .ok (.aload_n 0, 1) := by decide +kernel
theorem dX2_tell_35 : decode cX2_tell 35 = .ok (.getfield 11, 3) := by decide +kernel
theorem dX2_tell_38 : decode cX2_tell 38 = .ok (.iload 4, 2) := by decide +kernel
theorem dX2_tell_40 : decode cX2_tell 40 = .ok (.aload_n 0, 1) := by decide +kernel
theorem dX2_tell_41 : decode cX2_tell 41 = .ok (.getfield 11, 3) := by decide +kernel
theorem dX2_tell_44 : decode cX2_tell 44 = .ok (.iload 4, 2) := by decide +kernel
theorem dX2_tell_46 : decode cX2_tell 46 = .ok (.iconst 1, 1) := by decide +kernel
theorem dX2_tell_47 : decode cX2_tell 47 = .ok (.isub, 1) := by decide +kernel
theorem dX2_tell_48 : decode cX2_tell 48 = .ok (.iaload, 1) := by decide +kernel
theorem dX2_tell_49 : decode cX2_tell 49 = .ok (.iastore, 1) := by decide +kernel
theorem dX2_tell_50 : decode cX2_tell 50 = .ok (.aload_n 0, 1) := by decide +kernel
theorem dX2_tell_51 : decode cX2_tell 51 = .ok (.getfield 15, 3) := by decide +kernel
theorem dX2_tell_54 : decode cX2_tell 54 = .ok (.iload 4, 2) := by decide +kernel
theorem dX2_tell_56 : decode cX2_tell 56 = .ok (.aload_n 0, 1) := by decide +kernel
theorem dX2_tell_57 : decode cX2_tell 57 = .ok (.getfield 15, 3) := by decide +kernel
theorem dX2_tell_60 : decode cX2_tell 60 = .ok (.iload 4, 2) := by decide +kernel
theorem dX2_tell_62 : decode cX2_tell 62 = .ok (.iconst 1, 1) := by decide +kernel
theorem dX2_tell_63 : decode cX2_tell 63 = .ok (.isub, 1) := by decide +kernel
theorem dX2_tell_64 : decode cX2_tell 64 = .ok (.iaload, 1) := by decide +kernel
theorem dX2_tell_65 : decode cX2_tell 65 = .ok (.iastore, 1) := by decide +kernel
theorem dX2_tell_66 : decode cX2_tell 66 = .ok (.aload_n 0, 1) := by decide +kernel
theorem dX2_tell_67 : decode cX2_tell 67 = .ok (.getfield 18, 3) := by decide +kernel
theorem dX2_tell_70 : decode cX2_tell 70 = .ok (.iload 4, 2) := by decide +kernel
theorem dX2_tell_72 : decode cX2_tell 72 = .ok (.aload_n 0, 1) := by decide +kernel
theorem dX2_tell_73 : decode cX2_tell 73 = .ok (.getfield 18, 3) := by decide +kernel
theorem dX2_tell_76 : decode cX2_tell 76 = .ok (.iload 4, 2) := by decide +kernel
theorem dX2_tell_78 : decode cX2_tell 78 = .ok (.iconst 1, 1) := by decide +kernel
theorem dX2_tell_79 : decode cX2_tell 79 = .ok (.isub, 1) := by decide +kernel
theorem dX2_tell_80 : decode cX2_tell 80 = .ok (.iaload, 1) := by decide +kernel
theorem dX2_tell_81 : decode cX2_tell 81 = .ok (.iastore, 1) := by decide +kernel
theorem dX2_tell_82 : decode cX2_tell 82 = .ok (.iinc 4 (-1), 3) := by decide +kernel
theorem dX2_tell_85 : decode cX2_tell 85 = .ok (.goto (-69), 3) := by decide +kernel
theorem dX2_tell_88 : decode cX2_tell 88 = .ok (.aload_n 0, 1) := by decide +kernel
theorem dX2_tell_89 : decode cX2_tell 89 = .ok (.getfield 11, 3) := by decide +kernel
theorem dX2_tell_92 : decode cX2_tell 92 = .ok (.iload 4, 2) := by decide +kernel
theorem dX2_tell_94 : decode cX2_tell 94 = .ok (.iload_n 1, 1) := by decide +kernel
theorem dX2_tell_95 : decode cX2_tell 95 = .ok (.iastore, 1) := by decide +kernel
theorem dX2_tell_96 : decode cX2_tell 96 = .ok (.aload_n 0, 1) := by decide +kernel
theorem dX2_tell_97 : decode cX2_tell 97 = .ok (.getfield 15, 3) := by decide +kernel
theorem dX2_tell_100 : decode cX2_tell 100 = .ok (.iload 4, 2) := by decide +kernel
theorem dX2_tell_102 : decode cX2_tell 102 = .ok (.iload_n 2, 1) := by decide +kernel
theorem dX2_tell_103 : decode cX2_tell 103 = .ok (.iastore, 1) := by decide +kernel
theorem dX2_tell_104 : decode cX2_tell 104 = .ok (.aload_n 0, 1) := by decide +kernel
theorem dX2_tell_105 : decode cX2_tell 105 = .ok (.getfield 18, 3) := by decide +kernel
theorem dX2_tell_108 : decode cX2_tell 108 = .ok (.iload 4, 2) := by decide +kernel
theorem dX2_tell_110 : decode cX2_tell 110 = .ok (.iload_n 3, 1) := by decide +kernel
theorem dX2_tell_111 : decode cX2_tell 111 = .ok (.iastore, 1) := by decide +kernel
theorem dX2_tell_112 : decode cX2_tell 112 = .ok (.aload_n 0, 1) := by decide +kernel
theorem dX2_tell_113 : decode cX2_tell 113 = .ok (.dup, 1) := by decide +kernel
theorem dX2_tell_114 : decode cX2_tell 114 = .ok (.getfield 21, 3) := by decide +kernel
theorem dX2_tell_117 : decode cX2_tell 117 = .ok (.iconst 1, 1) := by decide +kernel
theorem dX2_tell_118 : decode cX2_tell 118 = .ok (.iadd, 1) := by decide +kernel
theorem dX2_tell_119 : decode cX2_tell 119 = .ok (.putfield 21, 3) := by decide +kernel
theorem dX2_tell_122 : decode cX2_tell 122 = .ok (.return_, 1) := by decide +kernel
theorem dX2_takeOut_0 : decode cX2_takeOut 0 = .ok (.aload_n 0, 1) := by decide +kernel
theorem dX2_takeOut_1 : decode cX2_takeOut 1 = .ok (.iload_n 1, 1) := by decide +kernel
theorem dX2_takeOut_2 : decode cX2_takeOut 2 = .ok (.iload_n 2, 1) := by decide +kernel
theorem dX2_takeOut_3 : decode cX2_takeOut 3 = .ok (.invokevirtual 25, 3) := by decide +kernel
theorem dX2_takeOut_6 : decode cX2_takeOut 6 = .ok (.istore_n 3, 1) := by decide +kernel
theorem dX2_takeOut_7 : decode cX2_takeOut 7 = .ok (.iload_n 3, 1) := by decide +kernel
theorem dX2_takeOut_8 : decode cX2_takeOut 8 = .ok (.iconst (-1), 1) := by decide +kernel
theorem dX2_takeOut_9 : decode cX2_takeOut 9 = .ok (.if_icmp .ne 4, 3) := by decide +kernel
theorem dX2_takeOut_12 : decode cX2_takeOut 12 = .ok (.return_, 1) := by decide +kernel
theorem dX2_takeOut_13 : decode cX2_takeOut 13 = .ok (.aload_n 0, 1) := by decide +kernel
theorem dX2_takeOut_14 : decode cX2_takeOut 14 = .ok (.dup, 1) := by decide +kernel
theorem dX2_takeOut_15 : decode cX2_takeOut 15 = .ok (.getfield 21, 3) := by decide +kernel
theorem dX2_takeOut_18 : decode cX2_takeOut 18 = .ok (.iconst 1, 1) := by decide +kernel
theorem dX2_takeOut_19 : decode cX2_takeOut 19 = .ok (.isub, 1) := by decide +kernel
theorem dX2_takeOut_20 : decode cX2_takeOut 20 = .ok (.putfield 21, 3) := by decide +kernel
theorem dX2_takeOut_23 : decode cX2_takeOut 23 = .ok (.iload_n 3, 1) := by decide +kernel
theorem dX2_takeOut_24 : decode cX2_takeOut 24 = .ok (.istore 4, 2) := by decide +kernel
theorem dX2_takeOut_26 : decode cX2_takeOut 26 = .ok (.iload 4, 2) := by decide +kernel
theorem dX2_takeOut_28 : decode cX2_takeOut 28 = .ok (.aload_n 0, 1) := by decide +kernel
theorem dX2_takeOut_29 : decode cX2_takeOut 29 = .ok (.getfield 21, 3) := by decide +kernel
theorem dX2_takeOut_32 : decode cX2_takeOut 32 = .ok (.if_icmp .ge 57, 3) := by decide +kernel
theorem dX2_takeOut_35 : decode cX2_takeOut 35 = .ok (.aload_n 0, 1) := by decide +kernel
theorem dX2_takeOut_36 : decode cX2_takeOut 36 = .ok (.getfield 11, 3) := by decide +kernel
theorem dX2_takeOut_39 : decode cX2_takeOut 39 = .ok (.iload 4, 2) := by decide +kernel
theorem dX2_takeOut_41 : decode cX2_takeOut 41 = .ok (.aload_n 0, 1) := by decide +kernel
theorem dX2_takeOut_42 : decode cX2_takeOut 42 = .ok (.getfield 11, 3) := by decide +kernel
theorem dX2_takeOut_45 : decode cX2_takeOut 45 = .ok (.iload 4, 2) := by decide +kernel
theorem dX2_takeOut_47 : decode cX2_takeOut 47 = .ok (.iconst 1, 1) := by decide +kernel
theorem dX2_takeOut_48 : decode cX2_takeOut 48 = .ok (.iadd, 1) := by decide +kernel
theorem dX2_takeOut_49 : decode cX2_takeOut 49 = .ok (.iaload, 1) := by decide +kernel
theorem dX2_takeOut_50 : decode cX2_takeOut 50 = .ok (.iastore, 1) := by decide +kernel
theorem dX2_takeOut_51 : decode cX2_takeOut 51 = .ok (.aload_n 0, 1) := by decide +kernel
theorem dX2_takeOut_52 : decode cX2_takeOut 52 = .ok (.getfield 15, 3) := by decide +kernel
theorem dX2_takeOut_55 : decode cX2_takeOut 55 = .ok (.iload 4, 2) := by decide +kernel
theorem dX2_takeOut_57 : decode cX2_takeOut 57 = .ok (.aload_n 0, 1) := by decide +kernel
theorem dX2_takeOut_58 : decode cX2_takeOut 58 = .ok (.getfield 15, 3) := by decide +kernel
theorem dX2_takeOut_61 : decode cX2_takeOut 61 = .ok (.iload 4, 2) := by decide +kernel
theorem dX2_takeOut_63 : decode cX2_takeOut 63 = .ok (.iconst 1, 1) := by decide +kernel
theorem dX2_takeOut_64 : decode cX2_takeOut 64 = .ok (.iadd, 1) := by decide +kernel
theorem dX2_takeOut_65 : decode cX2_takeOut 65 = .ok (.iaload, 1) := by decide +kernel
theorem dX2_takeOut_66 : decode cX2_takeOut 66 = .ok (.iastore, 1) := by decide +kernel
theorem dX2_takeOut_67 : decode cX2_takeOut 67 = .ok (.aload_n 0, 1) := by decide +kernel
theorem dX2_takeOut_68 : decode cX2_takeOut 68 = .ok (.getfield 18, 3) := by decide +kernel
theorem dX2_takeOut_71 : decode cX2_takeOut 71 = .ok (.iload 4, 2) := by decide +kernel
theorem dX2_takeOut_73 : decode cX2_takeOut 73 = .ok (.aload_n 0, 1) := by decide +kernel
theorem dX2_takeOut_74 : decode cX2_takeOut 74 = .ok (.getfield 18, 3) := by decide +kernel
theorem dX2_takeOut_77 : decode cX2_takeOut 77 = .ok (.iload 4, 2) := by decide +kernel
theorem dX2_takeOut_79 : decode cX2_takeOut 79 = .ok (.iconst 1, 1) := by decide +kernel
theorem dX2_takeOut_80 : decode cX2_takeOut 80 = .ok (.iadd, 1) := by decide +kernel
theorem dX2_takeOut_81 : decode cX2_takeOut 81 = .ok (.iaload, 1) := by decide +kernel
theorem dX2_takeOut_82 : decode cX2_takeOut 82 = .ok (.iastore, 1) := by decide +kernel
theorem dX2_takeOut_83 : decode cX2_takeOut 83 = .ok (.iinc 4 1, 3) := by decide +kernel
theorem dX2_takeOut_86 : decode cX2_takeOut 86 = .ok (.goto (-60), 3) := by decide +kernel
theorem dX2_takeOut_89 : decode cX2_takeOut 89 = .ok (.return_, 1) := by decide +kernel
theorem dX3_init_0 : decode cX3_init 0 = .ok (.aload_n 0, 1) := by decide +kernel
theorem dX3_init_1 : decode cX3_init 1 = .ok (.invokespecial 1, 3) := by decide +kernel
theorem dX3_init_4 : decode cX3_init 4 = .ok (.aload_n 0, 1) := by decide +kernel
theorem dX3_init_5 : decode cX3_init 5 = .ok (.new 7, 3) := by decide +kernel
theorem dX3_init_8 : decode cX3_init 8 = .ok (.dup, 1) := by decide +kernel
theorem dX3_init_9 : decode cX3_init 9 = .ok (.invokespecial 9, 3) := by decide +kernel
theorem dX3_init_12 : decode cX3_init 12 = .ok (.putfield 10, 3) := by decide +kernel
theorem dX3_init_15 : decode cX3_init 15 = .ok (.aload_n 0, 1) := by decide +kernel
theorem dX3_init_16 : decode cX3_init 16 = .ok (.new 16, 3) := by decide +kernel
theorem dX3_init_19 : decode cX3_init 19 = .ok (.dup, 1) := by decide +kernel
theorem dX3_init_20 : decode cX3_init 20 = .ok (.invokespecial 18, 3) := by decide +kernel
theorem dX3_init_23 : decode cX3_init 23 = .ok (.putfield 19, 3) := by decide +kernel
theorem dX3_init_26 : decode cX3_init 26 = .ok (.aload_n 0, 1) := by decide +kernel
theorem dX3_init_27 : decode cX3_init 27 = .ok (.bipush 12, 2) := by decide +kernel
theorem dX3_init_29 : decode cX3_init 29 = .ok (.anewarray 23, 3) := by decide +kernel
theorem dX3_init_32 : decode cX3_init 32 = .ok (.putfield 25, 3) := by decide +kernel
theorem dX3_init_35 : decode cX3_init 35 = .ok (.iconst 0, 1) := by decide +kernel
theorem dX3_init_36 : decode cX3_init 36 = .ok (.istore_n 1, 1) := by decide +kernel
theorem dX3_init_37 : decode cX3_init 37 = .ok (.iload_n 1, 1) := by decide +kernel
theorem dX3_init_38 : decode cX3_init 38 = .ok (.bipush 12, 2) := by decide +kernel
theorem dX3_init_40 : decode cX3_init 40 = .ok (.if_icmp .ge 22, 3) := by decide +kernel
theorem dX3_init_43 : decode cX3_init 43 = .ok (.aload_n 0, 1) := by decide +kernel
theorem dX3_init_44 : decode cX3_init 44 = .ok (.getfield 25, 3) := by decide +kernel
theorem dX3_init_47 : decode cX3_init 47 = .ok (.iload_n 1, 1) := by decide +kernel
theorem dX3_init_48 : decode cX3_init 48 = .ok (.new 23, 3) := by decide +kernel
theorem dX3_init_51 : decode cX3_init 51 = .ok (.dup, 1) := by decide +kernel
theorem dX3_init_52 : decode cX3_init 52 = .ok (.invokespecial 29, 3) := by decide +kernel
theorem dX3_init_55 : decode cX3_init 55 = .ok (.aastore, 1) := by decide +kernel
theorem dX3_init_56 : decode cX3_init 56 = .ok (.iinc 1 1, 3) := by decide +kernel
theorem dX3_init_59 : decode cX3_init 59 = .ok (.goto (-22), 3) := by decide +kernel
theorem dX3_init_62 : decode cX3_init 62 = .ok (.aload_n 0, 1) := by decide +kernel
theorem dX3_init_63 : decode cX3_init 63 = .ok (.iconst 3, 1) := by decide +kernel
theorem dX3_init_64 : decode cX3_init 64 = .ok (.newarray .int, 2) := by decide +kernel
theorem dX3_init_66 : decode cX3_init 66 = .ok (.putfield 30, 3) := by decide +kernel
theorem dX3_init_69 : decode cX3_init 69 = .ok (.aload_n 0, 1) := by decide +kernel
theorem dX3_init_70 : decode cX3_init 70 = .ok (.bipush 10, 2) := by decide +kernel
theorem dX3_init_72 : decode cX3_init 72 = .ok (.newarray .int, 2) := by decide +kernel
theorem dX3_init_74 : decode cX3_init 74 = .ok (.putfield 34, 3) := by decide +kernel
theorem dX3_init_77 : decode cX3_init 77 = .ok (.aload_n 0, 1) := by decide +kernel
theorem dX3_init_78 : decode cX3_init 78 = .ok (.bipush 10, 2) := by decide +kernel
theorem dX3_init_80 : decode cX3_init 80 = .ok (.newarray .int, 2) := by decide +kernel
theorem dX3_init_82 : decode cX3_init 82 = .ok (.putfield 37, 3) := by decide +kernel
theorem dX3_init_85 : decode cX3_init 85 = .ok (.aload_n 0, 1) := by decide +kernel
theorem dX3_init_86 : decode cX3_init 86 = .ok (.bipush 6, 2) := by decide +kernel
theorem dX3_init_88 : decode cX3_init 88 = .ok (.newarray .boolean, 2) := by decide +kernel
theorem dX3_init_90 : decode cX3_init 90 = .ok (.putfield 40, 3) := by decide +kernel
theorem dX3_init_93 : decode cX3_init 93 = .ok (.return_, 1) := by decide +kernel
theorem dX3_room_0 : decode cX3_room 0 = .ok (.iload_n 1, 1) := by decide +kernel
theorem dX3_room_1 : decode cX3_room 1 = .ok (.iconst 1, 1) := by decide +kernel
theorem dX3_room_2 : decode cX3_room 2 = .ok (.if_icmp .lt 9, 3) := by decide +kernel
theorem dX3_room_5 : decode cX3_room 5 = .ok (.iload_n 1, 1) := by decide +kernel
theorem dX3_room_6 : decode cX3_room 6 = .ok (.bipush 6, 2) := by decide +kernel
theorem dX3_room_8 : decode cX3_room 8 = .ok (.if_icmp .le 13, 3) := by decide +kernel
theorem dX3_room_11 : decode cX3_room 11 = .ok (.new 44, 3) := by decide +kernel
theorem dX3_room_14 : decode cX3_room 14 = .ok (.dup, 1) := by decide +kernel
theorem dX3_room_15 : decode cX3_room 15 = .ok (.ldc 46, 2) := by decide +kernel
theorem dX3_room_17 : decode cX3_room 17 = .ok (.invokespecial 48, 3) := by decide +kernel
theorem dX3_room_20 : decode cX3_room 20 = .ok (.athrow, 1) := by decide +kernel
theorem dX3_room_21 : decode cX3_room 21 = .ok (.aload_n 0, 1) := by decide +kernel
theorem dX3_room_22 : decode cX3_room 22 = .ok (.getfield 51, 3) := by decide +kernel
theorem dX3_room_25 : decode cX3_room 25 = .ok (.iconst 3, 1) := by decide +kernel
theorem dX3_room_26 : decode cX3_room 26 = .ok (.if_icmp .lt 13, 3) := by decide +kernel
theorem dX3_room_29 : decode cX3_room 29 = .ok (.new 55, 3) := by decide +kernel
theorem dX3_room_32 : decode cX3_room 32 = .ok (.dup, 1) := by decide +kernel
theorem dX3_room_33 : decode cX3_room 33 = .ok (.ldc 57, 2) := by decide +kernel
theorem dX3_room_35 : decode cX3_room 35 = .ok (.invokespecial 59, 3) := by decide +kernel
theorem dX3_room_38 : decode cX3_room 38 = .ok (.athrow, 1) := by decide +kernel
theorem dX3_room_39 : decode cX3_room 39 = .ok (.aload_n 0, 1) := by decide +kernel
theorem dX3_room_40 : decode cX3_room 40 = .ok (.getfield 30, 3) := by decide +kernel
theorem dX3_room_43 : decode cX3_room 43 = .ok (.aload_n 0, 1) := by decide +kernel
theorem dX3_room_44 : decode cX3_room 44 = .ok (.getfield 51, 3) := by decide +kernel
theorem dX3_room_47 : decode cX3_room 47 = .ok (.iload_n 1, 1) := by decide +kernel
theorem dX3_room_48 : decode cX3_room 48 = .ok (.iastore, 1) := by decide +kernel
theorem dX3_room_49 : decode cX3_room 49 = .ok (.aload_n 0, 1) := by decide +kernel
theorem dX3_room_50 : decode cX3_room 50 = .ok (.dup, 1) := by decide +kernel
theorem dX3_room_51 : decode cX3_room 51 = .ok (.getfield 51, 3) := by decide +kernel
theorem dX3_room_54 : decode cX3_room 54 = .ok (.iconst 1, 1) := by decide +kernel
theorem dX3_room_55 : decode cX3_room 55 = .ok (.iadd, 1) := by decide +kernel
theorem dX3_room_56 : decode cX3_room 56 = .ok (.putfield 51, 3) := by decide +kernel
theorem dX3_room_59 : decode cX3_room 59 = .ok (.aload_n 0, 1) := by decide +kernel
theorem dX3_room_60 : decode cX3_room 60 = .ok (.getfield 51, 3) := by decide +kernel
theorem dX3_room_63 : decode cX3_room 63 = .ok (.iconst 1, 1) := by decide +kernel
theorem dX3_room_64 : decode cX3_room 64 = .ok (.isub, 1) := by decide +kernel
theorem dX3_room_65 : decode cX3_room 65 = .ok (.ireturn, 1) := by decide +kernel
theorem dX3_exam_0 : decode cX3_exam 0 = .ok (.aload_n 0, 1) := by decide +kernel
theorem dX3_exam_1 : decode cX3_exam 1 = .ok (.getfield 60, 3) := by decide +kernel
theorem dX3_exam_4 : decode cX3_exam 4 = .ok (.bipush 6, 2) := by decide +kernel
theorem dX3_exam_6 : decode cX3_exam 6 = .ok (.if_icmp .lt 13, 3) := by decide +kernel
theorem dX3_exam_9 : decode cX3_exam 9 = .ok (.new 55, 3) := by decide +kernel
theorem dX3_exam_12 : decode cX3_exam 12 = .ok (.dup, 1) := by decide +kernel
theorem dX3_exam_13 : decode cX3_exam 13 = .ok (.ldc 63, 2) := by decide +kernel
theorem dX3_exam_15 : decode cX3_exam 15 = .ok (.invokespecial 59, 3) := by decide +kernel
theorem dX3_exam_18 : decode cX3_exam 18 = .ok (.athrow, 1) := by decide +kernel
theorem dX3_exam_19 : decode cX3_exam 19 = .ok (.aload_n 0, 1) := by decide +kernel
theorem dX3_exam_20 : decode cX3_exam 20 = .ok (.dup, 1) := by decide +kernel
theorem dX3_exam_21 : decode cX3_exam 21 = .ok (.getfield 60, 3) := by decide +kernel
theorem dX3_exam_24 : decode cX3_exam 24 = .ok (.iconst 1, 1) := by decide +kernel
theorem dX3_exam_25 : decode cX3_exam 25 = .ok (.iadd, 1) := by decide +kernel
theorem dX3_exam_26 : decode cX3_exam 26 = .ok (.putfield 60, 3) := by decide +kernel
theorem dX3_exam_29 : decode cX3_exam 29 = .ok (.aload_n 0, 1) := by decide +kernel
theorem dX3_exam_30 : decode cX3_exam 30 = .ok (.getfield 60, 3) := by decide +kernel
theorem dX3_exam_33 : decode cX3_exam 33 = .ok (.iconst 1, 1) := by decide +kernel
theorem dX3_exam_34 : decode cX3_exam 34 = .ok (.isub, 1) := by decide +kernel
theorem dX3_exam_35 : decode cX3_exam 35 = .ok (.ireturn, 1) := by decide +kernel
theorem dX3_pupil_0 : decode cX3_pupil 0 = .ok (.aload_n 0, 1) := by decide +kernel
theorem dX3_pupil_1 : decode cX3_pupil 1 = .ok (.getfield 65, 3) := by decide +kernel
theorem dX3_pupil_4 : decode cX3_pupil 4 = .ok (.bipush 10, 2) := by decide +kernel
theorem dX3_pupil_6 : decode cX3_pupil 6 = .ok (.if_icmp .lt 13, 3) := by decide +kernel
theorem dX3_pupil_9 : decode cX3_pupil 9 = .ok (.new 55, 3) := by decide +kernel
theorem dX3_pupil_12 : decode cX3_pupil 12 = .ok (.dup, 1) := by decide +kernel
theorem dX3_pupil_13 : decode cX3_pupil 13 = .ok (.ldc 68, 2) := by decide +kernel
theorem dX3_pupil_15 : decode cX3_pupil 15 = .ok (.invokespecial 59, 3) := by decide +kernel
theorem dX3_pupil_18 : decode cX3_pupil 18 = .ok (.athrow, 1) := by decide +kernel
theorem dX3_pupil_19 : decode cX3_pupil 19 = .ok (.aload_n 0, 1) := by decide +kernel
theorem dX3_pupil_20 : decode cX3_pupil 20 = .ok (.getfield 34, 3) := by decide +kernel
theorem dX3_pupil_23 : decode cX3_pupil 23 = .ok (.aload_n 0, 1) := by decide +kernel
theorem dX3_pupil_24 : decode cX3_pupil 24 = .ok (.getfield 65, 3) := by decide +kernel
theorem dX3_pupil_27 : decode cX3_pupil 27 = .ok (.bipush 100, 2) := by decide +kernel
theorem dX3_pupil_29 : decode cX3_pupil 29 = .ok (.iastore, 1) := by decide +kernel
theorem dX3_pupil_30 : decode cX3_pupil 30 = .ok (.aload_n 0, 1) := by decide +kernel
theorem dX3_pupil_31 : decode cX3_pupil 31 = .ok (.dup, 1) := by decide +kernel
theorem dX3_pupil_32 : decode cX3_pupil 32 = .ok (.getfield 65, 3) := by decide +kernel
theorem dX3_pupil_35 : decode cX3_pupil 35 = .ok (.iconst 1, 1) := by decide +kernel
theorem dX3_pupil_36 : decode cX3_pupil 36 = .ok (.iadd, 1) := by decide +kernel
theorem dX3_pupil_37 : decode cX3_pupil 37 = .ok (.putfield 65, 3) := by decide +kernel
theorem dX3_pupil_40 : decode cX3_pupil 40 = .ok (.aload_n 0, 1) := by decide +kernel
theorem dX3_pupil_41 : decode cX3_pupil 41 = .ok (.getfield 65, 3) := by decide +kernel
theorem dX3_pupil_44 : decode cX3_pupil 44 = .ok (.iconst 1, 1) := by decide +kernel
theorem dX3_pupil_45 : decode cX3_pupil 45 = .ok (.isub, 1) := by decide +kernel
theorem dX3_pupil_46 : decode cX3_pupil 46 = .ok (.ireturn, 1) := by decide +kernel
theorem dX3_offer_0 : decode cX3_offer 0 = .ok (.aload_n 0, 1) := by decide +kernel
theorem dX3_offer_1 : decode cX3_offer 1 = .ok (.iload_n 1, 1) := by decide +kernel
theorem dX3_offer_2 : decode cX3_offer 2 = .ok (.invokevirtual 70, 3) := by decide +kernel
theorem dX3_offer_5 : decode cX3_offer 5 = .ok (.iload_n 3, 1) := by decide +kernel
theorem dX3_offer_6 : decode cX3_offer 6 = .ok (.ifCond .lt 11, 3) := by decide +kernel
theorem dX3_offer_9 : decode cX3_offer 9 = .ok (.iload_n 3, 1) := by decide +kernel
theorem dX3_offer_10 : decode cX3_offer 10 = .ok (.aload_n 0, 1) := by decide +kernel
theorem dX3_offer_11 : decode cX3_offer 11 = .ok (.getfield 51, 3) := by decide +kernel
theorem dX3_offer_14 : decode cX3_offer 14 = .ok (.if_icmp .lt 13, 3) := by decide +kernel
theorem dX3_offer_17 : decode cX3_offer 17 = .ok (.new 74, 3) := by decide +kernel
theorem dX3_offer_20 : decode cX3_offer 20 = .ok (.dup, 1) := by decide +kernel
theorem dX3_offer_21 : decode cX3_offer 21 = .ok (.ldc 76, 2) := by decide +kernel
theorem dX3_offer_23 : decode cX3_offer 23 = .ok (.invokespecial 78, 3) := by decide +kernel
theorem dX3_offer_26 : decode cX3_offer 26 = .ok (.athrow, 1) := by decide +kernel
theorem dX3_offer_27 : decode cX3_offer 27 = .ok (.iload_n 2, 1) := by decide +kernel
theorem dX3_offer_28 : decode cX3_offer 28 = .ok (.invokestatic 79, 3) := by decide +kernel
theorem dX3_offer_31 : decode cX3_offer 31 = .ok (.aload_n 0, 1) := by decide +kernel
theorem dX3_offer_32 : decode cX3_offer 32 = .ok (.getfield 40, 3) := by decide +kernel
theorem dX3_offer_35 : decode cX3_offer 35 = .ok (.iload_n 2, 1) := by decide +kernel
theorem dX3_offer_36 : decode cX3_offer 36 = .ok (.baload, 1) := by decide +kernel
theorem dX3_offer_37 : decode cX3_offer 37 = .ok (.ifCond .ne 12, 3) := by decide +kernel
theorem dX3_offer_40 : decode cX3_offer 40 = .ok (.aload_n 0, 1) := by decide +kernel
theorem dX3_offer_41 : decode cX3_offer 41 = .ok (.iload_n 3, 1) := by decide +kernel
theorem dX3_offer_42 : decode cX3_offer 42 = .ok (.iload_n 2, 1) := by decide +kernel
theorem dX3_offer_43 : decode cX3_offer 43 = .ok (.invokevirtual 82, 3) := by decide +kernel
theorem dX3_offer_46 : decode cX3_offer 46 = .ok (.ifCond .eq 13, 3) := by decide +kernel
theorem dX3_offer_49 : decode cX3_offer 49 = .ok (.new 86, 3) := by decide +kernel
theorem dX3_offer_52 : decode cX3_offer 52 = .ok (.dup, 1) := by decide +kernel
theorem dX3_offer_53 : decode cX3_offer 53 = .ok (.ldc 88, 2) := by decide +kernel
theorem dX3_offer_55 : decode cX3_offer 55 = .ok (.invokespecial 90, 3) := by decide +kernel
theorem dX3_offer_58 : decode cX3_offer 58 = .ok (.athrow, 1) := by decide +kernel
theorem dX3_offer_59 : decode cX3_offer 59 = .ok (.aload_n 0, 1) := by decide +kernel
theorem dX3_offer_60 : decode cX3_offer 60 = .ok (.getfield 91, 3) := by decide +kernel
theorem dX3_offer_63 : decode cX3_offer 63 = .ok (.bipush 12, 2) := by decide +kernel
theorem dX3_offer_65 : decode cX3_offer 65 = .ok (.if_icmp .lt 13, 3) := by decide +kernel
theorem dX3_offer_68 : decode cX3_offer 68 = .ok (.new 55, 3) := by decide +kernel
theorem dX3_offer_71 : decode cX3_offer 71 = .ok (.dup, 1) := by decide +kernel
theorem dX3_offer_72 : decode cX3_offer 72 = .ok (.ldc 94, 2) := by decide +kernel
theorem dX3_offer_74 : decode cX3_offer 74 = .ok (.invokespecial 59, 3) := by decide +kernel
theorem dX3_offer_77 : decode cX3_offer 77 = .ok (.athrow, 1) := by decide +kernel
theorem dX3_offer_78 : decode cX3_offer 78 = .ok (.aload_n 0, 1) := by decide +kernel
theorem dX3_offer_79 : decode cX3_offer 79 = .ok (.getfield 25, 3) := by decide +kernel
theorem dX3_offer_82 : decode cX3_offer 82 = .ok (.aload_n 0, 1) := by decide +kernel
theorem dX3_offer_83 : decode cX3_offer 83 = .ok (.getfield 91, 3) := by decide +kernel
theorem dX3_offer_86 : decode cX3_offer 86 = .ok (.aaload, 1) := by decide +kernel
theorem dX3_offer_87 : decode cX3_offer 87 = .ok (.iload_n 1, 1) := by decide +kernel
theorem dX3_offer_88 : decode cX3_offer 88 = .ok (.iload_n 2, 1) := by decide +kernel
theorem dX3_offer_89 : decode cX3_offer 89 = .ok (.iload_n 3, 1) := by decide +kernel
theorem dX3_offer_90 : decode cX3_offer 90 = .ok (.aload_n 0, 1) := by decide +kernel
theorem dX3_offer_91 : decode cX3_offer 91 = .ok (.getfield 30, 3) := by decide +kernel
theorem dX3_offer_94 : decode cX3_offer 94 = .ok (.iload_n 3, 1) := by decide +kernel
theorem dX3_offer_95 : decode cX3_offer 95 = .ok (.iaload, 1) := by decide +kernel
theorem dX3_offer_96 : decode cX3_offer 96 = .ok (.iload 4, 2) := by decide +kernel
theorem dX3_offer_98 : decode cX3_offer 98 = .ok (.invokevirtual 96, 3) := by decide +kernel
theorem dX3_offer_101 : decode cX3_offer 101 = .ok (.aload_n 0, 1) := by decide +kernel
theorem dX3_offer_102 : decode cX3_offer 102 = .ok (.dup, 1) := by decide +kernel
theorem dX3_offer_103 : decode cX3_offer 103 = .ok (.getfield 91, 3) := by decide +kernel
theorem dX3_offer_106 : decode cX3_offer 106 = .ok (.iconst 1, 1) := by decide +kernel
theorem dX3_offer_107 : decode cX3_offer 107 = .ok (.iadd, 1) := by decide +kernel
theorem dX3_offer_108 : decode cX3_offer 108 = .ok (.putfield 91, 3) := by decide +kernel
theorem dX3_offer_111 : decode cX3_offer 111 = .ok (.aload_n 0, 1) := by decide +kernel
theorem dX3_offer_112 : decode cX3_offer 112 = .ok (.getfield 91, 3) := by decide +kernel
theorem dX3_offer_115 : decode cX3_offer 115 = .ok (.iconst 1, 1) := by decide +kernel
theorem dX3_offer_116 : decode cX3_offer 116 = .ok (.isub, 1) := by decide +kernel
theorem dX3_offer_117 : decode cX3_offer 117 = .ok (.ireturn, 1) := by decide +kernel
theorem dX3_slotOf_0 : decode cX3_slotOf 0 = .ok (.aload_n 0, 1) := by decide +kernel
theorem dX3_slotOf_1 : decode cX3_slotOf 1 = .ok (.iload_n 1, 1) := by decide +kernel
theorem dX3_slotOf_2 : decode cX3_slotOf 2 = .ok (.invokevirtual 100, 3) := by decide +kernel
theorem dX3_slotOf_5 : decode cX3_slotOf 5 = .ok (.getfield 104, 3) := by decide +kernel
theorem dX3_slotOf_8 : decode cX3_slotOf 8 = .ok (.ireturn, 1) := by decide +kernel
theorem dX3_bid_0 : decode cX3_bid 0 = .ok (.aload_n 0, 1) := by decide +kernel
theorem dX3_bid_1 : decode cX3_bid 1 = .ok (.iload_n 1, 1) := by decide +kernel
theorem dX3_bid_2 : decode cX3_bid 2 = .ok (.invokevirtual 107, 3) := by decide +kernel
theorem dX3_bid_5 : decode cX3_bid 5 = .ok (.aload_n 0, 1) := by decide +kernel
theorem dX3_bid_6 : decode cX3_bid 6 = .ok (.iload_n 2, 1) := by decide +kernel
theorem dX3_bid_7 : decode cX3_bid 7 = .ok (.invokevirtual 100, 3) := by decide +kernel
theorem dX3_bid_10 : decode cX3_bid 10 = .ok (.astore 4, 2) := by decide +kernel
theorem dX3_bid_12 : decode cX3_bid 12 = .ok (.iload_n 3, 1) := by decide +kernel
theorem dX3_bid_13 : decode cX3_bid 13 = .ok (.iconst 1, 1) := by decide +kernel
theorem dX3_bid_14 : decode cX3_bid 14 = .ok (.if_icmp .lt 9, 3) := by decide +kernel
theorem dX3_bid_17 : decode cX3_bid 17 = .ok (.iload_n 3, 1) := by decide +kernel
theorem dX3_bid_18 : decode cX3_bid 18 = .ok (.bipush 100, 2) := by decide +kernel
theorem dX3_bid_20 : decode cX3_bid 20 = .ok (.if_icmp .le 13, 3) := by decide +kernel
theorem dX3_bid_23 : decode cX3_bid 23 = .ok (.new 44, 3) := by decide +kernel
theorem dX3_bid_26 : decode cX3_bid 26 = .ok (.dup, 1) := by decide +kernel
theorem dX3_bid_27 : decode cX3_bid 27 = .ok (.ldc 110, 2) := by decide +kernel
theorem dX3_bid_29 : decode cX3_bid 29 = .ok (.invokespecial 48, 3) := by decide +kernel
theorem dX3_bid_32 : decode cX3_bid 32 = .ok (.athrow, 1) := by decide +kernel
theorem dX3_bid_33 : decode cX3_bid 33 = .ok (.aload_n 0, 1) := by decide +kernel
theorem dX3_bid_34 : decode cX3_bid 34 = .ok (.getfield 19, 3) := by decide +kernel
theorem dX3_bid_37 : decode cX3_bid 37 = .ok (.iload_n 1, 1) := by decide +kernel
theorem dX3_bid_38 : decode cX3_bid 38 = .ok (.invokevirtual 112, 3) := by decide +kernel
theorem dX3_bid_41 : decode cX3_bid 41 = .ok (.aload_n 0, 1) := by decide +kernel
theorem dX3_bid_42 : decode cX3_bid 42 = .ok (.getfield 19, 3) := by decide +kernel
theorem dX3_bid_45 : decode cX3_bid 45 = .ok (.iload_n 1, 1) := by decide +kernel
theorem dX3_bid_46 : decode cX3_bid 46 = .ok (.iload_n 2, 1) := by decide +kernel
theorem dX3_bid_47 : decode cX3_bid 47 = .ok (.invokevirtual 116, 3) := by decide +kernel
theorem dX3_bid_50 : decode cX3_bid 50 = .ok (.isub, 1) := by decide +kernel
theorem dX3_bid_51 : decode cX3_bid 51 = .ok (.iload_n 3, 1) := by decide +kernel
theorem dX3_bid_52 : decode cX3_bid 52 = .ok (.iadd, 1) := by decide +kernel
theorem dX3_bid_53 : decode cX3_bid 53 = .ok (.istore 5, 2) := by decide +kernel
theorem dX3_bid_55 : decode cX3_bid 55 = .ok (.aload_n 0, 1) := by decide +kernel
theorem dX3_bid_56 : decode cX3_bid 56 = .ok (.aload 4, 2) := by decide +kernel
theorem dX3_bid_58 : decode cX3_bid 58 = .ok (.invokevirtual 120, 3) := by decide +kernel
theorem dX3_bid_61 : decode cX3_bid 61 = .ok (.ifCond .ne 14, 3) := by decide +kernel
theorem dX3_bid_64 : decode cX3_bid 64 = .ok (.iload 5, 2) := by decide +kernel
theorem dX3_bid_66 : decode cX3_bid 66 = .ok (.aload_n 0, 1) := by decide +kernel
theorem dX3_bid_67 : decode cX3_bid 67 = .ok (.getfield 34, 3) := by decide +kernel
theorem dX3_bid_70 : decode cX3_bid 70 = .ok (.iload_n 1, 1) := by decide +kernel
theorem dX3_bid_71 : decode cX3_bid 71 = .ok (.iaload, 1) := by decide +kernel
theorem dX3_bid_72 : decode cX3_bid 72 = .ok (.if_icmp .le 13, 3) := by decide +kernel
theorem dX3_bid_75 : decode cX3_bid 75 = .ok (.new 86, 3) := by decide +kernel
theorem dX3_bid_78 : decode cX3_bid 78 = .ok (.dup, 1) := by decide +kernel
theorem dX3_bid_79 : decode cX3_bid 79 = .ok (.ldc 124, 2) := by decide +kernel
theorem dX3_bid_81 : decode cX3_bid 81 = .ok (.invokespecial 90, 3) := by decide +kernel
theorem dX3_bid_84 : decode cX3_bid 84 = .ok (.athrow, 1) := by decide +kernel
theorem dX3_bid_85 : decode cX3_bid 85 = .ok (.aload_n 0, 1) := by decide +kernel
theorem dX3_bid_86 : decode cX3_bid 86 = .ok (.getfield 19, 3) := by decide +kernel
theorem dX3_bid_89 : decode cX3_bid 89 = .ok (.iload_n 1, 1) := by decide +kernel
theorem dX3_bid_90 : decode cX3_bid 90 = .ok (.iload_n 2, 1) := by decide +kernel
theorem dX3_bid_91 : decode cX3_bid 91 = .ok (.invokevirtual 126, 3) := by decide +kernel
theorem dX3_bid_94 : decode cX3_bid 94 = .ok (.aload_n 0, 1) := by decide +kernel
theorem dX3_bid_95 : decode cX3_bid 95 = .ok (.getfield 19, 3) := by decide +kernel
theorem dX3_bid_98 : decode cX3_bid 98 = .ok (.iload_n 1, 1) := by decide +kernel
theorem dX3_bid_99 : decode cX3_bid 99 = .ok (.iload_n 2, 1) := by decide +kernel
theorem dX3_bid_100 : decode cX3_bid 100 = .ok (.iload_n 3, 1) := by decide +kernel
theorem dX3_bid_101 : decode cX3_bid 101 = .ok (.invokevirtual 130, 3) := by decide +kernel
theorem dX3_bid_104 : decode cX3_bid 104 = .ok (.iload 5, 2) := by decide +kernel
theorem dX3_bid_106 : decode cX3_bid 106 = .ok (.ireturn, 1) := by decide +kernel
theorem dX3_unbid_0 : decode cX3_unbid 0 = .ok (.aload_n 0, 1) := by decide +kernel
theorem dX3_unbid_1 : decode cX3_unbid 1 = .ok (.iload_n 1, 1) := by decide +kernel
theorem dX3_unbid_2 : decode cX3_unbid 2 = .ok (.invokevirtual 107, 3) := by decide +kernel
theorem dX3_unbid_5 : decode cX3_unbid 5 = .ok (.aload_n 0, 1) := by decide +kernel
theorem dX3_unbid_6 : decode cX3_unbid 6 = .ok (.iload_n 2, 1) := by decide +kernel
theorem dX3_unbid_7 : decode cX3_unbid 7 = .ok (.invokevirtual 134, 3) := by decide +kernel
theorem dX3_unbid_10 : decode cX3_unbid 10 = .ok (.aload_n 0, 1) := by decide +kernel
theorem dX3_unbid_11 : decode cX3_unbid 11 = .ok (.getfield 19, 3) := by decide +kernel
theorem dX3_unbid_14 : decode cX3_unbid 14 = .ok (.iload_n 1, 1) := by decide +kernel
theorem dX3_unbid_15 : decode cX3_unbid 15 = .ok (.iload_n 2, 1) := by decide +kernel
theorem dX3_unbid_16 : decode cX3_unbid 16 = .ok (.invokevirtual 116, 3) := by decide +kernel
theorem dX3_unbid_19 : decode cX3_unbid 19 = .ok (.istore_n 3, 1) := by decide +kernel
theorem dX3_unbid_20 : decode cX3_unbid 20 = .ok (.iload_n 3, 1) := by decide +kernel
theorem dX3_unbid_21 : decode cX3_unbid 21 = .ok (.ifCond .ne 13, 3) := by decide +kernel
theorem dX3_unbid_24 : decode cX3_unbid 24 = .ok (.new 137, 3) := by decide +kernel
theorem dX3_unbid_27 : decode cX3_unbid 27 = .ok (.dup, 1) := by decide +kernel
theorem dX3_unbid_28 : decode cX3_unbid 28 = .ok (.ldc 139, 2) := by decide +kernel
theorem dX3_unbid_30 : decode cX3_unbid 30 = .ok (.invokespecial 141, 3) := by decide +kernel
theorem dX3_unbid_33 : decode cX3_unbid 33 = .ok (.athrow, 1) := by decide +kernel
theorem dX3_unbid_34 : decode cX3_unbid 34 = .ok (.aload_n 0, 1) := by decide +kernel
theorem dX3_unbid_35 : decode cX3_unbid 35 = .ok (.getfield 19, 3) := by decide +kernel
theorem dX3_unbid_38 : decode cX3_unbid 38 = .ok (.iload_n 1, 1) := by decide +kernel
theorem dX3_unbid_39 : decode cX3_unbid 39 = .ok (.iload_n 2, 1) := by decide +kernel
theorem dX3_unbid_40 : decode cX3_unbid 40 = .ok (.invokevirtual 126, 3) := by decide +kernel
theorem dX3_unbid_43 : decode cX3_unbid 43 = .ok (.iload_n 3, 1) := by decide +kernel
theorem dX3_unbid_44 : decode cX3_unbid 44 = .ok (.ireturn, 1) := by decide +kernel
theorem dX3_bids_0 : decode cX3_bids 0 = .ok (.aload_n 0, 1) := by decide +kernel
theorem dX3_bids_1 : decode cX3_bids 1 = .ok (.getfield 19, 3) := by decide +kernel
theorem dX3_bids_4 : decode cX3_bids 4 = .ok (.getfield 142, 3) := by decide +kernel
theorem dX3_bids_7 : decode cX3_bids 7 = .ok (.ireturn, 1) := by decide +kernel
theorem dX3_settle_0 : decode cX3_settle 0 = .ok (.iconst 0, 1) := by decide +kernel
theorem dX3_settle_1 : decode cX3_settle 1 = .ok (.istore_n 1, 1) := by decide +kernel
theorem dX3_settle_2 : decode cX3_settle 2 = .ok (.iconst 0, 1) := by decide +kernel
theorem dX3_settle_3 : decode cX3_settle 3 = .ok (.istore_n 2, 1) := by decide +kernel
theorem dX3_settle_4 : decode cX3_settle 4 = .ok (.iload_n 2, 1) := by decide +kernel
theorem dX3_settle_5 : decode cX3_settle 5 = .ok (.aload_n 0, 1) := by decide +kernel
theorem dX3_settle_6 : decode cX3_settle 6 = .ok (.getfield 19, 3) := by decide +kernel
theorem dX3_settle_9 : decode cX3_settle 9 = .ok (.getfield 142, 3) := by decide +kernel
theorem dX3_settle_12 : decode cX3_settle 12 = .ok (.if_icmp .ge 51, 3) := by decide +kernel
theorem dX3_settle_15 : decode cX3_settle 15 = .ok (.aload_n 0, 1) := by decide +kernel
theorem dX3_settle_16 : decode cX3_settle 16 = .ok (.aload_n 0, 1) := by decide +kernel
theorem dX3_settle_17 : decode cX3_settle 17 = .ok (.getfield 19, 3) := by decide +kernel
theorem dX3_settle_20 : decode cX3_settle 20 = .ok (.getfield 145, 3) := by decide +kernel
theorem dX3_settle_23 : decode cX3_settle 23 = .ok (.iload_n 2, 1) := by decide +kernel
theorem dX3_settle_24 : decode cX3_settle 24 = .ok (.iaload, 1) := by decide +kernel
theorem dX3_settle_25 : decode cX3_settle 25 = .ok (.aload_n 0, 1) := by decide +kernel
theorem dX3_settle_26 : decode cX3_settle 26 = .ok (.getfield 25, 3) := by decide +kernel
theorem dX3_settle_29 : decode cX3_settle 29 = .ok (.aload_n 0, 1) := by decide +kernel
theorem dX3_settle_30 : decode cX3_settle 30 = .ok (.getfield 19, 3) := by decide +kernel
theorem dX3_settle_33 : decode cX3_settle 33 = .ok (.getfield 148, 3) := by decide +kernel
theorem dX3_settle_36 : decode cX3_settle 36 = .ok (.iload_n 2, 1) := by decide +kernel
theorem dX3_settle_37 : decode cX3_settle 37 = .ok (.iaload, 1) := by decide +kernel
theorem dX3_settle_38 : decode cX3_settle 38 = .ok (.aaload, 1) := by decide +kernel
theorem dX3_settle_39 : decode cX3_settle 39 = .ok (.aload_n 0, 1) := by decide +kernel
theorem dX3_settle_40 : decode cX3_settle 40 = .ok (.getfield 19, 3) := by decide +kernel
theorem dX3_settle_43 : decode cX3_settle 43 = .ok (.getfield 150, 3) := by decide +kernel
theorem dX3_settle_46 : decode cX3_settle 46 = .ok (.iload_n 2, 1) := by decide +kernel
theorem dX3_settle_47 : decode cX3_settle 47 = .ok (.iaload, 1) := by decide +kernel
theorem dX3_settle_48 : decode cX3_settle 48 = .ok (.invokevirtual 153, 3) := by decide +kernel
theorem dX3_settle_51 : decode cX3_settle 51 = .ok (.ifCond .eq 6, 3) := by decide +kernel
theorem dX3_settle_54 : decode cX3_settle 54 = .ok (.iinc 1 1, 3) := by decide +kernel
theorem dX3_settle_57 : decode cX3_settle 57 = .ok (.iinc 2 1, 3) := by decide +kernel
theorem dX3_settle_60 : decode cX3_settle 60 = .ok (.goto (-56), 3) := by decide +kernel
theorem dX3_settle_63 : decode cX3_settle 63 = .ok (.aload_n 0, 1) := by decide +kernel
theorem dX3_settle_64 : decode cX3_settle 64 = .ok (.getfield 19, 3) := by decide +kernel
theorem dX3_settle_67 : decode cX3_settle 67 = .ok (.iconst 0, 1) := by decide +kernel
theorem dX3_settle_68 : decode cX3_settle 68 = .ok (.putfield 142, 3) := by decide +kernel
theorem dX3_settle_71 : decode cX3_settle 71 = .ok (.aload_n 0, 1) := by decide +kernel
theorem dX3_settle_72 : decode cX3_settle 72 = .ok (.dup, 1) := by decide +kernel
theorem dX3_settle_73 : decode cX3_settle 73 = .ok (.getfield 157, 3) := by decide +kernel
theorem dX3_settle_76 : decode cX3_settle 76 = .ok (.iconst 1, 1) := by decide +kernel
theorem dX3_settle_77 : decode cX3_settle 77 = .ok (.iadd, 1) := by decide +kernel
theorem dX3_settle_78 : decode cX3_settle 78 = .ok (.putfield 157, 3) := by decide +kernel
theorem dX3_settle_81 : decode cX3_settle 81 = .ok (.iload_n 1, 1) := by decide +kernel
theorem dX3_settle_82 : decode cX3_settle 82 = .ok (.ireturn, 1) := by decide +kernel
theorem dX3_rounds_0 : decode cX3_rounds 0 = .ok (.aload_n 0, 1) := by decide +kernel
theorem dX3_rounds_1 : decode cX3_rounds 1 = .ok (.getfield 157, 3) := by decide +kernel
theorem dX3_rounds_4 : decode cX3_rounds 4 = .ok (.ireturn, 1) := by decide +kernel
theorem dX3_points_0 : decode cX3_points 0 = .ok (.aload_n 0, 1) := by decide +kernel
theorem dX3_points_1 : decode cX3_points 1 = .ok (.iload_n 1, 1) := by decide +kernel
theorem dX3_points_2 : decode cX3_points 2 = .ok (.invokevirtual 107, 3) := by decide +kernel
theorem dX3_points_5 : decode cX3_points 5 = .ok (.aload_n 0, 1) := by decide +kernel
theorem dX3_points_6 : decode cX3_points 6 = .ok (.getfield 34, 3) := by decide +kernel
theorem dX3_points_9 : decode cX3_points 9 = .ok (.iload_n 1, 1) := by decide +kernel
theorem dX3_points_10 : decode cX3_points 10 = .ok (.iaload, 1) := by decide +kernel
theorem dX3_points_11 : decode cX3_points 11 = .ok (.ireturn, 1) := by decide +kernel
theorem dX3_seat_0 : decode cX3_seat 0 = .ok (.aload_n 0, 1) := by decide +kernel
theorem dX3_seat_1 : decode cX3_seat 1 = .ok (.iload_n 1, 1) := by decide +kernel
theorem dX3_seat_2 : decode cX3_seat 2 = .ok (.invokevirtual 107, 3) := by decide +kernel
theorem dX3_seat_5 : decode cX3_seat 5 = .ok (.aload_n 0, 1) := by decide +kernel
theorem dX3_seat_6 : decode cX3_seat 6 = .ok (.iload_n 2, 1) := by decide +kernel
theorem dX3_seat_7 : decode cX3_seat 7 = .ok (.invokevirtual 70, 3) := by decide +kernel
theorem dX3_seat_10 : decode cX3_seat 10 = .ok (.aload_n 0, 1) := by decide +kernel
theorem dX3_seat_11 : decode cX3_seat 11 = .ok (.iload_n 1, 1) := by decide +kernel
theorem dX3_seat_12 : decode cX3_seat 12 = .ok (.iload_n 2, 1) := by decide +kernel
theorem dX3_seat_13 : decode cX3_seat 13 = .ok (.iload_n 3, 1) := by decide +kernel
theorem dX3_seat_14 : decode cX3_seat 14 = .ok (.invokevirtual 160, 3) := by decide +kernel
theorem dX3_seat_17 : decode cX3_seat 17 = .ok (.istore 4, 2) := by decide +kernel
theorem dX3_seat_19 : decode cX3_seat 19 = .ok (.iload 4, 2) := by decide +kernel
theorem dX3_seat_21 : decode cX3_seat 21 = .ok (.iconst (-1), 1) := by decide +kernel
theorem dX3_seat_22 : decode cX3_seat 22 = .ok (.if_icmp .ne 13, 3) := by decide +kernel
theorem dX3_seat_25 : decode cX3_seat 25 = .ok (.new 137, 3) := by decide +kernel
theorem dX3_seat_28 : decode cX3_seat 28 = .ok (.dup, 1) := by decide +kernel
theorem dX3_seat_29 : decode cX3_seat 29 = .ok (.ldc 164, 2) := by decide +kernel
theorem dX3_seat_31 : decode cX3_seat 31 = .ok (.invokespecial 141, 3) := by decide +kernel
theorem dX3_seat_34 : decode cX3_seat 34 = .ok (.athrow, 1) := by decide +kernel
theorem dX3_seat_35 : decode cX3_seat 35 = .ok (.iload 4, 2) := by decide +kernel
theorem dX3_seat_37 : decode cX3_seat 37 = .ok (.ireturn, 1) := by decide +kernel
theorem dX3_at_0 : decode cX3_at 0 = .ok (.aload_n 0, 1) := by decide +kernel
theorem dX3_at_1 : decode cX3_at 1 = .ok (.iload_n 1, 1) := by decide +kernel
theorem dX3_at_2 : decode cX3_at 2 = .ok (.invokevirtual 107, 3) := by decide +kernel
theorem dX3_at_5 : decode cX3_at 5 = .ok (.iload_n 2, 1) := by decide +kernel
theorem dX3_at_6 : decode cX3_at 6 = .ok (.invokestatic 79, 3) := by decide +kernel
theorem dX3_at_9 : decode cX3_at 9 = .ok (.aload_n 0, 1) := by decide +kernel
theorem dX3_at_10 : decode cX3_at 10 = .ok (.iload_n 1, 1) := by decide +kernel
theorem dX3_at_11 : decode cX3_at 11 = .ok (.iload_n 2, 1) := by decide +kernel
theorem dX3_at_12 : decode cX3_at 12 = .ok (.invokevirtual 166, 3) := by decide +kernel
theorem dX3_at_15 : decode cX3_at 15 = .ok (.ireturn, 1) := by decide +kernel
theorem dX3_holders_0 : decode cX3_holders 0 = .ok (.aload_n 0, 1) := by decide +kernel
theorem dX3_holders_1 : decode cX3_holders 1 = .ok (.iload_n 1, 1) := by decide +kernel
theorem dX3_holders_2 : decode cX3_holders 2 = .ok (.invokevirtual 100, 3) := by decide +kernel
theorem dX3_holders_5 : decode cX3_holders 5 = .ok (.invokevirtual 169, 3) := by decide +kernel
theorem dX3_holders_8 : decode cX3_holders 8 = .ok (.ireturn, 1) := by decide +kernel
theorem dX3_holder_0 : decode cX3_holder 0 = .ok (.aload_n 0, 1) := by decide +kernel
theorem dX3_holder_1 : decode cX3_holder 1 = .ok (.iload_n 1, 1) := by decide +kernel
theorem dX3_holder_2 : decode cX3_holder 2 = .ok (.invokevirtual 100, 3) := by decide +kernel
theorem dX3_holder_5 : decode cX3_holder 5 = .ok (.iload_n 2, 1) := by decide +kernel
theorem dX3_holder_6 : decode cX3_holder 6 = .ok (.invokevirtual 173, 3) := by decide +kernel
theorem dX3_holder_9 : decode cX3_holder 9 = .ok (.istore_n 3, 1) := by decide +kernel
theorem dX3_holder_10 : decode cX3_holder 10 = .ok (.iload_n 3, 1) := by decide +kernel
theorem dX3_holder_11 : decode cX3_holder 11 = .ok (.iconst (-1), 1) := by decide +kernel
theorem dX3_holder_12 : decode cX3_holder 12 = .ok (.if_icmp .ne 13, 3) := by decide +kernel
theorem dX3_holder_15 : decode cX3_holder 15 = .ok (.new 137, 3) := by decide +kernel
theorem dX3_holder_18 : decode cX3_holder 18 = .ok (.dup, 1) := by decide +kernel
theorem dX3_holder_19 : decode cX3_holder 19 = .ok (.ldc 176, 2) := by decide +kernel
theorem dX3_holder_21 : decode cX3_holder 21 = .ok (.invokespecial 141, 3) := by decide +kernel
theorem dX3_holder_24 : decode cX3_holder 24 = .ok (.athrow, 1) := by decide +kernel
theorem dX3_holder_25 : decode cX3_holder 25 = .ok (.iload_n 3, 1) := by decide +kernel
theorem dX3_holder_26 : decode cX3_holder 26 = .ok (.ireturn, 1) := by decide +kernel
theorem dX3_paid_0 : decode cX3_paid 0 = .ok (.aload_n 0, 1) := by decide +kernel
theorem dX3_paid_1 : decode cX3_paid 1 = .ok (.iload_n 1, 1) := by decide +kernel
theorem dX3_paid_2 : decode cX3_paid 2 = .ok (.invokevirtual 107, 3) := by decide +kernel
theorem dX3_paid_5 : decode cX3_paid 5 = .ok (.aload_n 0, 1) := by decide +kernel
theorem dX3_paid_6 : decode cX3_paid 6 = .ok (.iload_n 2, 1) := by decide +kernel
theorem dX3_paid_7 : decode cX3_paid 7 = .ok (.invokevirtual 100, 3) := by decide +kernel
theorem dX3_paid_10 : decode cX3_paid 10 = .ok (.astore_n 3, 1) := by decide +kernel
theorem dX3_paid_11 : decode cX3_paid 11 = .ok (.aload_n 3, 1) := by decide +kernel
theorem dX3_paid_12 : decode cX3_paid 12 = .ok (.iload_n 1, 1) := by decide +kernel
theorem dX3_paid_13 : decode cX3_paid 13 = .ok (.invokevirtual 178, 3) := by decide +kernel
theorem dX3_paid_16 : decode cX3_paid 16 = .ok (.ifCond .ne 13, 3) := by decide +kernel
theorem dX3_paid_19 : decode cX3_paid 19 = .ok (.new 137, 3) := by decide +kernel
theorem dX3_paid_22 : decode cX3_paid 22 = .ok (.dup, 1) := by decide +kernel
theorem dX3_paid_23 : decode cX3_paid 23 = .ok (.ldc 182, 2) := by decide +kernel
theorem dX3_paid_25 : decode cX3_paid 25 = .ok (.invokespecial 141, 3) := by decide +kernel
theorem dX3_paid_28 : decode cX3_paid 28 = .ok (.athrow, 1) := by decide +kernel
theorem dX3_paid_29 : decode cX3_paid 29 = .ok (.aload_n 3, 1) := by decide +kernel
theorem dX3_paid_30 : decode cX3_paid 30 = .ok (.getfield 184, 3) := by decide +kernel
theorem dX3_paid_33 : decode cX3_paid 33 = .ok (.iload_n 1, 1) := by decide +kernel
theorem dX3_paid_34 : decode cX3_paid 34 = .ok (.iaload, 1) := by decide +kernel
theorem dX3_paid_35 : decode cX3_paid 35 = .ok (.ireturn, 1) := by decide +kernel
theorem dX3_waiting_0 : decode cX3_waiting 0 = .ok (.aload_n 0, 1) := by decide +kernel
theorem dX3_waiting_1 : decode cX3_waiting 1 = .ok (.iload_n 1, 1) := by decide +kernel
theorem dX3_waiting_2 : decode cX3_waiting 2 = .ok (.invokevirtual 100, 3) := by decide +kernel
theorem dX3_waiting_5 : decode cX3_waiting 5 = .ok (.getfield 187, 3) := by decide +kernel
theorem dX3_waiting_8 : decode cX3_waiting 8 = .ok (.ireturn, 1) := by decide +kernel
theorem dX3_waiter_0 : decode cX3_waiter 0 = .ok (.aload_n 0, 1) := by decide +kernel
theorem dX3_waiter_1 : decode cX3_waiter 1 = .ok (.iload_n 1, 1) := by decide +kernel
theorem dX3_waiter_2 : decode cX3_waiter 2 = .ok (.invokevirtual 100, 3) := by decide +kernel
theorem dX3_waiter_5 : decode cX3_waiter 5 = .ok (.astore_n 3, 1) := by decide +kernel
theorem dX3_waiter_6 : decode cX3_waiter 6 = .ok (.iload_n 2, 1) := by decide +kernel
theorem dX3_waiter_7 : decode cX3_waiter 7 = .ok (.ifCond .lt 11, 3) := by decide +kernel
theorem dX3_waiter_10 : decode cX3_waiter 10 = .ok (.iload_n 2, 1) := by decide +kernel
theorem dX3_waiter_11 : decode cX3_waiter 11 = .ok (.aload_n 3, 1) := by decide +kernel
theorem dX3_waiter_12 : decode cX3_waiter 12 = .ok (.getfield 187, 3) := by decide +kernel
theorem dX3_waiter_15 : decode cX3_waiter 15 = .ok (.if_icmp .lt 13, 3) := by decide +kernel
theorem dX3_waiter_18 : decode cX3_waiter 18 = .ok (.new 137, 3) := by decide +kernel
theorem dX3_waiter_21 : decode cX3_waiter 21 = .ok (.dup, 1) := by decide +kernel
theorem dX3_waiter_22 : decode cX3_waiter 22 = .ok (.ldc 190, 2) := by decide +kernel
theorem dX3_waiter_24 : decode cX3_waiter 24 = .ok (.invokespecial 141, 3) := by decide +kernel
theorem dX3_waiter_27 : decode cX3_waiter 27 = .ok (.athrow, 1) := by decide +kernel
theorem dX3_waiter_28 : decode cX3_waiter 28 = .ok (.aload_n 3, 1) := by decide +kernel
theorem dX3_waiter_29 : decode cX3_waiter 29 = .ok (.getfield 192, 3) := by decide +kernel
theorem dX3_waiter_32 : decode cX3_waiter 32 = .ok (.iload_n 2, 1) := by decide +kernel
theorem dX3_waiter_33 : decode cX3_waiter 33 = .ok (.iaload, 1) := by decide +kernel
theorem dX3_waiter_34 : decode cX3_waiter 34 = .ok (.ireturn, 1) := by decide +kernel
theorem dX3_giveUp_0 : decode cX3_giveUp 0 = .ok (.aload_n 0, 1) := by decide +kernel
theorem dX3_giveUp_1 : decode cX3_giveUp 1 = .ok (.iload_n 1, 1) := by decide +kernel
theorem dX3_giveUp_2 : decode cX3_giveUp 2 = .ok (.invokevirtual 107, 3) := by decide +kernel
theorem dX3_giveUp_5 : decode cX3_giveUp 5 = .ok (.aload_n 0, 1) := by decide +kernel
theorem dX3_giveUp_6 : decode cX3_giveUp 6 = .ok (.iload_n 2, 1) := by decide +kernel
theorem dX3_giveUp_7 : decode cX3_giveUp 7 = .ok (.invokevirtual 100, 3) := by decide +kernel
theorem dX3_giveUp_10 : decode cX3_giveUp 10 = .ok (.astore_n 3, 1) := by decide +kernel
theorem dX3_giveUp_11 : decode cX3_giveUp 11 = .ok (.aload_n 0, 1) := by decide +kernel
theorem dX3_giveUp_12 : decode cX3_giveUp 12 = .ok (.aload_n 3, 1) := by decide +kernel
theorem dX3_giveUp_13 : decode cX3_giveUp 13 = .ok (.invokevirtual 120, 3) := by decide +kernel
theorem dX3_giveUp_16 : decode cX3_giveUp 16 = .ok (.ifCond .ne 11, 3) := by decide +kernel
theorem dX3_giveUp_19 : decode cX3_giveUp 19 = .ok (.aload_n 3, 1) := by decide +kernel
theorem dX3_giveUp_20 : decode cX3_giveUp 20 = .ok (.iload_n 1, 1) := by decide +kernel
theorem dX3_giveUp_21 : decode cX3_giveUp 21 = .ok (.invokevirtual 178, 3) := by decide +kernel
theorem dX3_giveUp_24 : decode cX3_giveUp 24 = .ok (.ifCond .ne 13, 3) := by decide +kernel
theorem dX3_giveUp_27 : decode cX3_giveUp 27 = .ok (.new 86, 3) := by decide +kernel
theorem dX3_giveUp_30 : decode cX3_giveUp 30 = .ok (.dup, 1) := by decide +kernel
theorem dX3_giveUp_31 : decode cX3_giveUp 31 = .ok (.ldc 195, 2) := by decide +kernel
theorem dX3_giveUp_33 : decode cX3_giveUp 33 = .ok (.invokespecial 90, 3) := by decide +kernel
theorem dX3_giveUp_36 : decode cX3_giveUp 36 = .ok (.athrow, 1) := by decide +kernel
theorem dX3_giveUp_37 : decode cX3_giveUp 37 = .ok (.aload_n 3, 1) := by decide +kernel
theorem dX3_giveUp_38 : decode cX3_giveUp 38 = .ok (.iload_n 1, 1) := by decide +kernel
theorem dX3_giveUp_39 : decode cX3_giveUp 39 = .ok (.invokevirtual 197, 3) := by decide +kernel
theorem dX3_giveUp_42 : decode cX3_giveUp 42 = .ok (.istore 4, 2) := by decide +kernel
theorem dX3_giveUp_44 : decode cX3_giveUp 44 = .ok (.iload 4, 2) := by decide +kernel
theorem dX3_giveUp_46 : decode cX3_giveUp 46 = .ok (.iconst 2, 1) := by decide +kernel
theorem dX3_giveUp_47 : decode cX3_giveUp 47 = .ok (.idiv, 1) := by decide +kernel
theorem dX3_giveUp_48 : decode cX3_giveUp 48 = .ok (.istore 5, 2) := by decide +kernel
theorem dX3_giveUp_50 : decode cX3_giveUp 50 = .ok (.aload_n 0, 1) := by decide +kernel
theorem dX3_giveUp_51 : decode cX3_giveUp 51 = .ok (.iload_n 1, 1) := by decide +kernel
theorem dX3_giveUp_52 : decode cX3_giveUp 52 = .ok (.iload 5, 2) := by decide +kernel
theorem dX3_giveUp_54 : decode cX3_giveUp 54 = .ok (.invokevirtual 200, 3) := by decide +kernel
theorem dX3_giveUp_57 : decode cX3_giveUp 57 = .ok (.aload_n 0, 1) := by decide +kernel
theorem dX3_giveUp_58 : decode cX3_giveUp 58 = .ok (.getfield 37, 3) := by decide +kernel
theorem dX3_giveUp_61 : decode cX3_giveUp 61 = .ok (.iload_n 1, 1) := by decide +kernel
theorem dX3_giveUp_62 : decode cX3_giveUp 62 = .ok (.dup2, 1) := by decide +kernel
theorem dX3_giveUp_63 : decode cX3_giveUp 63 = .ok (.iaload, 1) := by decide +kernel
theorem dX3_giveUp_64 : decode cX3_giveUp 64 = .ok (.iload 4, 2) := by decide +kernel
theorem dX3_giveUp_66 : decode cX3_giveUp 66 = .ok (.iload 5, 2) := by decide +kernel
theorem dX3_giveUp_68 : decode cX3_giveUp 68 = .ok (.isub, 1) := by decide +kernel
theorem dX3_giveUp_69 : decode cX3_giveUp 69 = .ok (.iadd, 1) := by decide +kernel
theorem dX3_giveUp_70 : decode cX3_giveUp 70 = .ok (.iastore, 1) := by decide +kernel
theorem dX3_giveUp_71 : decode cX3_giveUp 71 = .ok (.aload_n 0, 1) := by decide +kernel
theorem dX3_giveUp_72 : decode cX3_giveUp 72 = .ok (.aload_n 3, 1) := by decide +kernel
theorem dX3_giveUp_73 : decode cX3_giveUp 73 = .ok (.invokevirtual 203, 3) := by decide +kernel
theorem dX3_giveUp_76 : decode cX3_giveUp 76 = .ok (.ireturn, 1) := by decide +kernel
theorem dX3_move_0 : decode cX3_move 0 = .ok (.aload_n 0, 1) := by decide +kernel
theorem dX3_move_1 : decode cX3_move 1 = .ok (.iload_n 1, 1) := by decide +kernel
theorem dX3_move_2 : decode cX3_move 2 = .ok (.invokevirtual 100, 3) := by decide +kernel
theorem dX3_move_5 : decode cX3_move 5 = .ok (.astore_n 3, 1) := by decide +kernel
theorem dX3_move_6 : decode cX3_move 6 = .ok (.iload_n 2, 1) := by decide +kernel
theorem dX3_move_7 : decode cX3_move 7 = .ok (.invokestatic 79, 3) := by decide +kernel
theorem dX3_move_10 : decode cX3_move 10 = .ok (.aload_n 0, 1) := by decide +kernel
theorem dX3_move_11 : decode cX3_move 11 = .ok (.aload_n 3, 1) := by decide +kernel
theorem dX3_move_12 : decode cX3_move 12 = .ok (.invokevirtual 120, 3) := by decide +kernel
theorem dX3_move_15 : decode cX3_move 15 = .ok (.ifCond .ne 24, 3) := by decide +kernel
theorem dX3_move_18 : decode cX3_move 18 = .ok (.aload_n 0, 1) := by decide +kernel
theorem dX3_move_19 : decode cX3_move 19 = .ok (.getfield 40, 3) := by decide +kernel
theorem dX3_move_22 : decode cX3_move 22 = .ok (.iload_n 2, 1) := by decide +kernel
theorem dX3_move_23 : decode cX3_move 23 = .ok (.baload, 1) := by decide +kernel
theorem dX3_move_24 : decode cX3_move 24 = .ok (.ifCond .ne 15, 3) := by decide +kernel
theorem dX3_move_27 : decode cX3_move 27 = .ok (.aload_n 0, 1) := by decide +kernel
theorem dX3_move_28 : decode cX3_move 28 = .ok (.aload_n 3, 1) := by decide +kernel
theorem dX3_move_29 : decode cX3_move 29 = .ok (.getfield 207, 3) := by decide +kernel
theorem dX3_move_32 : decode cX3_move 32 = .ok (.iload_n 2, 1) := by decide +kernel
theorem dX3_move_33 : decode cX3_move 33 = .ok (.invokevirtual 82, 3) := by decide +kernel
theorem dX3_move_36 : decode cX3_move 36 = .ok (.ifCond .eq 13, 3) := by decide +kernel
theorem dX3_move_39 : decode cX3_move 39 = .ok (.new 86, 3) := by decide +kernel
theorem dX3_move_42 : decode cX3_move 42 = .ok (.dup, 1) := by decide +kernel
theorem dX3_move_43 : decode cX3_move 43 = .ok (.ldc 210, 2) := by decide +kernel
theorem dX3_move_45 : decode cX3_move 45 = .ok (.invokespecial 90, 3) := by decide +kernel
theorem dX3_move_48 : decode cX3_move 48 = .ok (.athrow, 1) := by decide +kernel
theorem dX3_move_49 : decode cX3_move 49 = .ok (.iconst 0, 1) := by decide +kernel
theorem dX3_move_50 : decode cX3_move 50 = .ok (.istore 4, 2) := by decide +kernel
theorem dX3_move_52 : decode cX3_move 52 = .ok (.iconst 0, 1) := by decide +kernel
theorem dX3_move_53 : decode cX3_move 53 = .ok (.istore 5, 2) := by decide +kernel
theorem dX3_move_55 : decode cX3_move 55 = .ok (.iload 5, 2) := by decide +kernel
theorem dX3_move_57 : decode cX3_move 57 = .ok (.aload_n 0, 1) := by decide +kernel
theorem dX3_move_58 : decode cX3_move 58 = .ok (.getfield 65, 3) := by decide +kernel
theorem dX3_move_61 : decode cX3_move 61 = .ok (.if_icmp .ge 32, 3) := by decide +kernel
theorem dX3_move_64 : decode cX3_move 64 = .ok (.aload_n 3, 1) := by decide +kernel
theorem dX3_move_65 : decode cX3_move 65 = .ok (.iload 5, 2) := by decide +kernel
theorem dX3_move_67 : decode cX3_move 67 = .ok (.invokevirtual 178, 3) := by decide +kernel
theorem dX3_move_70 : decode cX3_move 70 = .ok (.ifCond .eq 17, 3) := by decide +kernel
theorem dX3_move_73 : decode cX3_move 73 = .ok (.aload_n 0, 1) := by decide +kernel
theorem dX3_move_74 : decode cX3_move 74 = .ok (.iload 5, 2) := by decide +kernel
theorem dX3_move_76 : decode cX3_move 76 = .ok (.aload_n 3, 1) := by decide +kernel
theorem dX3_move_77 : decode cX3_move 77 = .ok (.iload_n 2, 1) := by decide +kernel
theorem dX3_move_78 : decode cX3_move 78 = .ok (.invokevirtual 212, 3) := by decide +kernel
theorem dX3_move_81 : decode cX3_move 81 = .ok (.ifCond .eq 6, 3) := by decide +kernel
theorem dX3_move_84 : decode cX3_move 84 = .ok (.iinc 4 1, 3) := by decide +kernel
theorem dX3_move_87 : decode cX3_move 87 = .ok (.iinc 5 1, 3) := by decide +kernel
theorem dX3_move_90 : decode cX3_move 90 = .ok (.goto (-35), 3) := by decide +kernel
theorem dX3_move_93 : decode cX3_move 93 = .ok (.aload_n 3, 1) := by decide +kernel
theorem dX3_move_94 : decode cX3_move 94 = .ok (.iload_n 2, 1) := by decide +kernel
theorem dX3_move_95 : decode cX3_move 95 = .ok (.putfield 104, 3) := by decide +kernel
theorem dX3_move_98 : decode cX3_move 98 = .ok (.aload_n 0, 1) := by decide +kernel
theorem dX3_move_99 : decode cX3_move 99 = .ok (.aload_n 3, 1) := by decide +kernel
theorem dX3_move_100 : decode cX3_move 100 = .ok (.invokevirtual 215, 3) := by decide +kernel
theorem dX3_move_103 : decode cX3_move 103 = .ok (.iload 4, 2) := by decide +kernel
theorem dX3_move_105 : decode cX3_move 105 = .ok (.ireturn, 1) := by decide +kernel
theorem dX3_refunds_0 : decode cX3_refunds 0 = .ok (.aload_n 0, 1) := by decide +kernel
theorem dX3_refunds_1 : decode cX3_refunds 1 = .ok (.getfield 219, 3) := by decide +kernel
theorem dX3_refunds_4 : decode cX3_refunds 4 = .ok (.ireturn, 1) := by decide +kernel
theorem dX3_write_0 : decode cX3_write 0 = .ok (.iload_n 1, 1) := by decide +kernel
theorem dX3_write_1 : decode cX3_write 1 = .ok (.invokestatic 222, 3) := by decide +kernel
theorem dX3_write_4 : decode cX3_write 4 = .ok (.aload_n 0, 1) := by decide +kernel
theorem dX3_write_5 : decode cX3_write 5 = .ok (.iload_n 2, 1) := by decide +kernel
theorem dX3_write_6 : decode cX3_write 6 = .ok (.invokevirtual 107, 3) := by decide +kernel
theorem dX3_write_9 : decode cX3_write 9 = .ok (.aload_n 0, 1) := by decide +kernel
theorem dX3_write_10 : decode cX3_write 10 = .ok (.iload_n 3, 1) := by decide +kernel
theorem dX3_write_11 : decode cX3_write 11 = .ok (.invokevirtual 70, 3) := by decide +kernel
theorem dX3_write_14 : decode cX3_write 14 = .ok (.iload 4, 2) := by decide +kernel
theorem dX3_write_16 : decode cX3_write 16 = .ok (.invokestatic 225, 3) := by decide +kernel
theorem dX3_write_19 : decode cX3_write 19 = .ok (.istore 6, 2) := by decide +kernel
theorem dX3_write_21 : decode cX3_write 21 = .ok (.iload 6, 2) := by decide +kernel
theorem dX3_write_23 : decode cX3_write 23 = .ok (.iload 5, 2) := by decide +kernel
theorem dX3_write_25 : decode cX3_write 25 = .ok (.invokestatic 229, 3) := by decide +kernel
theorem dX3_write_28 : decode cX3_write 28 = .ok (.ifCond .ne 13, 3) := by decide +kernel
theorem dX3_write_31 : decode cX3_write 31 = .ok (.new 44, 3) := by decide +kernel
theorem dX3_write_34 : decode cX3_write 34 = .ok (.dup, 1) := by decide +kernel
theorem dX3_write_35 : decode cX3_write 35 = .ok (.ldc 232, 2) := by decide +kernel
theorem dX3_write_37 : decode cX3_write 37 = .ok (.invokespecial 48, 3) := by decide +kernel
theorem dX3_write_40 : decode cX3_write 40 = .ok (.athrow, 1) := by decide +kernel
theorem dX3_write_41 : decode cX3_write 41 = .ok (.aload_n 0, 1) := by decide +kernel
theorem dX3_write_42 : decode cX3_write 42 = .ok (.getfield 10, 3) := by decide +kernel
theorem dX3_write_45 : decode cX3_write 45 = .ok (.iload_n 1, 1) := by decide +kernel
theorem dX3_write_46 : decode cX3_write 46 = .ok (.iload 6, 2) := by decide +kernel
theorem dX3_write_48 : decode cX3_write 48 = .ok (.iload_n 2, 1) := by decide +kernel
theorem dX3_write_49 : decode cX3_write 49 = .ok (.iload_n 3, 1) := by decide +kernel
theorem dX3_write_50 : decode cX3_write 50 = .ok (.invokevirtual 234, 3) := by decide +kernel
theorem dX3_write_53 : decode cX3_write 53 = .ok (.istore 7, 2) := by decide +kernel
theorem dX3_write_55 : decode cX3_write 55 = .ok (.aload_n 0, 1) := by decide +kernel
theorem dX3_write_56 : decode cX3_write 56 = .ok (.getfield 10, 3) := by decide +kernel
theorem dX3_write_59 : decode cX3_write 59 = .ok (.iload_n 1, 1) := by decide +kernel
theorem dX3_write_60 : decode cX3_write 60 = .ok (.iload 6, 2) := by decide +kernel
theorem dX3_write_62 : decode cX3_write 62 = .ok (.iload_n 2, 1) := by decide +kernel
theorem dX3_write_63 : decode cX3_write 63 = .ok (.iload_n 3, 1) := by decide +kernel
theorem dX3_write_64 : decode cX3_write 64 = .ok (.iload 5, 2) := by decide +kernel
theorem dX3_write_66 : decode cX3_write 66 = .ok (.invokevirtual 238, 3) := by decide +kernel
theorem dX3_write_69 : decode cX3_write 69 = .ok (.iload 7, 2) := by decide +kernel
theorem dX3_write_71 : decode cX3_write 71 = .ok (.ireturn, 1) := by decide +kernel
theorem dX3_read_0 : decode cX3_read 0 = .ok (.iload_n 1, 1) := by decide +kernel
theorem dX3_read_1 : decode cX3_read 1 = .ok (.invokestatic 222, 3) := by decide +kernel
theorem dX3_read_4 : decode cX3_read 4 = .ok (.aload_n 0, 1) := by decide +kernel
theorem dX3_read_5 : decode cX3_read 5 = .ok (.iload_n 2, 1) := by decide +kernel
theorem dX3_read_6 : decode cX3_read 6 = .ok (.invokevirtual 107, 3) := by decide +kernel
theorem dX3_read_9 : decode cX3_read 9 = .ok (.aload_n 0, 1) := by decide +kernel
theorem dX3_read_10 : decode cX3_read 10 = .ok (.iload_n 3, 1) := by decide +kernel
theorem dX3_read_11 : decode cX3_read 11 = .ok (.invokevirtual 70, 3) := by decide +kernel
theorem dX3_read_14 : decode cX3_read 14 = .ok (.aload_n 0, 1) := by decide +kernel
theorem dX3_read_15 : decode cX3_read 15 = .ok (.getfield 10, 3) := by decide +kernel
theorem dX3_read_18 : decode cX3_read 18 = .ok (.iload_n 1, 1) := by decide +kernel
theorem dX3_read_19 : decode cX3_read 19 = .ok (.iload 4, 2) := by decide +kernel
theorem dX3_read_21 : decode cX3_read 21 = .ok (.invokestatic 225, 3) := by decide +kernel
theorem dX3_read_24 : decode cX3_read 24 = .ok (.iload_n 2, 1) := by decide +kernel
theorem dX3_read_25 : decode cX3_read 25 = .ok (.iload_n 3, 1) := by decide +kernel
theorem dX3_read_26 : decode cX3_read 26 = .ok (.invokevirtual 234, 3) := by decide +kernel
theorem dX3_read_29 : decode cX3_read 29 = .ok (.ireturn, 1) := by decide +kernel
theorem dX3_sync_0 : decode cX3_sync 0 = .ok (.iload_n 1, 1) := by decide +kernel
theorem dX3_sync_1 : decode cX3_sync 1 = .ok (.invokestatic 222, 3) := by decide +kernel
theorem dX3_sync_4 : decode cX3_sync 4 = .ok (.iload_n 2, 1) := by decide +kernel
theorem dX3_sync_5 : decode cX3_sync 5 = .ok (.invokestatic 222, 3) := by decide +kernel
theorem dX3_sync_8 : decode cX3_sync 8 = .ok (.iload_n 1, 1) := by decide +kernel
theorem dX3_sync_9 : decode cX3_sync 9 = .ok (.iload_n 2, 1) := by decide +kernel
theorem dX3_sync_10 : decode cX3_sync 10 = .ok (.if_icmp .ne 13, 3) := by decide +kernel
theorem dX3_sync_13 : decode cX3_sync 13 = .ok (.new 44, 3) := by decide +kernel
theorem dX3_sync_16 : decode cX3_sync 16 = .ok (.dup, 1) := by decide +kernel
theorem dX3_sync_17 : decode cX3_sync 17 = .ok (.ldc 242, 2) := by decide +kernel
theorem dX3_sync_19 : decode cX3_sync 19 = .ok (.invokespecial 48, 3) := by decide +kernel
theorem dX3_sync_22 : decode cX3_sync 22 = .ok (.athrow, 1) := by decide +kernel
theorem dX3_sync_23 : decode cX3_sync 23 = .ok (.aload_n 0, 1) := by decide +kernel
theorem dX3_sync_24 : decode cX3_sync 24 = .ok (.getfield 10, 3) := by decide +kernel
theorem dX3_sync_27 : decode cX3_sync 27 = .ok (.iload_n 1, 1) := by decide +kernel
theorem dX3_sync_28 : decode cX3_sync 28 = .ok (.iload_n 2, 1) := by decide +kernel
theorem dX3_sync_29 : decode cX3_sync 29 = .ok (.invokevirtual 244, 3) := by decide +kernel
theorem dX3_sync_32 : decode cX3_sync 32 = .ok (.ireturn, 1) := by decide +kernel
theorem dX3_owner_0 : decode cX3_owner 0 = .ok (.aload_n 0, 1) := by decide +kernel
theorem dX3_owner_1 : decode cX3_owner 1 = .ok (.getfield 10, 3) := by decide +kernel
theorem dX3_owner_4 : decode cX3_owner 4 = .ok (.getfield 247, 3) := by decide +kernel
theorem dX3_owner_7 : decode cX3_owner 7 = .ok (.iload_n 1, 1) := by decide +kernel
theorem dX3_owner_8 : decode cX3_owner 8 = .ok (.invokestatic 225, 3) := by decide +kernel
theorem dX3_owner_11 : decode cX3_owner 11 = .ok (.iaload, 1) := by decide +kernel
theorem dX3_owner_12 : decode cX3_owner 12 = .ok (.ireturn, 1) := by decide +kernel
theorem dX3_setOwner_0 : decode cX3_setOwner 0 = .ok (.iload_n 1, 1) := by decide +kernel
theorem dX3_setOwner_1 : decode cX3_setOwner 1 = .ok (.invokestatic 225, 3) := by decide +kernel
theorem dX3_setOwner_4 : decode cX3_setOwner 4 = .ok (.istore_n 3, 1) := by decide +kernel
theorem dX3_setOwner_5 : decode cX3_setOwner 5 = .ok (.iload_n 2, 1) := by decide +kernel
theorem dX3_setOwner_6 : decode cX3_setOwner 6 = .ok (.invokestatic 222, 3) := by decide +kernel
theorem dX3_setOwner_9 : decode cX3_setOwner 9 = .ok (.aload_n 0, 1) := by decide +kernel
theorem dX3_setOwner_10 : decode cX3_setOwner 10 = .ok (.getfield 10, 3) := by decide +kernel
theorem dX3_setOwner_13 : decode cX3_setOwner 13 = .ok (.getfield 247, 3) := by decide +kernel
theorem dX3_setOwner_16 : decode cX3_setOwner 16 = .ok (.iload_n 3, 1) := by decide +kernel
theorem dX3_setOwner_17 : decode cX3_setOwner 17 = .ok (.iaload, 1) := by decide +kernel
theorem dX3_setOwner_18 : decode cX3_setOwner 18 = .ok (.istore 4, 2) := by decide +kernel
theorem dX3_setOwner_20 : decode cX3_setOwner 20 = .ok (.aload_n 0, 1) := by decide +kernel
theorem dX3_setOwner_21 : decode cX3_setOwner 21 = .ok (.getfield 10, 3) := by decide +kernel
theorem dX3_setOwner_24 : decode cX3_setOwner 24 = .ok (.iload_n 3, 1) := by decide +kernel
theorem dX3_setOwner_25 : decode cX3_setOwner 25 = .ok (.iload 4, 2) := by decide +kernel
theorem dX3_setOwner_27 : decode cX3_setOwner 27 = .ok (.iload_n 2, 1) := by decide +kernel
theorem dX3_setOwner_28 : decode cX3_setOwner 28 = .ok (.invokevirtual 250, 3) := by decide +kernel
theorem dX3_setOwner_31 : decode cX3_setOwner 31 = .ok (.ifCond .ne 13, 3) := by decide +kernel
theorem dX3_setOwner_34 : decode cX3_setOwner 34 = .ok (.new 86, 3) := by decide +kernel
theorem dX3_setOwner_37 : decode cX3_setOwner 37 = .ok (.dup, 1) := by decide +kernel
theorem dX3_setOwner_38 : decode cX3_setOwner 38 = .ok (.ldc 254, 2) := by decide +kernel
theorem dX3_setOwner_40 : decode cX3_setOwner 40 = .ok (.invokespecial 90, 3) := by decide +kernel
theorem dX3_setOwner_43 : decode cX3_setOwner 43 = .ok (.athrow, 1) := by decide +kernel
theorem dX3_setOwner_44 : decode cX3_setOwner 44 = .ok (.aload_n 0, 1) := by decide +kernel
theorem dX3_setOwner_45 : decode cX3_setOwner 45 = .ok (.getfield 10, 3) := by decide +kernel
theorem dX3_setOwner_48 : decode cX3_setOwner 48 = .ok (.getfield 247, 3) := by decide +kernel
theorem dX3_setOwner_51 : decode cX3_setOwner 51 = .ok (.iload_n 3, 1) := by decide +kernel
theorem dX3_setOwner_52 : decode cX3_setOwner 52 = .ok (.iload_n 2, 1) := by decide +kernel
theorem dX3_setOwner_53 : decode cX3_setOwner 53 = .ok (.iastore, 1) := by decide +kernel
theorem dX3_setOwner_54 : decode cX3_setOwner 54 = .ok (.iload 4, 2) := by decide +kernel
theorem dX3_setOwner_56 : decode cX3_setOwner 56 = .ok (.ireturn, 1) := by decide +kernel
theorem dX3_apart_0 : decode cX3_apart 0 = .ok (.aload_n 0, 1) := by decide +kernel
theorem dX3_apart_1 : decode cX3_apart 1 = .ok (.getfield 10, 3) := by decide +kernel
theorem dX3_apart_4 : decode cX3_apart 4 = .ok (.iload_n 1, 1) := by decide +kernel
theorem dX3_apart_5 : decode cX3_apart 5 = .ok (.invokestatic 225, 3) := by decide +kernel
theorem dX3_apart_8 : decode cX3_apart 8 = .ok (.invokevirtual 256, 3) := by decide +kernel
theorem dX3_apart_11 : decode cX3_apart 11 = .ok (.ireturn, 1) := by decide +kernel
theorem dX3_maySit_0 : decode cX3_maySit 0 = .ok (.aload_n 0, 1) := by decide +kernel
theorem dX3_maySit_1 : decode cX3_maySit 1 = .ok (.iload_n 1, 1) := by decide +kernel
theorem dX3_maySit_2 : decode cX3_maySit 2 = .ok (.invokevirtual 107, 3) := by decide +kernel
theorem dX3_maySit_5 : decode cX3_maySit 5 = .ok (.aload_n 0, 1) := by decide +kernel
theorem dX3_maySit_6 : decode cX3_maySit 6 = .ok (.iload_n 2, 1) := by decide +kernel
theorem dX3_maySit_7 : decode cX3_maySit 7 = .ok (.invokevirtual 70, 3) := by decide +kernel
theorem dX3_maySit_10 : decode cX3_maySit 10 = .ok (.aload_n 0, 1) := by decide +kernel
theorem dX3_maySit_11 : decode cX3_maySit 11 = .ok (.getfield 10, 3) := by decide +kernel
theorem dX3_maySit_14 : decode cX3_maySit 14 = .ok (.iload_n 1, 1) := by decide +kernel
theorem dX3_maySit_15 : decode cX3_maySit 15 = .ok (.iload_n 2, 1) := by decide +kernel
theorem dX3_maySit_16 : decode cX3_maySit 16 = .ok (.invokevirtual 259, 3) := by decide +kernel
theorem dX3_maySit_19 : decode cX3_maySit 19 = .ok (.ireturn, 1) := by decide +kernel
theorem dX3_isOpen_0 : decode cX3_isOpen 0 = .ok (.aload_n 0, 1) := by decide +kernel
theorem dX3_isOpen_1 : decode cX3_isOpen 1 = .ok (.iload_n 1, 1) := by decide +kernel
theorem dX3_isOpen_2 : decode cX3_isOpen 2 = .ok (.invokevirtual 107, 3) := by decide +kernel
theorem dX3_isOpen_5 : decode cX3_isOpen 5 = .ok (.aload_n 0, 1) := by decide +kernel
theorem dX3_isOpen_6 : decode cX3_isOpen 6 = .ok (.iload_n 2, 1) := by decide +kernel
theorem dX3_isOpen_7 : decode cX3_isOpen 7 = .ok (.invokevirtual 70, 3) := by decide +kernel
theorem dX3_isOpen_10 : decode cX3_isOpen 10 = .ok (.aload_n 0, 1) := by decide +kernel
theorem dX3_isOpen_11 : decode cX3_isOpen 11 = .ok (.getfield 10, 3) := by decide +kernel
theorem dX3_isOpen_14 : decode cX3_isOpen 14 = .ok (.iload_n 1, 1) := by decide +kernel
theorem dX3_isOpen_15 : decode cX3_isOpen 15 = .ok (.iload_n 2, 1) := by decide +kernel
theorem dX3_isOpen_16 : decode cX3_isOpen 16 = .ok (.invokevirtual 262, 3) := by decide +kernel
theorem dX3_isOpen_19 : decode cX3_isOpen 19 = .ok (.ireturn, 1) := by decide +kernel
theorem dX3_sit_0 : decode cX3_sit 0 = .ok (.iload_n 1, 1) := by decide +kernel
theorem dX3_sit_1 : decode cX3_sit 1 = .ok (.invokestatic 79, 3) := by decide +kernel
theorem dX3_sit_4 : decode cX3_sit 4 = .ok (.aload_n 0, 1) := by decide +kernel
theorem dX3_sit_5 : decode cX3_sit 5 = .ok (.getfield 40, 3) := by decide +kernel
theorem dX3_sit_8 : decode cX3_sit 8 = .ok (.iload_n 1, 1) := by decide +kernel
theorem dX3_sit_9 : decode cX3_sit 9 = .ok (.baload, 1) := by decide +kernel
theorem dX3_sit_10 : decode cX3_sit 10 = .ok (.ifCond .eq 14, 3) := by decide +kernel
theorem dX3_sit_13 : decode cX3_sit 13 = .ok (.new 86, 3) := by decide +kernel
theorem dX3_sit_16 : decode cX3_sit 16 = .ok (.dup, 1) := by decide +kernel
theorem dX3_sit_17 : decode cX3_sit 17 = .ok (.ldc_w 265, 3) := by decide +kernel
theorem dX3_sit_20 : decode cX3_sit 20 = .ok (.invokespecial 90, 3) := by decide +kernel
theorem dX3_sit_23 : decode cX3_sit 23 = .ok (.athrow, 1) := by decide +kernel
theorem dX3_sit_24 : decode cX3_sit 24 = .ok (.iconst 0, 1) := by decide +kernel
theorem dX3_sit_25 : decode cX3_sit 25 = .ok (.istore_n 2, 1) := by decide +kernel
theorem dX3_sit_26 : decode cX3_sit 26 = .ok (.iconst 0, 1) := by decide +kernel
theorem dX3_sit_27 : decode cX3_sit 27 = .ok (.istore_n 3, 1) := by decide +kernel
theorem dX3_sit_28 : decode cX3_sit 28 = .ok (.iload_n 3, 1) := by decide +kernel
theorem dX3_sit_29 : decode cX3_sit 29 = .ok (.aload_n 0, 1) := by decide +kernel
theorem dX3_sit_30 : decode cX3_sit 30 = .ok (.getfield 91, 3) := by decide +kernel
theorem dX3_sit_33 : decode cX3_sit 33 = .ok (.if_icmp .ge 35, 3) := by decide +kernel
theorem dX3_sit_36 : decode cX3_sit 36 = .ok (.aload_n 0, 1) := by decide +kernel
theorem dX3_sit_37 : decode cX3_sit 37 = .ok (.getfield 25, 3) := by decide +kernel
theorem dX3_sit_40 : decode cX3_sit 40 = .ok (.iload_n 3, 1) := by decide +kernel
theorem dX3_sit_41 : decode cX3_sit 41 = .ok (.aaload, 1) := by decide +kernel
theorem dX3_sit_42 : decode cX3_sit 42 = .ok (.getfield 104, 3) := by decide +kernel
theorem dX3_sit_45 : decode cX3_sit 45 = .ok (.iload_n 1, 1) := by decide +kernel
theorem dX3_sit_46 : decode cX3_sit 46 = .ok (.if_icmp .ne 16, 3) := by decide +kernel
theorem dX3_sit_49 : decode cX3_sit 49 = .ok (.iload_n 2, 1) := by decide +kernel
theorem dX3_sit_50 : decode cX3_sit 50 = .ok (.aload_n 0, 1) := by decide +kernel
theorem dX3_sit_51 : decode cX3_sit 51 = .ok (.aload_n 0, 1) := by decide +kernel
theorem dX3_sit_52 : decode cX3_sit 52 = .ok (.getfield 25, 3) := by decide +kernel
theorem dX3_sit_55 : decode cX3_sit 55 = .ok (.iload_n 3, 1) := by decide +kernel
theorem dX3_sit_56 : decode cX3_sit 56 = .ok (.aaload, 1) := by decide +kernel
theorem dX3_sit_57 : decode cX3_sit 57 = .ok (.invokevirtual 267, 3) := by decide +kernel
theorem dX3_sit_60 : decode cX3_sit 60 = .ok (.iadd, 1) := by decide +kernel
theorem dX3_sit_61 : decode cX3_sit 61 = .ok (.istore_n 2, 1) := by decide +kernel
theorem dX3_sit_62 : decode cX3_sit 62 = .ok (.iinc 3 1, 3) := by decide +kernel
theorem dX3_sit_65 : decode cX3_sit 65 = .ok (.goto (-37), 3) := by decide +kernel
theorem dX3_sit_68 : decode cX3_sit 68 = .ok (.aload_n 0, 1) := by decide +kernel
theorem dX3_sit_69 : decode cX3_sit 69 = .ok (.getfield 40, 3) := by decide +kernel
theorem dX3_sit_72 : decode cX3_sit 72 = .ok (.iload_n 1, 1) := by decide +kernel
theorem dX3_sit_73 : decode cX3_sit 73 = .ok (.iconst 1, 1) := by decide +kernel
theorem dX3_sit_74 : decode cX3_sit 74 = .ok (.bastore, 1) := by decide +kernel
theorem dX3_sit_75 : decode cX3_sit 75 = .ok (.iload_n 2, 1) := by decide +kernel
theorem dX3_sit_76 : decode cX3_sit 76 = .ok (.ireturn, 1) := by decide +kernel
theorem dX3_hasSat_0 : decode cX3_hasSat 0 = .ok (.aload_n 0, 1) := by decide +kernel
theorem dX3_hasSat_1 : decode cX3_hasSat 1 = .ok (.iload_n 1, 1) := by decide +kernel
theorem dX3_hasSat_2 : decode cX3_hasSat 2 = .ok (.invokevirtual 107, 3) := by decide +kernel
theorem dX3_hasSat_5 : decode cX3_hasSat 5 = .ok (.aload_n 0, 1) := by decide +kernel
theorem dX3_hasSat_6 : decode cX3_hasSat 6 = .ok (.iload_n 2, 1) := by decide +kernel
theorem dX3_hasSat_7 : decode cX3_hasSat 7 = .ok (.invokevirtual 70, 3) := by decide +kernel
theorem dX3_hasSat_10 : decode cX3_hasSat 10 = .ok (.aload_n 0, 1) := by decide +kernel
theorem dX3_hasSat_11 : decode cX3_hasSat 11 = .ok (.iload_n 1, 1) := by decide +kernel
theorem dX3_hasSat_12 : decode cX3_hasSat 12 = .ok (.iload_n 2, 1) := by decide +kernel
theorem dX3_hasSat_13 : decode cX3_hasSat 13 = .ok (.iload_n 3, 1) := by decide +kernel
theorem dX3_hasSat_14 : decode cX3_hasSat 14 = .ok (.invokevirtual 160, 3) := by decide +kernel
theorem dX3_hasSat_17 : decode cX3_hasSat 17 = .ok (.istore 4, 2) := by decide +kernel
theorem dX3_hasSat_19 : decode cX3_hasSat 19 = .ok (.iload 4, 2) := by decide +kernel
theorem dX3_hasSat_21 : decode cX3_hasSat 21 = .ok (.iconst (-1), 1) := by decide +kernel
theorem dX3_hasSat_22 : decode cX3_hasSat 22 = .ok (.if_icmp .eq 21, 3) := by decide +kernel
theorem dX3_hasSat_25 : decode cX3_hasSat 25 = .ok (.aload_n 0, 1) := by decide +kernel
theorem dX3_hasSat_26 : decode cX3_hasSat 26 = .ok (.aload_n 0, 1) := by decide +kernel
theorem dX3_hasSat_27 : decode cX3_hasSat 27 = .ok (.getfield 25, 3) := by decide +kernel
theorem dX3_hasSat_30 : decode cX3_hasSat 30 = .ok (.iload 4, 2) := by decide +kernel
theorem dX3_hasSat_32 : decode cX3_hasSat 32 = .ok (.aaload, 1) := by decide +kernel
theorem dX3_hasSat_33 : decode cX3_hasSat 33 = .ok (.invokevirtual 120, 3) := by decide +kernel
theorem dX3_hasSat_36 : decode cX3_hasSat 36 = .ok (.ifCond .eq 7, 3) := by decide +kernel
theorem dX3_hasSat_39 : decode cX3_hasSat 39 = .ok (.iconst 1, 1) := by decide +kernel
theorem dX3_hasSat_40 : decode cX3_hasSat 40 = .ok (.goto 4, 3) := by decide +kernel
theorem dX3_hasSat_43 : decode cX3_hasSat 43 = .ok (.iconst 0, 1) := by decide +kernel
theorem dX3_hasSat_44 : decode cX3_hasSat 44 = .ok (.ireturn, 1) := by decide +kernel
theorem dX3_more_0 : decode cX3_more 0 = .ok (.aload_n 0, 1) := by decide +kernel
theorem dX3_more_1 : decode cX3_more 1 = .ok (.iload_n 1, 1) := by decide +kernel
theorem dX3_more_2 : decode cX3_more 2 = .ok (.invokevirtual 107, 3) := by decide +kernel
theorem dX3_more_5 : decode cX3_more 5 = .ok (.iload_n 2, 1) := by decide +kernel
theorem dX3_more_6 : decode cX3_more 6 = .ok (.invokestatic 79, 3) := by decide +kernel
theorem dX3_more_9 : decode cX3_more 9 = .ok (.aload_n 0, 1) := by decide +kernel
theorem dX3_more_10 : decode cX3_more 10 = .ok (.getfield 10, 3) := by decide +kernel
theorem dX3_more_13 : decode cX3_more 13 = .ok (.iconst 2, 1) := by decide +kernel
theorem dX3_more_14 : decode cX3_more 14 = .ok (.iload_n 1, 1) := by decide +kernel
theorem dX3_more_15 : decode cX3_more 15 = .ok (.aload_n 0, 1) := by decide +kernel
theorem dX3_more_16 : decode cX3_more 16 = .ok (.iload_n 1, 1) := by decide +kernel
theorem dX3_more_17 : decode cX3_more 17 = .ok (.iload_n 2, 1) := by decide +kernel
theorem dX3_more_18 : decode cX3_more 18 = .ok (.invokevirtual 166, 3) := by decide +kernel
theorem dX3_more_21 : decode cX3_more 21 = .ok (.invokevirtual 270, 3) := by decide +kernel
theorem dX3_more_24 : decode cX3_more 24 = .ok (.ireturn, 1) := by decide +kernel
theorem dX3_takenShare_0 : decode cX3_takenShare 0 = .ok (.aload_n 0, 1) := by decide +kernel
theorem dX3_takenShare_1 : decode cX3_takenShare 1 = .ok (.getfield 91, 3) := by decide +kernel
theorem dX3_takenShare_4 : decode cX3_takenShare 4 = .ok (.ifCond .ne 14, 3) := by decide +kernel
theorem dX3_takenShare_7 : decode cX3_takenShare 7 = .ok (.new 274, 3) := by decide +kernel
theorem dX3_takenShare_10 : decode cX3_takenShare 10 = .ok (.dup, 1) := by decide +kernel
theorem dX3_takenShare_11 : decode cX3_takenShare 11 = .ok (.ldc_w 276, 3) := by decide +kernel
theorem dX3_takenShare_14 : decode cX3_takenShare 14 = .ok (.invokespecial 278, 3) := by decide +kernel
theorem dX3_takenShare_17 : decode cX3_takenShare 17 = .ok (.athrow, 1) := by decide +kernel
theorem dX3_takenShare_18 : decode cX3_takenShare 18 = .ok (.iconst 0, 1) := by decide +kernel
theorem dX3_takenShare_19 : decode cX3_takenShare 19 = .ok (.istore_n 1, 1) := by decide +kernel
theorem dX3_takenShare_20 : decode cX3_takenShare 20 = .ok (.iconst 0, 1) := by decide +kernel
theorem dX3_takenShare_21 : decode cX3_takenShare 21 = .ok (.istore_n 2, 1) := by decide +kernel
theorem dX3_takenShare_22 : decode cX3_takenShare 22 = .ok (.iconst 0, 1) := by decide +kernel
theorem dX3_takenShare_23 : decode cX3_takenShare 23 = .ok (.istore_n 3, 1) := by decide +kernel
theorem dX3_takenShare_24 : decode cX3_takenShare 24 = .ok (.iload_n 3, 1) := by decide +kernel
theorem dX3_takenShare_25 : decode cX3_takenShare 25 = .ok (.aload_n 0, 1) := by decide +kernel
theorem dX3_takenShare_26 : decode cX3_takenShare 26 = .ok (.getfield 91, 3) := by decide +kernel
theorem dX3_takenShare_29 : decode cX3_takenShare 29 = .ok (.if_icmp .ge 33, 3) := by decide +kernel
theorem dX3_takenShare_32 : decode cX3_takenShare 32 = .ok (.iload_n 1, 1) := by decide +kernel
theorem dX3_takenShare_33 : decode cX3_takenShare 33 = .ok (.aload_n 0, 1) := by decide +kernel
theorem dX3_takenShare_34 : decode cX3_takenShare 34 = .ok (.getfield 25, 3) := by decide +kernel
theorem dX3_takenShare_37 : decode cX3_takenShare 37 = .ok (.iload_n 3, 1) := by decide +kernel
theorem dX3_takenShare_38 : decode cX3_takenShare 38 = .ok (.aaload, 1) := by decide +kernel
theorem dX3_takenShare_39 : decode cX3_takenShare 39 = .ok (.invokevirtual 169, 3) := by decide +kernel
theorem dX3_takenShare_42 : decode cX3_takenShare 42 = .ok (.iadd, 1) := by decide +kernel
theorem dX3_takenShare_43 : decode cX3_takenShare 43 = .ok (.istore_n 1, 1) := by decide +kernel
theorem dX3_takenShare_44 : decode cX3_takenShare 44 = .ok (.iload_n 2, 1) := by decide +kernel
theorem dX3_takenShare_45 : decode cX3_takenShare 45 = .ok (.aload_n 0, 1) := by decide +kernel
theorem dX3_takenShare_46 : decode cX3_takenShare 46 = .ok (.getfield 25, 3) := by decide +kernel
theorem dX3_takenShare_49 : decode cX3_takenShare 49 = .ok (.iload_n 3, 1) := by decide +kernel
theorem dX3_takenShare_50 : decode cX3_takenShare 50 = .ok (.aaload, 1) := by decide +kernel
theorem dX3_takenShare_51 : decode cX3_takenShare 51 = .ok (.getfield 279, 3) := by decide +kernel
theorem dX3_takenShare_54 : decode cX3_takenShare 54 = .ok (.iadd, 1) := by decide +kernel
theorem dX3_takenShare_55 : decode cX3_takenShare 55 = .ok (.istore_n 2, 1) := by decide +kernel
theorem dX3_takenShare_56 : decode cX3_takenShare 56 = .ok (.iinc 3 1, 3) := by decide +kernel
theorem dX3_takenShare_59 : decode cX3_takenShare 59 = .ok (.goto (-35), 3) := by decide +kernel
theorem dX3_takenShare_62 : decode cX3_takenShare 62 = .ok (.iload_n 1, 1) := by decide +kernel
theorem dX3_takenShare_63 : decode cX3_takenShare 63 = .ok (.i2f, 1) := by decide +kernel
theorem dX3_takenShare_64 : decode cX3_takenShare 64 = .ok (.iload_n 2, 1) := by decide +kernel
theorem dX3_takenShare_65 : decode cX3_takenShare 65 = .ok (.i2f, 1) := by decide +kernel
theorem dX3_takenShare_66 : decode cX3_takenShare 66 = .ok (.fdiv, 1) := by decide +kernel
theorem dX3_takenShare_67 : decode cX3_takenShare 67 = .ok (.freturn, 1) := by decide +kernel
theorem dX3_meanPoints_0 : decode cX3_meanPoints 0 = .ok (.aload_n 0, 1) := by decide +kernel
theorem dX3_meanPoints_1 : decode cX3_meanPoints 1 = .ok (.getfield 65, 3) := by decide +kernel
theorem dX3_meanPoints_4 : decode cX3_meanPoints 4 = .ok (.ifCond .ne 14, 3) := by decide +kernel
theorem dX3_meanPoints_7 : decode cX3_meanPoints 7 = .ok (.new 274, 3) := by decide +kernel
theorem dX3_meanPoints_10 : decode cX3_meanPoints 10 = .ok (.dup, 1) := by decide +kernel
theorem dX3_meanPoints_11 : decode cX3_meanPoints 11 = .ok (.ldc_w 282, 3) := by decide +kernel
theorem dX3_meanPoints_14 : decode cX3_meanPoints 14 = .ok (.invokespecial 278, 3) := by decide +kernel
theorem dX3_meanPoints_17 : decode cX3_meanPoints 17 = .ok (.athrow, 1) := by decide +kernel
theorem dX3_meanPoints_18 : decode cX3_meanPoints 18 = .ok (.iconst 0, 1) := by decide +kernel
theorem dX3_meanPoints_19 : decode cX3_meanPoints 19 = .ok (.istore_n 1, 1) := by decide +kernel
theorem dX3_meanPoints_20 : decode cX3_meanPoints 20 = .ok (.iconst 0, 1) := by decide +kernel
theorem dX3_meanPoints_21 : decode cX3_meanPoints 21 = .ok (.istore_n 2, 1) := by decide +kernel
theorem dX3_meanPoints_22 : decode cX3_meanPoints 22 = .ok (.iload_n 2, 1) := by decide +kernel
theorem dX3_meanPoints_23 : decode cX3_meanPoints 23 = .ok (.aload_n 0, 1) := by decide +kernel
theorem dX3_meanPoints_24 : decode cX3_meanPoints 24 = .ok (.getfield 65, 3) := by decide +kernel
theorem dX3_meanPoints_27 : decode cX3_meanPoints 27 = .ok (.if_icmp .ge 18, 3) := by decide +kernel
theorem dX3_meanPoints_30 : decode cX3_meanPoints 30 = .ok (.iload_n 1, 1) := by decide +kernel
theorem dX3_meanPoints_31 : decode cX3_meanPoints 31 = .ok (.aload_n 0, 1) := by decide +kernel
theorem dX3_meanPoints_32 : decode cX3_meanPoints 32 = .ok (.getfield 34, 3) := by decide +kernel
theorem dX3_meanPoints_35 : decode cX3_meanPoints 35 = .ok (.iload_n 2, 1) := by decide +kernel
theorem dX3_meanPoints_36 : decode cX3_meanPoints 36 = .ok (.iaload, 1) := by decide +kernel
theorem dX3_meanPoints_37 : decode cX3_meanPoints 37 = .ok (.iadd, 1) := by decide +kernel
theorem dX3_meanPoints_38 : decode cX3_meanPoints 38 = .ok (.istore_n 1, 1) := by decide +kernel
theorem dX3_meanPoints_39 : decode cX3_meanPoints 39 = .ok (.iinc 2 1, 3) := by decide +kernel
theorem dX3_meanPoints_42 : decode cX3_meanPoints 42 = .ok (.goto (-20), 3) := by decide +kernel
theorem dX3_meanPoints_45 : decode cX3_meanPoints 45 = .ok (.iload_n 1, 1) := by decide +kernel
theorem dX3_meanPoints_46 : decode cX3_meanPoints 46 = .ok (.i2d, 1) := by decide +kernel
theorem dX3_meanPoints_47 : decode cX3_meanPoints 47 = .ok (.aload_n 0, 1) := by decide +kernel
theorem dX3_meanPoints_48 : decode cX3_meanPoints 48 = .ok (.getfield 65, 3) := by decide +kernel
theorem dX3_meanPoints_51 : decode cX3_meanPoints 51 = .ok (.i2d, 1) := by decide +kernel
theorem dX3_meanPoints_52 : decode cX3_meanPoints 52 = .ok (.ddiv, 1) := by decide +kernel
theorem dX3_meanPoints_53 : decode cX3_meanPoints 53 = .ok (.dreturn, 1) := by decide +kernel
theorem dX3_isTrue_0 : decode cX3_isTrue 0 = .ok (.iconst 0, 1) := by decide +kernel
theorem dX3_isTrue_1 : decode cX3_isTrue 1 = .ok (.istore_n 1, 1) := by decide +kernel
theorem dX3_isTrue_2 : decode cX3_isTrue 2 = .ok (.iload_n 1, 1) := by decide +kernel
theorem dX3_isTrue_3 : decode cX3_isTrue 3 = .ok (.aload_n 0, 1) := by decide +kernel
theorem dX3_isTrue_4 : decode cX3_isTrue 4 = .ok (.getfield 65, 3) := by decide +kernel
theorem dX3_isTrue_7 : decode cX3_isTrue 7 = .ok (.if_icmp .ge 27, 3) := by decide +kernel
theorem dX3_isTrue_10 : decode cX3_isTrue 10 = .ok (.aload_n 0, 1) := by decide +kernel
theorem dX3_isTrue_11 : decode cX3_isTrue 11 = .ok (.iload_n 1, 1) := by decide +kernel
theorem dX3_isTrue_12 : decode cX3_isTrue 12 = .ok (.invokevirtual 284, 3) := by decide +kernel
theorem dX3_isTrue_15 : decode cX3_isTrue 15 = .ok (.ifCond .ne 11, 3) := by decide +kernel
theorem dX3_isTrue_18 : decode cX3_isTrue 18 = .ok (.aload_n 0, 1) := by decide +kernel
theorem dX3_isTrue_19 : decode cX3_isTrue 19 = .ok (.iload_n 1, 1) := by decide +kernel
theorem dX3_isTrue_20 : decode cX3_isTrue 20 = .ok (.invokevirtual 287, 3) := by decide +kernel
theorem dX3_isTrue_23 : decode cX3_isTrue 23 = .ok (.ifCond .ne 5, 3) := by decide +kernel
theorem dX3_isTrue_26 : decode cX3_isTrue 26 = .ok (.iconst 0, 1) := by decide +kernel
theorem dX3_isTrue_27 : decode cX3_isTrue 27 = .ok (.ireturn, 1) := by decide +kernel
theorem dX3_isTrue_28 : decode cX3_isTrue 28 = .ok (.iinc 1 1, 3) := by decide +kernel
theorem dX3_isTrue_31 : decode cX3_isTrue 31 = .ok (.goto (-29), 3) := by decide +kernel
theorem dX3_isTrue_34 : decode cX3_isTrue 34 = .ok (.iconst 0, 1) := by decide +kernel
theorem dX3_isTrue_35 : decode cX3_isTrue 35 = .ok (.istore_n 1, 1) := by decide +kernel
theorem dX3_isTrue_36 : decode cX3_isTrue 36 = .ok (.iload_n 1, 1) := by decide +kernel
theorem dX3_isTrue_37 : decode cX3_isTrue 37 = .ok (.aload_n 0, 1) := by decide +kernel
theorem dX3_isTrue_38 : decode cX3_isTrue 38 = .ok (.getfield 91, 3) := by decide +kernel
theorem dX3_isTrue_41 : decode cX3_isTrue 41 = .ok (.if_icmp .ge 52, 3) := by decide +kernel
theorem dX3_isTrue_44 : decode cX3_isTrue 44 = .ok (.aload_n 0, 1) := by decide +kernel
theorem dX3_isTrue_45 : decode cX3_isTrue 45 = .ok (.getfield 25, 3) := by decide +kernel
theorem dX3_isTrue_48 : decode cX3_isTrue 48 = .ok (.iload_n 1, 1) := by decide +kernel
theorem dX3_isTrue_49 : decode cX3_isTrue 49 = .ok (.aaload, 1) := by decide +kernel
theorem dX3_isTrue_50 : decode cX3_isTrue 50 = .ok (.invokevirtual 169, 3) := by decide +kernel
theorem dX3_isTrue_53 : decode cX3_isTrue 53 = .ok (.aload_n 0, 1) := by decide +kernel
theorem dX3_isTrue_54 : decode cX3_isTrue 54 = .ok (.getfield 25, 3) := by decide +kernel
theorem dX3_isTrue_57 : decode cX3_isTrue 57 = .ok (.iload_n 1, 1) := by decide +kernel
theorem dX3_isTrue_58 : decode cX3_isTrue 58 = .ok (.aaload, 1) := by decide +kernel
theorem dX3_isTrue_59 : decode cX3_isTrue 59 = .ok (.getfield 279, 3) := by decide +kernel
theorem dX3_isTrue_62 : decode cX3_isTrue 62 = .ok (.if_icmp .gt 23, 3) := by decide +kernel
theorem dX3_isTrue_65 : decode cX3_isTrue 65 = .ok (.aload_n 0, 1) := by decide +kernel
theorem dX3_isTrue_66 : decode cX3_isTrue 66 = .ok (.getfield 25, 3) := by decide +kernel
theorem dX3_isTrue_69 : decode cX3_isTrue 69 = .ok (.iload_n 1, 1) := by decide +kernel
theorem dX3_isTrue_70 : decode cX3_isTrue 70 = .ok (.aaload, 1) := by decide +kernel
theorem dX3_isTrue_71 : decode cX3_isTrue 71 = .ok (.invokevirtual 290, 3) := by decide +kernel
theorem dX3_isTrue_74 : decode cX3_isTrue 74 = .ok (.ifCond .ne 11, 3) := by decide +kernel
theorem dX3_isTrue_77 : decode cX3_isTrue 77 = .ok (.aload_n 0, 1) := by decide +kernel
theorem dX3_isTrue_78 : decode cX3_isTrue 78 = .ok (.iload_n 1, 1) := by decide +kernel
theorem dX3_isTrue_79 : decode cX3_isTrue 79 = .ok (.invokevirtual 294, 3) := by decide +kernel
theorem dX3_isTrue_82 : decode cX3_isTrue 82 = .ok (.ifCond .eq 5, 3) := by decide +kernel
theorem dX3_isTrue_85 : decode cX3_isTrue 85 = .ok (.iconst 0, 1) := by decide +kernel
theorem dX3_isTrue_86 : decode cX3_isTrue 86 = .ok (.ireturn, 1) := by decide +kernel
theorem dX3_isTrue_87 : decode cX3_isTrue 87 = .ok (.iinc 1 1, 3) := by decide +kernel
theorem dX3_isTrue_90 : decode cX3_isTrue 90 = .ok (.goto (-54), 3) := by decide +kernel
theorem dX3_isTrue_93 : decode cX3_isTrue 93 = .ok (.iconst 1, 1) := by decide +kernel
theorem dX3_isTrue_94 : decode cX3_isTrue 94 = .ok (.ireturn, 1) := by decide +kernel
theorem dX3_needPupil_0 : decode cX3_needPupil 0 = .ok (.iload_n 1, 1) := by decide +kernel
theorem dX3_needPupil_1 : decode cX3_needPupil 1 = .ok (.ifCond .lt 11, 3) := by decide +kernel
theorem dX3_needPupil_4 : decode cX3_needPupil 4 = .ok (.iload_n 1, 1) := by decide +kernel
theorem dX3_needPupil_5 : decode cX3_needPupil 5 = .ok (.aload_n 0, 1) := by decide +kernel
theorem dX3_needPupil_6 : decode cX3_needPupil 6 = .ok (.getfield 65, 3) := by decide +kernel
theorem dX3_needPupil_9 : decode cX3_needPupil 9 = .ok (.if_icmp .lt 14, 3) := by decide +kernel
theorem dX3_needPupil_12 : decode cX3_needPupil 12 = .ok (.new 74, 3) := by decide +kernel
theorem dX3_needPupil_15 : decode cX3_needPupil 15 = .ok (.dup, 1) := by decide +kernel
theorem dX3_needPupil_16 : decode cX3_needPupil 16 = .ok (.ldc_w 297, 3) := by decide +kernel
theorem dX3_needPupil_19 : decode cX3_needPupil 19 = .ok (.invokespecial 78, 3) := by decide +kernel
theorem dX3_needPupil_22 : decode cX3_needPupil 22 = .ok (.athrow, 1) := by decide +kernel
theorem dX3_needPupil_23 : decode cX3_needPupil 23 = .ok (.return_, 1) := by decide +kernel
theorem dX3_needExam_0 : decode cX3_needExam 0 = .ok (.iload_n 1, 1) := by decide +kernel
theorem dX3_needExam_1 : decode cX3_needExam 1 = .ok (.ifCond .lt 11, 3) := by decide +kernel
theorem dX3_needExam_4 : decode cX3_needExam 4 = .ok (.iload_n 1, 1) := by decide +kernel
theorem dX3_needExam_5 : decode cX3_needExam 5 = .ok (.aload_n 0, 1) := by decide +kernel
theorem dX3_needExam_6 : decode cX3_needExam 6 = .ok (.getfield 60, 3) := by decide +kernel
theorem dX3_needExam_9 : decode cX3_needExam 9 = .ok (.if_icmp .lt 14, 3) := by decide +kernel
theorem dX3_needExam_12 : decode cX3_needExam 12 = .ok (.new 74, 3) := by decide +kernel
theorem dX3_needExam_15 : decode cX3_needExam 15 = .ok (.dup, 1) := by decide +kernel
theorem dX3_needExam_16 : decode cX3_needExam 16 = .ok (.ldc_w 299, 3) := by decide +kernel
theorem dX3_needExam_19 : decode cX3_needExam 19 = .ok (.invokespecial 78, 3) := by decide +kernel
theorem dX3_needExam_22 : decode cX3_needExam 22 = .ok (.athrow, 1) := by decide +kernel
theorem dX3_needExam_23 : decode cX3_needExam 23 = .ok (.return_, 1) := by decide +kernel
theorem dX3_needOffer_0 : decode cX3_needOffer 0 = .ok (.iload_n 1, 1) := by decide +kernel
theorem dX3_needOffer_1 : decode cX3_needOffer 1 = .ok (.ifCond .lt 11, 3) := by decide +kernel
theorem dX3_needOffer_4 : decode cX3_needOffer 4 = .ok (.iload_n 1, 1) := by decide +kernel
theorem dX3_needOffer_5 : decode cX3_needOffer 5 = .ok (.aload_n 0, 1) := by decide +kernel
theorem dX3_needOffer_6 : decode cX3_needOffer 6 = .ok (.getfield 91, 3) := by decide +kernel
theorem dX3_needOffer_9 : decode cX3_needOffer 9 = .ok (.if_icmp .lt 14, 3) := by decide +kernel
theorem dX3_needOffer_12 : decode cX3_needOffer 12 = .ok (.new 74, 3) := by decide +kernel
theorem dX3_needOffer_15 : decode cX3_needOffer 15 = .ok (.dup, 1) := by decide +kernel
theorem dX3_needOffer_16 : decode cX3_needOffer 16 = .ok (.ldc_w 301, 3) := by decide +kernel
theorem dX3_needOffer_19 : decode cX3_needOffer 19 = .ok (.invokespecial 78, 3) := by decide +kernel
theorem dX3_needOffer_22 : decode cX3_needOffer 22 = .ok (.athrow, 1) := by decide +kernel
theorem dX3_needOffer_23 : decode cX3_needOffer 23 = .ok (.return_, 1) := by decide +kernel
theorem dX3_offerNumbered_0 : decode cX3_offerNumbered 0 = .ok (.aload_n 0, 1) := by decide +kernel
theorem dX3_offerNumbered_1 : decode cX3_offerNumbered 1 = .ok (.iload_n 1, 1) := by decide +kernel
theorem dX3_offerNumbered_2 : decode cX3_offerNumbered 2 = .ok (.invokevirtual 134, 3) := by decide +kernel
theorem dX3_offerNumbered_5 : decode cX3_offerNumbered 5 = .ok (.aload_n 0, 1) := by decide +kernel
theorem dX3_offerNumbered_6 : decode cX3_offerNumbered 6 = .ok (.getfield 25, 3) := by decide +kernel
theorem dX3_offerNumbered_9 : decode cX3_offerNumbered 9 = .ok (.iload_n 1, 1) := by decide +kernel
theorem dX3_offerNumbered_10 : decode cX3_offerNumbered 10 = .ok (.aaload, 1) := by decide +kernel
theorem dX3_offerNumbered_11 : decode cX3_offerNumbered 11 = .ok (.areturn, 1) := by decide +kernel
theorem dX3_needStore_0 : decode cX3_needStore 0 = .ok (.iload_n 0, 1) := by decide +kernel
theorem dX3_needStore_1 : decode cX3_needStore 1 = .ok (.ifCond .lt 8, 3) := by decide +kernel
theorem dX3_needStore_4 : decode cX3_needStore 4 = .ok (.iload_n 0, 1) := by decide +kernel
theorem dX3_needStore_5 : decode cX3_needStore 5 = .ok (.iconst 3, 1) := by decide +kernel
theorem dX3_needStore_6 : decode cX3_needStore 6 = .ok (.if_icmp .lt 14, 3) := by decide +kernel
theorem dX3_needStore_9 : decode cX3_needStore 9 = .ok (.new 74, 3) := by decide +kernel
theorem dX3_needStore_12 : decode cX3_needStore 12 = .ok (.dup, 1) := by decide +kernel
theorem dX3_needStore_13 : decode cX3_needStore 13 = .ok (.ldc_w 303, 3) := by decide +kernel
theorem dX3_needStore_16 : decode cX3_needStore 16 = .ok (.invokespecial 78, 3) := by decide +kernel
theorem dX3_needStore_19 : decode cX3_needStore 19 = .ok (.athrow, 1) := by decide +kernel
theorem dX3_needStore_20 : decode cX3_needStore 20 = .ok (.return_, 1) := by decide +kernel
theorem dX3_needSlot_0 : decode cX3_needSlot 0 = .ok (.iload_n 0, 1) := by decide +kernel
theorem dX3_needSlot_1 : decode cX3_needSlot 1 = .ok (.ifCond .lt 9, 3) := by decide +kernel
theorem dX3_needSlot_4 : decode cX3_needSlot 4 = .ok (.iload_n 0, 1) := by decide +kernel
theorem dX3_needSlot_5 : decode cX3_needSlot 5 = .ok (.bipush 6, 2) := by decide +kernel
theorem dX3_needSlot_7 : decode cX3_needSlot 7 = .ok (.if_icmp .lt 14, 3) := by decide +kernel
theorem dX3_needSlot_10 : decode cX3_needSlot 10 = .ok (.new 44, 3) := by decide +kernel
theorem dX3_needSlot_13 : decode cX3_needSlot 13 = .ok (.dup, 1) := by decide +kernel
theorem dX3_needSlot_14 : decode cX3_needSlot 14 = .ok (.ldc_w 305, 3) := by decide +kernel
theorem dX3_needSlot_17 : decode cX3_needSlot 17 = .ok (.invokespecial 48, 3) := by decide +kernel
theorem dX3_needSlot_20 : decode cX3_needSlot 20 = .ok (.athrow, 1) := by decide +kernel
theorem dX3_needSlot_21 : decode cX3_needSlot 21 = .ok (.return_, 1) := by decide +kernel
theorem dX3_fieldNumbered_0 : decode cX3_fieldNumbered 0 = .ok (.iload_n 0, 1) := by decide +kernel
theorem dX3_fieldNumbered_1 : decode cX3_fieldNumbered 1 = .ok (.bipush 114, 2) := by decide +kernel
theorem dX3_fieldNumbered_3 : decode cX3_fieldNumbered 3 = .ok (.if_icmp .ne 5, 3) := by decide +kernel
theorem dX3_fieldNumbered_6 : decode cX3_fieldNumbered 6 = .ok (.iconst 0, 1) := by decide +kernel
theorem dX3_fieldNumbered_7 : decode cX3_fieldNumbered 7 = .ok (.ireturn, 1) := by decide +kernel
theorem dX3_fieldNumbered_8 : decode cX3_fieldNumbered 8 = .ok (.iload_n 0, 1) := by decide +kernel
theorem dX3_fieldNumbered_9 : decode cX3_fieldNumbered 9 = .ok (.bipush 109, 2) := by decide +kernel
theorem dX3_fieldNumbered_11 : decode cX3_fieldNumbered 11 = .ok (.if_icmp .ne 5, 3) := by decide +kernel
theorem dX3_fieldNumbered_14 : decode cX3_fieldNumbered 14 = .ok (.iconst 1, 1) := by decide +kernel
theorem dX3_fieldNumbered_15 : decode cX3_fieldNumbered 15 = .ok (.ireturn, 1) := by decide +kernel
theorem dX3_fieldNumbered_16 : decode cX3_fieldNumbered 16 = .ok (.iload_n 0, 1) := by decide +kernel
theorem dX3_fieldNumbered_17 : decode cX3_fieldNumbered 17 = .ok (.bipush 120, 2) := by decide +kernel
theorem dX3_fieldNumbered_19 : decode cX3_fieldNumbered 19 = .ok (.if_icmp .ne 5, 3) := by decide +kernel
theorem dX3_fieldNumbered_22 : decode cX3_fieldNumbered 22 = .ok (.iconst 2, 1) := by decide +kernel
theorem dX3_fieldNumbered_23 : decode cX3_fieldNumbered 23 = .ok (.ireturn, 1) := by decide +kernel
theorem dX3_fieldNumbered_24 : decode cX3_fieldNumbered 24 = .ok (.new 44, 3) := by decide +kernel
theorem dX3_fieldNumbered_27 : decode cX3_fieldNumbered 27 = .ok (.dup, 1) := by decide +kernel
theorem dX3_fieldNumbered_28 : decode cX3_fieldNumbered 28 = .ok (.ldc_w 307, 3) := by decide +kernel
theorem dX3_fieldNumbered_31 : decode cX3_fieldNumbered 31 = .ok (.invokespecial 48, 3) := by decide +kernel
theorem dX3_fieldNumbered_34 : decode cX3_fieldNumbered 34 = .ok (.athrow, 1) := by decide +kernel
theorem dX3_isClosed_0 : decode cX3_isClosed 0 = .ok (.aload_n 0, 1) := by decide +kernel
theorem dX3_isClosed_1 : decode cX3_isClosed 1 = .ok (.getfield 40, 3) := by decide +kernel
theorem dX3_isClosed_4 : decode cX3_isClosed 4 = .ok (.aload_n 1, 1) := by decide +kernel
theorem dX3_isClosed_5 : decode cX3_isClosed 5 = .ok (.getfield 104, 3) := by decide +kernel
theorem dX3_isClosed_8 : decode cX3_isClosed 8 = .ok (.baload, 1) := by decide +kernel
theorem dX3_isClosed_9 : decode cX3_isClosed 9 = .ok (.ireturn, 1) := by decide +kernel
theorem dX3_isRoomTaken_0 : decode cX3_isRoomTaken 0 = .ok (.iconst 0, 1) := by decide +kernel
theorem dX3_isRoomTaken_1 : decode cX3_isRoomTaken 1 = .ok (.istore_n 3, 1) := by decide +kernel
theorem dX3_isRoomTaken_2 : decode cX3_isRoomTaken 2 = .ok (.iload_n 3, 1) := by decide +kernel
theorem dX3_isRoomTaken_3 : decode cX3_isRoomTaken 3 = .ok (.aload_n 0, 1) := by decide +kernel
theorem dX3_isRoomTaken_4 : decode cX3_isRoomTaken 4 = .ok (.getfield 91, 3) := by decide +kernel
theorem dX3_isRoomTaken_7 : decode cX3_isRoomTaken 7 = .ok (.if_icmp .ge 37, 3) := by decide +kernel
theorem dX3_isRoomTaken_10 : decode cX3_isRoomTaken 10 = .ok (.aload_n 0, 1) := by decide +kernel
theorem dX3_isRoomTaken_11 : decode cX3_isRoomTaken 11 = .ok (.getfield 25, 3) := by decide +kernel
theorem dX3_isRoomTaken_14 : decode cX3_isRoomTaken 14 = .ok (.iload_n 3, 1) := by decide +kernel
theorem dX3_isRoomTaken_15 : decode cX3_isRoomTaken 15 = .ok (.aaload, 1) := by decide +kernel
theorem dX3_isRoomTaken_16 : decode cX3_isRoomTaken 16 = .ok (.getfield 207, 3) := by decide +kernel
theorem dX3_isRoomTaken_19 : decode cX3_isRoomTaken 19 = .ok (.iload_n 1, 1) := by decide +kernel
theorem dX3_isRoomTaken_20 : decode cX3_isRoomTaken 20 = .ok (.if_icmp .ne 18, 3) := by decide +kernel
theorem dX3_isRoomTaken_23 : decode cX3_isRoomTaken 23 = .ok (.aload_n 0, 1) := by decide +kernel
theorem dX3_isRoomTaken_24 : decode cX3_isRoomTaken 24 = .ok (.getfield 25, 3) := by decide +kernel
theorem dX3_isRoomTaken_27 : decode cX3_isRoomTaken 27 = .ok (.iload_n 3, 1) := by decide +kernel
theorem dX3_isRoomTaken_28 : decode cX3_isRoomTaken 28 = .ok (.aaload, 1) := by decide +kernel
theorem dX3_isRoomTaken_29 : decode cX3_isRoomTaken 29 = .ok (.getfield 104, 3) := by decide +kernel
theorem dX3_isRoomTaken_32 : decode cX3_isRoomTaken 32 = .ok (.iload_n 2, 1) := by decide +kernel
theorem dX3_isRoomTaken_33 : decode cX3_isRoomTaken 33 = .ok (.if_icmp .ne 5, 3) := by decide +kernel
theorem dX3_isRoomTaken_36 : decode cX3_isRoomTaken 36 = .ok (.iconst 1, 1) := by decide +kernel
theorem dX3_isRoomTaken_37 : decode cX3_isRoomTaken 37 = .ok (.ireturn, 1) := by decide +kernel
theorem dX3_isRoomTaken_38 : decode cX3_isRoomTaken 38 = .ok (.iinc 3 1, 3) := by decide +kernel
theorem dX3_isRoomTaken_41 : decode cX3_isRoomTaken 41 = .ok (.goto (-39), 3) := by decide +kernel
theorem dX3_isRoomTaken_44 : decode cX3_isRoomTaken 44 = .ok (.iconst 0, 1) := by decide +kernel
theorem dX3_isRoomTaken_45 : decode cX3_isRoomTaken 45 = .ok (.ireturn, 1) := by decide +kernel
theorem dX3_offerHeldFor_0 : decode cX3_offerHeldFor 0 = .ok (.iconst 0, 1) := by decide +kernel
theorem dX3_offerHeldFor_1 : decode cX3_offerHeldFor 1 = .ok (.istore 4, 2) := by decide +kernel
theorem dX3_offerHeldFor_3 : decode cX3_offerHeldFor 3 = .ok (.iload 4, 2) := by decide +kernel
theorem dX3_offerHeldFor_5 : decode cX3_offerHeldFor 5 = .ok (.aload_n 0, 1) := by decide +kernel
theorem dX3_offerHeldFor_6 : decode cX3_offerHeldFor 6 = .ok (.getfield 91, 3) := by decide +kernel
theorem dX3_offerHeldFor_9 : decode cX3_offerHeldFor 9 = .ok (.if_icmp .ge 41, 3) := by decide +kernel
theorem dX3_offerHeldFor_12 : decode cX3_offerHeldFor 12 = .ok (.aload_n 0, 1) := by decide +kernel
theorem dX3_offerHeldFor_13 : decode cX3_offerHeldFor 13 = .ok (.getfield 25, 3) := by decide +kernel
theorem dX3_offerHeldFor_16 : decode cX3_offerHeldFor 16 = .ok (.iload 4, 2) := by decide +kernel
theorem dX3_offerHeldFor_18 : decode cX3_offerHeldFor 18 = .ok (.aaload, 1) := by decide +kernel
theorem dX3_offerHeldFor_19 : decode cX3_offerHeldFor 19 = .ok (.iload_n 2, 1) := by decide +kernel
theorem dX3_offerHeldFor_20 : decode cX3_offerHeldFor 20 = .ok (.iload_n 3, 1) := by decide +kernel
theorem dX3_offerHeldFor_21 : decode cX3_offerHeldFor 21 = .ok (.invokevirtual 309, 3) := by decide +kernel
theorem dX3_offerHeldFor_24 : decode cX3_offerHeldFor 24 = .ok (.ifCond .eq 20, 3) := by decide +kernel
theorem dX3_offerHeldFor_27 : decode cX3_offerHeldFor 27 = .ok (.aload_n 0, 1) := by decide +kernel
theorem dX3_offerHeldFor_28 : decode cX3_offerHeldFor 28 = .ok (.getfield 25, 3) := by decide +kernel
theorem dX3_offerHeldFor_31 : decode cX3_offerHeldFor 31 = .ok (.iload 4, 2) := by decide +kernel
theorem dX3_offerHeldFor_33 : decode cX3_offerHeldFor 33 = .ok (.aaload, 1) := by decide +kernel
theorem dX3_offerHeldFor_34 : decode cX3_offerHeldFor 34 = .ok (.iload_n 1, 1) := by decide +kernel
theorem dX3_offerHeldFor_35 : decode cX3_offerHeldFor 35 = .ok (.invokevirtual 178, 3) := by decide +kernel
theorem dX3_offerHeldFor_38 : decode cX3_offerHeldFor 38 = .ok (.ifCond .eq 6, 3) := by decide +kernel
theorem dX3_offerHeldFor_41 : decode cX3_offerHeldFor 41 = .ok (.iload 4, 2) := by decide +kernel
theorem dX3_offerHeldFor_43 : decode cX3_offerHeldFor 43 = .ok (.ireturn, 1) := by decide +kernel
theorem dX3_offerHeldFor_44 : decode cX3_offerHeldFor 44 = .ok (.iinc 4 1, 3) := by decide +kernel
theorem dX3_offerHeldFor_47 : decode cX3_offerHeldFor 47 = .ok (.goto (-44), 3) := by decide +kernel
theorem dX3_offerHeldFor_50 : decode cX3_offerHeldFor 50 = .ok (.iconst (-1), 1) := by decide +kernel
theorem dX3_offerHeldFor_51 : decode cX3_offerHeldFor 51 = .ok (.ireturn, 1) := by decide +kernel
theorem dX3_offerHeldAt_0 : decode cX3_offerHeldAt 0 = .ok (.iconst 0, 1) := by decide +kernel
theorem dX3_offerHeldAt_1 : decode cX3_offerHeldAt 1 = .ok (.istore_n 3, 1) := by decide +kernel
theorem dX3_offerHeldAt_2 : decode cX3_offerHeldAt 2 = .ok (.iload_n 3, 1) := by decide +kernel
theorem dX3_offerHeldAt_3 : decode cX3_offerHeldAt 3 = .ok (.aload_n 0, 1) := by decide +kernel
theorem dX3_offerHeldAt_4 : decode cX3_offerHeldAt 4 = .ok (.getfield 91, 3) := by decide +kernel
theorem dX3_offerHeldAt_7 : decode cX3_offerHeldAt 7 = .ok (.if_icmp .ge 37, 3) := by decide +kernel
theorem dX3_offerHeldAt_10 : decode cX3_offerHeldAt 10 = .ok (.aload_n 0, 1) := by decide +kernel
theorem dX3_offerHeldAt_11 : decode cX3_offerHeldAt 11 = .ok (.getfield 25, 3) := by decide +kernel
theorem dX3_offerHeldAt_14 : decode cX3_offerHeldAt 14 = .ok (.iload_n 3, 1) := by decide +kernel
theorem dX3_offerHeldAt_15 : decode cX3_offerHeldAt 15 = .ok (.aaload, 1) := by decide +kernel
theorem dX3_offerHeldAt_16 : decode cX3_offerHeldAt 16 = .ok (.getfield 104, 3) := by decide +kernel
theorem dX3_offerHeldAt_19 : decode cX3_offerHeldAt 19 = .ok (.iload_n 2, 1) := by decide +kernel
theorem dX3_offerHeldAt_20 : decode cX3_offerHeldAt 20 = .ok (.if_icmp .ne 18, 3) := by decide +kernel
theorem dX3_offerHeldAt_23 : decode cX3_offerHeldAt 23 = .ok (.aload_n 0, 1) := by decide +kernel
theorem dX3_offerHeldAt_24 : decode cX3_offerHeldAt 24 = .ok (.getfield 25, 3) := by decide +kernel
theorem dX3_offerHeldAt_27 : decode cX3_offerHeldAt 27 = .ok (.iload_n 3, 1) := by decide +kernel
theorem dX3_offerHeldAt_28 : decode cX3_offerHeldAt 28 = .ok (.aaload, 1) := by decide +kernel
theorem dX3_offerHeldAt_29 : decode cX3_offerHeldAt 29 = .ok (.iload_n 1, 1) := by decide +kernel
theorem dX3_offerHeldAt_30 : decode cX3_offerHeldAt 30 = .ok (.invokevirtual 178, 3) := by decide +kernel
theorem dX3_offerHeldAt_33 : decode cX3_offerHeldAt 33 = .ok (.ifCond .eq 5, 3) := by decide +kernel
theorem dX3_offerHeldAt_36 : decode cX3_offerHeldAt 36 = .ok (.iload_n 3, 1) := by decide +kernel
theorem dX3_offerHeldAt_37 : decode cX3_offerHeldAt 37 = .ok (.ireturn, 1) := by decide +kernel
theorem dX3_offerHeldAt_38 : decode cX3_offerHeldAt 38 = .ok (.iinc 3 1, 3) := by decide +kernel
theorem dX3_offerHeldAt_41 : decode cX3_offerHeldAt 41 = .ok (.goto (-39), 3) := by decide +kernel
theorem dX3_offerHeldAt_44 : decode cX3_offerHeldAt 44 = .ok (.iconst (-1), 1) := by decide +kernel
theorem dX3_offerHeldAt_45 : decode cX3_offerHeldAt 45 = .ok (.ireturn, 1) := by decide +kernel
theorem dX3_examHeldAt_0 : decode cX3_examHeldAt 0 = .ok (.aload_n 0, 1) := by decide +kernel
theorem dX3_examHeldAt_1 : decode cX3_examHeldAt 1 = .ok (.iload_n 1, 1) := by decide +kernel
theorem dX3_examHeldAt_2 : decode cX3_examHeldAt 2 = .ok (.iload_n 2, 1) := by decide +kernel
theorem dX3_examHeldAt_3 : decode cX3_examHeldAt 3 = .ok (.invokevirtual 313, 3) := by decide +kernel
theorem dX3_examHeldAt_6 : decode cX3_examHeldAt 6 = .ok (.istore_n 3, 1) := by decide +kernel
theorem dX3_examHeldAt_7 : decode cX3_examHeldAt 7 = .ok (.iload_n 3, 1) := by decide +kernel
theorem dX3_examHeldAt_8 : decode cX3_examHeldAt 8 = .ok (.iconst (-1), 1) := by decide +kernel
theorem dX3_examHeldAt_9 : decode cX3_examHeldAt 9 = .ok (.if_icmp .ne 14, 3) := by decide +kernel
theorem dX3_examHeldAt_12 : decode cX3_examHeldAt 12 = .ok (.new 137, 3) := by decide +kernel
theorem dX3_examHeldAt_15 : decode cX3_examHeldAt 15 = .ok (.dup, 1) := by decide +kernel
theorem dX3_examHeldAt_16 : decode cX3_examHeldAt 16 = .ok (.ldc_w 316, 3) := by decide +kernel
theorem dX3_examHeldAt_19 : decode cX3_examHeldAt 19 = .ok (.invokespecial 141, 3) := by decide +kernel
theorem dX3_examHeldAt_22 : decode cX3_examHeldAt 22 = .ok (.athrow, 1) := by decide +kernel
theorem dX3_examHeldAt_23 : decode cX3_examHeldAt 23 = .ok (.aload_n 0, 1) := by decide +kernel
theorem dX3_examHeldAt_24 : decode cX3_examHeldAt 24 = .ok (.getfield 25, 3) := by decide +kernel
theorem dX3_examHeldAt_27 : decode cX3_examHeldAt 27 = .ok (.iload_n 3, 1) := by decide +kernel
theorem dX3_examHeldAt_28 : decode cX3_examHeldAt 28 = .ok (.aaload, 1) := by decide +kernel
theorem dX3_examHeldAt_29 : decode cX3_examHeldAt 29 = .ok (.getfield 318, 3) := by decide +kernel
theorem dX3_examHeldAt_32 : decode cX3_examHeldAt 32 = .ok (.ireturn, 1) := by decide +kernel
theorem dX3_mayHaveSeat_0 : decode cX3_mayHaveSeat 0 = .ok (.aload_n 0, 1) := by decide +kernel
theorem dX3_mayHaveSeat_1 : decode cX3_mayHaveSeat 1 = .ok (.getfield 10, 3) := by decide +kernel
theorem dX3_mayHaveSeat_4 : decode cX3_mayHaveSeat 4 = .ok (.iload_n 1, 1) := by decide +kernel
theorem dX3_mayHaveSeat_5 : decode cX3_mayHaveSeat 5 = .ok (.aload_n 2, 1) := by decide +kernel
theorem dX3_mayHaveSeat_6 : decode cX3_mayHaveSeat 6 = .ok (.getfield 318, 3) := by decide +kernel
theorem dX3_mayHaveSeat_9 : decode cX3_mayHaveSeat 9 = .ok (.invokevirtual 259, 3) := by decide +kernel
theorem dX3_mayHaveSeat_12 : decode cX3_mayHaveSeat 12 = .ok (.ifCond .ne 5, 3) := by decide +kernel
theorem dX3_mayHaveSeat_15 : decode cX3_mayHaveSeat 15 = .ok (.iconst 0, 1) := by decide +kernel
theorem dX3_mayHaveSeat_16 : decode cX3_mayHaveSeat 16 = .ok (.ireturn, 1) := by decide +kernel
theorem dX3_mayHaveSeat_17 : decode cX3_mayHaveSeat 17 = .ok (.aload_n 2, 1) := by decide +kernel
theorem dX3_mayHaveSeat_18 : decode cX3_mayHaveSeat 18 = .ok (.getfield 321, 3) := by decide +kernel
theorem dX3_mayHaveSeat_21 : decode cX3_mayHaveSeat 21 = .ok (.ifCond .eq 16, 3) := by decide +kernel
theorem dX3_mayHaveSeat_24 : decode cX3_mayHaveSeat 24 = .ok (.aload_n 0, 1) := by decide +kernel
theorem dX3_mayHaveSeat_25 : decode cX3_mayHaveSeat 25 = .ok (.getfield 10, 3) := by decide +kernel
theorem dX3_mayHaveSeat_28 : decode cX3_mayHaveSeat 28 = .ok (.iload_n 1, 1) := by decide +kernel
theorem dX3_mayHaveSeat_29 : decode cX3_mayHaveSeat 29 = .ok (.aload_n 2, 1) := by decide +kernel
theorem dX3_mayHaveSeat_30 : decode cX3_mayHaveSeat 30 = .ok (.getfield 318, 3) := by decide +kernel
theorem dX3_mayHaveSeat_33 : decode cX3_mayHaveSeat 33 = .ok (.invokevirtual 262, 3) := by decide +kernel
theorem dX3_mayHaveSeat_36 : decode cX3_mayHaveSeat 36 = .ok (.ireturn, 1) := by decide +kernel
theorem dX3_mayHaveSeat_37 : decode cX3_mayHaveSeat 37 = .ok (.aload_n 0, 1) := by decide +kernel
theorem dX3_mayHaveSeat_38 : decode cX3_mayHaveSeat 38 = .ok (.getfield 10, 3) := by decide +kernel
theorem dX3_mayHaveSeat_41 : decode cX3_mayHaveSeat 41 = .ok (.iconst 1, 1) := by decide +kernel
theorem dX3_mayHaveSeat_42 : decode cX3_mayHaveSeat 42 = .ok (.iload_n 1, 1) := by decide +kernel
theorem dX3_mayHaveSeat_43 : decode cX3_mayHaveSeat 43 = .ok (.aload_n 2, 1) := by decide +kernel
theorem dX3_mayHaveSeat_44 : decode cX3_mayHaveSeat 44 = .ok (.getfield 318, 3) := by decide +kernel
theorem dX3_mayHaveSeat_47 : decode cX3_mayHaveSeat 47 = .ok (.invokevirtual 270, 3) := by decide +kernel
theorem dX3_mayHaveSeat_50 : decode cX3_mayHaveSeat 50 = .ok (.iconst (-1), 1) := by decide +kernel
theorem dX3_mayHaveSeat_51 : decode cX3_mayHaveSeat 51 = .ok (.if_icmp .ne 7, 3) := by decide +kernel
theorem dX3_mayHaveSeat_54 : decode cX3_mayHaveSeat 54 = .ok (.iconst 1, 1) := by decide +kernel
theorem dX3_mayHaveSeat_55 : decode cX3_mayHaveSeat 55 = .ok (.goto 4, 3) := by decide +kernel
theorem dX3_mayHaveSeat_58 : decode cX3_mayHaveSeat 58 = .ok (.iconst 0, 1) := by decide +kernel
theorem dX3_mayHaveSeat_59 : decode cX3_mayHaveSeat 59 = .ok (.ireturn, 1) := by decide +kernel
theorem dX3_needsOnlySeat_0 : decode cX3_needsOnlySeat 0 = .ok (.aload_n 0, 1) := by decide +kernel
theorem dX3_needsOnlySeat_1 : decode cX3_needsOnlySeat 1 = .ok (.aload_n 2, 1) := by decide +kernel
theorem dX3_needsOnlySeat_2 : decode cX3_needsOnlySeat 2 = .ok (.invokevirtual 120, 3) := by decide +kernel
theorem dX3_needsOnlySeat_5 : decode cX3_needsOnlySeat 5 = .ok (.ifCond .ne 56, 3) := by decide +kernel
theorem dX3_needsOnlySeat_8 : decode cX3_needsOnlySeat 8 = .ok (.aload_n 0, 1) := by decide +kernel
theorem dX3_needsOnlySeat_9 : decode cX3_needsOnlySeat 9 = .ok (.getfield 34, 3) := by decide +kernel
theorem dX3_needsOnlySeat_12 : decode cX3_needsOnlySeat 12 = .ok (.iload_n 1, 1) := by decide +kernel
theorem dX3_needsOnlySeat_13 : decode cX3_needsOnlySeat 13 = .ok (.iaload, 1) := by decide +kernel
theorem dX3_needsOnlySeat_14 : decode cX3_needsOnlySeat 14 = .ok (.iload_n 3, 1) := by decide +kernel
theorem dX3_needsOnlySeat_15 : decode cX3_needsOnlySeat 15 = .ok (.if_icmp .lt 46, 3) := by decide +kernel
theorem dX3_needsOnlySeat_18 : decode cX3_needsOnlySeat 18 = .ok (.aload_n 0, 1) := by decide +kernel
theorem dX3_needsOnlySeat_19 : decode cX3_needsOnlySeat 19 = .ok (.iload_n 1, 1) := by decide +kernel
theorem dX3_needsOnlySeat_20 : decode cX3_needsOnlySeat 20 = .ok (.aload_n 2, 1) := by decide +kernel
theorem dX3_needsOnlySeat_21 : decode cX3_needsOnlySeat 21 = .ok (.invokevirtual 325, 3) := by decide +kernel
theorem dX3_needsOnlySeat_24 : decode cX3_needsOnlySeat 24 = .ok (.ifCond .eq 37, 3) := by decide +kernel
theorem dX3_needsOnlySeat_27 : decode cX3_needsOnlySeat 27 = .ok (.aload_n 0, 1) := by decide +kernel
theorem dX3_needsOnlySeat_28 : decode cX3_needsOnlySeat 28 = .ok (.iload_n 1, 1) := by decide +kernel
theorem dX3_needsOnlySeat_29 : decode cX3_needsOnlySeat 29 = .ok (.aload_n 2, 1) := by decide +kernel
theorem dX3_needsOnlySeat_30 : decode cX3_needsOnlySeat 30 = .ok (.getfield 318, 3) := by decide +kernel
theorem dX3_needsOnlySeat_33 : decode cX3_needsOnlySeat 33 = .ok (.aload_n 2, 1) := by decide +kernel
theorem dX3_needsOnlySeat_34 : decode cX3_needsOnlySeat 34 = .ok (.getfield 321, 3) := by decide +kernel
theorem dX3_needsOnlySeat_37 : decode cX3_needsOnlySeat 37 = .ok (.invokevirtual 160, 3) := by decide +kernel
theorem dX3_needsOnlySeat_40 : decode cX3_needsOnlySeat 40 = .ok (.iconst (-1), 1) := by decide +kernel
theorem dX3_needsOnlySeat_41 : decode cX3_needsOnlySeat 41 = .ok (.if_icmp .ne 20, 3) := by decide +kernel
theorem dX3_needsOnlySeat_44 : decode cX3_needsOnlySeat 44 = .ok (.aload_n 0, 1) := by decide +kernel
theorem dX3_needsOnlySeat_45 : decode cX3_needsOnlySeat 45 = .ok (.iload_n 1, 1) := by decide +kernel
theorem dX3_needsOnlySeat_46 : decode cX3_needsOnlySeat 46 = .ok (.aload_n 2, 1) := by decide +kernel
theorem dX3_needsOnlySeat_47 : decode cX3_needsOnlySeat 47 = .ok (.getfield 104, 3) := by decide +kernel
theorem dX3_needsOnlySeat_50 : decode cX3_needsOnlySeat 50 = .ok (.invokevirtual 313, 3) := by decide +kernel
theorem dX3_needsOnlySeat_53 : decode cX3_needsOnlySeat 53 = .ok (.iconst (-1), 1) := by decide +kernel
theorem dX3_needsOnlySeat_54 : decode cX3_needsOnlySeat 54 = .ok (.if_icmp .ne 7, 3) := by decide +kernel
theorem dX3_needsOnlySeat_57 : decode cX3_needsOnlySeat 57 = .ok (.iconst 1, 1) := by decide +kernel
theorem dX3_needsOnlySeat_58 : decode cX3_needsOnlySeat 58 = .ok (.goto 4, 3) := by decide +kernel
theorem dX3_needsOnlySeat_61 : decode cX3_needsOnlySeat 61 = .ok (.iconst 0, 1) := by decide +kernel
theorem dX3_needsOnlySeat_62 : decode cX3_needsOnlySeat 62 = .ok (.ireturn, 1) := by decide +kernel
theorem dX3_isSeatWon_0 : decode cX3_isSeatWon 0 = .ok (.aload_n 0, 1) := by decide +kernel
theorem dX3_isSeatWon_1 : decode cX3_isSeatWon 1 = .ok (.iload_n 1, 1) := by decide +kernel
theorem dX3_isSeatWon_2 : decode cX3_isSeatWon 2 = .ok (.aload_n 2, 1) := by decide +kernel
theorem dX3_isSeatWon_3 : decode cX3_isSeatWon 3 = .ok (.iload_n 3, 1) := by decide +kernel
theorem dX3_isSeatWon_4 : decode cX3_isSeatWon 4 = .ok (.invokevirtual 329, 3) := by decide +kernel
theorem dX3_isSeatWon_7 : decode cX3_isSeatWon 7 = .ok (.ifCond .ne 5, 3) := by decide +kernel
theorem dX3_isSeatWon_10 : decode cX3_isSeatWon 10 = .ok (.iconst 0, 1) := by decide +kernel
theorem dX3_isSeatWon_11 : decode cX3_isSeatWon 11 = .ok (.ireturn, 1) := by decide +kernel
theorem dX3_isSeatWon_12 : decode cX3_isSeatWon 12 = .ok (.aload_n 2, 1) := by decide +kernel
theorem dX3_isSeatWon_13 : decode cX3_isSeatWon 13 = .ok (.invokevirtual 332, 3) := by decide +kernel
theorem dX3_isSeatWon_16 : decode cX3_isSeatWon 16 = .ok (.ifCond .eq 11, 3) := by decide +kernel
theorem dX3_isSeatWon_19 : decode cX3_isSeatWon 19 = .ok (.aload_n 2, 1) := by decide +kernel
theorem dX3_isSeatWon_20 : decode cX3_isSeatWon 20 = .ok (.iload_n 1, 1) := by decide +kernel
theorem dX3_isSeatWon_21 : decode cX3_isSeatWon 21 = .ok (.iload_n 3, 1) := by decide +kernel
theorem dX3_isSeatWon_22 : decode cX3_isSeatWon 22 = .ok (.invokevirtual 335, 3) := by decide +kernel
theorem dX3_isSeatWon_25 : decode cX3_isSeatWon 25 = .ok (.iconst 0, 1) := by decide +kernel
theorem dX3_isSeatWon_26 : decode cX3_isSeatWon 26 = .ok (.ireturn, 1) := by decide +kernel
theorem dX3_isSeatWon_27 : decode cX3_isSeatWon 27 = .ok (.aload_n 0, 1) := by decide +kernel
theorem dX3_isSeatWon_28 : decode cX3_isSeatWon 28 = .ok (.iload_n 1, 1) := by decide +kernel
theorem dX3_isSeatWon_29 : decode cX3_isSeatWon 29 = .ok (.aload_n 2, 1) := by decide +kernel
theorem dX3_isSeatWon_30 : decode cX3_isSeatWon 30 = .ok (.iload_n 3, 1) := by decide +kernel
theorem dX3_isSeatWon_31 : decode cX3_isSeatWon 31 = .ok (.invokevirtual 338, 3) := by decide +kernel
theorem dX3_isSeatWon_34 : decode cX3_isSeatWon 34 = .ok (.iconst 1, 1) := by decide +kernel
theorem dX3_isSeatWon_35 : decode cX3_isSeatWon 35 = .ok (.ireturn, 1) := by decide +kernel
theorem dX3_giveSeat_0 : decode cX3_giveSeat 0 = .ok (.aload_n 0, 1) := by decide +kernel
theorem dX3_giveSeat_1 : decode cX3_giveSeat 1 = .ok (.getfield 34, 3) := by decide +kernel
theorem dX3_giveSeat_4 : decode cX3_giveSeat 4 = .ok (.iload_n 1, 1) := by decide +kernel
theorem dX3_giveSeat_5 : decode cX3_giveSeat 5 = .ok (.dup2, 1) := by decide +kernel
theorem dX3_giveSeat_6 : decode cX3_giveSeat 6 = .ok (.iaload, 1) := by decide +kernel
theorem dX3_giveSeat_7 : decode cX3_giveSeat 7 = .ok (.iload_n 3, 1) := by decide +kernel
theorem dX3_giveSeat_8 : decode cX3_giveSeat 8 = .ok (.isub, 1) := by decide +kernel
theorem dX3_giveSeat_9 : decode cX3_giveSeat 9 = .ok (.iastore, 1) := by decide +kernel
theorem dX3_giveSeat_10 : decode cX3_giveSeat 10 = .ok (.aload_n 2, 1) := by decide +kernel
theorem dX3_giveSeat_11 : decode cX3_giveSeat 11 = .ok (.getfield 184, 3) := by decide +kernel
theorem dX3_giveSeat_14 : decode cX3_giveSeat 14 = .ok (.iload_n 1, 1) := by decide +kernel
theorem dX3_giveSeat_15 : decode cX3_giveSeat 15 = .ok (.iload_n 3, 1) := by decide +kernel
theorem dX3_giveSeat_16 : decode cX3_giveSeat 16 = .ok (.iastore, 1) := by decide +kernel
theorem dX3_giveSeat_17 : decode cX3_giveSeat 17 = .ok (.iconst 0, 1) := by decide +kernel
theorem dX3_giveSeat_18 : decode cX3_giveSeat 18 = .ok (.istore 4, 2) := by decide +kernel
theorem dX3_giveSeat_20 : decode cX3_giveSeat 20 = .ok (.iload 4, 2) := by decide +kernel
theorem dX3_giveSeat_22 : decode cX3_giveSeat 22 = .ok (.aload_n 0, 1) := by decide +kernel
theorem dX3_giveSeat_23 : decode cX3_giveSeat 23 = .ok (.getfield 91, 3) := by decide +kernel
theorem dX3_giveSeat_26 : decode cX3_giveSeat 26 = .ok (.if_icmp .ge 41, 3) := by decide +kernel
theorem dX3_giveSeat_29 : decode cX3_giveSeat 29 = .ok (.aload_n 0, 1) := by decide +kernel
theorem dX3_giveSeat_30 : decode cX3_giveSeat 30 = .ok (.getfield 25, 3) := by decide +kernel
theorem dX3_giveSeat_33 : decode cX3_giveSeat 33 = .ok (.iload 4, 2) := by decide +kernel
theorem dX3_giveSeat_35 : decode cX3_giveSeat 35 = .ok (.aaload, 1) := by decide +kernel
theorem dX3_giveSeat_36 : decode cX3_giveSeat 36 = .ok (.aload_n 2, 1) := by decide +kernel
theorem dX3_giveSeat_37 : decode cX3_giveSeat 37 = .ok (.getfield 318, 3) := by decide +kernel
theorem dX3_giveSeat_40 : decode cX3_giveSeat 40 = .ok (.aload_n 2, 1) := by decide +kernel
theorem dX3_giveSeat_41 : decode cX3_giveSeat 41 = .ok (.getfield 321, 3) := by decide +kernel
theorem dX3_giveSeat_44 : decode cX3_giveSeat 44 = .ok (.invokevirtual 309, 3) := by decide +kernel
theorem dX3_giveSeat_47 : decode cX3_giveSeat 47 = .ok (.ifCond .eq 14, 3) := by decide +kernel
theorem dX3_giveSeat_50 : decode cX3_giveSeat 50 = .ok (.aload_n 0, 1) := by decide +kernel
theorem dX3_giveSeat_51 : decode cX3_giveSeat 51 = .ok (.getfield 25, 3) := by decide +kernel
theorem dX3_giveSeat_54 : decode cX3_giveSeat 54 = .ok (.iload 4, 2) := by decide +kernel
theorem dX3_giveSeat_56 : decode cX3_giveSeat 56 = .ok (.aaload, 1) := by decide +kernel
theorem dX3_giveSeat_57 : decode cX3_giveSeat 57 = .ok (.iload_n 1, 1) := by decide +kernel
theorem dX3_giveSeat_58 : decode cX3_giveSeat 58 = .ok (.invokevirtual 342, 3) := by decide +kernel
theorem dX3_giveSeat_61 : decode cX3_giveSeat 61 = .ok (.iinc 4 1, 3) := by decide +kernel
theorem dX3_giveSeat_64 : decode cX3_giveSeat 64 = .ok (.goto (-44), 3) := by decide +kernel
theorem dX3_giveSeat_67 : decode cX3_giveSeat 67 = .ok (.return_, 1) := by decide +kernel
theorem dX3_payBack_0 : decode cX3_payBack 0 = .ok (.aload_n 0, 1) := by decide +kernel
theorem dX3_payBack_1 : decode cX3_payBack 1 = .ok (.getfield 34, 3) := by decide +kernel
theorem dX3_payBack_4 : decode cX3_payBack 4 = .ok (.iload_n 1, 1) := by decide +kernel
theorem dX3_payBack_5 : decode cX3_payBack 5 = .ok (.dup2, 1) := by decide +kernel
theorem dX3_payBack_6 : decode cX3_payBack 6 = .ok (.iaload, 1) := by decide +kernel
theorem dX3_payBack_7 : decode cX3_payBack 7 = .ok (.iload_n 2, 1) := by decide +kernel
theorem dX3_payBack_8 : decode cX3_payBack 8 = .ok (.iadd, 1) := by decide +kernel
theorem dX3_payBack_9 : decode cX3_payBack 9 = .ok (.iastore, 1) := by decide +kernel
theorem dX3_payBack_10 : decode cX3_payBack 10 = .ok (.aload_n 0, 1) := by decide +kernel
theorem dX3_payBack_11 : decode cX3_payBack 11 = .ok (.dup, 1) := by decide +kernel
theorem dX3_payBack_12 : decode cX3_payBack 12 = .ok (.getfield 219, 3) := by decide +kernel
theorem dX3_payBack_15 : decode cX3_payBack 15 = .ok (.iload_n 2, 1) := by decide +kernel
theorem dX3_payBack_16 : decode cX3_payBack 16 = .ok (.iadd, 1) := by decide +kernel
theorem dX3_payBack_17 : decode cX3_payBack 17 = .ok (.putfield 219, 3) := by decide +kernel
theorem dX3_payBack_20 : decode cX3_payBack 20 = .ok (.return_, 1) := by decide +kernel
theorem dX3_moveOneUp_0 : decode cX3_moveOneUp 0 = .ok (.aload_n 1, 1) := by decide +kernel
theorem dX3_moveOneUp_1 : decode cX3_moveOneUp 1 = .ok (.invokevirtual 332, 3) := by decide +kernel
theorem dX3_moveOneUp_4 : decode cX3_moveOneUp 4 = .ok (.ifCond .eq 5, 3) := by decide +kernel
theorem dX3_moveOneUp_7 : decode cX3_moveOneUp 7 = .ok (.iconst (-1), 1) := by decide +kernel
theorem dX3_moveOneUp_8 : decode cX3_moveOneUp 8 = .ok (.ireturn, 1) := by decide +kernel
theorem dX3_moveOneUp_9 : decode cX3_moveOneUp 9 = .ok (.iconst 0, 1) := by decide +kernel
theorem dX3_moveOneUp_10 : decode cX3_moveOneUp 10 = .ok (.istore_n 2, 1) := by decide +kernel
theorem dX3_moveOneUp_11 : decode cX3_moveOneUp 11 = .ok (.iload_n 2, 1) := by decide +kernel
theorem dX3_moveOneUp_12 : decode cX3_moveOneUp 12 = .ok (.aload_n 1, 1) := by decide +kernel
theorem dX3_moveOneUp_13 : decode cX3_moveOneUp 13 = .ok (.getfield 187, 3) := by decide +kernel
theorem dX3_moveOneUp_16 : decode cX3_moveOneUp 16 = .ok (.if_icmp .ge 45, 3) := by decide +kernel
theorem dX3_moveOneUp_19 : decode cX3_moveOneUp 19 = .ok (.aload_n 1, 1) := by decide +kernel
theorem dX3_moveOneUp_20 : decode cX3_moveOneUp 20 = .ok (.getfield 192, 3) := by decide +kernel
theorem dX3_moveOneUp_23 : decode cX3_moveOneUp 23 = .ok (.iload_n 2, 1) := by decide +kernel
theorem dX3_moveOneUp_24 : decode cX3_moveOneUp 24 = .ok (.iaload, 1) := by decide +kernel
theorem dX3_moveOneUp_25 : decode cX3_moveOneUp 25 = .ok (.istore_n 3, 1) := by decide +kernel
theorem dX3_moveOneUp_26 : decode cX3_moveOneUp 26 = .ok (.aload_n 1, 1) := by decide +kernel
theorem dX3_moveOneUp_27 : decode cX3_moveOneUp 27 = .ok (.getfield 345, 3) := by decide +kernel
theorem dX3_moveOneUp_30 : decode cX3_moveOneUp 30 = .ok (.iload_n 2, 1) := by decide +kernel
theorem dX3_moveOneUp_31 : decode cX3_moveOneUp 31 = .ok (.iaload, 1) := by decide +kernel
theorem dX3_moveOneUp_32 : decode cX3_moveOneUp 32 = .ok (.istore 4, 2) := by decide +kernel
theorem dX3_moveOneUp_34 : decode cX3_moveOneUp 34 = .ok (.aload_n 0, 1) := by decide +kernel
theorem dX3_moveOneUp_35 : decode cX3_moveOneUp 35 = .ok (.iload_n 3, 1) := by decide +kernel
theorem dX3_moveOneUp_36 : decode cX3_moveOneUp 36 = .ok (.aload_n 1, 1) := by decide +kernel
theorem dX3_moveOneUp_37 : decode cX3_moveOneUp 37 = .ok (.iload 4, 2) := by decide +kernel
theorem dX3_moveOneUp_39 : decode cX3_moveOneUp 39 = .ok (.invokevirtual 329, 3) := by decide +kernel
theorem dX3_moveOneUp_42 : decode cX3_moveOneUp 42 = .ok (.ifCond .eq 13, 3) := by decide +kernel
theorem dX3_moveOneUp_45 : decode cX3_moveOneUp 45 = .ok (.aload_n 0, 1) := by decide +kernel
theorem dX3_moveOneUp_46 : decode cX3_moveOneUp 46 = .ok (.iload_n 3, 1) := by decide +kernel
theorem dX3_moveOneUp_47 : decode cX3_moveOneUp 47 = .ok (.aload_n 1, 1) := by decide +kernel
theorem dX3_moveOneUp_48 : decode cX3_moveOneUp 48 = .ok (.iload 4, 2) := by decide +kernel
theorem dX3_moveOneUp_50 : decode cX3_moveOneUp 50 = .ok (.invokevirtual 338, 3) := by decide +kernel
theorem dX3_moveOneUp_53 : decode cX3_moveOneUp 53 = .ok (.iload_n 3, 1) := by decide +kernel
theorem dX3_moveOneUp_54 : decode cX3_moveOneUp 54 = .ok (.ireturn, 1) := by decide +kernel
theorem dX3_moveOneUp_55 : decode cX3_moveOneUp 55 = .ok (.iinc 2 1, 3) := by decide +kernel
theorem dX3_moveOneUp_58 : decode cX3_moveOneUp 58 = .ok (.goto (-47), 3) := by decide +kernel
theorem dX3_moveOneUp_61 : decode cX3_moveOneUp 61 = .ok (.iconst (-1), 1) := by decide +kernel
theorem dX3_moveOneUp_62 : decode cX3_moveOneUp 62 = .ok (.ireturn, 1) := by decide +kernel
theorem dX3_moveAllUp_0 : decode cX3_moveAllUp 0 = .ok (.iconst 0, 1) := by decide +kernel
theorem dX3_moveAllUp_1 : decode cX3_moveAllUp 1 = .ok (.istore_n 2, 1) := by decide +kernel
theorem dX3_moveAllUp_2 : decode cX3_moveAllUp 2 = .ok (.iload_n 2, 1) := by decide +kernel
theorem dX3_moveAllUp_3 : decode cX3_moveAllUp 3 = .ok (.aload_n 1, 1) := by decide +kernel
theorem dX3_moveAllUp_4 : decode cX3_moveAllUp 4 = .ok (.getfield 279, 3) := by decide +kernel
theorem dX3_moveAllUp_7 : decode cX3_moveAllUp 7 = .ok (.if_icmp .ge 19, 3) := by decide +kernel
theorem dX3_moveAllUp_10 : decode cX3_moveAllUp 10 = .ok (.aload_n 0, 1) := by decide +kernel
theorem dX3_moveAllUp_11 : decode cX3_moveAllUp 11 = .ok (.aload_n 1, 1) := by decide +kernel
theorem dX3_moveAllUp_12 : decode cX3_moveAllUp 12 = .ok (.invokevirtual 203, 3) := by decide +kernel
theorem dX3_moveAllUp_15 : decode cX3_moveAllUp 15 = .ok (.iconst (-1), 1) := by decide +kernel
theorem dX3_moveAllUp_16 : decode cX3_moveAllUp 16 = .ok (.if_icmp .ne 4, 3) := by decide +kernel
theorem dX3_moveAllUp_19 : decode cX3_moveAllUp 19 = .ok (.return_, 1) := by decide +kernel
theorem dX3_moveAllUp_20 : decode cX3_moveAllUp 20 = .ok (.iinc 2 1, 3) := by decide +kernel
theorem dX3_moveAllUp_23 : decode cX3_moveAllUp 23 = .ok (.goto (-21), 3) := by decide +kernel
theorem dX3_moveAllUp_26 : decode cX3_moveAllUp 26 = .ok (.return_, 1) := by decide +kernel
theorem dX3_isSeatLostByMove_0 : decode cX3_isSeatLostByMove 0 = .ok (.aload_n 0, 1) := by decide +kernel
theorem dX3_isSeatLostByMove_1 : decode cX3_isSeatLostByMove 1 = .ok (.iload_n 1, 1) := by decide +kernel
theorem dX3_isSeatLostByMove_2 : decode cX3_isSeatLostByMove 2 = .ok (.iload_n 3, 1) := by decide +kernel
theorem dX3_isSeatLostByMove_3 : decode cX3_isSeatLostByMove 3 = .ok (.invokevirtual 313, 3) := by decide +kernel
theorem dX3_isSeatLostByMove_6 : decode cX3_isSeatLostByMove 6 = .ok (.iconst (-1), 1) := by decide +kernel
theorem dX3_isSeatLostByMove_7 : decode cX3_isSeatLostByMove 7 = .ok (.if_icmp .eq 15, 3) := by decide +kernel
theorem dX3_isSeatLostByMove_10 : decode cX3_isSeatLostByMove 10 = .ok (.aload_n 0, 1) := by decide +kernel
theorem dX3_isSeatLostByMove_11 : decode cX3_isSeatLostByMove 11 = .ok (.iload_n 1, 1) := by decide +kernel
theorem dX3_isSeatLostByMove_12 : decode cX3_isSeatLostByMove 12 = .ok (.aload_n 2, 1) := by decide +kernel
theorem dX3_isSeatLostByMove_13 : decode cX3_isSeatLostByMove 13 = .ok (.iload_n 1, 1) := by decide +kernel
theorem dX3_isSeatLostByMove_14 : decode cX3_isSeatLostByMove 14 = .ok (.invokevirtual 197, 3) := by decide +kernel
theorem dX3_isSeatLostByMove_17 : decode cX3_isSeatLostByMove 17 = .ok (.invokevirtual 200, 3) := by decide +kernel
theorem dX3_isSeatLostByMove_20 : decode cX3_isSeatLostByMove 20 = .ok (.iconst 1, 1) := by decide +kernel
theorem dX3_isSeatLostByMove_21 : decode cX3_isSeatLostByMove 21 = .ok (.ireturn, 1) := by decide +kernel
theorem dX3_isSeatLostByMove_22 : decode cX3_isSeatLostByMove 22 = .ok (.aload_n 2, 1) := by decide +kernel
theorem dX3_isSeatLostByMove_23 : decode cX3_isSeatLostByMove 23 = .ok (.getfield 184, 3) := by decide +kernel
theorem dX3_isSeatLostByMove_26 : decode cX3_isSeatLostByMove 26 = .ok (.iload_n 1, 1) := by decide +kernel
theorem dX3_isSeatLostByMove_27 : decode cX3_isSeatLostByMove 27 = .ok (.iaload, 1) := by decide +kernel
theorem dX3_isSeatLostByMove_28 : decode cX3_isSeatLostByMove 28 = .ok (.iconst 2, 1) := by decide +kernel
theorem dX3_isSeatLostByMove_29 : decode cX3_isSeatLostByMove 29 = .ok (.idiv, 1) := by decide +kernel
theorem dX3_isSeatLostByMove_30 : decode cX3_isSeatLostByMove 30 = .ok (.istore 4, 2) := by decide +kernel
theorem dX3_isSeatLostByMove_32 : decode cX3_isSeatLostByMove 32 = .ok (.aload_n 2, 1) := by decide +kernel
theorem dX3_isSeatLostByMove_33 : decode cX3_isSeatLostByMove 33 = .ok (.getfield 184, 3) := by decide +kernel
theorem dX3_isSeatLostByMove_36 : decode cX3_isSeatLostByMove 36 = .ok (.iload_n 1, 1) := by decide +kernel
theorem dX3_isSeatLostByMove_37 : decode cX3_isSeatLostByMove 37 = .ok (.dup2, 1) := by decide +kernel
theorem dX3_isSeatLostByMove_38 : decode cX3_isSeatLostByMove 38 = .ok (.iaload, 1) := by decide +kernel
theorem dX3_isSeatLostByMove_39 : decode cX3_isSeatLostByMove 39 = .ok (.iload 4, 2) := by decide +kernel
theorem dX3_isSeatLostByMove_41 : decode cX3_isSeatLostByMove 41 = .ok (.isub, 1) := by decide +kernel
theorem dX3_isSeatLostByMove_42 : decode cX3_isSeatLostByMove 42 = .ok (.iastore, 1) := by decide +kernel
theorem dX3_isSeatLostByMove_43 : decode cX3_isSeatLostByMove 43 = .ok (.aload_n 0, 1) := by decide +kernel
theorem dX3_isSeatLostByMove_44 : decode cX3_isSeatLostByMove 44 = .ok (.iload_n 1, 1) := by decide +kernel
theorem dX3_isSeatLostByMove_45 : decode cX3_isSeatLostByMove 45 = .ok (.iload 4, 2) := by decide +kernel
theorem dX3_isSeatLostByMove_47 : decode cX3_isSeatLostByMove 47 = .ok (.invokevirtual 200, 3) := by decide +kernel
theorem dX3_isSeatLostByMove_50 : decode cX3_isSeatLostByMove 50 = .ok (.iconst 0, 1) := by decide +kernel
theorem dX3_isSeatLostByMove_51 : decode cX3_isSeatLostByMove 51 = .ok (.ireturn, 1) := by decide +kernel
theorem dX3_letSit_0 : decode cX3_letSit 0 = .ok (.iconst 0, 1) := by decide +kernel
theorem dX3_letSit_1 : decode cX3_letSit 1 = .ok (.istore_n 2, 1) := by decide +kernel
theorem dX3_letSit_2 : decode cX3_letSit 2 = .ok (.iconst 0, 1) := by decide +kernel
theorem dX3_letSit_3 : decode cX3_letSit 3 = .ok (.istore_n 3, 1) := by decide +kernel
theorem dX3_letSit_4 : decode cX3_letSit 4 = .ok (.iload_n 3, 1) := by decide +kernel
theorem dX3_letSit_5 : decode cX3_letSit 5 = .ok (.aload_n 0, 1) := by decide +kernel
theorem dX3_letSit_6 : decode cX3_letSit 6 = .ok (.getfield 65, 3) := by decide +kernel
theorem dX3_letSit_9 : decode cX3_letSit 9 = .ok (.if_icmp .ge 51, 3) := by decide +kernel
theorem dX3_letSit_12 : decode cX3_letSit 12 = .ok (.aload_n 1, 1) := by decide +kernel
theorem dX3_letSit_13 : decode cX3_letSit 13 = .ok (.iload_n 3, 1) := by decide +kernel
theorem dX3_letSit_14 : decode cX3_letSit 14 = .ok (.invokevirtual 178, 3) := by decide +kernel
theorem dX3_letSit_17 : decode cX3_letSit 17 = .ok (.ifCond .ne 6, 3) := by decide +kernel
theorem dX3_letSit_20 : decode cX3_letSit 20 = .ok (.goto 34, 3) := by decide +kernel
theorem dX3_letSit_23 : decode cX3_letSit 23 = .ok (.aload_n 0, 1) := by decide +kernel
theorem dX3_letSit_24 : decode cX3_letSit 24 = .ok (.getfield 10, 3) := by decide +kernel
theorem dX3_letSit_27 : decode cX3_letSit 27 = .ok (.iload_n 3, 1) := by decide +kernel
theorem dX3_letSit_28 : decode cX3_letSit 28 = .ok (.aload_n 1, 1) := by decide +kernel
theorem dX3_letSit_29 : decode cX3_letSit 29 = .ok (.getfield 318, 3) := by decide +kernel
theorem dX3_letSit_32 : decode cX3_letSit 32 = .ok (.invokevirtual 259, 3) := by decide +kernel
theorem dX3_letSit_35 : decode cX3_letSit 35 = .ok (.ifCond .eq 9, 3) := by decide +kernel
theorem dX3_letSit_38 : decode cX3_letSit 38 = .ok (.iinc 2 1, 3) := by decide +kernel
theorem dX3_letSit_41 : decode cX3_letSit 41 = .ok (.goto 13, 3) := by decide +kernel
theorem dX3_letSit_44 : decode cX3_letSit 44 = .ok (.aload_n 0, 1) := by decide +kernel
theorem dX3_letSit_45 : decode cX3_letSit 45 = .ok (.iload_n 3, 1) := by decide +kernel
theorem dX3_letSit_46 : decode cX3_letSit 46 = .ok (.aload_n 1, 1) := by decide +kernel
theorem dX3_letSit_47 : decode cX3_letSit 47 = .ok (.iload_n 3, 1) := by decide +kernel
theorem dX3_letSit_48 : decode cX3_letSit 48 = .ok (.invokevirtual 197, 3) := by decide +kernel
theorem dX3_letSit_51 : decode cX3_letSit 51 = .ok (.invokevirtual 200, 3) := by decide +kernel
theorem dX3_letSit_54 : decode cX3_letSit 54 = .ok (.iinc 3 1, 3) := by decide +kernel
theorem dX3_letSit_57 : decode cX3_letSit 57 = .ok (.goto (-53), 3) := by decide +kernel
theorem dX3_letSit_60 : decode cX3_letSit 60 = .ok (.iload_n 2, 1) := by decide +kernel
theorem dX3_letSit_61 : decode cX3_letSit 61 = .ok (.ireturn, 1) := by decide +kernel
theorem dX3_hasSeatsThatClash_0 : decode cX3_hasSeatsThatClash 0 = .ok (.iconst 0, 1) := by decide +kernel
theorem dX3_hasSeatsThatClash_1 : decode cX3_hasSeatsThatClash 1 = .ok (.istore_n 2, 1) := by decide +kernel
theorem dX3_hasSeatsThatClash_2 : decode cX3_hasSeatsThatClash 2 = .ok (.iconst 0, 1) := by decide +kernel
theorem dX3_hasSeatsThatClash_3 : decode cX3_hasSeatsThatClash 3 = .ok (.istore_n 3, 1) := by decide +kernel
theorem dX3_hasSeatsThatClash_4 : decode cX3_hasSeatsThatClash 4 = .ok (.iconst 0, 1) := by decide +kernel
theorem dX3_hasSeatsThatClash_5 : decode cX3_hasSeatsThatClash 5 = .ok (.istore 4, 2) := by decide +kernel
theorem dX3_hasSeatsThatClash_7 : decode cX3_hasSeatsThatClash 7 = .ok (.iload 4, 2) := by decide +kernel
theorem dX3_hasSeatsThatClash_9 : decode cX3_hasSeatsThatClash 9 = .ok (.aload_n 0, 1) := by decide +kernel
theorem dX3_hasSeatsThatClash_10 : decode cX3_hasSeatsThatClash 10 = .ok (.getfield 91, 3) := by decide +kernel
theorem dX3_hasSeatsThatClash_13 : decode cX3_hasSeatsThatClash 13 = .ok (.if_icmp .ge 101, 3) := by decide +kernel
theorem dX3_hasSeatsThatClash_16 : decode cX3_hasSeatsThatClash 16 = .ok (.aload_n 0, 1) := by decide +kernel
theorem dX3_hasSeatsThatClash_17 : decode cX3_hasSeatsThatClash 17 = .ok (.getfield 25, 3) := by decide +kernel
theorem dX3_hasSeatsThatClash_20 : decode cX3_hasSeatsThatClash 20 = .ok (.iload 4, 2) := by decide +kernel
theorem dX3_hasSeatsThatClash_22 : decode cX3_hasSeatsThatClash 22 = .ok (.aaload, 1) := by decide +kernel
theorem dX3_hasSeatsThatClash_23 : decode cX3_hasSeatsThatClash 23 = .ok (.iload_n 1, 1) := by decide +kernel
theorem dX3_hasSeatsThatClash_24 : decode cX3_hasSeatsThatClash 24 = .ok (.invokevirtual 178, 3) := by decide +kernel
theorem dX3_hasSeatsThatClash_27 : decode cX3_hasSeatsThatClash 27 = .ok (.ifCond .ne 6, 3) := by decide +kernel
theorem dX3_hasSeatsThatClash_30 : decode cX3_hasSeatsThatClash 30 = .ok (.goto 78, 3) := by decide +kernel
theorem dX3_hasSeatsThatClash_33 : decode cX3_hasSeatsThatClash 33 = .ok (.iconst 1, 1) := by decide +kernel
theorem dX3_hasSeatsThatClash_34 : decode cX3_hasSeatsThatClash 34 = .ok (.aload_n 0, 1) := by decide +kernel
theorem dX3_hasSeatsThatClash_35 : decode cX3_hasSeatsThatClash 35 = .ok (.getfield 25, 3) := by decide +kernel
theorem dX3_hasSeatsThatClash_38 : decode cX3_hasSeatsThatClash 38 = .ok (.iload 4, 2) := by decide +kernel
theorem dX3_hasSeatsThatClash_40 : decode cX3_hasSeatsThatClash 40 = .ok (.aaload, 1) := by decide +kernel
theorem dX3_hasSeatsThatClash_41 : decode cX3_hasSeatsThatClash 41 = .ok (.getfield 104, 3) := by decide +kernel
theorem dX3_hasSeatsThatClash_44 : decode cX3_hasSeatsThatClash 44 = .ok (.ishl, 1) := by decide +kernel
theorem dX3_hasSeatsThatClash_45 : decode cX3_hasSeatsThatClash 45 = .ok (.istore 5, 2) := by decide +kernel
theorem dX3_hasSeatsThatClash_47 : decode cX3_hasSeatsThatClash 47 = .ok (.iconst 1, 1) := by decide +kernel
theorem dX3_hasSeatsThatClash_48 : decode cX3_hasSeatsThatClash 48 = .ok (.iconst 2, 1) := by decide +kernel
theorem dX3_hasSeatsThatClash_49 : decode cX3_hasSeatsThatClash 49 = .ok (.aload_n 0, 1) := by decide +kernel
theorem dX3_hasSeatsThatClash_50 : decode cX3_hasSeatsThatClash 50 = .ok (.getfield 25, 3) := by decide +kernel
theorem dX3_hasSeatsThatClash_53 : decode cX3_hasSeatsThatClash 53 = .ok (.iload 4, 2) := by decide +kernel
theorem dX3_hasSeatsThatClash_55 : decode cX3_hasSeatsThatClash 55 = .ok (.aaload, 1) := by decide +kernel
theorem dX3_hasSeatsThatClash_56 : decode cX3_hasSeatsThatClash 56 = .ok (.getfield 318, 3) := by decide +kernel
theorem dX3_hasSeatsThatClash_59 : decode cX3_hasSeatsThatClash 59 = .ok (.imul, 1) := by decide +kernel
theorem dX3_hasSeatsThatClash_60 : decode cX3_hasSeatsThatClash 60 = .ok (.aload_n 0, 1) := by decide +kernel
theorem dX3_hasSeatsThatClash_61 : decode cX3_hasSeatsThatClash 61 = .ok (.getfield 25, 3) := by decide +kernel
theorem dX3_hasSeatsThatClash_64 : decode cX3_hasSeatsThatClash 64 = .ok (.iload 4, 2) := by decide +kernel
theorem dX3_hasSeatsThatClash_66 : decode cX3_hasSeatsThatClash 66 = .ok (.aaload, 1) := by decide +kernel
theorem dX3_hasSeatsThatClash_67 : decode cX3_hasSeatsThatClash 67 = .ok (.getfield 321, 3) := by decide +kernel
theorem dX3_hasSeatsThatClash_70 : decode cX3_hasSeatsThatClash 70 = .ok (.ifCond .eq 7, 3) := by decide +kernel
theorem dX3_hasSeatsThatClash_73 : decode cX3_hasSeatsThatClash 73 = .ok (.iconst 1, 1) := by decide +kernel
theorem dX3_hasSeatsThatClash_74 : decode cX3_hasSeatsThatClash 74 = .ok (.goto 4, 3) := by decide +kernel
theorem dX3_hasSeatsThatClash_77 : decode cX3_hasSeatsThatClash 77 = .ok (.iconst 0, 1) := by decide +kernel
theorem dX3_hasSeatsThatClash_78 : decode cX3_hasSeatsThatClash 78 = .ok (.iadd, 1) := by decide +kernel
theorem dX3_hasSeatsThatClash_79 : decode cX3_hasSeatsThatClash 79 = .ok (.ishl, 1) := by decide +kernel
theorem dX3_hasSeatsThatClash_80 : decode cX3_hasSeatsThatClash 80 = .ok (.istore 6, 2) := by decide +kernel
theorem dX3_hasSeatsThatClash_82 : decode cX3_hasSeatsThatClash 82 = .ok (.iload_n 2, 1) := by decide +kernel
theorem dX3_hasSeatsThatClash_83 : decode cX3_hasSeatsThatClash 83 = .ok (.iload 5, 2) := by decide +kernel
theorem dX3_hasSeatsThatClash_85 : decode cX3_hasSeatsThatClash 85 = .ok (.iand, 1) := by decide +kernel
theorem dX3_hasSeatsThatClash_86 : decode cX3_hasSeatsThatClash 86 = .ok (.ifCond .ne 10, 3) := by decide +kernel
theorem dX3_hasSeatsThatClash_89 : decode cX3_hasSeatsThatClash 89 = .ok (.iload_n 3, 1) := by decide +kernel
theorem dX3_hasSeatsThatClash_90 : decode cX3_hasSeatsThatClash 90 = .ok (.iload 6, 2) := by decide +kernel
theorem dX3_hasSeatsThatClash_92 : decode cX3_hasSeatsThatClash 92 = .ok (.iand, 1) := by decide +kernel
theorem dX3_hasSeatsThatClash_93 : decode cX3_hasSeatsThatClash 93 = .ok (.ifCond .eq 5, 3) := by decide +kernel
theorem dX3_hasSeatsThatClash_96 : decode cX3_hasSeatsThatClash 96 = .ok (.iconst 1, 1) := by decide +kernel
theorem dX3_hasSeatsThatClash_97 : decode cX3_hasSeatsThatClash 97 = .ok (.ireturn, 1) := by decide +kernel
theorem dX3_hasSeatsThatClash_98 : decode cX3_hasSeatsThatClash 98 = .ok (.iload_n 2, 1) := by decide +kernel
theorem dX3_hasSeatsThatClash_99 : decode cX3_hasSeatsThatClash 99 = .ok (.iload 5, 2) := by decide +kernel
theorem dX3_hasSeatsThatClash_101 : decode cX3_hasSeatsThatClash 101 = .ok (.ior, 1) := by decide +kernel
theorem dX3_hasSeatsThatClash_102 : decode cX3_hasSeatsThatClash 102 = .ok (.istore_n 2, 1) := by decide +kernel
theorem dX3_hasSeatsThatClash_103 : decode cX3_hasSeatsThatClash 103 = .ok (.iload_n 3, 1) := by decide +kernel
theorem dX3_hasSeatsThatClash_104 : decode cX3_hasSeatsThatClash 104 = .ok (.iload 6, 2) := by decide +kernel
theorem dX3_hasSeatsThatClash_106 : decode cX3_hasSeatsThatClash 106 = .ok (.ior, 1) := by decide +kernel
theorem dX3_hasSeatsThatClash_107 : decode cX3_hasSeatsThatClash 107 = .ok (.istore_n 3, 1) := by decide +kernel
theorem dX3_hasSeatsThatClash_108 : decode cX3_hasSeatsThatClash 108 = .ok (.iinc 4 1, 3) := by decide +kernel
theorem dX3_hasSeatsThatClash_111 : decode cX3_hasSeatsThatClash 111 = .ok (.goto (-104), 3) := by decide +kernel
theorem dX3_hasSeatsThatClash_114 : decode cX3_hasSeatsThatClash 114 = .ok (.iconst 0, 1) := by decide +kernel
theorem dX3_hasSeatsThatClash_115 : decode cX3_hasSeatsThatClash 115 = .ok (.ireturn, 1) := by decide +kernel
theorem dX3_arePointsWhole_0 : decode cX3_arePointsWhole 0 = .ok (.aload_n 0, 1) := by decide +kernel
theorem dX3_arePointsWhole_1 : decode cX3_arePointsWhole 1 = .ok (.getfield 34, 3) := by decide +kernel
theorem dX3_arePointsWhole_4 : decode cX3_arePointsWhole 4 = .ok (.iload_n 1, 1) := by decide +kernel
theorem dX3_arePointsWhole_5 : decode cX3_arePointsWhole 5 = .ok (.iaload, 1) := by decide +kernel
theorem dX3_arePointsWhole_6 : decode cX3_arePointsWhole 6 = .ok (.aload_n 0, 1) := by decide +kernel
theorem dX3_arePointsWhole_7 : decode cX3_arePointsWhole 7 = .ok (.getfield 37, 3) := by decide +kernel
theorem dX3_arePointsWhole_10 : decode cX3_arePointsWhole 10 = .ok (.iload_n 1, 1) := by decide +kernel
theorem dX3_arePointsWhole_11 : decode cX3_arePointsWhole 11 = .ok (.iaload, 1) := by decide +kernel
theorem dX3_arePointsWhole_12 : decode cX3_arePointsWhole 12 = .ok (.iadd, 1) := by decide +kernel
theorem dX3_arePointsWhole_13 : decode cX3_arePointsWhole 13 = .ok (.istore_n 2, 1) := by decide +kernel
theorem dX3_arePointsWhole_14 : decode cX3_arePointsWhole 14 = .ok (.iconst 0, 1) := by decide +kernel
theorem dX3_arePointsWhole_15 : decode cX3_arePointsWhole 15 = .ok (.istore_n 3, 1) := by decide +kernel
theorem dX3_arePointsWhole_16 : decode cX3_arePointsWhole 16 = .ok (.iload_n 3, 1) := by decide +kernel
theorem dX3_arePointsWhole_17 : decode cX3_arePointsWhole 17 = .ok (.aload_n 0, 1) := by decide +kernel
theorem dX3_arePointsWhole_18 : decode cX3_arePointsWhole 18 = .ok (.getfield 91, 3) := by decide +kernel
theorem dX3_arePointsWhole_21 : decode cX3_arePointsWhole 21 = .ok (.if_icmp .ge 36, 3) := by decide +kernel
theorem dX3_arePointsWhole_24 : decode cX3_arePointsWhole 24 = .ok (.aload_n 0, 1) := by decide +kernel
theorem dX3_arePointsWhole_25 : decode cX3_arePointsWhole 25 = .ok (.getfield 25, 3) := by decide +kernel
theorem dX3_arePointsWhole_28 : decode cX3_arePointsWhole 28 = .ok (.iload_n 3, 1) := by decide +kernel
theorem dX3_arePointsWhole_29 : decode cX3_arePointsWhole 29 = .ok (.aaload, 1) := by decide +kernel
theorem dX3_arePointsWhole_30 : decode cX3_arePointsWhole 30 = .ok (.iload_n 1, 1) := by decide +kernel
theorem dX3_arePointsWhole_31 : decode cX3_arePointsWhole 31 = .ok (.invokevirtual 178, 3) := by decide +kernel
theorem dX3_arePointsWhole_34 : decode cX3_arePointsWhole 34 = .ok (.ifCond .eq 17, 3) := by decide +kernel
theorem dX3_arePointsWhole_37 : decode cX3_arePointsWhole 37 = .ok (.iload_n 2, 1) := by decide +kernel
theorem dX3_arePointsWhole_38 : decode cX3_arePointsWhole 38 = .ok (.aload_n 0, 1) := by decide +kernel
theorem dX3_arePointsWhole_39 : decode cX3_arePointsWhole 39 = .ok (.getfield 25, 3) := by decide +kernel
theorem dX3_arePointsWhole_42 : decode cX3_arePointsWhole 42 = .ok (.iload_n 3, 1) := by decide +kernel
theorem dX3_arePointsWhole_43 : decode cX3_arePointsWhole 43 = .ok (.aaload, 1) := by decide +kernel
theorem dX3_arePointsWhole_44 : decode cX3_arePointsWhole 44 = .ok (.getfield 184, 3) := by decide +kernel
theorem dX3_arePointsWhole_47 : decode cX3_arePointsWhole 47 = .ok (.iload_n 1, 1) := by decide +kernel
theorem dX3_arePointsWhole_48 : decode cX3_arePointsWhole 48 = .ok (.iaload, 1) := by decide +kernel
theorem dX3_arePointsWhole_49 : decode cX3_arePointsWhole 49 = .ok (.iadd, 1) := by decide +kernel
theorem dX3_arePointsWhole_50 : decode cX3_arePointsWhole 50 = .ok (.istore_n 2, 1) := by decide +kernel
theorem dX3_arePointsWhole_51 : decode cX3_arePointsWhole 51 = .ok (.iinc 3 1, 3) := by decide +kernel
theorem dX3_arePointsWhole_54 : decode cX3_arePointsWhole 54 = .ok (.goto (-38), 3) := by decide +kernel
theorem dX3_arePointsWhole_57 : decode cX3_arePointsWhole 57 = .ok (.iload_n 2, 1) := by decide +kernel
theorem dX3_arePointsWhole_58 : decode cX3_arePointsWhole 58 = .ok (.bipush 100, 2) := by decide +kernel
theorem dX3_arePointsWhole_60 : decode cX3_arePointsWhole 60 = .ok (.if_icmp .ne 7, 3) := by decide +kernel
theorem dX3_arePointsWhole_63 : decode cX3_arePointsWhole 63 = .ok (.iconst 1, 1) := by decide +kernel
theorem dX3_arePointsWhole_64 : decode cX3_arePointsWhole 64 = .ok (.goto 4, 3) := by decide +kernel
theorem dX3_arePointsWhole_67 : decode cX3_arePointsWhole 67 = .ok (.iconst 0, 1) := by decide +kernel
theorem dX3_arePointsWhole_68 : decode cX3_arePointsWhole 68 = .ok (.ireturn, 1) := by decide +kernel
theorem dX3_isRoomShared_0 : decode cX3_isRoomShared 0 = .ok (.iconst 0, 1) := by decide +kernel
theorem dX3_isRoomShared_1 : decode cX3_isRoomShared 1 = .ok (.istore_n 2, 1) := by decide +kernel
theorem dX3_isRoomShared_2 : decode cX3_isRoomShared 2 = .ok (.iload_n 2, 1) := by decide +kernel
theorem dX3_isRoomShared_3 : decode cX3_isRoomShared 3 = .ok (.aload_n 0, 1) := by decide +kernel
theorem dX3_isRoomShared_4 : decode cX3_isRoomShared 4 = .ok (.getfield 91, 3) := by decide +kernel
theorem dX3_isRoomShared_7 : decode cX3_isRoomShared 7 = .ok (.if_icmp .ge 58, 3) := by decide +kernel
theorem dX3_isRoomShared_10 : decode cX3_isRoomShared 10 = .ok (.iload_n 2, 1) := by decide +kernel
theorem dX3_isRoomShared_11 : decode cX3_isRoomShared 11 = .ok (.iload_n 1, 1) := by decide +kernel
theorem dX3_isRoomShared_12 : decode cX3_isRoomShared 12 = .ok (.if_icmp .eq 47, 3) := by decide +kernel
theorem dX3_isRoomShared_15 : decode cX3_isRoomShared 15 = .ok (.aload_n 0, 1) := by decide +kernel
theorem dX3_isRoomShared_16 : decode cX3_isRoomShared 16 = .ok (.getfield 25, 3) := by decide +kernel
theorem dX3_isRoomShared_19 : decode cX3_isRoomShared 19 = .ok (.iload_n 2, 1) := by decide +kernel
theorem dX3_isRoomShared_20 : decode cX3_isRoomShared 20 = .ok (.aaload, 1) := by decide +kernel
theorem dX3_isRoomShared_21 : decode cX3_isRoomShared 21 = .ok (.getfield 207, 3) := by decide +kernel
theorem dX3_isRoomShared_24 : decode cX3_isRoomShared 24 = .ok (.aload_n 0, 1) := by decide +kernel
theorem dX3_isRoomShared_25 : decode cX3_isRoomShared 25 = .ok (.getfield 25, 3) := by decide +kernel
theorem dX3_isRoomShared_28 : decode cX3_isRoomShared 28 = .ok (.iload_n 1, 1) := by decide +kernel
theorem dX3_isRoomShared_29 : decode cX3_isRoomShared 29 = .ok (.aaload, 1) := by decide +kernel
theorem dX3_isRoomShared_30 : decode cX3_isRoomShared 30 = .ok (.getfield 207, 3) := by decide +kernel
theorem dX3_isRoomShared_33 : decode cX3_isRoomShared 33 = .ok (.if_icmp .ne 26, 3) := by decide +kernel
theorem dX3_isRoomShared_36 : decode cX3_isRoomShared 36 = .ok (.aload_n 0, 1) := by decide +kernel
theorem dX3_isRoomShared_37 : decode cX3_isRoomShared 37 = .ok (.getfield 25, 3) := by decide +kernel
theorem dX3_isRoomShared_40 : decode cX3_isRoomShared 40 = .ok (.iload_n 2, 1) := by decide +kernel
theorem dX3_isRoomShared_41 : decode cX3_isRoomShared 41 = .ok (.aaload, 1) := by decide +kernel
theorem dX3_isRoomShared_42 : decode cX3_isRoomShared 42 = .ok (.getfield 104, 3) := by decide +kernel
theorem dX3_isRoomShared_45 : decode cX3_isRoomShared 45 = .ok (.aload_n 0, 1) := by decide +kernel
theorem dX3_isRoomShared_46 : decode cX3_isRoomShared 46 = .ok (.getfield 25, 3) := by decide +kernel
theorem dX3_isRoomShared_49 : decode cX3_isRoomShared 49 = .ok (.iload_n 1, 1) := by decide +kernel
theorem dX3_isRoomShared_50 : decode cX3_isRoomShared 50 = .ok (.aaload, 1) := by decide +kernel
theorem dX3_isRoomShared_51 : decode cX3_isRoomShared 51 = .ok (.getfield 104, 3) := by decide +kernel
theorem dX3_isRoomShared_54 : decode cX3_isRoomShared 54 = .ok (.if_icmp .ne 5, 3) := by decide +kernel
theorem dX3_isRoomShared_57 : decode cX3_isRoomShared 57 = .ok (.iconst 1, 1) := by decide +kernel
theorem dX3_isRoomShared_58 : decode cX3_isRoomShared 58 = .ok (.ireturn, 1) := by decide +kernel
theorem dX3_isRoomShared_59 : decode cX3_isRoomShared 59 = .ok (.iinc 2 1, 3) := by decide +kernel
theorem dX3_isRoomShared_62 : decode cX3_isRoomShared 62 = .ok (.goto (-60), 3) := by decide +kernel
theorem dX3_isRoomShared_65 : decode cX3_isRoomShared 65 = .ok (.iconst 0, 1) := by decide +kernel
theorem dX3_isRoomShared_66 : decode cX3_isRoomShared 66 = .ok (.ireturn, 1) := by decide +kernel
end
section
theorem dX4_init_0 : decode cX4_init 0 = .ok (.aload_n 0, 1) := by decide +kernel
theorem dX4_init_1 : decode cX4_init 1 = .ok (.invokespecial 1, 3) := by decide +kernel
theorem dX4_init_4 : decode cX4_init 4 = .ok (.aload_n 0, 1) := by decide +kernel
theorem dX4_init_5 : decode cX4_init 5 = .ok (.iconst 3, 1) := by decide +kernel
theorem dX4_init_6 : decode cX4_init 6 = .ok (.newarray .int, 2) := by decide +kernel
theorem dX4_init_8 : decode cX4_init 8 = .ok (.putfield 7, 3) := by decide +kernel
theorem dX4_init_11 : decode cX4_init 11 = .ok (.aload_n 0, 1) := by decide +kernel
theorem dX4_init_12 : decode cX4_init 12 = .ok (.bipush 12, 2) := by decide +kernel
theorem dX4_init_14 : decode cX4_init 14 = .ok (.newarray .int, 2) := by decide +kernel
theorem dX4_init_16 : decode cX4_init 16 = .ok (.putfield 13, 3) := by decide +kernel
theorem dX4_init_19 : decode cX4_init 19 = .ok (.aload_n 0, 1) := by decide +kernel
theorem dX4_init_20 : decode cX4_init 20 = .ok (.bipush 12, 2) := by decide +kernel
theorem dX4_init_22 : decode cX4_init 22 = .ok (.newarray .int, 2) := by decide +kernel
theorem dX4_init_24 : decode cX4_init 24 = .ok (.putfield 16, 3) := by decide +kernel
theorem dX4_init_27 : decode cX4_init 27 = .ok (.aload_n 0, 1) := by decide +kernel
theorem dX4_init_28 : decode cX4_init 28 = .ok (.bipush 12, 2) := by decide +kernel
theorem dX4_init_30 : decode cX4_init 30 = .ok (.newarray .int, 2) := by decide +kernel
theorem dX4_init_32 : decode cX4_init 32 = .ok (.putfield 19, 3) := by decide +kernel
theorem dX4_init_35 : decode cX4_init 35 = .ok (.aload_n 0, 1) := by decide +kernel
theorem dX4_init_36 : decode cX4_init 36 = .ok (.bipush 12, 2) := by decide +kernel
theorem dX4_init_38 : decode cX4_init 38 = .ok (.newarray .boolean, 2) := by decide +kernel
theorem dX4_init_40 : decode cX4_init 40 = .ok (.putfield 22, 3) := by decide +kernel
theorem dX4_init_43 : decode cX4_init 43 = .ok (.aload_n 0, 1) := by decide +kernel
theorem dX4_init_44 : decode cX4_init 44 = .ok (.bipush 12, 2) := by decide +kernel
theorem dX4_init_46 : decode cX4_init 46 = .ok (.newarray .int, 2) := by decide +kernel
theorem dX4_init_48 : decode cX4_init 48 = .ok (.putfield 26, 3) := by decide +kernel
theorem dX4_init_51 : decode cX4_init 51 = .ok (.aload_n 0, 1) := by decide +kernel
theorem dX4_init_52 : decode cX4_init 52 = .ok (.bipush 120, 2) := by decide +kernel
theorem dX4_init_54 : decode cX4_init 54 = .ok (.newarray .int, 2) := by decide +kernel
theorem dX4_init_56 : decode cX4_init 56 = .ok (.putfield 29, 3) := by decide +kernel
theorem dX4_init_59 : decode cX4_init 59 = .ok (.aload_n 0, 1) := by decide +kernel
theorem dX4_init_60 : decode cX4_init 60 = .ok (.bipush 120, 2) := by decide +kernel
theorem dX4_init_62 : decode cX4_init 62 = .ok (.newarray .int, 2) := by decide +kernel
theorem dX4_init_64 : decode cX4_init 64 = .ok (.putfield 32, 3) := by decide +kernel
theorem dX4_init_67 : decode cX4_init 67 = .ok (.aload_n 0, 1) := by decide +kernel
theorem dX4_init_68 : decode cX4_init 68 = .ok (.bipush 120, 2) := by decide +kernel
theorem dX4_init_70 : decode cX4_init 70 = .ok (.newarray .int, 2) := by decide +kernel
theorem dX4_init_72 : decode cX4_init 72 = .ok (.putfield 35, 3) := by decide +kernel
theorem dX4_init_75 : decode cX4_init 75 = .ok (.aload_n 0, 1) := by decide +kernel
theorem dX4_init_76 : decode cX4_init 76 = .ok (.bipush 120, 2) := by decide +kernel
theorem dX4_init_78 : decode cX4_init 78 = .ok (.newarray .int, 2) := by decide +kernel
theorem dX4_init_80 : decode cX4_init 80 = .ok (.putfield 38, 3) := by decide +kernel
theorem dX4_init_83 : decode cX4_init 83 = .ok (.aload_n 0, 1) := by decide +kernel
theorem dX4_init_84 : decode cX4_init 84 = .ok (.bipush 120, 2) := by decide +kernel
theorem dX4_init_86 : decode cX4_init 86 = .ok (.newarray .int, 2) := by decide +kernel
theorem dX4_init_88 : decode cX4_init 88 = .ok (.putfield 41, 3) := by decide +kernel
theorem dX4_init_91 : decode cX4_init 91 = .ok (.aload_n 0, 1) := by decide +kernel
theorem dX4_init_92 : decode cX4_init 92 = .ok (.sipush 540, 3) := by decide +kernel
theorem dX4_init_95 : decode cX4_init 95 = .ok (.newarray .int, 2) := by decide +kernel
theorem dX4_init_97 : decode cX4_init 97 = .ok (.putfield 44, 3) := by decide +kernel
theorem dX4_init_100 : decode cX4_init 100 = .ok (.aload_n 0, 1) := by decide +kernel
theorem dX4_init_101 : decode cX4_init 101 = .ok (.iconst 3, 1) := by decide +kernel
theorem dX4_init_102 : decode cX4_init 102 = .ok (.newarray .int, 2) := by decide +kernel
theorem dX4_init_104 : decode cX4_init 104 = .ok (.dup, 1) := by decide +kernel
theorem dX4_init_105 : decode cX4_init 105 = .ok (.iconst 0, 1) := by decide +kernel
theorem dX4_init_106 : decode cX4_init 106 = .ok (.iconst 0, 1) := by decide +kernel
theorem dX4_init_107 : decode cX4_init 107 = .ok (.iastore, 1) := by decide +kernel
theorem dX4_init_108 : decode cX4_init 108 = .ok (.dup, 1) := by decide +kernel
theorem dX4_init_109 : decode cX4_init 109 = .ok (.iconst 1, 1) := by decide +kernel
theorem dX4_init_110 : decode cX4_init 110 = .ok (.iconst 1, 1) := by decide +kernel
theorem dX4_init_111 : decode cX4_init 111 = .ok (.iastore, 1) := by decide +kernel
theorem dX4_init_112 : decode cX4_init 112 = .ok (.dup, 1) := by decide +kernel
theorem dX4_init_113 : decode cX4_init 113 = .ok (.iconst 2, 1) := by decide +kernel
theorem dX4_init_114 : decode cX4_init 114 = .ok (.iconst 2, 1) := by decide +kernel
theorem dX4_init_115 : decode cX4_init 115 = .ok (.iastore, 1) := by decide +kernel
theorem dX4_init_116 : decode cX4_init 116 = .ok (.putfield 47, 3) := by decide +kernel
theorem dX4_init_119 : decode cX4_init 119 = .ok (.aload_n 0, 1) := by decide +kernel
theorem dX4_init_120 : decode cX4_init 120 = .ok (.bipush 10, 2) := by decide +kernel
theorem dX4_init_122 : decode cX4_init 122 = .ok (.newarray .int, 2) := by decide +kernel
theorem dX4_init_124 : decode cX4_init 124 = .ok (.putfield 50, 3) := by decide +kernel
theorem dX4_init_127 : decode cX4_init 127 = .ok (.aload_n 0, 1) := by decide +kernel
theorem dX4_init_128 : decode cX4_init 128 = .ok (.bipush 6, 2) := by decide +kernel
theorem dX4_init_130 : decode cX4_init 130 = .ok (.newarray .boolean, 2) := by decide +kernel
theorem dX4_init_132 : decode cX4_init 132 = .ok (.putfield 53, 3) := by decide +kernel
theorem dX4_init_135 : decode cX4_init 135 = .ok (.aload_n 0, 1) := by decide +kernel
theorem dX4_init_136 : decode cX4_init 136 = .ok (.bipush 120, 2) := by decide +kernel
theorem dX4_init_138 : decode cX4_init 138 = .ok (.newarray .boolean, 2) := by decide +kernel
theorem dX4_init_140 : decode cX4_init 140 = .ok (.putfield 56, 3) := by decide +kernel
theorem dX4_init_143 : decode cX4_init 143 = .ok (.iconst 0, 1) := by decide +kernel
theorem dX4_init_144 : decode cX4_init 144 = .ok (.istore_n 1, 1) := by decide +kernel
theorem dX4_init_145 : decode cX4_init 145 = .ok (.iload_n 1, 1) := by decide +kernel
theorem dX4_init_146 : decode cX4_init 146 = .ok (.bipush 120, 2) := by decide +kernel
theorem dX4_init_148 : decode cX4_init 148 = .ok (.if_icmp .ge 16, 3) := by decide +kernel
theorem dX4_init_151 : decode cX4_init 151 = .ok (.aload_n 0, 1) := by decide +kernel
theorem dX4_init_152 : decode cX4_init 152 = .ok (.getfield 41, 3) := by decide +kernel
theorem dX4_init_155 : decode cX4_init 155 = .ok (.iload_n 1, 1) := by decide +kernel
theorem dX4_init_156 : decode cX4_init 156 = .ok (.iconst (-1), 1) := by decide +kernel
theorem dX4_init_157 : decode cX4_init 157 = .ok (.iastore, 1) := by decide +kernel
theorem dX4_init_158 : decode cX4_init 158 = .ok (.iinc 1 1, 3) := by decide +kernel
theorem dX4_init_161 : decode cX4_init 161 = .ok (.goto (-16), 3) := by decide +kernel
theorem dX4_init_164 : decode cX4_init 164 = .ok (.iconst 1, 1) := by decide +kernel
theorem dX4_init_165 : decode cX4_init 165 = .ok (.istore_n 1, 1) := by decide +kernel
theorem dX4_init_166 : decode cX4_init 166 = .ok (.iload_n 1, 1) := by decide +kernel
theorem dX4_init_167 : decode cX4_init 167 = .ok (.sipush 540, 3) := by decide +kernel
theorem dX4_init_170 : decode cX4_init 170 = .ok (.if_icmp .ge 16, 3) := by decide +kernel
theorem dX4_init_173 : decode cX4_init 173 = .ok (.aload_n 0, 1) := by decide +kernel
theorem dX4_init_174 : decode cX4_init 174 = .ok (.getfield 44, 3) := by decide +kernel
theorem dX4_init_177 : decode cX4_init 177 = .ok (.iload_n 1, 1) := by decide +kernel
theorem dX4_init_178 : decode cX4_init 178 = .ok (.iconst (-1), 1) := by decide +kernel
theorem dX4_init_179 : decode cX4_init 179 = .ok (.iastore, 1) := by decide +kernel
theorem dX4_init_180 : decode cX4_init 180 = .ok (.iinc 1 3, 3) := by decide +kernel
theorem dX4_init_183 : decode cX4_init 183 = .ok (.goto (-17), 3) := by decide +kernel
theorem dX4_init_186 : decode cX4_init 186 = .ok (.return_, 1) := by decide +kernel
theorem dX4_thrown_0 : decode cX4_thrown 0 = .ok (.aload_n 0, 1) := by decide +kernel
theorem dX4_thrown_1 : decode cX4_thrown 1 = .ok (.getfield 59, 3) := by decide +kernel
theorem dX4_thrown_4 : decode cX4_thrown 4 = .ok (.ireturn, 1) := by decide +kernel
theorem dX4_in_0 : decode cX4_in 0 = .ok (.iload_n 0, 1) := by decide +kernel
theorem dX4_in_1 : decode cX4_in 1 = .ok (.iload_n 1, 1) := by decide +kernel
theorem dX4_in_2 : decode cX4_in 2 = .ok (.if_icmp .lt 12, 3) := by decide +kernel
theorem dX4_in_5 : decode cX4_in 5 = .ok (.iload_n 0, 1) := by decide +kernel
theorem dX4_in_6 : decode cX4_in 6 = .ok (.iload_n 2, 1) := by decide +kernel
theorem dX4_in_7 : decode cX4_in 7 = .ok (.if_icmp .gt 7, 3) := by decide +kernel
theorem dX4_in_10 : decode cX4_in 10 = .ok (.iconst 1, 1) := by decide +kernel
theorem dX4_in_11 : decode cX4_in 11 = .ok (.goto 4, 3) := by decide +kernel
theorem dX4_in_14 : decode cX4_in 14 = .ok (.iconst 0, 1) := by decide +kernel
theorem dX4_in_15 : decode cX4_in 15 = .ok (.ireturn, 1) := by decide +kernel
theorem dX4_isPupil_0 : decode cX4_isPupil 0 = .ok (.iload_n 1, 1) := by decide +kernel
theorem dX4_isPupil_1 : decode cX4_isPupil 1 = .ok (.iconst 0, 1) := by decide +kernel
theorem dX4_isPupil_2 : decode cX4_isPupil 2 = .ok (.aload_n 0, 1) := by decide +kernel
theorem dX4_isPupil_3 : decode cX4_isPupil 3 = .ok (.getfield 63, 3) := by decide +kernel
theorem dX4_isPupil_6 : decode cX4_isPupil 6 = .ok (.iconst 1, 1) := by decide +kernel
theorem dX4_isPupil_7 : decode cX4_isPupil 7 = .ok (.isub, 1) := by decide +kernel
theorem dX4_isPupil_8 : decode cX4_isPupil 8 = .ok (.invokestatic 66, 3) := by decide +kernel
theorem dX4_isPupil_11 : decode cX4_isPupil 11 = .ok (.ireturn, 1) := by decide +kernel
theorem dX4_isExam_0 : decode cX4_isExam 0 = .ok (.iload_n 1, 1) := by decide +kernel
theorem dX4_isExam_1 : decode cX4_isExam 1 = .ok (.iconst 0, 1) := by decide +kernel
theorem dX4_isExam_2 : decode cX4_isExam 2 = .ok (.aload_n 0, 1) := by decide +kernel
theorem dX4_isExam_3 : decode cX4_isExam 3 = .ok (.getfield 70, 3) := by decide +kernel
theorem dX4_isExam_6 : decode cX4_isExam 6 = .ok (.iconst 1, 1) := by decide +kernel
theorem dX4_isExam_7 : decode cX4_isExam 7 = .ok (.isub, 1) := by decide +kernel
theorem dX4_isExam_8 : decode cX4_isExam 8 = .ok (.invokestatic 66, 3) := by decide +kernel
theorem dX4_isExam_11 : decode cX4_isExam 11 = .ok (.ireturn, 1) := by decide +kernel
theorem dX4_isOffer_0 : decode cX4_isOffer 0 = .ok (.iload_n 1, 1) := by decide +kernel
theorem dX4_isOffer_1 : decode cX4_isOffer 1 = .ok (.iconst 0, 1) := by decide +kernel
theorem dX4_isOffer_2 : decode cX4_isOffer 2 = .ok (.aload_n 0, 1) := by decide +kernel
theorem dX4_isOffer_3 : decode cX4_isOffer 3 = .ok (.getfield 73, 3) := by decide +kernel
theorem dX4_isOffer_6 : decode cX4_isOffer 6 = .ok (.iconst 1, 1) := by decide +kernel
theorem dX4_isOffer_7 : decode cX4_isOffer 7 = .ok (.isub, 1) := by decide +kernel
theorem dX4_isOffer_8 : decode cX4_isOffer 8 = .ok (.invokestatic 66, 3) := by decide +kernel
theorem dX4_isOffer_11 : decode cX4_isOffer 11 = .ok (.ireturn, 1) := by decide +kernel
theorem dX4_isStore_0 : decode cX4_isStore 0 = .ok (.iload_n 0, 1) := by decide +kernel
theorem dX4_isStore_1 : decode cX4_isStore 1 = .ok (.iconst 0, 1) := by decide +kernel
theorem dX4_isStore_2 : decode cX4_isStore 2 = .ok (.iconst 2, 1) := by decide +kernel
theorem dX4_isStore_3 : decode cX4_isStore 3 = .ok (.invokestatic 66, 3) := by decide +kernel
theorem dX4_isStore_6 : decode cX4_isStore 6 = .ok (.ireturn, 1) := by decide +kernel
theorem dX4_isSlot_0 : decode cX4_isSlot 0 = .ok (.iload_n 0, 1) := by decide +kernel
theorem dX4_isSlot_1 : decode cX4_isSlot 1 = .ok (.iconst 0, 1) := by decide +kernel
theorem dX4_isSlot_2 : decode cX4_isSlot 2 = .ok (.iconst 5, 1) := by decide +kernel
theorem dX4_isSlot_3 : decode cX4_isSlot 3 = .ok (.invokestatic 66, 3) := by decide +kernel
theorem dX4_isSlot_6 : decode cX4_isSlot 6 = .ok (.ireturn, 1) := by decide +kernel
theorem dX4_fieldOf_0 : decode cX4_fieldOf 0 = .ok (.iload_n 0, 1) := by decide +kernel
theorem dX4_fieldOf_1 : decode cX4_fieldOf 1 = .ok (.bipush 114, 2) := by decide +kernel
theorem dX4_fieldOf_3 : decode cX4_fieldOf 3 = .ok (.if_icmp .ne 7, 3) := by decide +kernel
theorem dX4_fieldOf_6 : decode cX4_fieldOf 6 = .ok (.iconst 0, 1) := by decide +kernel
theorem dX4_fieldOf_7 : decode cX4_fieldOf 7 = .ok (.goto 24, 3) := by decide +kernel
theorem dX4_fieldOf_10 : decode cX4_fieldOf 10 = .ok (.iload_n 0, 1) := by decide +kernel
theorem dX4_fieldOf_11 : decode cX4_fieldOf 11 = .ok (.bipush 109, 2) := by decide +kernel
theorem dX4_fieldOf_13 : decode cX4_fieldOf 13 = .ok (.if_icmp .ne 7, 3) := by decide +kernel
theorem dX4_fieldOf_16 : decode cX4_fieldOf 16 = .ok (.iconst 1, 1) := by decide +kernel
theorem dX4_fieldOf_17 : decode cX4_fieldOf 17 = .ok (.goto 14, 3) := by decide +kernel
theorem dX4_fieldOf_20 : decode cX4_fieldOf 20 = .ok (.iload_n 0, 1) := by decide +kernel
theorem dX4_fieldOf_21 : decode cX4_fieldOf 21 = .ok (.bipush 120, 2) := by decide +kernel
theorem dX4_fieldOf_23 : decode cX4_fieldOf 23 = .ok (.if_icmp .ne 7, 3) := by decide +kernel
theorem dX4_fieldOf_26 : decode cX4_fieldOf 26 = .ok (.iconst 2, 1) := by decide +kernel
theorem dX4_fieldOf_27 : decode cX4_fieldOf 27 = .ok (.goto 4, 3) := by decide +kernel
theorem dX4_fieldOf_30 : decode cX4_fieldOf 30 = .ok (.iconst (-1), 1) := by decide +kernel
theorem dX4_fieldOf_31 : decode cX4_fieldOf 31 = .ok (.ireturn, 1) := by decide +kernel
theorem dX4_cell_0 : decode cX4_cell 0 = .ok (.iload_n 0, 1) := by decide +kernel
theorem dX4_cell_1 : decode cX4_cell 1 = .ok (.bipush 10, 2) := by decide +kernel
theorem dX4_cell_3 : decode cX4_cell 3 = .ok (.imul, 1) := by decide +kernel
theorem dX4_cell_4 : decode cX4_cell 4 = .ok (.iload_n 1, 1) := by decide +kernel
theorem dX4_cell_5 : decode cX4_cell 5 = .ok (.iadd, 1) := by decide +kernel
theorem dX4_cell_6 : decode cX4_cell 6 = .ok (.bipush 6, 2) := by decide +kernel
theorem dX4_cell_8 : decode cX4_cell 8 = .ok (.imul, 1) := by decide +kernel
theorem dX4_cell_9 : decode cX4_cell 9 = .ok (.iload_n 2, 1) := by decide +kernel
theorem dX4_cell_10 : decode cX4_cell 10 = .ok (.iadd, 1) := by decide +kernel
theorem dX4_cell_11 : decode cX4_cell 11 = .ok (.iconst 3, 1) := by decide +kernel
theorem dX4_cell_12 : decode cX4_cell 12 = .ok (.imul, 1) := by decide +kernel
theorem dX4_cell_13 : decode cX4_cell 13 = .ok (.iload_n 3, 1) := by decide +kernel
theorem dX4_cell_14 : decode cX4_cell 14 = .ok (.iadd, 1) := by decide +kernel
theorem dX4_cell_15 : decode cX4_cell 15 = .ok (.ireturn, 1) := by decide +kernel
theorem dX4_pair_0 : decode cX4_pair 0 = .ok (.iload_n 0, 1) := by decide +kernel
theorem dX4_pair_1 : decode cX4_pair 1 = .ok (.bipush 12, 2) := by decide +kernel
theorem dX4_pair_3 : decode cX4_pair 3 = .ok (.imul, 1) := by decide +kernel
theorem dX4_pair_4 : decode cX4_pair 4 = .ok (.iload_n 1, 1) := by decide +kernel
theorem dX4_pair_5 : decode cX4_pair 5 = .ok (.iadd, 1) := by decide +kernel
theorem dX4_pair_6 : decode cX4_pair 6 = .ok (.ireturn, 1) := by decide +kernel
theorem dX4_room_0 : decode cX4_room 0 = .ok (.aload_n 0, 1) := by decide +kernel
theorem dX4_room_1 : decode cX4_room 1 = .ok (.iload_n 1, 1) := by decide +kernel
theorem dX4_room_2 : decode cX4_room 2 = .ok (.iconst 1, 1) := by decide +kernel
theorem dX4_room_3 : decode cX4_room 3 = .ok (.bipush 6, 2) := by decide +kernel
theorem dX4_room_5 : decode cX4_room 5 = .ok (.invokestatic 66, 3) := by decide +kernel
theorem dX4_room_8 : decode cX4_room 8 = .ok (.ifCond .ne 7, 3) := by decide +kernel
theorem dX4_room_11 : decode cX4_room 11 = .ok (.iconst 1, 1) := by decide +kernel
theorem dX4_room_12 : decode cX4_room 12 = .ok (.goto 16, 3) := by decide +kernel
theorem dX4_room_15 : decode cX4_room 15 = .ok (.aload_n 0, 1) := by decide +kernel
theorem dX4_room_16 : decode cX4_room 16 = .ok (.getfield 76, 3) := by decide +kernel
theorem dX4_room_19 : decode cX4_room 19 = .ok (.iconst 3, 1) := by decide +kernel
theorem dX4_room_20 : decode cX4_room 20 = .ok (.if_icmp .ne 7, 3) := by decide +kernel
theorem dX4_room_23 : decode cX4_room 23 = .ok (.iconst 2, 1) := by decide +kernel
theorem dX4_room_24 : decode cX4_room 24 = .ok (.goto 4, 3) := by decide +kernel
theorem dX4_room_27 : decode cX4_room 27 = .ok (.iconst 0, 1) := by decide +kernel
theorem dX4_room_28 : decode cX4_room 28 = .ok (.putfield 59, 3) := by decide +kernel
theorem dX4_room_31 : decode cX4_room 31 = .ok (.aload_n 0, 1) := by decide +kernel
theorem dX4_room_32 : decode cX4_room 32 = .ok (.getfield 59, 3) := by decide +kernel
theorem dX4_room_35 : decode cX4_room 35 = .ok (.ifCond .le 5, 3) := by decide +kernel
theorem dX4_room_38 : decode cX4_room 38 = .ok (.iconst 0, 1) := by decide +kernel
theorem dX4_room_39 : decode cX4_room 39 = .ok (.ireturn, 1) := by decide +kernel
theorem dX4_room_40 : decode cX4_room 40 = .ok (.aload_n 0, 1) := by decide +kernel
theorem dX4_room_41 : decode cX4_room 41 = .ok (.getfield 7, 3) := by decide +kernel
theorem dX4_room_44 : decode cX4_room 44 = .ok (.aload_n 0, 1) := by decide +kernel
theorem dX4_room_45 : decode cX4_room 45 = .ok (.getfield 76, 3) := by decide +kernel
theorem dX4_room_48 : decode cX4_room 48 = .ok (.iload_n 1, 1) := by decide +kernel
theorem dX4_room_49 : decode cX4_room 49 = .ok (.iastore, 1) := by decide +kernel
theorem dX4_room_50 : decode cX4_room 50 = .ok (.aload_n 0, 1) := by decide +kernel
theorem dX4_room_51 : decode cX4_room 51 = .ok (.dup, 1) := by decide +kernel
theorem dX4_room_52 : decode cX4_room 52 = .ok (.getfield 76, 3) := by decide +kernel
theorem dX4_room_55 : decode cX4_room 55 = .ok (.iconst 1, 1) := by decide +kernel
theorem dX4_room_56 : decode cX4_room 56 = .ok (.iadd, 1) := by decide +kernel
theorem dX4_room_57 : decode cX4_room 57 = .ok (.putfield 76, 3) := by decide +kernel
theorem dX4_room_60 : decode cX4_room 60 = .ok (.aload_n 0, 1) := by decide +kernel
theorem dX4_room_61 : decode cX4_room 61 = .ok (.getfield 76, 3) := by decide +kernel
theorem dX4_room_64 : decode cX4_room 64 = .ok (.iconst 1, 1) := by decide +kernel
theorem dX4_room_65 : decode cX4_room 65 = .ok (.isub, 1) := by decide +kernel
theorem dX4_room_66 : decode cX4_room 66 = .ok (.ireturn, 1) := by decide +kernel
theorem dX4_exam_0 : decode cX4_exam 0 = .ok (.aload_n 0, 1) := by decide +kernel
theorem dX4_exam_1 : decode cX4_exam 1 = .ok (.aload_n 0, 1) := by decide +kernel
theorem dX4_exam_2 : decode cX4_exam 2 = .ok (.getfield 70, 3) := by decide +kernel
theorem dX4_exam_5 : decode cX4_exam 5 = .ok (.bipush 6, 2) := by decide +kernel
theorem dX4_exam_7 : decode cX4_exam 7 = .ok (.if_icmp .ne 7, 3) := by decide +kernel
theorem dX4_exam_10 : decode cX4_exam 10 = .ok (.iconst 1, 1) := by decide +kernel
theorem dX4_exam_11 : decode cX4_exam 11 = .ok (.goto 4, 3) := by decide +kernel
theorem dX4_exam_14 : decode cX4_exam 14 = .ok (.iconst 0, 1) := by decide +kernel
theorem dX4_exam_15 : decode cX4_exam 15 = .ok (.putfield 59, 3) := by decide +kernel
theorem dX4_exam_18 : decode cX4_exam 18 = .ok (.aload_n 0, 1) := by decide +kernel
theorem dX4_exam_19 : decode cX4_exam 19 = .ok (.getfield 59, 3) := by decide +kernel
theorem dX4_exam_22 : decode cX4_exam 22 = .ok (.ifCond .le 5, 3) := by decide +kernel
theorem dX4_exam_25 : decode cX4_exam 25 = .ok (.iconst 0, 1) := by decide +kernel
theorem dX4_exam_26 : decode cX4_exam 26 = .ok (.ireturn, 1) := by decide +kernel
theorem dX4_exam_27 : decode cX4_exam 27 = .ok (.aload_n 0, 1) := by decide +kernel
theorem dX4_exam_28 : decode cX4_exam 28 = .ok (.dup, 1) := by decide +kernel
theorem dX4_exam_29 : decode cX4_exam 29 = .ok (.getfield 70, 3) := by decide +kernel
theorem dX4_exam_32 : decode cX4_exam 32 = .ok (.iconst 1, 1) := by decide +kernel
theorem dX4_exam_33 : decode cX4_exam 33 = .ok (.iadd, 1) := by decide +kernel
theorem dX4_exam_34 : decode cX4_exam 34 = .ok (.putfield 70, 3) := by decide +kernel
theorem dX4_exam_37 : decode cX4_exam 37 = .ok (.aload_n 0, 1) := by decide +kernel
theorem dX4_exam_38 : decode cX4_exam 38 = .ok (.getfield 70, 3) := by decide +kernel
theorem dX4_exam_41 : decode cX4_exam 41 = .ok (.iconst 1, 1) := by decide +kernel
theorem dX4_exam_42 : decode cX4_exam 42 = .ok (.isub, 1) := by decide +kernel
theorem dX4_exam_43 : decode cX4_exam 43 = .ok (.ireturn, 1) := by decide +kernel
theorem dX4_pupil_0 : decode cX4_pupil 0 = .ok (.aload_n 0, 1) := by decide +kernel
theorem dX4_pupil_1 : decode cX4_pupil 1 = .ok (.aload_n 0, 1) := by decide +kernel
theorem dX4_pupil_2 : decode cX4_pupil 2 = .ok (.getfield 63, 3) := by decide +kernel
theorem dX4_pupil_5 : decode cX4_pupil 5 = .ok (.bipush 10, 2) := by decide +kernel
theorem dX4_pupil_7 : decode cX4_pupil 7 = .ok (.if_icmp .ne 7, 3) := by decide +kernel
theorem dX4_pupil_10 : decode cX4_pupil 10 = .ok (.iconst 1, 1) := by decide +kernel
theorem dX4_pupil_11 : decode cX4_pupil 11 = .ok (.goto 4, 3) := by decide +kernel
theorem dX4_pupil_14 : decode cX4_pupil 14 = .ok (.iconst 0, 1) := by decide +kernel
theorem dX4_pupil_15 : decode cX4_pupil 15 = .ok (.putfield 59, 3) := by decide +kernel
theorem dX4_pupil_18 : decode cX4_pupil 18 = .ok (.aload_n 0, 1) := by decide +kernel
theorem dX4_pupil_19 : decode cX4_pupil 19 = .ok (.getfield 59, 3) := by decide +kernel
theorem dX4_pupil_22 : decode cX4_pupil 22 = .ok (.ifCond .le 5, 3) := by decide +kernel
theorem dX4_pupil_25 : decode cX4_pupil 25 = .ok (.iconst 0, 1) := by decide +kernel
theorem dX4_pupil_26 : decode cX4_pupil 26 = .ok (.ireturn, 1) := by decide +kernel
theorem dX4_pupil_27 : decode cX4_pupil 27 = .ok (.aload_n 0, 1) := by decide +kernel
theorem dX4_pupil_28 : decode cX4_pupil 28 = .ok (.getfield 50, 3) := by decide +kernel
theorem dX4_pupil_31 : decode cX4_pupil 31 = .ok (.aload_n 0, 1) := by decide +kernel
theorem dX4_pupil_32 : decode cX4_pupil 32 = .ok (.getfield 63, 3) := by decide +kernel
theorem dX4_pupil_35 : decode cX4_pupil 35 = .ok (.bipush 100, 2) := by decide +kernel
theorem dX4_pupil_37 : decode cX4_pupil 37 = .ok (.iastore, 1) := by decide +kernel
theorem dX4_pupil_38 : decode cX4_pupil 38 = .ok (.aload_n 0, 1) := by decide +kernel
theorem dX4_pupil_39 : decode cX4_pupil 39 = .ok (.dup, 1) := by decide +kernel
theorem dX4_pupil_40 : decode cX4_pupil 40 = .ok (.getfield 63, 3) := by decide +kernel
theorem dX4_pupil_43 : decode cX4_pupil 43 = .ok (.iconst 1, 1) := by decide +kernel
theorem dX4_pupil_44 : decode cX4_pupil 44 = .ok (.iadd, 1) := by decide +kernel
theorem dX4_pupil_45 : decode cX4_pupil 45 = .ok (.putfield 63, 3) := by decide +kernel
theorem dX4_pupil_48 : decode cX4_pupil 48 = .ok (.aload_n 0, 1) := by decide +kernel
theorem dX4_pupil_49 : decode cX4_pupil 49 = .ok (.getfield 63, 3) := by decide +kernel
theorem dX4_pupil_52 : decode cX4_pupil 52 = .ok (.iconst 1, 1) := by decide +kernel
theorem dX4_pupil_53 : decode cX4_pupil 53 = .ok (.isub, 1) := by decide +kernel
theorem dX4_pupil_54 : decode cX4_pupil 54 = .ok (.ireturn, 1) := by decide +kernel
theorem dX4_isTaken_0 : decode cX4_isTaken 0 = .ok (.iconst 0, 1) := by decide +kernel
theorem dX4_isTaken_1 : decode cX4_isTaken 1 = .ok (.istore_n 3, 1) := by decide +kernel
theorem dX4_isTaken_2 : decode cX4_isTaken 2 = .ok (.iconst 0, 1) := by decide +kernel
theorem dX4_isTaken_3 : decode cX4_isTaken 3 = .ok (.istore 4, 2) := by decide +kernel
theorem dX4_isTaken_5 : decode cX4_isTaken 5 = .ok (.iload 4, 2) := by decide +kernel
theorem dX4_isTaken_7 : decode cX4_isTaken 7 = .ok (.aload_n 0, 1) := by decide +kernel
theorem dX4_isTaken_8 : decode cX4_isTaken 8 = .ok (.getfield 73, 3) := by decide +kernel
theorem dX4_isTaken_11 : decode cX4_isTaken 11 = .ok (.if_icmp .ge 41, 3) := by decide +kernel
theorem dX4_isTaken_14 : decode cX4_isTaken 14 = .ok (.iload_n 3, 1) := by decide +kernel
theorem dX4_isTaken_15 : decode cX4_isTaken 15 = .ok (.ifCond .ne 25, 3) := by decide +kernel
theorem dX4_isTaken_18 : decode cX4_isTaken 18 = .ok (.aload_n 0, 1) := by decide +kernel
theorem dX4_isTaken_19 : decode cX4_isTaken 19 = .ok (.getfield 19, 3) := by decide +kernel
theorem dX4_isTaken_22 : decode cX4_isTaken 22 = .ok (.iload 4, 2) := by decide +kernel
theorem dX4_isTaken_24 : decode cX4_isTaken 24 = .ok (.iaload, 1) := by decide +kernel
theorem dX4_isTaken_25 : decode cX4_isTaken 25 = .ok (.iload_n 1, 1) := by decide +kernel
theorem dX4_isTaken_26 : decode cX4_isTaken 26 = .ok (.if_icmp .ne 18, 3) := by decide +kernel
theorem dX4_isTaken_29 : decode cX4_isTaken 29 = .ok (.aload_n 0, 1) := by decide +kernel
theorem dX4_isTaken_30 : decode cX4_isTaken 30 = .ok (.getfield 16, 3) := by decide +kernel
theorem dX4_isTaken_33 : decode cX4_isTaken 33 = .ok (.iload 4, 2) := by decide +kernel
theorem dX4_isTaken_35 : decode cX4_isTaken 35 = .ok (.iaload, 1) := by decide +kernel
theorem dX4_isTaken_36 : decode cX4_isTaken 36 = .ok (.iload_n 2, 1) := by decide +kernel
theorem dX4_isTaken_37 : decode cX4_isTaken 37 = .ok (.if_icmp .ne 7, 3) := by decide +kernel
theorem dX4_isTaken_40 : decode cX4_isTaken 40 = .ok (.iconst 1, 1) := by decide +kernel
theorem dX4_isTaken_41 : decode cX4_isTaken 41 = .ok (.goto 4, 3) := by decide +kernel
theorem dX4_isTaken_44 : decode cX4_isTaken 44 = .ok (.iconst 0, 1) := by decide +kernel
theorem dX4_isTaken_45 : decode cX4_isTaken 45 = .ok (.istore_n 3, 1) := by decide +kernel
theorem dX4_isTaken_46 : decode cX4_isTaken 46 = .ok (.iinc 4 1, 3) := by decide +kernel
theorem dX4_isTaken_49 : decode cX4_isTaken 49 = .ok (.goto (-44), 3) := by decide +kernel
theorem dX4_isTaken_52 : decode cX4_isTaken 52 = .ok (.iload_n 3, 1) := by decide +kernel
theorem dX4_isTaken_53 : decode cX4_isTaken 53 = .ok (.ireturn, 1) := by decide +kernel
theorem dX4_offer_0 : decode cX4_offer 0 = .ok (.aload_n 0, 1) := by decide +kernel
theorem dX4_offer_1 : decode cX4_offer 1 = .ok (.aload_n 0, 1) := by decide +kernel
theorem dX4_offer_2 : decode cX4_offer 2 = .ok (.iload_n 1, 1) := by decide +kernel
theorem dX4_offer_3 : decode cX4_offer 3 = .ok (.invokevirtual 79, 3) := by decide +kernel
theorem dX4_offer_6 : decode cX4_offer 6 = .ok (.ifCond .eq 17, 3) := by decide +kernel
theorem dX4_offer_9 : decode cX4_offer 9 = .ok (.iload_n 3, 1) := by decide +kernel
theorem dX4_offer_10 : decode cX4_offer 10 = .ok (.iconst 0, 1) := by decide +kernel
theorem dX4_offer_11 : decode cX4_offer 11 = .ok (.aload_n 0, 1) := by decide +kernel
theorem dX4_offer_12 : decode cX4_offer 12 = .ok (.getfield 76, 3) := by decide +kernel
theorem dX4_offer_15 : decode cX4_offer 15 = .ok (.iconst 1, 1) := by decide +kernel
theorem dX4_offer_16 : decode cX4_offer 16 = .ok (.isub, 1) := by decide +kernel
theorem dX4_offer_17 : decode cX4_offer 17 = .ok (.invokestatic 66, 3) := by decide +kernel
theorem dX4_offer_20 : decode cX4_offer 20 = .ok (.ifCond .ne 7, 3) := by decide +kernel
theorem dX4_offer_23 : decode cX4_offer 23 = .ok (.iconst 1, 1) := by decide +kernel
theorem dX4_offer_24 : decode cX4_offer 24 = .ok (.goto 15, 3) := by decide +kernel
theorem dX4_offer_27 : decode cX4_offer 27 = .ok (.iload_n 2, 1) := by decide +kernel
theorem dX4_offer_28 : decode cX4_offer 28 = .ok (.invokestatic 83, 3) := by decide +kernel
theorem dX4_offer_31 : decode cX4_offer 31 = .ok (.ifCond .ne 7, 3) := by decide +kernel
theorem dX4_offer_34 : decode cX4_offer 34 = .ok (.iconst 2, 1) := by decide +kernel
theorem dX4_offer_35 : decode cX4_offer 35 = .ok (.goto 4, 3) := by decide +kernel
theorem dX4_offer_38 : decode cX4_offer 38 = .ok (.iconst 0, 1) := by decide +kernel
theorem dX4_offer_39 : decode cX4_offer 39 = .ok (.putfield 59, 3) := by decide +kernel
theorem dX4_offer_42 : decode cX4_offer 42 = .ok (.aload_n 0, 1) := by decide +kernel
theorem dX4_offer_43 : decode cX4_offer 43 = .ok (.getfield 59, 3) := by decide +kernel
theorem dX4_offer_46 : decode cX4_offer 46 = .ok (.ifCond .ne 43, 3) := by decide +kernel
theorem dX4_offer_49 : decode cX4_offer 49 = .ok (.aload_n 0, 1) := by decide +kernel
theorem dX4_offer_50 : decode cX4_offer 50 = .ok (.aload_n 0, 1) := by decide +kernel
theorem dX4_offer_51 : decode cX4_offer 51 = .ok (.iload_n 3, 1) := by decide +kernel
theorem dX4_offer_52 : decode cX4_offer 52 = .ok (.iload_n 2, 1) := by decide +kernel
theorem dX4_offer_53 : decode cX4_offer 53 = .ok (.invokevirtual 86, 3) := by decide +kernel
theorem dX4_offer_56 : decode cX4_offer 56 = .ok (.ifCond .ne 12, 3) := by decide +kernel
theorem dX4_offer_59 : decode cX4_offer 59 = .ok (.aload_n 0, 1) := by decide +kernel
theorem dX4_offer_60 : decode cX4_offer 60 = .ok (.getfield 53, 3) := by decide +kernel
theorem dX4_offer_63 : decode cX4_offer 63 = .ok (.iload_n 2, 1) := by decide +kernel
theorem dX4_offer_64 : decode cX4_offer 64 = .ok (.baload, 1) := by decide +kernel
theorem dX4_offer_65 : decode cX4_offer 65 = .ok (.ifCond .eq 7, 3) := by decide +kernel
theorem dX4_offer_68 : decode cX4_offer 68 = .ok (.iconst 3, 1) := by decide +kernel
theorem dX4_offer_69 : decode cX4_offer 69 = .ok (.goto 17, 3) := by decide +kernel
theorem dX4_offer_72 : decode cX4_offer 72 = .ok (.aload_n 0, 1) := by decide +kernel
theorem dX4_offer_73 : decode cX4_offer 73 = .ok (.getfield 73, 3) := by decide +kernel
theorem dX4_offer_76 : decode cX4_offer 76 = .ok (.bipush 12, 2) := by decide +kernel
theorem dX4_offer_78 : decode cX4_offer 78 = .ok (.if_icmp .ne 7, 3) := by decide +kernel
theorem dX4_offer_81 : decode cX4_offer 81 = .ok (.iconst 4, 1) := by decide +kernel
theorem dX4_offer_82 : decode cX4_offer 82 = .ok (.goto 4, 3) := by decide +kernel
theorem dX4_offer_85 : decode cX4_offer 85 = .ok (.iconst 0, 1) := by decide +kernel
theorem dX4_offer_86 : decode cX4_offer 86 = .ok (.putfield 59, 3) := by decide +kernel
theorem dX4_offer_89 : decode cX4_offer 89 = .ok (.aload_n 0, 1) := by decide +kernel
theorem dX4_offer_90 : decode cX4_offer 90 = .ok (.getfield 59, 3) := by decide +kernel
theorem dX4_offer_93 : decode cX4_offer 93 = .ok (.ifCond .le 5, 3) := by decide +kernel
theorem dX4_offer_96 : decode cX4_offer 96 = .ok (.iconst 0, 1) := by decide +kernel
theorem dX4_offer_97 : decode cX4_offer 97 = .ok (.ireturn, 1) := by decide +kernel
theorem dX4_offer_98 : decode cX4_offer 98 = .ok (.aload_n 0, 1) := by decide +kernel
theorem dX4_offer_99 : decode cX4_offer 99 = .ok (.getfield 13, 3) := by decide +kernel
theorem dX4_offer_102 : decode cX4_offer 102 = .ok (.aload_n 0, 1) := by decide +kernel
theorem dX4_offer_103 : decode cX4_offer 103 = .ok (.getfield 73, 3) := by decide +kernel
theorem dX4_offer_106 : decode cX4_offer 106 = .ok (.iload_n 1, 1) := by decide +kernel
theorem dX4_offer_107 : decode cX4_offer 107 = .ok (.iastore, 1) := by decide +kernel
theorem dX4_offer_108 : decode cX4_offer 108 = .ok (.aload_n 0, 1) := by decide +kernel
theorem dX4_offer_109 : decode cX4_offer 109 = .ok (.getfield 16, 3) := by decide +kernel
theorem dX4_offer_112 : decode cX4_offer 112 = .ok (.aload_n 0, 1) := by decide +kernel
theorem dX4_offer_113 : decode cX4_offer 113 = .ok (.getfield 73, 3) := by decide +kernel
theorem dX4_offer_116 : decode cX4_offer 116 = .ok (.iload_n 2, 1) := by decide +kernel
theorem dX4_offer_117 : decode cX4_offer 117 = .ok (.iastore, 1) := by decide +kernel
theorem dX4_offer_118 : decode cX4_offer 118 = .ok (.aload_n 0, 1) := by decide +kernel
theorem dX4_offer_119 : decode cX4_offer 119 = .ok (.getfield 19, 3) := by decide +kernel
theorem dX4_offer_122 : decode cX4_offer 122 = .ok (.aload_n 0, 1) := by decide +kernel
theorem dX4_offer_123 : decode cX4_offer 123 = .ok (.getfield 73, 3) := by decide +kernel
theorem dX4_offer_126 : decode cX4_offer 126 = .ok (.iload_n 3, 1) := by decide +kernel
theorem dX4_offer_127 : decode cX4_offer 127 = .ok (.iastore, 1) := by decide +kernel
theorem dX4_offer_128 : decode cX4_offer 128 = .ok (.aload_n 0, 1) := by decide +kernel
theorem dX4_offer_129 : decode cX4_offer 129 = .ok (.getfield 22, 3) := by decide +kernel
theorem dX4_offer_132 : decode cX4_offer 132 = .ok (.aload_n 0, 1) := by decide +kernel
theorem dX4_offer_133 : decode cX4_offer 133 = .ok (.getfield 73, 3) := by decide +kernel
theorem dX4_offer_136 : decode cX4_offer 136 = .ok (.iload 4, 2) := by decide +kernel
theorem dX4_offer_138 : decode cX4_offer 138 = .ok (.bastore, 1) := by decide +kernel
theorem dX4_offer_139 : decode cX4_offer 139 = .ok (.aload_n 0, 1) := by decide +kernel
theorem dX4_offer_140 : decode cX4_offer 140 = .ok (.dup, 1) := by decide +kernel
theorem dX4_offer_141 : decode cX4_offer 141 = .ok (.getfield 73, 3) := by decide +kernel
theorem dX4_offer_144 : decode cX4_offer 144 = .ok (.iconst 1, 1) := by decide +kernel
theorem dX4_offer_145 : decode cX4_offer 145 = .ok (.iadd, 1) := by decide +kernel
theorem dX4_offer_146 : decode cX4_offer 146 = .ok (.putfield 73, 3) := by decide +kernel
theorem dX4_offer_149 : decode cX4_offer 149 = .ok (.aload_n 0, 1) := by decide +kernel
theorem dX4_offer_150 : decode cX4_offer 150 = .ok (.getfield 73, 3) := by decide +kernel
theorem dX4_offer_153 : decode cX4_offer 153 = .ok (.iconst 1, 1) := by decide +kernel
theorem dX4_offer_154 : decode cX4_offer 154 = .ok (.isub, 1) := by decide +kernel
theorem dX4_offer_155 : decode cX4_offer 155 = .ok (.ireturn, 1) := by decide +kernel
theorem dX4_bid_0 : decode cX4_bid 0 = .ok (.aload_n 0, 1) := by decide +kernel
theorem dX4_bid_1 : decode cX4_bid 1 = .ok (.aload_n 0, 1) := by decide +kernel
theorem dX4_bid_2 : decode cX4_bid 2 = .ok (.iload_n 1, 1) := by decide +kernel
theorem dX4_bid_3 : decode cX4_bid 3 = .ok (.invokevirtual 90, 3) := by decide +kernel
theorem dX4_bid_6 : decode cX4_bid 6 = .ok (.ifCond .eq 11, 3) := by decide +kernel
theorem dX4_bid_9 : decode cX4_bid 9 = .ok (.aload_n 0, 1) := by decide +kernel
theorem dX4_bid_10 : decode cX4_bid 10 = .ok (.iload_n 2, 1) := by decide +kernel
theorem dX4_bid_11 : decode cX4_bid 11 = .ok (.invokevirtual 93, 3) := by decide +kernel
theorem dX4_bid_14 : decode cX4_bid 14 = .ok (.ifCond .ne 7, 3) := by decide +kernel
theorem dX4_bid_17 : decode cX4_bid 17 = .ok (.iconst 1, 1) := by decide +kernel
theorem dX4_bid_18 : decode cX4_bid 18 = .ok (.goto 18, 3) := by decide +kernel
theorem dX4_bid_21 : decode cX4_bid 21 = .ok (.iload_n 3, 1) := by decide +kernel
theorem dX4_bid_22 : decode cX4_bid 22 = .ok (.iconst 1, 1) := by decide +kernel
theorem dX4_bid_23 : decode cX4_bid 23 = .ok (.bipush 100, 2) := by decide +kernel
theorem dX4_bid_25 : decode cX4_bid 25 = .ok (.invokestatic 66, 3) := by decide +kernel
theorem dX4_bid_28 : decode cX4_bid 28 = .ok (.ifCond .ne 7, 3) := by decide +kernel
theorem dX4_bid_31 : decode cX4_bid 31 = .ok (.iconst 2, 1) := by decide +kernel
theorem dX4_bid_32 : decode cX4_bid 32 = .ok (.goto 4, 3) := by decide +kernel
theorem dX4_bid_35 : decode cX4_bid 35 = .ok (.iconst 0, 1) := by decide +kernel
theorem dX4_bid_36 : decode cX4_bid 36 = .ok (.putfield 59, 3) := by decide +kernel
theorem dX4_bid_39 : decode cX4_bid 39 = .ok (.iload_n 3, 1) := by decide +kernel
theorem dX4_bid_40 : decode cX4_bid 40 = .ok (.istore 4, 2) := by decide +kernel
theorem dX4_bid_42 : decode cX4_bid 42 = .ok (.iconst 0, 1) := by decide +kernel
theorem dX4_bid_43 : decode cX4_bid 43 = .ok (.istore 5, 2) := by decide +kernel
theorem dX4_bid_45 : decode cX4_bid 45 = .ok (.iload 5, 2) := by decide +kernel
theorem dX4_bid_47 : decode cX4_bid 47 = .ok (.aload_n 0, 1) := by decide +kernel
theorem dX4_bid_48 : decode cX4_bid 48 = .ok (.getfield 73, 3) := by decide +kernel
theorem dX4_bid_51 : decode cX4_bid 51 = .ok (.if_icmp .ge 42, 3) := by decide +kernel
theorem dX4_bid_54 : decode cX4_bid 54 = .ok (.aload_n 0, 1) := by decide +kernel
theorem dX4_bid_55 : decode cX4_bid 55 = .ok (.getfield 59, 3) := by decide +kernel
theorem dX4_bid_58 : decode cX4_bid 58 = .ok (.ifCond .ne 35, 3) := by decide +kernel
theorem dX4_bid_61 : decode cX4_bid 61 = .ok (.iload 4, 2) := by decide +kernel
theorem dX4_bid_63 : decode cX4_bid 63 = .ok (.iload 5, 2) := by decide +kernel
theorem dX4_bid_65 : decode cX4_bid 65 = .ok (.iload_n 2, 1) := by decide +kernel
theorem dX4_bid_66 : decode cX4_bid 66 = .ok (.if_icmp .ne 7, 3) := by decide +kernel
theorem dX4_bid_69 : decode cX4_bid 69 = .ok (.iconst 0, 1) := by decide +kernel
theorem dX4_bid_70 : decode cX4_bid 70 = .ok (.goto 14, 3) := by decide +kernel
theorem dX4_bid_73 : decode cX4_bid 73 = .ok (.aload_n 0, 1) := by decide +kernel
theorem dX4_bid_74 : decode cX4_bid 74 = .ok (.getfield 35, 3) := by decide +kernel
theorem dX4_bid_77 : decode cX4_bid 77 = .ok (.iload_n 1, 1) := by decide +kernel
theorem dX4_bid_78 : decode cX4_bid 78 = .ok (.iload 5, 2) := by decide +kernel
theorem dX4_bid_80 : decode cX4_bid 80 = .ok (.invokestatic 96, 3) := by decide +kernel
theorem dX4_bid_83 : decode cX4_bid 83 = .ok (.iaload, 1) := by decide +kernel
theorem dX4_bid_84 : decode cX4_bid 84 = .ok (.iadd, 1) := by decide +kernel
theorem dX4_bid_85 : decode cX4_bid 85 = .ok (.istore 4, 2) := by decide +kernel
theorem dX4_bid_87 : decode cX4_bid 87 = .ok (.iinc 5 1, 3) := by decide +kernel
theorem dX4_bid_90 : decode cX4_bid 90 = .ok (.goto (-45), 3) := by decide +kernel
theorem dX4_bid_93 : decode cX4_bid 93 = .ok (.aload_n 0, 1) := by decide +kernel
theorem dX4_bid_94 : decode cX4_bid 94 = .ok (.getfield 59, 3) := by decide +kernel
theorem dX4_bid_97 : decode cX4_bid 97 = .ok (.ifCond .ne 37, 3) := by decide +kernel
theorem dX4_bid_100 : decode cX4_bid 100 = .ok (.aload_n 0, 1) := by decide +kernel
theorem dX4_bid_101 : decode cX4_bid 101 = .ok (.aload_n 0, 1) := by decide +kernel
theorem dX4_bid_102 : decode cX4_bid 102 = .ok (.getfield 53, 3) := by decide +kernel
theorem dX4_bid_105 : decode cX4_bid 105 = .ok (.aload_n 0, 1) := by decide +kernel
theorem dX4_bid_106 : decode cX4_bid 106 = .ok (.getfield 16, 3) := by decide +kernel
theorem dX4_bid_109 : decode cX4_bid 109 = .ok (.iload_n 2, 1) := by decide +kernel
theorem dX4_bid_110 : decode cX4_bid 110 = .ok (.iaload, 1) := by decide +kernel
theorem dX4_bid_111 : decode cX4_bid 111 = .ok (.baload, 1) := by decide +kernel
theorem dX4_bid_112 : decode cX4_bid 112 = .ok (.ifCond .ne 14, 3) := by decide +kernel
theorem dX4_bid_115 : decode cX4_bid 115 = .ok (.iload 4, 2) := by decide +kernel
theorem dX4_bid_117 : decode cX4_bid 117 = .ok (.aload_n 0, 1) := by decide +kernel
theorem dX4_bid_118 : decode cX4_bid 118 = .ok (.getfield 50, 3) := by decide +kernel
theorem dX4_bid_121 : decode cX4_bid 121 = .ok (.iload_n 1, 1) := by decide +kernel
theorem dX4_bid_122 : decode cX4_bid 122 = .ok (.iaload, 1) := by decide +kernel
theorem dX4_bid_123 : decode cX4_bid 123 = .ok (.if_icmp .le 7, 3) := by decide +kernel
theorem dX4_bid_126 : decode cX4_bid 126 = .ok (.iconst 3, 1) := by decide +kernel
theorem dX4_bid_127 : decode cX4_bid 127 = .ok (.goto 4, 3) := by decide +kernel
theorem dX4_bid_130 : decode cX4_bid 130 = .ok (.iconst 0, 1) := by decide +kernel
theorem dX4_bid_131 : decode cX4_bid 131 = .ok (.putfield 59, 3) := by decide +kernel
theorem dX4_bid_134 : decode cX4_bid 134 = .ok (.aload_n 0, 1) := by decide +kernel
theorem dX4_bid_135 : decode cX4_bid 135 = .ok (.getfield 59, 3) := by decide +kernel
theorem dX4_bid_138 : decode cX4_bid 138 = .ok (.ifCond .le 5, 3) := by decide +kernel
theorem dX4_bid_141 : decode cX4_bid 141 = .ok (.iconst 0, 1) := by decide +kernel
theorem dX4_bid_142 : decode cX4_bid 142 = .ok (.ireturn, 1) := by decide +kernel
theorem dX4_bid_143 : decode cX4_bid 143 = .ok (.aload_n 0, 1) := by decide +kernel
theorem dX4_bid_144 : decode cX4_bid 144 = .ok (.getfield 35, 3) := by decide +kernel
theorem dX4_bid_147 : decode cX4_bid 147 = .ok (.iload_n 1, 1) := by decide +kernel
theorem dX4_bid_148 : decode cX4_bid 148 = .ok (.iload_n 2, 1) := by decide +kernel
theorem dX4_bid_149 : decode cX4_bid 149 = .ok (.invokestatic 96, 3) := by decide +kernel
theorem dX4_bid_152 : decode cX4_bid 152 = .ok (.iload_n 3, 1) := by decide +kernel
theorem dX4_bid_153 : decode cX4_bid 153 = .ok (.iastore, 1) := by decide +kernel
theorem dX4_bid_154 : decode cX4_bid 154 = .ok (.aload_n 0, 1) := by decide +kernel
theorem dX4_bid_155 : decode cX4_bid 155 = .ok (.getfield 38, 3) := by decide +kernel
theorem dX4_bid_158 : decode cX4_bid 158 = .ok (.iload_n 1, 1) := by decide +kernel
theorem dX4_bid_159 : decode cX4_bid 159 = .ok (.iload_n 2, 1) := by decide +kernel
theorem dX4_bid_160 : decode cX4_bid 160 = .ok (.invokestatic 96, 3) := by decide +kernel
theorem dX4_bid_163 : decode cX4_bid 163 = .ok (.aload_n 0, 1) := by decide +kernel
theorem dX4_bid_164 : decode cX4_bid 164 = .ok (.getfield 100, 3) := by decide +kernel
theorem dX4_bid_167 : decode cX4_bid 167 = .ok (.iastore, 1) := by decide +kernel
theorem dX4_bid_168 : decode cX4_bid 168 = .ok (.aload_n 0, 1) := by decide +kernel
theorem dX4_bid_169 : decode cX4_bid 169 = .ok (.dup, 1) := by decide +kernel
theorem dX4_bid_170 : decode cX4_bid 170 = .ok (.getfield 100, 3) := by decide +kernel
theorem dX4_bid_173 : decode cX4_bid 173 = .ok (.iconst 1, 1) := by decide +kernel
theorem dX4_bid_174 : decode cX4_bid 174 = .ok (.iadd, 1) := by decide +kernel
theorem dX4_bid_175 : decode cX4_bid 175 = .ok (.putfield 100, 3) := by decide +kernel
theorem dX4_bid_178 : decode cX4_bid 178 = .ok (.iload 4, 2) := by decide +kernel
theorem dX4_bid_180 : decode cX4_bid 180 = .ok (.ireturn, 1) := by decide +kernel
theorem dX4_unbid_0 : decode cX4_unbid 0 = .ok (.aload_n 0, 1) := by decide +kernel
theorem dX4_unbid_1 : decode cX4_unbid 1 = .ok (.aload_n 0, 1) := by decide +kernel
theorem dX4_unbid_2 : decode cX4_unbid 2 = .ok (.iload_n 1, 1) := by decide +kernel
theorem dX4_unbid_3 : decode cX4_unbid 3 = .ok (.invokevirtual 90, 3) := by decide +kernel
theorem dX4_unbid_6 : decode cX4_unbid 6 = .ok (.ifCond .eq 11, 3) := by decide +kernel
theorem dX4_unbid_9 : decode cX4_unbid 9 = .ok (.aload_n 0, 1) := by decide +kernel
theorem dX4_unbid_10 : decode cX4_unbid 10 = .ok (.iload_n 2, 1) := by decide +kernel
theorem dX4_unbid_11 : decode cX4_unbid 11 = .ok (.invokevirtual 93, 3) := by decide +kernel
theorem dX4_unbid_14 : decode cX4_unbid 14 = .ok (.ifCond .ne 7, 3) := by decide +kernel
theorem dX4_unbid_17 : decode cX4_unbid 17 = .ok (.iconst 1, 1) := by decide +kernel
theorem dX4_unbid_18 : decode cX4_unbid 18 = .ok (.goto 21, 3) := by decide +kernel
theorem dX4_unbid_21 : decode cX4_unbid 21 = .ok (.aload_n 0, 1) := by decide +kernel
theorem dX4_unbid_22 : decode cX4_unbid 22 = .ok (.getfield 35, 3) := by decide +kernel
theorem dX4_unbid_25 : decode cX4_unbid 25 = .ok (.iload_n 1, 1) := by decide +kernel
theorem dX4_unbid_26 : decode cX4_unbid 26 = .ok (.iload_n 2, 1) := by decide +kernel
theorem dX4_unbid_27 : decode cX4_unbid 27 = .ok (.invokestatic 96, 3) := by decide +kernel
theorem dX4_unbid_30 : decode cX4_unbid 30 = .ok (.iaload, 1) := by decide +kernel
theorem dX4_unbid_31 : decode cX4_unbid 31 = .ok (.ifCond .ne 7, 3) := by decide +kernel
theorem dX4_unbid_34 : decode cX4_unbid 34 = .ok (.iconst 2, 1) := by decide +kernel
theorem dX4_unbid_35 : decode cX4_unbid 35 = .ok (.goto 4, 3) := by decide +kernel
theorem dX4_unbid_38 : decode cX4_unbid 38 = .ok (.iconst 0, 1) := by decide +kernel
theorem dX4_unbid_39 : decode cX4_unbid 39 = .ok (.putfield 59, 3) := by decide +kernel
theorem dX4_unbid_42 : decode cX4_unbid 42 = .ok (.aload_n 0, 1) := by decide +kernel
theorem dX4_unbid_43 : decode cX4_unbid 43 = .ok (.getfield 59, 3) := by decide +kernel
theorem dX4_unbid_46 : decode cX4_unbid 46 = .ok (.ifCond .le 5, 3) := by decide +kernel
theorem dX4_unbid_49 : decode cX4_unbid 49 = .ok (.iconst 0, 1) := by decide +kernel
theorem dX4_unbid_50 : decode cX4_unbid 50 = .ok (.ireturn, 1) := by decide +kernel
theorem dX4_unbid_51 : decode cX4_unbid 51 = .ok (.aload_n 0, 1) := by decide +kernel
theorem dX4_unbid_52 : decode cX4_unbid 52 = .ok (.getfield 35, 3) := by decide +kernel
theorem dX4_unbid_55 : decode cX4_unbid 55 = .ok (.iload_n 1, 1) := by decide +kernel
theorem dX4_unbid_56 : decode cX4_unbid 56 = .ok (.iload_n 2, 1) := by decide +kernel
theorem dX4_unbid_57 : decode cX4_unbid 57 = .ok (.invokestatic 96, 3) := by decide +kernel
theorem dX4_unbid_60 : decode cX4_unbid 60 = .ok (.iaload, 1) := by decide +kernel
theorem dX4_unbid_61 : decode cX4_unbid 61 = .ok (.istore_n 3, 1) := by decide +kernel
theorem dX4_unbid_62 : decode cX4_unbid 62 = .ok (.aload_n 0, 1) := by decide +kernel
theorem dX4_unbid_63 : decode cX4_unbid 63 = .ok (.getfield 35, 3) := by decide +kernel
theorem dX4_unbid_66 : decode cX4_unbid 66 = .ok (.iload_n 1, 1) := by decide +kernel
theorem dX4_unbid_67 : decode cX4_unbid 67 = .ok (.iload_n 2, 1) := by decide +kernel
theorem dX4_unbid_68 : decode cX4_unbid 68 = .ok (.invokestatic 96, 3) := by decide +kernel
theorem dX4_unbid_71 : decode cX4_unbid 71 = .ok (.iconst 0, 1) := by decide +kernel
theorem dX4_unbid_72 : decode cX4_unbid 72 = .ok (.iastore, 1) := by decide +kernel
theorem dX4_unbid_73 : decode cX4_unbid 73 = .ok (.iload_n 3, 1) := by decide +kernel
theorem dX4_unbid_74 : decode cX4_unbid 74 = .ok (.ireturn, 1) := by decide +kernel
theorem dX4_bids_0 : decode cX4_bids 0 = .ok (.aload_n 0, 1) := by decide +kernel
theorem dX4_bids_1 : decode cX4_bids 1 = .ok (.iconst 0, 1) := by decide +kernel
theorem dX4_bids_2 : decode cX4_bids 2 = .ok (.putfield 59, 3) := by decide +kernel
theorem dX4_bids_5 : decode cX4_bids 5 = .ok (.iconst 0, 1) := by decide +kernel
theorem dX4_bids_6 : decode cX4_bids 6 = .ok (.istore_n 1, 1) := by decide +kernel
theorem dX4_bids_7 : decode cX4_bids 7 = .ok (.iconst 0, 1) := by decide +kernel
theorem dX4_bids_8 : decode cX4_bids 8 = .ok (.istore_n 2, 1) := by decide +kernel
theorem dX4_bids_9 : decode cX4_bids 9 = .ok (.iload_n 2, 1) := by decide +kernel
theorem dX4_bids_10 : decode cX4_bids 10 = .ok (.bipush 120, 2) := by decide +kernel
theorem dX4_bids_12 : decode cX4_bids 12 = .ok (.if_icmp .ge 26, 3) := by decide +kernel
theorem dX4_bids_15 : decode cX4_bids 15 = .ok (.iload_n 1, 1) := by decide +kernel
theorem dX4_bids_16 : decode cX4_bids 16 = .ok (.aload_n 0, 1) := by decide +kernel
theorem dX4_bids_17 : decode cX4_bids 17 = .ok (.getfield 35, 3) := by decide +kernel
theorem dX4_bids_20 : decode cX4_bids 20 = .ok (.iload_n 2, 1) := by decide +kernel
theorem dX4_bids_21 : decode cX4_bids 21 = .ok (.iaload, 1) := by decide +kernel
theorem dX4_bids_22 : decode cX4_bids 22 = .ok (.ifCond .le 7, 3) := by decide +kernel
theorem dX4_bids_25 : decode cX4_bids 25 = .ok (.iconst 1, 1) := by decide +kernel
theorem dX4_bids_26 : decode cX4_bids 26 = .ok (.goto 4, 3) := by decide +kernel
theorem dX4_bids_29 : decode cX4_bids 29 = .ok (.iconst 0, 1) := by decide +kernel
theorem dX4_bids_30 : decode cX4_bids 30 = .ok (.iadd, 1) := by decide +kernel
theorem dX4_bids_31 : decode cX4_bids 31 = .ok (.istore_n 1, 1) := by decide +kernel
theorem dX4_bids_32 : decode cX4_bids 32 = .ok (.iinc 2 1, 3) := by decide +kernel
theorem dX4_bids_35 : decode cX4_bids 35 = .ok (.goto (-26), 3) := by decide +kernel
theorem dX4_bids_38 : decode cX4_bids 38 = .ok (.iload_n 1, 1) := by decide +kernel
theorem dX4_bids_39 : decode cX4_bids 39 = .ok (.ireturn, 1) := by decide +kernel
theorem dX4_agree_0 : decode cX4_agree 0 = .ok (.aload_n 0, 1) := by decide +kernel
theorem dX4_agree_1 : decode cX4_agree 1 = .ok (.getfield 44, 3) := by decide +kernel
theorem dX4_agree_4 : decode cX4_agree 4 = .ok (.iconst 0, 1) := by decide +kernel
theorem dX4_agree_5 : decode cX4_agree 5 = .ok (.iload_n 1, 1) := by decide +kernel
theorem dX4_agree_6 : decode cX4_agree 6 = .ok (.iload_n 2, 1) := by decide +kernel
theorem dX4_agree_7 : decode cX4_agree 7 = .ok (.iload_n 3, 1) := by decide +kernel
theorem dX4_agree_8 : decode cX4_agree 8 = .ok (.invokestatic 103, 3) := by decide +kernel
theorem dX4_agree_11 : decode cX4_agree 11 = .ok (.iaload, 1) := by decide +kernel
theorem dX4_agree_12 : decode cX4_agree 12 = .ok (.istore 4, 2) := by decide +kernel
theorem dX4_agree_14 : decode cX4_agree 14 = .ok (.iload 4, 2) := by decide +kernel
theorem dX4_agree_16 : decode cX4_agree 16 = .ok (.aload_n 0, 1) := by decide +kernel
theorem dX4_agree_17 : decode cX4_agree 17 = .ok (.getfield 44, 3) := by decide +kernel
theorem dX4_agree_20 : decode cX4_agree 20 = .ok (.iconst 1, 1) := by decide +kernel
theorem dX4_agree_21 : decode cX4_agree 21 = .ok (.iload_n 1, 1) := by decide +kernel
theorem dX4_agree_22 : decode cX4_agree 22 = .ok (.iload_n 2, 1) := by decide +kernel
theorem dX4_agree_23 : decode cX4_agree 23 = .ok (.iload_n 3, 1) := by decide +kernel
theorem dX4_agree_24 : decode cX4_agree 24 = .ok (.invokestatic 103, 3) := by decide +kernel
theorem dX4_agree_27 : decode cX4_agree 27 = .ok (.iaload, 1) := by decide +kernel
theorem dX4_agree_28 : decode cX4_agree 28 = .ok (.if_icmp .ne 24, 3) := by decide +kernel
theorem dX4_agree_31 : decode cX4_agree 31 = .ok (.iload 4, 2) := by decide +kernel
theorem dX4_agree_33 : decode cX4_agree 33 = .ok (.aload_n 0, 1) := by decide +kernel
theorem dX4_agree_34 : decode cX4_agree 34 = .ok (.getfield 44, 3) := by decide +kernel
theorem dX4_agree_37 : decode cX4_agree 37 = .ok (.iconst 2, 1) := by decide +kernel
theorem dX4_agree_38 : decode cX4_agree 38 = .ok (.iload_n 1, 1) := by decide +kernel
theorem dX4_agree_39 : decode cX4_agree 39 = .ok (.iload_n 2, 1) := by decide +kernel
theorem dX4_agree_40 : decode cX4_agree 40 = .ok (.iload_n 3, 1) := by decide +kernel
theorem dX4_agree_41 : decode cX4_agree 41 = .ok (.invokestatic 103, 3) := by decide +kernel
theorem dX4_agree_44 : decode cX4_agree 44 = .ok (.iaload, 1) := by decide +kernel
theorem dX4_agree_45 : decode cX4_agree 45 = .ok (.if_icmp .ne 7, 3) := by decide +kernel
theorem dX4_agree_48 : decode cX4_agree 48 = .ok (.iconst 1, 1) := by decide +kernel
theorem dX4_agree_49 : decode cX4_agree 49 = .ok (.goto 4, 3) := by decide +kernel
theorem dX4_agree_52 : decode cX4_agree 52 = .ok (.iconst 0, 1) := by decide +kernel
theorem dX4_agree_53 : decode cX4_agree 53 = .ok (.ireturn, 1) := by decide +kernel
theorem dX4_sits_0 : decode cX4_sits 0 = .ok (.aload_n 0, 1) := by decide +kernel
theorem dX4_sits_1 : decode cX4_sits 1 = .ok (.iload_n 1, 1) := by decide +kernel
theorem dX4_sits_2 : decode cX4_sits 2 = .ok (.iload_n 2, 1) := by decide +kernel
theorem dX4_sits_3 : decode cX4_sits 3 = .ok (.iconst 0, 1) := by decide +kernel
theorem dX4_sits_4 : decode cX4_sits 4 = .ok (.invokevirtual 107, 3) := by decide +kernel
theorem dX4_sits_7 : decode cX4_sits 7 = .ok (.ifCond .eq 23, 3) := by decide +kernel
theorem dX4_sits_10 : decode cX4_sits 10 = .ok (.aload_n 0, 1) := by decide +kernel
theorem dX4_sits_11 : decode cX4_sits 11 = .ok (.getfield 44, 3) := by decide +kernel
theorem dX4_sits_14 : decode cX4_sits 14 = .ok (.iconst 0, 1) := by decide +kernel
theorem dX4_sits_15 : decode cX4_sits 15 = .ok (.iload_n 1, 1) := by decide +kernel
theorem dX4_sits_16 : decode cX4_sits 16 = .ok (.iload_n 2, 1) := by decide +kernel
theorem dX4_sits_17 : decode cX4_sits 17 = .ok (.iconst 0, 1) := by decide +kernel
theorem dX4_sits_18 : decode cX4_sits 18 = .ok (.invokestatic 103, 3) := by decide +kernel
theorem dX4_sits_21 : decode cX4_sits 21 = .ok (.iaload, 1) := by decide +kernel
theorem dX4_sits_22 : decode cX4_sits 22 = .ok (.iconst 1, 1) := by decide +kernel
theorem dX4_sits_23 : decode cX4_sits 23 = .ok (.if_icmp .ne 7, 3) := by decide +kernel
theorem dX4_sits_26 : decode cX4_sits 26 = .ok (.iconst 1, 1) := by decide +kernel
theorem dX4_sits_27 : decode cX4_sits 27 = .ok (.goto 4, 3) := by decide +kernel
theorem dX4_sits_30 : decode cX4_sits 30 = .ok (.iconst 0, 1) := by decide +kernel
theorem dX4_sits_31 : decode cX4_sits 31 = .ok (.ireturn, 1) := by decide +kernel
theorem dX4_opens_0 : decode cX4_opens 0 = .ok (.aload_n 0, 1) := by decide +kernel
theorem dX4_opens_1 : decode cX4_opens 1 = .ok (.iload_n 1, 1) := by decide +kernel
theorem dX4_opens_2 : decode cX4_opens 2 = .ok (.iload_n 2, 1) := by decide +kernel
theorem dX4_opens_3 : decode cX4_opens 3 = .ok (.iconst 1, 1) := by decide +kernel
theorem dX4_opens_4 : decode cX4_opens 4 = .ok (.invokevirtual 107, 3) := by decide +kernel
theorem dX4_opens_7 : decode cX4_opens 7 = .ok (.ifCond .eq 28, 3) := by decide +kernel
theorem dX4_opens_10 : decode cX4_opens 10 = .ok (.aload_n 0, 1) := by decide +kernel
theorem dX4_opens_11 : decode cX4_opens 11 = .ok (.getfield 44, 3) := by decide +kernel
theorem dX4_opens_14 : decode cX4_opens 14 = .ok (.iconst 0, 1) := by decide +kernel
theorem dX4_opens_15 : decode cX4_opens 15 = .ok (.iload_n 1, 1) := by decide +kernel
theorem dX4_opens_16 : decode cX4_opens 16 = .ok (.iload_n 2, 1) := by decide +kernel
theorem dX4_opens_17 : decode cX4_opens 17 = .ok (.iconst 1, 1) := by decide +kernel
theorem dX4_opens_18 : decode cX4_opens 18 = .ok (.invokestatic 103, 3) := by decide +kernel
theorem dX4_opens_21 : decode cX4_opens 21 = .ok (.iaload, 1) := by decide +kernel
theorem dX4_opens_22 : decode cX4_opens 22 = .ok (.iconst 0, 1) := by decide +kernel
theorem dX4_opens_23 : decode cX4_opens 23 = .ok (.bipush 49, 2) := by decide +kernel
theorem dX4_opens_25 : decode cX4_opens 25 = .ok (.invokestatic 66, 3) := by decide +kernel
theorem dX4_opens_28 : decode cX4_opens 28 = .ok (.ifCond .eq 7, 3) := by decide +kernel
theorem dX4_opens_31 : decode cX4_opens 31 = .ok (.iconst 1, 1) := by decide +kernel
theorem dX4_opens_32 : decode cX4_opens 32 = .ok (.goto 4, 3) := by decide +kernel
theorem dX4_opens_35 : decode cX4_opens 35 = .ok (.iconst 0, 1) := by decide +kernel
theorem dX4_opens_36 : decode cX4_opens 36 = .ok (.ireturn, 1) := by decide +kernel
theorem dX4_can_0 : decode cX4_can 0 = .ok (.aload_n 0, 1) := by decide +kernel
theorem dX4_can_1 : decode cX4_can 1 = .ok (.getfield 22, 3) := by decide +kernel
theorem dX4_can_4 : decode cX4_can 4 = .ok (.iload_n 2, 1) := by decide +kernel
theorem dX4_can_5 : decode cX4_can 5 = .ok (.baload, 1) := by decide +kernel
theorem dX4_can_6 : decode cX4_can 6 = .ok (.ifCond .eq 17, 3) := by decide +kernel
theorem dX4_can_9 : decode cX4_can 9 = .ok (.aload_n 0, 1) := by decide +kernel
theorem dX4_can_10 : decode cX4_can 10 = .ok (.iload_n 1, 1) := by decide +kernel
theorem dX4_can_11 : decode cX4_can 11 = .ok (.aload_n 0, 1) := by decide +kernel
theorem dX4_can_12 : decode cX4_can 12 = .ok (.getfield 13, 3) := by decide +kernel
theorem dX4_can_15 : decode cX4_can 15 = .ok (.iload_n 2, 1) := by decide +kernel
theorem dX4_can_16 : decode cX4_can 16 = .ok (.iaload, 1) := by decide +kernel
theorem dX4_can_17 : decode cX4_can 17 = .ok (.invokevirtual 110, 3) := by decide +kernel
theorem dX4_can_20 : decode cX4_can 20 = .ok (.goto 34, 3) := by decide +kernel
theorem dX4_can_23 : decode cX4_can 23 = .ok (.aload_n 0, 1) := by decide +kernel
theorem dX4_can_24 : decode cX4_can 24 = .ok (.getfield 44, 3) := by decide +kernel
theorem dX4_can_27 : decode cX4_can 27 = .ok (.aload_n 0, 1) := by decide +kernel
theorem dX4_can_28 : decode cX4_can 28 = .ok (.getfield 47, 3) := by decide +kernel
theorem dX4_can_31 : decode cX4_can 31 = .ok (.iconst 1, 1) := by decide +kernel
theorem dX4_can_32 : decode cX4_can 32 = .ok (.iaload, 1) := by decide +kernel
theorem dX4_can_33 : decode cX4_can 33 = .ok (.iload_n 1, 1) := by decide +kernel
theorem dX4_can_34 : decode cX4_can 34 = .ok (.aload_n 0, 1) := by decide +kernel
theorem dX4_can_35 : decode cX4_can 35 = .ok (.getfield 13, 3) := by decide +kernel
theorem dX4_can_38 : decode cX4_can 38 = .ok (.iload_n 2, 1) := by decide +kernel
theorem dX4_can_39 : decode cX4_can 39 = .ok (.iaload, 1) := by decide +kernel
theorem dX4_can_40 : decode cX4_can 40 = .ok (.iconst 1, 1) := by decide +kernel
theorem dX4_can_41 : decode cX4_can 41 = .ok (.invokestatic 103, 3) := by decide +kernel
theorem dX4_can_44 : decode cX4_can 44 = .ok (.iaload, 1) := by decide +kernel
theorem dX4_can_45 : decode cX4_can 45 = .ok (.iconst (-1), 1) := by decide +kernel
theorem dX4_can_46 : decode cX4_can 46 = .ok (.if_icmp .ne 7, 3) := by decide +kernel
theorem dX4_can_49 : decode cX4_can 49 = .ok (.iconst 1, 1) := by decide +kernel
theorem dX4_can_50 : decode cX4_can 50 = .ok (.goto 4, 3) := by decide +kernel
theorem dX4_can_53 : decode cX4_can 53 = .ok (.iconst 0, 1) := by decide +kernel
theorem dX4_can_54 : decode cX4_can 54 = .ok (.istore_n 3, 1) := by decide +kernel
theorem dX4_can_55 : decode cX4_can 55 = .ok (.iload_n 3, 1) := by decide +kernel
theorem dX4_can_56 : decode cX4_can 56 = .ok (.ifCond .eq 21, 3) := by decide +kernel
theorem dX4_can_59 : decode cX4_can 59 = .ok (.aload_n 0, 1) := by decide +kernel
theorem dX4_can_60 : decode cX4_can 60 = .ok (.iload_n 1, 1) := by decide +kernel
theorem dX4_can_61 : decode cX4_can 61 = .ok (.aload_n 0, 1) := by decide +kernel
theorem dX4_can_62 : decode cX4_can 62 = .ok (.getfield 13, 3) := by decide +kernel
theorem dX4_can_65 : decode cX4_can 65 = .ok (.iload_n 2, 1) := by decide +kernel
theorem dX4_can_66 : decode cX4_can 66 = .ok (.iaload, 1) := by decide +kernel
theorem dX4_can_67 : decode cX4_can 67 = .ok (.invokevirtual 113, 3) := by decide +kernel
theorem dX4_can_70 : decode cX4_can 70 = .ok (.ifCond .eq 7, 3) := by decide +kernel
theorem dX4_can_73 : decode cX4_can 73 = .ok (.iconst 1, 1) := by decide +kernel
theorem dX4_can_74 : decode cX4_can 74 = .ok (.goto 4, 3) := by decide +kernel
theorem dX4_can_77 : decode cX4_can 77 = .ok (.iconst 0, 1) := by decide +kernel
theorem dX4_can_78 : decode cX4_can 78 = .ok (.ireturn, 1) := by decide +kernel
theorem dX4_isLike_0 : decode cX4_isLike 0 = .ok (.aload_n 0, 1) := by decide +kernel
theorem dX4_isLike_1 : decode cX4_isLike 1 = .ok (.getfield 13, 3) := by decide +kernel
theorem dX4_isLike_4 : decode cX4_isLike 4 = .ok (.iload_n 1, 1) := by decide +kernel
theorem dX4_isLike_5 : decode cX4_isLike 5 = .ok (.iaload, 1) := by decide +kernel
theorem dX4_isLike_6 : decode cX4_isLike 6 = .ok (.aload_n 0, 1) := by decide +kernel
theorem dX4_isLike_7 : decode cX4_isLike 7 = .ok (.getfield 13, 3) := by decide +kernel
theorem dX4_isLike_10 : decode cX4_isLike 10 = .ok (.iload_n 2, 1) := by decide +kernel
theorem dX4_isLike_11 : decode cX4_isLike 11 = .ok (.iaload, 1) := by decide +kernel
theorem dX4_isLike_12 : decode cX4_isLike 12 = .ok (.if_icmp .ne 22, 3) := by decide +kernel
theorem dX4_isLike_15 : decode cX4_isLike 15 = .ok (.aload_n 0, 1) := by decide +kernel
theorem dX4_isLike_16 : decode cX4_isLike 16 = .ok (.getfield 22, 3) := by decide +kernel
theorem dX4_isLike_19 : decode cX4_isLike 19 = .ok (.iload_n 1, 1) := by decide +kernel
theorem dX4_isLike_20 : decode cX4_isLike 20 = .ok (.baload, 1) := by decide +kernel
theorem dX4_isLike_21 : decode cX4_isLike 21 = .ok (.aload_n 0, 1) := by decide +kernel
theorem dX4_isLike_22 : decode cX4_isLike 22 = .ok (.getfield 22, 3) := by decide +kernel
theorem dX4_isLike_25 : decode cX4_isLike 25 = .ok (.iload_n 2, 1) := by decide +kernel
theorem dX4_isLike_26 : decode cX4_isLike 26 = .ok (.baload, 1) := by decide +kernel
theorem dX4_isLike_27 : decode cX4_isLike 27 = .ok (.if_icmp .ne 7, 3) := by decide +kernel
theorem dX4_isLike_30 : decode cX4_isLike 30 = .ok (.iconst 1, 1) := by decide +kernel
theorem dX4_isLike_31 : decode cX4_isLike 31 = .ok (.goto 4, 3) := by decide +kernel
theorem dX4_isLike_34 : decode cX4_isLike 34 = .ok (.iconst 0, 1) := by decide +kernel
theorem dX4_isLike_35 : decode cX4_isLike 35 = .ok (.ireturn, 1) := by decide +kernel
theorem dX4_isFree_0 : decode cX4_isFree 0 = .ok (.iconst 1, 1) := by decide +kernel
theorem dX4_isFree_1 : decode cX4_isFree 1 = .ok (.istore_n 3, 1) := by decide +kernel
theorem dX4_isFree_2 : decode cX4_isFree 2 = .ok (.iconst 0, 1) := by decide +kernel
theorem dX4_isFree_3 : decode cX4_isFree 3 = .ok (.istore 4, 2) := by decide +kernel
theorem dX4_isFree_5 : decode cX4_isFree 5 = .ok (.iload 4, 2) := by decide +kernel
theorem dX4_isFree_7 : decode cX4_isFree 7 = .ok (.aload_n 0, 1) := by decide +kernel
theorem dX4_isFree_8 : decode cX4_isFree 8 = .ok (.getfield 73, 3) := by decide +kernel
theorem dX4_isFree_11 : decode cX4_isFree 11 = .ok (.if_icmp .ge 72, 3) := by decide +kernel
theorem dX4_isFree_14 : decode cX4_isFree 14 = .ok (.aload_n 0, 1) := by decide +kernel
theorem dX4_isFree_15 : decode cX4_isFree 15 = .ok (.iload 4, 2) := by decide +kernel
theorem dX4_isFree_17 : decode cX4_isFree 17 = .ok (.iload_n 2, 1) := by decide +kernel
theorem dX4_isFree_18 : decode cX4_isFree 18 = .ok (.invokevirtual 116, 3) := by decide +kernel
theorem dX4_isFree_21 : decode cX4_isFree 21 = .ok (.ifCond .ne 19, 3) := by decide +kernel
theorem dX4_isFree_24 : decode cX4_isFree 24 = .ok (.aload_n 0, 1) := by decide +kernel
theorem dX4_isFree_25 : decode cX4_isFree 25 = .ok (.getfield 16, 3) := by decide +kernel
theorem dX4_isFree_28 : decode cX4_isFree 28 = .ok (.iload 4, 2) := by decide +kernel
theorem dX4_isFree_30 : decode cX4_isFree 30 = .ok (.iaload, 1) := by decide +kernel
theorem dX4_isFree_31 : decode cX4_isFree 31 = .ok (.aload_n 0, 1) := by decide +kernel
theorem dX4_isFree_32 : decode cX4_isFree 32 = .ok (.getfield 16, 3) := by decide +kernel
theorem dX4_isFree_35 : decode cX4_isFree 35 = .ok (.iload_n 2, 1) := by decide +kernel
theorem dX4_isFree_36 : decode cX4_isFree 36 = .ok (.iaload, 1) := by decide +kernel
theorem dX4_isFree_37 : decode cX4_isFree 37 = .ok (.if_icmp .ne 7, 3) := by decide +kernel
theorem dX4_isFree_40 : decode cX4_isFree 40 = .ok (.iconst 1, 1) := by decide +kernel
theorem dX4_isFree_41 : decode cX4_isFree 41 = .ok (.goto 4, 3) := by decide +kernel
theorem dX4_isFree_44 : decode cX4_isFree 44 = .ok (.iconst 0, 1) := by decide +kernel
theorem dX4_isFree_45 : decode cX4_isFree 45 = .ok (.istore 5, 2) := by decide +kernel
theorem dX4_isFree_47 : decode cX4_isFree 47 = .ok (.iload_n 3, 1) := by decide +kernel
theorem dX4_isFree_48 : decode cX4_isFree 48 = .ok (.ifCond .eq 27, 3) := by decide +kernel
theorem dX4_isFree_51 : decode cX4_isFree 51 = .ok (.iload 5, 2) := by decide +kernel
theorem dX4_isFree_53 : decode cX4_isFree 53 = .ok (.ifCond .eq 18, 3) := by decide +kernel
theorem dX4_isFree_56 : decode cX4_isFree 56 = .ok (.aload_n 0, 1) := by decide +kernel
theorem dX4_isFree_57 : decode cX4_isFree 57 = .ok (.getfield 41, 3) := by decide +kernel
theorem dX4_isFree_60 : decode cX4_isFree 60 = .ok (.iload_n 1, 1) := by decide +kernel
theorem dX4_isFree_61 : decode cX4_isFree 61 = .ok (.iload 4, 2) := by decide +kernel
theorem dX4_isFree_63 : decode cX4_isFree 63 = .ok (.invokestatic 96, 3) := by decide +kernel
theorem dX4_isFree_66 : decode cX4_isFree 66 = .ok (.iaload, 1) := by decide +kernel
theorem dX4_isFree_67 : decode cX4_isFree 67 = .ok (.iconst (-1), 1) := by decide +kernel
theorem dX4_isFree_68 : decode cX4_isFree 68 = .ok (.if_icmp .ne 7, 3) := by decide +kernel
theorem dX4_isFree_71 : decode cX4_isFree 71 = .ok (.iconst 1, 1) := by decide +kernel
theorem dX4_isFree_72 : decode cX4_isFree 72 = .ok (.goto 4, 3) := by decide +kernel
theorem dX4_isFree_75 : decode cX4_isFree 75 = .ok (.iconst 0, 1) := by decide +kernel
theorem dX4_isFree_76 : decode cX4_isFree 76 = .ok (.istore_n 3, 1) := by decide +kernel
theorem dX4_isFree_77 : decode cX4_isFree 77 = .ok (.iinc 4 1, 3) := by decide +kernel
theorem dX4_isFree_80 : decode cX4_isFree 80 = .ok (.goto (-75), 3) := by decide +kernel
theorem dX4_isFree_83 : decode cX4_isFree 83 = .ok (.iload_n 3, 1) := by decide +kernel
theorem dX4_isFree_84 : decode cX4_isFree 84 = .ok (.ireturn, 1) := by decide +kernel
theorem dX4_held_0 : decode cX4_held 0 = .ok (.iconst 0, 1) := by decide +kernel
theorem dX4_held_1 : decode cX4_held 1 = .ok (.istore_n 2, 1) := by decide +kernel
theorem dX4_held_2 : decode cX4_held 2 = .ok (.iconst 0, 1) := by decide +kernel
theorem dX4_held_3 : decode cX4_held 3 = .ok (.istore_n 3, 1) := by decide +kernel
theorem dX4_held_4 : decode cX4_held 4 = .ok (.iload_n 3, 1) := by decide +kernel
theorem dX4_held_5 : decode cX4_held 5 = .ok (.aload_n 0, 1) := by decide +kernel
theorem dX4_held_6 : decode cX4_held 6 = .ok (.getfield 63, 3) := by decide +kernel
theorem dX4_held_9 : decode cX4_held 9 = .ok (.if_icmp .ge 31, 3) := by decide +kernel
theorem dX4_held_12 : decode cX4_held 12 = .ok (.iload_n 2, 1) := by decide +kernel
theorem dX4_held_13 : decode cX4_held 13 = .ok (.aload_n 0, 1) := by decide +kernel
theorem dX4_held_14 : decode cX4_held 14 = .ok (.getfield 41, 3) := by decide +kernel
theorem dX4_held_17 : decode cX4_held 17 = .ok (.iload_n 3, 1) := by decide +kernel
theorem dX4_held_18 : decode cX4_held 18 = .ok (.iload_n 1, 1) := by decide +kernel
theorem dX4_held_19 : decode cX4_held 19 = .ok (.invokestatic 96, 3) := by decide +kernel
theorem dX4_held_22 : decode cX4_held 22 = .ok (.iaload, 1) := by decide +kernel
theorem dX4_held_23 : decode cX4_held 23 = .ok (.iconst (-1), 1) := by decide +kernel
theorem dX4_held_24 : decode cX4_held 24 = .ok (.if_icmp .ne 7, 3) := by decide +kernel
theorem dX4_held_27 : decode cX4_held 27 = .ok (.iconst 0, 1) := by decide +kernel
theorem dX4_held_28 : decode cX4_held 28 = .ok (.goto 4, 3) := by decide +kernel
theorem dX4_held_31 : decode cX4_held 31 = .ok (.iconst 1, 1) := by decide +kernel
theorem dX4_held_32 : decode cX4_held 32 = .ok (.iadd, 1) := by decide +kernel
theorem dX4_held_33 : decode cX4_held 33 = .ok (.istore_n 2, 1) := by decide +kernel
theorem dX4_held_34 : decode cX4_held 34 = .ok (.iinc 3 1, 3) := by decide +kernel
theorem dX4_held_37 : decode cX4_held 37 = .ok (.goto (-33), 3) := by decide +kernel
theorem dX4_held_40 : decode cX4_held 40 = .ok (.iload_n 2, 1) := by decide +kernel
theorem dX4_held_41 : decode cX4_held 41 = .ok (.ireturn, 1) := by decide +kernel
theorem dX4_hasSeat_0 : decode cX4_hasSeat 0 = .ok (.aload_n 0, 1) := by decide +kernel
theorem dX4_hasSeat_1 : decode cX4_hasSeat 1 = .ok (.iload_n 1, 1) := by decide +kernel
theorem dX4_hasSeat_2 : decode cX4_hasSeat 2 = .ok (.invokevirtual 119, 3) := by decide +kernel
theorem dX4_hasSeat_5 : decode cX4_hasSeat 5 = .ok (.aload_n 0, 1) := by decide +kernel
theorem dX4_hasSeat_6 : decode cX4_hasSeat 6 = .ok (.getfield 7, 3) := by decide +kernel
theorem dX4_hasSeat_9 : decode cX4_hasSeat 9 = .ok (.aload_n 0, 1) := by decide +kernel
theorem dX4_hasSeat_10 : decode cX4_hasSeat 10 = .ok (.getfield 19, 3) := by decide +kernel
theorem dX4_hasSeat_13 : decode cX4_hasSeat 13 = .ok (.iload_n 1, 1) := by decide +kernel
theorem dX4_hasSeat_14 : decode cX4_hasSeat 14 = .ok (.iaload, 1) := by decide +kernel
theorem dX4_hasSeat_15 : decode cX4_hasSeat 15 = .ok (.iaload, 1) := by decide +kernel
theorem dX4_hasSeat_16 : decode cX4_hasSeat 16 = .ok (.if_icmp .ge 7, 3) := by decide +kernel
theorem dX4_hasSeat_19 : decode cX4_hasSeat 19 = .ok (.iconst 1, 1) := by decide +kernel
theorem dX4_hasSeat_20 : decode cX4_hasSeat 20 = .ok (.goto 4, 3) := by decide +kernel
theorem dX4_hasSeat_23 : decode cX4_hasSeat 23 = .ok (.iconst 0, 1) := by decide +kernel
theorem dX4_hasSeat_24 : decode cX4_hasSeat 24 = .ok (.ireturn, 1) := by decide +kernel
theorem dX4_does_0 : decode cX4_does 0 = .ok (.aload_n 0, 1) := by decide +kernel
theorem dX4_does_1 : decode cX4_does 1 = .ok (.iload_n 1, 1) := by decide +kernel
theorem dX4_does_2 : decode cX4_does 2 = .ok (.iload_n 2, 1) := by decide +kernel
theorem dX4_does_3 : decode cX4_does 3 = .ok (.invokevirtual 123, 3) := by decide +kernel
theorem dX4_does_6 : decode cX4_does 6 = .ok (.ifCond .eq 26, 3) := by decide +kernel
theorem dX4_does_9 : decode cX4_does 9 = .ok (.aload_n 0, 1) := by decide +kernel
theorem dX4_does_10 : decode cX4_does 10 = .ok (.iload_n 1, 1) := by decide +kernel
theorem dX4_does_11 : decode cX4_does 11 = .ok (.iload_n 2, 1) := by decide +kernel
theorem dX4_does_12 : decode cX4_does 12 = .ok (.invokevirtual 126, 3) := by decide +kernel
theorem dX4_does_15 : decode cX4_does 15 = .ok (.ifCond .eq 17, 3) := by decide +kernel
theorem dX4_does_18 : decode cX4_does 18 = .ok (.aload_n 0, 1) := by decide +kernel
theorem dX4_does_19 : decode cX4_does 19 = .ok (.getfield 50, 3) := by decide +kernel
theorem dX4_does_22 : decode cX4_does 22 = .ok (.iload_n 1, 1) := by decide +kernel
theorem dX4_does_23 : decode cX4_does 23 = .ok (.iaload, 1) := by decide +kernel
theorem dX4_does_24 : decode cX4_does 24 = .ok (.iload_n 3, 1) := by decide +kernel
theorem dX4_does_25 : decode cX4_does 25 = .ok (.if_icmp .lt 7, 3) := by decide +kernel
theorem dX4_does_28 : decode cX4_does 28 = .ok (.iconst 1, 1) := by decide +kernel
theorem dX4_does_29 : decode cX4_does 29 = .ok (.goto 4, 3) := by decide +kernel
theorem dX4_does_32 : decode cX4_does 32 = .ok (.iconst 0, 1) := by decide +kernel
theorem dX4_does_33 : decode cX4_does 33 = .ok (.ireturn, 1) := by decide +kernel
theorem dX4_placeOf_0 : decode cX4_placeOf 0 = .ok (.iconst (-1), 1) := by decide +kernel
theorem dX4_placeOf_1 : decode cX4_placeOf 1 = .ok (.istore_n 3, 1) := by decide +kernel
theorem dX4_placeOf_2 : decode cX4_placeOf 2 = .ok (.iconst 0, 1) := by decide +kernel
theorem dX4_placeOf_3 : decode cX4_placeOf 3 = .ok (.istore 4, 2) := by decide +kernel
theorem dX4_placeOf_5 : decode cX4_placeOf 5 = .ok (.iload 4, 2) := by decide +kernel
theorem dX4_placeOf_7 : decode cX4_placeOf 7 = .ok (.aload_n 0, 1) := by decide +kernel
theorem dX4_placeOf_8 : decode cX4_placeOf 8 = .ok (.getfield 26, 3) := by decide +kernel
theorem dX4_placeOf_11 : decode cX4_placeOf 11 = .ok (.iload_n 2, 1) := by decide +kernel
theorem dX4_placeOf_12 : decode cX4_placeOf 12 = .ok (.iaload, 1) := by decide +kernel
theorem dX4_placeOf_13 : decode cX4_placeOf 13 = .ok (.if_icmp .ge 32, 3) := by decide +kernel
theorem dX4_placeOf_16 : decode cX4_placeOf 16 = .ok (.aload_n 0, 1) := by decide +kernel
theorem dX4_placeOf_17 : decode cX4_placeOf 17 = .ok (.getfield 29, 3) := by decide +kernel
theorem dX4_placeOf_20 : decode cX4_placeOf 20 = .ok (.bipush 10, 2) := by decide +kernel
theorem dX4_placeOf_22 : decode cX4_placeOf 22 = .ok (.iload_n 2, 1) := by decide +kernel
theorem dX4_placeOf_23 : decode cX4_placeOf 23 = .ok (.imul, 1) := by decide +kernel
theorem dX4_placeOf_24 : decode cX4_placeOf 24 = .ok (.iload 4, 2) := by decide +kernel
theorem dX4_placeOf_26 : decode cX4_placeOf 26 = .ok (.iadd, 1) := by decide +kernel
theorem dX4_placeOf_27 : decode cX4_placeOf 27 = .ok (.iaload, 1) := by decide +kernel
theorem dX4_placeOf_28 : decode cX4_placeOf 28 = .ok (.iload_n 1, 1) := by decide +kernel
theorem dX4_placeOf_29 : decode cX4_placeOf 29 = .ok (.if_icmp .ne 8, 3) := by decide +kernel
theorem dX4_placeOf_32 : decode cX4_placeOf 32 = .ok (.iload 4, 2) := by decide +kernel
theorem dX4_placeOf_34 : decode cX4_placeOf 34 = .ok (.goto 4, 3) := by decide +kernel
theorem dX4_placeOf_37 : decode cX4_placeOf 37 = .ok (.iload_n 3, 1) := by decide +kernel
theorem dX4_placeOf_38 : decode cX4_placeOf 38 = .ok (.istore_n 3, 1) := by decide +kernel
theorem dX4_placeOf_39 : decode cX4_placeOf 39 = .ok (.iinc 4 1, 3) := by decide +kernel
theorem dX4_placeOf_42 : decode cX4_placeOf 42 = .ok (.goto (-37), 3) := by decide +kernel
theorem dX4_placeOf_45 : decode cX4_placeOf 45 = .ok (.iload_n 3, 1) := by decide +kernel
theorem dX4_placeOf_46 : decode cX4_placeOf 46 = .ok (.ireturn, 1) := by decide +kernel
theorem dX4_leave_0 : decode cX4_leave 0 = .ok (.aload_n 0, 1) := by decide +kernel
theorem dX4_leave_1 : decode cX4_leave 1 = .ok (.iload_n 1, 1) := by decide +kernel
theorem dX4_leave_2 : decode cX4_leave 2 = .ok (.iload_n 2, 1) := by decide +kernel
theorem dX4_leave_3 : decode cX4_leave 3 = .ok (.invokevirtual 129, 3) := by decide +kernel
theorem dX4_leave_6 : decode cX4_leave 6 = .ok (.istore_n 3, 1) := by decide +kernel
theorem dX4_leave_7 : decode cX4_leave 7 = .ok (.iload_n 3, 1) := by decide +kernel
theorem dX4_leave_8 : decode cX4_leave 8 = .ok (.iconst (-1), 1) := by decide +kernel
theorem dX4_leave_9 : decode cX4_leave 9 = .ok (.if_icmp .ne 4, 3) := by decide +kernel
theorem dX4_leave_12 : decode cX4_leave 12 = .ok (.return_, 1) := by decide +kernel
theorem dX4_leave_13 : decode cX4_leave 13 = .ok (.iload_n 3, 1) := by decide +kernel
theorem dX4_leave_14 : decode cX4_leave 14 = .ok (.istore 4, 2) := by decide +kernel
theorem dX4_leave_16 : decode cX4_leave 16 = .ok (.iload 4, 2) := by decide +kernel
theorem dX4_leave_18 : decode cX4_leave 18 = .ok (.iconst 1, 1) := by decide +kernel
theorem dX4_leave_19 : decode cX4_leave 19 = .ok (.iadd, 1) := by decide +kernel
theorem dX4_leave_20 : decode cX4_leave 20 = .ok (.aload_n 0, 1) := by decide +kernel
theorem dX4_leave_21 : decode cX4_leave 21 = .ok (.getfield 26, 3) := by decide +kernel
theorem dX4_leave_24 : decode cX4_leave 24 = .ok (.iload_n 2, 1) := by decide +kernel
theorem dX4_leave_25 : decode cX4_leave 25 = .ok (.iaload, 1) := by decide +kernel
theorem dX4_leave_26 : decode cX4_leave 26 = .ok (.if_icmp .ge 61, 3) := by decide +kernel
theorem dX4_leave_29 : decode cX4_leave 29 = .ok (.aload_n 0, 1) := by decide +kernel
theorem dX4_leave_30 : decode cX4_leave 30 = .ok (.getfield 29, 3) := by decide +kernel
theorem dX4_leave_33 : decode cX4_leave 33 = .ok (.bipush 10, 2) := by decide +kernel
theorem dX4_leave_35 : decode cX4_leave 35 = .ok (.iload_n 2, 1) := by decide +kernel
theorem dX4_leave_36 : decode cX4_leave 36 = .ok (.imul, 1) := by decide +kernel
theorem dX4_leave_37 : decode cX4_leave 37 = .ok (.iload 4, 2) := by decide +kernel
theorem dX4_leave_39 : decode cX4_leave 39 = .ok (.iadd, 1) := by decide +kernel
theorem dX4_leave_40 : decode cX4_leave 40 = .ok (.aload_n 0, 1) := by decide +kernel
theorem dX4_leave_41 : decode cX4_leave 41 = .ok (.getfield 29, 3) := by decide +kernel
theorem dX4_leave_44 : decode cX4_leave 44 = .ok (.bipush 10, 2) := by decide +kernel
theorem dX4_leave_46 : decode cX4_leave 46 = .ok (.iload_n 2, 1) := by decide +kernel
theorem dX4_leave_47 : decode cX4_leave 47 = .ok (.imul, 1) := by decide +kernel
theorem dX4_leave_48 : decode cX4_leave 48 = .ok (.iload 4, 2) := by decide +kernel
theorem dX4_leave_50 : decode cX4_leave 50 = .ok (.iadd, 1) := by decide +kernel
theorem dX4_leave_51 : decode cX4_leave 51 = .ok (.iconst 1, 1) := by decide +kernel
theorem dX4_leave_52 : decode cX4_leave 52 = .ok (.iadd, 1) := by decide +kernel
theorem dX4_leave_53 : decode cX4_leave 53 = .ok (.iaload, 1) := by decide +kernel
theorem dX4_leave_54 : decode cX4_leave 54 = .ok (.iastore, 1) := by decide +kernel
theorem dX4_leave_55 : decode cX4_leave 55 = .ok (.aload_n 0, 1) := by decide +kernel
theorem dX4_leave_56 : decode cX4_leave 56 = .ok (.getfield 32, 3) := by decide +kernel
theorem dX4_leave_59 : decode cX4_leave 59 = .ok (.bipush 10, 2) := by decide +kernel
theorem dX4_leave_61 : decode cX4_leave 61 = .ok (.iload_n 2, 1) := by decide +kernel
theorem dX4_leave_62 : decode cX4_leave 62 = .ok (.imul, 1) := by decide +kernel
theorem dX4_leave_63 : decode cX4_leave 63 = .ok (.iload 4, 2) := by decide +kernel
theorem dX4_leave_65 : decode cX4_leave 65 = .ok (.iadd, 1) := by decide +kernel
theorem dX4_leave_66 : decode cX4_leave 66 = .ok (.aload_n 0, 1) := by decide +kernel
theorem dX4_leave_67 : decode cX4_leave 67 = .ok (.getfield 32, 3) := by decide +kernel
theorem dX4_leave_70 : decode cX4_leave 70 = .ok (.bipush 10, 2) := by decide +kernel
theorem dX4_leave_72 : decode cX4_leave 72 = .ok (.iload_n 2, 1) := by decide +kernel
theorem dX4_leave_73 : decode cX4_leave 73 = .ok (.imul, 1) := by decide +kernel
theorem dX4_leave_74 : decode cX4_leave 74 = .ok (.iload 4, 2) := by decide +kernel
theorem dX4_leave_76 : decode cX4_leave 76 = .ok (.iadd, 1) := by decide +kernel
theorem dX4_leave_77 : decode cX4_leave 77 = .ok (.iconst 1, 1) := by decide +kernel
theorem dX4_leave_78 : decode cX4_leave 78 = .ok (.iadd, 1) := by decide +kernel
theorem dX4_leave_79 : decode cX4_leave 79 = .ok (.iaload, 1) := by decide +kernel
theorem dX4_leave_80 : decode cX4_leave 80 = .ok (.iastore, 1) := by decide +kernel
theorem dX4_leave_81 : decode cX4_leave 81 = .ok (.iinc 4 1, 3) := by decide +kernel
theorem dX4_leave_84 : decode cX4_leave 84 = .ok (.goto (-68), 3) := by decide +kernel
theorem dX4_leave_87 : decode cX4_leave 87 = .ok (.aload_n 0, 1) := by decide +kernel
theorem dX4_leave_88 : decode cX4_leave 88 = .ok (.getfield 26, 3) := by decide +kernel
theorem dX4_leave_91 : decode cX4_leave 91 = .ok (.iload_n 2, 1) := by decide +kernel
theorem dX4_leave_92 : decode cX4_leave 92 = .ok (.dup2, 1) := by decide +kernel
theorem dX4_leave_93 : decode cX4_leave 93 = .ok (.iaload, 1) := by decide +kernel
theorem dX4_leave_94 : decode cX4_leave 94 = .ok (.iconst 1, 1) := by decide +kernel
theorem dX4_leave_95 : decode cX4_leave 95 = .ok (.isub, 1) := by decide +kernel
theorem dX4_leave_96 : decode cX4_leave 96 = .ok (.iastore, 1) := by decide +kernel
theorem dX4_leave_97 : decode cX4_leave 97 = .ok (.return_, 1) := by decide +kernel
theorem dX4_give_0 : decode cX4_give 0 = .ok (.aload_n 0, 1) := by decide +kernel
theorem dX4_give_1 : decode cX4_give 1 = .ok (.getfield 50, 3) := by decide +kernel
theorem dX4_give_4 : decode cX4_give 4 = .ok (.iload_n 1, 1) := by decide +kernel
theorem dX4_give_5 : decode cX4_give 5 = .ok (.dup2, 1) := by decide +kernel
theorem dX4_give_6 : decode cX4_give 6 = .ok (.iaload, 1) := by decide +kernel
theorem dX4_give_7 : decode cX4_give 7 = .ok (.iload_n 3, 1) := by decide +kernel
theorem dX4_give_8 : decode cX4_give 8 = .ok (.isub, 1) := by decide +kernel
theorem dX4_give_9 : decode cX4_give 9 = .ok (.iastore, 1) := by decide +kernel
theorem dX4_give_10 : decode cX4_give 10 = .ok (.aload_n 0, 1) := by decide +kernel
theorem dX4_give_11 : decode cX4_give 11 = .ok (.getfield 41, 3) := by decide +kernel
theorem dX4_give_14 : decode cX4_give 14 = .ok (.iload_n 1, 1) := by decide +kernel
theorem dX4_give_15 : decode cX4_give 15 = .ok (.iload_n 2, 1) := by decide +kernel
theorem dX4_give_16 : decode cX4_give 16 = .ok (.invokestatic 96, 3) := by decide +kernel
theorem dX4_give_19 : decode cX4_give 19 = .ok (.iload_n 3, 1) := by decide +kernel
theorem dX4_give_20 : decode cX4_give 20 = .ok (.iastore, 1) := by decide +kernel
theorem dX4_give_21 : decode cX4_give 21 = .ok (.iconst 0, 1) := by decide +kernel
theorem dX4_give_22 : decode cX4_give 22 = .ok (.istore 4, 2) := by decide +kernel
theorem dX4_give_24 : decode cX4_give 24 = .ok (.iload 4, 2) := by decide +kernel
theorem dX4_give_26 : decode cX4_give 26 = .ok (.aload_n 0, 1) := by decide +kernel
theorem dX4_give_27 : decode cX4_give 27 = .ok (.getfield 73, 3) := by decide +kernel
theorem dX4_give_30 : decode cX4_give 30 = .ok (.if_icmp .ge 26, 3) := by decide +kernel
theorem dX4_give_33 : decode cX4_give 33 = .ok (.aload_n 0, 1) := by decide +kernel
theorem dX4_give_34 : decode cX4_give 34 = .ok (.iload 4, 2) := by decide +kernel
theorem dX4_give_36 : decode cX4_give 36 = .ok (.iload_n 2, 1) := by decide +kernel
theorem dX4_give_37 : decode cX4_give 37 = .ok (.invokevirtual 116, 3) := by decide +kernel
theorem dX4_give_40 : decode cX4_give 40 = .ok (.ifCond .eq 10, 3) := by decide +kernel
theorem dX4_give_43 : decode cX4_give 43 = .ok (.aload_n 0, 1) := by decide +kernel
theorem dX4_give_44 : decode cX4_give 44 = .ok (.iload_n 1, 1) := by decide +kernel
theorem dX4_give_45 : decode cX4_give 45 = .ok (.iload 4, 2) := by decide +kernel
theorem dX4_give_47 : decode cX4_give 47 = .ok (.invokevirtual 132, 3) := by decide +kernel
theorem dX4_give_50 : decode cX4_give 50 = .ok (.iinc 4 1, 3) := by decide +kernel
theorem dX4_give_53 : decode cX4_give 53 = .ok (.goto (-29), 3) := by decide +kernel
theorem dX4_give_56 : decode cX4_give 56 = .ok (.return_, 1) := by decide +kernel
theorem dX4_nextBid_0 : decode cX4_nextBid 0 = .ok (.iconst (-1), 1) := by decide +kernel
theorem dX4_nextBid_1 : decode cX4_nextBid 1 = .ok (.istore_n 1, 1) := by decide +kernel
theorem dX4_nextBid_2 : decode cX4_nextBid 2 = .ok (.iconst 0, 1) := by decide +kernel
theorem dX4_nextBid_3 : decode cX4_nextBid 3 = .ok (.istore_n 2, 1) := by decide +kernel
theorem dX4_nextBid_4 : decode cX4_nextBid 4 = .ok (.iload_n 2, 1) := by decide +kernel
theorem dX4_nextBid_5 : decode cX4_nextBid 5 = .ok (.bipush 120, 2) := by decide +kernel
theorem dX4_nextBid_7 : decode cX4_nextBid 7 = .ok (.if_icmp .ge 84, 3) := by decide +kernel
theorem dX4_nextBid_10 : decode cX4_nextBid 10 = .ok (.aload_n 0, 1) := by decide +kernel
theorem dX4_nextBid_11 : decode cX4_nextBid 11 = .ok (.getfield 35, 3) := by decide +kernel
theorem dX4_nextBid_14 : decode cX4_nextBid 14 = .ok (.iload_n 2, 1) := by decide +kernel
theorem dX4_nextBid_15 : decode cX4_nextBid 15 = .ok (.iaload, 1) := by decide +kernel
theorem dX4_nextBid_16 : decode cX4_nextBid 16 = .ok (.ifCond .le 57, 3) := by decide +kernel
theorem dX4_nextBid_19 : decode cX4_nextBid 19 = .ok (.iload_n 1, 1) := by decide +kernel
theorem dX4_nextBid_20 : decode cX4_nextBid 20 = .ok (.iconst (-1), 1) := by decide +kernel
theorem dX4_nextBid_21 : decode cX4_nextBid 21 = .ok (.if_icmp .eq 48, 3) := by decide +kernel
theorem dX4_nextBid_24 : decode cX4_nextBid 24 = .ok (.aload_n 0, 1) := by decide +kernel
theorem dX4_nextBid_25 : decode cX4_nextBid 25 = .ok (.getfield 35, 3) := by decide +kernel
theorem dX4_nextBid_28 : decode cX4_nextBid 28 = .ok (.iload_n 2, 1) := by decide +kernel
theorem dX4_nextBid_29 : decode cX4_nextBid 29 = .ok (.iaload, 1) := by decide +kernel
theorem dX4_nextBid_30 : decode cX4_nextBid 30 = .ok (.aload_n 0, 1) := by decide +kernel
theorem dX4_nextBid_31 : decode cX4_nextBid 31 = .ok (.getfield 35, 3) := by decide +kernel
theorem dX4_nextBid_34 : decode cX4_nextBid 34 = .ok (.iload_n 1, 1) := by decide +kernel
theorem dX4_nextBid_35 : decode cX4_nextBid 35 = .ok (.iaload, 1) := by decide +kernel
theorem dX4_nextBid_36 : decode cX4_nextBid 36 = .ok (.if_icmp .gt 33, 3) := by decide +kernel
theorem dX4_nextBid_39 : decode cX4_nextBid 39 = .ok (.aload_n 0, 1) := by decide +kernel
theorem dX4_nextBid_40 : decode cX4_nextBid 40 = .ok (.getfield 35, 3) := by decide +kernel
theorem dX4_nextBid_43 : decode cX4_nextBid 43 = .ok (.iload_n 2, 1) := by decide +kernel
theorem dX4_nextBid_44 : decode cX4_nextBid 44 = .ok (.iaload, 1) := by decide +kernel
theorem dX4_nextBid_45 : decode cX4_nextBid 45 = .ok (.aload_n 0, 1) := by decide +kernel
theorem dX4_nextBid_46 : decode cX4_nextBid 46 = .ok (.getfield 35, 3) := by decide +kernel
theorem dX4_nextBid_49 : decode cX4_nextBid 49 = .ok (.iload_n 1, 1) := by decide +kernel
theorem dX4_nextBid_50 : decode cX4_nextBid 50 = .ok (.iaload, 1) := by decide +kernel
theorem dX4_nextBid_51 : decode cX4_nextBid 51 = .ok (.if_icmp .ne 22, 3) := by decide +kernel
theorem dX4_nextBid_54 : decode cX4_nextBid 54 = .ok (.aload_n 0, 1) := by decide +kernel
theorem dX4_nextBid_55 : decode cX4_nextBid 55 = .ok (.getfield 38, 3) := by decide +kernel
theorem dX4_nextBid_58 : decode cX4_nextBid 58 = .ok (.iload_n 2, 1) := by decide +kernel
theorem dX4_nextBid_59 : decode cX4_nextBid 59 = .ok (.iaload, 1) := by decide +kernel
theorem dX4_nextBid_60 : decode cX4_nextBid 60 = .ok (.aload_n 0, 1) := by decide +kernel
theorem dX4_nextBid_61 : decode cX4_nextBid 61 = .ok (.getfield 38, 3) := by decide +kernel
theorem dX4_nextBid_64 : decode cX4_nextBid 64 = .ok (.iload_n 1, 1) := by decide +kernel
theorem dX4_nextBid_65 : decode cX4_nextBid 65 = .ok (.iaload, 1) := by decide +kernel
theorem dX4_nextBid_66 : decode cX4_nextBid 66 = .ok (.if_icmp .ge 7, 3) := by decide +kernel
theorem dX4_nextBid_69 : decode cX4_nextBid 69 = .ok (.iconst 1, 1) := by decide +kernel
theorem dX4_nextBid_70 : decode cX4_nextBid 70 = .ok (.goto 4, 3) := by decide +kernel
theorem dX4_nextBid_73 : decode cX4_nextBid 73 = .ok (.iconst 0, 1) := by decide +kernel
theorem dX4_nextBid_74 : decode cX4_nextBid 74 = .ok (.istore_n 3, 1) := by decide +kernel
theorem dX4_nextBid_75 : decode cX4_nextBid 75 = .ok (.iload_n 3, 1) := by decide +kernel
theorem dX4_nextBid_76 : decode cX4_nextBid 76 = .ok (.ifCond .eq 7, 3) := by decide +kernel
theorem dX4_nextBid_79 : decode cX4_nextBid 79 = .ok (.iload_n 2, 1) := by decide +kernel
theorem dX4_nextBid_80 : decode cX4_nextBid 80 = .ok (.goto 4, 3) := by decide +kernel
theorem dX4_nextBid_83 : decode cX4_nextBid 83 = .ok (.iload_n 1, 1) := by decide +kernel
theorem dX4_nextBid_84 : decode cX4_nextBid 84 = .ok (.istore_n 1, 1) := by decide +kernel
theorem dX4_nextBid_85 : decode cX4_nextBid 85 = .ok (.iinc 2 1, 3) := by decide +kernel
theorem dX4_nextBid_88 : decode cX4_nextBid 88 = .ok (.goto (-84), 3) := by decide +kernel
theorem dX4_nextBid_91 : decode cX4_nextBid 91 = .ok (.iload_n 1, 1) := by decide +kernel
theorem dX4_nextBid_92 : decode cX4_nextBid 92 = .ok (.ireturn, 1) := by decide +kernel
theorem dX4_settle_0 : decode cX4_settle 0 = .ok (.aload_n 0, 1) := by decide +kernel
theorem dX4_settle_1 : decode cX4_settle 1 = .ok (.iconst 0, 1) := by decide +kernel
theorem dX4_settle_2 : decode cX4_settle 2 = .ok (.putfield 59, 3) := by decide +kernel
theorem dX4_settle_5 : decode cX4_settle 5 = .ok (.aload_n 0, 1) := by decide +kernel
theorem dX4_settle_6 : decode cX4_settle 6 = .ok (.dup, 1) := by decide +kernel
theorem dX4_settle_7 : decode cX4_settle 7 = .ok (.getfield 136, 3) := by decide +kernel
theorem dX4_settle_10 : decode cX4_settle 10 = .ok (.iconst 1, 1) := by decide +kernel
theorem dX4_settle_11 : decode cX4_settle 11 = .ok (.iadd, 1) := by decide +kernel
theorem dX4_settle_12 : decode cX4_settle 12 = .ok (.putfield 136, 3) := by decide +kernel
theorem dX4_settle_15 : decode cX4_settle 15 = .ok (.iconst 0, 1) := by decide +kernel
theorem dX4_settle_16 : decode cX4_settle 16 = .ok (.istore_n 1, 1) := by decide +kernel
theorem dX4_settle_17 : decode cX4_settle 17 = .ok (.aload_n 0, 1) := by decide +kernel
theorem dX4_settle_18 : decode cX4_settle 18 = .ok (.invokevirtual 139, 3) := by decide +kernel
theorem dX4_settle_21 : decode cX4_settle 21 = .ok (.istore_n 2, 1) := by decide +kernel
theorem dX4_settle_22 : decode cX4_settle 22 = .ok (.iload_n 2, 1) := by decide +kernel
theorem dX4_settle_23 : decode cX4_settle 23 = .ok (.iconst (-1), 1) := by decide +kernel
theorem dX4_settle_24 : decode cX4_settle 24 = .ok (.if_icmp .eq 149, 3) := by decide +kernel
theorem dX4_settle_27 : decode cX4_settle 27 = .ok (.iload_n 2, 1) := by decide +kernel
theorem dX4_settle_28 : decode cX4_settle 28 = .ok (.bipush 12, 2) := by decide +kernel
theorem dX4_settle_30 : decode cX4_settle 30 = .ok (.idiv, 1) := by decide +kernel
theorem dX4_settle_31 : decode cX4_settle 31 = .ok (.istore_n 3, 1) := by decide +kernel
theorem dX4_settle_32 : decode cX4_settle 32 = .ok (.iload_n 2, 1) := by decide +kernel
theorem dX4_settle_33 : decode cX4_settle 33 = .ok (.bipush 12, 2) := by decide +kernel
theorem dX4_settle_35 : decode cX4_settle 35 = .ok (.irem, 1) := by decide +kernel
theorem dX4_settle_36 : decode cX4_settle 36 = .ok (.istore 4, 2) := by decide +kernel
theorem dX4_settle_38 : decode cX4_settle 38 = .ok (.aload_n 0, 1) := by decide +kernel
theorem dX4_settle_39 : decode cX4_settle 39 = .ok (.getfield 35, 3) := by decide +kernel
theorem dX4_settle_42 : decode cX4_settle 42 = .ok (.iload_n 2, 1) := by decide +kernel
theorem dX4_settle_43 : decode cX4_settle 43 = .ok (.iaload, 1) := by decide +kernel
theorem dX4_settle_44 : decode cX4_settle 44 = .ok (.istore 5, 2) := by decide +kernel
theorem dX4_settle_46 : decode cX4_settle 46 = .ok (.aload_n 0, 1) := by decide +kernel
theorem dX4_settle_47 : decode cX4_settle 47 = .ok (.getfield 35, 3) := by decide +kernel
theorem dX4_settle_50 : decode cX4_settle 50 = .ok (.iload_n 2, 1) := by decide +kernel
theorem dX4_settle_51 : decode cX4_settle 51 = .ok (.iconst 0, 1) := by decide +kernel
theorem dX4_settle_52 : decode cX4_settle 52 = .ok (.iastore, 1) := by decide +kernel
theorem dX4_settle_53 : decode cX4_settle 53 = .ok (.aload_n 0, 1) := by decide +kernel
theorem dX4_settle_54 : decode cX4_settle 54 = .ok (.getfield 53, 3) := by decide +kernel
theorem dX4_settle_57 : decode cX4_settle 57 = .ok (.aload_n 0, 1) := by decide +kernel
theorem dX4_settle_58 : decode cX4_settle 58 = .ok (.getfield 16, 3) := by decide +kernel
theorem dX4_settle_61 : decode cX4_settle 61 = .ok (.iload 4, 2) := by decide +kernel
theorem dX4_settle_63 : decode cX4_settle 63 = .ok (.iaload, 1) := by decide +kernel
theorem dX4_settle_64 : decode cX4_settle 64 = .ok (.baload, 1) := by decide +kernel
theorem dX4_settle_65 : decode cX4_settle 65 = .ok (.ifCond .ne 100, 3) := by decide +kernel
theorem dX4_settle_68 : decode cX4_settle 68 = .ok (.aload_n 0, 1) := by decide +kernel
theorem dX4_settle_69 : decode cX4_settle 69 = .ok (.iload_n 3, 1) := by decide +kernel
theorem dX4_settle_70 : decode cX4_settle 70 = .ok (.iload 4, 2) := by decide +kernel
theorem dX4_settle_72 : decode cX4_settle 72 = .ok (.iload 5, 2) := by decide +kernel
theorem dX4_settle_74 : decode cX4_settle 74 = .ok (.invokevirtual 143, 3) := by decide +kernel
theorem dX4_settle_77 : decode cX4_settle 77 = .ok (.ifCond .eq 88, 3) := by decide +kernel
theorem dX4_settle_80 : decode cX4_settle 80 = .ok (.aload_n 0, 1) := by decide +kernel
theorem dX4_settle_81 : decode cX4_settle 81 = .ok (.iload 4, 2) := by decide +kernel
theorem dX4_settle_83 : decode cX4_settle 83 = .ok (.invokevirtual 146, 3) := by decide +kernel
theorem dX4_settle_86 : decode cX4_settle 86 = .ok (.ifCond .eq 18, 3) := by decide +kernel
theorem dX4_settle_89 : decode cX4_settle 89 = .ok (.aload_n 0, 1) := by decide +kernel
theorem dX4_settle_90 : decode cX4_settle 90 = .ok (.iload_n 3, 1) := by decide +kernel
theorem dX4_settle_91 : decode cX4_settle 91 = .ok (.iload 4, 2) := by decide +kernel
theorem dX4_settle_93 : decode cX4_settle 93 = .ok (.iload 5, 2) := by decide +kernel
theorem dX4_settle_95 : decode cX4_settle 95 = .ok (.invokevirtual 149, 3) := by decide +kernel
theorem dX4_settle_98 : decode cX4_settle 98 = .ok (.iinc 1 1, 3) := by decide +kernel
theorem dX4_settle_101 : decode cX4_settle 101 = .ok (.goto 64, 3) := by decide +kernel
theorem dX4_settle_104 : decode cX4_settle 104 = .ok (.aload_n 0, 1) := by decide +kernel
theorem dX4_settle_105 : decode cX4_settle 105 = .ok (.iload_n 3, 1) := by decide +kernel
theorem dX4_settle_106 : decode cX4_settle 106 = .ok (.iload 4, 2) := by decide +kernel
theorem dX4_settle_108 : decode cX4_settle 108 = .ok (.invokevirtual 129, 3) := by decide +kernel
theorem dX4_settle_111 : decode cX4_settle 111 = .ok (.iconst (-1), 1) := by decide +kernel
theorem dX4_settle_112 : decode cX4_settle 112 = .ok (.if_icmp .ne 53, 3) := by decide +kernel
theorem dX4_settle_115 : decode cX4_settle 115 = .ok (.aload_n 0, 1) := by decide +kernel
theorem dX4_settle_116 : decode cX4_settle 116 = .ok (.getfield 29, 3) := by decide +kernel
theorem dX4_settle_119 : decode cX4_settle 119 = .ok (.bipush 10, 2) := by decide +kernel
theorem dX4_settle_121 : decode cX4_settle 121 = .ok (.iload 4, 2) := by decide +kernel
theorem dX4_settle_123 : decode cX4_settle 123 = .ok (.imul, 1) := by decide +kernel
theorem dX4_settle_124 : decode cX4_settle 124 = .ok (.aload_n 0, 1) := by decide +kernel
theorem dX4_settle_125 : decode cX4_settle 125 = .ok (.getfield 26, 3) := by decide +kernel
theorem dX4_settle_128 : decode cX4_settle 128 = .ok (.iload 4, 2) := by decide +kernel
theorem dX4_settle_130 : decode cX4_settle 130 = .ok (.iaload, 1) := by decide +kernel
theorem dX4_settle_131 : decode cX4_settle 131 = .ok (.iadd, 1) := by decide +kernel
theorem dX4_settle_132 : decode cX4_settle 132 = .ok (.iload_n 3, 1) := by decide +kernel
theorem dX4_settle_133 : decode cX4_settle 133 = .ok (.iastore, 1) := by decide +kernel
theorem dX4_settle_134 : decode cX4_settle 134 = .ok (.aload_n 0, 1) := by decide +kernel
theorem dX4_settle_135 : decode cX4_settle 135 = .ok (.getfield 32, 3) := by decide +kernel
theorem dX4_settle_138 : decode cX4_settle 138 = .ok (.bipush 10, 2) := by decide +kernel
theorem dX4_settle_140 : decode cX4_settle 140 = .ok (.iload 4, 2) := by decide +kernel
theorem dX4_settle_142 : decode cX4_settle 142 = .ok (.imul, 1) := by decide +kernel
theorem dX4_settle_143 : decode cX4_settle 143 = .ok (.aload_n 0, 1) := by decide +kernel
theorem dX4_settle_144 : decode cX4_settle 144 = .ok (.getfield 26, 3) := by decide +kernel
theorem dX4_settle_147 : decode cX4_settle 147 = .ok (.iload 4, 2) := by decide +kernel
theorem dX4_settle_149 : decode cX4_settle 149 = .ok (.iaload, 1) := by decide +kernel
theorem dX4_settle_150 : decode cX4_settle 150 = .ok (.iadd, 1) := by decide +kernel
theorem dX4_settle_151 : decode cX4_settle 151 = .ok (.iload 5, 2) := by decide +kernel
theorem dX4_settle_153 : decode cX4_settle 153 = .ok (.iastore, 1) := by decide +kernel
theorem dX4_settle_154 : decode cX4_settle 154 = .ok (.aload_n 0, 1) := by decide +kernel
theorem dX4_settle_155 : decode cX4_settle 155 = .ok (.getfield 26, 3) := by decide +kernel
theorem dX4_settle_158 : decode cX4_settle 158 = .ok (.iload 4, 2) := by decide +kernel
theorem dX4_settle_160 : decode cX4_settle 160 = .ok (.dup2, 1) := by decide +kernel
theorem dX4_settle_161 : decode cX4_settle 161 = .ok (.iaload, 1) := by decide +kernel
theorem dX4_settle_162 : decode cX4_settle 162 = .ok (.iconst 1, 1) := by decide +kernel
theorem dX4_settle_163 : decode cX4_settle 163 = .ok (.iadd, 1) := by decide +kernel
theorem dX4_settle_164 : decode cX4_settle 164 = .ok (.iastore, 1) := by decide +kernel
theorem dX4_settle_165 : decode cX4_settle 165 = .ok (.aload_n 0, 1) := by decide +kernel
theorem dX4_settle_166 : decode cX4_settle 166 = .ok (.invokevirtual 139, 3) := by decide +kernel
theorem dX4_settle_169 : decode cX4_settle 169 = .ok (.istore_n 2, 1) := by decide +kernel
theorem dX4_settle_170 : decode cX4_settle 170 = .ok (.goto (-148), 3) := by decide +kernel
theorem dX4_settle_173 : decode cX4_settle 173 = .ok (.iload_n 1, 1) := by decide +kernel
theorem dX4_settle_174 : decode cX4_settle 174 = .ok (.ireturn, 1) := by decide +kernel
theorem dX4_rounds_0 : decode cX4_rounds 0 = .ok (.aload_n 0, 1) := by decide +kernel
theorem dX4_rounds_1 : decode cX4_rounds 1 = .ok (.iconst 0, 1) := by decide +kernel
theorem dX4_rounds_2 : decode cX4_rounds 2 = .ok (.putfield 59, 3) := by decide +kernel
theorem dX4_rounds_5 : decode cX4_rounds 5 = .ok (.aload_n 0, 1) := by decide +kernel
theorem dX4_rounds_6 : decode cX4_rounds 6 = .ok (.getfield 136, 3) := by decide +kernel
theorem dX4_rounds_9 : decode cX4_rounds 9 = .ok (.ireturn, 1) := by decide +kernel
theorem dX4_points_0 : decode cX4_points 0 = .ok (.aload_n 0, 1) := by decide +kernel
theorem dX4_points_1 : decode cX4_points 1 = .ok (.aload_n 0, 1) := by decide +kernel
theorem dX4_points_2 : decode cX4_points 2 = .ok (.iload_n 1, 1) := by decide +kernel
theorem dX4_points_3 : decode cX4_points 3 = .ok (.invokevirtual 90, 3) := by decide +kernel
theorem dX4_points_6 : decode cX4_points 6 = .ok (.ifCond .eq 7, 3) := by decide +kernel
theorem dX4_points_9 : decode cX4_points 9 = .ok (.iconst 0, 1) := by decide +kernel
theorem dX4_points_10 : decode cX4_points 10 = .ok (.goto 4, 3) := by decide +kernel
theorem dX4_points_13 : decode cX4_points 13 = .ok (.iconst 1, 1) := by decide +kernel
theorem dX4_points_14 : decode cX4_points 14 = .ok (.putfield 59, 3) := by decide +kernel
theorem dX4_points_17 : decode cX4_points 17 = .ok (.aload_n 0, 1) := by decide +kernel
theorem dX4_points_18 : decode cX4_points 18 = .ok (.getfield 59, 3) := by decide +kernel
theorem dX4_points_21 : decode cX4_points 21 = .ok (.ifCond .le 7, 3) := by decide +kernel
theorem dX4_points_24 : decode cX4_points 24 = .ok (.iconst 0, 1) := by decide +kernel
theorem dX4_points_25 : decode cX4_points 25 = .ok (.goto 9, 3) := by decide +kernel
theorem dX4_points_28 : decode cX4_points 28 = .ok (.aload_n 0, 1) := by decide +kernel
theorem dX4_points_29 : decode cX4_points 29 = .ok (.getfield 50, 3) := by decide +kernel
theorem dX4_points_32 : decode cX4_points 32 = .ok (.iload_n 1, 1) := by decide +kernel
theorem dX4_points_33 : decode cX4_points 33 = .ok (.iaload, 1) := by decide +kernel
theorem dX4_points_34 : decode cX4_points 34 = .ok (.ireturn, 1) := by decide +kernel
theorem dX4_seat_0 : decode cX4_seat 0 = .ok (.aload_n 0, 1) := by decide +kernel
theorem dX4_seat_1 : decode cX4_seat 1 = .ok (.aload_n 0, 1) := by decide +kernel
theorem dX4_seat_2 : decode cX4_seat 2 = .ok (.iload_n 1, 1) := by decide +kernel
theorem dX4_seat_3 : decode cX4_seat 3 = .ok (.invokevirtual 90, 3) := by decide +kernel
theorem dX4_seat_6 : decode cX4_seat 6 = .ok (.ifCond .eq 11, 3) := by decide +kernel
theorem dX4_seat_9 : decode cX4_seat 9 = .ok (.aload_n 0, 1) := by decide +kernel
theorem dX4_seat_10 : decode cX4_seat 10 = .ok (.iload_n 2, 1) := by decide +kernel
theorem dX4_seat_11 : decode cX4_seat 11 = .ok (.invokevirtual 79, 3) := by decide +kernel
theorem dX4_seat_14 : decode cX4_seat 14 = .ok (.ifCond .ne 7, 3) := by decide +kernel
theorem dX4_seat_17 : decode cX4_seat 17 = .ok (.iconst 1, 1) := by decide +kernel
theorem dX4_seat_18 : decode cX4_seat 18 = .ok (.goto 4, 3) := by decide +kernel
theorem dX4_seat_21 : decode cX4_seat 21 = .ok (.iconst 0, 1) := by decide +kernel
theorem dX4_seat_22 : decode cX4_seat 22 = .ok (.putfield 59, 3) := by decide +kernel
theorem dX4_seat_25 : decode cX4_seat 25 = .ok (.iconst (-1), 1) := by decide +kernel
theorem dX4_seat_26 : decode cX4_seat 26 = .ok (.istore 4, 2) := by decide +kernel
theorem dX4_seat_28 : decode cX4_seat 28 = .ok (.iconst 0, 1) := by decide +kernel
theorem dX4_seat_29 : decode cX4_seat 29 = .ok (.istore 5, 2) := by decide +kernel
theorem dX4_seat_31 : decode cX4_seat 31 = .ok (.iload 5, 2) := by decide +kernel
theorem dX4_seat_33 : decode cX4_seat 33 = .ok (.aload_n 0, 1) := by decide +kernel
theorem dX4_seat_34 : decode cX4_seat 34 = .ok (.getfield 73, 3) := by decide +kernel
theorem dX4_seat_37 : decode cX4_seat 37 = .ok (.if_icmp .ge 62, 3) := by decide +kernel
theorem dX4_seat_40 : decode cX4_seat 40 = .ok (.aload_n 0, 1) := by decide +kernel
theorem dX4_seat_41 : decode cX4_seat 41 = .ok (.getfield 59, 3) := by decide +kernel
theorem dX4_seat_44 : decode cX4_seat 44 = .ok (.ifCond .ne 55, 3) := by decide +kernel
theorem dX4_seat_47 : decode cX4_seat 47 = .ok (.aload_n 0, 1) := by decide +kernel
theorem dX4_seat_48 : decode cX4_seat 48 = .ok (.getfield 13, 3) := by decide +kernel
theorem dX4_seat_51 : decode cX4_seat 51 = .ok (.iload 5, 2) := by decide +kernel
theorem dX4_seat_53 : decode cX4_seat 53 = .ok (.iaload, 1) := by decide +kernel
theorem dX4_seat_54 : decode cX4_seat 54 = .ok (.iload_n 2, 1) := by decide +kernel
theorem dX4_seat_55 : decode cX4_seat 55 = .ok (.if_icmp .ne 34, 3) := by decide +kernel
theorem dX4_seat_58 : decode cX4_seat 58 = .ok (.aload_n 0, 1) := by decide +kernel
theorem dX4_seat_59 : decode cX4_seat 59 = .ok (.getfield 22, 3) := by decide +kernel
theorem dX4_seat_62 : decode cX4_seat 62 = .ok (.iload 5, 2) := by decide +kernel
theorem dX4_seat_64 : decode cX4_seat 64 = .ok (.baload, 1) := by decide +kernel
theorem dX4_seat_65 : decode cX4_seat 65 = .ok (.iload_n 3, 1) := by decide +kernel
theorem dX4_seat_66 : decode cX4_seat 66 = .ok (.if_icmp .ne 23, 3) := by decide +kernel
theorem dX4_seat_69 : decode cX4_seat 69 = .ok (.aload_n 0, 1) := by decide +kernel
theorem dX4_seat_70 : decode cX4_seat 70 = .ok (.getfield 41, 3) := by decide +kernel
theorem dX4_seat_73 : decode cX4_seat 73 = .ok (.iload_n 1, 1) := by decide +kernel
theorem dX4_seat_74 : decode cX4_seat 74 = .ok (.iload 5, 2) := by decide +kernel
theorem dX4_seat_76 : decode cX4_seat 76 = .ok (.invokestatic 96, 3) := by decide +kernel
theorem dX4_seat_79 : decode cX4_seat 79 = .ok (.iaload, 1) := by decide +kernel
theorem dX4_seat_80 : decode cX4_seat 80 = .ok (.iconst (-1), 1) := by decide +kernel
theorem dX4_seat_81 : decode cX4_seat 81 = .ok (.if_icmp .eq 8, 3) := by decide +kernel
theorem dX4_seat_84 : decode cX4_seat 84 = .ok (.iload 5, 2) := by decide +kernel
theorem dX4_seat_86 : decode cX4_seat 86 = .ok (.goto 5, 3) := by decide +kernel
theorem dX4_seat_89 : decode cX4_seat 89 = .ok (.iload 4, 2) := by decide +kernel
theorem dX4_seat_91 : decode cX4_seat 91 = .ok (.istore 4, 2) := by decide +kernel
theorem dX4_seat_93 : decode cX4_seat 93 = .ok (.iinc 5 1, 3) := by decide +kernel
theorem dX4_seat_96 : decode cX4_seat 96 = .ok (.goto (-65), 3) := by decide +kernel
theorem dX4_seat_99 : decode cX4_seat 99 = .ok (.aload_n 0, 1) := by decide +kernel
theorem dX4_seat_100 : decode cX4_seat 100 = .ok (.aload_n 0, 1) := by decide +kernel
theorem dX4_seat_101 : decode cX4_seat 101 = .ok (.getfield 59, 3) := by decide +kernel
theorem dX4_seat_104 : decode cX4_seat 104 = .ok (.ifCond .ne 13, 3) := by decide +kernel
theorem dX4_seat_107 : decode cX4_seat 107 = .ok (.iload 4, 2) := by decide +kernel
theorem dX4_seat_109 : decode cX4_seat 109 = .ok (.iconst (-1), 1) := by decide +kernel
theorem dX4_seat_110 : decode cX4_seat 110 = .ok (.if_icmp .ne 7, 3) := by decide +kernel
theorem dX4_seat_113 : decode cX4_seat 113 = .ok (.iconst 2, 1) := by decide +kernel
theorem dX4_seat_114 : decode cX4_seat 114 = .ok (.goto 7, 3) := by decide +kernel
theorem dX4_seat_117 : decode cX4_seat 117 = .ok (.aload_n 0, 1) := by decide +kernel
theorem dX4_seat_118 : decode cX4_seat 118 = .ok (.getfield 59, 3) := by decide +kernel
theorem dX4_seat_121 : decode cX4_seat 121 = .ok (.putfield 59, 3) := by decide +kernel
theorem dX4_seat_124 : decode cX4_seat 124 = .ok (.aload_n 0, 1) := by decide +kernel
theorem dX4_seat_125 : decode cX4_seat 125 = .ok (.getfield 59, 3) := by decide +kernel
theorem dX4_seat_128 : decode cX4_seat 128 = .ok (.ifCond .le 7, 3) := by decide +kernel
theorem dX4_seat_131 : decode cX4_seat 131 = .ok (.iconst 0, 1) := by decide +kernel
theorem dX4_seat_132 : decode cX4_seat 132 = .ok (.goto 5, 3) := by decide +kernel
theorem dX4_seat_135 : decode cX4_seat 135 = .ok (.iload 4, 2) := by decide +kernel
theorem dX4_seat_137 : decode cX4_seat 137 = .ok (.ireturn, 1) := by decide +kernel
theorem dX4_offerAt_0 : decode cX4_offerAt 0 = .ok (.iconst (-1), 1) := by decide +kernel
theorem dX4_offerAt_1 : decode cX4_offerAt 1 = .ok (.istore_n 3, 1) := by decide +kernel
theorem dX4_offerAt_2 : decode cX4_offerAt 2 = .ok (.iconst 0, 1) := by decide +kernel
theorem dX4_offerAt_3 : decode cX4_offerAt 3 = .ok (.istore 4, 2) := by decide +kernel
theorem dX4_offerAt_5 : decode cX4_offerAt 5 = .ok (.iload 4, 2) := by decide +kernel
theorem dX4_offerAt_7 : decode cX4_offerAt 7 = .ok (.aload_n 0, 1) := by decide +kernel
theorem dX4_offerAt_8 : decode cX4_offerAt 8 = .ok (.getfield 73, 3) := by decide +kernel
theorem dX4_offerAt_11 : decode cX4_offerAt 11 = .ok (.if_icmp .ge 42, 3) := by decide +kernel
theorem dX4_offerAt_14 : decode cX4_offerAt 14 = .ok (.aload_n 0, 1) := by decide +kernel
theorem dX4_offerAt_15 : decode cX4_offerAt 15 = .ok (.getfield 16, 3) := by decide +kernel
theorem dX4_offerAt_18 : decode cX4_offerAt 18 = .ok (.iload 4, 2) := by decide +kernel
theorem dX4_offerAt_20 : decode cX4_offerAt 20 = .ok (.iaload, 1) := by decide +kernel
theorem dX4_offerAt_21 : decode cX4_offerAt 21 = .ok (.iload_n 2, 1) := by decide +kernel
theorem dX4_offerAt_22 : decode cX4_offerAt 22 = .ok (.if_icmp .ne 23, 3) := by decide +kernel
theorem dX4_offerAt_25 : decode cX4_offerAt 25 = .ok (.aload_n 0, 1) := by decide +kernel
theorem dX4_offerAt_26 : decode cX4_offerAt 26 = .ok (.getfield 41, 3) := by decide +kernel
theorem dX4_offerAt_29 : decode cX4_offerAt 29 = .ok (.iload_n 1, 1) := by decide +kernel
theorem dX4_offerAt_30 : decode cX4_offerAt 30 = .ok (.iload 4, 2) := by decide +kernel
theorem dX4_offerAt_32 : decode cX4_offerAt 32 = .ok (.invokestatic 96, 3) := by decide +kernel
theorem dX4_offerAt_35 : decode cX4_offerAt 35 = .ok (.iaload, 1) := by decide +kernel
theorem dX4_offerAt_36 : decode cX4_offerAt 36 = .ok (.iconst (-1), 1) := by decide +kernel
theorem dX4_offerAt_37 : decode cX4_offerAt 37 = .ok (.if_icmp .eq 8, 3) := by decide +kernel
theorem dX4_offerAt_40 : decode cX4_offerAt 40 = .ok (.iload 4, 2) := by decide +kernel
theorem dX4_offerAt_42 : decode cX4_offerAt 42 = .ok (.goto 4, 3) := by decide +kernel
theorem dX4_offerAt_45 : decode cX4_offerAt 45 = .ok (.iload_n 3, 1) := by decide +kernel
theorem dX4_offerAt_46 : decode cX4_offerAt 46 = .ok (.istore_n 3, 1) := by decide +kernel
theorem dX4_offerAt_47 : decode cX4_offerAt 47 = .ok (.iinc 4 1, 3) := by decide +kernel
theorem dX4_offerAt_50 : decode cX4_offerAt 50 = .ok (.goto (-45), 3) := by decide +kernel
theorem dX4_offerAt_53 : decode cX4_offerAt 53 = .ok (.iload_n 3, 1) := by decide +kernel
theorem dX4_offerAt_54 : decode cX4_offerAt 54 = .ok (.ireturn, 1) := by decide +kernel
theorem dX4_noneAt_0 : decode cX4_noneAt 0 = .ok (.aload_n 0, 1) := by decide +kernel
theorem dX4_noneAt_1 : decode cX4_noneAt 1 = .ok (.aload_n 0, 1) := by decide +kernel
theorem dX4_noneAt_2 : decode cX4_noneAt 2 = .ok (.iload_n 1, 1) := by decide +kernel
theorem dX4_noneAt_3 : decode cX4_noneAt 3 = .ok (.invokevirtual 90, 3) := by decide +kernel
theorem dX4_noneAt_6 : decode cX4_noneAt 6 = .ok (.ifCond .ne 7, 3) := by decide +kernel
theorem dX4_noneAt_9 : decode cX4_noneAt 9 = .ok (.iconst 1, 1) := by decide +kernel
theorem dX4_noneAt_10 : decode cX4_noneAt 10 = .ok (.goto 15, 3) := by decide +kernel
theorem dX4_noneAt_13 : decode cX4_noneAt 13 = .ok (.iload_n 2, 1) := by decide +kernel
theorem dX4_noneAt_14 : decode cX4_noneAt 14 = .ok (.invokestatic 83, 3) := by decide +kernel
theorem dX4_noneAt_17 : decode cX4_noneAt 17 = .ok (.ifCond .ne 7, 3) := by decide +kernel
theorem dX4_noneAt_20 : decode cX4_noneAt 20 = .ok (.iconst 2, 1) := by decide +kernel
theorem dX4_noneAt_21 : decode cX4_noneAt 21 = .ok (.goto 4, 3) := by decide +kernel
theorem dX4_noneAt_24 : decode cX4_noneAt 24 = .ok (.iconst 0, 1) := by decide +kernel
theorem dX4_noneAt_25 : decode cX4_noneAt 25 = .ok (.putfield 59, 3) := by decide +kernel
theorem dX4_noneAt_28 : decode cX4_noneAt 28 = .ok (.aload_n 0, 1) := by decide +kernel
theorem dX4_noneAt_29 : decode cX4_noneAt 29 = .ok (.getfield 59, 3) := by decide +kernel
theorem dX4_noneAt_32 : decode cX4_noneAt 32 = .ok (.ifCond .ne 22, 3) := by decide +kernel
theorem dX4_noneAt_35 : decode cX4_noneAt 35 = .ok (.aload_n 0, 1) := by decide +kernel
theorem dX4_noneAt_36 : decode cX4_noneAt 36 = .ok (.aload_n 0, 1) := by decide +kernel
theorem dX4_noneAt_37 : decode cX4_noneAt 37 = .ok (.iload_n 1, 1) := by decide +kernel
theorem dX4_noneAt_38 : decode cX4_noneAt 38 = .ok (.iload_n 2, 1) := by decide +kernel
theorem dX4_noneAt_39 : decode cX4_noneAt 39 = .ok (.invokevirtual 153, 3) := by decide +kernel
theorem dX4_noneAt_42 : decode cX4_noneAt 42 = .ok (.iconst (-1), 1) := by decide +kernel
theorem dX4_noneAt_43 : decode cX4_noneAt 43 = .ok (.if_icmp .ne 7, 3) := by decide +kernel
theorem dX4_noneAt_46 : decode cX4_noneAt 46 = .ok (.iconst 3, 1) := by decide +kernel
theorem dX4_noneAt_47 : decode cX4_noneAt 47 = .ok (.goto 4, 3) := by decide +kernel
theorem dX4_noneAt_50 : decode cX4_noneAt 50 = .ok (.iconst 0, 1) := by decide +kernel
theorem dX4_noneAt_51 : decode cX4_noneAt 51 = .ok (.putfield 59, 3) := by decide +kernel
theorem dX4_noneAt_54 : decode cX4_noneAt 54 = .ok (.aload_n 0, 1) := by decide +kernel
theorem dX4_noneAt_55 : decode cX4_noneAt 55 = .ok (.getfield 59, 3) := by decide +kernel
theorem dX4_noneAt_58 : decode cX4_noneAt 58 = .ok (.ifCond .le 7, 3) := by decide +kernel
theorem dX4_noneAt_61 : decode cX4_noneAt 61 = .ok (.iconst 1, 1) := by decide +kernel
theorem dX4_noneAt_62 : decode cX4_noneAt 62 = .ok (.goto 4, 3) := by decide +kernel
theorem dX4_noneAt_65 : decode cX4_noneAt 65 = .ok (.iconst 0, 1) := by decide +kernel
theorem dX4_noneAt_66 : decode cX4_noneAt 66 = .ok (.ireturn, 1) := by decide +kernel
theorem dX4_at_0 : decode cX4_at 0 = .ok (.aload_n 0, 1) := by decide +kernel
theorem dX4_at_1 : decode cX4_at 1 = .ok (.iload_n 1, 1) := by decide +kernel
theorem dX4_at_2 : decode cX4_at 2 = .ok (.iload_n 2, 1) := by decide +kernel
theorem dX4_at_3 : decode cX4_at 3 = .ok (.invokevirtual 156, 3) := by decide +kernel
theorem dX4_at_6 : decode cX4_at 6 = .ok (.ifCond .eq 7, 3) := by decide +kernel
theorem dX4_at_9 : decode cX4_at 9 = .ok (.iconst 0, 1) := by decide +kernel
theorem dX4_at_10 : decode cX4_at 10 = .ok (.goto 14, 3) := by decide +kernel
theorem dX4_at_13 : decode cX4_at 13 = .ok (.aload_n 0, 1) := by decide +kernel
theorem dX4_at_14 : decode cX4_at 14 = .ok (.getfield 13, 3) := by decide +kernel
theorem dX4_at_17 : decode cX4_at 17 = .ok (.aload_n 0, 1) := by decide +kernel
theorem dX4_at_18 : decode cX4_at 18 = .ok (.iload_n 1, 1) := by decide +kernel
theorem dX4_at_19 : decode cX4_at 19 = .ok (.iload_n 2, 1) := by decide +kernel
theorem dX4_at_20 : decode cX4_at 20 = .ok (.invokevirtual 153, 3) := by decide +kernel
theorem dX4_at_23 : decode cX4_at 23 = .ok (.iaload, 1) := by decide +kernel
theorem dX4_at_24 : decode cX4_at 24 = .ok (.ireturn, 1) := by decide +kernel
theorem dX4_holders_0 : decode cX4_holders 0 = .ok (.aload_n 0, 1) := by decide +kernel
theorem dX4_holders_1 : decode cX4_holders 1 = .ok (.aload_n 0, 1) := by decide +kernel
theorem dX4_holders_2 : decode cX4_holders 2 = .ok (.iload_n 1, 1) := by decide +kernel
theorem dX4_holders_3 : decode cX4_holders 3 = .ok (.invokevirtual 93, 3) := by decide +kernel
theorem dX4_holders_6 : decode cX4_holders 6 = .ok (.ifCond .eq 7, 3) := by decide +kernel
theorem dX4_holders_9 : decode cX4_holders 9 = .ok (.iconst 0, 1) := by decide +kernel
theorem dX4_holders_10 : decode cX4_holders 10 = .ok (.goto 4, 3) := by decide +kernel
theorem dX4_holders_13 : decode cX4_holders 13 = .ok (.iconst 1, 1) := by decide +kernel
theorem dX4_holders_14 : decode cX4_holders 14 = .ok (.putfield 59, 3) := by decide +kernel
theorem dX4_holders_17 : decode cX4_holders 17 = .ok (.aload_n 0, 1) := by decide +kernel
theorem dX4_holders_18 : decode cX4_holders 18 = .ok (.getfield 59, 3) := by decide +kernel
theorem dX4_holders_21 : decode cX4_holders 21 = .ok (.ifCond .le 7, 3) := by decide +kernel
theorem dX4_holders_24 : decode cX4_holders 24 = .ok (.iconst 0, 1) := by decide +kernel
theorem dX4_holders_25 : decode cX4_holders 25 = .ok (.goto 8, 3) := by decide +kernel
theorem dX4_holders_28 : decode cX4_holders 28 = .ok (.aload_n 0, 1) := by decide +kernel
theorem dX4_holders_29 : decode cX4_holders 29 = .ok (.iload_n 1, 1) := by decide +kernel
theorem dX4_holders_30 : decode cX4_holders 30 = .ok (.invokevirtual 119, 3) := by decide +kernel
theorem dX4_holders_33 : decode cX4_holders 33 = .ok (.ireturn, 1) := by decide +kernel
theorem dX4_holder_0 : decode cX4_holder 0 = .ok (.aload_n 0, 1) := by decide +kernel
theorem dX4_holder_1 : decode cX4_holder 1 = .ok (.aload_n 0, 1) := by decide +kernel
theorem dX4_holder_2 : decode cX4_holder 2 = .ok (.iload_n 1, 1) := by decide +kernel
theorem dX4_holder_3 : decode cX4_holder 3 = .ok (.invokevirtual 93, 3) := by decide +kernel
theorem dX4_holder_6 : decode cX4_holder 6 = .ok (.ifCond .eq 7, 3) := by decide +kernel
theorem dX4_holder_9 : decode cX4_holder 9 = .ok (.iconst 0, 1) := by decide +kernel
theorem dX4_holder_10 : decode cX4_holder 10 = .ok (.goto 4, 3) := by decide +kernel
theorem dX4_holder_13 : decode cX4_holder 13 = .ok (.iconst 1, 1) := by decide +kernel
theorem dX4_holder_14 : decode cX4_holder 14 = .ok (.putfield 59, 3) := by decide +kernel
theorem dX4_holder_17 : decode cX4_holder 17 = .ok (.iconst (-1), 1) := by decide +kernel
theorem dX4_holder_18 : decode cX4_holder 18 = .ok (.istore_n 3, 1) := by decide +kernel
theorem dX4_holder_19 : decode cX4_holder 19 = .ok (.iload_n 2, 1) := by decide +kernel
theorem dX4_holder_20 : decode cX4_holder 20 = .ok (.istore 4, 2) := by decide +kernel
theorem dX4_holder_22 : decode cX4_holder 22 = .ok (.iconst 0, 1) := by decide +kernel
theorem dX4_holder_23 : decode cX4_holder 23 = .ok (.istore 5, 2) := by decide +kernel
theorem dX4_holder_25 : decode cX4_holder 25 = .ok (.iload 5, 2) := by decide +kernel
theorem dX4_holder_27 : decode cX4_holder 27 = .ok (.aload_n 0, 1) := by decide +kernel
theorem dX4_holder_28 : decode cX4_holder 28 = .ok (.getfield 63, 3) := by decide +kernel
theorem dX4_holder_31 : decode cX4_holder 31 = .ok (.if_icmp .ge 70, 3) := by decide +kernel
theorem dX4_holder_34 : decode cX4_holder 34 = .ok (.aload_n 0, 1) := by decide +kernel
theorem dX4_holder_35 : decode cX4_holder 35 = .ok (.getfield 59, 3) := by decide +kernel
theorem dX4_holder_38 : decode cX4_holder 38 = .ok (.ifCond .ne 63, 3) := by decide +kernel
theorem dX4_holder_41 : decode cX4_holder 41 = .ok (.aload_n 0, 1) := by decide +kernel
theorem dX4_holder_42 : decode cX4_holder 42 = .ok (.getfield 41, 3) := by decide +kernel
theorem dX4_holder_45 : decode cX4_holder 45 = .ok (.iload 5, 2) := by decide +kernel
theorem dX4_holder_47 : decode cX4_holder 47 = .ok (.iload_n 1, 1) := by decide +kernel
theorem dX4_holder_48 : decode cX4_holder 48 = .ok (.invokestatic 96, 3) := by decide +kernel
theorem dX4_holder_51 : decode cX4_holder 51 = .ok (.iaload, 1) := by decide +kernel
theorem dX4_holder_52 : decode cX4_holder 52 = .ok (.iconst (-1), 1) := by decide +kernel
theorem dX4_holder_53 : decode cX4_holder 53 = .ok (.if_icmp .eq 7, 3) := by decide +kernel
theorem dX4_holder_56 : decode cX4_holder 56 = .ok (.iconst 1, 1) := by decide +kernel
theorem dX4_holder_57 : decode cX4_holder 57 = .ok (.goto 4, 3) := by decide +kernel
theorem dX4_holder_60 : decode cX4_holder 60 = .ok (.iconst 0, 1) := by decide +kernel
theorem dX4_holder_61 : decode cX4_holder 61 = .ok (.istore 6, 2) := by decide +kernel
theorem dX4_holder_63 : decode cX4_holder 63 = .ok (.iload 6, 2) := by decide +kernel
theorem dX4_holder_65 : decode cX4_holder 65 = .ok (.ifCond .eq 13, 3) := by decide +kernel
theorem dX4_holder_68 : decode cX4_holder 68 = .ok (.iload 4, 2) := by decide +kernel
theorem dX4_holder_70 : decode cX4_holder 70 = .ok (.ifCond .ne 8, 3) := by decide +kernel
theorem dX4_holder_73 : decode cX4_holder 73 = .ok (.iload 5, 2) := by decide +kernel
theorem dX4_holder_75 : decode cX4_holder 75 = .ok (.goto 4, 3) := by decide +kernel
theorem dX4_holder_78 : decode cX4_holder 78 = .ok (.iload_n 3, 1) := by decide +kernel
theorem dX4_holder_79 : decode cX4_holder 79 = .ok (.istore_n 3, 1) := by decide +kernel
theorem dX4_holder_80 : decode cX4_holder 80 = .ok (.iload 4, 2) := by decide +kernel
theorem dX4_holder_82 : decode cX4_holder 82 = .ok (.iload 6, 2) := by decide +kernel
theorem dX4_holder_84 : decode cX4_holder 84 = .ok (.ifCond .eq 7, 3) := by decide +kernel
theorem dX4_holder_87 : decode cX4_holder 87 = .ok (.iconst 1, 1) := by decide +kernel
theorem dX4_holder_88 : decode cX4_holder 88 = .ok (.goto 4, 3) := by decide +kernel
theorem dX4_holder_91 : decode cX4_holder 91 = .ok (.iconst 0, 1) := by decide +kernel
theorem dX4_holder_92 : decode cX4_holder 92 = .ok (.isub, 1) := by decide +kernel
theorem dX4_holder_93 : decode cX4_holder 93 = .ok (.istore 4, 2) := by decide +kernel
theorem dX4_holder_95 : decode cX4_holder 95 = .ok (.iinc 5 1, 3) := by decide +kernel
theorem dX4_holder_98 : decode cX4_holder 98 = .ok (.goto (-73), 3) := by decide +kernel
theorem dX4_holder_101 : decode cX4_holder 101 = .ok (.aload_n 0, 1) := by decide +kernel
theorem dX4_holder_102 : decode cX4_holder 102 = .ok (.aload_n 0, 1) := by decide +kernel
theorem dX4_holder_103 : decode cX4_holder 103 = .ok (.getfield 59, 3) := by decide +kernel
theorem dX4_holder_106 : decode cX4_holder 106 = .ok (.ifCond .ne 16, 3) := by decide +kernel
theorem dX4_holder_109 : decode cX4_holder 109 = .ok (.iload_n 2, 1) := by decide +kernel
theorem dX4_holder_110 : decode cX4_holder 110 = .ok (.ifCond .lt 8, 3) := by decide +kernel
theorem dX4_holder_113 : decode cX4_holder 113 = .ok (.iload_n 3, 1) := by decide +kernel
theorem dX4_holder_114 : decode cX4_holder 114 = .ok (.iconst (-1), 1) := by decide +kernel
theorem dX4_holder_115 : decode cX4_holder 115 = .ok (.if_icmp .ne 7, 3) := by decide +kernel
theorem dX4_holder_118 : decode cX4_holder 118 = .ok (.iconst 2, 1) := by decide +kernel
theorem dX4_holder_119 : decode cX4_holder 119 = .ok (.goto 7, 3) := by decide +kernel
theorem dX4_holder_122 : decode cX4_holder 122 = .ok (.aload_n 0, 1) := by decide +kernel
theorem dX4_holder_123 : decode cX4_holder 123 = .ok (.getfield 59, 3) := by decide +kernel
theorem dX4_holder_126 : decode cX4_holder 126 = .ok (.putfield 59, 3) := by decide +kernel
theorem dX4_holder_129 : decode cX4_holder 129 = .ok (.aload_n 0, 1) := by decide +kernel
theorem dX4_holder_130 : decode cX4_holder 130 = .ok (.getfield 59, 3) := by decide +kernel
theorem dX4_holder_133 : decode cX4_holder 133 = .ok (.ifCond .le 7, 3) := by decide +kernel
theorem dX4_holder_136 : decode cX4_holder 136 = .ok (.iconst 0, 1) := by decide +kernel
theorem dX4_holder_137 : decode cX4_holder 137 = .ok (.goto 4, 3) := by decide +kernel
theorem dX4_holder_140 : decode cX4_holder 140 = .ok (.iload_n 3, 1) := by decide +kernel
theorem dX4_holder_141 : decode cX4_holder 141 = .ok (.ireturn, 1) := by decide +kernel
theorem dX4_paid_0 : decode cX4_paid 0 = .ok (.aload_n 0, 1) := by decide +kernel
theorem dX4_paid_1 : decode cX4_paid 1 = .ok (.aload_n 0, 1) := by decide +kernel
theorem dX4_paid_2 : decode cX4_paid 2 = .ok (.iload_n 1, 1) := by decide +kernel
theorem dX4_paid_3 : decode cX4_paid 3 = .ok (.invokevirtual 90, 3) := by decide +kernel
theorem dX4_paid_6 : decode cX4_paid 6 = .ok (.ifCond .eq 11, 3) := by decide +kernel
theorem dX4_paid_9 : decode cX4_paid 9 = .ok (.aload_n 0, 1) := by decide +kernel
theorem dX4_paid_10 : decode cX4_paid 10 = .ok (.iload_n 2, 1) := by decide +kernel
theorem dX4_paid_11 : decode cX4_paid 11 = .ok (.invokevirtual 93, 3) := by decide +kernel
theorem dX4_paid_14 : decode cX4_paid 14 = .ok (.ifCond .ne 7, 3) := by decide +kernel
theorem dX4_paid_17 : decode cX4_paid 17 = .ok (.iconst 1, 1) := by decide +kernel
theorem dX4_paid_18 : decode cX4_paid 18 = .ok (.goto 4, 3) := by decide +kernel
theorem dX4_paid_21 : decode cX4_paid 21 = .ok (.iconst 0, 1) := by decide +kernel
theorem dX4_paid_22 : decode cX4_paid 22 = .ok (.putfield 59, 3) := by decide +kernel
theorem dX4_paid_25 : decode cX4_paid 25 = .ok (.aload_n 0, 1) := by decide +kernel
theorem dX4_paid_26 : decode cX4_paid 26 = .ok (.getfield 59, 3) := by decide +kernel
theorem dX4_paid_29 : decode cX4_paid 29 = .ok (.ifCond .ne 26, 3) := by decide +kernel
theorem dX4_paid_32 : decode cX4_paid 32 = .ok (.aload_n 0, 1) := by decide +kernel
theorem dX4_paid_33 : decode cX4_paid 33 = .ok (.aload_n 0, 1) := by decide +kernel
theorem dX4_paid_34 : decode cX4_paid 34 = .ok (.getfield 41, 3) := by decide +kernel
theorem dX4_paid_37 : decode cX4_paid 37 = .ok (.iload_n 1, 1) := by decide +kernel
theorem dX4_paid_38 : decode cX4_paid 38 = .ok (.iload_n 2, 1) := by decide +kernel
theorem dX4_paid_39 : decode cX4_paid 39 = .ok (.invokestatic 96, 3) := by decide +kernel
theorem dX4_paid_42 : decode cX4_paid 42 = .ok (.iaload, 1) := by decide +kernel
theorem dX4_paid_43 : decode cX4_paid 43 = .ok (.iconst (-1), 1) := by decide +kernel
theorem dX4_paid_44 : decode cX4_paid 44 = .ok (.if_icmp .ne 7, 3) := by decide +kernel
theorem dX4_paid_47 : decode cX4_paid 47 = .ok (.iconst 2, 1) := by decide +kernel
theorem dX4_paid_48 : decode cX4_paid 48 = .ok (.goto 4, 3) := by decide +kernel
theorem dX4_paid_51 : decode cX4_paid 51 = .ok (.iconst 0, 1) := by decide +kernel
theorem dX4_paid_52 : decode cX4_paid 52 = .ok (.putfield 59, 3) := by decide +kernel
theorem dX4_paid_55 : decode cX4_paid 55 = .ok (.aload_n 0, 1) := by decide +kernel
theorem dX4_paid_56 : decode cX4_paid 56 = .ok (.getfield 59, 3) := by decide +kernel
theorem dX4_paid_59 : decode cX4_paid 59 = .ok (.ifCond .le 7, 3) := by decide +kernel
theorem dX4_paid_62 : decode cX4_paid 62 = .ok (.iconst 0, 1) := by decide +kernel
theorem dX4_paid_63 : decode cX4_paid 63 = .ok (.goto 13, 3) := by decide +kernel
theorem dX4_paid_66 : decode cX4_paid 66 = .ok (.aload_n 0, 1) := by decide +kernel
theorem dX4_paid_67 : decode cX4_paid 67 = .ok (.getfield 41, 3) := by decide +kernel
theorem dX4_paid_70 : decode cX4_paid 70 = .ok (.iload_n 1, 1) := by decide +kernel
theorem dX4_paid_71 : decode cX4_paid 71 = .ok (.iload_n 2, 1) := by decide +kernel
theorem dX4_paid_72 : decode cX4_paid 72 = .ok (.invokestatic 96, 3) := by decide +kernel
theorem dX4_paid_75 : decode cX4_paid 75 = .ok (.iaload, 1) := by decide +kernel
theorem dX4_paid_76 : decode cX4_paid 76 = .ok (.ireturn, 1) := by decide +kernel
theorem dX4_waiting_0 : decode cX4_waiting 0 = .ok (.aload_n 0, 1) := by decide +kernel
theorem dX4_waiting_1 : decode cX4_waiting 1 = .ok (.aload_n 0, 1) := by decide +kernel
theorem dX4_waiting_2 : decode cX4_waiting 2 = .ok (.iload_n 1, 1) := by decide +kernel
theorem dX4_waiting_3 : decode cX4_waiting 3 = .ok (.invokevirtual 93, 3) := by decide +kernel
theorem dX4_waiting_6 : decode cX4_waiting 6 = .ok (.ifCond .eq 7, 3) := by decide +kernel
theorem dX4_waiting_9 : decode cX4_waiting 9 = .ok (.iconst 0, 1) := by decide +kernel
theorem dX4_waiting_10 : decode cX4_waiting 10 = .ok (.goto 4, 3) := by decide +kernel
theorem dX4_waiting_13 : decode cX4_waiting 13 = .ok (.iconst 1, 1) := by decide +kernel
theorem dX4_waiting_14 : decode cX4_waiting 14 = .ok (.putfield 59, 3) := by decide +kernel
theorem dX4_waiting_17 : decode cX4_waiting 17 = .ok (.aload_n 0, 1) := by decide +kernel
theorem dX4_waiting_18 : decode cX4_waiting 18 = .ok (.getfield 59, 3) := by decide +kernel
theorem dX4_waiting_21 : decode cX4_waiting 21 = .ok (.ifCond .le 7, 3) := by decide +kernel
theorem dX4_waiting_24 : decode cX4_waiting 24 = .ok (.iconst 0, 1) := by decide +kernel
theorem dX4_waiting_25 : decode cX4_waiting 25 = .ok (.goto 9, 3) := by decide +kernel
theorem dX4_waiting_28 : decode cX4_waiting 28 = .ok (.aload_n 0, 1) := by decide +kernel
theorem dX4_waiting_29 : decode cX4_waiting 29 = .ok (.getfield 26, 3) := by decide +kernel
theorem dX4_waiting_32 : decode cX4_waiting 32 = .ok (.iload_n 1, 1) := by decide +kernel
theorem dX4_waiting_33 : decode cX4_waiting 33 = .ok (.iaload, 1) := by decide +kernel
theorem dX4_waiting_34 : decode cX4_waiting 34 = .ok (.ireturn, 1) := by decide +kernel
theorem dX4_waiter_0 : decode cX4_waiter 0 = .ok (.aload_n 0, 1) := by decide +kernel
theorem dX4_waiter_1 : decode cX4_waiter 1 = .ok (.aload_n 0, 1) := by decide +kernel
theorem dX4_waiter_2 : decode cX4_waiter 2 = .ok (.iload_n 1, 1) := by decide +kernel
theorem dX4_waiter_3 : decode cX4_waiter 3 = .ok (.invokevirtual 93, 3) := by decide +kernel
theorem dX4_waiter_6 : decode cX4_waiter 6 = .ok (.ifCond .eq 7, 3) := by decide +kernel
theorem dX4_waiter_9 : decode cX4_waiter 9 = .ok (.iconst 0, 1) := by decide +kernel
theorem dX4_waiter_10 : decode cX4_waiter 10 = .ok (.goto 4, 3) := by decide +kernel
theorem dX4_waiter_13 : decode cX4_waiter 13 = .ok (.iconst 1, 1) := by decide +kernel
theorem dX4_waiter_14 : decode cX4_waiter 14 = .ok (.putfield 59, 3) := by decide +kernel
theorem dX4_waiter_17 : decode cX4_waiter 17 = .ok (.aload_n 0, 1) := by decide +kernel
theorem dX4_waiter_18 : decode cX4_waiter 18 = .ok (.getfield 59, 3) := by decide +kernel
theorem dX4_waiter_21 : decode cX4_waiter 21 = .ok (.ifCond .ne 28, 3) := by decide +kernel
theorem dX4_waiter_24 : decode cX4_waiter 24 = .ok (.aload_n 0, 1) := by decide +kernel
theorem dX4_waiter_25 : decode cX4_waiter 25 = .ok (.iload_n 2, 1) := by decide +kernel
theorem dX4_waiter_26 : decode cX4_waiter 26 = .ok (.iconst 0, 1) := by decide +kernel
theorem dX4_waiter_27 : decode cX4_waiter 27 = .ok (.aload_n 0, 1) := by decide +kernel
theorem dX4_waiter_28 : decode cX4_waiter 28 = .ok (.getfield 26, 3) := by decide +kernel
theorem dX4_waiter_31 : decode cX4_waiter 31 = .ok (.iload_n 1, 1) := by decide +kernel
theorem dX4_waiter_32 : decode cX4_waiter 32 = .ok (.iaload, 1) := by decide +kernel
theorem dX4_waiter_33 : decode cX4_waiter 33 = .ok (.iconst 1, 1) := by decide +kernel
theorem dX4_waiter_34 : decode cX4_waiter 34 = .ok (.isub, 1) := by decide +kernel
theorem dX4_waiter_35 : decode cX4_waiter 35 = .ok (.invokestatic 66, 3) := by decide +kernel
theorem dX4_waiter_38 : decode cX4_waiter 38 = .ok (.ifCond .eq 7, 3) := by decide +kernel
theorem dX4_waiter_41 : decode cX4_waiter 41 = .ok (.iconst 0, 1) := by decide +kernel
theorem dX4_waiter_42 : decode cX4_waiter 42 = .ok (.goto 4, 3) := by decide +kernel
theorem dX4_waiter_45 : decode cX4_waiter 45 = .ok (.iconst 2, 1) := by decide +kernel
theorem dX4_waiter_46 : decode cX4_waiter 46 = .ok (.putfield 59, 3) := by decide +kernel
theorem dX4_waiter_49 : decode cX4_waiter 49 = .ok (.aload_n 0, 1) := by decide +kernel
theorem dX4_waiter_50 : decode cX4_waiter 50 = .ok (.getfield 59, 3) := by decide +kernel
theorem dX4_waiter_53 : decode cX4_waiter 53 = .ok (.ifCond .le 7, 3) := by decide +kernel
theorem dX4_waiter_56 : decode cX4_waiter 56 = .ok (.iconst 0, 1) := by decide +kernel
theorem dX4_waiter_57 : decode cX4_waiter 57 = .ok (.goto 14, 3) := by decide +kernel
theorem dX4_waiter_60 : decode cX4_waiter 60 = .ok (.aload_n 0, 1) := by decide +kernel
theorem dX4_waiter_61 : decode cX4_waiter 61 = .ok (.getfield 29, 3) := by decide +kernel
theorem dX4_waiter_64 : decode cX4_waiter 64 = .ok (.bipush 10, 2) := by decide +kernel
theorem dX4_waiter_66 : decode cX4_waiter 66 = .ok (.iload_n 1, 1) := by decide +kernel
theorem dX4_waiter_67 : decode cX4_waiter 67 = .ok (.imul, 1) := by decide +kernel
theorem dX4_waiter_68 : decode cX4_waiter 68 = .ok (.iload_n 2, 1) := by decide +kernel
theorem dX4_waiter_69 : decode cX4_waiter 69 = .ok (.iadd, 1) := by decide +kernel
theorem dX4_waiter_70 : decode cX4_waiter 70 = .ok (.iaload, 1) := by decide +kernel
theorem dX4_waiter_71 : decode cX4_waiter 71 = .ok (.ireturn, 1) := by decide +kernel
theorem dX4_movesUp_0 : decode cX4_movesUp 0 = .ok (.aload_n 0, 1) := by decide +kernel
theorem dX4_movesUp_1 : decode cX4_movesUp 1 = .ok (.getfield 53, 3) := by decide +kernel
theorem dX4_movesUp_4 : decode cX4_movesUp 4 = .ok (.aload_n 0, 1) := by decide +kernel
theorem dX4_movesUp_5 : decode cX4_movesUp 5 = .ok (.getfield 16, 3) := by decide +kernel
theorem dX4_movesUp_8 : decode cX4_movesUp 8 = .ok (.iload_n 1, 1) := by decide +kernel
theorem dX4_movesUp_9 : decode cX4_movesUp 9 = .ok (.iaload, 1) := by decide +kernel
theorem dX4_movesUp_10 : decode cX4_movesUp 10 = .ok (.baload, 1) := by decide +kernel
theorem dX4_movesUp_11 : decode cX4_movesUp 11 = .ok (.ifCond .ne 11, 3) := by decide +kernel
theorem dX4_movesUp_14 : decode cX4_movesUp 14 = .ok (.aload_n 0, 1) := by decide +kernel
theorem dX4_movesUp_15 : decode cX4_movesUp 15 = .ok (.iload_n 1, 1) := by decide +kernel
theorem dX4_movesUp_16 : decode cX4_movesUp 16 = .ok (.invokevirtual 146, 3) := by decide +kernel
theorem dX4_movesUp_19 : decode cX4_movesUp 19 = .ok (.ifCond .ne 5, 3) := by decide +kernel
theorem dX4_movesUp_22 : decode cX4_movesUp 22 = .ok (.iconst (-1), 1) := by decide +kernel
theorem dX4_movesUp_23 : decode cX4_movesUp 23 = .ok (.ireturn, 1) := by decide +kernel
theorem dX4_movesUp_24 : decode cX4_movesUp 24 = .ok (.iconst 0, 1) := by decide +kernel
theorem dX4_movesUp_25 : decode cX4_movesUp 25 = .ok (.istore_n 2, 1) := by decide +kernel
theorem dX4_movesUp_26 : decode cX4_movesUp 26 = .ok (.iload_n 2, 1) := by decide +kernel
theorem dX4_movesUp_27 : decode cX4_movesUp 27 = .ok (.aload_n 0, 1) := by decide +kernel
theorem dX4_movesUp_28 : decode cX4_movesUp 28 = .ok (.getfield 26, 3) := by decide +kernel
theorem dX4_movesUp_31 : decode cX4_movesUp 31 = .ok (.iload_n 1, 1) := by decide +kernel
theorem dX4_movesUp_32 : decode cX4_movesUp 32 = .ok (.iaload, 1) := by decide +kernel
theorem dX4_movesUp_33 : decode cX4_movesUp 33 = .ok (.if_icmp .ge 39, 3) := by decide +kernel
theorem dX4_movesUp_36 : decode cX4_movesUp 36 = .ok (.aload_n 0, 1) := by decide +kernel
theorem dX4_movesUp_37 : decode cX4_movesUp 37 = .ok (.aload_n 0, 1) := by decide +kernel
theorem dX4_movesUp_38 : decode cX4_movesUp 38 = .ok (.getfield 29, 3) := by decide +kernel
theorem dX4_movesUp_41 : decode cX4_movesUp 41 = .ok (.bipush 10, 2) := by decide +kernel
theorem dX4_movesUp_43 : decode cX4_movesUp 43 = .ok (.iload_n 1, 1) := by decide +kernel
theorem dX4_movesUp_44 : decode cX4_movesUp 44 = .ok (.imul, 1) := by decide +kernel
theorem dX4_movesUp_45 : decode cX4_movesUp 45 = .ok (.iload_n 2, 1) := by decide +kernel
theorem dX4_movesUp_46 : decode cX4_movesUp 46 = .ok (.iadd, 1) := by decide +kernel
theorem dX4_movesUp_47 : decode cX4_movesUp 47 = .ok (.iaload, 1) := by decide +kernel
theorem dX4_movesUp_48 : decode cX4_movesUp 48 = .ok (.iload_n 1, 1) := by decide +kernel
theorem dX4_movesUp_49 : decode cX4_movesUp 49 = .ok (.aload_n 0, 1) := by decide +kernel
theorem dX4_movesUp_50 : decode cX4_movesUp 50 = .ok (.getfield 32, 3) := by decide +kernel
theorem dX4_movesUp_53 : decode cX4_movesUp 53 = .ok (.bipush 10, 2) := by decide +kernel
theorem dX4_movesUp_55 : decode cX4_movesUp 55 = .ok (.iload_n 1, 1) := by decide +kernel
theorem dX4_movesUp_56 : decode cX4_movesUp 56 = .ok (.imul, 1) := by decide +kernel
theorem dX4_movesUp_57 : decode cX4_movesUp 57 = .ok (.iload_n 2, 1) := by decide +kernel
theorem dX4_movesUp_58 : decode cX4_movesUp 58 = .ok (.iadd, 1) := by decide +kernel
theorem dX4_movesUp_59 : decode cX4_movesUp 59 = .ok (.iaload, 1) := by decide +kernel
theorem dX4_movesUp_60 : decode cX4_movesUp 60 = .ok (.invokevirtual 143, 3) := by decide +kernel
theorem dX4_movesUp_63 : decode cX4_movesUp 63 = .ok (.ifCond .ne 9, 3) := by decide +kernel
theorem dX4_movesUp_66 : decode cX4_movesUp 66 = .ok (.iinc 2 1, 3) := by decide +kernel
theorem dX4_movesUp_69 : decode cX4_movesUp 69 = .ok (.goto (-43), 3) := by decide +kernel
theorem dX4_movesUp_72 : decode cX4_movesUp 72 = .ok (.iload_n 2, 1) := by decide +kernel
theorem dX4_movesUp_73 : decode cX4_movesUp 73 = .ok (.aload_n 0, 1) := by decide +kernel
theorem dX4_movesUp_74 : decode cX4_movesUp 74 = .ok (.getfield 26, 3) := by decide +kernel
theorem dX4_movesUp_77 : decode cX4_movesUp 77 = .ok (.iload_n 1, 1) := by decide +kernel
theorem dX4_movesUp_78 : decode cX4_movesUp 78 = .ok (.iaload, 1) := by decide +kernel
theorem dX4_movesUp_79 : decode cX4_movesUp 79 = .ok (.if_icmp .ne 5, 3) := by decide +kernel
theorem dX4_movesUp_82 : decode cX4_movesUp 82 = .ok (.iconst (-1), 1) := by decide +kernel
theorem dX4_movesUp_83 : decode cX4_movesUp 83 = .ok (.ireturn, 1) := by decide +kernel
theorem dX4_movesUp_84 : decode cX4_movesUp 84 = .ok (.aload_n 0, 1) := by decide +kernel
theorem dX4_movesUp_85 : decode cX4_movesUp 85 = .ok (.getfield 29, 3) := by decide +kernel
theorem dX4_movesUp_88 : decode cX4_movesUp 88 = .ok (.bipush 10, 2) := by decide +kernel
theorem dX4_movesUp_90 : decode cX4_movesUp 90 = .ok (.iload_n 1, 1) := by decide +kernel
theorem dX4_movesUp_91 : decode cX4_movesUp 91 = .ok (.imul, 1) := by decide +kernel
theorem dX4_movesUp_92 : decode cX4_movesUp 92 = .ok (.iload_n 2, 1) := by decide +kernel
theorem dX4_movesUp_93 : decode cX4_movesUp 93 = .ok (.iadd, 1) := by decide +kernel
theorem dX4_movesUp_94 : decode cX4_movesUp 94 = .ok (.iaload, 1) := by decide +kernel
theorem dX4_movesUp_95 : decode cX4_movesUp 95 = .ok (.istore_n 3, 1) := by decide +kernel
theorem dX4_movesUp_96 : decode cX4_movesUp 96 = .ok (.aload_n 0, 1) := by decide +kernel
theorem dX4_movesUp_97 : decode cX4_movesUp 97 = .ok (.iload_n 3, 1) := by decide +kernel
theorem dX4_movesUp_98 : decode cX4_movesUp 98 = .ok (.iload_n 1, 1) := by decide +kernel
theorem dX4_movesUp_99 : decode cX4_movesUp 99 = .ok (.aload_n 0, 1) := by decide +kernel
theorem dX4_movesUp_100 : decode cX4_movesUp 100 = .ok (.getfield 32, 3) := by decide +kernel
theorem dX4_movesUp_103 : decode cX4_movesUp 103 = .ok (.bipush 10, 2) := by decide +kernel
theorem dX4_movesUp_105 : decode cX4_movesUp 105 = .ok (.iload_n 1, 1) := by decide +kernel
theorem dX4_movesUp_106 : decode cX4_movesUp 106 = .ok (.imul, 1) := by decide +kernel
theorem dX4_movesUp_107 : decode cX4_movesUp 107 = .ok (.iload_n 2, 1) := by decide +kernel
theorem dX4_movesUp_108 : decode cX4_movesUp 108 = .ok (.iadd, 1) := by decide +kernel
theorem dX4_movesUp_109 : decode cX4_movesUp 109 = .ok (.iaload, 1) := by decide +kernel
theorem dX4_movesUp_110 : decode cX4_movesUp 110 = .ok (.invokevirtual 149, 3) := by decide +kernel
theorem dX4_movesUp_113 : decode cX4_movesUp 113 = .ok (.iload_n 3, 1) := by decide +kernel
theorem dX4_movesUp_114 : decode cX4_movesUp 114 = .ok (.ireturn, 1) := by decide +kernel
theorem dX4_bring_0 : decode cX4_bring 0 = .ok (.aload_n 0, 1) := by decide +kernel
theorem dX4_bring_1 : decode cX4_bring 1 = .ok (.getfield 50, 3) := by decide +kernel
theorem dX4_bring_4 : decode cX4_bring 4 = .ok (.iload_n 1, 1) := by decide +kernel
theorem dX4_bring_5 : decode cX4_bring 5 = .ok (.dup2, 1) := by decide +kernel
theorem dX4_bring_6 : decode cX4_bring 6 = .ok (.iaload, 1) := by decide +kernel
theorem dX4_bring_7 : decode cX4_bring 7 = .ok (.iload_n 2, 1) := by decide +kernel
theorem dX4_bring_8 : decode cX4_bring 8 = .ok (.iadd, 1) := by decide +kernel
theorem dX4_bring_9 : decode cX4_bring 9 = .ok (.iastore, 1) := by decide +kernel
theorem dX4_bring_10 : decode cX4_bring 10 = .ok (.aload_n 0, 1) := by decide +kernel
theorem dX4_bring_11 : decode cX4_bring 11 = .ok (.dup, 1) := by decide +kernel
theorem dX4_bring_12 : decode cX4_bring 12 = .ok (.getfield 159, 3) := by decide +kernel
theorem dX4_bring_15 : decode cX4_bring 15 = .ok (.iload_n 2, 1) := by decide +kernel
theorem dX4_bring_16 : decode cX4_bring 16 = .ok (.iadd, 1) := by decide +kernel
theorem dX4_bring_17 : decode cX4_bring 17 = .ok (.putfield 159, 3) := by decide +kernel
theorem dX4_bring_20 : decode cX4_bring 20 = .ok (.return_, 1) := by decide +kernel
theorem dX4_giveUp_0 : decode cX4_giveUp 0 = .ok (.aload_n 0, 1) := by decide +kernel
theorem dX4_giveUp_1 : decode cX4_giveUp 1 = .ok (.aload_n 0, 1) := by decide +kernel
theorem dX4_giveUp_2 : decode cX4_giveUp 2 = .ok (.iload_n 1, 1) := by decide +kernel
theorem dX4_giveUp_3 : decode cX4_giveUp 3 = .ok (.invokevirtual 90, 3) := by decide +kernel
theorem dX4_giveUp_6 : decode cX4_giveUp 6 = .ok (.ifCond .eq 11, 3) := by decide +kernel
theorem dX4_giveUp_9 : decode cX4_giveUp 9 = .ok (.aload_n 0, 1) := by decide +kernel
theorem dX4_giveUp_10 : decode cX4_giveUp 10 = .ok (.iload_n 2, 1) := by decide +kernel
theorem dX4_giveUp_11 : decode cX4_giveUp 11 = .ok (.invokevirtual 93, 3) := by decide +kernel
theorem dX4_giveUp_14 : decode cX4_giveUp 14 = .ok (.ifCond .ne 7, 3) := by decide +kernel
theorem dX4_giveUp_17 : decode cX4_giveUp 17 = .ok (.iconst 1, 1) := by decide +kernel
theorem dX4_giveUp_18 : decode cX4_giveUp 18 = .ok (.goto 4, 3) := by decide +kernel
theorem dX4_giveUp_21 : decode cX4_giveUp 21 = .ok (.iconst 0, 1) := by decide +kernel
theorem dX4_giveUp_22 : decode cX4_giveUp 22 = .ok (.putfield 59, 3) := by decide +kernel
theorem dX4_giveUp_25 : decode cX4_giveUp 25 = .ok (.aload_n 0, 1) := by decide +kernel
theorem dX4_giveUp_26 : decode cX4_giveUp 26 = .ok (.getfield 59, 3) := by decide +kernel
theorem dX4_giveUp_29 : decode cX4_giveUp 29 = .ok (.ifCond .ne 40, 3) := by decide +kernel
theorem dX4_giveUp_32 : decode cX4_giveUp 32 = .ok (.aload_n 0, 1) := by decide +kernel
theorem dX4_giveUp_33 : decode cX4_giveUp 33 = .ok (.aload_n 0, 1) := by decide +kernel
theorem dX4_giveUp_34 : decode cX4_giveUp 34 = .ok (.getfield 53, 3) := by decide +kernel
theorem dX4_giveUp_37 : decode cX4_giveUp 37 = .ok (.aload_n 0, 1) := by decide +kernel
theorem dX4_giveUp_38 : decode cX4_giveUp 38 = .ok (.getfield 16, 3) := by decide +kernel
theorem dX4_giveUp_41 : decode cX4_giveUp 41 = .ok (.iload_n 2, 1) := by decide +kernel
theorem dX4_giveUp_42 : decode cX4_giveUp 42 = .ok (.iaload, 1) := by decide +kernel
theorem dX4_giveUp_43 : decode cX4_giveUp 43 = .ok (.baload, 1) := by decide +kernel
theorem dX4_giveUp_44 : decode cX4_giveUp 44 = .ok (.ifCond .ne 17, 3) := by decide +kernel
theorem dX4_giveUp_47 : decode cX4_giveUp 47 = .ok (.aload_n 0, 1) := by decide +kernel
theorem dX4_giveUp_48 : decode cX4_giveUp 48 = .ok (.getfield 41, 3) := by decide +kernel
theorem dX4_giveUp_51 : decode cX4_giveUp 51 = .ok (.iload_n 1, 1) := by decide +kernel
theorem dX4_giveUp_52 : decode cX4_giveUp 52 = .ok (.iload_n 2, 1) := by decide +kernel
theorem dX4_giveUp_53 : decode cX4_giveUp 53 = .ok (.invokestatic 96, 3) := by decide +kernel
theorem dX4_giveUp_56 : decode cX4_giveUp 56 = .ok (.iaload, 1) := by decide +kernel
theorem dX4_giveUp_57 : decode cX4_giveUp 57 = .ok (.iconst (-1), 1) := by decide +kernel
theorem dX4_giveUp_58 : decode cX4_giveUp 58 = .ok (.if_icmp .ne 7, 3) := by decide +kernel
theorem dX4_giveUp_61 : decode cX4_giveUp 61 = .ok (.iconst 2, 1) := by decide +kernel
theorem dX4_giveUp_62 : decode cX4_giveUp 62 = .ok (.goto 4, 3) := by decide +kernel
theorem dX4_giveUp_65 : decode cX4_giveUp 65 = .ok (.iconst 0, 1) := by decide +kernel
theorem dX4_giveUp_66 : decode cX4_giveUp 66 = .ok (.putfield 59, 3) := by decide +kernel
theorem dX4_giveUp_69 : decode cX4_giveUp 69 = .ok (.aload_n 0, 1) := by decide +kernel
theorem dX4_giveUp_70 : decode cX4_giveUp 70 = .ok (.getfield 59, 3) := by decide +kernel
theorem dX4_giveUp_73 : decode cX4_giveUp 73 = .ok (.ifCond .le 5, 3) := by decide +kernel
theorem dX4_giveUp_76 : decode cX4_giveUp 76 = .ok (.iconst 0, 1) := by decide +kernel
theorem dX4_giveUp_77 : decode cX4_giveUp 77 = .ok (.ireturn, 1) := by decide +kernel
theorem dX4_giveUp_78 : decode cX4_giveUp 78 = .ok (.aload_n 0, 1) := by decide +kernel
theorem dX4_giveUp_79 : decode cX4_giveUp 79 = .ok (.iload_n 1, 1) := by decide +kernel
theorem dX4_giveUp_80 : decode cX4_giveUp 80 = .ok (.aload_n 0, 1) := by decide +kernel
theorem dX4_giveUp_81 : decode cX4_giveUp 81 = .ok (.getfield 41, 3) := by decide +kernel
theorem dX4_giveUp_84 : decode cX4_giveUp 84 = .ok (.iload_n 1, 1) := by decide +kernel
theorem dX4_giveUp_85 : decode cX4_giveUp 85 = .ok (.iload_n 2, 1) := by decide +kernel
theorem dX4_giveUp_86 : decode cX4_giveUp 86 = .ok (.invokestatic 96, 3) := by decide +kernel
theorem dX4_giveUp_89 : decode cX4_giveUp 89 = .ok (.iaload, 1) := by decide +kernel
theorem dX4_giveUp_90 : decode cX4_giveUp 90 = .ok (.iconst 2, 1) := by decide +kernel
theorem dX4_giveUp_91 : decode cX4_giveUp 91 = .ok (.idiv, 1) := by decide +kernel
theorem dX4_giveUp_92 : decode cX4_giveUp 92 = .ok (.invokevirtual 162, 3) := by decide +kernel
theorem dX4_giveUp_95 : decode cX4_giveUp 95 = .ok (.aload_n 0, 1) := by decide +kernel
theorem dX4_giveUp_96 : decode cX4_giveUp 96 = .ok (.getfield 41, 3) := by decide +kernel
theorem dX4_giveUp_99 : decode cX4_giveUp 99 = .ok (.iload_n 1, 1) := by decide +kernel
theorem dX4_giveUp_100 : decode cX4_giveUp 100 = .ok (.iload_n 2, 1) := by decide +kernel
theorem dX4_giveUp_101 : decode cX4_giveUp 101 = .ok (.invokestatic 96, 3) := by decide +kernel
theorem dX4_giveUp_104 : decode cX4_giveUp 104 = .ok (.iconst (-1), 1) := by decide +kernel
theorem dX4_giveUp_105 : decode cX4_giveUp 105 = .ok (.iastore, 1) := by decide +kernel
theorem dX4_giveUp_106 : decode cX4_giveUp 106 = .ok (.aload_n 0, 1) := by decide +kernel
theorem dX4_giveUp_107 : decode cX4_giveUp 107 = .ok (.iload_n 2, 1) := by decide +kernel
theorem dX4_giveUp_108 : decode cX4_giveUp 108 = .ok (.invokevirtual 165, 3) := by decide +kernel
theorem dX4_giveUp_111 : decode cX4_giveUp 111 = .ok (.ireturn, 1) := by decide +kernel
theorem dX4_move_0 : decode cX4_move 0 = .ok (.aload_n 0, 1) := by decide +kernel
theorem dX4_move_1 : decode cX4_move 1 = .ok (.aload_n 0, 1) := by decide +kernel
theorem dX4_move_2 : decode cX4_move 2 = .ok (.iload_n 1, 1) := by decide +kernel
theorem dX4_move_3 : decode cX4_move 3 = .ok (.invokevirtual 93, 3) := by decide +kernel
theorem dX4_move_6 : decode cX4_move 6 = .ok (.ifCond .ne 7, 3) := by decide +kernel
theorem dX4_move_9 : decode cX4_move 9 = .ok (.iconst 1, 1) := by decide +kernel
theorem dX4_move_10 : decode cX4_move 10 = .ok (.goto 15, 3) := by decide +kernel
theorem dX4_move_13 : decode cX4_move 13 = .ok (.iload_n 2, 1) := by decide +kernel
theorem dX4_move_14 : decode cX4_move 14 = .ok (.invokestatic 83, 3) := by decide +kernel
theorem dX4_move_17 : decode cX4_move 17 = .ok (.ifCond .ne 7, 3) := by decide +kernel
theorem dX4_move_20 : decode cX4_move 20 = .ok (.iconst 2, 1) := by decide +kernel
theorem dX4_move_21 : decode cX4_move 21 = .ok (.goto 4, 3) := by decide +kernel
theorem dX4_move_24 : decode cX4_move 24 = .ok (.iconst 0, 1) := by decide +kernel
theorem dX4_move_25 : decode cX4_move 25 = .ok (.putfield 59, 3) := by decide +kernel
theorem dX4_move_28 : decode cX4_move 28 = .ok (.aload_n 0, 1) := by decide +kernel
theorem dX4_move_29 : decode cX4_move 29 = .ok (.getfield 59, 3) := by decide +kernel
theorem dX4_move_32 : decode cX4_move 32 = .ok (.ifCond .ne 59, 3) := by decide +kernel
theorem dX4_move_35 : decode cX4_move 35 = .ok (.aload_n 0, 1) := by decide +kernel
theorem dX4_move_36 : decode cX4_move 36 = .ok (.aload_n 0, 1) := by decide +kernel
theorem dX4_move_37 : decode cX4_move 37 = .ok (.getfield 53, 3) := by decide +kernel
theorem dX4_move_40 : decode cX4_move 40 = .ok (.aload_n 0, 1) := by decide +kernel
theorem dX4_move_41 : decode cX4_move 41 = .ok (.getfield 16, 3) := by decide +kernel
theorem dX4_move_44 : decode cX4_move 44 = .ok (.iload_n 1, 1) := by decide +kernel
theorem dX4_move_45 : decode cX4_move 45 = .ok (.iaload, 1) := by decide +kernel
theorem dX4_move_46 : decode cX4_move 46 = .ok (.baload, 1) := by decide +kernel
theorem dX4_move_47 : decode cX4_move 47 = .ok (.ifCond .ne 36, 3) := by decide +kernel
theorem dX4_move_50 : decode cX4_move 50 = .ok (.aload_n 0, 1) := by decide +kernel
theorem dX4_move_51 : decode cX4_move 51 = .ok (.getfield 16, 3) := by decide +kernel
theorem dX4_move_54 : decode cX4_move 54 = .ok (.iload_n 1, 1) := by decide +kernel
theorem dX4_move_55 : decode cX4_move 55 = .ok (.iaload, 1) := by decide +kernel
theorem dX4_move_56 : decode cX4_move 56 = .ok (.iload_n 2, 1) := by decide +kernel
theorem dX4_move_57 : decode cX4_move 57 = .ok (.if_icmp .eq 26, 3) := by decide +kernel
theorem dX4_move_60 : decode cX4_move 60 = .ok (.aload_n 0, 1) := by decide +kernel
theorem dX4_move_61 : decode cX4_move 61 = .ok (.getfield 53, 3) := by decide +kernel
theorem dX4_move_64 : decode cX4_move 64 = .ok (.iload_n 2, 1) := by decide +kernel
theorem dX4_move_65 : decode cX4_move 65 = .ok (.baload, 1) := by decide +kernel
theorem dX4_move_66 : decode cX4_move 66 = .ok (.ifCond .ne 17, 3) := by decide +kernel
theorem dX4_move_69 : decode cX4_move 69 = .ok (.aload_n 0, 1) := by decide +kernel
theorem dX4_move_70 : decode cX4_move 70 = .ok (.aload_n 0, 1) := by decide +kernel
theorem dX4_move_71 : decode cX4_move 71 = .ok (.getfield 19, 3) := by decide +kernel
theorem dX4_move_74 : decode cX4_move 74 = .ok (.iload_n 1, 1) := by decide +kernel
theorem dX4_move_75 : decode cX4_move 75 = .ok (.iaload, 1) := by decide +kernel
theorem dX4_move_76 : decode cX4_move 76 = .ok (.iload_n 2, 1) := by decide +kernel
theorem dX4_move_77 : decode cX4_move 77 = .ok (.invokevirtual 86, 3) := by decide +kernel
theorem dX4_move_80 : decode cX4_move 80 = .ok (.ifCond .eq 7, 3) := by decide +kernel
theorem dX4_move_83 : decode cX4_move 83 = .ok (.iconst 3, 1) := by decide +kernel
theorem dX4_move_84 : decode cX4_move 84 = .ok (.goto 4, 3) := by decide +kernel
theorem dX4_move_87 : decode cX4_move 87 = .ok (.iconst 0, 1) := by decide +kernel
theorem dX4_move_88 : decode cX4_move 88 = .ok (.putfield 59, 3) := by decide +kernel
theorem dX4_move_91 : decode cX4_move 91 = .ok (.aload_n 0, 1) := by decide +kernel
theorem dX4_move_92 : decode cX4_move 92 = .ok (.getfield 59, 3) := by decide +kernel
theorem dX4_move_95 : decode cX4_move 95 = .ok (.ifCond .le 5, 3) := by decide +kernel
theorem dX4_move_98 : decode cX4_move 98 = .ok (.iconst 0, 1) := by decide +kernel
theorem dX4_move_99 : decode cX4_move 99 = .ok (.ireturn, 1) := by decide +kernel
theorem dX4_move_100 : decode cX4_move 100 = .ok (.iconst 0, 1) := by decide +kernel
theorem dX4_move_101 : decode cX4_move 101 = .ok (.istore_n 3, 1) := by decide +kernel
theorem dX4_move_102 : decode cX4_move 102 = .ok (.iconst 0, 1) := by decide +kernel
theorem dX4_move_103 : decode cX4_move 103 = .ok (.istore 4, 2) := by decide +kernel
theorem dX4_move_105 : decode cX4_move 105 = .ok (.iload 4, 2) := by decide +kernel
theorem dX4_move_107 : decode cX4_move 107 = .ok (.aload_n 0, 1) := by decide +kernel
theorem dX4_move_108 : decode cX4_move 108 = .ok (.getfield 63, 3) := by decide +kernel
theorem dX4_move_111 : decode cX4_move 111 = .ok (.if_icmp .ge 99, 3) := by decide +kernel
theorem dX4_move_114 : decode cX4_move 114 = .ok (.aload_n 0, 1) := by decide +kernel
theorem dX4_move_115 : decode cX4_move 115 = .ok (.getfield 41, 3) := by decide +kernel
theorem dX4_move_118 : decode cX4_move 118 = .ok (.iload 4, 2) := by decide +kernel
theorem dX4_move_120 : decode cX4_move 120 = .ok (.iload_n 1, 1) := by decide +kernel
theorem dX4_move_121 : decode cX4_move 121 = .ok (.invokestatic 96, 3) := by decide +kernel
theorem dX4_move_124 : decode cX4_move 124 = .ok (.iaload, 1) := by decide +kernel
theorem dX4_move_125 : decode cX4_move 125 = .ok (.istore 5, 2) := by decide +kernel
theorem dX4_move_127 : decode cX4_move 127 = .ok (.iload 5, 2) := by decide +kernel
theorem dX4_move_129 : decode cX4_move 129 = .ok (.iconst (-1), 1) := by decide +kernel
theorem dX4_move_130 : decode cX4_move 130 = .ok (.if_icmp .eq 40, 3) := by decide +kernel
theorem dX4_move_133 : decode cX4_move 133 = .ok (.aload_n 0, 1) := by decide +kernel
theorem dX4_move_134 : decode cX4_move 134 = .ok (.iload 4, 2) := by decide +kernel
theorem dX4_move_136 : decode cX4_move 136 = .ok (.iload_n 2, 1) := by decide +kernel
theorem dX4_move_137 : decode cX4_move 137 = .ok (.invokevirtual 153, 3) := by decide +kernel
theorem dX4_move_140 : decode cX4_move 140 = .ok (.iconst (-1), 1) := by decide +kernel
theorem dX4_move_141 : decode cX4_move 141 = .ok (.if_icmp .eq 29, 3) := by decide +kernel
theorem dX4_move_144 : decode cX4_move 144 = .ok (.aload_n 0, 1) := by decide +kernel
theorem dX4_move_145 : decode cX4_move 145 = .ok (.iload 4, 2) := by decide +kernel
theorem dX4_move_147 : decode cX4_move 147 = .ok (.iload 5, 2) := by decide +kernel
theorem dX4_move_149 : decode cX4_move 149 = .ok (.invokevirtual 162, 3) := by decide +kernel
theorem dX4_move_152 : decode cX4_move 152 = .ok (.aload_n 0, 1) := by decide +kernel
theorem dX4_move_153 : decode cX4_move 153 = .ok (.getfield 41, 3) := by decide +kernel
theorem dX4_move_156 : decode cX4_move 156 = .ok (.iload 4, 2) := by decide +kernel
theorem dX4_move_158 : decode cX4_move 158 = .ok (.iload_n 1, 1) := by decide +kernel
theorem dX4_move_159 : decode cX4_move 159 = .ok (.invokestatic 96, 3) := by decide +kernel
theorem dX4_move_162 : decode cX4_move 162 = .ok (.iconst (-1), 1) := by decide +kernel
theorem dX4_move_163 : decode cX4_move 163 = .ok (.iastore, 1) := by decide +kernel
theorem dX4_move_164 : decode cX4_move 164 = .ok (.iinc 3 1, 3) := by decide +kernel
theorem dX4_move_167 : decode cX4_move 167 = .ok (.goto 37, 3) := by decide +kernel
theorem dX4_move_170 : decode cX4_move 170 = .ok (.iload 5, 2) := by decide +kernel
theorem dX4_move_172 : decode cX4_move 172 = .ok (.iconst (-1), 1) := by decide +kernel
theorem dX4_move_173 : decode cX4_move 173 = .ok (.if_icmp .eq 31, 3) := by decide +kernel
theorem dX4_move_176 : decode cX4_move 176 = .ok (.aload_n 0, 1) := by decide +kernel
theorem dX4_move_177 : decode cX4_move 177 = .ok (.iload 4, 2) := by decide +kernel
theorem dX4_move_179 : decode cX4_move 179 = .ok (.iload 5, 2) := by decide +kernel
theorem dX4_move_181 : decode cX4_move 181 = .ok (.iconst 2, 1) := by decide +kernel
theorem dX4_move_182 : decode cX4_move 182 = .ok (.idiv, 1) := by decide +kernel
theorem dX4_move_183 : decode cX4_move 183 = .ok (.invokevirtual 162, 3) := by decide +kernel
theorem dX4_move_186 : decode cX4_move 186 = .ok (.aload_n 0, 1) := by decide +kernel
theorem dX4_move_187 : decode cX4_move 187 = .ok (.getfield 41, 3) := by decide +kernel
theorem dX4_move_190 : decode cX4_move 190 = .ok (.iload 4, 2) := by decide +kernel
theorem dX4_move_192 : decode cX4_move 192 = .ok (.iload_n 1, 1) := by decide +kernel
theorem dX4_move_193 : decode cX4_move 193 = .ok (.invokestatic 96, 3) := by decide +kernel
theorem dX4_move_196 : decode cX4_move 196 = .ok (.iload 5, 2) := by decide +kernel
theorem dX4_move_198 : decode cX4_move 198 = .ok (.iload 5, 2) := by decide +kernel
theorem dX4_move_200 : decode cX4_move 200 = .ok (.iconst 2, 1) := by decide +kernel
theorem dX4_move_201 : decode cX4_move 201 = .ok (.idiv, 1) := by decide +kernel
theorem dX4_move_202 : decode cX4_move 202 = .ok (.isub, 1) := by decide +kernel
theorem dX4_move_203 : decode cX4_move 203 = .ok (.iastore, 1) := by decide +kernel
theorem dX4_move_204 : decode cX4_move 204 = .ok (.iinc 4 1, 3) := by decide +kernel
theorem dX4_move_207 : decode cX4_move 207 = .ok (.goto (-102), 3) := by decide +kernel
theorem dX4_move_210 : decode cX4_move 210 = .ok (.aload_n 0, 1) := by decide +kernel
theorem dX4_move_211 : decode cX4_move 211 = .ok (.getfield 16, 3) := by decide +kernel
theorem dX4_move_214 : decode cX4_move 214 = .ok (.iload_n 1, 1) := by decide +kernel
theorem dX4_move_215 : decode cX4_move 215 = .ok (.iload_n 2, 1) := by decide +kernel
theorem dX4_move_216 : decode cX4_move 216 = .ok (.iastore, 1) := by decide +kernel
theorem dX4_move_217 : decode cX4_move 217 = .ok (.aload_n 0, 1) := by decide +kernel
theorem dX4_move_218 : decode cX4_move 218 = .ok (.iload_n 1, 1) := by decide +kernel
theorem dX4_move_219 : decode cX4_move 219 = .ok (.invokevirtual 165, 3) := by decide +kernel
theorem dX4_move_222 : decode cX4_move 222 = .ok (.istore 4, 2) := by decide +kernel
theorem dX4_move_224 : decode cX4_move 224 = .ok (.iload 4, 2) := by decide +kernel
theorem dX4_move_226 : decode cX4_move 226 = .ok (.iconst (-1), 1) := by decide +kernel
theorem dX4_move_227 : decode cX4_move 227 = .ok (.if_icmp .eq 13, 3) := by decide +kernel
theorem dX4_move_230 : decode cX4_move 230 = .ok (.aload_n 0, 1) := by decide +kernel
theorem dX4_move_231 : decode cX4_move 231 = .ok (.iload_n 1, 1) := by decide +kernel
theorem dX4_move_232 : decode cX4_move 232 = .ok (.invokevirtual 165, 3) := by decide +kernel
theorem dX4_move_235 : decode cX4_move 235 = .ok (.istore 4, 2) := by decide +kernel
theorem dX4_move_237 : decode cX4_move 237 = .ok (.goto (-13), 3) := by decide +kernel
theorem dX4_move_240 : decode cX4_move 240 = .ok (.iload_n 3, 1) := by decide +kernel
theorem dX4_move_241 : decode cX4_move 241 = .ok (.ireturn, 1) := by decide +kernel
theorem dX4_slotOf_0 : decode cX4_slotOf 0 = .ok (.aload_n 0, 1) := by decide +kernel
theorem dX4_slotOf_1 : decode cX4_slotOf 1 = .ok (.aload_n 0, 1) := by decide +kernel
theorem dX4_slotOf_2 : decode cX4_slotOf 2 = .ok (.iload_n 1, 1) := by decide +kernel
theorem dX4_slotOf_3 : decode cX4_slotOf 3 = .ok (.invokevirtual 93, 3) := by decide +kernel
theorem dX4_slotOf_6 : decode cX4_slotOf 6 = .ok (.ifCond .eq 7, 3) := by decide +kernel
theorem dX4_slotOf_9 : decode cX4_slotOf 9 = .ok (.iconst 0, 1) := by decide +kernel
theorem dX4_slotOf_10 : decode cX4_slotOf 10 = .ok (.goto 4, 3) := by decide +kernel
theorem dX4_slotOf_13 : decode cX4_slotOf 13 = .ok (.iconst 1, 1) := by decide +kernel
theorem dX4_slotOf_14 : decode cX4_slotOf 14 = .ok (.putfield 59, 3) := by decide +kernel
theorem dX4_slotOf_17 : decode cX4_slotOf 17 = .ok (.aload_n 0, 1) := by decide +kernel
theorem dX4_slotOf_18 : decode cX4_slotOf 18 = .ok (.getfield 59, 3) := by decide +kernel
theorem dX4_slotOf_21 : decode cX4_slotOf 21 = .ok (.ifCond .le 7, 3) := by decide +kernel
theorem dX4_slotOf_24 : decode cX4_slotOf 24 = .ok (.iconst 0, 1) := by decide +kernel
theorem dX4_slotOf_25 : decode cX4_slotOf 25 = .ok (.goto 9, 3) := by decide +kernel
theorem dX4_slotOf_28 : decode cX4_slotOf 28 = .ok (.aload_n 0, 1) := by decide +kernel
theorem dX4_slotOf_29 : decode cX4_slotOf 29 = .ok (.getfield 16, 3) := by decide +kernel
theorem dX4_slotOf_32 : decode cX4_slotOf 32 = .ok (.iload_n 1, 1) := by decide +kernel
theorem dX4_slotOf_33 : decode cX4_slotOf 33 = .ok (.iaload, 1) := by decide +kernel
theorem dX4_slotOf_34 : decode cX4_slotOf 34 = .ok (.ireturn, 1) := by decide +kernel
theorem dX4_refunds_0 : decode cX4_refunds 0 = .ok (.aload_n 0, 1) := by decide +kernel
theorem dX4_refunds_1 : decode cX4_refunds 1 = .ok (.iconst 0, 1) := by decide +kernel
theorem dX4_refunds_2 : decode cX4_refunds 2 = .ok (.putfield 59, 3) := by decide +kernel
theorem dX4_refunds_5 : decode cX4_refunds 5 = .ok (.aload_n 0, 1) := by decide +kernel
theorem dX4_refunds_6 : decode cX4_refunds 6 = .ok (.getfield 159, 3) := by decide +kernel
theorem dX4_refunds_9 : decode cX4_refunds 9 = .ok (.ireturn, 1) := by decide +kernel
theorem dX4_noRecord_0 : decode cX4_noRecord 0 = .ok (.iload_n 1, 1) := by decide +kernel
theorem dX4_noRecord_1 : decode cX4_noRecord 1 = .ok (.invokestatic 168, 3) := by decide +kernel
theorem dX4_noRecord_4 : decode cX4_noRecord 4 = .ok (.ifCond .eq 19, 3) := by decide +kernel
theorem dX4_noRecord_7 : decode cX4_noRecord 7 = .ok (.aload_n 0, 1) := by decide +kernel
theorem dX4_noRecord_8 : decode cX4_noRecord 8 = .ok (.iload_n 2, 1) := by decide +kernel
theorem dX4_noRecord_9 : decode cX4_noRecord 9 = .ok (.invokevirtual 90, 3) := by decide +kernel
theorem dX4_noRecord_12 : decode cX4_noRecord 12 = .ok (.ifCond .eq 11, 3) := by decide +kernel
theorem dX4_noRecord_15 : decode cX4_noRecord 15 = .ok (.aload_n 0, 1) := by decide +kernel
theorem dX4_noRecord_16 : decode cX4_noRecord 16 = .ok (.iload_n 3, 1) := by decide +kernel
theorem dX4_noRecord_17 : decode cX4_noRecord 17 = .ok (.invokevirtual 79, 3) := by decide +kernel
theorem dX4_noRecord_20 : decode cX4_noRecord 20 = .ok (.ifCond .ne 7, 3) := by decide +kernel
theorem dX4_noRecord_23 : decode cX4_noRecord 23 = .ok (.iconst 1, 1) := by decide +kernel
theorem dX4_noRecord_24 : decode cX4_noRecord 24 = .ok (.goto 4, 3) := by decide +kernel
theorem dX4_noRecord_27 : decode cX4_noRecord 27 = .ok (.iconst 0, 1) := by decide +kernel
theorem dX4_noRecord_28 : decode cX4_noRecord 28 = .ok (.ireturn, 1) := by decide +kernel
theorem dX4_write_0 : decode cX4_write 0 = .ok (.iload 4, 2) := by decide +kernel
theorem dX4_write_2 : decode cX4_write 2 = .ok (.invokestatic 171, 3) := by decide +kernel
theorem dX4_write_5 : decode cX4_write 5 = .ok (.istore 6, 2) := by decide +kernel
theorem dX4_write_7 : decode cX4_write 7 = .ok (.iload 6, 2) := by decide +kernel
theorem dX4_write_9 : decode cX4_write 9 = .ok (.ifCond .ne 13, 3) := by decide +kernel
theorem dX4_write_12 : decode cX4_write 12 = .ok (.iload 5, 2) := by decide +kernel
theorem dX4_write_14 : decode cX4_write 14 = .ok (.iconst 0, 1) := by decide +kernel
theorem dX4_write_15 : decode cX4_write 15 = .ok (.iconst 1, 1) := by decide +kernel
theorem dX4_write_16 : decode cX4_write 16 = .ok (.invokestatic 66, 3) := by decide +kernel
theorem dX4_write_19 : decode cX4_write 19 = .ok (.ifCond .ne 37, 3) := by decide +kernel
theorem dX4_write_22 : decode cX4_write 22 = .ok (.iload 6, 2) := by decide +kernel
theorem dX4_write_24 : decode cX4_write 24 = .ok (.iconst 1, 1) := by decide +kernel
theorem dX4_write_25 : decode cX4_write 25 = .ok (.if_icmp .ne 14, 3) := by decide +kernel
theorem dX4_write_28 : decode cX4_write 28 = .ok (.iload 5, 2) := by decide +kernel
theorem dX4_write_30 : decode cX4_write 30 = .ok (.iconst (-1), 1) := by decide +kernel
theorem dX4_write_31 : decode cX4_write 31 = .ok (.bipush 100, 2) := by decide +kernel
theorem dX4_write_33 : decode cX4_write 33 = .ok (.invokestatic 66, 3) := by decide +kernel
theorem dX4_write_36 : decode cX4_write 36 = .ok (.ifCond .ne 20, 3) := by decide +kernel
theorem dX4_write_39 : decode cX4_write 39 = .ok (.iload 6, 2) := by decide +kernel
theorem dX4_write_41 : decode cX4_write 41 = .ok (.iconst 2, 1) := by decide +kernel
theorem dX4_write_42 : decode cX4_write 42 = .ok (.if_icmp .ne 18, 3) := by decide +kernel
theorem dX4_write_45 : decode cX4_write 45 = .ok (.iload 5, 2) := by decide +kernel
theorem dX4_write_47 : decode cX4_write 47 = .ok (.iconst 0, 1) := by decide +kernel
theorem dX4_write_48 : decode cX4_write 48 = .ok (.bipush 60, 2) := by decide +kernel
theorem dX4_write_50 : decode cX4_write 50 = .ok (.invokestatic 66, 3) := by decide +kernel
theorem dX4_write_53 : decode cX4_write 53 = .ok (.ifCond .eq 7, 3) := by decide +kernel
theorem dX4_write_56 : decode cX4_write 56 = .ok (.iconst 1, 1) := by decide +kernel
theorem dX4_write_57 : decode cX4_write 57 = .ok (.goto 4, 3) := by decide +kernel
theorem dX4_write_60 : decode cX4_write 60 = .ok (.iconst 0, 1) := by decide +kernel
theorem dX4_write_61 : decode cX4_write 61 = .ok (.istore 7, 2) := by decide +kernel
theorem dX4_write_63 : decode cX4_write 63 = .ok (.aload_n 0, 1) := by decide +kernel
theorem dX4_write_64 : decode cX4_write 64 = .ok (.aload_n 0, 1) := by decide +kernel
theorem dX4_write_65 : decode cX4_write 65 = .ok (.iload_n 1, 1) := by decide +kernel
theorem dX4_write_66 : decode cX4_write 66 = .ok (.iload_n 2, 1) := by decide +kernel
theorem dX4_write_67 : decode cX4_write 67 = .ok (.iload_n 3, 1) := by decide +kernel
theorem dX4_write_68 : decode cX4_write 68 = .ok (.invokevirtual 175, 3) := by decide +kernel
theorem dX4_write_71 : decode cX4_write 71 = .ok (.ifCond .eq 7, 3) := by decide +kernel
theorem dX4_write_74 : decode cX4_write 74 = .ok (.iconst 1, 1) := by decide +kernel
theorem dX4_write_75 : decode cX4_write 75 = .ok (.goto 13, 3) := by decide +kernel
theorem dX4_write_78 : decode cX4_write 78 = .ok (.iload 7, 2) := by decide +kernel
theorem dX4_write_80 : decode cX4_write 80 = .ok (.ifCond .ne 7, 3) := by decide +kernel
theorem dX4_write_83 : decode cX4_write 83 = .ok (.iconst 2, 1) := by decide +kernel
theorem dX4_write_84 : decode cX4_write 84 = .ok (.goto 4, 3) := by decide +kernel
theorem dX4_write_87 : decode cX4_write 87 = .ok (.iconst 0, 1) := by decide +kernel
theorem dX4_write_88 : decode cX4_write 88 = .ok (.putfield 59, 3) := by decide +kernel
theorem dX4_write_91 : decode cX4_write 91 = .ok (.aload_n 0, 1) := by decide +kernel
theorem dX4_write_92 : decode cX4_write 92 = .ok (.getfield 59, 3) := by decide +kernel
theorem dX4_write_95 : decode cX4_write 95 = .ok (.ifCond .le 5, 3) := by decide +kernel
theorem dX4_write_98 : decode cX4_write 98 = .ok (.iconst 0, 1) := by decide +kernel
theorem dX4_write_99 : decode cX4_write 99 = .ok (.ireturn, 1) := by decide +kernel
theorem dX4_write_100 : decode cX4_write 100 = .ok (.aload_n 0, 1) := by decide +kernel
theorem dX4_write_101 : decode cX4_write 101 = .ok (.getfield 44, 3) := by decide +kernel
theorem dX4_write_104 : decode cX4_write 104 = .ok (.iload_n 1, 1) := by decide +kernel
theorem dX4_write_105 : decode cX4_write 105 = .ok (.iload_n 2, 1) := by decide +kernel
theorem dX4_write_106 : decode cX4_write 106 = .ok (.iload_n 3, 1) := by decide +kernel
theorem dX4_write_107 : decode cX4_write 107 = .ok (.iload 6, 2) := by decide +kernel
theorem dX4_write_109 : decode cX4_write 109 = .ok (.invokestatic 103, 3) := by decide +kernel
theorem dX4_write_112 : decode cX4_write 112 = .ok (.iaload, 1) := by decide +kernel
theorem dX4_write_113 : decode cX4_write 113 = .ok (.istore 8, 2) := by decide +kernel
theorem dX4_write_115 : decode cX4_write 115 = .ok (.aload_n 0, 1) := by decide +kernel
theorem dX4_write_116 : decode cX4_write 116 = .ok (.getfield 44, 3) := by decide +kernel
theorem dX4_write_119 : decode cX4_write 119 = .ok (.iload_n 1, 1) := by decide +kernel
theorem dX4_write_120 : decode cX4_write 120 = .ok (.iload_n 2, 1) := by decide +kernel
theorem dX4_write_121 : decode cX4_write 121 = .ok (.iload_n 3, 1) := by decide +kernel
theorem dX4_write_122 : decode cX4_write 122 = .ok (.iload 6, 2) := by decide +kernel
theorem dX4_write_124 : decode cX4_write 124 = .ok (.invokestatic 103, 3) := by decide +kernel
theorem dX4_write_127 : decode cX4_write 127 = .ok (.iload 5, 2) := by decide +kernel
theorem dX4_write_129 : decode cX4_write 129 = .ok (.iastore, 1) := by decide +kernel
theorem dX4_write_130 : decode cX4_write 130 = .ok (.iload 8, 2) := by decide +kernel
theorem dX4_write_132 : decode cX4_write 132 = .ok (.ireturn, 1) := by decide +kernel
theorem dX4_read_0 : decode cX4_read 0 = .ok (.aload_n 0, 1) := by decide +kernel
theorem dX4_read_1 : decode cX4_read 1 = .ok (.aload_n 0, 1) := by decide +kernel
theorem dX4_read_2 : decode cX4_read 2 = .ok (.iload_n 1, 1) := by decide +kernel
theorem dX4_read_3 : decode cX4_read 3 = .ok (.iload_n 2, 1) := by decide +kernel
theorem dX4_read_4 : decode cX4_read 4 = .ok (.iload_n 3, 1) := by decide +kernel
theorem dX4_read_5 : decode cX4_read 5 = .ok (.invokevirtual 175, 3) := by decide +kernel
theorem dX4_read_8 : decode cX4_read 8 = .ok (.ifCond .eq 7, 3) := by decide +kernel
theorem dX4_read_11 : decode cX4_read 11 = .ok (.iconst 1, 1) := by decide +kernel
theorem dX4_read_12 : decode cX4_read 12 = .ok (.goto 17, 3) := by decide +kernel
theorem dX4_read_15 : decode cX4_read 15 = .ok (.iload 4, 2) := by decide +kernel
theorem dX4_read_17 : decode cX4_read 17 = .ok (.invokestatic 171, 3) := by decide +kernel
theorem dX4_read_20 : decode cX4_read 20 = .ok (.iconst (-1), 1) := by decide +kernel
theorem dX4_read_21 : decode cX4_read 21 = .ok (.if_icmp .ne 7, 3) := by decide +kernel
theorem dX4_read_24 : decode cX4_read 24 = .ok (.iconst 2, 1) := by decide +kernel
theorem dX4_read_25 : decode cX4_read 25 = .ok (.goto 4, 3) := by decide +kernel
theorem dX4_read_28 : decode cX4_read 28 = .ok (.iconst 0, 1) := by decide +kernel
theorem dX4_read_29 : decode cX4_read 29 = .ok (.putfield 59, 3) := by decide +kernel
theorem dX4_read_32 : decode cX4_read 32 = .ok (.aload_n 0, 1) := by decide +kernel
theorem dX4_read_33 : decode cX4_read 33 = .ok (.getfield 59, 3) := by decide +kernel
theorem dX4_read_36 : decode cX4_read 36 = .ok (.ifCond .le 7, 3) := by decide +kernel
theorem dX4_read_39 : decode cX4_read 39 = .ok (.iconst 0, 1) := by decide +kernel
theorem dX4_read_40 : decode cX4_read 40 = .ok (.goto 19, 3) := by decide +kernel
theorem dX4_read_43 : decode cX4_read 43 = .ok (.aload_n 0, 1) := by decide +kernel
theorem dX4_read_44 : decode cX4_read 44 = .ok (.getfield 44, 3) := by decide +kernel
theorem dX4_read_47 : decode cX4_read 47 = .ok (.iload_n 1, 1) := by decide +kernel
theorem dX4_read_48 : decode cX4_read 48 = .ok (.iload_n 2, 1) := by decide +kernel
theorem dX4_read_49 : decode cX4_read 49 = .ok (.iload_n 3, 1) := by decide +kernel
theorem dX4_read_50 : decode cX4_read 50 = .ok (.iload 4, 2) := by decide +kernel
theorem dX4_read_52 : decode cX4_read 52 = .ok (.invokestatic 171, 3) := by decide +kernel
theorem dX4_read_55 : decode cX4_read 55 = .ok (.invokestatic 103, 3) := by decide +kernel
theorem dX4_read_58 : decode cX4_read 58 = .ok (.iaload, 1) := by decide +kernel
theorem dX4_read_59 : decode cX4_read 59 = .ok (.ireturn, 1) := by decide +kernel
theorem dX4_sync_0 : decode cX4_sync 0 = .ok (.aload_n 0, 1) := by decide +kernel
theorem dX4_sync_1 : decode cX4_sync 1 = .ok (.iload_n 1, 1) := by decide +kernel
theorem dX4_sync_2 : decode cX4_sync 2 = .ok (.invokestatic 168, 3) := by decide +kernel
theorem dX4_sync_5 : decode cX4_sync 5 = .ok (.ifCond .eq 10, 3) := by decide +kernel
theorem dX4_sync_8 : decode cX4_sync 8 = .ok (.iload_n 2, 1) := by decide +kernel
theorem dX4_sync_9 : decode cX4_sync 9 = .ok (.invokestatic 168, 3) := by decide +kernel
theorem dX4_sync_12 : decode cX4_sync 12 = .ok (.ifCond .ne 7, 3) := by decide +kernel
theorem dX4_sync_15 : decode cX4_sync 15 = .ok (.iconst 1, 1) := by decide +kernel
theorem dX4_sync_16 : decode cX4_sync 16 = .ok (.goto 13, 3) := by decide +kernel
theorem dX4_sync_19 : decode cX4_sync 19 = .ok (.iload_n 1, 1) := by decide +kernel
theorem dX4_sync_20 : decode cX4_sync 20 = .ok (.iload_n 2, 1) := by decide +kernel
theorem dX4_sync_21 : decode cX4_sync 21 = .ok (.if_icmp .ne 7, 3) := by decide +kernel
theorem dX4_sync_24 : decode cX4_sync 24 = .ok (.iconst 2, 1) := by decide +kernel
theorem dX4_sync_25 : decode cX4_sync 25 = .ok (.goto 4, 3) := by decide +kernel
theorem dX4_sync_28 : decode cX4_sync 28 = .ok (.iconst 0, 1) := by decide +kernel
theorem dX4_sync_29 : decode cX4_sync 29 = .ok (.putfield 59, 3) := by decide +kernel
theorem dX4_sync_32 : decode cX4_sync 32 = .ok (.aload_n 0, 1) := by decide +kernel
theorem dX4_sync_33 : decode cX4_sync 33 = .ok (.getfield 59, 3) := by decide +kernel
theorem dX4_sync_36 : decode cX4_sync 36 = .ok (.ifCond .le 5, 3) := by decide +kernel
theorem dX4_sync_39 : decode cX4_sync 39 = .ok (.iconst 0, 1) := by decide +kernel
theorem dX4_sync_40 : decode cX4_sync 40 = .ok (.ireturn, 1) := by decide +kernel
theorem dX4_sync_41 : decode cX4_sync 41 = .ok (.iconst 0, 1) := by decide +kernel
theorem dX4_sync_42 : decode cX4_sync 42 = .ok (.istore_n 3, 1) := by decide +kernel
theorem dX4_sync_43 : decode cX4_sync 43 = .ok (.iconst 0, 1) := by decide +kernel
theorem dX4_sync_44 : decode cX4_sync 44 = .ok (.istore 4, 2) := by decide +kernel
theorem dX4_sync_46 : decode cX4_sync 46 = .ok (.iload 4, 2) := by decide +kernel
theorem dX4_sync_48 : decode cX4_sync 48 = .ok (.aload_n 0, 1) := by decide +kernel
theorem dX4_sync_49 : decode cX4_sync 49 = .ok (.getfield 63, 3) := by decide +kernel
theorem dX4_sync_52 : decode cX4_sync 52 = .ok (.if_icmp .ge 110, 3) := by decide +kernel
theorem dX4_sync_55 : decode cX4_sync 55 = .ok (.iconst 0, 1) := by decide +kernel
theorem dX4_sync_56 : decode cX4_sync 56 = .ok (.istore 5, 2) := by decide +kernel
theorem dX4_sync_58 : decode cX4_sync 58 = .ok (.iload 5, 2) := by decide +kernel
theorem dX4_sync_60 : decode cX4_sync 60 = .ok (.aload_n 0, 1) := by decide +kernel
theorem dX4_sync_61 : decode cX4_sync 61 = .ok (.getfield 70, 3) := by decide +kernel
theorem dX4_sync_64 : decode cX4_sync 64 = .ok (.if_icmp .ge 92, 3) := by decide +kernel
theorem dX4_sync_67 : decode cX4_sync 67 = .ok (.iconst 0, 1) := by decide +kernel
theorem dX4_sync_68 : decode cX4_sync 68 = .ok (.istore 6, 2) := by decide +kernel
theorem dX4_sync_70 : decode cX4_sync 70 = .ok (.iload 6, 2) := by decide +kernel
theorem dX4_sync_72 : decode cX4_sync 72 = .ok (.iconst 3, 1) := by decide +kernel
theorem dX4_sync_73 : decode cX4_sync 73 = .ok (.if_icmp .ge 77, 3) := by decide +kernel
theorem dX4_sync_76 : decode cX4_sync 76 = .ok (.aload_n 0, 1) := by decide +kernel
theorem dX4_sync_77 : decode cX4_sync 77 = .ok (.getfield 44, 3) := by decide +kernel
theorem dX4_sync_80 : decode cX4_sync 80 = .ok (.iload_n 1, 1) := by decide +kernel
theorem dX4_sync_81 : decode cX4_sync 81 = .ok (.iload 4, 2) := by decide +kernel
theorem dX4_sync_83 : decode cX4_sync 83 = .ok (.iload 5, 2) := by decide +kernel
theorem dX4_sync_85 : decode cX4_sync 85 = .ok (.iload 6, 2) := by decide +kernel
theorem dX4_sync_87 : decode cX4_sync 87 = .ok (.invokestatic 103, 3) := by decide +kernel
theorem dX4_sync_90 : decode cX4_sync 90 = .ok (.iaload, 1) := by decide +kernel
theorem dX4_sync_91 : decode cX4_sync 91 = .ok (.istore 7, 2) := by decide +kernel
theorem dX4_sync_93 : decode cX4_sync 93 = .ok (.aload_n 0, 1) := by decide +kernel
theorem dX4_sync_94 : decode cX4_sync 94 = .ok (.getfield 47, 3) := by decide +kernel
theorem dX4_sync_97 : decode cX4_sync 97 = .ok (.iload 6, 2) := by decide +kernel
theorem dX4_sync_99 : decode cX4_sync 99 = .ok (.iaload, 1) := by decide +kernel
theorem dX4_sync_100 : decode cX4_sync 100 = .ok (.iload_n 1, 1) := by decide +kernel
theorem dX4_sync_101 : decode cX4_sync 101 = .ok (.if_icmp .ne 43, 3) := by decide +kernel
theorem dX4_sync_104 : decode cX4_sync 104 = .ok (.iload 7, 2) := by decide +kernel
theorem dX4_sync_106 : decode cX4_sync 106 = .ok (.aload_n 0, 1) := by decide +kernel
theorem dX4_sync_107 : decode cX4_sync 107 = .ok (.getfield 44, 3) := by decide +kernel
theorem dX4_sync_110 : decode cX4_sync 110 = .ok (.iload_n 2, 1) := by decide +kernel
theorem dX4_sync_111 : decode cX4_sync 111 = .ok (.iload 4, 2) := by decide +kernel
theorem dX4_sync_113 : decode cX4_sync 113 = .ok (.iload 5, 2) := by decide +kernel
theorem dX4_sync_115 : decode cX4_sync 115 = .ok (.iload 6, 2) := by decide +kernel
theorem dX4_sync_117 : decode cX4_sync 117 = .ok (.invokestatic 103, 3) := by decide +kernel
theorem dX4_sync_120 : decode cX4_sync 120 = .ok (.iaload, 1) := by decide +kernel
theorem dX4_sync_121 : decode cX4_sync 121 = .ok (.if_icmp .eq 23, 3) := by decide +kernel
theorem dX4_sync_124 : decode cX4_sync 124 = .ok (.aload_n 0, 1) := by decide +kernel
theorem dX4_sync_125 : decode cX4_sync 125 = .ok (.getfield 44, 3) := by decide +kernel
theorem dX4_sync_128 : decode cX4_sync 128 = .ok (.iload_n 2, 1) := by decide +kernel
theorem dX4_sync_129 : decode cX4_sync 129 = .ok (.iload 4, 2) := by decide +kernel
theorem dX4_sync_131 : decode cX4_sync 131 = .ok (.iload 5, 2) := by decide +kernel
theorem dX4_sync_133 : decode cX4_sync 133 = .ok (.iload 6, 2) := by decide +kernel
theorem dX4_sync_135 : decode cX4_sync 135 = .ok (.invokestatic 103, 3) := by decide +kernel
theorem dX4_sync_138 : decode cX4_sync 138 = .ok (.iload 7, 2) := by decide +kernel
theorem dX4_sync_140 : decode cX4_sync 140 = .ok (.iastore, 1) := by decide +kernel
theorem dX4_sync_141 : decode cX4_sync 141 = .ok (.iinc 3 1, 3) := by decide +kernel
theorem dX4_sync_144 : decode cX4_sync 144 = .ok (.iinc 6 1, 3) := by decide +kernel
theorem dX4_sync_147 : decode cX4_sync 147 = .ok (.goto (-77), 3) := by decide +kernel
theorem dX4_sync_150 : decode cX4_sync 150 = .ok (.iinc 5 1, 3) := by decide +kernel
theorem dX4_sync_153 : decode cX4_sync 153 = .ok (.goto (-95), 3) := by decide +kernel
theorem dX4_sync_156 : decode cX4_sync 156 = .ok (.iinc 4 1, 3) := by decide +kernel
theorem dX4_sync_159 : decode cX4_sync 159 = .ok (.goto (-113), 3) := by decide +kernel
theorem dX4_sync_162 : decode cX4_sync 162 = .ok (.iload_n 3, 1) := by decide +kernel
theorem dX4_sync_163 : decode cX4_sync 163 = .ok (.ireturn, 1) := by decide +kernel
theorem dX4_owner_0 : decode cX4_owner 0 = .ok (.aload_n 0, 1) := by decide +kernel
theorem dX4_owner_1 : decode cX4_owner 1 = .ok (.iload_n 1, 1) := by decide +kernel
theorem dX4_owner_2 : decode cX4_owner 2 = .ok (.invokestatic 171, 3) := by decide +kernel
theorem dX4_owner_5 : decode cX4_owner 5 = .ok (.iconst (-1), 1) := by decide +kernel
theorem dX4_owner_6 : decode cX4_owner 6 = .ok (.if_icmp .ne 7, 3) := by decide +kernel
theorem dX4_owner_9 : decode cX4_owner 9 = .ok (.iconst 1, 1) := by decide +kernel
theorem dX4_owner_10 : decode cX4_owner 10 = .ok (.goto 4, 3) := by decide +kernel
theorem dX4_owner_13 : decode cX4_owner 13 = .ok (.iconst 0, 1) := by decide +kernel
theorem dX4_owner_14 : decode cX4_owner 14 = .ok (.putfield 59, 3) := by decide +kernel
theorem dX4_owner_17 : decode cX4_owner 17 = .ok (.aload_n 0, 1) := by decide +kernel
theorem dX4_owner_18 : decode cX4_owner 18 = .ok (.getfield 59, 3) := by decide +kernel
theorem dX4_owner_21 : decode cX4_owner 21 = .ok (.ifCond .le 7, 3) := by decide +kernel
theorem dX4_owner_24 : decode cX4_owner 24 = .ok (.iconst 0, 1) := by decide +kernel
theorem dX4_owner_25 : decode cX4_owner 25 = .ok (.goto 12, 3) := by decide +kernel
theorem dX4_owner_28 : decode cX4_owner 28 = .ok (.aload_n 0, 1) := by decide +kernel
theorem dX4_owner_29 : decode cX4_owner 29 = .ok (.getfield 47, 3) := by decide +kernel
theorem dX4_owner_32 : decode cX4_owner 32 = .ok (.iload_n 1, 1) := by decide +kernel
theorem dX4_owner_33 : decode cX4_owner 33 = .ok (.invokestatic 171, 3) := by decide +kernel
theorem dX4_owner_36 : decode cX4_owner 36 = .ok (.iaload, 1) := by decide +kernel
theorem dX4_owner_37 : decode cX4_owner 37 = .ok (.ireturn, 1) := by decide +kernel
theorem dX4_setOwner_0 : decode cX4_setOwner 0 = .ok (.iload_n 1, 1) := by decide +kernel
theorem dX4_setOwner_1 : decode cX4_setOwner 1 = .ok (.invokestatic 171, 3) := by decide +kernel
theorem dX4_setOwner_4 : decode cX4_setOwner 4 = .ok (.istore_n 3, 1) := by decide +kernel
theorem dX4_setOwner_5 : decode cX4_setOwner 5 = .ok (.aload_n 0, 1) := by decide +kernel
theorem dX4_setOwner_6 : decode cX4_setOwner 6 = .ok (.iload_n 3, 1) := by decide +kernel
theorem dX4_setOwner_7 : decode cX4_setOwner 7 = .ok (.iconst (-1), 1) := by decide +kernel
theorem dX4_setOwner_8 : decode cX4_setOwner 8 = .ok (.if_icmp .ne 7, 3) := by decide +kernel
theorem dX4_setOwner_11 : decode cX4_setOwner 11 = .ok (.iconst 1, 1) := by decide +kernel
theorem dX4_setOwner_12 : decode cX4_setOwner 12 = .ok (.goto 15, 3) := by decide +kernel
theorem dX4_setOwner_15 : decode cX4_setOwner 15 = .ok (.iload_n 2, 1) := by decide +kernel
theorem dX4_setOwner_16 : decode cX4_setOwner 16 = .ok (.invokestatic 168, 3) := by decide +kernel
theorem dX4_setOwner_19 : decode cX4_setOwner 19 = .ok (.ifCond .ne 7, 3) := by decide +kernel
theorem dX4_setOwner_22 : decode cX4_setOwner 22 = .ok (.iconst 2, 1) := by decide +kernel
theorem dX4_setOwner_23 : decode cX4_setOwner 23 = .ok (.goto 4, 3) := by decide +kernel
theorem dX4_setOwner_26 : decode cX4_setOwner 26 = .ok (.iconst 0, 1) := by decide +kernel
theorem dX4_setOwner_27 : decode cX4_setOwner 27 = .ok (.putfield 59, 3) := by decide +kernel
theorem dX4_setOwner_30 : decode cX4_setOwner 30 = .ok (.iconst 0, 1) := by decide +kernel
theorem dX4_setOwner_31 : decode cX4_setOwner 31 = .ok (.istore 4, 2) := by decide +kernel
theorem dX4_setOwner_33 : decode cX4_setOwner 33 = .ok (.iload 4, 2) := by decide +kernel
theorem dX4_setOwner_35 : decode cX4_setOwner 35 = .ok (.aload_n 0, 1) := by decide +kernel
theorem dX4_setOwner_36 : decode cX4_setOwner 36 = .ok (.getfield 63, 3) := by decide +kernel
theorem dX4_setOwner_39 : decode cX4_setOwner 39 = .ok (.if_icmp .ge 86, 3) := by decide +kernel
theorem dX4_setOwner_42 : decode cX4_setOwner 42 = .ok (.aload_n 0, 1) := by decide +kernel
theorem dX4_setOwner_43 : decode cX4_setOwner 43 = .ok (.getfield 59, 3) := by decide +kernel
theorem dX4_setOwner_46 : decode cX4_setOwner 46 = .ok (.ifCond .ne 79, 3) := by decide +kernel
theorem dX4_setOwner_49 : decode cX4_setOwner 49 = .ok (.iconst 0, 1) := by decide +kernel
theorem dX4_setOwner_50 : decode cX4_setOwner 50 = .ok (.istore 5, 2) := by decide +kernel
theorem dX4_setOwner_52 : decode cX4_setOwner 52 = .ok (.iload 5, 2) := by decide +kernel
theorem dX4_setOwner_54 : decode cX4_setOwner 54 = .ok (.aload_n 0, 1) := by decide +kernel
theorem dX4_setOwner_55 : decode cX4_setOwner 55 = .ok (.getfield 70, 3) := by decide +kernel
theorem dX4_setOwner_58 : decode cX4_setOwner 58 = .ok (.if_icmp .ge 61, 3) := by decide +kernel
theorem dX4_setOwner_61 : decode cX4_setOwner 61 = .ok (.aload_n 0, 1) := by decide +kernel
theorem dX4_setOwner_62 : decode cX4_setOwner 62 = .ok (.getfield 59, 3) := by decide +kernel
theorem dX4_setOwner_65 : decode cX4_setOwner 65 = .ok (.ifCond .ne 54, 3) := by decide +kernel
theorem dX4_setOwner_68 : decode cX4_setOwner 68 = .ok (.aload_n 0, 1) := by decide +kernel
theorem dX4_setOwner_69 : decode cX4_setOwner 69 = .ok (.aload_n 0, 1) := by decide +kernel
theorem dX4_setOwner_70 : decode cX4_setOwner 70 = .ok (.getfield 44, 3) := by decide +kernel
theorem dX4_setOwner_73 : decode cX4_setOwner 73 = .ok (.iload_n 2, 1) := by decide +kernel
theorem dX4_setOwner_74 : decode cX4_setOwner 74 = .ok (.iload 4, 2) := by decide +kernel
theorem dX4_setOwner_76 : decode cX4_setOwner 76 = .ok (.iload 5, 2) := by decide +kernel
theorem dX4_setOwner_78 : decode cX4_setOwner 78 = .ok (.iload_n 3, 1) := by decide +kernel
theorem dX4_setOwner_79 : decode cX4_setOwner 79 = .ok (.invokestatic 103, 3) := by decide +kernel
theorem dX4_setOwner_82 : decode cX4_setOwner 82 = .ok (.iaload, 1) := by decide +kernel
theorem dX4_setOwner_83 : decode cX4_setOwner 83 = .ok (.aload_n 0, 1) := by decide +kernel
theorem dX4_setOwner_84 : decode cX4_setOwner 84 = .ok (.getfield 44, 3) := by decide +kernel
theorem dX4_setOwner_87 : decode cX4_setOwner 87 = .ok (.aload_n 0, 1) := by decide +kernel
theorem dX4_setOwner_88 : decode cX4_setOwner 88 = .ok (.getfield 47, 3) := by decide +kernel
theorem dX4_setOwner_91 : decode cX4_setOwner 91 = .ok (.iload_n 3, 1) := by decide +kernel
theorem dX4_setOwner_92 : decode cX4_setOwner 92 = .ok (.iaload, 1) := by decide +kernel
theorem dX4_setOwner_93 : decode cX4_setOwner 93 = .ok (.iload 4, 2) := by decide +kernel
theorem dX4_setOwner_95 : decode cX4_setOwner 95 = .ok (.iload 5, 2) := by decide +kernel
theorem dX4_setOwner_97 : decode cX4_setOwner 97 = .ok (.iload_n 3, 1) := by decide +kernel
theorem dX4_setOwner_98 : decode cX4_setOwner 98 = .ok (.invokestatic 103, 3) := by decide +kernel
theorem dX4_setOwner_101 : decode cX4_setOwner 101 = .ok (.iaload, 1) := by decide +kernel
theorem dX4_setOwner_102 : decode cX4_setOwner 102 = .ok (.if_icmp .ne 7, 3) := by decide +kernel
theorem dX4_setOwner_105 : decode cX4_setOwner 105 = .ok (.iconst 0, 1) := by decide +kernel
theorem dX4_setOwner_106 : decode cX4_setOwner 106 = .ok (.goto 4, 3) := by decide +kernel
theorem dX4_setOwner_109 : decode cX4_setOwner 109 = .ok (.iconst 3, 1) := by decide +kernel
theorem dX4_setOwner_110 : decode cX4_setOwner 110 = .ok (.putfield 59, 3) := by decide +kernel
theorem dX4_setOwner_113 : decode cX4_setOwner 113 = .ok (.iinc 5 1, 3) := by decide +kernel
theorem dX4_setOwner_116 : decode cX4_setOwner 116 = .ok (.goto (-64), 3) := by decide +kernel
theorem dX4_setOwner_119 : decode cX4_setOwner 119 = .ok (.iinc 4 1, 3) := by decide +kernel
theorem dX4_setOwner_122 : decode cX4_setOwner 122 = .ok (.goto (-89), 3) := by decide +kernel
theorem dX4_setOwner_125 : decode cX4_setOwner 125 = .ok (.aload_n 0, 1) := by decide +kernel
theorem dX4_setOwner_126 : decode cX4_setOwner 126 = .ok (.getfield 59, 3) := by decide +kernel
theorem dX4_setOwner_129 : decode cX4_setOwner 129 = .ok (.ifCond .le 5, 3) := by decide +kernel
theorem dX4_setOwner_132 : decode cX4_setOwner 132 = .ok (.iconst 0, 1) := by decide +kernel
theorem dX4_setOwner_133 : decode cX4_setOwner 133 = .ok (.ireturn, 1) := by decide +kernel
theorem dX4_setOwner_134 : decode cX4_setOwner 134 = .ok (.aload_n 0, 1) := by decide +kernel
theorem dX4_setOwner_135 : decode cX4_setOwner 135 = .ok (.getfield 47, 3) := by decide +kernel
theorem dX4_setOwner_138 : decode cX4_setOwner 138 = .ok (.iload_n 3, 1) := by decide +kernel
theorem dX4_setOwner_139 : decode cX4_setOwner 139 = .ok (.iaload, 1) := by decide +kernel
theorem dX4_setOwner_140 : decode cX4_setOwner 140 = .ok (.istore 4, 2) := by decide +kernel
theorem dX4_setOwner_142 : decode cX4_setOwner 142 = .ok (.aload_n 0, 1) := by decide +kernel
theorem dX4_setOwner_143 : decode cX4_setOwner 143 = .ok (.getfield 47, 3) := by decide +kernel
theorem dX4_setOwner_146 : decode cX4_setOwner 146 = .ok (.iload_n 3, 1) := by decide +kernel
theorem dX4_setOwner_147 : decode cX4_setOwner 147 = .ok (.iload_n 2, 1) := by decide +kernel
theorem dX4_setOwner_148 : decode cX4_setOwner 148 = .ok (.iastore, 1) := by decide +kernel
theorem dX4_setOwner_149 : decode cX4_setOwner 149 = .ok (.iload 4, 2) := by decide +kernel
theorem dX4_setOwner_151 : decode cX4_setOwner 151 = .ok (.ireturn, 1) := by decide +kernel
theorem dX4_apart_0 : decode cX4_apart 0 = .ok (.iload_n 1, 1) := by decide +kernel
theorem dX4_apart_1 : decode cX4_apart 1 = .ok (.invokestatic 171, 3) := by decide +kernel
theorem dX4_apart_4 : decode cX4_apart 4 = .ok (.istore_n 2, 1) := by decide +kernel
theorem dX4_apart_5 : decode cX4_apart 5 = .ok (.aload_n 0, 1) := by decide +kernel
theorem dX4_apart_6 : decode cX4_apart 6 = .ok (.iload_n 2, 1) := by decide +kernel
theorem dX4_apart_7 : decode cX4_apart 7 = .ok (.iconst (-1), 1) := by decide +kernel
theorem dX4_apart_8 : decode cX4_apart 8 = .ok (.if_icmp .ne 7, 3) := by decide +kernel
theorem dX4_apart_11 : decode cX4_apart 11 = .ok (.iconst 1, 1) := by decide +kernel
theorem dX4_apart_12 : decode cX4_apart 12 = .ok (.goto 4, 3) := by decide +kernel
theorem dX4_apart_15 : decode cX4_apart 15 = .ok (.iconst 0, 1) := by decide +kernel
theorem dX4_apart_16 : decode cX4_apart 16 = .ok (.putfield 59, 3) := by decide +kernel
theorem dX4_apart_19 : decode cX4_apart 19 = .ok (.iconst 0, 1) := by decide +kernel
theorem dX4_apart_20 : decode cX4_apart 20 = .ok (.istore_n 3, 1) := by decide +kernel
theorem dX4_apart_21 : decode cX4_apart 21 = .ok (.iconst 0, 1) := by decide +kernel
theorem dX4_apart_22 : decode cX4_apart 22 = .ok (.istore 4, 2) := by decide +kernel
theorem dX4_apart_24 : decode cX4_apart 24 = .ok (.iload 4, 2) := by decide +kernel
theorem dX4_apart_26 : decode cX4_apart 26 = .ok (.aload_n 0, 1) := by decide +kernel
theorem dX4_apart_27 : decode cX4_apart 27 = .ok (.getfield 63, 3) := by decide +kernel
theorem dX4_apart_30 : decode cX4_apart 30 = .ok (.if_icmp .ge 54, 3) := by decide +kernel
theorem dX4_apart_33 : decode cX4_apart 33 = .ok (.aload_n 0, 1) := by decide +kernel
theorem dX4_apart_34 : decode cX4_apart 34 = .ok (.getfield 59, 3) := by decide +kernel
theorem dX4_apart_37 : decode cX4_apart 37 = .ok (.ifCond .ne 47, 3) := by decide +kernel
theorem dX4_apart_40 : decode cX4_apart 40 = .ok (.iconst 0, 1) := by decide +kernel
theorem dX4_apart_41 : decode cX4_apart 41 = .ok (.istore 5, 2) := by decide +kernel
theorem dX4_apart_43 : decode cX4_apart 43 = .ok (.iload 5, 2) := by decide +kernel
theorem dX4_apart_45 : decode cX4_apart 45 = .ok (.aload_n 0, 1) := by decide +kernel
theorem dX4_apart_46 : decode cX4_apart 46 = .ok (.getfield 70, 3) := by decide +kernel
theorem dX4_apart_49 : decode cX4_apart 49 = .ok (.if_icmp .ge 29, 3) := by decide +kernel
theorem dX4_apart_52 : decode cX4_apart 52 = .ok (.iload_n 3, 1) := by decide +kernel
theorem dX4_apart_53 : decode cX4_apart 53 = .ok (.aload_n 0, 1) := by decide +kernel
theorem dX4_apart_54 : decode cX4_apart 54 = .ok (.iload 4, 2) := by decide +kernel
theorem dX4_apart_56 : decode cX4_apart 56 = .ok (.iload 5, 2) := by decide +kernel
theorem dX4_apart_58 : decode cX4_apart 58 = .ok (.iload_n 2, 1) := by decide +kernel
theorem dX4_apart_59 : decode cX4_apart 59 = .ok (.invokevirtual 107, 3) := by decide +kernel
theorem dX4_apart_62 : decode cX4_apart 62 = .ok (.ifCond .eq 7, 3) := by decide +kernel
theorem dX4_apart_65 : decode cX4_apart 65 = .ok (.iconst 0, 1) := by decide +kernel
theorem dX4_apart_66 : decode cX4_apart 66 = .ok (.goto 4, 3) := by decide +kernel
theorem dX4_apart_69 : decode cX4_apart 69 = .ok (.iconst 1, 1) := by decide +kernel
theorem dX4_apart_70 : decode cX4_apart 70 = .ok (.iadd, 1) := by decide +kernel
theorem dX4_apart_71 : decode cX4_apart 71 = .ok (.istore_n 3, 1) := by decide +kernel
theorem dX4_apart_72 : decode cX4_apart 72 = .ok (.iinc 5 1, 3) := by decide +kernel
theorem dX4_apart_75 : decode cX4_apart 75 = .ok (.goto (-32), 3) := by decide +kernel
theorem dX4_apart_78 : decode cX4_apart 78 = .ok (.iinc 4 1, 3) := by decide +kernel
theorem dX4_apart_81 : decode cX4_apart 81 = .ok (.goto (-57), 3) := by decide +kernel
theorem dX4_apart_84 : decode cX4_apart 84 = .ok (.iload_n 3, 1) := by decide +kernel
theorem dX4_apart_85 : decode cX4_apart 85 = .ok (.ireturn, 1) := by decide +kernel
theorem dX4_maySit_0 : decode cX4_maySit 0 = .ok (.aload_n 0, 1) := by decide +kernel
theorem dX4_maySit_1 : decode cX4_maySit 1 = .ok (.aload_n 0, 1) := by decide +kernel
theorem dX4_maySit_2 : decode cX4_maySit 2 = .ok (.iload_n 1, 1) := by decide +kernel
theorem dX4_maySit_3 : decode cX4_maySit 3 = .ok (.invokevirtual 90, 3) := by decide +kernel
theorem dX4_maySit_6 : decode cX4_maySit 6 = .ok (.ifCond .eq 11, 3) := by decide +kernel
theorem dX4_maySit_9 : decode cX4_maySit 9 = .ok (.aload_n 0, 1) := by decide +kernel
theorem dX4_maySit_10 : decode cX4_maySit 10 = .ok (.iload_n 2, 1) := by decide +kernel
theorem dX4_maySit_11 : decode cX4_maySit 11 = .ok (.invokevirtual 79, 3) := by decide +kernel
theorem dX4_maySit_14 : decode cX4_maySit 14 = .ok (.ifCond .ne 7, 3) := by decide +kernel
theorem dX4_maySit_17 : decode cX4_maySit 17 = .ok (.iconst 1, 1) := by decide +kernel
theorem dX4_maySit_18 : decode cX4_maySit 18 = .ok (.goto 4, 3) := by decide +kernel
theorem dX4_maySit_21 : decode cX4_maySit 21 = .ok (.iconst 0, 1) := by decide +kernel
theorem dX4_maySit_22 : decode cX4_maySit 22 = .ok (.putfield 59, 3) := by decide +kernel
theorem dX4_maySit_25 : decode cX4_maySit 25 = .ok (.aload_n 0, 1) := by decide +kernel
theorem dX4_maySit_26 : decode cX4_maySit 26 = .ok (.getfield 59, 3) := by decide +kernel
theorem dX4_maySit_29 : decode cX4_maySit 29 = .ok (.ifCond .ne 16, 3) := by decide +kernel
theorem dX4_maySit_32 : decode cX4_maySit 32 = .ok (.aload_n 0, 1) := by decide +kernel
theorem dX4_maySit_33 : decode cX4_maySit 33 = .ok (.iload_n 1, 1) := by decide +kernel
theorem dX4_maySit_34 : decode cX4_maySit 34 = .ok (.iload_n 2, 1) := by decide +kernel
theorem dX4_maySit_35 : decode cX4_maySit 35 = .ok (.invokevirtual 113, 3) := by decide +kernel
theorem dX4_maySit_38 : decode cX4_maySit 38 = .ok (.ifCond .eq 7, 3) := by decide +kernel
theorem dX4_maySit_41 : decode cX4_maySit 41 = .ok (.iconst 1, 1) := by decide +kernel
theorem dX4_maySit_42 : decode cX4_maySit 42 = .ok (.goto 4, 3) := by decide +kernel
theorem dX4_maySit_45 : decode cX4_maySit 45 = .ok (.iconst 0, 1) := by decide +kernel
theorem dX4_maySit_46 : decode cX4_maySit 46 = .ok (.ireturn, 1) := by decide +kernel
theorem dX4_isOpen_0 : decode cX4_isOpen 0 = .ok (.aload_n 0, 1) := by decide +kernel
theorem dX4_isOpen_1 : decode cX4_isOpen 1 = .ok (.aload_n 0, 1) := by decide +kernel
theorem dX4_isOpen_2 : decode cX4_isOpen 2 = .ok (.iload_n 1, 1) := by decide +kernel
theorem dX4_isOpen_3 : decode cX4_isOpen 3 = .ok (.invokevirtual 90, 3) := by decide +kernel
theorem dX4_isOpen_6 : decode cX4_isOpen 6 = .ok (.ifCond .eq 11, 3) := by decide +kernel
theorem dX4_isOpen_9 : decode cX4_isOpen 9 = .ok (.aload_n 0, 1) := by decide +kernel
theorem dX4_isOpen_10 : decode cX4_isOpen 10 = .ok (.iload_n 2, 1) := by decide +kernel
theorem dX4_isOpen_11 : decode cX4_isOpen 11 = .ok (.invokevirtual 79, 3) := by decide +kernel
theorem dX4_isOpen_14 : decode cX4_isOpen 14 = .ok (.ifCond .ne 7, 3) := by decide +kernel
theorem dX4_isOpen_17 : decode cX4_isOpen 17 = .ok (.iconst 1, 1) := by decide +kernel
theorem dX4_isOpen_18 : decode cX4_isOpen 18 = .ok (.goto 4, 3) := by decide +kernel
theorem dX4_isOpen_21 : decode cX4_isOpen 21 = .ok (.iconst 0, 1) := by decide +kernel
theorem dX4_isOpen_22 : decode cX4_isOpen 22 = .ok (.putfield 59, 3) := by decide +kernel
theorem dX4_isOpen_25 : decode cX4_isOpen 25 = .ok (.aload_n 0, 1) := by decide +kernel
theorem dX4_isOpen_26 : decode cX4_isOpen 26 = .ok (.getfield 59, 3) := by decide +kernel
theorem dX4_isOpen_29 : decode cX4_isOpen 29 = .ok (.ifCond .ne 16, 3) := by decide +kernel
theorem dX4_isOpen_32 : decode cX4_isOpen 32 = .ok (.aload_n 0, 1) := by decide +kernel
theorem dX4_isOpen_33 : decode cX4_isOpen 33 = .ok (.iload_n 1, 1) := by decide +kernel
theorem dX4_isOpen_34 : decode cX4_isOpen 34 = .ok (.iload_n 2, 1) := by decide +kernel
theorem dX4_isOpen_35 : decode cX4_isOpen 35 = .ok (.invokevirtual 110, 3) := by decide +kernel
theorem dX4_isOpen_38 : decode cX4_isOpen 38 = .ok (.ifCond .eq 7, 3) := by decide +kernel
theorem dX4_isOpen_41 : decode cX4_isOpen 41 = .ok (.iconst 1, 1) := by decide +kernel
theorem dX4_isOpen_42 : decode cX4_isOpen 42 = .ok (.goto 4, 3) := by decide +kernel
theorem dX4_isOpen_45 : decode cX4_isOpen 45 = .ok (.iconst 0, 1) := by decide +kernel
theorem dX4_isOpen_46 : decode cX4_isOpen 46 = .ok (.ireturn, 1) := by decide +kernel
theorem dX4_satCell_0 : decode cX4_satCell 0 = .ok (.iconst 2, 1) := by decide +kernel
theorem dX4_satCell_1 : decode cX4_satCell 1 = .ok (.iload_n 0, 1) := by decide +kernel
theorem dX4_satCell_2 : decode cX4_satCell 2 = .ok (.bipush 6, 2) := by decide +kernel
theorem dX4_satCell_4 : decode cX4_satCell 4 = .ok (.imul, 1) := by decide +kernel
theorem dX4_satCell_5 : decode cX4_satCell 5 = .ok (.iload_n 1, 1) := by decide +kernel
theorem dX4_satCell_6 : decode cX4_satCell 6 = .ok (.iadd, 1) := by decide +kernel
theorem dX4_satCell_7 : decode cX4_satCell 7 = .ok (.imul, 1) := by decide +kernel
theorem dX4_satCell_8 : decode cX4_satCell 8 = .ok (.iload_n 2, 1) := by decide +kernel
theorem dX4_satCell_9 : decode cX4_satCell 9 = .ok (.ifCond .eq 7, 3) := by decide +kernel
theorem dX4_satCell_12 : decode cX4_satCell 12 = .ok (.iconst 1, 1) := by decide +kernel
theorem dX4_satCell_13 : decode cX4_satCell 13 = .ok (.goto 4, 3) := by decide +kernel
theorem dX4_satCell_16 : decode cX4_satCell 16 = .ok (.iconst 0, 1) := by decide +kernel
theorem dX4_satCell_17 : decode cX4_satCell 17 = .ok (.iadd, 1) := by decide +kernel
theorem dX4_satCell_18 : decode cX4_satCell 18 = .ok (.ireturn, 1) := by decide +kernel
theorem dX4_sit_0 : decode cX4_sit 0 = .ok (.aload_n 0, 1) := by decide +kernel
theorem dX4_sit_1 : decode cX4_sit 1 = .ok (.iload_n 1, 1) := by decide +kernel
theorem dX4_sit_2 : decode cX4_sit 2 = .ok (.invokestatic 83, 3) := by decide +kernel
theorem dX4_sit_5 : decode cX4_sit 5 = .ok (.ifCond .ne 7, 3) := by decide +kernel
theorem dX4_sit_8 : decode cX4_sit 8 = .ok (.iconst 1, 1) := by decide +kernel
theorem dX4_sit_9 : decode cX4_sit 9 = .ok (.goto 4, 3) := by decide +kernel
theorem dX4_sit_12 : decode cX4_sit 12 = .ok (.iconst 0, 1) := by decide +kernel
theorem dX4_sit_13 : decode cX4_sit 13 = .ok (.putfield 59, 3) := by decide +kernel
theorem dX4_sit_16 : decode cX4_sit 16 = .ok (.aload_n 0, 1) := by decide +kernel
theorem dX4_sit_17 : decode cX4_sit 17 = .ok (.getfield 59, 3) := by decide +kernel
theorem dX4_sit_20 : decode cX4_sit 20 = .ok (.ifCond .ne 21, 3) := by decide +kernel
theorem dX4_sit_23 : decode cX4_sit 23 = .ok (.aload_n 0, 1) := by decide +kernel
theorem dX4_sit_24 : decode cX4_sit 24 = .ok (.aload_n 0, 1) := by decide +kernel
theorem dX4_sit_25 : decode cX4_sit 25 = .ok (.getfield 53, 3) := by decide +kernel
theorem dX4_sit_28 : decode cX4_sit 28 = .ok (.iload_n 1, 1) := by decide +kernel
theorem dX4_sit_29 : decode cX4_sit 29 = .ok (.baload, 1) := by decide +kernel
theorem dX4_sit_30 : decode cX4_sit 30 = .ok (.ifCond .eq 7, 3) := by decide +kernel
theorem dX4_sit_33 : decode cX4_sit 33 = .ok (.iconst 2, 1) := by decide +kernel
theorem dX4_sit_34 : decode cX4_sit 34 = .ok (.goto 4, 3) := by decide +kernel
theorem dX4_sit_37 : decode cX4_sit 37 = .ok (.iconst 0, 1) := by decide +kernel
theorem dX4_sit_38 : decode cX4_sit 38 = .ok (.putfield 59, 3) := by decide +kernel
theorem dX4_sit_41 : decode cX4_sit 41 = .ok (.aload_n 0, 1) := by decide +kernel
theorem dX4_sit_42 : decode cX4_sit 42 = .ok (.getfield 59, 3) := by decide +kernel
theorem dX4_sit_45 : decode cX4_sit 45 = .ok (.ifCond .le 5, 3) := by decide +kernel
theorem dX4_sit_48 : decode cX4_sit 48 = .ok (.iconst 0, 1) := by decide +kernel
theorem dX4_sit_49 : decode cX4_sit 49 = .ok (.ireturn, 1) := by decide +kernel
theorem dX4_sit_50 : decode cX4_sit 50 = .ok (.iconst 0, 1) := by decide +kernel
theorem dX4_sit_51 : decode cX4_sit 51 = .ok (.istore_n 2, 1) := by decide +kernel
theorem dX4_sit_52 : decode cX4_sit 52 = .ok (.iconst 0, 1) := by decide +kernel
theorem dX4_sit_53 : decode cX4_sit 53 = .ok (.istore_n 3, 1) := by decide +kernel
theorem dX4_sit_54 : decode cX4_sit 54 = .ok (.iload_n 3, 1) := by decide +kernel
theorem dX4_sit_55 : decode cX4_sit 55 = .ok (.aload_n 0, 1) := by decide +kernel
theorem dX4_sit_56 : decode cX4_sit 56 = .ok (.getfield 73, 3) := by decide +kernel
theorem dX4_sit_59 : decode cX4_sit 59 = .ok (.if_icmp .ge 126, 3) := by decide +kernel
theorem dX4_sit_62 : decode cX4_sit 62 = .ok (.iconst 0, 1) := by decide +kernel
theorem dX4_sit_63 : decode cX4_sit 63 = .ok (.istore 4, 2) := by decide +kernel
theorem dX4_sit_65 : decode cX4_sit 65 = .ok (.iload 4, 2) := by decide +kernel
theorem dX4_sit_67 : decode cX4_sit 67 = .ok (.aload_n 0, 1) := by decide +kernel
theorem dX4_sit_68 : decode cX4_sit 68 = .ok (.getfield 63, 3) := by decide +kernel
theorem dX4_sit_71 : decode cX4_sit 71 = .ok (.if_icmp .ge 108, 3) := by decide +kernel
theorem dX4_sit_74 : decode cX4_sit 74 = .ok (.aload_n 0, 1) := by decide +kernel
theorem dX4_sit_75 : decode cX4_sit 75 = .ok (.getfield 16, 3) := by decide +kernel
theorem dX4_sit_78 : decode cX4_sit 78 = .ok (.iload_n 3, 1) := by decide +kernel
theorem dX4_sit_79 : decode cX4_sit 79 = .ok (.iaload, 1) := by decide +kernel
theorem dX4_sit_80 : decode cX4_sit 80 = .ok (.iload_n 1, 1) := by decide +kernel
theorem dX4_sit_81 : decode cX4_sit 81 = .ok (.if_icmp .ne 98, 3) := by decide +kernel
theorem dX4_sit_84 : decode cX4_sit 84 = .ok (.aload_n 0, 1) := by decide +kernel
theorem dX4_sit_85 : decode cX4_sit 85 = .ok (.getfield 41, 3) := by decide +kernel
theorem dX4_sit_88 : decode cX4_sit 88 = .ok (.iload 4, 2) := by decide +kernel
theorem dX4_sit_90 : decode cX4_sit 90 = .ok (.iload_n 3, 1) := by decide +kernel
theorem dX4_sit_91 : decode cX4_sit 91 = .ok (.invokestatic 96, 3) := by decide +kernel
theorem dX4_sit_94 : decode cX4_sit 94 = .ok (.iaload, 1) := by decide +kernel
theorem dX4_sit_95 : decode cX4_sit 95 = .ok (.istore 5, 2) := by decide +kernel
theorem dX4_sit_97 : decode cX4_sit 97 = .ok (.iload 5, 2) := by decide +kernel
theorem dX4_sit_99 : decode cX4_sit 99 = .ok (.iconst (-1), 1) := by decide +kernel
theorem dX4_sit_100 : decode cX4_sit 100 = .ok (.if_icmp .eq 47, 3) := by decide +kernel
theorem dX4_sit_103 : decode cX4_sit 103 = .ok (.aload_n 0, 1) := by decide +kernel
theorem dX4_sit_104 : decode cX4_sit 104 = .ok (.iload 4, 2) := by decide +kernel
theorem dX4_sit_106 : decode cX4_sit 106 = .ok (.aload_n 0, 1) := by decide +kernel
theorem dX4_sit_107 : decode cX4_sit 107 = .ok (.getfield 13, 3) := by decide +kernel
theorem dX4_sit_110 : decode cX4_sit 110 = .ok (.iload_n 3, 1) := by decide +kernel
theorem dX4_sit_111 : decode cX4_sit 111 = .ok (.iaload, 1) := by decide +kernel
theorem dX4_sit_112 : decode cX4_sit 112 = .ok (.invokevirtual 113, 3) := by decide +kernel
theorem dX4_sit_115 : decode cX4_sit 115 = .ok (.ifCond .eq 32, 3) := by decide +kernel
theorem dX4_sit_118 : decode cX4_sit 118 = .ok (.aload_n 0, 1) := by decide +kernel
theorem dX4_sit_119 : decode cX4_sit 119 = .ok (.getfield 56, 3) := by decide +kernel
theorem dX4_sit_122 : decode cX4_sit 122 = .ok (.iload 4, 2) := by decide +kernel
theorem dX4_sit_124 : decode cX4_sit 124 = .ok (.aload_n 0, 1) := by decide +kernel
theorem dX4_sit_125 : decode cX4_sit 125 = .ok (.getfield 13, 3) := by decide +kernel
theorem dX4_sit_128 : decode cX4_sit 128 = .ok (.iload_n 3, 1) := by decide +kernel
theorem dX4_sit_129 : decode cX4_sit 129 = .ok (.iaload, 1) := by decide +kernel
theorem dX4_sit_130 : decode cX4_sit 130 = .ok (.aload_n 0, 1) := by decide +kernel
theorem dX4_sit_131 : decode cX4_sit 131 = .ok (.getfield 22, 3) := by decide +kernel
theorem dX4_sit_134 : decode cX4_sit 134 = .ok (.iload_n 3, 1) := by decide +kernel
theorem dX4_sit_135 : decode cX4_sit 135 = .ok (.baload, 1) := by decide +kernel
theorem dX4_sit_136 : decode cX4_sit 136 = .ok (.invokestatic 178, 3) := by decide +kernel
theorem dX4_sit_139 : decode cX4_sit 139 = .ok (.iconst 1, 1) := by decide +kernel
theorem dX4_sit_140 : decode cX4_sit 140 = .ok (.bastore, 1) := by decide +kernel
theorem dX4_sit_141 : decode cX4_sit 141 = .ok (.iinc 2 1, 3) := by decide +kernel
theorem dX4_sit_144 : decode cX4_sit 144 = .ok (.goto 29, 3) := by decide +kernel
theorem dX4_sit_147 : decode cX4_sit 147 = .ok (.iload 5, 2) := by decide +kernel
theorem dX4_sit_149 : decode cX4_sit 149 = .ok (.iconst (-1), 1) := by decide +kernel
theorem dX4_sit_150 : decode cX4_sit 150 = .ok (.if_icmp .eq 23, 3) := by decide +kernel
theorem dX4_sit_153 : decode cX4_sit 153 = .ok (.aload_n 0, 1) := by decide +kernel
theorem dX4_sit_154 : decode cX4_sit 154 = .ok (.iload 4, 2) := by decide +kernel
theorem dX4_sit_156 : decode cX4_sit 156 = .ok (.iload 5, 2) := by decide +kernel
theorem dX4_sit_158 : decode cX4_sit 158 = .ok (.invokevirtual 162, 3) := by decide +kernel
theorem dX4_sit_161 : decode cX4_sit 161 = .ok (.aload_n 0, 1) := by decide +kernel
theorem dX4_sit_162 : decode cX4_sit 162 = .ok (.getfield 41, 3) := by decide +kernel
theorem dX4_sit_165 : decode cX4_sit 165 = .ok (.iload 4, 2) := by decide +kernel
theorem dX4_sit_167 : decode cX4_sit 167 = .ok (.iload_n 3, 1) := by decide +kernel
theorem dX4_sit_168 : decode cX4_sit 168 = .ok (.invokestatic 96, 3) := by decide +kernel
theorem dX4_sit_171 : decode cX4_sit 171 = .ok (.iconst (-1), 1) := by decide +kernel
theorem dX4_sit_172 : decode cX4_sit 172 = .ok (.iastore, 1) := by decide +kernel
theorem dX4_sit_173 : decode cX4_sit 173 = .ok (.iinc 4 1, 3) := by decide +kernel
theorem dX4_sit_176 : decode cX4_sit 176 = .ok (.goto (-111), 3) := by decide +kernel
theorem dX4_sit_179 : decode cX4_sit 179 = .ok (.iinc 3 1, 3) := by decide +kernel
theorem dX4_sit_182 : decode cX4_sit 182 = .ok (.goto (-128), 3) := by decide +kernel
theorem dX4_sit_185 : decode cX4_sit 185 = .ok (.aload_n 0, 1) := by decide +kernel
theorem dX4_sit_186 : decode cX4_sit 186 = .ok (.getfield 53, 3) := by decide +kernel
theorem dX4_sit_189 : decode cX4_sit 189 = .ok (.iload_n 1, 1) := by decide +kernel
theorem dX4_sit_190 : decode cX4_sit 190 = .ok (.iconst 1, 1) := by decide +kernel
theorem dX4_sit_191 : decode cX4_sit 191 = .ok (.bastore, 1) := by decide +kernel
theorem dX4_sit_192 : decode cX4_sit 192 = .ok (.iload_n 2, 1) := by decide +kernel
theorem dX4_sit_193 : decode cX4_sit 193 = .ok (.ireturn, 1) := by decide +kernel
theorem dX4_hasSat_0 : decode cX4_hasSat 0 = .ok (.aload_n 0, 1) := by decide +kernel
theorem dX4_hasSat_1 : decode cX4_hasSat 1 = .ok (.aload_n 0, 1) := by decide +kernel
theorem dX4_hasSat_2 : decode cX4_hasSat 2 = .ok (.iload_n 1, 1) := by decide +kernel
theorem dX4_hasSat_3 : decode cX4_hasSat 3 = .ok (.invokevirtual 90, 3) := by decide +kernel
theorem dX4_hasSat_6 : decode cX4_hasSat 6 = .ok (.ifCond .eq 11, 3) := by decide +kernel
theorem dX4_hasSat_9 : decode cX4_hasSat 9 = .ok (.aload_n 0, 1) := by decide +kernel
theorem dX4_hasSat_10 : decode cX4_hasSat 10 = .ok (.iload_n 2, 1) := by decide +kernel
theorem dX4_hasSat_11 : decode cX4_hasSat 11 = .ok (.invokevirtual 79, 3) := by decide +kernel
theorem dX4_hasSat_14 : decode cX4_hasSat 14 = .ok (.ifCond .ne 7, 3) := by decide +kernel
theorem dX4_hasSat_17 : decode cX4_hasSat 17 = .ok (.iconst 1, 1) := by decide +kernel
theorem dX4_hasSat_18 : decode cX4_hasSat 18 = .ok (.goto 4, 3) := by decide +kernel
theorem dX4_hasSat_21 : decode cX4_hasSat 21 = .ok (.iconst 0, 1) := by decide +kernel
theorem dX4_hasSat_22 : decode cX4_hasSat 22 = .ok (.putfield 59, 3) := by decide +kernel
theorem dX4_hasSat_25 : decode cX4_hasSat 25 = .ok (.aload_n 0, 1) := by decide +kernel
theorem dX4_hasSat_26 : decode cX4_hasSat 26 = .ok (.getfield 59, 3) := by decide +kernel
theorem dX4_hasSat_29 : decode cX4_hasSat 29 = .ok (.ifCond .ne 21, 3) := by decide +kernel
theorem dX4_hasSat_32 : decode cX4_hasSat 32 = .ok (.aload_n 0, 1) := by decide +kernel
theorem dX4_hasSat_33 : decode cX4_hasSat 33 = .ok (.getfield 56, 3) := by decide +kernel
theorem dX4_hasSat_36 : decode cX4_hasSat 36 = .ok (.iload_n 1, 1) := by decide +kernel
theorem dX4_hasSat_37 : decode cX4_hasSat 37 = .ok (.iload_n 2, 1) := by decide +kernel
theorem dX4_hasSat_38 : decode cX4_hasSat 38 = .ok (.iload_n 3, 1) := by decide +kernel
theorem dX4_hasSat_39 : decode cX4_hasSat 39 = .ok (.invokestatic 178, 3) := by decide +kernel
theorem dX4_hasSat_42 : decode cX4_hasSat 42 = .ok (.baload, 1) := by decide +kernel
theorem dX4_hasSat_43 : decode cX4_hasSat 43 = .ok (.ifCond .eq 7, 3) := by decide +kernel
theorem dX4_hasSat_46 : decode cX4_hasSat 46 = .ok (.iconst 1, 1) := by decide +kernel
theorem dX4_hasSat_47 : decode cX4_hasSat 47 = .ok (.goto 4, 3) := by decide +kernel
theorem dX4_hasSat_50 : decode cX4_hasSat 50 = .ok (.iconst 0, 1) := by decide +kernel
theorem dX4_hasSat_51 : decode cX4_hasSat 51 = .ok (.ireturn, 1) := by decide +kernel
theorem dX4_more_0 : decode cX4_more 0 = .ok (.aload_n 0, 1) := by decide +kernel
theorem dX4_more_1 : decode cX4_more 1 = .ok (.iload_n 1, 1) := by decide +kernel
theorem dX4_more_2 : decode cX4_more 2 = .ok (.iload_n 2, 1) := by decide +kernel
theorem dX4_more_3 : decode cX4_more 3 = .ok (.invokevirtual 156, 3) := by decide +kernel
theorem dX4_more_6 : decode cX4_more 6 = .ok (.ifCond .eq 7, 3) := by decide +kernel
theorem dX4_more_9 : decode cX4_more 9 = .ok (.iconst 0, 1) := by decide +kernel
theorem dX4_more_10 : decode cX4_more 10 = .ok (.goto 30, 3) := by decide +kernel
theorem dX4_more_13 : decode cX4_more 13 = .ok (.aload_n 0, 1) := by decide +kernel
theorem dX4_more_14 : decode cX4_more 14 = .ok (.getfield 44, 3) := by decide +kernel
theorem dX4_more_17 : decode cX4_more 17 = .ok (.aload_n 0, 1) := by decide +kernel
theorem dX4_more_18 : decode cX4_more 18 = .ok (.getfield 47, 3) := by decide +kernel
theorem dX4_more_21 : decode cX4_more 21 = .ok (.iconst 2, 1) := by decide +kernel
theorem dX4_more_22 : decode cX4_more 22 = .ok (.iaload, 1) := by decide +kernel
theorem dX4_more_23 : decode cX4_more 23 = .ok (.iload_n 1, 1) := by decide +kernel
theorem dX4_more_24 : decode cX4_more 24 = .ok (.aload_n 0, 1) := by decide +kernel
theorem dX4_more_25 : decode cX4_more 25 = .ok (.getfield 13, 3) := by decide +kernel
theorem dX4_more_28 : decode cX4_more 28 = .ok (.aload_n 0, 1) := by decide +kernel
theorem dX4_more_29 : decode cX4_more 29 = .ok (.iload_n 1, 1) := by decide +kernel
theorem dX4_more_30 : decode cX4_more 30 = .ok (.iload_n 2, 1) := by decide +kernel
theorem dX4_more_31 : decode cX4_more 31 = .ok (.invokevirtual 153, 3) := by decide +kernel
theorem dX4_more_34 : decode cX4_more 34 = .ok (.iaload, 1) := by decide +kernel
theorem dX4_more_35 : decode cX4_more 35 = .ok (.iconst 2, 1) := by decide +kernel
theorem dX4_more_36 : decode cX4_more 36 = .ok (.invokestatic 103, 3) := by decide +kernel
theorem dX4_more_39 : decode cX4_more 39 = .ok (.iaload, 1) := by decide +kernel
theorem dX4_more_40 : decode cX4_more 40 = .ok (.ireturn, 1) := by decide +kernel
theorem dX4_takenShare_0 : decode cX4_takenShare 0 = .ok (.aload_n 0, 1) := by decide +kernel
theorem dX4_takenShare_1 : decode cX4_takenShare 1 = .ok (.aload_n 0, 1) := by decide +kernel
theorem dX4_takenShare_2 : decode cX4_takenShare 2 = .ok (.getfield 73, 3) := by decide +kernel
theorem dX4_takenShare_5 : decode cX4_takenShare 5 = .ok (.ifCond .ne 7, 3) := by decide +kernel
theorem dX4_takenShare_8 : decode cX4_takenShare 8 = .ok (.iconst 1, 1) := by decide +kernel
theorem dX4_takenShare_9 : decode cX4_takenShare 9 = .ok (.goto 4, 3) := by decide +kernel
theorem dX4_takenShare_12 : decode cX4_takenShare 12 = .ok (.iconst 0, 1) := by decide +kernel
theorem dX4_takenShare_13 : decode cX4_takenShare 13 = .ok (.putfield 59, 3) := by decide +kernel
theorem dX4_takenShare_16 : decode cX4_takenShare 16 = .ok (.iconst 0, 1) := by decide +kernel
theorem dX4_takenShare_17 : decode cX4_takenShare 17 = .ok (.istore_n 1, 1) := by decide +kernel
theorem dX4_takenShare_18 : decode cX4_takenShare 18 = .ok (.iconst 0, 1) := by decide +kernel
theorem dX4_takenShare_19 : decode cX4_takenShare 19 = .ok (.istore_n 2, 1) := by decide +kernel
theorem dX4_takenShare_20 : decode cX4_takenShare 20 = .ok (.iconst 0, 1) := by decide +kernel
theorem dX4_takenShare_21 : decode cX4_takenShare 21 = .ok (.istore_n 3, 1) := by decide +kernel
theorem dX4_takenShare_22 : decode cX4_takenShare 22 = .ok (.iload_n 3, 1) := by decide +kernel
theorem dX4_takenShare_23 : decode cX4_takenShare 23 = .ok (.aload_n 0, 1) := by decide +kernel
theorem dX4_takenShare_24 : decode cX4_takenShare 24 = .ok (.getfield 73, 3) := by decide +kernel
theorem dX4_takenShare_27 : decode cX4_takenShare 27 = .ok (.if_icmp .ge 31, 3) := by decide +kernel
theorem dX4_takenShare_30 : decode cX4_takenShare 30 = .ok (.iload_n 1, 1) := by decide +kernel
theorem dX4_takenShare_31 : decode cX4_takenShare 31 = .ok (.aload_n 0, 1) := by decide +kernel
theorem dX4_takenShare_32 : decode cX4_takenShare 32 = .ok (.iload_n 3, 1) := by decide +kernel
theorem dX4_takenShare_33 : decode cX4_takenShare 33 = .ok (.invokevirtual 119, 3) := by decide +kernel
theorem dX4_takenShare_36 : decode cX4_takenShare 36 = .ok (.iadd, 1) := by decide +kernel
theorem dX4_takenShare_37 : decode cX4_takenShare 37 = .ok (.istore_n 1, 1) := by decide +kernel
theorem dX4_takenShare_38 : decode cX4_takenShare 38 = .ok (.iload_n 2, 1) := by decide +kernel
theorem dX4_takenShare_39 : decode cX4_takenShare 39 = .ok (.aload_n 0, 1) := by decide +kernel
theorem dX4_takenShare_40 : decode cX4_takenShare 40 = .ok (.getfield 7, 3) := by decide +kernel
theorem dX4_takenShare_43 : decode cX4_takenShare 43 = .ok (.aload_n 0, 1) := by decide +kernel
theorem dX4_takenShare_44 : decode cX4_takenShare 44 = .ok (.getfield 19, 3) := by decide +kernel
theorem dX4_takenShare_47 : decode cX4_takenShare 47 = .ok (.iload_n 3, 1) := by decide +kernel
theorem dX4_takenShare_48 : decode cX4_takenShare 48 = .ok (.iaload, 1) := by decide +kernel
theorem dX4_takenShare_49 : decode cX4_takenShare 49 = .ok (.iaload, 1) := by decide +kernel
theorem dX4_takenShare_50 : decode cX4_takenShare 50 = .ok (.iadd, 1) := by decide +kernel
theorem dX4_takenShare_51 : decode cX4_takenShare 51 = .ok (.istore_n 2, 1) := by decide +kernel
theorem dX4_takenShare_52 : decode cX4_takenShare 52 = .ok (.iinc 3 1, 3) := by decide +kernel
theorem dX4_takenShare_55 : decode cX4_takenShare 55 = .ok (.goto (-33), 3) := by decide +kernel
theorem dX4_takenShare_58 : decode cX4_takenShare 58 = .ok (.aload_n 0, 1) := by decide +kernel
theorem dX4_takenShare_59 : decode cX4_takenShare 59 = .ok (.getfield 59, 3) := by decide +kernel
theorem dX4_takenShare_62 : decode cX4_takenShare 62 = .ok (.ifCond .le 7, 3) := by decide +kernel
theorem dX4_takenShare_65 : decode cX4_takenShare 65 = .ok (.fconst 0, 1) := by decide +kernel
theorem dX4_takenShare_66 : decode cX4_takenShare 66 = .ok (.goto 8, 3) := by decide +kernel
theorem dX4_takenShare_69 : decode cX4_takenShare 69 = .ok (.iload_n 1, 1) := by decide +kernel
theorem dX4_takenShare_70 : decode cX4_takenShare 70 = .ok (.i2f, 1) := by decide +kernel
theorem dX4_takenShare_71 : decode cX4_takenShare 71 = .ok (.iload_n 2, 1) := by decide +kernel
theorem dX4_takenShare_72 : decode cX4_takenShare 72 = .ok (.i2f, 1) := by decide +kernel
theorem dX4_takenShare_73 : decode cX4_takenShare 73 = .ok (.fdiv, 1) := by decide +kernel
theorem dX4_takenShare_74 : decode cX4_takenShare 74 = .ok (.freturn, 1) := by decide +kernel
theorem dX4_meanPoints_0 : decode cX4_meanPoints 0 = .ok (.aload_n 0, 1) := by decide +kernel
theorem dX4_meanPoints_1 : decode cX4_meanPoints 1 = .ok (.aload_n 0, 1) := by decide +kernel
theorem dX4_meanPoints_2 : decode cX4_meanPoints 2 = .ok (.getfield 63, 3) := by decide +kernel
theorem dX4_meanPoints_5 : decode cX4_meanPoints 5 = .ok (.ifCond .ne 7, 3) := by decide +kernel
theorem dX4_meanPoints_8 : decode cX4_meanPoints 8 = .ok (.iconst 1, 1) := by decide +kernel
theorem dX4_meanPoints_9 : decode cX4_meanPoints 9 = .ok (.goto 4, 3) := by decide +kernel
theorem dX4_meanPoints_12 : decode cX4_meanPoints 12 = .ok (.iconst 0, 1) := by decide +kernel
theorem dX4_meanPoints_13 : decode cX4_meanPoints 13 = .ok (.putfield 59, 3) := by decide +kernel
theorem dX4_meanPoints_16 : decode cX4_meanPoints 16 = .ok (.iconst 0, 1) := by decide +kernel
theorem dX4_meanPoints_17 : decode cX4_meanPoints 17 = .ok (.istore_n 1, 1) := by decide +kernel
theorem dX4_meanPoints_18 : decode cX4_meanPoints 18 = .ok (.iconst 0, 1) := by decide +kernel
theorem dX4_meanPoints_19 : decode cX4_meanPoints 19 = .ok (.istore_n 2, 1) := by decide +kernel
theorem dX4_meanPoints_20 : decode cX4_meanPoints 20 = .ok (.iload_n 2, 1) := by decide +kernel
theorem dX4_meanPoints_21 : decode cX4_meanPoints 21 = .ok (.aload_n 0, 1) := by decide +kernel
theorem dX4_meanPoints_22 : decode cX4_meanPoints 22 = .ok (.getfield 63, 3) := by decide +kernel
theorem dX4_meanPoints_25 : decode cX4_meanPoints 25 = .ok (.if_icmp .ge 18, 3) := by decide +kernel
theorem dX4_meanPoints_28 : decode cX4_meanPoints 28 = .ok (.iload_n 1, 1) := by decide +kernel
theorem dX4_meanPoints_29 : decode cX4_meanPoints 29 = .ok (.aload_n 0, 1) := by decide +kernel
theorem dX4_meanPoints_30 : decode cX4_meanPoints 30 = .ok (.getfield 50, 3) := by decide +kernel
theorem dX4_meanPoints_33 : decode cX4_meanPoints 33 = .ok (.iload_n 2, 1) := by decide +kernel
theorem dX4_meanPoints_34 : decode cX4_meanPoints 34 = .ok (.iaload, 1) := by decide +kernel
theorem dX4_meanPoints_35 : decode cX4_meanPoints 35 = .ok (.iadd, 1) := by decide +kernel
theorem dX4_meanPoints_36 : decode cX4_meanPoints 36 = .ok (.istore_n 1, 1) := by decide +kernel
theorem dX4_meanPoints_37 : decode cX4_meanPoints 37 = .ok (.iinc 2 1, 3) := by decide +kernel
theorem dX4_meanPoints_40 : decode cX4_meanPoints 40 = .ok (.goto (-20), 3) := by decide +kernel
theorem dX4_meanPoints_43 : decode cX4_meanPoints 43 = .ok (.aload_n 0, 1) := by decide +kernel
theorem dX4_meanPoints_44 : decode cX4_meanPoints 44 = .ok (.getfield 59, 3) := by decide +kernel
theorem dX4_meanPoints_47 : decode cX4_meanPoints 47 = .ok (.ifCond .le 7, 3) := by decide +kernel
theorem dX4_meanPoints_50 : decode cX4_meanPoints 50 = .ok (.dconst 0, 1) := by decide +kernel
theorem dX4_meanPoints_51 : decode cX4_meanPoints 51 = .ok (.goto 11, 3) := by decide +kernel
theorem dX4_meanPoints_54 : decode cX4_meanPoints 54 = .ok (.iload_n 1, 1) := by decide +kernel
theorem dX4_meanPoints_55 : decode cX4_meanPoints 55 = .ok (.i2d, 1) := by decide +kernel
theorem dX4_meanPoints_56 : decode cX4_meanPoints 56 = .ok (.aload_n 0, 1) := by decide +kernel
theorem dX4_meanPoints_57 : decode cX4_meanPoints 57 = .ok (.getfield 63, 3) := by decide +kernel
theorem dX4_meanPoints_60 : decode cX4_meanPoints 60 = .ok (.i2d, 1) := by decide +kernel
theorem dX4_meanPoints_61 : decode cX4_meanPoints 61 = .ok (.ddiv, 1) := by decide +kernel
theorem dX4_meanPoints_62 : decode cX4_meanPoints 62 = .ok (.dreturn, 1) := by decide +kernel
theorem dX4_isTrue_0 : decode cX4_isTrue 0 = .ok (.aload_n 0, 1) := by decide +kernel
theorem dX4_isTrue_1 : decode cX4_isTrue 1 = .ok (.iconst 0, 1) := by decide +kernel
theorem dX4_isTrue_2 : decode cX4_isTrue 2 = .ok (.putfield 59, 3) := by decide +kernel
theorem dX4_isTrue_5 : decode cX4_isTrue 5 = .ok (.iconst 1, 1) := by decide +kernel
theorem dX4_isTrue_6 : decode cX4_isTrue 6 = .ok (.ireturn, 1) := by decide +kernel
end
section
theorem dL_room_0 : decode cL_room 0 = .ok (.aload_n 2, 1) := by decide +kernel
theorem dL_room_1 : decode cL_room 1 = .ok (.iconst 0, 1) := by decide +kernel
theorem dL_room_2 : decode cL_room 2 = .ok (.aload_n 0, 1) := by decide +kernel
theorem dL_room_3 : decode cL_room 3 = .ok (.iload_n 1, 1) := by decide +kernel
theorem dL_room_4 : decode cL_room 4 = .ok (.invokevirtual 7, 3) := by decide +kernel
theorem dL_room_7 : decode cL_room 7 = .ok (.i2l, 1) := by decide +kernel
theorem dL_room_8 : decode cL_room 8 = .ok (.lastore, 1) := by decide +kernel
theorem dL_room_9 : decode cL_room 9 = .ok (.goto 9, 3) := by decide +kernel
theorem dL_room_12 : decode cL_room 12 = .ok (.astore_n 3, 1) := by decide +kernel
theorem dL_room_13 : decode cL_room 13 = .ok (.iconst 1, 1) := by decide +kernel
theorem dL_room_14 : decode cL_room 14 = .ok (.ireturn, 1) := by decide +kernel
theorem dL_room_15 : decode cL_room 15 = .ok (.astore_n 3, 1) := by decide +kernel
theorem dL_room_16 : decode cL_room 16 = .ok (.iconst 2, 1) := by decide +kernel
theorem dL_room_17 : decode cL_room 17 = .ok (.ireturn, 1) := by decide +kernel
theorem dL_room_18 : decode cL_room 18 = .ok (.iconst 0, 1) := by decide +kernel
theorem dL_room_19 : decode cL_room 19 = .ok (.ireturn, 1) := by decide +kernel
theorem dL_exam_0 : decode cL_exam 0 = .ok (.aload_n 1, 1) := by decide +kernel
theorem dL_exam_1 : decode cL_exam 1 = .ok (.iconst 0, 1) := by decide +kernel
theorem dL_exam_2 : decode cL_exam 2 = .ok (.aload_n 0, 1) := by decide +kernel
theorem dL_exam_3 : decode cL_exam 3 = .ok (.invokevirtual 17, 3) := by decide +kernel
theorem dL_exam_6 : decode cL_exam 6 = .ok (.i2l, 1) := by decide +kernel
theorem dL_exam_7 : decode cL_exam 7 = .ok (.lastore, 1) := by decide +kernel
theorem dL_exam_8 : decode cL_exam 8 = .ok (.goto 6, 3) := by decide +kernel
theorem dL_exam_11 : decode cL_exam 11 = .ok (.astore_n 2, 1) := by decide +kernel
theorem dL_exam_12 : decode cL_exam 12 = .ok (.iconst 1, 1) := by decide +kernel
theorem dL_exam_13 : decode cL_exam 13 = .ok (.ireturn, 1) := by decide +kernel
theorem dL_exam_14 : decode cL_exam 14 = .ok (.iconst 0, 1) := by decide +kernel
theorem dL_exam_15 : decode cL_exam 15 = .ok (.ireturn, 1) := by decide +kernel
theorem dL_pupil_0 : decode cL_pupil 0 = .ok (.aload_n 1, 1) := by decide +kernel
theorem dL_pupil_1 : decode cL_pupil 1 = .ok (.iconst 0, 1) := by decide +kernel
theorem dL_pupil_2 : decode cL_pupil 2 = .ok (.aload_n 0, 1) := by decide +kernel
theorem dL_pupil_3 : decode cL_pupil 3 = .ok (.invokevirtual 21, 3) := by decide +kernel
theorem dL_pupil_6 : decode cL_pupil 6 = .ok (.i2l, 1) := by decide +kernel
theorem dL_pupil_7 : decode cL_pupil 7 = .ok (.lastore, 1) := by decide +kernel
theorem dL_pupil_8 : decode cL_pupil 8 = .ok (.goto 6, 3) := by decide +kernel
theorem dL_pupil_11 : decode cL_pupil 11 = .ok (.astore_n 2, 1) := by decide +kernel
theorem dL_pupil_12 : decode cL_pupil 12 = .ok (.iconst 1, 1) := by decide +kernel
theorem dL_pupil_13 : decode cL_pupil 13 = .ok (.ireturn, 1) := by decide +kernel
theorem dL_pupil_14 : decode cL_pupil 14 = .ok (.iconst 0, 1) := by decide +kernel
theorem dL_pupil_15 : decode cL_pupil 15 = .ok (.ireturn, 1) := by decide +kernel
theorem dL_offer_0 : decode cL_offer 0 = .ok (.aload 5, 2) := by decide +kernel
theorem dL_offer_2 : decode cL_offer 2 = .ok (.iconst 0, 1) := by decide +kernel
theorem dL_offer_3 : decode cL_offer 3 = .ok (.aload_n 0, 1) := by decide +kernel
theorem dL_offer_4 : decode cL_offer 4 = .ok (.iload_n 1, 1) := by decide +kernel
theorem dL_offer_5 : decode cL_offer 5 = .ok (.iload_n 2, 1) := by decide +kernel
theorem dL_offer_6 : decode cL_offer 6 = .ok (.iload_n 3, 1) := by decide +kernel
theorem dL_offer_7 : decode cL_offer 7 = .ok (.iload 4, 2) := by decide +kernel
theorem dL_offer_9 : decode cL_offer 9 = .ok (.invokevirtual 24, 3) := by decide +kernel
theorem dL_offer_12 : decode cL_offer 12 = .ok (.i2l, 1) := by decide +kernel
theorem dL_offer_13 : decode cL_offer 13 = .ok (.lastore, 1) := by decide +kernel
theorem dL_offer_14 : decode cL_offer 14 = .ok (.goto 19, 3) := by decide +kernel
theorem dL_offer_17 : decode cL_offer 17 = .ok (.astore 6, 2) := by decide +kernel
theorem dL_offer_19 : decode cL_offer 19 = .ok (.iconst 1, 1) := by decide +kernel
theorem dL_offer_20 : decode cL_offer 20 = .ok (.ireturn, 1) := by decide +kernel
theorem dL_offer_21 : decode cL_offer 21 = .ok (.astore 6, 2) := by decide +kernel
theorem dL_offer_23 : decode cL_offer 23 = .ok (.iconst 2, 1) := by decide +kernel
theorem dL_offer_24 : decode cL_offer 24 = .ok (.ireturn, 1) := by decide +kernel
theorem dL_offer_25 : decode cL_offer 25 = .ok (.astore 6, 2) := by decide +kernel
theorem dL_offer_27 : decode cL_offer 27 = .ok (.iconst 3, 1) := by decide +kernel
theorem dL_offer_28 : decode cL_offer 28 = .ok (.ireturn, 1) := by decide +kernel
theorem dL_offer_29 : decode cL_offer 29 = .ok (.astore 6, 2) := by decide +kernel
theorem dL_offer_31 : decode cL_offer 31 = .ok (.iconst 4, 1) := by decide +kernel
theorem dL_offer_32 : decode cL_offer 32 = .ok (.ireturn, 1) := by decide +kernel
theorem dL_offer_33 : decode cL_offer 33 = .ok (.iconst 0, 1) := by decide +kernel
theorem dL_offer_34 : decode cL_offer 34 = .ok (.ireturn, 1) := by decide +kernel
theorem dL_bid_0 : decode cL_bid 0 = .ok (.aload 4, 2) := by decide +kernel
theorem dL_bid_2 : decode cL_bid 2 = .ok (.iconst 0, 1) := by decide +kernel
theorem dL_bid_3 : decode cL_bid 3 = .ok (.aload_n 0, 1) := by decide +kernel
theorem dL_bid_4 : decode cL_bid 4 = .ok (.iload_n 1, 1) := by decide +kernel
theorem dL_bid_5 : decode cL_bid 5 = .ok (.iload_n 2, 1) := by decide +kernel
theorem dL_bid_6 : decode cL_bid 6 = .ok (.iload_n 3, 1) := by decide +kernel
theorem dL_bid_7 : decode cL_bid 7 = .ok (.invokevirtual 32, 3) := by decide +kernel
theorem dL_bid_10 : decode cL_bid 10 = .ok (.i2l, 1) := by decide +kernel
theorem dL_bid_11 : decode cL_bid 11 = .ok (.lastore, 1) := by decide +kernel
theorem dL_bid_12 : decode cL_bid 12 = .ok (.goto 15, 3) := by decide +kernel
theorem dL_bid_15 : decode cL_bid 15 = .ok (.astore 5, 2) := by decide +kernel
theorem dL_bid_17 : decode cL_bid 17 = .ok (.iconst 1, 1) := by decide +kernel
theorem dL_bid_18 : decode cL_bid 18 = .ok (.ireturn, 1) := by decide +kernel
theorem dL_bid_19 : decode cL_bid 19 = .ok (.astore 5, 2) := by decide +kernel
theorem dL_bid_21 : decode cL_bid 21 = .ok (.iconst 2, 1) := by decide +kernel
theorem dL_bid_22 : decode cL_bid 22 = .ok (.ireturn, 1) := by decide +kernel
theorem dL_bid_23 : decode cL_bid 23 = .ok (.astore 5, 2) := by decide +kernel
theorem dL_bid_25 : decode cL_bid 25 = .ok (.iconst 3, 1) := by decide +kernel
theorem dL_bid_26 : decode cL_bid 26 = .ok (.ireturn, 1) := by decide +kernel
theorem dL_bid_27 : decode cL_bid 27 = .ok (.iconst 0, 1) := by decide +kernel
theorem dL_bid_28 : decode cL_bid 28 = .ok (.ireturn, 1) := by decide +kernel
theorem dL_unbid_0 : decode cL_unbid 0 = .ok (.aload_n 3, 1) := by decide +kernel
theorem dL_unbid_1 : decode cL_unbid 1 = .ok (.iconst 0, 1) := by decide +kernel
theorem dL_unbid_2 : decode cL_unbid 2 = .ok (.aload_n 0, 1) := by decide +kernel
theorem dL_unbid_3 : decode cL_unbid 3 = .ok (.iload_n 1, 1) := by decide +kernel
theorem dL_unbid_4 : decode cL_unbid 4 = .ok (.iload_n 2, 1) := by decide +kernel
theorem dL_unbid_5 : decode cL_unbid 5 = .ok (.invokevirtual 36, 3) := by decide +kernel
theorem dL_unbid_8 : decode cL_unbid 8 = .ok (.i2l, 1) := by decide +kernel
theorem dL_unbid_9 : decode cL_unbid 9 = .ok (.lastore, 1) := by decide +kernel
theorem dL_unbid_10 : decode cL_unbid 10 = .ok (.goto 11, 3) := by decide +kernel
theorem dL_unbid_13 : decode cL_unbid 13 = .ok (.astore 4, 2) := by decide +kernel
theorem dL_unbid_15 : decode cL_unbid 15 = .ok (.iconst 1, 1) := by decide +kernel
theorem dL_unbid_16 : decode cL_unbid 16 = .ok (.ireturn, 1) := by decide +kernel
theorem dL_unbid_17 : decode cL_unbid 17 = .ok (.astore 4, 2) := by decide +kernel
theorem dL_unbid_19 : decode cL_unbid 19 = .ok (.iconst 2, 1) := by decide +kernel
theorem dL_unbid_20 : decode cL_unbid 20 = .ok (.ireturn, 1) := by decide +kernel
theorem dL_unbid_21 : decode cL_unbid 21 = .ok (.iconst 0, 1) := by decide +kernel
theorem dL_unbid_22 : decode cL_unbid 22 = .ok (.ireturn, 1) := by decide +kernel
theorem dL_points_0 : decode cL_points 0 = .ok (.aload_n 2, 1) := by decide +kernel
theorem dL_points_1 : decode cL_points 1 = .ok (.iconst 0, 1) := by decide +kernel
theorem dL_points_2 : decode cL_points 2 = .ok (.aload_n 0, 1) := by decide +kernel
theorem dL_points_3 : decode cL_points 3 = .ok (.iload_n 1, 1) := by decide +kernel
theorem dL_points_4 : decode cL_points 4 = .ok (.invokevirtual 42, 3) := by decide +kernel
theorem dL_points_7 : decode cL_points 7 = .ok (.i2l, 1) := by decide +kernel
theorem dL_points_8 : decode cL_points 8 = .ok (.lastore, 1) := by decide +kernel
theorem dL_points_9 : decode cL_points 9 = .ok (.goto 6, 3) := by decide +kernel
theorem dL_points_12 : decode cL_points 12 = .ok (.astore_n 3, 1) := by decide +kernel
theorem dL_points_13 : decode cL_points 13 = .ok (.iconst 1, 1) := by decide +kernel
theorem dL_points_14 : decode cL_points 14 = .ok (.ireturn, 1) := by decide +kernel
theorem dL_points_15 : decode cL_points 15 = .ok (.iconst 0, 1) := by decide +kernel
theorem dL_points_16 : decode cL_points 16 = .ok (.ireturn, 1) := by decide +kernel
theorem dL_seat_0 : decode cL_seat 0 = .ok (.aload 4, 2) := by decide +kernel
theorem dL_seat_2 : decode cL_seat 2 = .ok (.iconst 0, 1) := by decide +kernel
theorem dL_seat_3 : decode cL_seat 3 = .ok (.aload_n 0, 1) := by decide +kernel
theorem dL_seat_4 : decode cL_seat 4 = .ok (.iload_n 1, 1) := by decide +kernel
theorem dL_seat_5 : decode cL_seat 5 = .ok (.iload_n 2, 1) := by decide +kernel
theorem dL_seat_6 : decode cL_seat 6 = .ok (.iload_n 3, 1) := by decide +kernel
theorem dL_seat_7 : decode cL_seat 7 = .ok (.invokevirtual 45, 3) := by decide +kernel
theorem dL_seat_10 : decode cL_seat 10 = .ok (.i2l, 1) := by decide +kernel
theorem dL_seat_11 : decode cL_seat 11 = .ok (.lastore, 1) := by decide +kernel
theorem dL_seat_12 : decode cL_seat 12 = .ok (.goto 11, 3) := by decide +kernel
theorem dL_seat_15 : decode cL_seat 15 = .ok (.astore 5, 2) := by decide +kernel
theorem dL_seat_17 : decode cL_seat 17 = .ok (.iconst 1, 1) := by decide +kernel
theorem dL_seat_18 : decode cL_seat 18 = .ok (.ireturn, 1) := by decide +kernel
theorem dL_seat_19 : decode cL_seat 19 = .ok (.astore 5, 2) := by decide +kernel
theorem dL_seat_21 : decode cL_seat 21 = .ok (.iconst 2, 1) := by decide +kernel
theorem dL_seat_22 : decode cL_seat 22 = .ok (.ireturn, 1) := by decide +kernel
theorem dL_seat_23 : decode cL_seat 23 = .ok (.iconst 0, 1) := by decide +kernel
theorem dL_seat_24 : decode cL_seat 24 = .ok (.ireturn, 1) := by decide +kernel
theorem dL_at_0 : decode cL_at 0 = .ok (.aload_n 3, 1) := by decide +kernel
theorem dL_at_1 : decode cL_at 1 = .ok (.iconst 0, 1) := by decide +kernel
theorem dL_at_2 : decode cL_at 2 = .ok (.aload_n 0, 1) := by decide +kernel
theorem dL_at_3 : decode cL_at 3 = .ok (.iload_n 1, 1) := by decide +kernel
theorem dL_at_4 : decode cL_at 4 = .ok (.iload_n 2, 1) := by decide +kernel
theorem dL_at_5 : decode cL_at 5 = .ok (.invokevirtual 49, 3) := by decide +kernel
theorem dL_at_8 : decode cL_at 8 = .ok (.i2l, 1) := by decide +kernel
theorem dL_at_9 : decode cL_at 9 = .ok (.lastore, 1) := by decide +kernel
theorem dL_at_10 : decode cL_at 10 = .ok (.goto 15, 3) := by decide +kernel
theorem dL_at_13 : decode cL_at 13 = .ok (.astore 4, 2) := by decide +kernel
theorem dL_at_15 : decode cL_at 15 = .ok (.iconst 1, 1) := by decide +kernel
theorem dL_at_16 : decode cL_at 16 = .ok (.ireturn, 1) := by decide +kernel
theorem dL_at_17 : decode cL_at 17 = .ok (.astore 4, 2) := by decide +kernel
theorem dL_at_19 : decode cL_at 19 = .ok (.iconst 2, 1) := by decide +kernel
theorem dL_at_20 : decode cL_at 20 = .ok (.ireturn, 1) := by decide +kernel
theorem dL_at_21 : decode cL_at 21 = .ok (.astore 4, 2) := by decide +kernel
theorem dL_at_23 : decode cL_at 23 = .ok (.iconst 3, 1) := by decide +kernel
theorem dL_at_24 : decode cL_at 24 = .ok (.ireturn, 1) := by decide +kernel
theorem dL_at_25 : decode cL_at 25 = .ok (.iconst 0, 1) := by decide +kernel
theorem dL_at_26 : decode cL_at 26 = .ok (.ireturn, 1) := by decide +kernel
theorem dL_holders_0 : decode cL_holders 0 = .ok (.aload_n 2, 1) := by decide +kernel
theorem dL_holders_1 : decode cL_holders 1 = .ok (.iconst 0, 1) := by decide +kernel
theorem dL_holders_2 : decode cL_holders 2 = .ok (.aload_n 0, 1) := by decide +kernel
theorem dL_holders_3 : decode cL_holders 3 = .ok (.iload_n 1, 1) := by decide +kernel
theorem dL_holders_4 : decode cL_holders 4 = .ok (.invokevirtual 52, 3) := by decide +kernel
theorem dL_holders_7 : decode cL_holders 7 = .ok (.i2l, 1) := by decide +kernel
theorem dL_holders_8 : decode cL_holders 8 = .ok (.lastore, 1) := by decide +kernel
theorem dL_holders_9 : decode cL_holders 9 = .ok (.goto 6, 3) := by decide +kernel
theorem dL_holders_12 : decode cL_holders 12 = .ok (.astore_n 3, 1) := by decide +kernel
theorem dL_holders_13 : decode cL_holders 13 = .ok (.iconst 1, 1) := by decide +kernel
theorem dL_holders_14 : decode cL_holders 14 = .ok (.ireturn, 1) := by decide +kernel
theorem dL_holders_15 : decode cL_holders 15 = .ok (.iconst 0, 1) := by decide +kernel
theorem dL_holders_16 : decode cL_holders 16 = .ok (.ireturn, 1) := by decide +kernel
theorem dL_holder_0 : decode cL_holder 0 = .ok (.aload_n 3, 1) := by decide +kernel
theorem dL_holder_1 : decode cL_holder 1 = .ok (.iconst 0, 1) := by decide +kernel
theorem dL_holder_2 : decode cL_holder 2 = .ok (.aload_n 0, 1) := by decide +kernel
theorem dL_holder_3 : decode cL_holder 3 = .ok (.iload_n 1, 1) := by decide +kernel
theorem dL_holder_4 : decode cL_holder 4 = .ok (.iload_n 2, 1) := by decide +kernel
theorem dL_holder_5 : decode cL_holder 5 = .ok (.invokevirtual 55, 3) := by decide +kernel
theorem dL_holder_8 : decode cL_holder 8 = .ok (.i2l, 1) := by decide +kernel
theorem dL_holder_9 : decode cL_holder 9 = .ok (.lastore, 1) := by decide +kernel
theorem dL_holder_10 : decode cL_holder 10 = .ok (.goto 11, 3) := by decide +kernel
theorem dL_holder_13 : decode cL_holder 13 = .ok (.astore 4, 2) := by decide +kernel
theorem dL_holder_15 : decode cL_holder 15 = .ok (.iconst 1, 1) := by decide +kernel
theorem dL_holder_16 : decode cL_holder 16 = .ok (.ireturn, 1) := by decide +kernel
theorem dL_holder_17 : decode cL_holder 17 = .ok (.astore 4, 2) := by decide +kernel
theorem dL_holder_19 : decode cL_holder 19 = .ok (.iconst 2, 1) := by decide +kernel
theorem dL_holder_20 : decode cL_holder 20 = .ok (.ireturn, 1) := by decide +kernel
theorem dL_holder_21 : decode cL_holder 21 = .ok (.iconst 0, 1) := by decide +kernel
theorem dL_holder_22 : decode cL_holder 22 = .ok (.ireturn, 1) := by decide +kernel
theorem dL_paid_0 : decode cL_paid 0 = .ok (.aload_n 3, 1) := by decide +kernel
theorem dL_paid_1 : decode cL_paid 1 = .ok (.iconst 0, 1) := by decide +kernel
theorem dL_paid_2 : decode cL_paid 2 = .ok (.aload_n 0, 1) := by decide +kernel
theorem dL_paid_3 : decode cL_paid 3 = .ok (.iload_n 1, 1) := by decide +kernel
theorem dL_paid_4 : decode cL_paid 4 = .ok (.iload_n 2, 1) := by decide +kernel
theorem dL_paid_5 : decode cL_paid 5 = .ok (.invokevirtual 58, 3) := by decide +kernel
theorem dL_paid_8 : decode cL_paid 8 = .ok (.i2l, 1) := by decide +kernel
theorem dL_paid_9 : decode cL_paid 9 = .ok (.lastore, 1) := by decide +kernel
theorem dL_paid_10 : decode cL_paid 10 = .ok (.goto 11, 3) := by decide +kernel
theorem dL_paid_13 : decode cL_paid 13 = .ok (.astore 4, 2) := by decide +kernel
theorem dL_paid_15 : decode cL_paid 15 = .ok (.iconst 1, 1) := by decide +kernel
theorem dL_paid_16 : decode cL_paid 16 = .ok (.ireturn, 1) := by decide +kernel
theorem dL_paid_17 : decode cL_paid 17 = .ok (.astore 4, 2) := by decide +kernel
theorem dL_paid_19 : decode cL_paid 19 = .ok (.iconst 2, 1) := by decide +kernel
theorem dL_paid_20 : decode cL_paid 20 = .ok (.ireturn, 1) := by decide +kernel
theorem dL_paid_21 : decode cL_paid 21 = .ok (.iconst 0, 1) := by decide +kernel
theorem dL_paid_22 : decode cL_paid 22 = .ok (.ireturn, 1) := by decide +kernel
theorem dL_waiting_0 : decode cL_waiting 0 = .ok (.aload_n 2, 1) := by decide +kernel
theorem dL_waiting_1 : decode cL_waiting 1 = .ok (.iconst 0, 1) := by decide +kernel
theorem dL_waiting_2 : decode cL_waiting 2 = .ok (.aload_n 0, 1) := by decide +kernel
theorem dL_waiting_3 : decode cL_waiting 3 = .ok (.iload_n 1, 1) := by decide +kernel
theorem dL_waiting_4 : decode cL_waiting 4 = .ok (.invokevirtual 61, 3) := by decide +kernel
theorem dL_waiting_7 : decode cL_waiting 7 = .ok (.i2l, 1) := by decide +kernel
theorem dL_waiting_8 : decode cL_waiting 8 = .ok (.lastore, 1) := by decide +kernel
theorem dL_waiting_9 : decode cL_waiting 9 = .ok (.goto 6, 3) := by decide +kernel
theorem dL_waiting_12 : decode cL_waiting 12 = .ok (.astore_n 3, 1) := by decide +kernel
theorem dL_waiting_13 : decode cL_waiting 13 = .ok (.iconst 1, 1) := by decide +kernel
theorem dL_waiting_14 : decode cL_waiting 14 = .ok (.ireturn, 1) := by decide +kernel
theorem dL_waiting_15 : decode cL_waiting 15 = .ok (.iconst 0, 1) := by decide +kernel
theorem dL_waiting_16 : decode cL_waiting 16 = .ok (.ireturn, 1) := by decide +kernel
theorem dL_waiter_0 : decode cL_waiter 0 = .ok (.aload_n 3, 1) := by decide +kernel
theorem dL_waiter_1 : decode cL_waiter 1 = .ok (.iconst 0, 1) := by decide +kernel
theorem dL_waiter_2 : decode cL_waiter 2 = .ok (.aload_n 0, 1) := by decide +kernel
theorem dL_waiter_3 : decode cL_waiter 3 = .ok (.iload_n 1, 1) := by decide +kernel
theorem dL_waiter_4 : decode cL_waiter 4 = .ok (.iload_n 2, 1) := by decide +kernel
theorem dL_waiter_5 : decode cL_waiter 5 = .ok (.invokevirtual 64, 3) := by decide +kernel
theorem dL_waiter_8 : decode cL_waiter 8 = .ok (.i2l, 1) := by decide +kernel
theorem dL_waiter_9 : decode cL_waiter 9 = .ok (.lastore, 1) := by decide +kernel
theorem dL_waiter_10 : decode cL_waiter 10 = .ok (.goto 11, 3) := by decide +kernel
theorem dL_waiter_13 : decode cL_waiter 13 = .ok (.astore 4, 2) := by decide +kernel
theorem dL_waiter_15 : decode cL_waiter 15 = .ok (.iconst 1, 1) := by decide +kernel
theorem dL_waiter_16 : decode cL_waiter 16 = .ok (.ireturn, 1) := by decide +kernel
theorem dL_waiter_17 : decode cL_waiter 17 = .ok (.astore 4, 2) := by decide +kernel
theorem dL_waiter_19 : decode cL_waiter 19 = .ok (.iconst 2, 1) := by decide +kernel
theorem dL_waiter_20 : decode cL_waiter 20 = .ok (.ireturn, 1) := by decide +kernel
theorem dL_waiter_21 : decode cL_waiter 21 = .ok (.iconst 0, 1) := by decide +kernel
theorem dL_waiter_22 : decode cL_waiter 22 = .ok (.ireturn, 1) := by decide +kernel
theorem dL_giveUp_0 : decode cL_giveUp 0 = .ok (.aload_n 3, 1) := by decide +kernel
theorem dL_giveUp_1 : decode cL_giveUp 1 = .ok (.iconst 0, 1) := by decide +kernel
theorem dL_giveUp_2 : decode cL_giveUp 2 = .ok (.aload_n 0, 1) := by decide +kernel
theorem dL_giveUp_3 : decode cL_giveUp 3 = .ok (.iload_n 1, 1) := by decide +kernel
theorem dL_giveUp_4 : decode cL_giveUp 4 = .ok (.iload_n 2, 1) := by decide +kernel
theorem dL_giveUp_5 : decode cL_giveUp 5 = .ok (.invokevirtual 67, 3) := by decide +kernel
theorem dL_giveUp_8 : decode cL_giveUp 8 = .ok (.i2l, 1) := by decide +kernel
theorem dL_giveUp_9 : decode cL_giveUp 9 = .ok (.lastore, 1) := by decide +kernel
theorem dL_giveUp_10 : decode cL_giveUp 10 = .ok (.goto 11, 3) := by decide +kernel
theorem dL_giveUp_13 : decode cL_giveUp 13 = .ok (.astore 4, 2) := by decide +kernel
theorem dL_giveUp_15 : decode cL_giveUp 15 = .ok (.iconst 1, 1) := by decide +kernel
theorem dL_giveUp_16 : decode cL_giveUp 16 = .ok (.ireturn, 1) := by decide +kernel
theorem dL_giveUp_17 : decode cL_giveUp 17 = .ok (.astore 4, 2) := by decide +kernel
theorem dL_giveUp_19 : decode cL_giveUp 19 = .ok (.iconst 2, 1) := by decide +kernel
theorem dL_giveUp_20 : decode cL_giveUp 20 = .ok (.ireturn, 1) := by decide +kernel
theorem dL_giveUp_21 : decode cL_giveUp 21 = .ok (.iconst 0, 1) := by decide +kernel
theorem dL_giveUp_22 : decode cL_giveUp 22 = .ok (.ireturn, 1) := by decide +kernel
theorem dL_move_0 : decode cL_move 0 = .ok (.aload_n 3, 1) := by decide +kernel
theorem dL_move_1 : decode cL_move 1 = .ok (.iconst 0, 1) := by decide +kernel
theorem dL_move_2 : decode cL_move 2 = .ok (.aload_n 0, 1) := by decide +kernel
theorem dL_move_3 : decode cL_move 3 = .ok (.iload_n 1, 1) := by decide +kernel
theorem dL_move_4 : decode cL_move 4 = .ok (.iload_n 2, 1) := by decide +kernel
theorem dL_move_5 : decode cL_move 5 = .ok (.invokevirtual 70, 3) := by decide +kernel
theorem dL_move_8 : decode cL_move 8 = .ok (.i2l, 1) := by decide +kernel
theorem dL_move_9 : decode cL_move 9 = .ok (.lastore, 1) := by decide +kernel
theorem dL_move_10 : decode cL_move 10 = .ok (.goto 15, 3) := by decide +kernel
theorem dL_move_13 : decode cL_move 13 = .ok (.astore 4, 2) := by decide +kernel
theorem dL_move_15 : decode cL_move 15 = .ok (.iconst 1, 1) := by decide +kernel
theorem dL_move_16 : decode cL_move 16 = .ok (.ireturn, 1) := by decide +kernel
theorem dL_move_17 : decode cL_move 17 = .ok (.astore 4, 2) := by decide +kernel
theorem dL_move_19 : decode cL_move 19 = .ok (.iconst 2, 1) := by decide +kernel
theorem dL_move_20 : decode cL_move 20 = .ok (.ireturn, 1) := by decide +kernel
theorem dL_move_21 : decode cL_move 21 = .ok (.astore 4, 2) := by decide +kernel
theorem dL_move_23 : decode cL_move 23 = .ok (.iconst 3, 1) := by decide +kernel
theorem dL_move_24 : decode cL_move 24 = .ok (.ireturn, 1) := by decide +kernel
theorem dL_move_25 : decode cL_move 25 = .ok (.iconst 0, 1) := by decide +kernel
theorem dL_move_26 : decode cL_move 26 = .ok (.ireturn, 1) := by decide +kernel
theorem dL_slotOf_0 : decode cL_slotOf 0 = .ok (.aload_n 2, 1) := by decide +kernel
theorem dL_slotOf_1 : decode cL_slotOf 1 = .ok (.iconst 0, 1) := by decide +kernel
theorem dL_slotOf_2 : decode cL_slotOf 2 = .ok (.aload_n 0, 1) := by decide +kernel
theorem dL_slotOf_3 : decode cL_slotOf 3 = .ok (.iload_n 1, 1) := by decide +kernel
theorem dL_slotOf_4 : decode cL_slotOf 4 = .ok (.invokevirtual 73, 3) := by decide +kernel
theorem dL_slotOf_7 : decode cL_slotOf 7 = .ok (.i2l, 1) := by decide +kernel
theorem dL_slotOf_8 : decode cL_slotOf 8 = .ok (.lastore, 1) := by decide +kernel
theorem dL_slotOf_9 : decode cL_slotOf 9 = .ok (.goto 6, 3) := by decide +kernel
theorem dL_slotOf_12 : decode cL_slotOf 12 = .ok (.astore_n 3, 1) := by decide +kernel
theorem dL_slotOf_13 : decode cL_slotOf 13 = .ok (.iconst 1, 1) := by decide +kernel
theorem dL_slotOf_14 : decode cL_slotOf 14 = .ok (.ireturn, 1) := by decide +kernel
theorem dL_slotOf_15 : decode cL_slotOf 15 = .ok (.iconst 0, 1) := by decide +kernel
theorem dL_slotOf_16 : decode cL_slotOf 16 = .ok (.ireturn, 1) := by decide +kernel
theorem dL_write_0 : decode cL_write 0 = .ok (.aload 6, 2) := by decide +kernel
theorem dL_write_2 : decode cL_write 2 = .ok (.iconst 0, 1) := by decide +kernel
theorem dL_write_3 : decode cL_write 3 = .ok (.aload_n 0, 1) := by decide +kernel
theorem dL_write_4 : decode cL_write 4 = .ok (.iload_n 1, 1) := by decide +kernel
theorem dL_write_5 : decode cL_write 5 = .ok (.iload_n 2, 1) := by decide +kernel
theorem dL_write_6 : decode cL_write 6 = .ok (.iload_n 3, 1) := by decide +kernel
theorem dL_write_7 : decode cL_write 7 = .ok (.iload 4, 2) := by decide +kernel
theorem dL_write_9 : decode cL_write 9 = .ok (.iload 5, 2) := by decide +kernel
theorem dL_write_11 : decode cL_write 11 = .ok (.invokevirtual 76, 3) := by decide +kernel
theorem dL_write_14 : decode cL_write 14 = .ok (.i2l, 1) := by decide +kernel
theorem dL_write_15 : decode cL_write 15 = .ok (.lastore, 1) := by decide +kernel
theorem dL_write_16 : decode cL_write 16 = .ok (.goto 11, 3) := by decide +kernel
theorem dL_write_19 : decode cL_write 19 = .ok (.astore 7, 2) := by decide +kernel
theorem dL_write_21 : decode cL_write 21 = .ok (.iconst 1, 1) := by decide +kernel
theorem dL_write_22 : decode cL_write 22 = .ok (.ireturn, 1) := by decide +kernel
theorem dL_write_23 : decode cL_write 23 = .ok (.astore 7, 2) := by decide +kernel
theorem dL_write_25 : decode cL_write 25 = .ok (.iconst 2, 1) := by decide +kernel
theorem dL_write_26 : decode cL_write 26 = .ok (.ireturn, 1) := by decide +kernel
theorem dL_write_27 : decode cL_write 27 = .ok (.iconst 0, 1) := by decide +kernel
theorem dL_write_28 : decode cL_write 28 = .ok (.ireturn, 1) := by decide +kernel
theorem dL_read_0 : decode cL_read 0 = .ok (.aload 5, 2) := by decide +kernel
theorem dL_read_2 : decode cL_read 2 = .ok (.iconst 0, 1) := by decide +kernel
theorem dL_read_3 : decode cL_read 3 = .ok (.aload_n 0, 1) := by decide +kernel
theorem dL_read_4 : decode cL_read 4 = .ok (.iload_n 1, 1) := by decide +kernel
theorem dL_read_5 : decode cL_read 5 = .ok (.iload_n 2, 1) := by decide +kernel
theorem dL_read_6 : decode cL_read 6 = .ok (.iload_n 3, 1) := by decide +kernel
theorem dL_read_7 : decode cL_read 7 = .ok (.iload 4, 2) := by decide +kernel
theorem dL_read_9 : decode cL_read 9 = .ok (.invokevirtual 80, 3) := by decide +kernel
theorem dL_read_12 : decode cL_read 12 = .ok (.i2l, 1) := by decide +kernel
theorem dL_read_13 : decode cL_read 13 = .ok (.lastore, 1) := by decide +kernel
theorem dL_read_14 : decode cL_read 14 = .ok (.goto 11, 3) := by decide +kernel
theorem dL_read_17 : decode cL_read 17 = .ok (.astore 6, 2) := by decide +kernel
theorem dL_read_19 : decode cL_read 19 = .ok (.iconst 1, 1) := by decide +kernel
theorem dL_read_20 : decode cL_read 20 = .ok (.ireturn, 1) := by decide +kernel
theorem dL_read_21 : decode cL_read 21 = .ok (.astore 6, 2) := by decide +kernel
theorem dL_read_23 : decode cL_read 23 = .ok (.iconst 2, 1) := by decide +kernel
theorem dL_read_24 : decode cL_read 24 = .ok (.ireturn, 1) := by decide +kernel
theorem dL_read_25 : decode cL_read 25 = .ok (.iconst 0, 1) := by decide +kernel
theorem dL_read_26 : decode cL_read 26 = .ok (.ireturn, 1) := by decide +kernel
theorem dL_sync_0 : decode cL_sync 0 = .ok (.aload_n 3, 1) := by decide +kernel
theorem dL_sync_1 : decode cL_sync 1 = .ok (.iconst 0, 1) := by decide +kernel
theorem dL_sync_2 : decode cL_sync 2 = .ok (.aload_n 0, 1) := by decide +kernel
theorem dL_sync_3 : decode cL_sync 3 = .ok (.iload_n 1, 1) := by decide +kernel
theorem dL_sync_4 : decode cL_sync 4 = .ok (.iload_n 2, 1) := by decide +kernel
theorem dL_sync_5 : decode cL_sync 5 = .ok (.invokevirtual 84, 3) := by decide +kernel
theorem dL_sync_8 : decode cL_sync 8 = .ok (.i2l, 1) := by decide +kernel
theorem dL_sync_9 : decode cL_sync 9 = .ok (.lastore, 1) := by decide +kernel
theorem dL_sync_10 : decode cL_sync 10 = .ok (.goto 11, 3) := by decide +kernel
theorem dL_sync_13 : decode cL_sync 13 = .ok (.astore 4, 2) := by decide +kernel
theorem dL_sync_15 : decode cL_sync 15 = .ok (.iconst 1, 1) := by decide +kernel
theorem dL_sync_16 : decode cL_sync 16 = .ok (.ireturn, 1) := by decide +kernel
theorem dL_sync_17 : decode cL_sync 17 = .ok (.astore 4, 2) := by decide +kernel
theorem dL_sync_19 : decode cL_sync 19 = .ok (.iconst 2, 1) := by decide +kernel
theorem dL_sync_20 : decode cL_sync 20 = .ok (.ireturn, 1) := by decide +kernel
theorem dL_sync_21 : decode cL_sync 21 = .ok (.iconst 0, 1) := by decide +kernel
theorem dL_sync_22 : decode cL_sync 22 = .ok (.ireturn, 1) := by decide +kernel
theorem dL_owner_0 : decode cL_owner 0 = .ok (.aload_n 2, 1) := by decide +kernel
theorem dL_owner_1 : decode cL_owner 1 = .ok (.iconst 0, 1) := by decide +kernel
theorem dL_owner_2 : decode cL_owner 2 = .ok (.aload_n 0, 1) := by decide +kernel
theorem dL_owner_3 : decode cL_owner 3 = .ok (.iload_n 1, 1) := by decide +kernel
theorem dL_owner_4 : decode cL_owner 4 = .ok (.invokevirtual 87, 3) := by decide +kernel
theorem dL_owner_7 : decode cL_owner 7 = .ok (.i2l, 1) := by decide +kernel
theorem dL_owner_8 : decode cL_owner 8 = .ok (.lastore, 1) := by decide +kernel
theorem dL_owner_9 : decode cL_owner 9 = .ok (.goto 6, 3) := by decide +kernel
theorem dL_owner_12 : decode cL_owner 12 = .ok (.astore_n 3, 1) := by decide +kernel
theorem dL_owner_13 : decode cL_owner 13 = .ok (.iconst 1, 1) := by decide +kernel
theorem dL_owner_14 : decode cL_owner 14 = .ok (.ireturn, 1) := by decide +kernel
theorem dL_owner_15 : decode cL_owner 15 = .ok (.iconst 0, 1) := by decide +kernel
theorem dL_owner_16 : decode cL_owner 16 = .ok (.ireturn, 1) := by decide +kernel
theorem dL_setOwner_0 : decode cL_setOwner 0 = .ok (.aload_n 3, 1) := by decide +kernel
theorem dL_setOwner_1 : decode cL_setOwner 1 = .ok (.iconst 0, 1) := by decide +kernel
theorem dL_setOwner_2 : decode cL_setOwner 2 = .ok (.aload_n 0, 1) := by decide +kernel
theorem dL_setOwner_3 : decode cL_setOwner 3 = .ok (.iload_n 1, 1) := by decide +kernel
theorem dL_setOwner_4 : decode cL_setOwner 4 = .ok (.iload_n 2, 1) := by decide +kernel
theorem dL_setOwner_5 : decode cL_setOwner 5 = .ok (.invokevirtual 91, 3) := by decide +kernel
theorem dL_setOwner_8 : decode cL_setOwner 8 = .ok (.i2l, 1) := by decide +kernel
theorem dL_setOwner_9 : decode cL_setOwner 9 = .ok (.lastore, 1) := by decide +kernel
theorem dL_setOwner_10 : decode cL_setOwner 10 = .ok (.goto 15, 3) := by decide +kernel
theorem dL_setOwner_13 : decode cL_setOwner 13 = .ok (.astore 4, 2) := by decide +kernel
theorem dL_setOwner_15 : decode cL_setOwner 15 = .ok (.iconst 1, 1) := by decide +kernel
theorem dL_setOwner_16 : decode cL_setOwner 16 = .ok (.ireturn, 1) := by decide +kernel
theorem dL_setOwner_17 : decode cL_setOwner 17 = .ok (.astore 4, 2) := by decide +kernel
theorem dL_setOwner_19 : decode cL_setOwner 19 = .ok (.iconst 2, 1) := by decide +kernel
theorem dL_setOwner_20 : decode cL_setOwner 20 = .ok (.ireturn, 1) := by decide +kernel
theorem dL_setOwner_21 : decode cL_setOwner 21 = .ok (.astore 4, 2) := by decide +kernel
theorem dL_setOwner_23 : decode cL_setOwner 23 = .ok (.iconst 3, 1) := by decide +kernel
theorem dL_setOwner_24 : decode cL_setOwner 24 = .ok (.ireturn, 1) := by decide +kernel
theorem dL_setOwner_25 : decode cL_setOwner 25 = .ok (.iconst 0, 1) := by decide +kernel
theorem dL_setOwner_26 : decode cL_setOwner 26 = .ok (.ireturn, 1) := by decide +kernel
theorem dL_apart_0 : decode cL_apart 0 = .ok (.aload_n 2, 1) := by decide +kernel
theorem dL_apart_1 : decode cL_apart 1 = .ok (.iconst 0, 1) := by decide +kernel
theorem dL_apart_2 : decode cL_apart 2 = .ok (.aload_n 0, 1) := by decide +kernel
theorem dL_apart_3 : decode cL_apart 3 = .ok (.iload_n 1, 1) := by decide +kernel
theorem dL_apart_4 : decode cL_apart 4 = .ok (.invokevirtual 95, 3) := by decide +kernel
theorem dL_apart_7 : decode cL_apart 7 = .ok (.i2l, 1) := by decide +kernel
theorem dL_apart_8 : decode cL_apart 8 = .ok (.lastore, 1) := by decide +kernel
theorem dL_apart_9 : decode cL_apart 9 = .ok (.goto 6, 3) := by decide +kernel
theorem dL_apart_12 : decode cL_apart 12 = .ok (.astore_n 3, 1) := by decide +kernel
theorem dL_apart_13 : decode cL_apart 13 = .ok (.iconst 1, 1) := by decide +kernel
theorem dL_apart_14 : decode cL_apart 14 = .ok (.ireturn, 1) := by decide +kernel
theorem dL_apart_15 : decode cL_apart 15 = .ok (.iconst 0, 1) := by decide +kernel
theorem dL_apart_16 : decode cL_apart 16 = .ok (.ireturn, 1) := by decide +kernel
theorem dL_maySit_0 : decode cL_maySit 0 = .ok (.aload_n 3, 1) := by decide +kernel
theorem dL_maySit_1 : decode cL_maySit 1 = .ok (.iconst 0, 1) := by decide +kernel
theorem dL_maySit_2 : decode cL_maySit 2 = .ok (.aload_n 0, 1) := by decide +kernel
theorem dL_maySit_3 : decode cL_maySit 3 = .ok (.iload_n 1, 1) := by decide +kernel
theorem dL_maySit_4 : decode cL_maySit 4 = .ok (.iload_n 2, 1) := by decide +kernel
theorem dL_maySit_5 : decode cL_maySit 5 = .ok (.invokevirtual 98, 3) := by decide +kernel
theorem dL_maySit_8 : decode cL_maySit 8 = .ok (.ifCond .eq 7, 3) := by decide +kernel
theorem dL_maySit_11 : decode cL_maySit 11 = .ok (.lconst 1, 1) := by decide +kernel
theorem dL_maySit_12 : decode cL_maySit 12 = .ok (.goto 4, 3) := by decide +kernel
theorem dL_maySit_15 : decode cL_maySit 15 = .ok (.lconst 0, 1) := by decide +kernel
theorem dL_maySit_16 : decode cL_maySit 16 = .ok (.lastore, 1) := by decide +kernel
theorem dL_maySit_17 : decode cL_maySit 17 = .ok (.goto 7, 3) := by decide +kernel
theorem dL_maySit_20 : decode cL_maySit 20 = .ok (.astore 4, 2) := by decide +kernel
theorem dL_maySit_22 : decode cL_maySit 22 = .ok (.iconst 1, 1) := by decide +kernel
theorem dL_maySit_23 : decode cL_maySit 23 = .ok (.ireturn, 1) := by decide +kernel
theorem dL_maySit_24 : decode cL_maySit 24 = .ok (.iconst 0, 1) := by decide +kernel
theorem dL_maySit_25 : decode cL_maySit 25 = .ok (.ireturn, 1) := by decide +kernel
theorem dL_isOpen_0 : decode cL_isOpen 0 = .ok (.aload_n 3, 1) := by decide +kernel
theorem dL_isOpen_1 : decode cL_isOpen 1 = .ok (.iconst 0, 1) := by decide +kernel
theorem dL_isOpen_2 : decode cL_isOpen 2 = .ok (.aload_n 0, 1) := by decide +kernel
theorem dL_isOpen_3 : decode cL_isOpen 3 = .ok (.iload_n 1, 1) := by decide +kernel
theorem dL_isOpen_4 : decode cL_isOpen 4 = .ok (.iload_n 2, 1) := by decide +kernel
theorem dL_isOpen_5 : decode cL_isOpen 5 = .ok (.invokevirtual 102, 3) := by decide +kernel
theorem dL_isOpen_8 : decode cL_isOpen 8 = .ok (.ifCond .eq 7, 3) := by decide +kernel
theorem dL_isOpen_11 : decode cL_isOpen 11 = .ok (.lconst 1, 1) := by decide +kernel
theorem dL_isOpen_12 : decode cL_isOpen 12 = .ok (.goto 4, 3) := by decide +kernel
theorem dL_isOpen_15 : decode cL_isOpen 15 = .ok (.lconst 0, 1) := by decide +kernel
theorem dL_isOpen_16 : decode cL_isOpen 16 = .ok (.lastore, 1) := by decide +kernel
theorem dL_isOpen_17 : decode cL_isOpen 17 = .ok (.goto 7, 3) := by decide +kernel
theorem dL_isOpen_20 : decode cL_isOpen 20 = .ok (.astore 4, 2) := by decide +kernel
theorem dL_isOpen_22 : decode cL_isOpen 22 = .ok (.iconst 1, 1) := by decide +kernel
theorem dL_isOpen_23 : decode cL_isOpen 23 = .ok (.ireturn, 1) := by decide +kernel
theorem dL_isOpen_24 : decode cL_isOpen 24 = .ok (.iconst 0, 1) := by decide +kernel
theorem dL_isOpen_25 : decode cL_isOpen 25 = .ok (.ireturn, 1) := by decide +kernel
theorem dL_sit_0 : decode cL_sit 0 = .ok (.aload_n 2, 1) := by decide +kernel
theorem dL_sit_1 : decode cL_sit 1 = .ok (.iconst 0, 1) := by decide +kernel
theorem dL_sit_2 : decode cL_sit 2 = .ok (.aload_n 0, 1) := by decide +kernel
theorem dL_sit_3 : decode cL_sit 3 = .ok (.iload_n 1, 1) := by decide +kernel
theorem dL_sit_4 : decode cL_sit 4 = .ok (.invokevirtual 105, 3) := by decide +kernel
theorem dL_sit_7 : decode cL_sit 7 = .ok (.i2l, 1) := by decide +kernel
theorem dL_sit_8 : decode cL_sit 8 = .ok (.lastore, 1) := by decide +kernel
theorem dL_sit_9 : decode cL_sit 9 = .ok (.goto 9, 3) := by decide +kernel
theorem dL_sit_12 : decode cL_sit 12 = .ok (.astore_n 3, 1) := by decide +kernel
theorem dL_sit_13 : decode cL_sit 13 = .ok (.iconst 1, 1) := by decide +kernel
theorem dL_sit_14 : decode cL_sit 14 = .ok (.ireturn, 1) := by decide +kernel
theorem dL_sit_15 : decode cL_sit 15 = .ok (.astore_n 3, 1) := by decide +kernel
theorem dL_sit_16 : decode cL_sit 16 = .ok (.iconst 2, 1) := by decide +kernel
theorem dL_sit_17 : decode cL_sit 17 = .ok (.ireturn, 1) := by decide +kernel
theorem dL_sit_18 : decode cL_sit 18 = .ok (.iconst 0, 1) := by decide +kernel
theorem dL_sit_19 : decode cL_sit 19 = .ok (.ireturn, 1) := by decide +kernel
theorem dL_hasSat_0 : decode cL_hasSat 0 = .ok (.aload 4, 2) := by decide +kernel
theorem dL_hasSat_2 : decode cL_hasSat 2 = .ok (.iconst 0, 1) := by decide +kernel
theorem dL_hasSat_3 : decode cL_hasSat 3 = .ok (.aload_n 0, 1) := by decide +kernel
theorem dL_hasSat_4 : decode cL_hasSat 4 = .ok (.iload_n 1, 1) := by decide +kernel
theorem dL_hasSat_5 : decode cL_hasSat 5 = .ok (.iload_n 2, 1) := by decide +kernel
theorem dL_hasSat_6 : decode cL_hasSat 6 = .ok (.iload_n 3, 1) := by decide +kernel
theorem dL_hasSat_7 : decode cL_hasSat 7 = .ok (.invokevirtual 108, 3) := by decide +kernel
theorem dL_hasSat_10 : decode cL_hasSat 10 = .ok (.ifCond .eq 7, 3) := by decide +kernel
theorem dL_hasSat_13 : decode cL_hasSat 13 = .ok (.lconst 1, 1) := by decide +kernel
theorem dL_hasSat_14 : decode cL_hasSat 14 = .ok (.goto 4, 3) := by decide +kernel
theorem dL_hasSat_17 : decode cL_hasSat 17 = .ok (.lconst 0, 1) := by decide +kernel
theorem dL_hasSat_18 : decode cL_hasSat 18 = .ok (.lastore, 1) := by decide +kernel
theorem dL_hasSat_19 : decode cL_hasSat 19 = .ok (.goto 7, 3) := by decide +kernel
theorem dL_hasSat_22 : decode cL_hasSat 22 = .ok (.astore 5, 2) := by decide +kernel
theorem dL_hasSat_24 : decode cL_hasSat 24 = .ok (.iconst 1, 1) := by decide +kernel
theorem dL_hasSat_25 : decode cL_hasSat 25 = .ok (.ireturn, 1) := by decide +kernel
theorem dL_hasSat_26 : decode cL_hasSat 26 = .ok (.iconst 0, 1) := by decide +kernel
theorem dL_hasSat_27 : decode cL_hasSat 27 = .ok (.ireturn, 1) := by decide +kernel
theorem dL_more_0 : decode cL_more 0 = .ok (.aload_n 3, 1) := by decide +kernel
theorem dL_more_1 : decode cL_more 1 = .ok (.iconst 0, 1) := by decide +kernel
theorem dL_more_2 : decode cL_more 2 = .ok (.aload_n 0, 1) := by decide +kernel
theorem dL_more_3 : decode cL_more 3 = .ok (.iload_n 1, 1) := by decide +kernel
theorem dL_more_4 : decode cL_more 4 = .ok (.iload_n 2, 1) := by decide +kernel
theorem dL_more_5 : decode cL_more 5 = .ok (.invokevirtual 112, 3) := by decide +kernel
theorem dL_more_8 : decode cL_more 8 = .ok (.i2l, 1) := by decide +kernel
theorem dL_more_9 : decode cL_more 9 = .ok (.lastore, 1) := by decide +kernel
theorem dL_more_10 : decode cL_more 10 = .ok (.goto 15, 3) := by decide +kernel
theorem dL_more_13 : decode cL_more 13 = .ok (.astore 4, 2) := by decide +kernel
theorem dL_more_15 : decode cL_more 15 = .ok (.iconst 1, 1) := by decide +kernel
theorem dL_more_16 : decode cL_more 16 = .ok (.ireturn, 1) := by decide +kernel
theorem dL_more_17 : decode cL_more 17 = .ok (.astore 4, 2) := by decide +kernel
theorem dL_more_19 : decode cL_more 19 = .ok (.iconst 2, 1) := by decide +kernel
theorem dL_more_20 : decode cL_more 20 = .ok (.ireturn, 1) := by decide +kernel
theorem dL_more_21 : decode cL_more 21 = .ok (.astore 4, 2) := by decide +kernel
theorem dL_more_23 : decode cL_more 23 = .ok (.iconst 3, 1) := by decide +kernel
theorem dL_more_24 : decode cL_more 24 = .ok (.ireturn, 1) := by decide +kernel
theorem dL_more_25 : decode cL_more 25 = .ok (.iconst 0, 1) := by decide +kernel
theorem dL_more_26 : decode cL_more 26 = .ok (.ireturn, 1) := by decide +kernel
theorem dL_takenShare_0 : decode cL_takenShare 0 = .ok (.aload_n 1, 1) := by decide +kernel
theorem dL_takenShare_1 : decode cL_takenShare 1 = .ok (.iconst 0, 1) := by decide +kernel
theorem dL_takenShare_2 : decode cL_takenShare 2 = .ok (.aload_n 0, 1) := by decide +kernel
theorem dL_takenShare_3 : decode cL_takenShare 3 = .ok (.invokevirtual 115, 3) := by decide +kernel
theorem dL_takenShare_6 : decode cL_takenShare 6 = .ok (.f2d, 1) := by decide +kernel
theorem dL_takenShare_7 : decode cL_takenShare 7 = .ok (.dastore, 1) := by decide +kernel
theorem dL_takenShare_8 : decode cL_takenShare 8 = .ok (.goto 6, 3) := by decide +kernel
theorem dL_takenShare_11 : decode cL_takenShare 11 = .ok (.astore_n 2, 1) := by decide +kernel
theorem dL_takenShare_12 : decode cL_takenShare 12 = .ok (.iconst 1, 1) := by decide +kernel
theorem dL_takenShare_13 : decode cL_takenShare 13 = .ok (.ireturn, 1) := by decide +kernel
theorem dL_takenShare_14 : decode cL_takenShare 14 = .ok (.iconst 0, 1) := by decide +kernel
theorem dL_takenShare_15 : decode cL_takenShare 15 = .ok (.ireturn, 1) := by decide +kernel
theorem dL_meanPoints_0 : decode cL_meanPoints 0 = .ok (.aload_n 1, 1) := by decide +kernel
theorem dL_meanPoints_1 : decode cL_meanPoints 1 = .ok (.iconst 0, 1) := by decide +kernel
theorem dL_meanPoints_2 : decode cL_meanPoints 2 = .ok (.aload_n 0, 1) := by decide +kernel
theorem dL_meanPoints_3 : decode cL_meanPoints 3 = .ok (.invokevirtual 121, 3) := by decide +kernel
theorem dL_meanPoints_6 : decode cL_meanPoints 6 = .ok (.dastore, 1) := by decide +kernel
theorem dL_meanPoints_7 : decode cL_meanPoints 7 = .ok (.goto 6, 3) := by decide +kernel
theorem dL_meanPoints_10 : decode cL_meanPoints 10 = .ok (.astore_n 2, 1) := by decide +kernel
theorem dL_meanPoints_11 : decode cL_meanPoints 11 = .ok (.iconst 1, 1) := by decide +kernel
theorem dL_meanPoints_12 : decode cL_meanPoints 12 = .ok (.ireturn, 1) := by decide +kernel
theorem dL_meanPoints_13 : decode cL_meanPoints 13 = .ok (.iconst 0, 1) := by decide +kernel
theorem dL_meanPoints_14 : decode cL_meanPoints 14 = .ok (.ireturn, 1) := by decide +kernel
theorem dL_law_0 : decode cL_law 0 = .ok (.new 8, 3) := by decide +kernel
theorem dL_law_3 : decode cL_law 3 = .ok (.dup, 1) := by decide +kernel
theorem dL_law_4 : decode cL_law 4 = .ok (.invokespecial 125, 3) := by decide +kernel
theorem dL_law_7 : decode cL_law 7 = .ok (.astore_n 1, 1) := by decide +kernel
theorem dL_law_8 : decode cL_law 8 = .ok (.new 126, 3) := by decide +kernel
theorem dL_law_11 : decode cL_law 11 = .ok (.dup, 1) := by decide +kernel
theorem dL_law_12 : decode cL_law 12 = .ok (.invokespecial 128, 3) := by decide +kernel
theorem dL_law_15 : decode cL_law 15 = .ok (.astore_n 2, 1) := by decide +kernel
theorem dL_law_16 : decode cL_law 16 = .ok (.iconst 1, 1) := by decide +kernel
theorem dL_law_17 : decode cL_law 17 = .ok (.newarray .long, 2) := by decide +kernel
theorem dL_law_19 : decode cL_law 19 = .ok (.astore_n 3, 1) := by decide +kernel
theorem dL_law_20 : decode cL_law 20 = .ok (.iconst 1, 1) := by decide +kernel
theorem dL_law_21 : decode cL_law 21 = .ok (.newarray .double, 2) := by decide +kernel
theorem dL_law_23 : decode cL_law 23 = .ok (.astore 4, 2) := by decide +kernel
theorem dL_law_25 : decode cL_law 25 = .ok (.iconst 0, 1) := by decide +kernel
theorem dL_law_26 : decode cL_law 26 = .ok (.istore 5, 2) := by decide +kernel
theorem dL_law_28 : decode cL_law 28 = .ok (.iload 5, 2) := by decide +kernel
theorem dL_law_30 : decode cL_law 30 = .ok (.aload_n 0, 1) := by decide +kernel
theorem dL_law_31 : decode cL_law 31 = .ok (.arraylength, 1) := by decide +kernel
theorem dL_law_32 : decode cL_law 32 = .ok (.bipush 6, 2) := by decide +kernel
theorem dL_law_34 : decode cL_law 34 = .ok (.isub, 1) := by decide +kernel
theorem dL_law_35 : decode cL_law 35 = .ok (.if_icmp .gt 2326, 3) := by decide +kernel
theorem dL_law_38 : decode cL_law 38 = .ok (.aload_n 0, 1) := by decide +kernel
theorem dL_law_39 : decode cL_law 39 = .ok (.iload 5, 2) := by decide +kernel
theorem dL_law_41 : decode cL_law 41 = .ok (.iaload, 1) := by decide +kernel
theorem dL_law_42 : decode cL_law 42 = .ok (.bipush 63, 2) := by decide +kernel
theorem dL_law_44 : decode cL_law 44 = .ok (.iand, 1) := by decide +kernel
theorem dL_law_45 : decode cL_law 45 = .ok (.tableswitch 2310 0 34 #[155, 211, 255, 299, 407, 487, 555, 568, 581, 594, 650, 746, 814, 870, 938, 1006, 1062, 1130, 1198, 1266, 1322, 1335, 1441, 1535, 1603, 1661, 1731, 1789, 1864, 1939, 1995, 2098, 2166, 2232, 2297], 155) := by decide +kernel
theorem dL_law_200 : decode cL_law 200 = .ok (.aload_n 1, 1) := by decide +kernel
theorem dL_law_201 : decode cL_law 201 = .ok (.aload_n 0, 1) := by decide +kernel
theorem dL_law_202 : decode cL_law 202 = .ok (.iload 5, 2) := by decide +kernel
theorem dL_law_204 : decode cL_law 204 = .ok (.iconst 1, 1) := by decide +kernel
theorem dL_law_205 : decode cL_law 205 = .ok (.iadd, 1) := by decide +kernel
theorem dL_law_206 : decode cL_law 206 = .ok (.iaload, 1) := by decide +kernel
theorem dL_law_207 : decode cL_law 207 = .ok (.aload_n 3, 1) := by decide +kernel
theorem dL_law_208 : decode cL_law 208 = .ok (.invokestatic 129, 3) := by decide +kernel
theorem dL_law_211 : decode cL_law 211 = .ok (.istore 6, 2) := by decide +kernel
theorem dL_law_213 : decode cL_law 213 = .ok (.aload_n 2, 1) := by decide +kernel
theorem dL_law_214 : decode cL_law 214 = .ok (.aload_n 0, 1) := by decide +kernel
theorem dL_law_215 : decode cL_law 215 = .ok (.iload 5, 2) := by decide +kernel
theorem dL_law_217 : decode cL_law 217 = .ok (.iconst 1, 1) := by decide +kernel
theorem dL_law_218 : decode cL_law 218 = .ok (.iadd, 1) := by decide +kernel
theorem dL_law_219 : decode cL_law 219 = .ok (.iaload, 1) := by decide +kernel
theorem dL_law_220 : decode cL_law 220 = .ok (.invokevirtual 134, 3) := by decide +kernel
theorem dL_law_223 : decode cL_law 223 = .ok (.istore 7, 2) := by decide +kernel
theorem dL_law_225 : decode cL_law 225 = .ok (.aload_n 2, 1) := by decide +kernel
theorem dL_law_226 : decode cL_law 226 = .ok (.invokevirtual 135, 3) := by decide +kernel
theorem dL_law_229 : decode cL_law 229 = .ok (.iload 6, 2) := by decide +kernel
theorem dL_law_231 : decode cL_law 231 = .ok (.if_icmp .eq 5, 3) := by decide +kernel
theorem dL_law_234 : decode cL_law 234 = .ok (.iconst 0, 1) := by decide +kernel
theorem dL_law_235 : decode cL_law 235 = .ok (.ireturn, 1) := by decide +kernel
theorem dL_law_236 : decode cL_law 236 = .ok (.iload 6, 2) := by decide +kernel
theorem dL_law_238 : decode cL_law 238 = .ok (.ifCond .ne 15, 3) := by decide +kernel
theorem dL_law_241 : decode cL_law 241 = .ok (.aload_n 3, 1) := by decide +kernel
theorem dL_law_242 : decode cL_law 242 = .ok (.iconst 0, 1) := by decide +kernel
theorem dL_law_243 : decode cL_law 243 = .ok (.laload, 1) := by decide +kernel
theorem dL_law_244 : decode cL_law 244 = .ok (.iload 7, 2) := by decide +kernel
theorem dL_law_246 : decode cL_law 246 = .ok (.i2l, 1) := by decide +kernel
theorem dL_law_247 : decode cL_law 247 = .ok (.lcmp, 1) := by decide +kernel
theorem dL_law_248 : decode cL_law 248 = .ok (.ifCond .eq 5, 3) := by decide +kernel
theorem dL_law_251 : decode cL_law 251 = .ok (.iconst 0, 1) := by decide +kernel
theorem dL_law_252 : decode cL_law 252 = .ok (.ireturn, 1) := by decide +kernel
theorem dL_law_253 : decode cL_law 253 = .ok (.goto 2102, 3) := by decide +kernel
theorem dL_law_256 : decode cL_law 256 = .ok (.aload_n 1, 1) := by decide +kernel
theorem dL_law_257 : decode cL_law 257 = .ok (.aload_n 3, 1) := by decide +kernel
theorem dL_law_258 : decode cL_law 258 = .ok (.invokestatic 138, 3) := by decide +kernel
theorem dL_law_261 : decode cL_law 261 = .ok (.istore 6, 2) := by decide +kernel
theorem dL_law_263 : decode cL_law 263 = .ok (.aload_n 2, 1) := by decide +kernel
theorem dL_law_264 : decode cL_law 264 = .ok (.invokevirtual 141, 3) := by decide +kernel
theorem dL_law_267 : decode cL_law 267 = .ok (.istore 7, 2) := by decide +kernel
theorem dL_law_269 : decode cL_law 269 = .ok (.aload_n 2, 1) := by decide +kernel
theorem dL_law_270 : decode cL_law 270 = .ok (.invokevirtual 135, 3) := by decide +kernel
theorem dL_law_273 : decode cL_law 273 = .ok (.iload 6, 2) := by decide +kernel
theorem dL_law_275 : decode cL_law 275 = .ok (.if_icmp .eq 5, 3) := by decide +kernel
theorem dL_law_278 : decode cL_law 278 = .ok (.iconst 0, 1) := by decide +kernel
theorem dL_law_279 : decode cL_law 279 = .ok (.ireturn, 1) := by decide +kernel
theorem dL_law_280 : decode cL_law 280 = .ok (.iload 6, 2) := by decide +kernel
theorem dL_law_282 : decode cL_law 282 = .ok (.ifCond .ne 15, 3) := by decide +kernel
theorem dL_law_285 : decode cL_law 285 = .ok (.aload_n 3, 1) := by decide +kernel
theorem dL_law_286 : decode cL_law 286 = .ok (.iconst 0, 1) := by decide +kernel
theorem dL_law_287 : decode cL_law 287 = .ok (.laload, 1) := by decide +kernel
theorem dL_law_288 : decode cL_law 288 = .ok (.iload 7, 2) := by decide +kernel
theorem dL_law_290 : decode cL_law 290 = .ok (.i2l, 1) := by decide +kernel
theorem dL_law_291 : decode cL_law 291 = .ok (.lcmp, 1) := by decide +kernel
theorem dL_law_292 : decode cL_law 292 = .ok (.ifCond .eq 5, 3) := by decide +kernel
theorem dL_law_295 : decode cL_law 295 = .ok (.iconst 0, 1) := by decide +kernel
theorem dL_law_296 : decode cL_law 296 = .ok (.ireturn, 1) := by decide +kernel
theorem dL_law_297 : decode cL_law 297 = .ok (.goto 2058, 3) := by decide +kernel
theorem dL_law_300 : decode cL_law 300 = .ok (.aload_n 1, 1) := by decide +kernel
theorem dL_law_301 : decode cL_law 301 = .ok (.aload_n 3, 1) := by decide +kernel
theorem dL_law_302 : decode cL_law 302 = .ok (.invokestatic 142, 3) := by decide +kernel
theorem dL_law_305 : decode cL_law 305 = .ok (.istore 6, 2) := by decide +kernel
theorem dL_law_307 : decode cL_law 307 = .ok (.aload_n 2, 1) := by decide +kernel
theorem dL_law_308 : decode cL_law 308 = .ok (.invokevirtual 144, 3) := by decide +kernel
theorem dL_law_311 : decode cL_law 311 = .ok (.istore 7, 2) := by decide +kernel
theorem dL_law_313 : decode cL_law 313 = .ok (.aload_n 2, 1) := by decide +kernel
theorem dL_law_314 : decode cL_law 314 = .ok (.invokevirtual 135, 3) := by decide +kernel
theorem dL_law_317 : decode cL_law 317 = .ok (.iload 6, 2) := by decide +kernel
theorem dL_law_319 : decode cL_law 319 = .ok (.if_icmp .eq 5, 3) := by decide +kernel
theorem dL_law_322 : decode cL_law 322 = .ok (.iconst 0, 1) := by decide +kernel
theorem dL_law_323 : decode cL_law 323 = .ok (.ireturn, 1) := by decide +kernel
theorem dL_law_324 : decode cL_law 324 = .ok (.iload 6, 2) := by decide +kernel
theorem dL_law_326 : decode cL_law 326 = .ok (.ifCond .ne 15, 3) := by decide +kernel
theorem dL_law_329 : decode cL_law 329 = .ok (.aload_n 3, 1) := by decide +kernel
theorem dL_law_330 : decode cL_law 330 = .ok (.iconst 0, 1) := by decide +kernel
theorem dL_law_331 : decode cL_law 331 = .ok (.laload, 1) := by decide +kernel
theorem dL_law_332 : decode cL_law 332 = .ok (.iload 7, 2) := by decide +kernel
theorem dL_law_334 : decode cL_law 334 = .ok (.i2l, 1) := by decide +kernel
theorem dL_law_335 : decode cL_law 335 = .ok (.lcmp, 1) := by decide +kernel
theorem dL_law_336 : decode cL_law 336 = .ok (.ifCond .eq 5, 3) := by decide +kernel
theorem dL_law_339 : decode cL_law 339 = .ok (.iconst 0, 1) := by decide +kernel
theorem dL_law_340 : decode cL_law 340 = .ok (.ireturn, 1) := by decide +kernel
theorem dL_law_341 : decode cL_law 341 = .ok (.goto 2014, 3) := by decide +kernel
theorem dL_law_344 : decode cL_law 344 = .ok (.aload_n 1, 1) := by decide +kernel
theorem dL_law_345 : decode cL_law 345 = .ok (.aload_n 0, 1) := by decide +kernel
theorem dL_law_346 : decode cL_law 346 = .ok (.iload 5, 2) := by decide +kernel
theorem dL_law_348 : decode cL_law 348 = .ok (.iconst 1, 1) := by decide +kernel
theorem dL_law_349 : decode cL_law 349 = .ok (.iadd, 1) := by decide +kernel
theorem dL_law_350 : decode cL_law 350 = .ok (.iaload, 1) := by decide +kernel
theorem dL_law_351 : decode cL_law 351 = .ok (.aload_n 0, 1) := by decide +kernel
theorem dL_law_352 : decode cL_law 352 = .ok (.iload 5, 2) := by decide +kernel
theorem dL_law_354 : decode cL_law 354 = .ok (.iconst 2, 1) := by decide +kernel
theorem dL_law_355 : decode cL_law 355 = .ok (.iadd, 1) := by decide +kernel
theorem dL_law_356 : decode cL_law 356 = .ok (.iaload, 1) := by decide +kernel
theorem dL_law_357 : decode cL_law 357 = .ok (.aload_n 0, 1) := by decide +kernel
theorem dL_law_358 : decode cL_law 358 = .ok (.iload 5, 2) := by decide +kernel
theorem dL_law_360 : decode cL_law 360 = .ok (.iconst 3, 1) := by decide +kernel
theorem dL_law_361 : decode cL_law 361 = .ok (.iadd, 1) := by decide +kernel
theorem dL_law_362 : decode cL_law 362 = .ok (.iaload, 1) := by decide +kernel
theorem dL_law_363 : decode cL_law 363 = .ok (.aload_n 0, 1) := by decide +kernel
theorem dL_law_364 : decode cL_law 364 = .ok (.iload 5, 2) := by decide +kernel
theorem dL_law_366 : decode cL_law 366 = .ok (.iconst 4, 1) := by decide +kernel
theorem dL_law_367 : decode cL_law 367 = .ok (.iadd, 1) := by decide +kernel
theorem dL_law_368 : decode cL_law 368 = .ok (.iaload, 1) := by decide +kernel
theorem dL_law_369 : decode cL_law 369 = .ok (.ifCond .eq 7, 3) := by decide +kernel
theorem dL_law_372 : decode cL_law 372 = .ok (.iconst 1, 1) := by decide +kernel
theorem dL_law_373 : decode cL_law 373 = .ok (.goto 4, 3) := by decide +kernel
theorem dL_law_376 : decode cL_law 376 = .ok (.iconst 0, 1) := by decide +kernel
theorem dL_law_377 : decode cL_law 377 = .ok (.aload_n 3, 1) := by decide +kernel
theorem dL_law_378 : decode cL_law 378 = .ok (.invokestatic 145, 3) := by decide +kernel
theorem dL_law_381 : decode cL_law 381 = .ok (.istore 6, 2) := by decide +kernel
theorem dL_law_383 : decode cL_law 383 = .ok (.aload_n 2, 1) := by decide +kernel
theorem dL_law_384 : decode cL_law 384 = .ok (.aload_n 0, 1) := by decide +kernel
theorem dL_law_385 : decode cL_law 385 = .ok (.iload 5, 2) := by decide +kernel
theorem dL_law_387 : decode cL_law 387 = .ok (.iconst 1, 1) := by decide +kernel
theorem dL_law_388 : decode cL_law 388 = .ok (.iadd, 1) := by decide +kernel
theorem dL_law_389 : decode cL_law 389 = .ok (.iaload, 1) := by decide +kernel
theorem dL_law_390 : decode cL_law 390 = .ok (.aload_n 0, 1) := by decide +kernel
theorem dL_law_391 : decode cL_law 391 = .ok (.iload 5, 2) := by decide +kernel
theorem dL_law_393 : decode cL_law 393 = .ok (.iconst 2, 1) := by decide +kernel
theorem dL_law_394 : decode cL_law 394 = .ok (.iadd, 1) := by decide +kernel
theorem dL_law_395 : decode cL_law 395 = .ok (.iaload, 1) := by decide +kernel
theorem dL_law_396 : decode cL_law 396 = .ok (.aload_n 0, 1) := by decide +kernel
theorem dL_law_397 : decode cL_law 397 = .ok (.iload 5, 2) := by decide +kernel
theorem dL_law_399 : decode cL_law 399 = .ok (.iconst 3, 1) := by decide +kernel
theorem dL_law_400 : decode cL_law 400 = .ok (.iadd, 1) := by decide +kernel
theorem dL_law_401 : decode cL_law 401 = .ok (.iaload, 1) := by decide +kernel
theorem dL_law_402 : decode cL_law 402 = .ok (.aload_n 0, 1) := by decide +kernel
theorem dL_law_403 : decode cL_law 403 = .ok (.iload 5, 2) := by decide +kernel
theorem dL_law_405 : decode cL_law 405 = .ok (.iconst 4, 1) := by decide +kernel
theorem dL_law_406 : decode cL_law 406 = .ok (.iadd, 1) := by decide +kernel
theorem dL_law_407 : decode cL_law 407 = .ok (.iaload, 1) := by decide +kernel
theorem dL_law_408 : decode cL_law 408 = .ok (.ifCond .eq 7, 3) := by decide +kernel
theorem dL_law_411 : decode cL_law 411 = .ok (.iconst 1, 1) := by decide +kernel
theorem dL_law_412 : decode cL_law 412 = .ok (.goto 4, 3) := by decide +kernel
theorem dL_law_415 : decode cL_law 415 = .ok (.iconst 0, 1) := by decide +kernel
theorem dL_law_416 : decode cL_law 416 = .ok (.invokevirtual 148, 3) := by decide +kernel
theorem dL_law_419 : decode cL_law 419 = .ok (.istore 7, 2) := by decide +kernel
theorem dL_law_421 : decode cL_law 421 = .ok (.aload_n 2, 1) := by decide +kernel
theorem dL_law_422 : decode cL_law 422 = .ok (.invokevirtual 135, 3) := by decide +kernel
theorem dL_law_425 : decode cL_law 425 = .ok (.iload 6, 2) := by decide +kernel
theorem dL_law_427 : decode cL_law 427 = .ok (.if_icmp .eq 5, 3) := by decide +kernel
theorem dL_law_430 : decode cL_law 430 = .ok (.iconst 0, 1) := by decide +kernel
theorem dL_law_431 : decode cL_law 431 = .ok (.ireturn, 1) := by decide +kernel
theorem dL_law_432 : decode cL_law 432 = .ok (.iload 6, 2) := by decide +kernel
theorem dL_law_434 : decode cL_law 434 = .ok (.ifCond .ne 15, 3) := by decide +kernel
theorem dL_law_437 : decode cL_law 437 = .ok (.aload_n 3, 1) := by decide +kernel
theorem dL_law_438 : decode cL_law 438 = .ok (.iconst 0, 1) := by decide +kernel
theorem dL_law_439 : decode cL_law 439 = .ok (.laload, 1) := by decide +kernel
theorem dL_law_440 : decode cL_law 440 = .ok (.iload 7, 2) := by decide +kernel
theorem dL_law_442 : decode cL_law 442 = .ok (.i2l, 1) := by decide +kernel
theorem dL_law_443 : decode cL_law 443 = .ok (.lcmp, 1) := by decide +kernel
theorem dL_law_444 : decode cL_law 444 = .ok (.ifCond .eq 5, 3) := by decide +kernel
theorem dL_law_447 : decode cL_law 447 = .ok (.iconst 0, 1) := by decide +kernel
theorem dL_law_448 : decode cL_law 448 = .ok (.ireturn, 1) := by decide +kernel
theorem dL_law_449 : decode cL_law 449 = .ok (.goto 1906, 3) := by decide +kernel
theorem dL_law_452 : decode cL_law 452 = .ok (.aload_n 1, 1) := by decide +kernel
theorem dL_law_453 : decode cL_law 453 = .ok (.aload_n 0, 1) := by decide +kernel
theorem dL_law_454 : decode cL_law 454 = .ok (.iload 5, 2) := by decide +kernel
theorem dL_law_456 : decode cL_law 456 = .ok (.iconst 1, 1) := by decide +kernel
theorem dL_law_457 : decode cL_law 457 = .ok (.iadd, 1) := by decide +kernel
theorem dL_law_458 : decode cL_law 458 = .ok (.iaload, 1) := by decide +kernel
theorem dL_law_459 : decode cL_law 459 = .ok (.aload_n 0, 1) := by decide +kernel
theorem dL_law_460 : decode cL_law 460 = .ok (.iload 5, 2) := by decide +kernel
theorem dL_law_462 : decode cL_law 462 = .ok (.iconst 2, 1) := by decide +kernel
theorem dL_law_463 : decode cL_law 463 = .ok (.iadd, 1) := by decide +kernel
theorem dL_law_464 : decode cL_law 464 = .ok (.iaload, 1) := by decide +kernel
theorem dL_law_465 : decode cL_law 465 = .ok (.aload_n 0, 1) := by decide +kernel
theorem dL_law_466 : decode cL_law 466 = .ok (.iload 5, 2) := by decide +kernel
theorem dL_law_468 : decode cL_law 468 = .ok (.iconst 3, 1) := by decide +kernel
theorem dL_law_469 : decode cL_law 469 = .ok (.iadd, 1) := by decide +kernel
theorem dL_law_470 : decode cL_law 470 = .ok (.iaload, 1) := by decide +kernel
theorem dL_law_471 : decode cL_law 471 = .ok (.aload_n 3, 1) := by decide +kernel
theorem dL_law_472 : decode cL_law 472 = .ok (.invokestatic 149, 3) := by decide +kernel
theorem dL_law_475 : decode cL_law 475 = .ok (.istore 6, 2) := by decide +kernel
theorem dL_law_477 : decode cL_law 477 = .ok (.aload_n 2, 1) := by decide +kernel
theorem dL_law_478 : decode cL_law 478 = .ok (.aload_n 0, 1) := by decide +kernel
theorem dL_law_479 : decode cL_law 479 = .ok (.iload 5, 2) := by decide +kernel
theorem dL_law_481 : decode cL_law 481 = .ok (.iconst 1, 1) := by decide +kernel
theorem dL_law_482 : decode cL_law 482 = .ok (.iadd, 1) := by decide +kernel
theorem dL_law_483 : decode cL_law 483 = .ok (.iaload, 1) := by decide +kernel
theorem dL_law_484 : decode cL_law 484 = .ok (.aload_n 0, 1) := by decide +kernel
theorem dL_law_485 : decode cL_law 485 = .ok (.iload 5, 2) := by decide +kernel
theorem dL_law_487 : decode cL_law 487 = .ok (.iconst 2, 1) := by decide +kernel
theorem dL_law_488 : decode cL_law 488 = .ok (.iadd, 1) := by decide +kernel
theorem dL_law_489 : decode cL_law 489 = .ok (.iaload, 1) := by decide +kernel
theorem dL_law_490 : decode cL_law 490 = .ok (.aload_n 0, 1) := by decide +kernel
theorem dL_law_491 : decode cL_law 491 = .ok (.iload 5, 2) := by decide +kernel
theorem dL_law_493 : decode cL_law 493 = .ok (.iconst 3, 1) := by decide +kernel
theorem dL_law_494 : decode cL_law 494 = .ok (.iadd, 1) := by decide +kernel
theorem dL_law_495 : decode cL_law 495 = .ok (.iaload, 1) := by decide +kernel
theorem dL_law_496 : decode cL_law 496 = .ok (.invokevirtual 152, 3) := by decide +kernel
theorem dL_law_499 : decode cL_law 499 = .ok (.istore 7, 2) := by decide +kernel
theorem dL_law_501 : decode cL_law 501 = .ok (.aload_n 2, 1) := by decide +kernel
theorem dL_law_502 : decode cL_law 502 = .ok (.invokevirtual 135, 3) := by decide +kernel
theorem dL_law_505 : decode cL_law 505 = .ok (.iload 6, 2) := by decide +kernel
theorem dL_law_507 : decode cL_law 507 = .ok (.if_icmp .eq 5, 3) := by decide +kernel
theorem dL_law_510 : decode cL_law 510 = .ok (.iconst 0, 1) := by decide +kernel
theorem dL_law_511 : decode cL_law 511 = .ok (.ireturn, 1) := by decide +kernel
theorem dL_law_512 : decode cL_law 512 = .ok (.iload 6, 2) := by decide +kernel
theorem dL_law_514 : decode cL_law 514 = .ok (.ifCond .ne 15, 3) := by decide +kernel
theorem dL_law_517 : decode cL_law 517 = .ok (.aload_n 3, 1) := by decide +kernel
theorem dL_law_518 : decode cL_law 518 = .ok (.iconst 0, 1) := by decide +kernel
theorem dL_law_519 : decode cL_law 519 = .ok (.laload, 1) := by decide +kernel
theorem dL_law_520 : decode cL_law 520 = .ok (.iload 7, 2) := by decide +kernel
theorem dL_law_522 : decode cL_law 522 = .ok (.i2l, 1) := by decide +kernel
theorem dL_law_523 : decode cL_law 523 = .ok (.lcmp, 1) := by decide +kernel
theorem dL_law_524 : decode cL_law 524 = .ok (.ifCond .eq 5, 3) := by decide +kernel
theorem dL_law_527 : decode cL_law 527 = .ok (.iconst 0, 1) := by decide +kernel
theorem dL_law_528 : decode cL_law 528 = .ok (.ireturn, 1) := by decide +kernel
theorem dL_law_529 : decode cL_law 529 = .ok (.goto 1826, 3) := by decide +kernel
theorem dL_law_532 : decode cL_law 532 = .ok (.aload_n 1, 1) := by decide +kernel
theorem dL_law_533 : decode cL_law 533 = .ok (.aload_n 0, 1) := by decide +kernel
theorem dL_law_534 : decode cL_law 534 = .ok (.iload 5, 2) := by decide +kernel
theorem dL_law_536 : decode cL_law 536 = .ok (.iconst 1, 1) := by decide +kernel
theorem dL_law_537 : decode cL_law 537 = .ok (.iadd, 1) := by decide +kernel
theorem dL_law_538 : decode cL_law 538 = .ok (.iaload, 1) := by decide +kernel
theorem dL_law_539 : decode cL_law 539 = .ok (.aload_n 0, 1) := by decide +kernel
theorem dL_law_540 : decode cL_law 540 = .ok (.iload 5, 2) := by decide +kernel
theorem dL_law_542 : decode cL_law 542 = .ok (.iconst 2, 1) := by decide +kernel
theorem dL_law_543 : decode cL_law 543 = .ok (.iadd, 1) := by decide +kernel
theorem dL_law_544 : decode cL_law 544 = .ok (.iaload, 1) := by decide +kernel
theorem dL_law_545 : decode cL_law 545 = .ok (.aload_n 3, 1) := by decide +kernel
theorem dL_law_546 : decode cL_law 546 = .ok (.invokestatic 153, 3) := by decide +kernel
theorem dL_law_549 : decode cL_law 549 = .ok (.istore 6, 2) := by decide +kernel
theorem dL_law_551 : decode cL_law 551 = .ok (.aload_n 2, 1) := by decide +kernel
theorem dL_law_552 : decode cL_law 552 = .ok (.aload_n 0, 1) := by decide +kernel
theorem dL_law_553 : decode cL_law 553 = .ok (.iload 5, 2) := by decide +kernel
theorem dL_law_555 : decode cL_law 555 = .ok (.iconst 1, 1) := by decide +kernel
theorem dL_law_556 : decode cL_law 556 = .ok (.iadd, 1) := by decide +kernel
theorem dL_law_557 : decode cL_law 557 = .ok (.iaload, 1) := by decide +kernel
theorem dL_law_558 : decode cL_law 558 = .ok (.aload_n 0, 1) := by decide +kernel
theorem dL_law_559 : decode cL_law 559 = .ok (.iload 5, 2) := by decide +kernel
theorem dL_law_561 : decode cL_law 561 = .ok (.iconst 2, 1) := by decide +kernel
theorem dL_law_562 : decode cL_law 562 = .ok (.iadd, 1) := by decide +kernel
theorem dL_law_563 : decode cL_law 563 = .ok (.iaload, 1) := by decide +kernel
theorem dL_law_564 : decode cL_law 564 = .ok (.invokevirtual 156, 3) := by decide +kernel
theorem dL_law_567 : decode cL_law 567 = .ok (.istore 7, 2) := by decide +kernel
theorem dL_law_569 : decode cL_law 569 = .ok (.aload_n 2, 1) := by decide +kernel
theorem dL_law_570 : decode cL_law 570 = .ok (.invokevirtual 135, 3) := by decide +kernel
theorem dL_law_573 : decode cL_law 573 = .ok (.iload 6, 2) := by decide +kernel
theorem dL_law_575 : decode cL_law 575 = .ok (.if_icmp .eq 5, 3) := by decide +kernel
theorem dL_law_578 : decode cL_law 578 = .ok (.iconst 0, 1) := by decide +kernel
theorem dL_law_579 : decode cL_law 579 = .ok (.ireturn, 1) := by decide +kernel
theorem dL_law_580 : decode cL_law 580 = .ok (.iload 6, 2) := by decide +kernel
theorem dL_law_582 : decode cL_law 582 = .ok (.ifCond .ne 15, 3) := by decide +kernel
theorem dL_law_585 : decode cL_law 585 = .ok (.aload_n 3, 1) := by decide +kernel
theorem dL_law_586 : decode cL_law 586 = .ok (.iconst 0, 1) := by decide +kernel
theorem dL_law_587 : decode cL_law 587 = .ok (.laload, 1) := by decide +kernel
theorem dL_law_588 : decode cL_law 588 = .ok (.iload 7, 2) := by decide +kernel
theorem dL_law_590 : decode cL_law 590 = .ok (.i2l, 1) := by decide +kernel
theorem dL_law_591 : decode cL_law 591 = .ok (.lcmp, 1) := by decide +kernel
theorem dL_law_592 : decode cL_law 592 = .ok (.ifCond .eq 5, 3) := by decide +kernel
theorem dL_law_595 : decode cL_law 595 = .ok (.iconst 0, 1) := by decide +kernel
theorem dL_law_596 : decode cL_law 596 = .ok (.ireturn, 1) := by decide +kernel
theorem dL_law_597 : decode cL_law 597 = .ok (.goto 1758, 3) := by decide +kernel
theorem dL_law_600 : decode cL_law 600 = .ok (.aload_n 1, 1) := by decide +kernel
theorem dL_law_601 : decode cL_law 601 = .ok (.invokevirtual 157, 3) := by decide +kernel
theorem dL_law_604 : decode cL_law 604 = .ok (.aload_n 2, 1) := by decide +kernel
theorem dL_law_605 : decode cL_law 605 = .ok (.invokevirtual 160, 3) := by decide +kernel
theorem dL_law_608 : decode cL_law 608 = .ok (.if_icmp .eq 1747, 3) := by decide +kernel
theorem dL_law_611 : decode cL_law 611 = .ok (.iconst 0, 1) := by decide +kernel
theorem dL_law_612 : decode cL_law 612 = .ok (.ireturn, 1) := by decide +kernel
theorem dL_law_613 : decode cL_law 613 = .ok (.aload_n 1, 1) := by decide +kernel
theorem dL_law_614 : decode cL_law 614 = .ok (.invokevirtual 161, 3) := by decide +kernel
theorem dL_law_617 : decode cL_law 617 = .ok (.aload_n 2, 1) := by decide +kernel
theorem dL_law_618 : decode cL_law 618 = .ok (.invokevirtual 164, 3) := by decide +kernel
theorem dL_law_621 : decode cL_law 621 = .ok (.if_icmp .eq 1734, 3) := by decide +kernel
theorem dL_law_624 : decode cL_law 624 = .ok (.iconst 0, 1) := by decide +kernel
theorem dL_law_625 : decode cL_law 625 = .ok (.ireturn, 1) := by decide +kernel
theorem dL_law_626 : decode cL_law 626 = .ok (.aload_n 1, 1) := by decide +kernel
theorem dL_law_627 : decode cL_law 627 = .ok (.invokevirtual 165, 3) := by decide +kernel
theorem dL_law_630 : decode cL_law 630 = .ok (.aload_n 2, 1) := by decide +kernel
theorem dL_law_631 : decode cL_law 631 = .ok (.invokevirtual 168, 3) := by decide +kernel
theorem dL_law_634 : decode cL_law 634 = .ok (.if_icmp .eq 1721, 3) := by decide +kernel
theorem dL_law_637 : decode cL_law 637 = .ok (.iconst 0, 1) := by decide +kernel
theorem dL_law_638 : decode cL_law 638 = .ok (.ireturn, 1) := by decide +kernel
theorem dL_law_639 : decode cL_law 639 = .ok (.aload_n 1, 1) := by decide +kernel
theorem dL_law_640 : decode cL_law 640 = .ok (.aload_n 0, 1) := by decide +kernel
theorem dL_law_641 : decode cL_law 641 = .ok (.iload 5, 2) := by decide +kernel
theorem dL_law_643 : decode cL_law 643 = .ok (.iconst 1, 1) := by decide +kernel
theorem dL_law_644 : decode cL_law 644 = .ok (.iadd, 1) := by decide +kernel
theorem dL_law_645 : decode cL_law 645 = .ok (.iaload, 1) := by decide +kernel
theorem dL_law_646 : decode cL_law 646 = .ok (.aload_n 3, 1) := by decide +kernel
theorem dL_law_647 : decode cL_law 647 = .ok (.invokestatic 169, 3) := by decide +kernel
theorem dL_law_650 : decode cL_law 650 = .ok (.istore 6, 2) := by decide +kernel
theorem dL_law_652 : decode cL_law 652 = .ok (.aload_n 2, 1) := by decide +kernel
theorem dL_law_653 : decode cL_law 653 = .ok (.aload_n 0, 1) := by decide +kernel
theorem dL_law_654 : decode cL_law 654 = .ok (.iload 5, 2) := by decide +kernel
theorem dL_law_656 : decode cL_law 656 = .ok (.iconst 1, 1) := by decide +kernel
theorem dL_law_657 : decode cL_law 657 = .ok (.iadd, 1) := by decide +kernel
theorem dL_law_658 : decode cL_law 658 = .ok (.iaload, 1) := by decide +kernel
theorem dL_law_659 : decode cL_law 659 = .ok (.invokevirtual 171, 3) := by decide +kernel
theorem dL_law_662 : decode cL_law 662 = .ok (.istore 7, 2) := by decide +kernel
theorem dL_law_664 : decode cL_law 664 = .ok (.aload_n 2, 1) := by decide +kernel
theorem dL_law_665 : decode cL_law 665 = .ok (.invokevirtual 135, 3) := by decide +kernel
theorem dL_law_668 : decode cL_law 668 = .ok (.iload 6, 2) := by decide +kernel
theorem dL_law_670 : decode cL_law 670 = .ok (.if_icmp .eq 5, 3) := by decide +kernel
theorem dL_law_673 : decode cL_law 673 = .ok (.iconst 0, 1) := by decide +kernel
theorem dL_law_674 : decode cL_law 674 = .ok (.ireturn, 1) := by decide +kernel
theorem dL_law_675 : decode cL_law 675 = .ok (.iload 6, 2) := by decide +kernel
theorem dL_law_677 : decode cL_law 677 = .ok (.ifCond .ne 15, 3) := by decide +kernel
theorem dL_law_680 : decode cL_law 680 = .ok (.aload_n 3, 1) := by decide +kernel
theorem dL_law_681 : decode cL_law 681 = .ok (.iconst 0, 1) := by decide +kernel
theorem dL_law_682 : decode cL_law 682 = .ok (.laload, 1) := by decide +kernel
theorem dL_law_683 : decode cL_law 683 = .ok (.iload 7, 2) := by decide +kernel
theorem dL_law_685 : decode cL_law 685 = .ok (.i2l, 1) := by decide +kernel
theorem dL_law_686 : decode cL_law 686 = .ok (.lcmp, 1) := by decide +kernel
theorem dL_law_687 : decode cL_law 687 = .ok (.ifCond .eq 5, 3) := by decide +kernel
theorem dL_law_690 : decode cL_law 690 = .ok (.iconst 0, 1) := by decide +kernel
theorem dL_law_691 : decode cL_law 691 = .ok (.ireturn, 1) := by decide +kernel
theorem dL_law_692 : decode cL_law 692 = .ok (.goto 1663, 3) := by decide +kernel
theorem dL_law_695 : decode cL_law 695 = .ok (.aload_n 1, 1) := by decide +kernel
theorem dL_law_696 : decode cL_law 696 = .ok (.aload_n 0, 1) := by decide +kernel
theorem dL_law_697 : decode cL_law 697 = .ok (.iload 5, 2) := by decide +kernel
theorem dL_law_699 : decode cL_law 699 = .ok (.iconst 1, 1) := by decide +kernel
theorem dL_law_700 : decode cL_law 700 = .ok (.iadd, 1) := by decide +kernel
theorem dL_law_701 : decode cL_law 701 = .ok (.iaload, 1) := by decide +kernel
theorem dL_law_702 : decode cL_law 702 = .ok (.aload_n 0, 1) := by decide +kernel
theorem dL_law_703 : decode cL_law 703 = .ok (.iload 5, 2) := by decide +kernel
theorem dL_law_705 : decode cL_law 705 = .ok (.iconst 2, 1) := by decide +kernel
theorem dL_law_706 : decode cL_law 706 = .ok (.iadd, 1) := by decide +kernel
theorem dL_law_707 : decode cL_law 707 = .ok (.iaload, 1) := by decide +kernel
theorem dL_law_708 : decode cL_law 708 = .ok (.aload_n 0, 1) := by decide +kernel
theorem dL_law_709 : decode cL_law 709 = .ok (.iload 5, 2) := by decide +kernel
theorem dL_law_711 : decode cL_law 711 = .ok (.iconst 3, 1) := by decide +kernel
theorem dL_law_712 : decode cL_law 712 = .ok (.iadd, 1) := by decide +kernel
theorem dL_law_713 : decode cL_law 713 = .ok (.iaload, 1) := by decide +kernel
theorem dL_law_714 : decode cL_law 714 = .ok (.ifCond .eq 7, 3) := by decide +kernel
theorem dL_law_717 : decode cL_law 717 = .ok (.iconst 1, 1) := by decide +kernel
theorem dL_law_718 : decode cL_law 718 = .ok (.goto 4, 3) := by decide +kernel
theorem dL_law_721 : decode cL_law 721 = .ok (.iconst 0, 1) := by decide +kernel
theorem dL_law_722 : decode cL_law 722 = .ok (.aload_n 3, 1) := by decide +kernel
theorem dL_law_723 : decode cL_law 723 = .ok (.invokestatic 172, 3) := by decide +kernel
theorem dL_law_726 : decode cL_law 726 = .ok (.istore 6, 2) := by decide +kernel
theorem dL_law_728 : decode cL_law 728 = .ok (.aload_n 2, 1) := by decide +kernel
theorem dL_law_729 : decode cL_law 729 = .ok (.aload_n 0, 1) := by decide +kernel
theorem dL_law_730 : decode cL_law 730 = .ok (.iload 5, 2) := by decide +kernel
theorem dL_law_732 : decode cL_law 732 = .ok (.iconst 1, 1) := by decide +kernel
theorem dL_law_733 : decode cL_law 733 = .ok (.iadd, 1) := by decide +kernel
theorem dL_law_734 : decode cL_law 734 = .ok (.iaload, 1) := by decide +kernel
theorem dL_law_735 : decode cL_law 735 = .ok (.aload_n 0, 1) := by decide +kernel
theorem dL_law_736 : decode cL_law 736 = .ok (.iload 5, 2) := by decide +kernel
theorem dL_law_738 : decode cL_law 738 = .ok (.iconst 2, 1) := by decide +kernel
theorem dL_law_739 : decode cL_law 739 = .ok (.iadd, 1) := by decide +kernel
theorem dL_law_740 : decode cL_law 740 = .ok (.iaload, 1) := by decide +kernel
theorem dL_law_741 : decode cL_law 741 = .ok (.aload_n 0, 1) := by decide +kernel
theorem dL_law_742 : decode cL_law 742 = .ok (.iload 5, 2) := by decide +kernel
theorem dL_law_744 : decode cL_law 744 = .ok (.iconst 3, 1) := by decide +kernel
theorem dL_law_745 : decode cL_law 745 = .ok (.iadd, 1) := by decide +kernel
theorem dL_law_746 : decode cL_law 746 = .ok (.iaload, 1) := by decide +kernel
theorem dL_law_747 : decode cL_law 747 = .ok (.ifCond .eq 7, 3) := by decide +kernel
theorem dL_law_750 : decode cL_law 750 = .ok (.iconst 1, 1) := by decide +kernel
theorem dL_law_751 : decode cL_law 751 = .ok (.goto 4, 3) := by decide +kernel
theorem dL_law_754 : decode cL_law 754 = .ok (.iconst 0, 1) := by decide +kernel
theorem dL_law_755 : decode cL_law 755 = .ok (.invokevirtual 175, 3) := by decide +kernel
theorem dL_law_758 : decode cL_law 758 = .ok (.istore 7, 2) := by decide +kernel
theorem dL_law_760 : decode cL_law 760 = .ok (.aload_n 2, 1) := by decide +kernel
theorem dL_law_761 : decode cL_law 761 = .ok (.invokevirtual 135, 3) := by decide +kernel
theorem dL_law_764 : decode cL_law 764 = .ok (.iload 6, 2) := by decide +kernel
theorem dL_law_766 : decode cL_law 766 = .ok (.if_icmp .eq 5, 3) := by decide +kernel
theorem dL_law_769 : decode cL_law 769 = .ok (.iconst 0, 1) := by decide +kernel
theorem dL_law_770 : decode cL_law 770 = .ok (.ireturn, 1) := by decide +kernel
theorem dL_law_771 : decode cL_law 771 = .ok (.iload 6, 2) := by decide +kernel
theorem dL_law_773 : decode cL_law 773 = .ok (.ifCond .ne 15, 3) := by decide +kernel
theorem dL_law_776 : decode cL_law 776 = .ok (.aload_n 3, 1) := by decide +kernel
theorem dL_law_777 : decode cL_law 777 = .ok (.iconst 0, 1) := by decide +kernel
theorem dL_law_778 : decode cL_law 778 = .ok (.laload, 1) := by decide +kernel
theorem dL_law_779 : decode cL_law 779 = .ok (.iload 7, 2) := by decide +kernel
theorem dL_law_781 : decode cL_law 781 = .ok (.i2l, 1) := by decide +kernel
theorem dL_law_782 : decode cL_law 782 = .ok (.lcmp, 1) := by decide +kernel
theorem dL_law_783 : decode cL_law 783 = .ok (.ifCond .eq 5, 3) := by decide +kernel
theorem dL_law_786 : decode cL_law 786 = .ok (.iconst 0, 1) := by decide +kernel
theorem dL_law_787 : decode cL_law 787 = .ok (.ireturn, 1) := by decide +kernel
theorem dL_law_788 : decode cL_law 788 = .ok (.goto 1567, 3) := by decide +kernel
theorem dL_law_791 : decode cL_law 791 = .ok (.aload_n 1, 1) := by decide +kernel
theorem dL_law_792 : decode cL_law 792 = .ok (.aload_n 0, 1) := by decide +kernel
theorem dL_law_793 : decode cL_law 793 = .ok (.iload 5, 2) := by decide +kernel
theorem dL_law_795 : decode cL_law 795 = .ok (.iconst 1, 1) := by decide +kernel
theorem dL_law_796 : decode cL_law 796 = .ok (.iadd, 1) := by decide +kernel
theorem dL_law_797 : decode cL_law 797 = .ok (.iaload, 1) := by decide +kernel
theorem dL_law_798 : decode cL_law 798 = .ok (.aload_n 0, 1) := by decide +kernel
theorem dL_law_799 : decode cL_law 799 = .ok (.iload 5, 2) := by decide +kernel
theorem dL_law_801 : decode cL_law 801 = .ok (.iconst 2, 1) := by decide +kernel
theorem dL_law_802 : decode cL_law 802 = .ok (.iadd, 1) := by decide +kernel
theorem dL_law_803 : decode cL_law 803 = .ok (.iaload, 1) := by decide +kernel
theorem dL_law_804 : decode cL_law 804 = .ok (.aload_n 3, 1) := by decide +kernel
theorem dL_law_805 : decode cL_law 805 = .ok (.invokestatic 176, 3) := by decide +kernel
theorem dL_law_808 : decode cL_law 808 = .ok (.istore 6, 2) := by decide +kernel
theorem dL_law_810 : decode cL_law 810 = .ok (.aload_n 2, 1) := by decide +kernel
theorem dL_law_811 : decode cL_law 811 = .ok (.aload_n 0, 1) := by decide +kernel
theorem dL_law_812 : decode cL_law 812 = .ok (.iload 5, 2) := by decide +kernel
theorem dL_law_814 : decode cL_law 814 = .ok (.iconst 1, 1) := by decide +kernel
theorem dL_law_815 : decode cL_law 815 = .ok (.iadd, 1) := by decide +kernel
theorem dL_law_816 : decode cL_law 816 = .ok (.iaload, 1) := by decide +kernel
theorem dL_law_817 : decode cL_law 817 = .ok (.aload_n 0, 1) := by decide +kernel
theorem dL_law_818 : decode cL_law 818 = .ok (.iload 5, 2) := by decide +kernel
theorem dL_law_820 : decode cL_law 820 = .ok (.iconst 2, 1) := by decide +kernel
theorem dL_law_821 : decode cL_law 821 = .ok (.iadd, 1) := by decide +kernel
theorem dL_law_822 : decode cL_law 822 = .ok (.iaload, 1) := by decide +kernel
theorem dL_law_823 : decode cL_law 823 = .ok (.invokevirtual 178, 3) := by decide +kernel
theorem dL_law_826 : decode cL_law 826 = .ok (.istore 7, 2) := by decide +kernel
theorem dL_law_828 : decode cL_law 828 = .ok (.aload_n 2, 1) := by decide +kernel
theorem dL_law_829 : decode cL_law 829 = .ok (.invokevirtual 135, 3) := by decide +kernel
theorem dL_law_832 : decode cL_law 832 = .ok (.iload 6, 2) := by decide +kernel
theorem dL_law_834 : decode cL_law 834 = .ok (.if_icmp .eq 5, 3) := by decide +kernel
theorem dL_law_837 : decode cL_law 837 = .ok (.iconst 0, 1) := by decide +kernel
theorem dL_law_838 : decode cL_law 838 = .ok (.ireturn, 1) := by decide +kernel
theorem dL_law_839 : decode cL_law 839 = .ok (.iload 6, 2) := by decide +kernel
theorem dL_law_841 : decode cL_law 841 = .ok (.ifCond .ne 15, 3) := by decide +kernel
theorem dL_law_844 : decode cL_law 844 = .ok (.aload_n 3, 1) := by decide +kernel
theorem dL_law_845 : decode cL_law 845 = .ok (.iconst 0, 1) := by decide +kernel
theorem dL_law_846 : decode cL_law 846 = .ok (.laload, 1) := by decide +kernel
theorem dL_law_847 : decode cL_law 847 = .ok (.iload 7, 2) := by decide +kernel
theorem dL_law_849 : decode cL_law 849 = .ok (.i2l, 1) := by decide +kernel
theorem dL_law_850 : decode cL_law 850 = .ok (.lcmp, 1) := by decide +kernel
theorem dL_law_851 : decode cL_law 851 = .ok (.ifCond .eq 5, 3) := by decide +kernel
theorem dL_law_854 : decode cL_law 854 = .ok (.iconst 0, 1) := by decide +kernel
theorem dL_law_855 : decode cL_law 855 = .ok (.ireturn, 1) := by decide +kernel
theorem dL_law_856 : decode cL_law 856 = .ok (.goto 1499, 3) := by decide +kernel
theorem dL_law_859 : decode cL_law 859 = .ok (.aload_n 1, 1) := by decide +kernel
theorem dL_law_860 : decode cL_law 860 = .ok (.aload_n 0, 1) := by decide +kernel
theorem dL_law_861 : decode cL_law 861 = .ok (.iload 5, 2) := by decide +kernel
theorem dL_law_863 : decode cL_law 863 = .ok (.iconst 1, 1) := by decide +kernel
theorem dL_law_864 : decode cL_law 864 = .ok (.iadd, 1) := by decide +kernel
theorem dL_law_865 : decode cL_law 865 = .ok (.iaload, 1) := by decide +kernel
theorem dL_law_866 : decode cL_law 866 = .ok (.aload_n 3, 1) := by decide +kernel
theorem dL_law_867 : decode cL_law 867 = .ok (.invokestatic 179, 3) := by decide +kernel
theorem dL_law_870 : decode cL_law 870 = .ok (.istore 6, 2) := by decide +kernel
theorem dL_law_872 : decode cL_law 872 = .ok (.aload_n 2, 1) := by decide +kernel
theorem dL_law_873 : decode cL_law 873 = .ok (.aload_n 0, 1) := by decide +kernel
theorem dL_law_874 : decode cL_law 874 = .ok (.iload 5, 2) := by decide +kernel
theorem dL_law_876 : decode cL_law 876 = .ok (.iconst 1, 1) := by decide +kernel
theorem dL_law_877 : decode cL_law 877 = .ok (.iadd, 1) := by decide +kernel
theorem dL_law_878 : decode cL_law 878 = .ok (.iaload, 1) := by decide +kernel
theorem dL_law_879 : decode cL_law 879 = .ok (.invokevirtual 181, 3) := by decide +kernel
theorem dL_law_882 : decode cL_law 882 = .ok (.istore 7, 2) := by decide +kernel
theorem dL_law_884 : decode cL_law 884 = .ok (.aload_n 2, 1) := by decide +kernel
theorem dL_law_885 : decode cL_law 885 = .ok (.invokevirtual 135, 3) := by decide +kernel
theorem dL_law_888 : decode cL_law 888 = .ok (.iload 6, 2) := by decide +kernel
theorem dL_law_890 : decode cL_law 890 = .ok (.if_icmp .eq 5, 3) := by decide +kernel
theorem dL_law_893 : decode cL_law 893 = .ok (.iconst 0, 1) := by decide +kernel
theorem dL_law_894 : decode cL_law 894 = .ok (.ireturn, 1) := by decide +kernel
theorem dL_law_895 : decode cL_law 895 = .ok (.iload 6, 2) := by decide +kernel
theorem dL_law_897 : decode cL_law 897 = .ok (.ifCond .ne 15, 3) := by decide +kernel
theorem dL_law_900 : decode cL_law 900 = .ok (.aload_n 3, 1) := by decide +kernel
theorem dL_law_901 : decode cL_law 901 = .ok (.iconst 0, 1) := by decide +kernel
theorem dL_law_902 : decode cL_law 902 = .ok (.laload, 1) := by decide +kernel
theorem dL_law_903 : decode cL_law 903 = .ok (.iload 7, 2) := by decide +kernel
theorem dL_law_905 : decode cL_law 905 = .ok (.i2l, 1) := by decide +kernel
theorem dL_law_906 : decode cL_law 906 = .ok (.lcmp, 1) := by decide +kernel
theorem dL_law_907 : decode cL_law 907 = .ok (.ifCond .eq 5, 3) := by decide +kernel
theorem dL_law_910 : decode cL_law 910 = .ok (.iconst 0, 1) := by decide +kernel
theorem dL_law_911 : decode cL_law 911 = .ok (.ireturn, 1) := by decide +kernel
theorem dL_law_912 : decode cL_law 912 = .ok (.goto 1443, 3) := by decide +kernel
theorem dL_law_915 : decode cL_law 915 = .ok (.aload_n 1, 1) := by decide +kernel
theorem dL_law_916 : decode cL_law 916 = .ok (.aload_n 0, 1) := by decide +kernel
theorem dL_law_917 : decode cL_law 917 = .ok (.iload 5, 2) := by decide +kernel
theorem dL_law_919 : decode cL_law 919 = .ok (.iconst 1, 1) := by decide +kernel
theorem dL_law_920 : decode cL_law 920 = .ok (.iadd, 1) := by decide +kernel
theorem dL_law_921 : decode cL_law 921 = .ok (.iaload, 1) := by decide +kernel
theorem dL_law_922 : decode cL_law 922 = .ok (.aload_n 0, 1) := by decide +kernel
theorem dL_law_923 : decode cL_law 923 = .ok (.iload 5, 2) := by decide +kernel
theorem dL_law_925 : decode cL_law 925 = .ok (.iconst 2, 1) := by decide +kernel
theorem dL_law_926 : decode cL_law 926 = .ok (.iadd, 1) := by decide +kernel
theorem dL_law_927 : decode cL_law 927 = .ok (.iaload, 1) := by decide +kernel
theorem dL_law_928 : decode cL_law 928 = .ok (.aload_n 3, 1) := by decide +kernel
theorem dL_law_929 : decode cL_law 929 = .ok (.invokestatic 182, 3) := by decide +kernel
theorem dL_law_932 : decode cL_law 932 = .ok (.istore 6, 2) := by decide +kernel
theorem dL_law_934 : decode cL_law 934 = .ok (.aload_n 2, 1) := by decide +kernel
theorem dL_law_935 : decode cL_law 935 = .ok (.aload_n 0, 1) := by decide +kernel
theorem dL_law_936 : decode cL_law 936 = .ok (.iload 5, 2) := by decide +kernel
theorem dL_law_938 : decode cL_law 938 = .ok (.iconst 1, 1) := by decide +kernel
theorem dL_law_939 : decode cL_law 939 = .ok (.iadd, 1) := by decide +kernel
theorem dL_law_940 : decode cL_law 940 = .ok (.iaload, 1) := by decide +kernel
theorem dL_law_941 : decode cL_law 941 = .ok (.aload_n 0, 1) := by decide +kernel
theorem dL_law_942 : decode cL_law 942 = .ok (.iload 5, 2) := by decide +kernel
theorem dL_law_944 : decode cL_law 944 = .ok (.iconst 2, 1) := by decide +kernel
theorem dL_law_945 : decode cL_law 945 = .ok (.iadd, 1) := by decide +kernel
theorem dL_law_946 : decode cL_law 946 = .ok (.iaload, 1) := by decide +kernel
theorem dL_law_947 : decode cL_law 947 = .ok (.invokevirtual 184, 3) := by decide +kernel
theorem dL_law_950 : decode cL_law 950 = .ok (.istore 7, 2) := by decide +kernel
theorem dL_law_952 : decode cL_law 952 = .ok (.aload_n 2, 1) := by decide +kernel
theorem dL_law_953 : decode cL_law 953 = .ok (.invokevirtual 135, 3) := by decide +kernel
theorem dL_law_956 : decode cL_law 956 = .ok (.iload 6, 2) := by decide +kernel
theorem dL_law_958 : decode cL_law 958 = .ok (.if_icmp .eq 5, 3) := by decide +kernel
theorem dL_law_961 : decode cL_law 961 = .ok (.iconst 0, 1) := by decide +kernel
theorem dL_law_962 : decode cL_law 962 = .ok (.ireturn, 1) := by decide +kernel
theorem dL_law_963 : decode cL_law 963 = .ok (.iload 6, 2) := by decide +kernel
theorem dL_law_965 : decode cL_law 965 = .ok (.ifCond .ne 15, 3) := by decide +kernel
theorem dL_law_968 : decode cL_law 968 = .ok (.aload_n 3, 1) := by decide +kernel
theorem dL_law_969 : decode cL_law 969 = .ok (.iconst 0, 1) := by decide +kernel
theorem dL_law_970 : decode cL_law 970 = .ok (.laload, 1) := by decide +kernel
theorem dL_law_971 : decode cL_law 971 = .ok (.iload 7, 2) := by decide +kernel
theorem dL_law_973 : decode cL_law 973 = .ok (.i2l, 1) := by decide +kernel
theorem dL_law_974 : decode cL_law 974 = .ok (.lcmp, 1) := by decide +kernel
theorem dL_law_975 : decode cL_law 975 = .ok (.ifCond .eq 5, 3) := by decide +kernel
theorem dL_law_978 : decode cL_law 978 = .ok (.iconst 0, 1) := by decide +kernel
theorem dL_law_979 : decode cL_law 979 = .ok (.ireturn, 1) := by decide +kernel
theorem dL_law_980 : decode cL_law 980 = .ok (.goto 1375, 3) := by decide +kernel
theorem dL_law_983 : decode cL_law 983 = .ok (.aload_n 1, 1) := by decide +kernel
theorem dL_law_984 : decode cL_law 984 = .ok (.aload_n 0, 1) := by decide +kernel
theorem dL_law_985 : decode cL_law 985 = .ok (.iload 5, 2) := by decide +kernel
theorem dL_law_987 : decode cL_law 987 = .ok (.iconst 1, 1) := by decide +kernel
theorem dL_law_988 : decode cL_law 988 = .ok (.iadd, 1) := by decide +kernel
theorem dL_law_989 : decode cL_law 989 = .ok (.iaload, 1) := by decide +kernel
theorem dL_law_990 : decode cL_law 990 = .ok (.aload_n 0, 1) := by decide +kernel
theorem dL_law_991 : decode cL_law 991 = .ok (.iload 5, 2) := by decide +kernel
theorem dL_law_993 : decode cL_law 993 = .ok (.iconst 2, 1) := by decide +kernel
theorem dL_law_994 : decode cL_law 994 = .ok (.iadd, 1) := by decide +kernel
theorem dL_law_995 : decode cL_law 995 = .ok (.iaload, 1) := by decide +kernel
theorem dL_law_996 : decode cL_law 996 = .ok (.aload_n 3, 1) := by decide +kernel
theorem dL_law_997 : decode cL_law 997 = .ok (.invokestatic 185, 3) := by decide +kernel
theorem dL_law_1000 : decode cL_law 1000 = .ok (.istore 6, 2) := by decide +kernel
theorem dL_law_1002 : decode cL_law 1002 = .ok (.aload_n 2, 1) := by decide +kernel
theorem dL_law_1003 : decode cL_law 1003 = .ok (.aload_n 0, 1) := by decide +kernel
theorem dL_law_1004 : decode cL_law 1004 = .ok (.iload 5, 2) := by decide +kernel
theorem dL_law_1006 : decode cL_law 1006 = .ok (.iconst 1, 1) := by decide +kernel
theorem dL_law_1007 : decode cL_law 1007 = .ok (.iadd, 1) := by decide +kernel
theorem dL_law_1008 : decode cL_law 1008 = .ok (.iaload, 1) := by decide +kernel
theorem dL_law_1009 : decode cL_law 1009 = .ok (.aload_n 0, 1) := by decide +kernel
theorem dL_law_1010 : decode cL_law 1010 = .ok (.iload 5, 2) := by decide +kernel
theorem dL_law_1012 : decode cL_law 1012 = .ok (.iconst 2, 1) := by decide +kernel
theorem dL_law_1013 : decode cL_law 1013 = .ok (.iadd, 1) := by decide +kernel
theorem dL_law_1014 : decode cL_law 1014 = .ok (.iaload, 1) := by decide +kernel
theorem dL_law_1015 : decode cL_law 1015 = .ok (.invokevirtual 187, 3) := by decide +kernel
theorem dL_law_1018 : decode cL_law 1018 = .ok (.istore 7, 2) := by decide +kernel
theorem dL_law_1020 : decode cL_law 1020 = .ok (.aload_n 2, 1) := by decide +kernel
theorem dL_law_1021 : decode cL_law 1021 = .ok (.invokevirtual 135, 3) := by decide +kernel
theorem dL_law_1024 : decode cL_law 1024 = .ok (.iload 6, 2) := by decide +kernel
theorem dL_law_1026 : decode cL_law 1026 = .ok (.if_icmp .eq 5, 3) := by decide +kernel
theorem dL_law_1029 : decode cL_law 1029 = .ok (.iconst 0, 1) := by decide +kernel
theorem dL_law_1030 : decode cL_law 1030 = .ok (.ireturn, 1) := by decide +kernel
theorem dL_law_1031 : decode cL_law 1031 = .ok (.iload 6, 2) := by decide +kernel
theorem dL_law_1033 : decode cL_law 1033 = .ok (.ifCond .ne 15, 3) := by decide +kernel
theorem dL_law_1036 : decode cL_law 1036 = .ok (.aload_n 3, 1) := by decide +kernel
theorem dL_law_1037 : decode cL_law 1037 = .ok (.iconst 0, 1) := by decide +kernel
theorem dL_law_1038 : decode cL_law 1038 = .ok (.laload, 1) := by decide +kernel
theorem dL_law_1039 : decode cL_law 1039 = .ok (.iload 7, 2) := by decide +kernel
theorem dL_law_1041 : decode cL_law 1041 = .ok (.i2l, 1) := by decide +kernel
theorem dL_law_1042 : decode cL_law 1042 = .ok (.lcmp, 1) := by decide +kernel
theorem dL_law_1043 : decode cL_law 1043 = .ok (.ifCond .eq 5, 3) := by decide +kernel
theorem dL_law_1046 : decode cL_law 1046 = .ok (.iconst 0, 1) := by decide +kernel
theorem dL_law_1047 : decode cL_law 1047 = .ok (.ireturn, 1) := by decide +kernel
theorem dL_law_1048 : decode cL_law 1048 = .ok (.goto 1307, 3) := by decide +kernel
theorem dL_law_1051 : decode cL_law 1051 = .ok (.aload_n 1, 1) := by decide +kernel
theorem dL_law_1052 : decode cL_law 1052 = .ok (.aload_n 0, 1) := by decide +kernel
theorem dL_law_1053 : decode cL_law 1053 = .ok (.iload 5, 2) := by decide +kernel
theorem dL_law_1055 : decode cL_law 1055 = .ok (.iconst 1, 1) := by decide +kernel
theorem dL_law_1056 : decode cL_law 1056 = .ok (.iadd, 1) := by decide +kernel
theorem dL_law_1057 : decode cL_law 1057 = .ok (.iaload, 1) := by decide +kernel
theorem dL_law_1058 : decode cL_law 1058 = .ok (.aload_n 3, 1) := by decide +kernel
theorem dL_law_1059 : decode cL_law 1059 = .ok (.invokestatic 188, 3) := by decide +kernel
theorem dL_law_1062 : decode cL_law 1062 = .ok (.istore 6, 2) := by decide +kernel
theorem dL_law_1064 : decode cL_law 1064 = .ok (.aload_n 2, 1) := by decide +kernel
theorem dL_law_1065 : decode cL_law 1065 = .ok (.aload_n 0, 1) := by decide +kernel
theorem dL_law_1066 : decode cL_law 1066 = .ok (.iload 5, 2) := by decide +kernel
theorem dL_law_1068 : decode cL_law 1068 = .ok (.iconst 1, 1) := by decide +kernel
theorem dL_law_1069 : decode cL_law 1069 = .ok (.iadd, 1) := by decide +kernel
theorem dL_law_1070 : decode cL_law 1070 = .ok (.iaload, 1) := by decide +kernel
theorem dL_law_1071 : decode cL_law 1071 = .ok (.invokevirtual 190, 3) := by decide +kernel
theorem dL_law_1074 : decode cL_law 1074 = .ok (.istore 7, 2) := by decide +kernel
theorem dL_law_1076 : decode cL_law 1076 = .ok (.aload_n 2, 1) := by decide +kernel
theorem dL_law_1077 : decode cL_law 1077 = .ok (.invokevirtual 135, 3) := by decide +kernel
theorem dL_law_1080 : decode cL_law 1080 = .ok (.iload 6, 2) := by decide +kernel
theorem dL_law_1082 : decode cL_law 1082 = .ok (.if_icmp .eq 5, 3) := by decide +kernel
theorem dL_law_1085 : decode cL_law 1085 = .ok (.iconst 0, 1) := by decide +kernel
theorem dL_law_1086 : decode cL_law 1086 = .ok (.ireturn, 1) := by decide +kernel
theorem dL_law_1087 : decode cL_law 1087 = .ok (.iload 6, 2) := by decide +kernel
theorem dL_law_1089 : decode cL_law 1089 = .ok (.ifCond .ne 15, 3) := by decide +kernel
theorem dL_law_1092 : decode cL_law 1092 = .ok (.aload_n 3, 1) := by decide +kernel
theorem dL_law_1093 : decode cL_law 1093 = .ok (.iconst 0, 1) := by decide +kernel
theorem dL_law_1094 : decode cL_law 1094 = .ok (.laload, 1) := by decide +kernel
theorem dL_law_1095 : decode cL_law 1095 = .ok (.iload 7, 2) := by decide +kernel
theorem dL_law_1097 : decode cL_law 1097 = .ok (.i2l, 1) := by decide +kernel
theorem dL_law_1098 : decode cL_law 1098 = .ok (.lcmp, 1) := by decide +kernel
theorem dL_law_1099 : decode cL_law 1099 = .ok (.ifCond .eq 5, 3) := by decide +kernel
theorem dL_law_1102 : decode cL_law 1102 = .ok (.iconst 0, 1) := by decide +kernel
theorem dL_law_1103 : decode cL_law 1103 = .ok (.ireturn, 1) := by decide +kernel
theorem dL_law_1104 : decode cL_law 1104 = .ok (.goto 1251, 3) := by decide +kernel
theorem dL_law_1107 : decode cL_law 1107 = .ok (.aload_n 1, 1) := by decide +kernel
theorem dL_law_1108 : decode cL_law 1108 = .ok (.aload_n 0, 1) := by decide +kernel
theorem dL_law_1109 : decode cL_law 1109 = .ok (.iload 5, 2) := by decide +kernel
theorem dL_law_1111 : decode cL_law 1111 = .ok (.iconst 1, 1) := by decide +kernel
theorem dL_law_1112 : decode cL_law 1112 = .ok (.iadd, 1) := by decide +kernel
theorem dL_law_1113 : decode cL_law 1113 = .ok (.iaload, 1) := by decide +kernel
theorem dL_law_1114 : decode cL_law 1114 = .ok (.aload_n 0, 1) := by decide +kernel
theorem dL_law_1115 : decode cL_law 1115 = .ok (.iload 5, 2) := by decide +kernel
theorem dL_law_1117 : decode cL_law 1117 = .ok (.iconst 2, 1) := by decide +kernel
theorem dL_law_1118 : decode cL_law 1118 = .ok (.iadd, 1) := by decide +kernel
theorem dL_law_1119 : decode cL_law 1119 = .ok (.iaload, 1) := by decide +kernel
theorem dL_law_1120 : decode cL_law 1120 = .ok (.aload_n 3, 1) := by decide +kernel
theorem dL_law_1121 : decode cL_law 1121 = .ok (.invokestatic 191, 3) := by decide +kernel
theorem dL_law_1124 : decode cL_law 1124 = .ok (.istore 6, 2) := by decide +kernel
theorem dL_law_1126 : decode cL_law 1126 = .ok (.aload_n 2, 1) := by decide +kernel
theorem dL_law_1127 : decode cL_law 1127 = .ok (.aload_n 0, 1) := by decide +kernel
theorem dL_law_1128 : decode cL_law 1128 = .ok (.iload 5, 2) := by decide +kernel
theorem dL_law_1130 : decode cL_law 1130 = .ok (.iconst 1, 1) := by decide +kernel
theorem dL_law_1131 : decode cL_law 1131 = .ok (.iadd, 1) := by decide +kernel
theorem dL_law_1132 : decode cL_law 1132 = .ok (.iaload, 1) := by decide +kernel
theorem dL_law_1133 : decode cL_law 1133 = .ok (.aload_n 0, 1) := by decide +kernel
theorem dL_law_1134 : decode cL_law 1134 = .ok (.iload 5, 2) := by decide +kernel
theorem dL_law_1136 : decode cL_law 1136 = .ok (.iconst 2, 1) := by decide +kernel
theorem dL_law_1137 : decode cL_law 1137 = .ok (.iadd, 1) := by decide +kernel
theorem dL_law_1138 : decode cL_law 1138 = .ok (.iaload, 1) := by decide +kernel
theorem dL_law_1139 : decode cL_law 1139 = .ok (.invokevirtual 193, 3) := by decide +kernel
theorem dL_law_1142 : decode cL_law 1142 = .ok (.istore 7, 2) := by decide +kernel
theorem dL_law_1144 : decode cL_law 1144 = .ok (.aload_n 2, 1) := by decide +kernel
theorem dL_law_1145 : decode cL_law 1145 = .ok (.invokevirtual 135, 3) := by decide +kernel
theorem dL_law_1148 : decode cL_law 1148 = .ok (.iload 6, 2) := by decide +kernel
theorem dL_law_1150 : decode cL_law 1150 = .ok (.if_icmp .eq 5, 3) := by decide +kernel
theorem dL_law_1153 : decode cL_law 1153 = .ok (.iconst 0, 1) := by decide +kernel
theorem dL_law_1154 : decode cL_law 1154 = .ok (.ireturn, 1) := by decide +kernel
theorem dL_law_1155 : decode cL_law 1155 = .ok (.iload 6, 2) := by decide +kernel
theorem dL_law_1157 : decode cL_law 1157 = .ok (.ifCond .ne 15, 3) := by decide +kernel
theorem dL_law_1160 : decode cL_law 1160 = .ok (.aload_n 3, 1) := by decide +kernel
theorem dL_law_1161 : decode cL_law 1161 = .ok (.iconst 0, 1) := by decide +kernel
theorem dL_law_1162 : decode cL_law 1162 = .ok (.laload, 1) := by decide +kernel
theorem dL_law_1163 : decode cL_law 1163 = .ok (.iload 7, 2) := by decide +kernel
theorem dL_law_1165 : decode cL_law 1165 = .ok (.i2l, 1) := by decide +kernel
theorem dL_law_1166 : decode cL_law 1166 = .ok (.lcmp, 1) := by decide +kernel
theorem dL_law_1167 : decode cL_law 1167 = .ok (.ifCond .eq 5, 3) := by decide +kernel
theorem dL_law_1170 : decode cL_law 1170 = .ok (.iconst 0, 1) := by decide +kernel
theorem dL_law_1171 : decode cL_law 1171 = .ok (.ireturn, 1) := by decide +kernel
theorem dL_law_1172 : decode cL_law 1172 = .ok (.goto 1183, 3) := by decide +kernel
theorem dL_law_1175 : decode cL_law 1175 = .ok (.aload_n 1, 1) := by decide +kernel
theorem dL_law_1176 : decode cL_law 1176 = .ok (.aload_n 0, 1) := by decide +kernel
theorem dL_law_1177 : decode cL_law 1177 = .ok (.iload 5, 2) := by decide +kernel
theorem dL_law_1179 : decode cL_law 1179 = .ok (.iconst 1, 1) := by decide +kernel
theorem dL_law_1180 : decode cL_law 1180 = .ok (.iadd, 1) := by decide +kernel
theorem dL_law_1181 : decode cL_law 1181 = .ok (.iaload, 1) := by decide +kernel
theorem dL_law_1182 : decode cL_law 1182 = .ok (.aload_n 0, 1) := by decide +kernel
theorem dL_law_1183 : decode cL_law 1183 = .ok (.iload 5, 2) := by decide +kernel
theorem dL_law_1185 : decode cL_law 1185 = .ok (.iconst 2, 1) := by decide +kernel
theorem dL_law_1186 : decode cL_law 1186 = .ok (.iadd, 1) := by decide +kernel
theorem dL_law_1187 : decode cL_law 1187 = .ok (.iaload, 1) := by decide +kernel
theorem dL_law_1188 : decode cL_law 1188 = .ok (.aload_n 3, 1) := by decide +kernel
theorem dL_law_1189 : decode cL_law 1189 = .ok (.invokestatic 194, 3) := by decide +kernel
theorem dL_law_1192 : decode cL_law 1192 = .ok (.istore 6, 2) := by decide +kernel
theorem dL_law_1194 : decode cL_law 1194 = .ok (.aload_n 2, 1) := by decide +kernel
theorem dL_law_1195 : decode cL_law 1195 = .ok (.aload_n 0, 1) := by decide +kernel
theorem dL_law_1196 : decode cL_law 1196 = .ok (.iload 5, 2) := by decide +kernel
theorem dL_law_1198 : decode cL_law 1198 = .ok (.iconst 1, 1) := by decide +kernel
theorem dL_law_1199 : decode cL_law 1199 = .ok (.iadd, 1) := by decide +kernel
theorem dL_law_1200 : decode cL_law 1200 = .ok (.iaload, 1) := by decide +kernel
theorem dL_law_1201 : decode cL_law 1201 = .ok (.aload_n 0, 1) := by decide +kernel
theorem dL_law_1202 : decode cL_law 1202 = .ok (.iload 5, 2) := by decide +kernel
theorem dL_law_1204 : decode cL_law 1204 = .ok (.iconst 2, 1) := by decide +kernel
theorem dL_law_1205 : decode cL_law 1205 = .ok (.iadd, 1) := by decide +kernel
theorem dL_law_1206 : decode cL_law 1206 = .ok (.iaload, 1) := by decide +kernel
theorem dL_law_1207 : decode cL_law 1207 = .ok (.invokevirtual 196, 3) := by decide +kernel
theorem dL_law_1210 : decode cL_law 1210 = .ok (.istore 7, 2) := by decide +kernel
theorem dL_law_1212 : decode cL_law 1212 = .ok (.aload_n 2, 1) := by decide +kernel
theorem dL_law_1213 : decode cL_law 1213 = .ok (.invokevirtual 135, 3) := by decide +kernel
theorem dL_law_1216 : decode cL_law 1216 = .ok (.iload 6, 2) := by decide +kernel
theorem dL_law_1218 : decode cL_law 1218 = .ok (.if_icmp .eq 5, 3) := by decide +kernel
theorem dL_law_1221 : decode cL_law 1221 = .ok (.iconst 0, 1) := by decide +kernel
theorem dL_law_1222 : decode cL_law 1222 = .ok (.ireturn, 1) := by decide +kernel
theorem dL_law_1223 : decode cL_law 1223 = .ok (.iload 6, 2) := by decide +kernel
theorem dL_law_1225 : decode cL_law 1225 = .ok (.ifCond .ne 15, 3) := by decide +kernel
theorem dL_law_1228 : decode cL_law 1228 = .ok (.aload_n 3, 1) := by decide +kernel
theorem dL_law_1229 : decode cL_law 1229 = .ok (.iconst 0, 1) := by decide +kernel
theorem dL_law_1230 : decode cL_law 1230 = .ok (.laload, 1) := by decide +kernel
theorem dL_law_1231 : decode cL_law 1231 = .ok (.iload 7, 2) := by decide +kernel
theorem dL_law_1233 : decode cL_law 1233 = .ok (.i2l, 1) := by decide +kernel
theorem dL_law_1234 : decode cL_law 1234 = .ok (.lcmp, 1) := by decide +kernel
theorem dL_law_1235 : decode cL_law 1235 = .ok (.ifCond .eq 5, 3) := by decide +kernel
theorem dL_law_1238 : decode cL_law 1238 = .ok (.iconst 0, 1) := by decide +kernel
theorem dL_law_1239 : decode cL_law 1239 = .ok (.ireturn, 1) := by decide +kernel
theorem dL_law_1240 : decode cL_law 1240 = .ok (.goto 1115, 3) := by decide +kernel
theorem dL_law_1243 : decode cL_law 1243 = .ok (.aload_n 1, 1) := by decide +kernel
theorem dL_law_1244 : decode cL_law 1244 = .ok (.aload_n 0, 1) := by decide +kernel
theorem dL_law_1245 : decode cL_law 1245 = .ok (.iload 5, 2) := by decide +kernel
theorem dL_law_1247 : decode cL_law 1247 = .ok (.iconst 1, 1) := by decide +kernel
theorem dL_law_1248 : decode cL_law 1248 = .ok (.iadd, 1) := by decide +kernel
theorem dL_law_1249 : decode cL_law 1249 = .ok (.iaload, 1) := by decide +kernel
theorem dL_law_1250 : decode cL_law 1250 = .ok (.aload_n 0, 1) := by decide +kernel
theorem dL_law_1251 : decode cL_law 1251 = .ok (.iload 5, 2) := by decide +kernel
theorem dL_law_1253 : decode cL_law 1253 = .ok (.iconst 2, 1) := by decide +kernel
theorem dL_law_1254 : decode cL_law 1254 = .ok (.iadd, 1) := by decide +kernel
theorem dL_law_1255 : decode cL_law 1255 = .ok (.iaload, 1) := by decide +kernel
theorem dL_law_1256 : decode cL_law 1256 = .ok (.aload_n 3, 1) := by decide +kernel
theorem dL_law_1257 : decode cL_law 1257 = .ok (.invokestatic 197, 3) := by decide +kernel
theorem dL_law_1260 : decode cL_law 1260 = .ok (.istore 6, 2) := by decide +kernel
theorem dL_law_1262 : decode cL_law 1262 = .ok (.aload_n 2, 1) := by decide +kernel
theorem dL_law_1263 : decode cL_law 1263 = .ok (.aload_n 0, 1) := by decide +kernel
theorem dL_law_1264 : decode cL_law 1264 = .ok (.iload 5, 2) := by decide +kernel
theorem dL_law_1266 : decode cL_law 1266 = .ok (.iconst 1, 1) := by decide +kernel
theorem dL_law_1267 : decode cL_law 1267 = .ok (.iadd, 1) := by decide +kernel
theorem dL_law_1268 : decode cL_law 1268 = .ok (.iaload, 1) := by decide +kernel
theorem dL_law_1269 : decode cL_law 1269 = .ok (.aload_n 0, 1) := by decide +kernel
theorem dL_law_1270 : decode cL_law 1270 = .ok (.iload 5, 2) := by decide +kernel
theorem dL_law_1272 : decode cL_law 1272 = .ok (.iconst 2, 1) := by decide +kernel
theorem dL_law_1273 : decode cL_law 1273 = .ok (.iadd, 1) := by decide +kernel
theorem dL_law_1274 : decode cL_law 1274 = .ok (.iaload, 1) := by decide +kernel
theorem dL_law_1275 : decode cL_law 1275 = .ok (.invokevirtual 199, 3) := by decide +kernel
theorem dL_law_1278 : decode cL_law 1278 = .ok (.istore 7, 2) := by decide +kernel
theorem dL_law_1280 : decode cL_law 1280 = .ok (.aload_n 2, 1) := by decide +kernel
theorem dL_law_1281 : decode cL_law 1281 = .ok (.invokevirtual 135, 3) := by decide +kernel
theorem dL_law_1284 : decode cL_law 1284 = .ok (.iload 6, 2) := by decide +kernel
theorem dL_law_1286 : decode cL_law 1286 = .ok (.if_icmp .eq 5, 3) := by decide +kernel
theorem dL_law_1289 : decode cL_law 1289 = .ok (.iconst 0, 1) := by decide +kernel
theorem dL_law_1290 : decode cL_law 1290 = .ok (.ireturn, 1) := by decide +kernel
theorem dL_law_1291 : decode cL_law 1291 = .ok (.iload 6, 2) := by decide +kernel
theorem dL_law_1293 : decode cL_law 1293 = .ok (.ifCond .ne 15, 3) := by decide +kernel
theorem dL_law_1296 : decode cL_law 1296 = .ok (.aload_n 3, 1) := by decide +kernel
theorem dL_law_1297 : decode cL_law 1297 = .ok (.iconst 0, 1) := by decide +kernel
theorem dL_law_1298 : decode cL_law 1298 = .ok (.laload, 1) := by decide +kernel
theorem dL_law_1299 : decode cL_law 1299 = .ok (.iload 7, 2) := by decide +kernel
theorem dL_law_1301 : decode cL_law 1301 = .ok (.i2l, 1) := by decide +kernel
theorem dL_law_1302 : decode cL_law 1302 = .ok (.lcmp, 1) := by decide +kernel
theorem dL_law_1303 : decode cL_law 1303 = .ok (.ifCond .eq 5, 3) := by decide +kernel
theorem dL_law_1306 : decode cL_law 1306 = .ok (.iconst 0, 1) := by decide +kernel
theorem dL_law_1307 : decode cL_law 1307 = .ok (.ireturn, 1) := by decide +kernel
theorem dL_law_1308 : decode cL_law 1308 = .ok (.goto 1047, 3) := by decide +kernel
theorem dL_law_1311 : decode cL_law 1311 = .ok (.aload_n 1, 1) := by decide +kernel
theorem dL_law_1312 : decode cL_law 1312 = .ok (.aload_n 0, 1) := by decide +kernel
theorem dL_law_1313 : decode cL_law 1313 = .ok (.iload 5, 2) := by decide +kernel
theorem dL_law_1315 : decode cL_law 1315 = .ok (.iconst 1, 1) := by decide +kernel
theorem dL_law_1316 : decode cL_law 1316 = .ok (.iadd, 1) := by decide +kernel
theorem dL_law_1317 : decode cL_law 1317 = .ok (.iaload, 1) := by decide +kernel
theorem dL_law_1318 : decode cL_law 1318 = .ok (.aload_n 3, 1) := by decide +kernel
theorem dL_law_1319 : decode cL_law 1319 = .ok (.invokestatic 200, 3) := by decide +kernel
theorem dL_law_1322 : decode cL_law 1322 = .ok (.istore 6, 2) := by decide +kernel
theorem dL_law_1324 : decode cL_law 1324 = .ok (.aload_n 2, 1) := by decide +kernel
theorem dL_law_1325 : decode cL_law 1325 = .ok (.aload_n 0, 1) := by decide +kernel
theorem dL_law_1326 : decode cL_law 1326 = .ok (.iload 5, 2) := by decide +kernel
theorem dL_law_1328 : decode cL_law 1328 = .ok (.iconst 1, 1) := by decide +kernel
theorem dL_law_1329 : decode cL_law 1329 = .ok (.iadd, 1) := by decide +kernel
theorem dL_law_1330 : decode cL_law 1330 = .ok (.iaload, 1) := by decide +kernel
theorem dL_law_1331 : decode cL_law 1331 = .ok (.invokevirtual 202, 3) := by decide +kernel
theorem dL_law_1334 : decode cL_law 1334 = .ok (.istore 7, 2) := by decide +kernel
theorem dL_law_1336 : decode cL_law 1336 = .ok (.aload_n 2, 1) := by decide +kernel
theorem dL_law_1337 : decode cL_law 1337 = .ok (.invokevirtual 135, 3) := by decide +kernel
theorem dL_law_1340 : decode cL_law 1340 = .ok (.iload 6, 2) := by decide +kernel
theorem dL_law_1342 : decode cL_law 1342 = .ok (.if_icmp .eq 5, 3) := by decide +kernel
theorem dL_law_1345 : decode cL_law 1345 = .ok (.iconst 0, 1) := by decide +kernel
theorem dL_law_1346 : decode cL_law 1346 = .ok (.ireturn, 1) := by decide +kernel
theorem dL_law_1347 : decode cL_law 1347 = .ok (.iload 6, 2) := by decide +kernel
theorem dL_law_1349 : decode cL_law 1349 = .ok (.ifCond .ne 15, 3) := by decide +kernel
theorem dL_law_1352 : decode cL_law 1352 = .ok (.aload_n 3, 1) := by decide +kernel
theorem dL_law_1353 : decode cL_law 1353 = .ok (.iconst 0, 1) := by decide +kernel
theorem dL_law_1354 : decode cL_law 1354 = .ok (.laload, 1) := by decide +kernel
theorem dL_law_1355 : decode cL_law 1355 = .ok (.iload 7, 2) := by decide +kernel
theorem dL_law_1357 : decode cL_law 1357 = .ok (.i2l, 1) := by decide +kernel
theorem dL_law_1358 : decode cL_law 1358 = .ok (.lcmp, 1) := by decide +kernel
theorem dL_law_1359 : decode cL_law 1359 = .ok (.ifCond .eq 5, 3) := by decide +kernel
theorem dL_law_1362 : decode cL_law 1362 = .ok (.iconst 0, 1) := by decide +kernel
theorem dL_law_1363 : decode cL_law 1363 = .ok (.ireturn, 1) := by decide +kernel
theorem dL_law_1364 : decode cL_law 1364 = .ok (.goto 991, 3) := by decide +kernel
theorem dL_law_1367 : decode cL_law 1367 = .ok (.aload_n 1, 1) := by decide +kernel
theorem dL_law_1368 : decode cL_law 1368 = .ok (.invokevirtual 203, 3) := by decide +kernel
theorem dL_law_1371 : decode cL_law 1371 = .ok (.aload_n 2, 1) := by decide +kernel
theorem dL_law_1372 : decode cL_law 1372 = .ok (.invokevirtual 206, 3) := by decide +kernel
theorem dL_law_1375 : decode cL_law 1375 = .ok (.if_icmp .eq 980, 3) := by decide +kernel
theorem dL_law_1378 : decode cL_law 1378 = .ok (.iconst 0, 1) := by decide +kernel
theorem dL_law_1379 : decode cL_law 1379 = .ok (.ireturn, 1) := by decide +kernel
theorem dL_law_1380 : decode cL_law 1380 = .ok (.aload_n 1, 1) := by decide +kernel
theorem dL_law_1381 : decode cL_law 1381 = .ok (.aload_n 0, 1) := by decide +kernel
theorem dL_law_1382 : decode cL_law 1382 = .ok (.iload 5, 2) := by decide +kernel
theorem dL_law_1384 : decode cL_law 1384 = .ok (.iconst 1, 1) := by decide +kernel
theorem dL_law_1385 : decode cL_law 1385 = .ok (.iadd, 1) := by decide +kernel
theorem dL_law_1386 : decode cL_law 1386 = .ok (.iaload, 1) := by decide +kernel
theorem dL_law_1387 : decode cL_law 1387 = .ok (.aload_n 0, 1) := by decide +kernel
theorem dL_law_1388 : decode cL_law 1388 = .ok (.iload 5, 2) := by decide +kernel
theorem dL_law_1390 : decode cL_law 1390 = .ok (.iconst 2, 1) := by decide +kernel
theorem dL_law_1391 : decode cL_law 1391 = .ok (.iadd, 1) := by decide +kernel
theorem dL_law_1392 : decode cL_law 1392 = .ok (.iaload, 1) := by decide +kernel
theorem dL_law_1393 : decode cL_law 1393 = .ok (.aload_n 0, 1) := by decide +kernel
theorem dL_law_1394 : decode cL_law 1394 = .ok (.iload 5, 2) := by decide +kernel
theorem dL_law_1396 : decode cL_law 1396 = .ok (.iconst 3, 1) := by decide +kernel
theorem dL_law_1397 : decode cL_law 1397 = .ok (.iadd, 1) := by decide +kernel
theorem dL_law_1398 : decode cL_law 1398 = .ok (.iaload, 1) := by decide +kernel
theorem dL_law_1399 : decode cL_law 1399 = .ok (.aload_n 0, 1) := by decide +kernel
theorem dL_law_1400 : decode cL_law 1400 = .ok (.iload 5, 2) := by decide +kernel
theorem dL_law_1402 : decode cL_law 1402 = .ok (.iconst 4, 1) := by decide +kernel
theorem dL_law_1403 : decode cL_law 1403 = .ok (.iadd, 1) := by decide +kernel
theorem dL_law_1404 : decode cL_law 1404 = .ok (.iaload, 1) := by decide +kernel
theorem dL_law_1405 : decode cL_law 1405 = .ok (.i2c, 1) := by decide +kernel
theorem dL_law_1406 : decode cL_law 1406 = .ok (.aload_n 0, 1) := by decide +kernel
theorem dL_law_1407 : decode cL_law 1407 = .ok (.iload 5, 2) := by decide +kernel
theorem dL_law_1409 : decode cL_law 1409 = .ok (.iconst 5, 1) := by decide +kernel
theorem dL_law_1410 : decode cL_law 1410 = .ok (.iadd, 1) := by decide +kernel
theorem dL_law_1411 : decode cL_law 1411 = .ok (.iaload, 1) := by decide +kernel
theorem dL_law_1412 : decode cL_law 1412 = .ok (.aload_n 3, 1) := by decide +kernel
theorem dL_law_1413 : decode cL_law 1413 = .ok (.invokestatic 207, 3) := by decide +kernel
theorem dL_law_1416 : decode cL_law 1416 = .ok (.istore 6, 2) := by decide +kernel
theorem dL_law_1418 : decode cL_law 1418 = .ok (.aload_n 2, 1) := by decide +kernel
theorem dL_law_1419 : decode cL_law 1419 = .ok (.aload_n 0, 1) := by decide +kernel
theorem dL_law_1420 : decode cL_law 1420 = .ok (.iload 5, 2) := by decide +kernel
theorem dL_law_1422 : decode cL_law 1422 = .ok (.iconst 1, 1) := by decide +kernel
theorem dL_law_1423 : decode cL_law 1423 = .ok (.iadd, 1) := by decide +kernel
theorem dL_law_1424 : decode cL_law 1424 = .ok (.iaload, 1) := by decide +kernel
theorem dL_law_1425 : decode cL_law 1425 = .ok (.aload_n 0, 1) := by decide +kernel
theorem dL_law_1426 : decode cL_law 1426 = .ok (.iload 5, 2) := by decide +kernel
theorem dL_law_1428 : decode cL_law 1428 = .ok (.iconst 2, 1) := by decide +kernel
theorem dL_law_1429 : decode cL_law 1429 = .ok (.iadd, 1) := by decide +kernel
theorem dL_law_1430 : decode cL_law 1430 = .ok (.iaload, 1) := by decide +kernel
theorem dL_law_1431 : decode cL_law 1431 = .ok (.aload_n 0, 1) := by decide +kernel
theorem dL_law_1432 : decode cL_law 1432 = .ok (.iload 5, 2) := by decide +kernel
theorem dL_law_1434 : decode cL_law 1434 = .ok (.iconst 3, 1) := by decide +kernel
theorem dL_law_1435 : decode cL_law 1435 = .ok (.iadd, 1) := by decide +kernel
theorem dL_law_1436 : decode cL_law 1436 = .ok (.iaload, 1) := by decide +kernel
theorem dL_law_1437 : decode cL_law 1437 = .ok (.aload_n 0, 1) := by decide +kernel
theorem dL_law_1438 : decode cL_law 1438 = .ok (.iload 5, 2) := by decide +kernel
theorem dL_law_1440 : decode cL_law 1440 = .ok (.iconst 4, 1) := by decide +kernel
theorem dL_law_1441 : decode cL_law 1441 = .ok (.iadd, 1) := by decide +kernel
theorem dL_law_1442 : decode cL_law 1442 = .ok (.iaload, 1) := by decide +kernel
theorem dL_law_1443 : decode cL_law 1443 = .ok (.i2c, 1) := by decide +kernel
theorem dL_law_1444 : decode cL_law 1444 = .ok (.aload_n 0, 1) := by decide +kernel
theorem dL_law_1445 : decode cL_law 1445 = .ok (.iload 5, 2) := by decide +kernel
theorem dL_law_1447 : decode cL_law 1447 = .ok (.iconst 5, 1) := by decide +kernel
theorem dL_law_1448 : decode cL_law 1448 = .ok (.iadd, 1) := by decide +kernel
theorem dL_law_1449 : decode cL_law 1449 = .ok (.iaload, 1) := by decide +kernel
theorem dL_law_1450 : decode cL_law 1450 = .ok (.invokevirtual 210, 3) := by decide +kernel
theorem dL_law_1453 : decode cL_law 1453 = .ok (.istore 7, 2) := by decide +kernel
theorem dL_law_1455 : decode cL_law 1455 = .ok (.aload_n 2, 1) := by decide +kernel
theorem dL_law_1456 : decode cL_law 1456 = .ok (.invokevirtual 135, 3) := by decide +kernel
theorem dL_law_1459 : decode cL_law 1459 = .ok (.iload 6, 2) := by decide +kernel
theorem dL_law_1461 : decode cL_law 1461 = .ok (.if_icmp .eq 5, 3) := by decide +kernel
theorem dL_law_1464 : decode cL_law 1464 = .ok (.iconst 0, 1) := by decide +kernel
theorem dL_law_1465 : decode cL_law 1465 = .ok (.ireturn, 1) := by decide +kernel
theorem dL_law_1466 : decode cL_law 1466 = .ok (.iload 6, 2) := by decide +kernel
theorem dL_law_1468 : decode cL_law 1468 = .ok (.ifCond .ne 15, 3) := by decide +kernel
theorem dL_law_1471 : decode cL_law 1471 = .ok (.aload_n 3, 1) := by decide +kernel
theorem dL_law_1472 : decode cL_law 1472 = .ok (.iconst 0, 1) := by decide +kernel
theorem dL_law_1473 : decode cL_law 1473 = .ok (.laload, 1) := by decide +kernel
theorem dL_law_1474 : decode cL_law 1474 = .ok (.iload 7, 2) := by decide +kernel
theorem dL_law_1476 : decode cL_law 1476 = .ok (.i2l, 1) := by decide +kernel
theorem dL_law_1477 : decode cL_law 1477 = .ok (.lcmp, 1) := by decide +kernel
theorem dL_law_1478 : decode cL_law 1478 = .ok (.ifCond .eq 5, 3) := by decide +kernel
theorem dL_law_1481 : decode cL_law 1481 = .ok (.iconst 0, 1) := by decide +kernel
theorem dL_law_1482 : decode cL_law 1482 = .ok (.ireturn, 1) := by decide +kernel
theorem dL_law_1483 : decode cL_law 1483 = .ok (.goto 872, 3) := by decide +kernel
theorem dL_law_1486 : decode cL_law 1486 = .ok (.aload_n 1, 1) := by decide +kernel
theorem dL_law_1487 : decode cL_law 1487 = .ok (.aload_n 0, 1) := by decide +kernel
theorem dL_law_1488 : decode cL_law 1488 = .ok (.iload 5, 2) := by decide +kernel
theorem dL_law_1490 : decode cL_law 1490 = .ok (.iconst 1, 1) := by decide +kernel
theorem dL_law_1491 : decode cL_law 1491 = .ok (.iadd, 1) := by decide +kernel
theorem dL_law_1492 : decode cL_law 1492 = .ok (.iaload, 1) := by decide +kernel
theorem dL_law_1493 : decode cL_law 1493 = .ok (.aload_n 0, 1) := by decide +kernel
theorem dL_law_1494 : decode cL_law 1494 = .ok (.iload 5, 2) := by decide +kernel
theorem dL_law_1496 : decode cL_law 1496 = .ok (.iconst 2, 1) := by decide +kernel
theorem dL_law_1497 : decode cL_law 1497 = .ok (.iadd, 1) := by decide +kernel
theorem dL_law_1498 : decode cL_law 1498 = .ok (.iaload, 1) := by decide +kernel
theorem dL_law_1499 : decode cL_law 1499 = .ok (.aload_n 0, 1) := by decide +kernel
theorem dL_law_1500 : decode cL_law 1500 = .ok (.iload 5, 2) := by decide +kernel
theorem dL_law_1502 : decode cL_law 1502 = .ok (.iconst 3, 1) := by decide +kernel
theorem dL_law_1503 : decode cL_law 1503 = .ok (.iadd, 1) := by decide +kernel
theorem dL_law_1504 : decode cL_law 1504 = .ok (.iaload, 1) := by decide +kernel
theorem dL_law_1505 : decode cL_law 1505 = .ok (.aload_n 0, 1) := by decide +kernel
theorem dL_law_1506 : decode cL_law 1506 = .ok (.iload 5, 2) := by decide +kernel
theorem dL_law_1508 : decode cL_law 1508 = .ok (.iconst 4, 1) := by decide +kernel
theorem dL_law_1509 : decode cL_law 1509 = .ok (.iadd, 1) := by decide +kernel
theorem dL_law_1510 : decode cL_law 1510 = .ok (.iaload, 1) := by decide +kernel
theorem dL_law_1511 : decode cL_law 1511 = .ok (.i2c, 1) := by decide +kernel
theorem dL_law_1512 : decode cL_law 1512 = .ok (.aload_n 3, 1) := by decide +kernel
theorem dL_law_1513 : decode cL_law 1513 = .ok (.invokestatic 211, 3) := by decide +kernel
theorem dL_law_1516 : decode cL_law 1516 = .ok (.istore 6, 2) := by decide +kernel
theorem dL_law_1518 : decode cL_law 1518 = .ok (.aload_n 2, 1) := by decide +kernel
theorem dL_law_1519 : decode cL_law 1519 = .ok (.aload_n 0, 1) := by decide +kernel
theorem dL_law_1520 : decode cL_law 1520 = .ok (.iload 5, 2) := by decide +kernel
theorem dL_law_1522 : decode cL_law 1522 = .ok (.iconst 1, 1) := by decide +kernel
theorem dL_law_1523 : decode cL_law 1523 = .ok (.iadd, 1) := by decide +kernel
theorem dL_law_1524 : decode cL_law 1524 = .ok (.iaload, 1) := by decide +kernel
theorem dL_law_1525 : decode cL_law 1525 = .ok (.aload_n 0, 1) := by decide +kernel
theorem dL_law_1526 : decode cL_law 1526 = .ok (.iload 5, 2) := by decide +kernel
theorem dL_law_1528 : decode cL_law 1528 = .ok (.iconst 2, 1) := by decide +kernel
theorem dL_law_1529 : decode cL_law 1529 = .ok (.iadd, 1) := by decide +kernel
theorem dL_law_1530 : decode cL_law 1530 = .ok (.iaload, 1) := by decide +kernel
theorem dL_law_1531 : decode cL_law 1531 = .ok (.aload_n 0, 1) := by decide +kernel
theorem dL_law_1532 : decode cL_law 1532 = .ok (.iload 5, 2) := by decide +kernel
theorem dL_law_1534 : decode cL_law 1534 = .ok (.iconst 3, 1) := by decide +kernel
theorem dL_law_1535 : decode cL_law 1535 = .ok (.iadd, 1) := by decide +kernel
theorem dL_law_1536 : decode cL_law 1536 = .ok (.iaload, 1) := by decide +kernel
theorem dL_law_1537 : decode cL_law 1537 = .ok (.aload_n 0, 1) := by decide +kernel
theorem dL_law_1538 : decode cL_law 1538 = .ok (.iload 5, 2) := by decide +kernel
theorem dL_law_1540 : decode cL_law 1540 = .ok (.iconst 4, 1) := by decide +kernel
theorem dL_law_1541 : decode cL_law 1541 = .ok (.iadd, 1) := by decide +kernel
theorem dL_law_1542 : decode cL_law 1542 = .ok (.iaload, 1) := by decide +kernel
theorem dL_law_1543 : decode cL_law 1543 = .ok (.i2c, 1) := by decide +kernel
theorem dL_law_1544 : decode cL_law 1544 = .ok (.invokevirtual 214, 3) := by decide +kernel
theorem dL_law_1547 : decode cL_law 1547 = .ok (.istore 7, 2) := by decide +kernel
theorem dL_law_1549 : decode cL_law 1549 = .ok (.aload_n 2, 1) := by decide +kernel
theorem dL_law_1550 : decode cL_law 1550 = .ok (.invokevirtual 135, 3) := by decide +kernel
theorem dL_law_1553 : decode cL_law 1553 = .ok (.iload 6, 2) := by decide +kernel
theorem dL_law_1555 : decode cL_law 1555 = .ok (.if_icmp .eq 5, 3) := by decide +kernel
theorem dL_law_1558 : decode cL_law 1558 = .ok (.iconst 0, 1) := by decide +kernel
theorem dL_law_1559 : decode cL_law 1559 = .ok (.ireturn, 1) := by decide +kernel
theorem dL_law_1560 : decode cL_law 1560 = .ok (.iload 6, 2) := by decide +kernel
theorem dL_law_1562 : decode cL_law 1562 = .ok (.ifCond .ne 15, 3) := by decide +kernel
theorem dL_law_1565 : decode cL_law 1565 = .ok (.aload_n 3, 1) := by decide +kernel
theorem dL_law_1566 : decode cL_law 1566 = .ok (.iconst 0, 1) := by decide +kernel
theorem dL_law_1567 : decode cL_law 1567 = .ok (.laload, 1) := by decide +kernel
theorem dL_law_1568 : decode cL_law 1568 = .ok (.iload 7, 2) := by decide +kernel
theorem dL_law_1570 : decode cL_law 1570 = .ok (.i2l, 1) := by decide +kernel
theorem dL_law_1571 : decode cL_law 1571 = .ok (.lcmp, 1) := by decide +kernel
theorem dL_law_1572 : decode cL_law 1572 = .ok (.ifCond .eq 5, 3) := by decide +kernel
theorem dL_law_1575 : decode cL_law 1575 = .ok (.iconst 0, 1) := by decide +kernel
theorem dL_law_1576 : decode cL_law 1576 = .ok (.ireturn, 1) := by decide +kernel
theorem dL_law_1577 : decode cL_law 1577 = .ok (.goto 778, 3) := by decide +kernel
theorem dL_law_1580 : decode cL_law 1580 = .ok (.aload_n 1, 1) := by decide +kernel
theorem dL_law_1581 : decode cL_law 1581 = .ok (.aload_n 0, 1) := by decide +kernel
theorem dL_law_1582 : decode cL_law 1582 = .ok (.iload 5, 2) := by decide +kernel
theorem dL_law_1584 : decode cL_law 1584 = .ok (.iconst 1, 1) := by decide +kernel
theorem dL_law_1585 : decode cL_law 1585 = .ok (.iadd, 1) := by decide +kernel
theorem dL_law_1586 : decode cL_law 1586 = .ok (.iaload, 1) := by decide +kernel
theorem dL_law_1587 : decode cL_law 1587 = .ok (.aload_n 0, 1) := by decide +kernel
theorem dL_law_1588 : decode cL_law 1588 = .ok (.iload 5, 2) := by decide +kernel
theorem dL_law_1590 : decode cL_law 1590 = .ok (.iconst 2, 1) := by decide +kernel
theorem dL_law_1591 : decode cL_law 1591 = .ok (.iadd, 1) := by decide +kernel
theorem dL_law_1592 : decode cL_law 1592 = .ok (.iaload, 1) := by decide +kernel
theorem dL_law_1593 : decode cL_law 1593 = .ok (.aload_n 3, 1) := by decide +kernel
theorem dL_law_1594 : decode cL_law 1594 = .ok (.invokestatic 215, 3) := by decide +kernel
theorem dL_law_1597 : decode cL_law 1597 = .ok (.istore 6, 2) := by decide +kernel
theorem dL_law_1599 : decode cL_law 1599 = .ok (.aload_n 2, 1) := by decide +kernel
theorem dL_law_1600 : decode cL_law 1600 = .ok (.aload_n 0, 1) := by decide +kernel
theorem dL_law_1601 : decode cL_law 1601 = .ok (.iload 5, 2) := by decide +kernel
theorem dL_law_1603 : decode cL_law 1603 = .ok (.iconst 1, 1) := by decide +kernel
theorem dL_law_1604 : decode cL_law 1604 = .ok (.iadd, 1) := by decide +kernel
theorem dL_law_1605 : decode cL_law 1605 = .ok (.iaload, 1) := by decide +kernel
theorem dL_law_1606 : decode cL_law 1606 = .ok (.aload_n 0, 1) := by decide +kernel
theorem dL_law_1607 : decode cL_law 1607 = .ok (.iload 5, 2) := by decide +kernel
theorem dL_law_1609 : decode cL_law 1609 = .ok (.iconst 2, 1) := by decide +kernel
theorem dL_law_1610 : decode cL_law 1610 = .ok (.iadd, 1) := by decide +kernel
theorem dL_law_1611 : decode cL_law 1611 = .ok (.iaload, 1) := by decide +kernel
theorem dL_law_1612 : decode cL_law 1612 = .ok (.invokevirtual 217, 3) := by decide +kernel
theorem dL_law_1615 : decode cL_law 1615 = .ok (.istore 7, 2) := by decide +kernel
theorem dL_law_1617 : decode cL_law 1617 = .ok (.aload_n 2, 1) := by decide +kernel
theorem dL_law_1618 : decode cL_law 1618 = .ok (.invokevirtual 135, 3) := by decide +kernel
theorem dL_law_1621 : decode cL_law 1621 = .ok (.iload 6, 2) := by decide +kernel
theorem dL_law_1623 : decode cL_law 1623 = .ok (.if_icmp .eq 5, 3) := by decide +kernel
theorem dL_law_1626 : decode cL_law 1626 = .ok (.iconst 0, 1) := by decide +kernel
theorem dL_law_1627 : decode cL_law 1627 = .ok (.ireturn, 1) := by decide +kernel
theorem dL_law_1628 : decode cL_law 1628 = .ok (.iload 6, 2) := by decide +kernel
theorem dL_law_1630 : decode cL_law 1630 = .ok (.ifCond .ne 15, 3) := by decide +kernel
theorem dL_law_1633 : decode cL_law 1633 = .ok (.aload_n 3, 1) := by decide +kernel
theorem dL_law_1634 : decode cL_law 1634 = .ok (.iconst 0, 1) := by decide +kernel
theorem dL_law_1635 : decode cL_law 1635 = .ok (.laload, 1) := by decide +kernel
theorem dL_law_1636 : decode cL_law 1636 = .ok (.iload 7, 2) := by decide +kernel
theorem dL_law_1638 : decode cL_law 1638 = .ok (.i2l, 1) := by decide +kernel
theorem dL_law_1639 : decode cL_law 1639 = .ok (.lcmp, 1) := by decide +kernel
theorem dL_law_1640 : decode cL_law 1640 = .ok (.ifCond .eq 5, 3) := by decide +kernel
theorem dL_law_1643 : decode cL_law 1643 = .ok (.iconst 0, 1) := by decide +kernel
theorem dL_law_1644 : decode cL_law 1644 = .ok (.ireturn, 1) := by decide +kernel
theorem dL_law_1645 : decode cL_law 1645 = .ok (.goto 710, 3) := by decide +kernel
theorem dL_law_1648 : decode cL_law 1648 = .ok (.aload_n 1, 1) := by decide +kernel
theorem dL_law_1649 : decode cL_law 1649 = .ok (.aload_n 0, 1) := by decide +kernel
theorem dL_law_1650 : decode cL_law 1650 = .ok (.iload 5, 2) := by decide +kernel
theorem dL_law_1652 : decode cL_law 1652 = .ok (.iconst 1, 1) := by decide +kernel
theorem dL_law_1653 : decode cL_law 1653 = .ok (.iadd, 1) := by decide +kernel
theorem dL_law_1654 : decode cL_law 1654 = .ok (.iaload, 1) := by decide +kernel
theorem dL_law_1655 : decode cL_law 1655 = .ok (.i2c, 1) := by decide +kernel
theorem dL_law_1656 : decode cL_law 1656 = .ok (.aload_n 3, 1) := by decide +kernel
theorem dL_law_1657 : decode cL_law 1657 = .ok (.invokestatic 218, 3) := by decide +kernel
theorem dL_law_1660 : decode cL_law 1660 = .ok (.istore 6, 2) := by decide +kernel
theorem dL_law_1662 : decode cL_law 1662 = .ok (.aload_n 2, 1) := by decide +kernel
theorem dL_law_1663 : decode cL_law 1663 = .ok (.aload_n 0, 1) := by decide +kernel
theorem dL_law_1664 : decode cL_law 1664 = .ok (.iload 5, 2) := by decide +kernel
theorem dL_law_1666 : decode cL_law 1666 = .ok (.iconst 1, 1) := by decide +kernel
theorem dL_law_1667 : decode cL_law 1667 = .ok (.iadd, 1) := by decide +kernel
theorem dL_law_1668 : decode cL_law 1668 = .ok (.iaload, 1) := by decide +kernel
theorem dL_law_1669 : decode cL_law 1669 = .ok (.i2c, 1) := by decide +kernel
theorem dL_law_1670 : decode cL_law 1670 = .ok (.invokevirtual 221, 3) := by decide +kernel
theorem dL_law_1673 : decode cL_law 1673 = .ok (.istore 7, 2) := by decide +kernel
theorem dL_law_1675 : decode cL_law 1675 = .ok (.aload_n 2, 1) := by decide +kernel
theorem dL_law_1676 : decode cL_law 1676 = .ok (.invokevirtual 135, 3) := by decide +kernel
theorem dL_law_1679 : decode cL_law 1679 = .ok (.iload 6, 2) := by decide +kernel
theorem dL_law_1681 : decode cL_law 1681 = .ok (.if_icmp .eq 5, 3) := by decide +kernel
theorem dL_law_1684 : decode cL_law 1684 = .ok (.iconst 0, 1) := by decide +kernel
theorem dL_law_1685 : decode cL_law 1685 = .ok (.ireturn, 1) := by decide +kernel
theorem dL_law_1686 : decode cL_law 1686 = .ok (.iload 6, 2) := by decide +kernel
theorem dL_law_1688 : decode cL_law 1688 = .ok (.ifCond .ne 15, 3) := by decide +kernel
theorem dL_law_1691 : decode cL_law 1691 = .ok (.aload_n 3, 1) := by decide +kernel
theorem dL_law_1692 : decode cL_law 1692 = .ok (.iconst 0, 1) := by decide +kernel
theorem dL_law_1693 : decode cL_law 1693 = .ok (.laload, 1) := by decide +kernel
theorem dL_law_1694 : decode cL_law 1694 = .ok (.iload 7, 2) := by decide +kernel
theorem dL_law_1696 : decode cL_law 1696 = .ok (.i2l, 1) := by decide +kernel
theorem dL_law_1697 : decode cL_law 1697 = .ok (.lcmp, 1) := by decide +kernel
theorem dL_law_1698 : decode cL_law 1698 = .ok (.ifCond .eq 5, 3) := by decide +kernel
theorem dL_law_1701 : decode cL_law 1701 = .ok (.iconst 0, 1) := by decide +kernel
theorem dL_law_1702 : decode cL_law 1702 = .ok (.ireturn, 1) := by decide +kernel
theorem dL_law_1703 : decode cL_law 1703 = .ok (.goto 652, 3) := by decide +kernel
theorem dL_law_1706 : decode cL_law 1706 = .ok (.aload_n 1, 1) := by decide +kernel
theorem dL_law_1707 : decode cL_law 1707 = .ok (.aload_n 0, 1) := by decide +kernel
theorem dL_law_1708 : decode cL_law 1708 = .ok (.iload 5, 2) := by decide +kernel
theorem dL_law_1710 : decode cL_law 1710 = .ok (.iconst 1, 1) := by decide +kernel
theorem dL_law_1711 : decode cL_law 1711 = .ok (.iadd, 1) := by decide +kernel
theorem dL_law_1712 : decode cL_law 1712 = .ok (.iaload, 1) := by decide +kernel
theorem dL_law_1713 : decode cL_law 1713 = .ok (.i2c, 1) := by decide +kernel
theorem dL_law_1714 : decode cL_law 1714 = .ok (.aload_n 0, 1) := by decide +kernel
theorem dL_law_1715 : decode cL_law 1715 = .ok (.iload 5, 2) := by decide +kernel
theorem dL_law_1717 : decode cL_law 1717 = .ok (.iconst 2, 1) := by decide +kernel
theorem dL_law_1718 : decode cL_law 1718 = .ok (.iadd, 1) := by decide +kernel
theorem dL_law_1719 : decode cL_law 1719 = .ok (.iaload, 1) := by decide +kernel
theorem dL_law_1720 : decode cL_law 1720 = .ok (.aload_n 3, 1) := by decide +kernel
theorem dL_law_1721 : decode cL_law 1721 = .ok (.invokestatic 222, 3) := by decide +kernel
theorem dL_law_1724 : decode cL_law 1724 = .ok (.istore 6, 2) := by decide +kernel
theorem dL_law_1726 : decode cL_law 1726 = .ok (.aload_n 2, 1) := by decide +kernel
theorem dL_law_1727 : decode cL_law 1727 = .ok (.aload_n 0, 1) := by decide +kernel
theorem dL_law_1728 : decode cL_law 1728 = .ok (.iload 5, 2) := by decide +kernel
theorem dL_law_1730 : decode cL_law 1730 = .ok (.iconst 1, 1) := by decide +kernel
theorem dL_law_1731 : decode cL_law 1731 = .ok (.iadd, 1) := by decide +kernel
theorem dL_law_1732 : decode cL_law 1732 = .ok (.iaload, 1) := by decide +kernel
theorem dL_law_1733 : decode cL_law 1733 = .ok (.i2c, 1) := by decide +kernel
theorem dL_law_1734 : decode cL_law 1734 = .ok (.aload_n 0, 1) := by decide +kernel
theorem dL_law_1735 : decode cL_law 1735 = .ok (.iload 5, 2) := by decide +kernel
theorem dL_law_1737 : decode cL_law 1737 = .ok (.iconst 2, 1) := by decide +kernel
theorem dL_law_1738 : decode cL_law 1738 = .ok (.iadd, 1) := by decide +kernel
theorem dL_law_1739 : decode cL_law 1739 = .ok (.iaload, 1) := by decide +kernel
theorem dL_law_1740 : decode cL_law 1740 = .ok (.invokevirtual 225, 3) := by decide +kernel
theorem dL_law_1743 : decode cL_law 1743 = .ok (.istore 7, 2) := by decide +kernel
theorem dL_law_1745 : decode cL_law 1745 = .ok (.aload_n 2, 1) := by decide +kernel
theorem dL_law_1746 : decode cL_law 1746 = .ok (.invokevirtual 135, 3) := by decide +kernel
theorem dL_law_1749 : decode cL_law 1749 = .ok (.iload 6, 2) := by decide +kernel
theorem dL_law_1751 : decode cL_law 1751 = .ok (.if_icmp .eq 5, 3) := by decide +kernel
theorem dL_law_1754 : decode cL_law 1754 = .ok (.iconst 0, 1) := by decide +kernel
theorem dL_law_1755 : decode cL_law 1755 = .ok (.ireturn, 1) := by decide +kernel
theorem dL_law_1756 : decode cL_law 1756 = .ok (.iload 6, 2) := by decide +kernel
theorem dL_law_1758 : decode cL_law 1758 = .ok (.ifCond .ne 15, 3) := by decide +kernel
theorem dL_law_1761 : decode cL_law 1761 = .ok (.aload_n 3, 1) := by decide +kernel
theorem dL_law_1762 : decode cL_law 1762 = .ok (.iconst 0, 1) := by decide +kernel
theorem dL_law_1763 : decode cL_law 1763 = .ok (.laload, 1) := by decide +kernel
theorem dL_law_1764 : decode cL_law 1764 = .ok (.iload 7, 2) := by decide +kernel
theorem dL_law_1766 : decode cL_law 1766 = .ok (.i2l, 1) := by decide +kernel
theorem dL_law_1767 : decode cL_law 1767 = .ok (.lcmp, 1) := by decide +kernel
theorem dL_law_1768 : decode cL_law 1768 = .ok (.ifCond .eq 5, 3) := by decide +kernel
theorem dL_law_1771 : decode cL_law 1771 = .ok (.iconst 0, 1) := by decide +kernel
theorem dL_law_1772 : decode cL_law 1772 = .ok (.ireturn, 1) := by decide +kernel
theorem dL_law_1773 : decode cL_law 1773 = .ok (.goto 582, 3) := by decide +kernel
theorem dL_law_1776 : decode cL_law 1776 = .ok (.aload_n 1, 1) := by decide +kernel
theorem dL_law_1777 : decode cL_law 1777 = .ok (.aload_n 0, 1) := by decide +kernel
theorem dL_law_1778 : decode cL_law 1778 = .ok (.iload 5, 2) := by decide +kernel
theorem dL_law_1780 : decode cL_law 1780 = .ok (.iconst 1, 1) := by decide +kernel
theorem dL_law_1781 : decode cL_law 1781 = .ok (.iadd, 1) := by decide +kernel
theorem dL_law_1782 : decode cL_law 1782 = .ok (.iaload, 1) := by decide +kernel
theorem dL_law_1783 : decode cL_law 1783 = .ok (.i2c, 1) := by decide +kernel
theorem dL_law_1784 : decode cL_law 1784 = .ok (.aload_n 3, 1) := by decide +kernel
theorem dL_law_1785 : decode cL_law 1785 = .ok (.invokestatic 226, 3) := by decide +kernel
theorem dL_law_1788 : decode cL_law 1788 = .ok (.istore 6, 2) := by decide +kernel
theorem dL_law_1790 : decode cL_law 1790 = .ok (.aload_n 2, 1) := by decide +kernel
theorem dL_law_1791 : decode cL_law 1791 = .ok (.aload_n 0, 1) := by decide +kernel
theorem dL_law_1792 : decode cL_law 1792 = .ok (.iload 5, 2) := by decide +kernel
theorem dL_law_1794 : decode cL_law 1794 = .ok (.iconst 1, 1) := by decide +kernel
theorem dL_law_1795 : decode cL_law 1795 = .ok (.iadd, 1) := by decide +kernel
theorem dL_law_1796 : decode cL_law 1796 = .ok (.iaload, 1) := by decide +kernel
theorem dL_law_1797 : decode cL_law 1797 = .ok (.i2c, 1) := by decide +kernel
theorem dL_law_1798 : decode cL_law 1798 = .ok (.invokevirtual 228, 3) := by decide +kernel
theorem dL_law_1801 : decode cL_law 1801 = .ok (.istore 7, 2) := by decide +kernel
theorem dL_law_1803 : decode cL_law 1803 = .ok (.aload_n 2, 1) := by decide +kernel
theorem dL_law_1804 : decode cL_law 1804 = .ok (.invokevirtual 135, 3) := by decide +kernel
theorem dL_law_1807 : decode cL_law 1807 = .ok (.iload 6, 2) := by decide +kernel
theorem dL_law_1809 : decode cL_law 1809 = .ok (.if_icmp .eq 5, 3) := by decide +kernel
theorem dL_law_1812 : decode cL_law 1812 = .ok (.iconst 0, 1) := by decide +kernel
theorem dL_law_1813 : decode cL_law 1813 = .ok (.ireturn, 1) := by decide +kernel
theorem dL_law_1814 : decode cL_law 1814 = .ok (.iload 6, 2) := by decide +kernel
theorem dL_law_1816 : decode cL_law 1816 = .ok (.ifCond .ne 15, 3) := by decide +kernel
theorem dL_law_1819 : decode cL_law 1819 = .ok (.aload_n 3, 1) := by decide +kernel
theorem dL_law_1820 : decode cL_law 1820 = .ok (.iconst 0, 1) := by decide +kernel
theorem dL_law_1821 : decode cL_law 1821 = .ok (.laload, 1) := by decide +kernel
theorem dL_law_1822 : decode cL_law 1822 = .ok (.iload 7, 2) := by decide +kernel
theorem dL_law_1824 : decode cL_law 1824 = .ok (.i2l, 1) := by decide +kernel
theorem dL_law_1825 : decode cL_law 1825 = .ok (.lcmp, 1) := by decide +kernel
theorem dL_law_1826 : decode cL_law 1826 = .ok (.ifCond .eq 5, 3) := by decide +kernel
theorem dL_law_1829 : decode cL_law 1829 = .ok (.iconst 0, 1) := by decide +kernel
theorem dL_law_1830 : decode cL_law 1830 = .ok (.ireturn, 1) := by decide +kernel
theorem dL_law_1831 : decode cL_law 1831 = .ok (.goto 524, 3) := by decide +kernel
theorem dL_law_1834 : decode cL_law 1834 = .ok (.aload_n 1, 1) := by decide +kernel
theorem dL_law_1835 : decode cL_law 1835 = .ok (.aload_n 0, 1) := by decide +kernel
theorem dL_law_1836 : decode cL_law 1836 = .ok (.iload 5, 2) := by decide +kernel
theorem dL_law_1838 : decode cL_law 1838 = .ok (.iconst 1, 1) := by decide +kernel
theorem dL_law_1839 : decode cL_law 1839 = .ok (.iadd, 1) := by decide +kernel
theorem dL_law_1840 : decode cL_law 1840 = .ok (.iaload, 1) := by decide +kernel
theorem dL_law_1841 : decode cL_law 1841 = .ok (.aload_n 0, 1) := by decide +kernel
theorem dL_law_1842 : decode cL_law 1842 = .ok (.iload 5, 2) := by decide +kernel
theorem dL_law_1844 : decode cL_law 1844 = .ok (.iconst 2, 1) := by decide +kernel
theorem dL_law_1845 : decode cL_law 1845 = .ok (.iadd, 1) := by decide +kernel
theorem dL_law_1846 : decode cL_law 1846 = .ok (.iaload, 1) := by decide +kernel
theorem dL_law_1847 : decode cL_law 1847 = .ok (.aload_n 3, 1) := by decide +kernel
theorem dL_law_1848 : decode cL_law 1848 = .ok (.invokestatic 229, 3) := by decide +kernel
theorem dL_law_1851 : decode cL_law 1851 = .ok (.istore 6, 2) := by decide +kernel
theorem dL_law_1853 : decode cL_law 1853 = .ok (.aload_n 2, 1) := by decide +kernel
theorem dL_law_1854 : decode cL_law 1854 = .ok (.aload_n 0, 1) := by decide +kernel
theorem dL_law_1855 : decode cL_law 1855 = .ok (.iload 5, 2) := by decide +kernel
theorem dL_law_1857 : decode cL_law 1857 = .ok (.iconst 1, 1) := by decide +kernel
theorem dL_law_1858 : decode cL_law 1858 = .ok (.iadd, 1) := by decide +kernel
theorem dL_law_1859 : decode cL_law 1859 = .ok (.iaload, 1) := by decide +kernel
theorem dL_law_1860 : decode cL_law 1860 = .ok (.aload_n 0, 1) := by decide +kernel
theorem dL_law_1861 : decode cL_law 1861 = .ok (.iload 5, 2) := by decide +kernel
theorem dL_law_1863 : decode cL_law 1863 = .ok (.iconst 2, 1) := by decide +kernel
theorem dL_law_1864 : decode cL_law 1864 = .ok (.iadd, 1) := by decide +kernel
theorem dL_law_1865 : decode cL_law 1865 = .ok (.iaload, 1) := by decide +kernel
theorem dL_law_1866 : decode cL_law 1866 = .ok (.invokevirtual 231, 3) := by decide +kernel
theorem dL_law_1869 : decode cL_law 1869 = .ok (.istore 7, 2) := by decide +kernel
theorem dL_law_1871 : decode cL_law 1871 = .ok (.aload_n 2, 1) := by decide +kernel
theorem dL_law_1872 : decode cL_law 1872 = .ok (.invokevirtual 135, 3) := by decide +kernel
theorem dL_law_1875 : decode cL_law 1875 = .ok (.iload 6, 2) := by decide +kernel
theorem dL_law_1877 : decode cL_law 1877 = .ok (.if_icmp .eq 5, 3) := by decide +kernel
theorem dL_law_1880 : decode cL_law 1880 = .ok (.iconst 0, 1) := by decide +kernel
theorem dL_law_1881 : decode cL_law 1881 = .ok (.ireturn, 1) := by decide +kernel
theorem dL_law_1882 : decode cL_law 1882 = .ok (.iload 6, 2) := by decide +kernel
theorem dL_law_1884 : decode cL_law 1884 = .ok (.ifCond .ne 22, 3) := by decide +kernel
theorem dL_law_1887 : decode cL_law 1887 = .ok (.aload_n 3, 1) := by decide +kernel
theorem dL_law_1888 : decode cL_law 1888 = .ok (.iconst 0, 1) := by decide +kernel
theorem dL_law_1889 : decode cL_law 1889 = .ok (.laload, 1) := by decide +kernel
theorem dL_law_1890 : decode cL_law 1890 = .ok (.iload 7, 2) := by decide +kernel
theorem dL_law_1892 : decode cL_law 1892 = .ok (.ifCond .eq 7, 3) := by decide +kernel
theorem dL_law_1895 : decode cL_law 1895 = .ok (.lconst 1, 1) := by decide +kernel
theorem dL_law_1896 : decode cL_law 1896 = .ok (.goto 4, 3) := by decide +kernel
theorem dL_law_1899 : decode cL_law 1899 = .ok (.lconst 0, 1) := by decide +kernel
theorem dL_law_1900 : decode cL_law 1900 = .ok (.lcmp, 1) := by decide +kernel
theorem dL_law_1901 : decode cL_law 1901 = .ok (.ifCond .eq 5, 3) := by decide +kernel
theorem dL_law_1904 : decode cL_law 1904 = .ok (.iconst 0, 1) := by decide +kernel
theorem dL_law_1905 : decode cL_law 1905 = .ok (.ireturn, 1) := by decide +kernel
theorem dL_law_1906 : decode cL_law 1906 = .ok (.goto 449, 3) := by decide +kernel
theorem dL_law_1909 : decode cL_law 1909 = .ok (.aload_n 1, 1) := by decide +kernel
theorem dL_law_1910 : decode cL_law 1910 = .ok (.aload_n 0, 1) := by decide +kernel
theorem dL_law_1911 : decode cL_law 1911 = .ok (.iload 5, 2) := by decide +kernel
theorem dL_law_1913 : decode cL_law 1913 = .ok (.iconst 1, 1) := by decide +kernel
theorem dL_law_1914 : decode cL_law 1914 = .ok (.iadd, 1) := by decide +kernel
theorem dL_law_1915 : decode cL_law 1915 = .ok (.iaload, 1) := by decide +kernel
theorem dL_law_1916 : decode cL_law 1916 = .ok (.aload_n 0, 1) := by decide +kernel
theorem dL_law_1917 : decode cL_law 1917 = .ok (.iload 5, 2) := by decide +kernel
theorem dL_law_1919 : decode cL_law 1919 = .ok (.iconst 2, 1) := by decide +kernel
theorem dL_law_1920 : decode cL_law 1920 = .ok (.iadd, 1) := by decide +kernel
theorem dL_law_1921 : decode cL_law 1921 = .ok (.iaload, 1) := by decide +kernel
theorem dL_law_1922 : decode cL_law 1922 = .ok (.aload_n 3, 1) := by decide +kernel
theorem dL_law_1923 : decode cL_law 1923 = .ok (.invokestatic 232, 3) := by decide +kernel
theorem dL_law_1926 : decode cL_law 1926 = .ok (.istore 6, 2) := by decide +kernel
theorem dL_law_1928 : decode cL_law 1928 = .ok (.aload_n 2, 1) := by decide +kernel
theorem dL_law_1929 : decode cL_law 1929 = .ok (.aload_n 0, 1) := by decide +kernel
theorem dL_law_1930 : decode cL_law 1930 = .ok (.iload 5, 2) := by decide +kernel
theorem dL_law_1932 : decode cL_law 1932 = .ok (.iconst 1, 1) := by decide +kernel
theorem dL_law_1933 : decode cL_law 1933 = .ok (.iadd, 1) := by decide +kernel
theorem dL_law_1934 : decode cL_law 1934 = .ok (.iaload, 1) := by decide +kernel
theorem dL_law_1935 : decode cL_law 1935 = .ok (.aload_n 0, 1) := by decide +kernel
theorem dL_law_1936 : decode cL_law 1936 = .ok (.iload 5, 2) := by decide +kernel
theorem dL_law_1938 : decode cL_law 1938 = .ok (.iconst 2, 1) := by decide +kernel
theorem dL_law_1939 : decode cL_law 1939 = .ok (.iadd, 1) := by decide +kernel
theorem dL_law_1940 : decode cL_law 1940 = .ok (.iaload, 1) := by decide +kernel
theorem dL_law_1941 : decode cL_law 1941 = .ok (.invokevirtual 234, 3) := by decide +kernel
theorem dL_law_1944 : decode cL_law 1944 = .ok (.istore 7, 2) := by decide +kernel
theorem dL_law_1946 : decode cL_law 1946 = .ok (.aload_n 2, 1) := by decide +kernel
theorem dL_law_1947 : decode cL_law 1947 = .ok (.invokevirtual 135, 3) := by decide +kernel
theorem dL_law_1950 : decode cL_law 1950 = .ok (.iload 6, 2) := by decide +kernel
theorem dL_law_1952 : decode cL_law 1952 = .ok (.if_icmp .eq 5, 3) := by decide +kernel
theorem dL_law_1955 : decode cL_law 1955 = .ok (.iconst 0, 1) := by decide +kernel
theorem dL_law_1956 : decode cL_law 1956 = .ok (.ireturn, 1) := by decide +kernel
theorem dL_law_1957 : decode cL_law 1957 = .ok (.iload 6, 2) := by decide +kernel
theorem dL_law_1959 : decode cL_law 1959 = .ok (.ifCond .ne 22, 3) := by decide +kernel
theorem dL_law_1962 : decode cL_law 1962 = .ok (.aload_n 3, 1) := by decide +kernel
theorem dL_law_1963 : decode cL_law 1963 = .ok (.iconst 0, 1) := by decide +kernel
theorem dL_law_1964 : decode cL_law 1964 = .ok (.laload, 1) := by decide +kernel
theorem dL_law_1965 : decode cL_law 1965 = .ok (.iload 7, 2) := by decide +kernel
theorem dL_law_1967 : decode cL_law 1967 = .ok (.ifCond .eq 7, 3) := by decide +kernel
theorem dL_law_1970 : decode cL_law 1970 = .ok (.lconst 1, 1) := by decide +kernel
theorem dL_law_1971 : decode cL_law 1971 = .ok (.goto 4, 3) := by decide +kernel
theorem dL_law_1974 : decode cL_law 1974 = .ok (.lconst 0, 1) := by decide +kernel
theorem dL_law_1975 : decode cL_law 1975 = .ok (.lcmp, 1) := by decide +kernel
theorem dL_law_1976 : decode cL_law 1976 = .ok (.ifCond .eq 5, 3) := by decide +kernel
theorem dL_law_1979 : decode cL_law 1979 = .ok (.iconst 0, 1) := by decide +kernel
theorem dL_law_1980 : decode cL_law 1980 = .ok (.ireturn, 1) := by decide +kernel
theorem dL_law_1981 : decode cL_law 1981 = .ok (.goto 374, 3) := by decide +kernel
theorem dL_law_1984 : decode cL_law 1984 = .ok (.aload_n 1, 1) := by decide +kernel
theorem dL_law_1985 : decode cL_law 1985 = .ok (.aload_n 0, 1) := by decide +kernel
theorem dL_law_1986 : decode cL_law 1986 = .ok (.iload 5, 2) := by decide +kernel
theorem dL_law_1988 : decode cL_law 1988 = .ok (.iconst 1, 1) := by decide +kernel
theorem dL_law_1989 : decode cL_law 1989 = .ok (.iadd, 1) := by decide +kernel
theorem dL_law_1990 : decode cL_law 1990 = .ok (.iaload, 1) := by decide +kernel
theorem dL_law_1991 : decode cL_law 1991 = .ok (.aload_n 3, 1) := by decide +kernel
theorem dL_law_1992 : decode cL_law 1992 = .ok (.invokestatic 235, 3) := by decide +kernel
theorem dL_law_1995 : decode cL_law 1995 = .ok (.istore 6, 2) := by decide +kernel
theorem dL_law_1997 : decode cL_law 1997 = .ok (.aload_n 2, 1) := by decide +kernel
theorem dL_law_1998 : decode cL_law 1998 = .ok (.aload_n 0, 1) := by decide +kernel
theorem dL_law_1999 : decode cL_law 1999 = .ok (.iload 5, 2) := by decide +kernel
theorem dL_law_2001 : decode cL_law 2001 = .ok (.iconst 1, 1) := by decide +kernel
theorem dL_law_2002 : decode cL_law 2002 = .ok (.iadd, 1) := by decide +kernel
theorem dL_law_2003 : decode cL_law 2003 = .ok (.iaload, 1) := by decide +kernel
theorem dL_law_2004 : decode cL_law 2004 = .ok (.invokevirtual 237, 3) := by decide +kernel
theorem dL_law_2007 : decode cL_law 2007 = .ok (.istore 7, 2) := by decide +kernel
theorem dL_law_2009 : decode cL_law 2009 = .ok (.aload_n 2, 1) := by decide +kernel
theorem dL_law_2010 : decode cL_law 2010 = .ok (.invokevirtual 135, 3) := by decide +kernel
theorem dL_law_2013 : decode cL_law 2013 = .ok (.iload 6, 2) := by decide +kernel
theorem dL_law_2015 : decode cL_law 2015 = .ok (.if_icmp .eq 5, 3) := by decide +kernel
theorem dL_law_2018 : decode cL_law 2018 = .ok (.iconst 0, 1) := by decide +kernel
theorem dL_law_2019 : decode cL_law 2019 = .ok (.ireturn, 1) := by decide +kernel
theorem dL_law_2020 : decode cL_law 2020 = .ok (.iload 6, 2) := by decide +kernel
theorem dL_law_2022 : decode cL_law 2022 = .ok (.ifCond .ne 15, 3) := by decide +kernel
theorem dL_law_2025 : decode cL_law 2025 = .ok (.aload_n 3, 1) := by decide +kernel
theorem dL_law_2026 : decode cL_law 2026 = .ok (.iconst 0, 1) := by decide +kernel
theorem dL_law_2027 : decode cL_law 2027 = .ok (.laload, 1) := by decide +kernel
theorem dL_law_2028 : decode cL_law 2028 = .ok (.iload 7, 2) := by decide +kernel
theorem dL_law_2030 : decode cL_law 2030 = .ok (.i2l, 1) := by decide +kernel
theorem dL_law_2031 : decode cL_law 2031 = .ok (.lcmp, 1) := by decide +kernel
theorem dL_law_2032 : decode cL_law 2032 = .ok (.ifCond .eq 5, 3) := by decide +kernel
theorem dL_law_2035 : decode cL_law 2035 = .ok (.iconst 0, 1) := by decide +kernel
theorem dL_law_2036 : decode cL_law 2036 = .ok (.ireturn, 1) := by decide +kernel
theorem dL_law_2037 : decode cL_law 2037 = .ok (.goto 318, 3) := by decide +kernel
theorem dL_law_2040 : decode cL_law 2040 = .ok (.aload_n 1, 1) := by decide +kernel
theorem dL_law_2041 : decode cL_law 2041 = .ok (.aload_n 0, 1) := by decide +kernel
theorem dL_law_2042 : decode cL_law 2042 = .ok (.iload 5, 2) := by decide +kernel
theorem dL_law_2044 : decode cL_law 2044 = .ok (.iconst 1, 1) := by decide +kernel
theorem dL_law_2045 : decode cL_law 2045 = .ok (.iadd, 1) := by decide +kernel
theorem dL_law_2046 : decode cL_law 2046 = .ok (.iaload, 1) := by decide +kernel
theorem dL_law_2047 : decode cL_law 2047 = .ok (.aload_n 0, 1) := by decide +kernel
theorem dL_law_2048 : decode cL_law 2048 = .ok (.iload 5, 2) := by decide +kernel
theorem dL_law_2050 : decode cL_law 2050 = .ok (.iconst 2, 1) := by decide +kernel
theorem dL_law_2051 : decode cL_law 2051 = .ok (.iadd, 1) := by decide +kernel
theorem dL_law_2052 : decode cL_law 2052 = .ok (.iaload, 1) := by decide +kernel
theorem dL_law_2053 : decode cL_law 2053 = .ok (.aload_n 0, 1) := by decide +kernel
theorem dL_law_2054 : decode cL_law 2054 = .ok (.iload 5, 2) := by decide +kernel
theorem dL_law_2056 : decode cL_law 2056 = .ok (.iconst 3, 1) := by decide +kernel
theorem dL_law_2057 : decode cL_law 2057 = .ok (.iadd, 1) := by decide +kernel
theorem dL_law_2058 : decode cL_law 2058 = .ok (.iaload, 1) := by decide +kernel
theorem dL_law_2059 : decode cL_law 2059 = .ok (.ifCond .eq 7, 3) := by decide +kernel
theorem dL_law_2062 : decode cL_law 2062 = .ok (.iconst 1, 1) := by decide +kernel
theorem dL_law_2063 : decode cL_law 2063 = .ok (.goto 4, 3) := by decide +kernel
theorem dL_law_2066 : decode cL_law 2066 = .ok (.iconst 0, 1) := by decide +kernel
theorem dL_law_2067 : decode cL_law 2067 = .ok (.aload_n 3, 1) := by decide +kernel
theorem dL_law_2068 : decode cL_law 2068 = .ok (.invokestatic 238, 3) := by decide +kernel
theorem dL_law_2071 : decode cL_law 2071 = .ok (.istore 6, 2) := by decide +kernel
theorem dL_law_2073 : decode cL_law 2073 = .ok (.aload_n 2, 1) := by decide +kernel
theorem dL_law_2074 : decode cL_law 2074 = .ok (.aload_n 0, 1) := by decide +kernel
theorem dL_law_2075 : decode cL_law 2075 = .ok (.iload 5, 2) := by decide +kernel
theorem dL_law_2077 : decode cL_law 2077 = .ok (.iconst 1, 1) := by decide +kernel
theorem dL_law_2078 : decode cL_law 2078 = .ok (.iadd, 1) := by decide +kernel
theorem dL_law_2079 : decode cL_law 2079 = .ok (.iaload, 1) := by decide +kernel
theorem dL_law_2080 : decode cL_law 2080 = .ok (.aload_n 0, 1) := by decide +kernel
theorem dL_law_2081 : decode cL_law 2081 = .ok (.iload 5, 2) := by decide +kernel
theorem dL_law_2083 : decode cL_law 2083 = .ok (.iconst 2, 1) := by decide +kernel
theorem dL_law_2084 : decode cL_law 2084 = .ok (.iadd, 1) := by decide +kernel
theorem dL_law_2085 : decode cL_law 2085 = .ok (.iaload, 1) := by decide +kernel
theorem dL_law_2086 : decode cL_law 2086 = .ok (.aload_n 0, 1) := by decide +kernel
theorem dL_law_2087 : decode cL_law 2087 = .ok (.iload 5, 2) := by decide +kernel
theorem dL_law_2089 : decode cL_law 2089 = .ok (.iconst 3, 1) := by decide +kernel
theorem dL_law_2090 : decode cL_law 2090 = .ok (.iadd, 1) := by decide +kernel
theorem dL_law_2091 : decode cL_law 2091 = .ok (.iaload, 1) := by decide +kernel
theorem dL_law_2092 : decode cL_law 2092 = .ok (.ifCond .eq 7, 3) := by decide +kernel
theorem dL_law_2095 : decode cL_law 2095 = .ok (.iconst 1, 1) := by decide +kernel
theorem dL_law_2096 : decode cL_law 2096 = .ok (.goto 4, 3) := by decide +kernel
theorem dL_law_2099 : decode cL_law 2099 = .ok (.iconst 0, 1) := by decide +kernel
theorem dL_law_2100 : decode cL_law 2100 = .ok (.invokevirtual 240, 3) := by decide +kernel
theorem dL_law_2103 : decode cL_law 2103 = .ok (.istore 7, 2) := by decide +kernel
theorem dL_law_2105 : decode cL_law 2105 = .ok (.aload_n 2, 1) := by decide +kernel
theorem dL_law_2106 : decode cL_law 2106 = .ok (.invokevirtual 135, 3) := by decide +kernel
theorem dL_law_2109 : decode cL_law 2109 = .ok (.iload 6, 2) := by decide +kernel
theorem dL_law_2111 : decode cL_law 2111 = .ok (.if_icmp .eq 5, 3) := by decide +kernel
theorem dL_law_2114 : decode cL_law 2114 = .ok (.iconst 0, 1) := by decide +kernel
theorem dL_law_2115 : decode cL_law 2115 = .ok (.ireturn, 1) := by decide +kernel
theorem dL_law_2116 : decode cL_law 2116 = .ok (.iload 6, 2) := by decide +kernel
theorem dL_law_2118 : decode cL_law 2118 = .ok (.ifCond .ne 22, 3) := by decide +kernel
theorem dL_law_2121 : decode cL_law 2121 = .ok (.aload_n 3, 1) := by decide +kernel
theorem dL_law_2122 : decode cL_law 2122 = .ok (.iconst 0, 1) := by decide +kernel
theorem dL_law_2123 : decode cL_law 2123 = .ok (.laload, 1) := by decide +kernel
theorem dL_law_2124 : decode cL_law 2124 = .ok (.iload 7, 2) := by decide +kernel
theorem dL_law_2126 : decode cL_law 2126 = .ok (.ifCond .eq 7, 3) := by decide +kernel
theorem dL_law_2129 : decode cL_law 2129 = .ok (.lconst 1, 1) := by decide +kernel
theorem dL_law_2130 : decode cL_law 2130 = .ok (.goto 4, 3) := by decide +kernel
theorem dL_law_2133 : decode cL_law 2133 = .ok (.lconst 0, 1) := by decide +kernel
theorem dL_law_2134 : decode cL_law 2134 = .ok (.lcmp, 1) := by decide +kernel
theorem dL_law_2135 : decode cL_law 2135 = .ok (.ifCond .eq 5, 3) := by decide +kernel
theorem dL_law_2138 : decode cL_law 2138 = .ok (.iconst 0, 1) := by decide +kernel
theorem dL_law_2139 : decode cL_law 2139 = .ok (.ireturn, 1) := by decide +kernel
theorem dL_law_2140 : decode cL_law 2140 = .ok (.goto 215, 3) := by decide +kernel
theorem dL_law_2143 : decode cL_law 2143 = .ok (.aload_n 1, 1) := by decide +kernel
theorem dL_law_2144 : decode cL_law 2144 = .ok (.aload_n 0, 1) := by decide +kernel
theorem dL_law_2145 : decode cL_law 2145 = .ok (.iload 5, 2) := by decide +kernel
theorem dL_law_2147 : decode cL_law 2147 = .ok (.iconst 1, 1) := by decide +kernel
theorem dL_law_2148 : decode cL_law 2148 = .ok (.iadd, 1) := by decide +kernel
theorem dL_law_2149 : decode cL_law 2149 = .ok (.iaload, 1) := by decide +kernel
theorem dL_law_2150 : decode cL_law 2150 = .ok (.aload_n 0, 1) := by decide +kernel
theorem dL_law_2151 : decode cL_law 2151 = .ok (.iload 5, 2) := by decide +kernel
theorem dL_law_2153 : decode cL_law 2153 = .ok (.iconst 2, 1) := by decide +kernel
theorem dL_law_2154 : decode cL_law 2154 = .ok (.iadd, 1) := by decide +kernel
theorem dL_law_2155 : decode cL_law 2155 = .ok (.iaload, 1) := by decide +kernel
theorem dL_law_2156 : decode cL_law 2156 = .ok (.aload_n 3, 1) := by decide +kernel
theorem dL_law_2157 : decode cL_law 2157 = .ok (.invokestatic 241, 3) := by decide +kernel
theorem dL_law_2160 : decode cL_law 2160 = .ok (.istore 6, 2) := by decide +kernel
theorem dL_law_2162 : decode cL_law 2162 = .ok (.aload_n 2, 1) := by decide +kernel
theorem dL_law_2163 : decode cL_law 2163 = .ok (.aload_n 0, 1) := by decide +kernel
theorem dL_law_2164 : decode cL_law 2164 = .ok (.iload 5, 2) := by decide +kernel
theorem dL_law_2166 : decode cL_law 2166 = .ok (.iconst 1, 1) := by decide +kernel
theorem dL_law_2167 : decode cL_law 2167 = .ok (.iadd, 1) := by decide +kernel
theorem dL_law_2168 : decode cL_law 2168 = .ok (.iaload, 1) := by decide +kernel
theorem dL_law_2169 : decode cL_law 2169 = .ok (.aload_n 0, 1) := by decide +kernel
theorem dL_law_2170 : decode cL_law 2170 = .ok (.iload 5, 2) := by decide +kernel
theorem dL_law_2172 : decode cL_law 2172 = .ok (.iconst 2, 1) := by decide +kernel
theorem dL_law_2173 : decode cL_law 2173 = .ok (.iadd, 1) := by decide +kernel
theorem dL_law_2174 : decode cL_law 2174 = .ok (.iaload, 1) := by decide +kernel
theorem dL_law_2175 : decode cL_law 2175 = .ok (.invokevirtual 243, 3) := by decide +kernel
theorem dL_law_2178 : decode cL_law 2178 = .ok (.istore 7, 2) := by decide +kernel
theorem dL_law_2180 : decode cL_law 2180 = .ok (.aload_n 2, 1) := by decide +kernel
theorem dL_law_2181 : decode cL_law 2181 = .ok (.invokevirtual 135, 3) := by decide +kernel
theorem dL_law_2184 : decode cL_law 2184 = .ok (.iload 6, 2) := by decide +kernel
theorem dL_law_2186 : decode cL_law 2186 = .ok (.if_icmp .eq 5, 3) := by decide +kernel
theorem dL_law_2189 : decode cL_law 2189 = .ok (.iconst 0, 1) := by decide +kernel
theorem dL_law_2190 : decode cL_law 2190 = .ok (.ireturn, 1) := by decide +kernel
theorem dL_law_2191 : decode cL_law 2191 = .ok (.iload 6, 2) := by decide +kernel
theorem dL_law_2193 : decode cL_law 2193 = .ok (.ifCond .ne 15, 3) := by decide +kernel
theorem dL_law_2196 : decode cL_law 2196 = .ok (.aload_n 3, 1) := by decide +kernel
theorem dL_law_2197 : decode cL_law 2197 = .ok (.iconst 0, 1) := by decide +kernel
theorem dL_law_2198 : decode cL_law 2198 = .ok (.laload, 1) := by decide +kernel
theorem dL_law_2199 : decode cL_law 2199 = .ok (.iload 7, 2) := by decide +kernel
theorem dL_law_2201 : decode cL_law 2201 = .ok (.i2l, 1) := by decide +kernel
theorem dL_law_2202 : decode cL_law 2202 = .ok (.lcmp, 1) := by decide +kernel
theorem dL_law_2203 : decode cL_law 2203 = .ok (.ifCond .eq 5, 3) := by decide +kernel
theorem dL_law_2206 : decode cL_law 2206 = .ok (.iconst 0, 1) := by decide +kernel
theorem dL_law_2207 : decode cL_law 2207 = .ok (.ireturn, 1) := by decide +kernel
theorem dL_law_2208 : decode cL_law 2208 = .ok (.goto 147, 3) := by decide +kernel
theorem dL_law_2211 : decode cL_law 2211 = .ok (.aload_n 1, 1) := by decide +kernel
theorem dL_law_2212 : decode cL_law 2212 = .ok (.aload 4, 2) := by decide +kernel
theorem dL_law_2214 : decode cL_law 2214 = .ok (.invokestatic 244, 3) := by decide +kernel
theorem dL_law_2217 : decode cL_law 2217 = .ok (.istore 6, 2) := by decide +kernel
theorem dL_law_2219 : decode cL_law 2219 = .ok (.aload_n 2, 1) := by decide +kernel
theorem dL_law_2220 : decode cL_law 2220 = .ok (.invokevirtual 247, 3) := by decide +kernel
theorem dL_law_2223 : decode cL_law 2223 = .ok (.fstore 7, 2) := by decide +kernel
theorem dL_law_2225 : decode cL_law 2225 = .ok (.aload_n 2, 1) := by decide +kernel
theorem dL_law_2226 : decode cL_law 2226 = .ok (.invokevirtual 135, 3) := by decide +kernel
theorem dL_law_2229 : decode cL_law 2229 = .ok (.iload 6, 2) := by decide +kernel
theorem dL_law_2231 : decode cL_law 2231 = .ok (.if_icmp .eq 5, 3) := by decide +kernel
theorem dL_law_2234 : decode cL_law 2234 = .ok (.iconst 0, 1) := by decide +kernel
theorem dL_law_2235 : decode cL_law 2235 = .ok (.ireturn, 1) := by decide +kernel
theorem dL_law_2236 : decode cL_law 2236 = .ok (.iload 6, 2) := by decide +kernel
theorem dL_law_2238 : decode cL_law 2238 = .ok (.ifCond .ne 36, 3) := by decide +kernel
theorem dL_law_2241 : decode cL_law 2241 = .ok (.aload 4, 2) := by decide +kernel
theorem dL_law_2243 : decode cL_law 2243 = .ok (.iconst 0, 1) := by decide +kernel
theorem dL_law_2244 : decode cL_law 2244 = .ok (.daload, 1) := by decide +kernel
theorem dL_law_2245 : decode cL_law 2245 = .ok (.fload 7, 2) := by decide +kernel
theorem dL_law_2247 : decode cL_law 2247 = .ok (.f2d, 1) := by decide +kernel
theorem dL_law_2248 : decode cL_law 2248 = .ok (.dcmp .l, 1) := by decide +kernel
theorem dL_law_2249 : decode cL_law 2249 = .ok (.ifCond .eq 25, 3) := by decide +kernel
theorem dL_law_2252 : decode cL_law 2252 = .ok (.aload 4, 2) := by decide +kernel
theorem dL_law_2254 : decode cL_law 2254 = .ok (.iconst 0, 1) := by decide +kernel
theorem dL_law_2255 : decode cL_law 2255 = .ok (.daload, 1) := by decide +kernel
theorem dL_law_2256 : decode cL_law 2256 = .ok (.aload 4, 2) := by decide +kernel
theorem dL_law_2258 : decode cL_law 2258 = .ok (.iconst 0, 1) := by decide +kernel
theorem dL_law_2259 : decode cL_law 2259 = .ok (.daload, 1) := by decide +kernel
theorem dL_law_2260 : decode cL_law 2260 = .ok (.dcmp .l, 1) := by decide +kernel
theorem dL_law_2261 : decode cL_law 2261 = .ok (.ifCond .eq 11, 3) := by decide +kernel
theorem dL_law_2264 : decode cL_law 2264 = .ok (.fload 7, 2) := by decide +kernel
theorem dL_law_2266 : decode cL_law 2266 = .ok (.fload 7, 2) := by decide +kernel
theorem dL_law_2268 : decode cL_law 2268 = .ok (.fcmp .l, 1) := by decide +kernel
theorem dL_law_2269 : decode cL_law 2269 = .ok (.ifCond .ne 5, 3) := by decide +kernel
theorem dL_law_2272 : decode cL_law 2272 = .ok (.iconst 0, 1) := by decide +kernel
theorem dL_law_2273 : decode cL_law 2273 = .ok (.ireturn, 1) := by decide +kernel
theorem dL_law_2274 : decode cL_law 2274 = .ok (.goto 81, 3) := by decide +kernel
theorem dL_law_2277 : decode cL_law 2277 = .ok (.aload_n 1, 1) := by decide +kernel
theorem dL_law_2278 : decode cL_law 2278 = .ok (.aload 4, 2) := by decide +kernel
theorem dL_law_2280 : decode cL_law 2280 = .ok (.invokestatic 248, 3) := by decide +kernel
theorem dL_law_2283 : decode cL_law 2283 = .ok (.istore 6, 2) := by decide +kernel
theorem dL_law_2285 : decode cL_law 2285 = .ok (.aload_n 2, 1) := by decide +kernel
theorem dL_law_2286 : decode cL_law 2286 = .ok (.invokevirtual 250, 3) := by decide +kernel
theorem dL_law_2289 : decode cL_law 2289 = .ok (.dstore 7, 2) := by decide +kernel
theorem dL_law_2291 : decode cL_law 2291 = .ok (.aload_n 2, 1) := by decide +kernel
theorem dL_law_2292 : decode cL_law 2292 = .ok (.invokevirtual 135, 3) := by decide +kernel
theorem dL_law_2295 : decode cL_law 2295 = .ok (.iload 6, 2) := by decide +kernel
theorem dL_law_2297 : decode cL_law 2297 = .ok (.if_icmp .eq 5, 3) := by decide +kernel
theorem dL_law_2300 : decode cL_law 2300 = .ok (.iconst 0, 1) := by decide +kernel
theorem dL_law_2301 : decode cL_law 2301 = .ok (.ireturn, 1) := by decide +kernel
theorem dL_law_2302 : decode cL_law 2302 = .ok (.iload 6, 2) := by decide +kernel
theorem dL_law_2304 : decode cL_law 2304 = .ok (.ifCond .ne 35, 3) := by decide +kernel
theorem dL_law_2307 : decode cL_law 2307 = .ok (.aload 4, 2) := by decide +kernel
theorem dL_law_2309 : decode cL_law 2309 = .ok (.iconst 0, 1) := by decide +kernel
theorem dL_law_2310 : decode cL_law 2310 = .ok (.daload, 1) := by decide +kernel
theorem dL_law_2311 : decode cL_law 2311 = .ok (.dload 7, 2) := by decide +kernel
theorem dL_law_2313 : decode cL_law 2313 = .ok (.dcmp .l, 1) := by decide +kernel
theorem dL_law_2314 : decode cL_law 2314 = .ok (.ifCond .eq 25, 3) := by decide +kernel
theorem dL_law_2317 : decode cL_law 2317 = .ok (.aload 4, 2) := by decide +kernel
theorem dL_law_2319 : decode cL_law 2319 = .ok (.iconst 0, 1) := by decide +kernel
theorem dL_law_2320 : decode cL_law 2320 = .ok (.daload, 1) := by decide +kernel
theorem dL_law_2321 : decode cL_law 2321 = .ok (.aload 4, 2) := by decide +kernel
theorem dL_law_2323 : decode cL_law 2323 = .ok (.iconst 0, 1) := by decide +kernel
theorem dL_law_2324 : decode cL_law 2324 = .ok (.daload, 1) := by decide +kernel
theorem dL_law_2325 : decode cL_law 2325 = .ok (.dcmp .l, 1) := by decide +kernel
theorem dL_law_2326 : decode cL_law 2326 = .ok (.ifCond .eq 11, 3) := by decide +kernel
theorem dL_law_2329 : decode cL_law 2329 = .ok (.dload 7, 2) := by decide +kernel
theorem dL_law_2331 : decode cL_law 2331 = .ok (.dload 7, 2) := by decide +kernel
theorem dL_law_2333 : decode cL_law 2333 = .ok (.dcmp .l, 1) := by decide +kernel
theorem dL_law_2334 : decode cL_law 2334 = .ok (.ifCond .ne 5, 3) := by decide +kernel
theorem dL_law_2337 : decode cL_law 2337 = .ok (.iconst 0, 1) := by decide +kernel
theorem dL_law_2338 : decode cL_law 2338 = .ok (.ireturn, 1) := by decide +kernel
theorem dL_law_2339 : decode cL_law 2339 = .ok (.goto 16, 3) := by decide +kernel
theorem dL_law_2342 : decode cL_law 2342 = .ok (.aload_n 1, 1) := by decide +kernel
theorem dL_law_2343 : decode cL_law 2343 = .ok (.invokevirtual 251, 3) := by decide +kernel
theorem dL_law_2346 : decode cL_law 2346 = .ok (.aload_n 2, 1) := by decide +kernel
theorem dL_law_2347 : decode cL_law 2347 = .ok (.invokevirtual 255, 3) := by decide +kernel
theorem dL_law_2350 : decode cL_law 2350 = .ok (.if_icmp .eq 5, 3) := by decide +kernel
theorem dL_law_2353 : decode cL_law 2353 = .ok (.iconst 0, 1) := by decide +kernel
theorem dL_law_2354 : decode cL_law 2354 = .ok (.ireturn, 1) := by decide +kernel
theorem dL_law_2355 : decode cL_law 2355 = .ok (.iinc 5 6, 3) := by decide +kernel
theorem dL_law_2358 : decode cL_law 2358 = .ok (.goto (-2330), 3) := by decide +kernel
theorem dL_law_2361 : decode cL_law 2361 = .ok (.iconst 1, 1) := by decide +kernel
theorem dL_law_2362 : decode cL_law 2362 = .ok (.ireturn, 1) := by decide +kernel
end
section
/-! the world of all methods but constructors: cells by numbers, ints by (cell, place) -/
def wb_nest (w : Cond) : Bool := match w with
  | .fieldLinkNest .. => true
  | .methodLinkNest .. => true
  | _ => false
def wb_g (w : Cond) : Bool := w.onTables && (w.keepsCast || wb_nest w)
def nwL : List Cond := lw_tbl.filter wb_g
def NW (U : State) : Prop := ∀ w ∈ nwL, w.before #[] U = true
theorem NW.use {A : Array Value} {s : State} (h : NW s) {w : Cond} (hw : w ∈ nwL) : w.before A s = true := by
  have hg := (List.mem_filter.mp hw).2
  simp only [wb_g, Bool.and_eq_true] at hg
  exact va_tabs hg.1 rfl (h w hw)
theorem NW.same {s U : State} (hv : s.vm = U.vm) (h : NW s) : NW U := by
  intro w hw
  have hg := (List.mem_filter.mp hw).2
  simp only [wb_g, Bool.and_eq_true] at hg
  exact va_tabs hg.1 hv (h w hw)
theorem NW.warm {s U : State} (hW : s.WarmedH U.vm) (h : NW s) : NW U := by
  intro w hw
  have hg := (List.mem_filter.mp hw).2
  simp only [wb_g, Bool.and_eq_true, Bool.or_eq_true] at hg
  have h0 := h w hw
  have h1 : w.before #[] (s.setVm U.vm) = true := by
    rcases hg.2 with g | g
    · exact Cond.before_shiftedCast (State.Shifted.of_warmed hW) w g h0
    · cases w with
      | fieldLinkNest => exact Cond.fieldLinkNest_warmed hW h0
      | methodLinkNest => exact Cond.methodLinkNest_warmed hW h0
      | _ => simp [wb_nest] at g
  exact va_tabs (u := s.setVm U.vm) hg.1 rfl h1
abbrev Mem : Type := Nat → Nat → Int32
abbrev Out : Type := Int64 × UInt64
/-- the shape: classes and slots, the cells' addresses, the arrays' classes (0 int, 1 boolean, 2 Offer, 3 int[], 4 long, 5 double) -/
abbrev Sh : Type := va_G × (Nat → Nat) × (Nat → ClassId)
def up2 (a : Mem) (k j : Nat) (v : Int32) : Mem := fun k' j' => if k' = k ∧ j' = j then v else a k' j'
theorem up2_ne {a : Mem} {k j : Nat} {v : Int32} {k' : Nat} (h : k' ≠ k) : up2 a k j v k' = a k' := by
  funext j'
  simp [up2, h]
theorem up2_upd {a : Mem} {k j : Nat} {v : Int32} : up2 a k j v k = upd (a k) j v := by
  funext j'
  simp [up2, upd]
def GO (x : Sh) (k : Nat) (f : Nat → Int32) : va_E := .inr (2, [.int (f 0), .int (f 1), .int (f 2), .int (f 3), .int (f 4), .ref (x.2.1 (k + 1)), .ref (x.2.1 (k + 2)), .ref (x.2.1 (k + 3)), .int (f 8)])
def GA (x : Sh) (c n : Nat) (f : Nat → Int32) : va_E := .inl (x.2.2 c, n, .inl f)
def GR (x : Sh) (c n : Nat) (g : Nat → Nat) : va_E := .inl (x.2.2 c, n, .inr (.inr (.inr (.inr (fun i => if i < n then some (x.2.1 (g i)) else none)))))
def GC (x : Sh) (k : Nat) (f : Nat → Int32) : va_E :=
  if 18 ≤ k ∧ k < 66 then (if (k - 18) % 4 = 0 then GO x k f else GA x 0 10 f)
  else if 3 ≤ k ∧ k < 12 then GA x 0 60 f
  else if k = 0 then .inr (5, [.ref (x.2.1 1), .ref (x.2.1 13), .ref (x.2.1 17), .ref (x.2.1 66), .ref (x.2.1 67), .ref (x.2.1 68), .ref (x.2.1 69), .int (f 7), .int (f 8), .int (f 9), .int (f 10), .int (f 11), .int (f 12)])
  else if k = 1 then .inr (3, [.ref (x.2.1 2), .ref (x.2.1 12)])
  else if k = 2 then GR x 3 9 (fun i => 3 + i)
  else if k = 12 then GA x 0 3 f
  else if k = 13 then .inr (4, [.ref (x.2.1 14), .ref (x.2.1 15), .ref (x.2.1 16), .int (f 3)])
  else if 14 ≤ k ∧ k < 17 then GA x 0 120 f
  else if k = 17 then GR x 2 12 (fun i => 18 + 4 * i)
  else if k = 66 then GA x 0 3 f
  else if k = 69 then GA x 1 6 f
  else GA x 0 10 f
def GM (x : Sh) (k : Nat) (f : Nat → Int32) : va_E :=
  if k = 70 then .inr (6, [.int (f 0), .int (f 1), .int (f 2), .int (f 3), .int (f 4), .int (f 5), .int (f 6), .int (f 7), .ref (x.2.1 71), .ref (x.2.1 72), .ref (x.2.1 73), .ref (x.2.1 74), .ref (x.2.1 75), .ref (x.2.1 76), .ref (x.2.1 77), .ref (x.2.1 78), .ref (x.2.1 79), .ref (x.2.1 80), .ref (x.2.1 81), .ref (x.2.1 82), .ref (x.2.1 83), .ref (x.2.1 84), .ref (x.2.1 85), .ref (x.2.1 86)])
  else if k = 71 then GA x 0 3 f
  else if k = 75 then GA x 1 12 f
  else if 72 ≤ k ∧ k < 77 then GA x 0 12 f
  else if 77 ≤ k ∧ k < 82 then GA x 0 120 f
  else if k = 82 then GA x 0 540 f
  else if k = 83 then GA x 0 3 f
  else if k = 84 then GA x 0 10 f
  else if k = 85 then GA x 1 6 f
  else GA x 1 120 f
def GE (x : Sh) (a b : Mem) (o : Out) (k : Nat) : va_E :=
  if k < 70 then GC x k (a k) else if k < 87 then GM x k (b k) else if k = 87 then .inl (x.2.2 4, 1, .inr (.inl (fun _ => o.1))) else .inl (x.2.2 5, 1, .inr (.inr (.inr (.inl (fun _ => o.2)))))
def wd (x : Sh) (a b : Mem) (o : Out) : va_W := (List.range 89).map fun k => (x.2.1 k, GE x a b o k)
theorem wd_at {x : Sh} {a b : Mem} {o : Out} {k : Nat} (hk : k < 89) : (wd x a b o)[k]? = some (x.2.1 k, GE x a b o k) := by simp [wd, hk]
theorem wd_len {x : Sh} {a b : Mem} {o : Out} : (wd x a b o).length = 89 := by simp [wd]
theorem wd_get {x : Sh} {a b : Mem} {o : Out} {k : Nat} {q : Nat × va_E} (h : (wd x a b o)[k]? = some q) : k < 89 ∧ q = (x.2.1 k, GE x a b o k) := by
  have hk : k < 89 := by
    have := (List.getElem?_eq_some_iff.mp h).1
    rw [wd_len] at this
    exact this
  rw [wd_at hk] at h
  exact ⟨hk, (Option.some.inj h).symm⟩
theorem GE_C {x : Sh} {a b : Mem} {o : Out} {k : Nat} (hk : k < 70) : GE x a b o k = GC x k (a k) := if_pos hk
theorem GE_M {x : Sh} {a b : Mem} {o : Out} {k : Nat} (h1 : 70 ≤ k) (h2 : k < 87) : GE x a b o k = GM x k (b k) := by
  unfold GE
  rw [if_neg (by omega), if_pos h2]
theorem wd_set {x : Sh} {a b a' b' : Mem} {o o' : Out} {k : Nat} {e : va_E} (hk : k < 89) (he : GE x a' b' o' k = e) (hne : ∀ j, j ≠ k → GE x a' b' o' j = GE x a b o j) : (wd x a b o).set k (x.2.1 k, e) = wd x a' b' o' := by
  apply List.ext_getElem?
  intro j
  by_cases hj : j = k
  · subst hj
    rw [List.getElem?_set_self (by rw [wd_len]; exact hk), wd_at hk, he]
  · rw [List.getElem?_set_ne (Ne.symm hj)]
    by_cases h89 : j < 89
    · rw [wd_at h89, wd_at h89, hne j hj]
    · rw [List.getElem?_eq_none (by rw [wd_len]; omega), List.getElem?_eq_none (by rw [wd_len]; omega)]
theorem wd_setC {x : Sh} {a b : Mem} {o : Out} {k j : Nat} {v : Int32} {e : va_E} (hk : k < 70) (he : GC x k (upd (a k) j v) = e) : (wd x a b o).set k (x.2.1 k, e) = wd x (up2 a k j v) b o := by
  refine wd_set (by omega) (by rw [GE_C hk, up2_upd]; exact he) (fun i hi => ?_)
  unfold GE
  rw [up2_ne hi]
theorem wd_setM {x : Sh} {a b : Mem} {o : Out} {k j : Nat} {v : Int32} {e : va_E} (h1 : 70 ≤ k) (h2 : k < 87) (he : GM x k (upd (b k) j v) = e) : (wd x a b o).set k (x.2.1 k, e) = wd x a (up2 b k j v) o := by
  refine wd_set (by omega) (by rw [GE_M h1 h2, up2_upd]; exact he) (fun i hi => ?_)
  unfold GE
  rw [up2_ne hi]
/-- what a method may change -/
def AW (x : Sh) (sz : Nat) : Nat → Prop := fun q => (∃ k, k < 89 ∧ q = x.2.1 k) ∨ sz ≤ q
theorem AW.in {x : Sh} {sz k : Nat} (hk : k < 89) : AW x sz (x.2.1 k) := Or.inl ⟨k, hk, rfl⟩
theorem AW.narrow {x : Sh} {sz sz' q : Nat} (h : sz ≤ sz') (hq : AW x sz' q) : AW x sz q := hq.elim Or.inl (fun g => Or.inr (Nat.le_trans h g))
def tysx (x : Sh) : List (ClassId × FieldType) := [(x.2.2 0, .int), (x.2.2 1, .boolean), (x.2.2 2, .object "Classfederation$Offer"), (x.2.2 3, .array .int), (x.2.2 4, .long), (x.2.2 5, .double)]
def strL : List (String × Nat × String) := [("Classfederation", 46, "seats out of range"), ("Classfederation", 57, "no more rooms"), ("Classfederation", 63, "no more exams"), ("Classfederation", 68, "no more pupils"), ("Classfederation", 299, "no such exam"), ("Classfederation", 76, "no such room"), ("Classfederation", 305, "slot out of range"), ("Classfederation", 88, "room taken or slot sat"), ("Classfederation", 94, "no more offers"), ("Classfederation", 297, "no such pupil"), ("Classfederation", 301, "no such offer"), ("Classfederation", 110, "points out of range"), ("Classfederation", 124, "offer closed or too few points"), ("Classfederation", 139, "no such bid"), ("Classfederation", 164, "no seat of this exam"), ("Classfederation", 316, "no exam at this slot"), ("Classfederation", 176, "no such holder"), ("Classfederation", 182, "no seat of this offer"), ("Classfederation", 190, "no such waiter"), ("Classfederation", 195, "offer closed or no seat of it"), ("Classfederation", 210, "offer closed, or slot sat or taken"), ("Classfederation", 303, "no such store"), ("Classfederation", 307, "no such field"), ("Classfederation", 232, "value out of range"), ("Classfederation", 242, "a store is not synced from itself"), ("Classfederation", 254, "the stores are not the same in this field"), ("Classfederation", 265, "the slot was sat"), ("Classfederation", 276, "no offers"), ("Classfederation", 282, "no pupils")]
def exL : List String := ["java/lang/IllegalArgumentException", "java/lang/IllegalStateException", "java/lang/IndexOutOfBoundsException", "java/lang/UnsupportedOperationException", "java/util/NoSuchElementException", "java/lang/ArithmeticException"]
def TH (x : Sh) (sz : Nat) (U : State) (H : Heap) : Prop := vx_Zq Bundle.tN "UNASSIGNED_STACK" Bundle.steD (AW x sz) U H ∧ vx_Zq Bundle.tN "SUPPRESSED_SENTINEL" Bundle.listD (AW x sz) U H ∧ ∀ q ∈ strL, ∃ sa, vk_R q.1 q.2.1 q.2.2 sa U
def NC (U : State) : Prop := ∀ E ∈ exL, ∀ N ∈ exL, E ≠ N → va_Nc E N U
theorem NC.moved {u U : State} (hvm : u.vm.Alike U.vm) (h : NC u) : NC U := fun E hE N hN hne => by
  obtain ⟨c, t, h1, h2, h3⟩ := h E hE N hN hne
  exact ⟨c, t, by rw [hvm.findClass]; exact h1, by rw [hvm.findClass]; exact h2, by rw [hvm.assignable]; exact h3⟩
def IN (x : Sh) : Prop := ∀ i j, i < 89 → j < 89 → x.2.1 i = x.2.1 j → i = j
def KX (x : Sh) (s : State) (H : Heap) : Prop := va_K x.1 vwCl (tysx x) s ∧ IN x ∧ NW s ∧ TH x H.size s H ∧ NC s
theorem KX.same {x : Sh} {s U : State} {H : Heap} (hv : s.vm = U.vm) (h : KX x s H) : KX x U H := by
  obtain ⟨h1, h2, h3, ⟨g1, g2, g3⟩, h5⟩ := h
  have hal : s.vm.Alike U.vm := by rw [hv]; exact Vm.Alike.refl _
  refine ⟨va_K.moved hal h1, h2, h3.same hv, ⟨vx_Zq.moved hal g1, vx_Zq.moved hal g2, fun q hq => ?_⟩, h5.moved hal⟩
  obtain ⟨sa, g⟩ := g3 q hq
  exact ⟨sa, vk_R.same hv.symm g⟩
theorem KX.call {x : Sh} {s U : State} {H : Heap} {locs : List Loc} (h : KX x s s.heap) (hS : va_S (AW x s.heap.size) s.heap H locs) (hW : s.WarmedH U.vm) : KX x U H := by
  obtain ⟨h1, h2, h3, ⟨g1, g2, g3⟩, h5⟩ := h
  have hal : s.vm.Alike U.vm := hW.alike
  have nar : ∀ q, AW x H.size q → AW x s.heap.size q := fun q hq => hq.narrow hS.1
  have z1 : vx_Zq Bundle.tN "UNASSIGNED_STACK" Bundle.steD (AW x s.heap.size) s H := vx_Zq.kept g1 (fun a ha hna => hS.2.1 a ha hna)
  have z2 : vx_Zq Bundle.tN "SUPPRESSED_SENTINEL" Bundle.listD (AW x s.heap.size) s H := vx_Zq.kept g2 (fun a ha hna => hS.2.1 a ha hna)
  refine ⟨va_K.moved hal h1, h2, h3.warm hW, ⟨vx_Zq.narrow (vx_Zq.moved hal z1) nar, vx_Zq.narrow (vx_Zq.moved hal z2) nar, fun q hq => ?_⟩, h5.moved hal⟩
  obtain ⟨sa, g⟩ := g3 q hq
  exact ⟨sa, vk_R.warm hW g⟩
theorem KX.hD {x : Sh} {s : State} {H0 : Heap} {a b : Mem} {o : Out} {sz : Nat} (h : KX x s H0) : va_D (AW x sz) (wd x a b o) := by
  refine ⟨fun i j p q hp hq hpq => ?_, fun k q hk => ?_⟩
  · obtain ⟨h1, rfl⟩ := wd_get hp
    obtain ⟨h2, rfl⟩ := wd_get hq
    exact h.2.1 i j h1 h2 hpq
  · obtain ⟨h1, rfl⟩ := wd_get hk
    exact AW.in h1
/-- a method's start -/
def Pre (x : Sh) (a b : Mem) (o : Out) (sz : Nat) (U : State) : Prop := U.heap.size = sz ∧ va_P x.1 vwCl (wd x a b o) U.heap ∧ KX x U U.heap
theorem Pre.blind {x : Sh} {a b : Mem} {o : Out} {sz : Nat} {As : List Value} : FrameBlind (va_Pc As (Pre x a b o sz)) := by
  intro v U g mk h
  obtain ⟨h0, h1, h2, h3⟩ := h
  have h4 : KX x (U.calling g mk v) U.heap := KX.same (s := U) rfl h3
  exact ⟨h0, h1, h2, h4⟩
/-- what a walk has at hand -/
def CX (p : Program) (l : Launch) (s : State) (m : MethodId) (meth : Method) (c : Code) (x : Sh) (cc : ByteArray) (own : String) (nL : Nat) : Prop :=
  p.tables.exec = Jvm.exec ∧ c.code = cc ∧ c.maxLocals = nL ∧ s.vm.findClass own = some m.cls ∧ KX x s s.heap ∧ meth.locks = false ∧ l.stackTraces = false
def LV (nL : Nat) (ls : Array Slot) (lv : List (Option Value)) : Prop := ls.size = nL ∧ lv_wf ls ∧ lv.length = nL ∧ ∀ (i : Nat) (v : Value), lv[i]? = some (some v) → ls[i]? = some (.val v) ∧ v.category = 1
def VV (p : Program) (l : Launch) (e : Env) (R : Room) (s : State) (m : MethodId) (args : Array Value) (below : List Frame) (meth : Method) (c : Code) (Q : State → Prop) (x : Sh) (nL : Nat) (a b : Mem) (o : Out) (cells slots pc : Nat) (lv : List (Option Value)) (st : List Value) : Prop :=
  ∀ (H : Heap) (locs : List Loc) (ls : Array Slot), va_P x.1 vwCl (wd x a b o) H → va_S (AW x s.heap.size) s.heap H locs → LV nL ls lv → W p l e R s m args below meth c H locs cells slots Q (F0 m pc ls st)
/-- locals behind a store -/
theorem LV.store {nL : Nat} {ls : Array Slot} {lv : List (Option Value)} {i : Nat} {v : Value} (h : LV nL ls lv) (hi : i < nL) (hv : v.category = 1) : ∃ ls', storeLocals ls i v = some ls' ∧ LV nL ls' (lv.set i (some v)) := by
  obtain ⟨h1, h2, h3, h4⟩ := h
  have key : ∀ lw : List (Nat × Value), lv_has ls nL lw → ∃ ls', storeLocals ls i v = some ls' ∧ lv_has ls' nL ((i, v) :: lw.filter (fun q => !(q.1 == i) && !(q.1 + 1 == i && q.2.category == 2))) := fun lw hh => lv_store1 hh hi hv
  obtain ⟨ls0, e0, f0⟩ := key [] ⟨h1, h2, fun q hq => by cases hq⟩
  refine ⟨ls0, e0, f0.1, f0.2.1, by rw [List.length_set]; exact h3, fun j w hj => ?_⟩
  by_cases hji : j = i
  · subst hji
    rw [List.getElem?_set_self (by omega)] at hj
    cases hj
    exact ⟨f0.2.2 (j, v) List.mem_cons_self, hv⟩
  · rw [List.getElem?_set_ne (Ne.symm hji)] at hj
    obtain ⟨g1, g2⟩ := h4 j w hj
    obtain ⟨ls1, e1, f1⟩ := key [(j, w)] ⟨h1, h2, fun q hq => by rw [List.mem_singleton.mp hq]; exact g1⟩
    cases e0.symm.trans e1
    refine ⟨f1.2.2 (j, w) (List.mem_cons_of_mem _ (List.mem_filter.mpr ⟨List.mem_singleton.mpr rfl, ?_⟩)), g2⟩
    simp [hji, g2]
/-- fewer locals known -/
def lvLe (lv' lv : List (Option Value)) : Prop := lv'.length = lv.length ∧ ∀ (i : Nat) (v : Value), lv'[i]? = some (some v) → lv[i]? = some (some v)
theorem lvLe.nil : lvLe [] [] := ⟨rfl, fun i v h => h⟩
theorem lvLe.same {v : Option Value} {l' l : List (Option Value)} (h : lvLe l' l) : lvLe (v :: l') (v :: l) := by
  refine ⟨by simp [h.1], fun i w hi => ?_⟩
  cases i with
  | zero => exact hi
  | succ i => exact h.2 i w (by simpa using hi)
theorem lvLe.drop {v : Option Value} {l' l : List (Option Value)} (h : lvLe l' l) : lvLe (none :: l') (v :: l) := by
  refine ⟨by simp [h.1], fun i w hi => ?_⟩
  cases i with
  | zero => simp at hi
  | succ i => exact h.2 i w (by simpa using hi)
section VVR
variable {p : Program} {l : Launch} {e : Env} {R : Room} {s : State} {m : MethodId} {args : Array Value} {below : List Frame} {meth : Method} {c : Code} {Q : State → Prop} {x : Sh} {nL : Nat} {a b : Mem} {o : Out} {cells slots pc : Nat} {lv : List (Option Value)} {st : List Value} {cc : ByteArray} {own : String}
theorem V_forget {lv' : List (Option Value)} (h : lvLe lv' lv) (k : VV p l e R s m args below meth c Q x nL a b o cells slots pc lv' st) : VV p l e R s m args below meth c Q x nL a b o cells slots pc lv st :=
  fun H locs ls hP hS hL => k H locs ls hP hS ⟨hL.1, hL.2.1, by rw [h.1]; exact hL.2.2.1, fun i v hi => hL.2.2.2 i v (h.2 i v hi)⟩
theorem V_widen {k n : Nat} (h1 : cells ≤ k) (h2 : slots ≤ n) (kk : VV p l e R s m args below meth c Q x nL a b o k n pc lv st) : VV p l e R s m args below meth c Q x nL a b o cells slots pc lv st :=
  fun H locs ls hP hS hL => W.widen h1 h2 (kk H locs ls hP hS hL)
theorem V_eqs {st' : List Value} (h : st = st') (kk : VV p l e R s m args below meth c Q x nL a b o cells slots pc lv st') : VV p l e R s m args below meth c Q x nL a b o cells slots pc lv st := h ▸ kk
theorem V_eqa {a' b' : Mem} (h : a = a') (h2 : b = b') (kk : VV p l e R s m args below meth c Q x nL a' b' o cells slots pc lv st) : VV p l e R s m args below meth c Q x nL a b o cells slots pc lv st := by
  subst h; subst h2; exact kk
theorem V_topi {v w : Int32} (h : v = w) (kk : VV p l e R s m args below meth c Q x nL a b o cells slots pc lv (.int w :: st)) : VV p l e R s m args below meth c Q x nL a b o cells slots pc lv (.int v :: st) := h ▸ kk
theorem V_iconst (C : CX p l s m meth c x cc own nL) {n : Int} {v : Int32} (hd : decode cc pc = .ok (.iconst n, 1)) (hv : Int32.ofInt n = v) (kk : VV p l e R s m args below meth c Q x nL a b o cells slots (pc + 1) lv (.int v :: st)) : VV p l e R s m args below meth c Q x nL a b o cells slots pc lv (st) := fun H locs ls hP hS hL => lv_iconst C.1 C.2.1 hd hv (kk H locs ls hP hS hL)
theorem V_bipush (C : CX p l s m meth c x cc own nL) {n : Int} {v : Int32} (hd : decode cc pc = .ok (.bipush n, 2)) (hv : (Int8.ofInt n).toInt32 = v) (kk : VV p l e R s m args below meth c Q x nL a b o cells slots (pc + 2) lv (.int v :: st)) : VV p l e R s m args below meth c Q x nL a b o cells slots pc lv (st) := fun H locs ls hP hS hL => lv_bipush C.1 C.2.1 hd hv (kk H locs ls hP hS hL)
theorem V_sipush (C : CX p l s m meth c x cc own nL) {n : Int} {v : Int32} (hd : decode cc pc = .ok (.sipush n, 3)) (hv : (Int16.ofInt n).toInt32 = v) (kk : VV p l e R s m args below meth c Q x nL a b o cells slots (pc + 3) lv (.int v :: st)) : VV p l e R s m args below meth c Q x nL a b o cells slots pc lv (st) := fun H locs ls hP hS hL => lv_sipush C.1 C.2.1 hd hv (kk H locs ls hP hS hL)
theorem V_lconst (C : CX p l s m meth c x cc own nL) {n : Fin 2} {v : Int64} (hd : decode cc pc = .ok (.lconst n, 1)) (hv : Int64.ofNat (n : Nat) = v) (kk : VV p l e R s m args below meth c Q x nL a b o cells slots (pc + 1) lv (.long v :: st)) : VV p l e R s m args below meth c Q x nL a b o cells slots pc lv (st) := fun H locs ls hP hS hL => lv_lconst C.1 C.2.1 hd hv (kk H locs ls hP hS hL)
theorem V_iadd (C : CX p l s m meth c x cc own nL) {y1 y2 : Int32} (hd : decode cc pc = .ok (.iadd, 1))  (kk : VV p l e R s m args below meth c Q x nL a b o cells slots (pc + 1) lv (.int (y1 + y2) :: st)) : VV p l e R s m args below meth c Q x nL a b o cells slots pc lv (.int y2 :: .int y1 :: st) := fun H locs ls hP hS hL => lv_iadd C.1 C.2.1 hd  (kk H locs ls hP hS hL)
theorem V_isub (C : CX p l s m meth c x cc own nL) {y1 y2 : Int32} (hd : decode cc pc = .ok (.isub, 1))  (kk : VV p l e R s m args below meth c Q x nL a b o cells slots (pc + 1) lv (.int (y1 - y2) :: st)) : VV p l e R s m args below meth c Q x nL a b o cells slots pc lv (.int y2 :: .int y1 :: st) := fun H locs ls hP hS hL => lv_isub C.1 C.2.1 hd  (kk H locs ls hP hS hL)
theorem V_imul (C : CX p l s m meth c x cc own nL) {y1 y2 : Int32} (hd : decode cc pc = .ok (.imul, 1))  (kk : VV p l e R s m args below meth c Q x nL a b o cells slots (pc + 1) lv (.int (y1 * y2) :: st)) : VV p l e R s m args below meth c Q x nL a b o cells slots pc lv (.int y2 :: .int y1 :: st) := fun H locs ls hP hS hL => lv_imul C.1 C.2.1 hd  (kk H locs ls hP hS hL)
theorem V_iand (C : CX p l s m meth c x cc own nL) {y1 y2 : Int32} (hd : decode cc pc = .ok (.iand, 1))  (kk : VV p l e R s m args below meth c Q x nL a b o cells slots (pc + 1) lv (.int (y1 &&& y2) :: st)) : VV p l e R s m args below meth c Q x nL a b o cells slots pc lv (.int y2 :: .int y1 :: st) := fun H locs ls hP hS hL => lv_iand C.1 C.2.1 hd  (kk H locs ls hP hS hL)
theorem V_ior (C : CX p l s m meth c x cc own nL) {y1 y2 : Int32} (hd : decode cc pc = .ok (.ior, 1))  (kk : VV p l e R s m args below meth c Q x nL a b o cells slots (pc + 1) lv (.int (y1 ||| y2) :: st)) : VV p l e R s m args below meth c Q x nL a b o cells slots pc lv (.int y2 :: .int y1 :: st) := fun H locs ls hP hS hL => lv_ior C.1 C.2.1 hd  (kk H locs ls hP hS hL)
theorem V_ishl (C : CX p l s m meth c x cc own nL) {y1 y2 : Int32} (hd : decode cc pc = .ok (.ishl, 1))  (kk : VV p l e R s m args below meth c Q x nL a b o cells slots (pc + 1) lv (.int (y1 <<< (y2 &&& 31)) :: st)) : VV p l e R s m args below meth c Q x nL a b o cells slots pc lv (.int y2 :: .int y1 :: st) := fun H locs ls hP hS hL => lv_ishl C.1 C.2.1 hd  (kk H locs ls hP hS hL)
theorem V_idiv (C : CX p l s m meth c x cc own nL) {y1 y2 : Int32} (hd : decode cc pc = .ok (.idiv, 1)) (hne : ¬ y2 = 0) (kk : VV p l e R s m args below meth c Q x nL a b o cells slots (pc + 1) lv (.int (y1 / y2) :: st)) : VV p l e R s m args below meth c Q x nL a b o cells slots pc lv (.int y2 :: .int y1 :: st) := fun H locs ls hP hS hL => lv_idiv C.1 C.2.1 hd hne (kk H locs ls hP hS hL)
theorem V_irem (C : CX p l s m meth c x cc own nL) {y1 y2 : Int32} (hd : decode cc pc = .ok (.irem, 1)) (hne : ¬ y2 = 0) (kk : VV p l e R s m args below meth c Q x nL a b o cells slots (pc + 1) lv (.int (y1 - y1 / y2 * y2) :: st)) : VV p l e R s m args below meth c Q x nL a b o cells slots pc lv (.int y2 :: .int y1 :: st) := fun H locs ls hP hS hL => lv_irem C.1 C.2.1 hd hne (kk H locs ls hP hS hL)
theorem V_i2l (C : CX p l s m meth c x cc own nL) {y : Int32} {v : Int64} (hd : decode cc pc = .ok (.i2l, 1)) (hv : y.toInt64 = v) (kk : VV p l e R s m args below meth c Q x nL a b o cells slots (pc + 1) lv (.long v :: st)) : VV p l e R s m args below meth c Q x nL a b o cells slots pc lv (.int y :: st) := fun H locs ls hP hS hL => lv_i2l C.1 C.2.1 hd hv (kk H locs ls hP hS hL)
theorem V_i2c (C : CX p l s m meth c x cc own nL) {y : Int32} {v : Int32} (hd : decode cc pc = .ok (.i2c, 1)) (hv : (y.toUInt32 % 65536).toInt32 = v) (kk : VV p l e R s m args below meth c Q x nL a b o cells slots (pc + 1) lv (.int v :: st)) : VV p l e R s m args below meth c Q x nL a b o cells slots pc lv (.int y :: st) := fun H locs ls hP hS hL => lv_i2c C.1 C.2.1 hd hv (kk H locs ls hP hS hL)
theorem V_i2f (C : CX p l s m meth c x cc own nL) {y : Int32} (hd : decode cc pc = .ok (.i2f, 1))  (kk : VV p l e R s m args below meth c Q x nL a b o cells slots (pc + 1) lv (.float (FP.i2f y) :: st)) : VV p l e R s m args below meth c Q x nL a b o cells slots pc lv (.int y :: st) := fun H locs ls hP hS hL => lv_i2f C.1 C.2.1 hd  (kk H locs ls hP hS hL)
theorem V_i2d (C : CX p l s m meth c x cc own nL) {y : Int32} (hd : decode cc pc = .ok (.i2d, 1))  (kk : VV p l e R s m args below meth c Q x nL a b o cells slots (pc + 1) lv (.double (FP.i2d y) :: st)) : VV p l e R s m args below meth c Q x nL a b o cells slots pc lv (.int y :: st) := fun H locs ls hP hS hL => lv_i2d C.1 C.2.1 hd  (kk H locs ls hP hS hL)
theorem V_lcmp (C : CX p l s m meth c x cc own nL) {y1 y2 : Int64} (hd : decode cc pc = .ok (.lcmp, 1))  (kk : VV p l e R s m args below meth c Q x nL a b o cells slots (pc + 1) lv (.int (lg_cmp y1 y2) :: st)) : VV p l e R s m args below meth c Q x nL a b o cells slots pc lv (.long y2 :: .long y1 :: st) := fun H locs ls hP hS hL => W.lcmp C.1 C.2.1 hd  (kk H locs ls hP hS hL)
theorem V_dup (C : CX p l s m meth c x cc own nL) {v : Value} (hd : decode cc pc = .ok (.dup, 1)) (hv : v.category = 1) (kk : VV p l e R s m args below meth c Q x nL a b o cells slots (pc + 1) lv (v :: v :: st)) : VV p l e R s m args below meth c Q x nL a b o cells slots pc lv (v :: st) := fun H locs ls hP hS hL => lv_dup C.1 C.2.1 hd hv (kk H locs ls hP hS hL)
theorem V_dup2 (C : CX p l s m meth c x cc own nL) {v w : Value} (hd : decode cc pc = .ok (.dup2, 1)) (hv : v.category = 1) (hw : w.category = 1) (kk : VV p l e R s m args below meth c Q x nL a b o cells slots (pc + 1) lv (v :: w :: v :: w :: st)) : VV p l e R s m args below meth c Q x nL a b o cells slots pc lv (v :: w :: st) := fun H locs ls hP hS hL => lv_dup2_11 C.1 C.2.1 hd hv hw (kk H locs ls hP hS hL)
theorem V_iload_n (C : CX p l s m meth c x cc own nL) {k : Fin 4} {y : Int32} (hd : decode cc pc = .ok (.iload_n k, 1)) (hl : lv[(k : Nat)]? = some (some (.int y))) (kk : VV p l e R s m args below meth c Q x nL a b o cells slots (pc + 1) lv (.int y :: st)) : VV p l e R s m args below meth c Q x nL a b o cells slots pc lv st := fun H locs ls hP hS hL => lv_iload_n C.1 C.2.1 hd rfl (hL.2.2.2 _ _ hl).1 (kk H locs ls hP hS hL)
theorem V_iload (C : CX p l s m meth c x cc own nL) {k : Nat} {y : Int32} (hd : decode cc pc = .ok (.iload k, 2)) (hl : lv[k]? = some (some (.int y))) (kk : VV p l e R s m args below meth c Q x nL a b o cells slots (pc + 2) lv (.int y :: st)) : VV p l e R s m args below meth c Q x nL a b o cells slots pc lv st := fun H locs ls hP hS hL => lv_iload C.1 C.2.1 hd (hL.2.2.2 _ _ hl).1 (kk H locs ls hP hS hL)
theorem V_aload_n (C : CX p l s m meth c x cc own nL) {k : Fin 4} {y : Nat} (hd : decode cc pc = .ok (.aload_n k, 1)) (hl : lv[(k : Nat)]? = some (some (.ref y))) (kk : VV p l e R s m args below meth c Q x nL a b o cells slots (pc + 1) lv (.ref y :: st)) : VV p l e R s m args below meth c Q x nL a b o cells slots pc lv st := fun H locs ls hP hS hL => lv_aload_n C.1 C.2.1 hd rfl (hL.2.2.2 _ _ hl).1 (kk H locs ls hP hS hL)
theorem V_aload (C : CX p l s m meth c x cc own nL) {k : Nat} {y : Nat} (hd : decode cc pc = .ok (.aload k, 2)) (hl : lv[k]? = some (some (.ref y))) (kk : VV p l e R s m args below meth c Q x nL a b o cells slots (pc + 2) lv (.ref y :: st)) : VV p l e R s m args below meth c Q x nL a b o cells slots pc lv st := fun H locs ls hP hS hL => lv_aload C.1 C.2.1 hd (hL.2.2.2 _ _ hl).1 (kk H locs ls hP hS hL)
theorem V_istore_ng (C : CX p l s m meth c x cc own nL) {k : Fin 4} {y : Int32} (hd : decode cc pc = .ok (.istore_n k, 1)) (hn : (k : Nat) < nL) (kk : VV p l e R s m args below meth c Q x nL a b o cells slots (pc + 1) (lv.set (k : Nat) (some (.int y))) st) : VV p l e R s m args below meth c Q x nL a b o cells slots pc lv (.int y :: st) := by
  intro H locs ls hP hS hL
  obtain ⟨ls', e', h'⟩ := hL.store (v := .int y) hn rfl
  obtain ⟨hx, hb, -⟩ := id C
  intro T hT X
  obtain ⟨t, a1, b1⟩ := kk H locs ls' hP hS h' T hT X
  refine ⟨t, ?_, b1⟩
  jvm_step X.here [X.here.top, hx, hb, hd, e', Value.isRef]
  exact a1
theorem V_istore_g (C : CX p l s m meth c x cc own nL) {k : Nat} {y : Int32} (hd : decode cc pc = .ok (.istore k, 2)) (hn : k < nL) (kk : VV p l e R s m args below meth c Q x nL a b o cells slots (pc + 2) (lv.set k (some (.int y))) st) : VV p l e R s m args below meth c Q x nL a b o cells slots pc lv (.int y :: st) := by
  intro H locs ls hP hS hL
  obtain ⟨ls', e', h'⟩ := hL.store (v := .int y) hn rfl
  obtain ⟨hx, hb, -⟩ := id C
  intro T hT X
  obtain ⟨t, a1, b1⟩ := kk H locs ls' hP hS h' T hT X
  refine ⟨t, ?_, b1⟩
  jvm_step X.here [X.here.top, hx, hb, hd, e', Value.isRef]
  exact a1
theorem V_astore_ng (C : CX p l s m meth c x cc own nL) {k : Fin 4} {y : Nat} (hd : decode cc pc = .ok (.astore_n k, 1)) (hn : (k : Nat) < nL) (kk : VV p l e R s m args below meth c Q x nL a b o cells slots (pc + 1) (lv.set (k : Nat) (some (.ref y))) st) : VV p l e R s m args below meth c Q x nL a b o cells slots pc lv (.ref y :: st) := by
  intro H locs ls hP hS hL
  obtain ⟨ls', e', h'⟩ := hL.store (v := .ref y) hn rfl
  obtain ⟨hx, hb, -⟩ := id C
  intro T hT X
  obtain ⟨t, a1, b1⟩ := kk H locs ls' hP hS h' T hT X
  refine ⟨t, ?_, b1⟩
  jvm_step X.here [X.here.top, hx, hb, hd, e', Value.isRef]
  exact a1
theorem V_astore_g (C : CX p l s m meth c x cc own nL) {k : Nat} {y : Nat} (hd : decode cc pc = .ok (.astore k, 2)) (hn : k < nL) (kk : VV p l e R s m args below meth c Q x nL a b o cells slots (pc + 2) (lv.set k (some (.ref y))) st) : VV p l e R s m args below meth c Q x nL a b o cells slots pc lv (.ref y :: st) := by
  intro H locs ls hP hS hL
  obtain ⟨ls', e', h'⟩ := hL.store (v := .ref y) hn rfl
  obtain ⟨hx, hb, -⟩ := id C
  intro T hT X
  obtain ⟨t, a1, b1⟩ := kk H locs ls' hP hS h' T hT X
  refine ⟨t, ?_, b1⟩
  jvm_step X.here [X.here.top, hx, hb, hd, e', Value.isRef]
  exact a1
theorem V_iinc_g (C : CX p l s m meth c x cc own nL) {k : Nat} {n : Int} {y v : Int32} (hd : decode cc pc = .ok (.iinc k n, 3)) (hl : lv[k]? = some (some (.int y))) (hv : y + Int32.ofInt n = v) (hn : k < nL) (kk : VV p l e R s m args below meth c Q x nL a b o cells slots (pc + 3) (lv.set k (some (.int v))) st) : VV p l e R s m args below meth c Q x nL a b o cells slots pc lv st := by
  intro H locs ls hP hS hL
  obtain ⟨ls', e', h'⟩ := hL.store (v := .int v) hn rfl
  obtain ⟨hx, hb, -⟩ := id C
  have hg := (hL.2.2.2 _ _ hl).1
  subst hv
  intro T hT X
  obtain ⟨t, a1, b1⟩ := kk H locs ls' hP hS h' T hT X
  refine ⟨t, ?_, b1⟩
  jvm_step X.here [X.here.top, hx, hb, hd, hg, e']
  exact a1
theorem V_istore_n0 (C : CX p l s m meth c x cc own nL) {v0 : Option Value} {rl : List (Option Value)} {y : Int32} (hd : decode cc pc = .ok (.istore_n 0, 1)) (hn : 0 < nL) (kk : VV p l e R s m args below meth c Q x nL a b o cells slots (pc + 1) (some (.int y) :: rl) st) : VV p l e R s m args below meth c Q x nL a b o cells slots pc (v0 :: rl) (.int y :: st) := V_istore_ng C hd hn kk
theorem V_astore_n0 (C : CX p l s m meth c x cc own nL) {v0 : Option Value} {rl : List (Option Value)} {y : Nat} (hd : decode cc pc = .ok (.astore_n 0, 1)) (hn : 0 < nL) (kk : VV p l e R s m args below meth c Q x nL a b o cells slots (pc + 1) (some (.ref y) :: rl) st) : VV p l e R s m args below meth c Q x nL a b o cells slots pc (v0 :: rl) (.ref y :: st) := V_astore_ng C hd hn kk
theorem V_iinc_0 (C : CX p l s m meth c x cc own nL) {rl : List (Option Value)} {n : Int} {y : Int32} (v : Int32) (hd : decode cc pc = .ok (.iinc 0 n, 3)) (hv : y + Int32.ofInt n = v) (hn : 0 < nL) (kk : VV p l e R s m args below meth c Q x nL a b o cells slots (pc + 3) (some (.int v) :: rl) st) : VV p l e R s m args below meth c Q x nL a b o cells slots pc (some (.int y) :: rl) st := V_iinc_g C hd (by rfl) hv hn kk
theorem V_istore_n1 (C : CX p l s m meth c x cc own nL) {v0 : Option Value} {v1 : Option Value} {rl : List (Option Value)} {y : Int32} (hd : decode cc pc = .ok (.istore_n 1, 1)) (hn : 1 < nL) (kk : VV p l e R s m args below meth c Q x nL a b o cells slots (pc + 1) (v0 :: some (.int y) :: rl) st) : VV p l e R s m args below meth c Q x nL a b o cells slots pc (v0 :: v1 :: rl) (.int y :: st) := V_istore_ng C hd hn kk
theorem V_astore_n1 (C : CX p l s m meth c x cc own nL) {v0 : Option Value} {v1 : Option Value} {rl : List (Option Value)} {y : Nat} (hd : decode cc pc = .ok (.astore_n 1, 1)) (hn : 1 < nL) (kk : VV p l e R s m args below meth c Q x nL a b o cells slots (pc + 1) (v0 :: some (.ref y) :: rl) st) : VV p l e R s m args below meth c Q x nL a b o cells slots pc (v0 :: v1 :: rl) (.ref y :: st) := V_astore_ng C hd hn kk
theorem V_iinc_1 (C : CX p l s m meth c x cc own nL) {v0 : Option Value} {rl : List (Option Value)} {n : Int} {y : Int32} (v : Int32) (hd : decode cc pc = .ok (.iinc 1 n, 3)) (hv : y + Int32.ofInt n = v) (hn : 1 < nL) (kk : VV p l e R s m args below meth c Q x nL a b o cells slots (pc + 3) (v0 :: some (.int v) :: rl) st) : VV p l e R s m args below meth c Q x nL a b o cells slots pc (v0 :: some (.int y) :: rl) st := V_iinc_g C hd (by rfl) hv hn kk
theorem V_istore_n2 (C : CX p l s m meth c x cc own nL) {v0 : Option Value} {v1 : Option Value} {v2 : Option Value} {rl : List (Option Value)} {y : Int32} (hd : decode cc pc = .ok (.istore_n 2, 1)) (hn : 2 < nL) (kk : VV p l e R s m args below meth c Q x nL a b o cells slots (pc + 1) (v0 :: v1 :: some (.int y) :: rl) st) : VV p l e R s m args below meth c Q x nL a b o cells slots pc (v0 :: v1 :: v2 :: rl) (.int y :: st) := V_istore_ng C hd hn kk
theorem V_astore_n2 (C : CX p l s m meth c x cc own nL) {v0 : Option Value} {v1 : Option Value} {v2 : Option Value} {rl : List (Option Value)} {y : Nat} (hd : decode cc pc = .ok (.astore_n 2, 1)) (hn : 2 < nL) (kk : VV p l e R s m args below meth c Q x nL a b o cells slots (pc + 1) (v0 :: v1 :: some (.ref y) :: rl) st) : VV p l e R s m args below meth c Q x nL a b o cells slots pc (v0 :: v1 :: v2 :: rl) (.ref y :: st) := V_astore_ng C hd hn kk
theorem V_iinc_2 (C : CX p l s m meth c x cc own nL) {v0 : Option Value} {v1 : Option Value} {rl : List (Option Value)} {n : Int} {y : Int32} (v : Int32) (hd : decode cc pc = .ok (.iinc 2 n, 3)) (hv : y + Int32.ofInt n = v) (hn : 2 < nL) (kk : VV p l e R s m args below meth c Q x nL a b o cells slots (pc + 3) (v0 :: v1 :: some (.int v) :: rl) st) : VV p l e R s m args below meth c Q x nL a b o cells slots pc (v0 :: v1 :: some (.int y) :: rl) st := V_iinc_g C hd (by rfl) hv hn kk
theorem V_istore_n3 (C : CX p l s m meth c x cc own nL) {v0 : Option Value} {v1 : Option Value} {v2 : Option Value} {v3 : Option Value} {rl : List (Option Value)} {y : Int32} (hd : decode cc pc = .ok (.istore_n 3, 1)) (hn : 3 < nL) (kk : VV p l e R s m args below meth c Q x nL a b o cells slots (pc + 1) (v0 :: v1 :: v2 :: some (.int y) :: rl) st) : VV p l e R s m args below meth c Q x nL a b o cells slots pc (v0 :: v1 :: v2 :: v3 :: rl) (.int y :: st) := V_istore_ng C hd hn kk
theorem V_astore_n3 (C : CX p l s m meth c x cc own nL) {v0 : Option Value} {v1 : Option Value} {v2 : Option Value} {v3 : Option Value} {rl : List (Option Value)} {y : Nat} (hd : decode cc pc = .ok (.astore_n 3, 1)) (hn : 3 < nL) (kk : VV p l e R s m args below meth c Q x nL a b o cells slots (pc + 1) (v0 :: v1 :: v2 :: some (.ref y) :: rl) st) : VV p l e R s m args below meth c Q x nL a b o cells slots pc (v0 :: v1 :: v2 :: v3 :: rl) (.ref y :: st) := V_astore_ng C hd hn kk
theorem V_iinc_3 (C : CX p l s m meth c x cc own nL) {v0 : Option Value} {v1 : Option Value} {v2 : Option Value} {rl : List (Option Value)} {n : Int} {y : Int32} (v : Int32) (hd : decode cc pc = .ok (.iinc 3 n, 3)) (hv : y + Int32.ofInt n = v) (hn : 3 < nL) (kk : VV p l e R s m args below meth c Q x nL a b o cells slots (pc + 3) (v0 :: v1 :: v2 :: some (.int v) :: rl) st) : VV p l e R s m args below meth c Q x nL a b o cells slots pc (v0 :: v1 :: v2 :: some (.int y) :: rl) st := V_iinc_g C hd (by rfl) hv hn kk
theorem V_istore_4 (C : CX p l s m meth c x cc own nL) {v0 : Option Value} {v1 : Option Value} {v2 : Option Value} {v3 : Option Value} {v4 : Option Value} {rl : List (Option Value)} {y : Int32} (hd : decode cc pc = .ok (.istore 4, 2)) (hn : 4 < nL) (kk : VV p l e R s m args below meth c Q x nL a b o cells slots (pc + 2) (v0 :: v1 :: v2 :: v3 :: some (.int y) :: rl) st) : VV p l e R s m args below meth c Q x nL a b o cells slots pc (v0 :: v1 :: v2 :: v3 :: v4 :: rl) (.int y :: st) := V_istore_g C hd hn kk
theorem V_astore_4 (C : CX p l s m meth c x cc own nL) {v0 : Option Value} {v1 : Option Value} {v2 : Option Value} {v3 : Option Value} {v4 : Option Value} {rl : List (Option Value)} {y : Nat} (hd : decode cc pc = .ok (.astore 4, 2)) (hn : 4 < nL) (kk : VV p l e R s m args below meth c Q x nL a b o cells slots (pc + 2) (v0 :: v1 :: v2 :: v3 :: some (.ref y) :: rl) st) : VV p l e R s m args below meth c Q x nL a b o cells slots pc (v0 :: v1 :: v2 :: v3 :: v4 :: rl) (.ref y :: st) := V_astore_g C hd hn kk
theorem V_iinc_4 (C : CX p l s m meth c x cc own nL) {v0 : Option Value} {v1 : Option Value} {v2 : Option Value} {v3 : Option Value} {rl : List (Option Value)} {n : Int} {y : Int32} (v : Int32) (hd : decode cc pc = .ok (.iinc 4 n, 3)) (hv : y + Int32.ofInt n = v) (hn : 4 < nL) (kk : VV p l e R s m args below meth c Q x nL a b o cells slots (pc + 3) (v0 :: v1 :: v2 :: v3 :: some (.int v) :: rl) st) : VV p l e R s m args below meth c Q x nL a b o cells slots pc (v0 :: v1 :: v2 :: v3 :: some (.int y) :: rl) st := V_iinc_g C hd (by rfl) hv hn kk
theorem V_istore_5 (C : CX p l s m meth c x cc own nL) {v0 : Option Value} {v1 : Option Value} {v2 : Option Value} {v3 : Option Value} {v4 : Option Value} {v5 : Option Value} {rl : List (Option Value)} {y : Int32} (hd : decode cc pc = .ok (.istore 5, 2)) (hn : 5 < nL) (kk : VV p l e R s m args below meth c Q x nL a b o cells slots (pc + 2) (v0 :: v1 :: v2 :: v3 :: v4 :: some (.int y) :: rl) st) : VV p l e R s m args below meth c Q x nL a b o cells slots pc (v0 :: v1 :: v2 :: v3 :: v4 :: v5 :: rl) (.int y :: st) := V_istore_g C hd hn kk
theorem V_astore_5 (C : CX p l s m meth c x cc own nL) {v0 : Option Value} {v1 : Option Value} {v2 : Option Value} {v3 : Option Value} {v4 : Option Value} {v5 : Option Value} {rl : List (Option Value)} {y : Nat} (hd : decode cc pc = .ok (.astore 5, 2)) (hn : 5 < nL) (kk : VV p l e R s m args below meth c Q x nL a b o cells slots (pc + 2) (v0 :: v1 :: v2 :: v3 :: v4 :: some (.ref y) :: rl) st) : VV p l e R s m args below meth c Q x nL a b o cells slots pc (v0 :: v1 :: v2 :: v3 :: v4 :: v5 :: rl) (.ref y :: st) := V_astore_g C hd hn kk
theorem V_iinc_5 (C : CX p l s m meth c x cc own nL) {v0 : Option Value} {v1 : Option Value} {v2 : Option Value} {v3 : Option Value} {v4 : Option Value} {rl : List (Option Value)} {n : Int} {y : Int32} (v : Int32) (hd : decode cc pc = .ok (.iinc 5 n, 3)) (hv : y + Int32.ofInt n = v) (hn : 5 < nL) (kk : VV p l e R s m args below meth c Q x nL a b o cells slots (pc + 3) (v0 :: v1 :: v2 :: v3 :: v4 :: some (.int v) :: rl) st) : VV p l e R s m args below meth c Q x nL a b o cells slots pc (v0 :: v1 :: v2 :: v3 :: v4 :: some (.int y) :: rl) st := V_iinc_g C hd (by rfl) hv hn kk
theorem V_istore_6 (C : CX p l s m meth c x cc own nL) {v0 : Option Value} {v1 : Option Value} {v2 : Option Value} {v3 : Option Value} {v4 : Option Value} {v5 : Option Value} {v6 : Option Value} {rl : List (Option Value)} {y : Int32} (hd : decode cc pc = .ok (.istore 6, 2)) (hn : 6 < nL) (kk : VV p l e R s m args below meth c Q x nL a b o cells slots (pc + 2) (v0 :: v1 :: v2 :: v3 :: v4 :: v5 :: some (.int y) :: rl) st) : VV p l e R s m args below meth c Q x nL a b o cells slots pc (v0 :: v1 :: v2 :: v3 :: v4 :: v5 :: v6 :: rl) (.int y :: st) := V_istore_g C hd hn kk
theorem V_astore_6 (C : CX p l s m meth c x cc own nL) {v0 : Option Value} {v1 : Option Value} {v2 : Option Value} {v3 : Option Value} {v4 : Option Value} {v5 : Option Value} {v6 : Option Value} {rl : List (Option Value)} {y : Nat} (hd : decode cc pc = .ok (.astore 6, 2)) (hn : 6 < nL) (kk : VV p l e R s m args below meth c Q x nL a b o cells slots (pc + 2) (v0 :: v1 :: v2 :: v3 :: v4 :: v5 :: some (.ref y) :: rl) st) : VV p l e R s m args below meth c Q x nL a b o cells slots pc (v0 :: v1 :: v2 :: v3 :: v4 :: v5 :: v6 :: rl) (.ref y :: st) := V_astore_g C hd hn kk
theorem V_iinc_6 (C : CX p l s m meth c x cc own nL) {v0 : Option Value} {v1 : Option Value} {v2 : Option Value} {v3 : Option Value} {v4 : Option Value} {v5 : Option Value} {rl : List (Option Value)} {n : Int} {y : Int32} (v : Int32) (hd : decode cc pc = .ok (.iinc 6 n, 3)) (hv : y + Int32.ofInt n = v) (hn : 6 < nL) (kk : VV p l e R s m args below meth c Q x nL a b o cells slots (pc + 3) (v0 :: v1 :: v2 :: v3 :: v4 :: v5 :: some (.int v) :: rl) st) : VV p l e R s m args below meth c Q x nL a b o cells slots pc (v0 :: v1 :: v2 :: v3 :: v4 :: v5 :: some (.int y) :: rl) st := V_iinc_g C hd (by rfl) hv hn kk
theorem V_istore_7 (C : CX p l s m meth c x cc own nL) {v0 : Option Value} {v1 : Option Value} {v2 : Option Value} {v3 : Option Value} {v4 : Option Value} {v5 : Option Value} {v6 : Option Value} {v7 : Option Value} {rl : List (Option Value)} {y : Int32} (hd : decode cc pc = .ok (.istore 7, 2)) (hn : 7 < nL) (kk : VV p l e R s m args below meth c Q x nL a b o cells slots (pc + 2) (v0 :: v1 :: v2 :: v3 :: v4 :: v5 :: v6 :: some (.int y) :: rl) st) : VV p l e R s m args below meth c Q x nL a b o cells slots pc (v0 :: v1 :: v2 :: v3 :: v4 :: v5 :: v6 :: v7 :: rl) (.int y :: st) := V_istore_g C hd hn kk
theorem V_astore_7 (C : CX p l s m meth c x cc own nL) {v0 : Option Value} {v1 : Option Value} {v2 : Option Value} {v3 : Option Value} {v4 : Option Value} {v5 : Option Value} {v6 : Option Value} {v7 : Option Value} {rl : List (Option Value)} {y : Nat} (hd : decode cc pc = .ok (.astore 7, 2)) (hn : 7 < nL) (kk : VV p l e R s m args below meth c Q x nL a b o cells slots (pc + 2) (v0 :: v1 :: v2 :: v3 :: v4 :: v5 :: v6 :: some (.ref y) :: rl) st) : VV p l e R s m args below meth c Q x nL a b o cells slots pc (v0 :: v1 :: v2 :: v3 :: v4 :: v5 :: v6 :: v7 :: rl) (.ref y :: st) := V_astore_g C hd hn kk
theorem V_iinc_7 (C : CX p l s m meth c x cc own nL) {v0 : Option Value} {v1 : Option Value} {v2 : Option Value} {v3 : Option Value} {v4 : Option Value} {v5 : Option Value} {v6 : Option Value} {rl : List (Option Value)} {n : Int} {y : Int32} (v : Int32) (hd : decode cc pc = .ok (.iinc 7 n, 3)) (hv : y + Int32.ofInt n = v) (hn : 7 < nL) (kk : VV p l e R s m args below meth c Q x nL a b o cells slots (pc + 3) (v0 :: v1 :: v2 :: v3 :: v4 :: v5 :: v6 :: some (.int v) :: rl) st) : VV p l e R s m args below meth c Q x nL a b o cells slots pc (v0 :: v1 :: v2 :: v3 :: v4 :: v5 :: v6 :: some (.int y) :: rl) st := V_iinc_g C hd (by rfl) hv hn kk
theorem V_istore_8 (C : CX p l s m meth c x cc own nL) {v0 : Option Value} {v1 : Option Value} {v2 : Option Value} {v3 : Option Value} {v4 : Option Value} {v5 : Option Value} {v6 : Option Value} {v7 : Option Value} {v8 : Option Value} {rl : List (Option Value)} {y : Int32} (hd : decode cc pc = .ok (.istore 8, 2)) (hn : 8 < nL) (kk : VV p l e R s m args below meth c Q x nL a b o cells slots (pc + 2) (v0 :: v1 :: v2 :: v3 :: v4 :: v5 :: v6 :: v7 :: some (.int y) :: rl) st) : VV p l e R s m args below meth c Q x nL a b o cells slots pc (v0 :: v1 :: v2 :: v3 :: v4 :: v5 :: v6 :: v7 :: v8 :: rl) (.int y :: st) := V_istore_g C hd hn kk
theorem V_astore_8 (C : CX p l s m meth c x cc own nL) {v0 : Option Value} {v1 : Option Value} {v2 : Option Value} {v3 : Option Value} {v4 : Option Value} {v5 : Option Value} {v6 : Option Value} {v7 : Option Value} {v8 : Option Value} {rl : List (Option Value)} {y : Nat} (hd : decode cc pc = .ok (.astore 8, 2)) (hn : 8 < nL) (kk : VV p l e R s m args below meth c Q x nL a b o cells slots (pc + 2) (v0 :: v1 :: v2 :: v3 :: v4 :: v5 :: v6 :: v7 :: some (.ref y) :: rl) st) : VV p l e R s m args below meth c Q x nL a b o cells slots pc (v0 :: v1 :: v2 :: v3 :: v4 :: v5 :: v6 :: v7 :: v8 :: rl) (.ref y :: st) := V_astore_g C hd hn kk
theorem V_iinc_8 (C : CX p l s m meth c x cc own nL) {v0 : Option Value} {v1 : Option Value} {v2 : Option Value} {v3 : Option Value} {v4 : Option Value} {v5 : Option Value} {v6 : Option Value} {v7 : Option Value} {rl : List (Option Value)} {n : Int} {y : Int32} (v : Int32) (hd : decode cc pc = .ok (.iinc 8 n, 3)) (hv : y + Int32.ofInt n = v) (hn : 8 < nL) (kk : VV p l e R s m args below meth c Q x nL a b o cells slots (pc + 3) (v0 :: v1 :: v2 :: v3 :: v4 :: v5 :: v6 :: v7 :: some (.int v) :: rl) st) : VV p l e R s m args below meth c Q x nL a b o cells slots pc (v0 :: v1 :: v2 :: v3 :: v4 :: v5 :: v6 :: v7 :: some (.int y) :: rl) st := V_iinc_g C hd (by rfl) hv hn kk
theorem V_if_eq (C : CX p l s m meth c x cc own nL) {y1 : Int32} {off : Int} (tgt : Nat) (hd : decode cc pc = .ok (.ifCond .eq off, 3)) (ht : (pc : Int) + off = (tgt : Int)) (kt : y1 = 0 → VV p l e R s m args below meth c Q x nL a b o cells slots tgt lv st) (kf : ¬ y1 = 0 → VV p l e R s m args below meth c Q x nL a b o cells slots (pc + 3) lv st) : VV p l e R s m args below meth c Q x nL a b o cells slots pc lv (.int y1 :: st) := fun H locs ls hP hS hL => lv_if_eq C.1 C.2.1 hd ht (fun h => kt h H locs ls hP hS hL) (fun h => kf h H locs ls hP hS hL)
theorem V_if_ne (C : CX p l s m meth c x cc own nL) {y1 : Int32} {off : Int} (tgt : Nat) (hd : decode cc pc = .ok (.ifCond .ne off, 3)) (ht : (pc : Int) + off = (tgt : Int)) (kt : ¬ y1 = 0 → VV p l e R s m args below meth c Q x nL a b o cells slots tgt lv st) (kf : y1 = 0 → VV p l e R s m args below meth c Q x nL a b o cells slots (pc + 3) lv st) : VV p l e R s m args below meth c Q x nL a b o cells slots pc lv (.int y1 :: st) := fun H locs ls hP hS hL => lv_if_ne C.1 C.2.1 hd ht (fun h => kt h H locs ls hP hS hL) (fun h => kf h H locs ls hP hS hL)
theorem V_if_lt (C : CX p l s m meth c x cc own nL) {y1 : Int32} {off : Int} (tgt : Nat) (hd : decode cc pc = .ok (.ifCond .lt off, 3)) (ht : (pc : Int) + off = (tgt : Int)) (kt : y1 < 0 → VV p l e R s m args below meth c Q x nL a b o cells slots tgt lv st) (kf : ¬ y1 < 0 → VV p l e R s m args below meth c Q x nL a b o cells slots (pc + 3) lv st) : VV p l e R s m args below meth c Q x nL a b o cells slots pc lv (.int y1 :: st) := fun H locs ls hP hS hL => lv_if_lt C.1 C.2.1 hd ht (fun h => kt h H locs ls hP hS hL) (fun h => kf h H locs ls hP hS hL)
theorem V_if_ge (C : CX p l s m meth c x cc own nL) {y1 : Int32} {off : Int} (tgt : Nat) (hd : decode cc pc = .ok (.ifCond .ge off, 3)) (ht : (pc : Int) + off = (tgt : Int)) (kt : 0 ≤ y1 → VV p l e R s m args below meth c Q x nL a b o cells slots tgt lv st) (kf : ¬ 0 ≤ y1 → VV p l e R s m args below meth c Q x nL a b o cells slots (pc + 3) lv st) : VV p l e R s m args below meth c Q x nL a b o cells slots pc lv (.int y1 :: st) := fun H locs ls hP hS hL => lv_if_ge C.1 C.2.1 hd ht (fun h => kt h H locs ls hP hS hL) (fun h => kf h H locs ls hP hS hL)
theorem V_if_gt (C : CX p l s m meth c x cc own nL) {y1 : Int32} {off : Int} (tgt : Nat) (hd : decode cc pc = .ok (.ifCond .gt off, 3)) (ht : (pc : Int) + off = (tgt : Int)) (kt : 0 < y1 → VV p l e R s m args below meth c Q x nL a b o cells slots tgt lv st) (kf : ¬ 0 < y1 → VV p l e R s m args below meth c Q x nL a b o cells slots (pc + 3) lv st) : VV p l e R s m args below meth c Q x nL a b o cells slots pc lv (.int y1 :: st) := fun H locs ls hP hS hL => lv_if_gt C.1 C.2.1 hd ht (fun h => kt h H locs ls hP hS hL) (fun h => kf h H locs ls hP hS hL)
theorem V_if_le (C : CX p l s m meth c x cc own nL) {y1 : Int32} {off : Int} (tgt : Nat) (hd : decode cc pc = .ok (.ifCond .le off, 3)) (ht : (pc : Int) + off = (tgt : Int)) (kt : y1 ≤ 0 → VV p l e R s m args below meth c Q x nL a b o cells slots tgt lv st) (kf : ¬ y1 ≤ 0 → VV p l e R s m args below meth c Q x nL a b o cells slots (pc + 3) lv st) : VV p l e R s m args below meth c Q x nL a b o cells slots pc lv (.int y1 :: st) := fun H locs ls hP hS hL => lv_if_le C.1 C.2.1 hd ht (fun h => kt h H locs ls hP hS hL) (fun h => kf h H locs ls hP hS hL)
theorem V_icmp_eq (C : CX p l s m meth c x cc own nL) {y1 y2 : Int32} {off : Int} (tgt : Nat) (hd : decode cc pc = .ok (.if_icmp .eq off, 3)) (ht : (pc : Int) + off = (tgt : Int)) (kt : y1 = y2 → VV p l e R s m args below meth c Q x nL a b o cells slots tgt lv st) (kf : ¬ y1 = y2 → VV p l e R s m args below meth c Q x nL a b o cells slots (pc + 3) lv st) : VV p l e R s m args below meth c Q x nL a b o cells slots pc lv (.int y2 :: .int y1 :: st) := fun H locs ls hP hS hL => lv_icmp_eq C.1 C.2.1 hd ht (fun h => kt h H locs ls hP hS hL) (fun h => kf h H locs ls hP hS hL)
theorem V_icmp_ne (C : CX p l s m meth c x cc own nL) {y1 y2 : Int32} {off : Int} (tgt : Nat) (hd : decode cc pc = .ok (.if_icmp .ne off, 3)) (ht : (pc : Int) + off = (tgt : Int)) (kt : ¬ y1 = y2 → VV p l e R s m args below meth c Q x nL a b o cells slots tgt lv st) (kf : y1 = y2 → VV p l e R s m args below meth c Q x nL a b o cells slots (pc + 3) lv st) : VV p l e R s m args below meth c Q x nL a b o cells slots pc lv (.int y2 :: .int y1 :: st) := fun H locs ls hP hS hL => lv_icmp_ne C.1 C.2.1 hd ht (fun h => kt h H locs ls hP hS hL) (fun h => kf h H locs ls hP hS hL)
theorem V_icmp_lt (C : CX p l s m meth c x cc own nL) {y1 y2 : Int32} {off : Int} (tgt : Nat) (hd : decode cc pc = .ok (.if_icmp .lt off, 3)) (ht : (pc : Int) + off = (tgt : Int)) (kt : y1 < y2 → VV p l e R s m args below meth c Q x nL a b o cells slots tgt lv st) (kf : ¬ y1 < y2 → VV p l e R s m args below meth c Q x nL a b o cells slots (pc + 3) lv st) : VV p l e R s m args below meth c Q x nL a b o cells slots pc lv (.int y2 :: .int y1 :: st) := fun H locs ls hP hS hL => lv_icmp_lt C.1 C.2.1 hd ht (fun h => kt h H locs ls hP hS hL) (fun h => kf h H locs ls hP hS hL)
theorem V_icmp_ge (C : CX p l s m meth c x cc own nL) {y1 y2 : Int32} {off : Int} (tgt : Nat) (hd : decode cc pc = .ok (.if_icmp .ge off, 3)) (ht : (pc : Int) + off = (tgt : Int)) (kt : y2 ≤ y1 → VV p l e R s m args below meth c Q x nL a b o cells slots tgt lv st) (kf : ¬ y2 ≤ y1 → VV p l e R s m args below meth c Q x nL a b o cells slots (pc + 3) lv st) : VV p l e R s m args below meth c Q x nL a b o cells slots pc lv (.int y2 :: .int y1 :: st) := fun H locs ls hP hS hL => lv_icmp_ge C.1 C.2.1 hd ht (fun h => kt h H locs ls hP hS hL) (fun h => kf h H locs ls hP hS hL)
theorem V_icmp_gt (C : CX p l s m meth c x cc own nL) {y1 y2 : Int32} {off : Int} (tgt : Nat) (hd : decode cc pc = .ok (.if_icmp .gt off, 3)) (ht : (pc : Int) + off = (tgt : Int)) (kt : y2 < y1 → VV p l e R s m args below meth c Q x nL a b o cells slots tgt lv st) (kf : ¬ y2 < y1 → VV p l e R s m args below meth c Q x nL a b o cells slots (pc + 3) lv st) : VV p l e R s m args below meth c Q x nL a b o cells slots pc lv (.int y2 :: .int y1 :: st) := fun H locs ls hP hS hL => lv_icmp_gt C.1 C.2.1 hd ht (fun h => kt h H locs ls hP hS hL) (fun h => kf h H locs ls hP hS hL)
theorem V_icmp_le (C : CX p l s m meth c x cc own nL) {y1 y2 : Int32} {off : Int} (tgt : Nat) (hd : decode cc pc = .ok (.if_icmp .le off, 3)) (ht : (pc : Int) + off = (tgt : Int)) (kt : y1 ≤ y2 → VV p l e R s m args below meth c Q x nL a b o cells slots tgt lv st) (kf : ¬ y1 ≤ y2 → VV p l e R s m args below meth c Q x nL a b o cells slots (pc + 3) lv st) : VV p l e R s m args below meth c Q x nL a b o cells slots pc lv (.int y2 :: .int y1 :: st) := fun H locs ls hP hS hL => lv_icmp_le C.1 C.2.1 hd ht (fun h => kt h H locs ls hP hS hL) (fun h => kf h H locs ls hP hS hL)
theorem V_goto (C : CX p l s m meth c x cc own nL) {off : Int} (tgt : Nat) (hd : decode cc pc = .ok (.goto off, 3)) (ht : (pc : Int) + off = (tgt : Int)) (kk : VV p l e R s m args below meth c Q x nL a b o cells slots tgt lv st) : VV p l e R s m args below meth c Q x nL a b o cells slots pc lv st := fun H locs ls hP hS hL => lv_goto C.1 C.2.1 hd ht (kk H locs ls hP hS hL)
end VVR
end
section
def FLk (own : String) (idx : Nat) (ref n d : String) : Prop := Cond.fieldLink own idx ref n d ∈ nwL ∨ ∃ host, Cond.fieldLinkNest own idx ref n d host ∈ nwL
def MIW (y : MethodName) (cc : ByteArray) (maxL : Nat) (ret : Option FieldType) (n : Nat) : Prop := Cond.instanceMethod y ∈ nwL ∧ Cond.selects y.cls y y ∈ nwL ∧ Cond.initialized y.cls ∈ nwL ∧ Cond.code y cc maxL ret ∈ nwL ∧ y.cls ≠ "java/lang/invoke/MethodHandle" ∧ y.cls ≠ "java/lang/invoke/VarHandle" ∧ (parseMethodDescriptor y.desc).map (fun d => d.parameters.length) = some n
def MSW (y : MethodName) (cc : ByteArray) (maxL : Nat) (ret : Option FieldType) (n : Nat) : Prop := Cond.static y ∈ nwL ∧ Cond.initialized y.cls ∈ nwL ∧ Cond.code y cc maxL ret ∈ nwL ∧ y.cls ≠ "java/lang/invoke/MethodHandle" ∧ y.cls ≠ "java/lang/invoke/VarHandle" ∧ (parseMethodDescriptor y.desc).map (fun d => d.parameters.length) = some n
/-- a list's word by its place -/
theorem nw_mem {w : Cond} (i : Nat) (h : lw_tbl[i]? = some w) (hg : wb_g w = true) : w ∈ nwL := List.mem_filter.mpr ⟨List.mem_of_getElem? h, hg⟩
theorem vp_in_le {i n : Nat} (h : i < n) (hn : n < 2 ^ 31) : vp_in (nI i) n := vp_in_nI h hn
theorem vp_nar_z {v : Int32} (h : v = 0 ∨ v = 1) : vp_nar .boolean v = v := by rcases h with rfl | rfl <;> rfl
section VVM
variable {p : Program} {l : Launch} {e : Env} {R : Room} {s : State} {m : MethodId} {args : Array Value} {below : List Frame} {meth : Method} {c : Code} {Q : State → Prop} {x : Sh} {nL : Nat} {a b : Mem} {o : Out} {cells slots pc : Nat} {lv : List (Option Value)} {st rest : List Value} {cc : ByteArray} {own : String}
theorem CX.hts (C : CX p l s m meth c x cc own nL) : ∀ w ∈ nwL, w.before args s = true := fun w hw => C.2.2.2.2.1.2.2.1.use hw
theorem CX.K (C : CX p l s m meth c x cc own nL) : va_K x.1 vwCl (tysx x) s := C.2.2.2.2.1.1
theorem CX.D (C : CX p l s m meth c x cc own nL) {sz : Nat} : va_D (AW x sz) (wd x a b o) := C.2.2.2.2.1.hD
theorem V_get (C : CX p l s m meth c x cc own nL) {k ci N : Nat} {Rn : String} {T : u_T} {fs : List Value} {v : Value} {idx : Nat} (hk : k < 89) (hG : GE x a b o k = .inr (ci, fs)) (hc : vwCl[ci]? = some (Rn, T, N)) (j : Nat) (hj : j < N) (hin : ∀ w ∈ u_ws Rn T N, w ∈ nwL) (hT : (T j).1 = Rn) (hl : FLk own idx Rn (T j).2.1 (T j).2.2.1) (hv : fs[j]? = some v) (hd : decode cc pc = .ok (.getfield idx, 3)) (kk : VV p l e R s m args below meth c Q x nL a b o cells slots (pc + 3) lv (v :: st)) : VV p l e R s m args below meth c Q x nL a b o cells slots pc lv (.ref (x.2.1 k) :: st) := by
  intro H locs ls hP hS hL
  have he : (wd x a b o)[k]? = some (x.2.1 k, .inr (ci, fs)) := by rw [wd_at hk, hG]
  rcases hl with h | ⟨host, h⟩
  · exact va_get C.1 C.2.1 (C.hts) hin C.2.2.2.1 C.K hP k he hc j hj (C.hts _ h) (fun y hy => by rw [hT] at hy; exact hy) hv hd (kk H locs ls hP hS hL)
  · exact va_getN C.1 C.2.1 (C.hts) hin C.2.2.2.1 C.K hP k he hc j hj (C.hts _ h) (fun y hy => by rw [hT] at hy; exact hy) hv hd (kk H locs ls hP hS hL)
theorem V_put (C : CX p l s m meth c x cc own nL) {a' b' : Mem} {k ci N : Nat} {Rn : String} {T : u_T} {fs : List Value} {v : Value} {idx : Nat} (hk : k < 89) (hG : GE x a b o k = .inr (ci, fs)) (hc : vwCl[ci]? = some (Rn, T, N)) (j : Nat) (hj : j < N) (hin : ∀ w ∈ u_ws Rn T N, w ∈ nwL) (hT : (T j).1 = Rn) (hl : FLk own idx Rn (T j).2.1 (T j).2.2.1) (ty0 : Nat → FieldType) (hty : ∀ k, k < N → parseFieldDescriptor (T k).2.2.1 = some (ty0 k)) (hnm : ∀ a, a < N → ∀ b, b < N → a ≠ b → (T a).2.1 ≠ (T b).2.1) (hfin : (T j).2.2.2 = false) {ty : FieldType} (hpd : parseFieldDescriptor (T j).2.2.1 = some ty) (hn : narrow ty v = v) (hfit : fits ty v = true) (hfl : j < fs.length)
    (hs : (wd x a b o).set k (x.2.1 k, .inr (ci, fs.set j v)) = wd x a' b' o) (hd : decode cc pc = .ok (.putfield idx, 3)) (kk : VV p l e R s m args below meth c Q x nL a' b' o cells slots (pc + 3) lv st) : VV p l e R s m args below meth c Q x nL a b o cells slots pc lv (v :: .ref (x.2.1 k) :: st) := by
  intro H locs ls hP hS hL
  have he : (wd x a b o)[k]? = some (x.2.1 k, .inr (ci, fs)) := by rw [wd_at hk, hG]
  rcases hl with h | ⟨host, h⟩
  · exact va_put C.1 C.2.1 (C.hts) hin ty0 hty hnm C.2.2.2.1 C.K hP C.D hS k he hc j hj (C.hts _ h) (fun y hy => by rw [hT] at hy; exact hy) hfin hpd hn hfit hfl hd (fun H1 locs1 hP1 _ hS1 => kk H1 locs1 ls (by rw [hs] at hP1; exact hP1) hS1 hL)
  · exact va_putN C.1 C.2.1 (C.hts) hin ty0 hty hnm C.2.2.2.1 C.K hP C.D hS k he hc j hj (C.hts _ h) (fun y hy => by rw [hT] at hy; exact hy) hfin hpd hn hfit hfl hd (fun H1 locs1 hP1 _ hS1 => kk H1 locs1 ls (by rw [hs] at hP1; exact hP1) hS1 hL)
theorem V_iald (C : CX p l s m meth c x cc own nL) {k n : Nat} {f : Nat → Int32} {iv : Int32} (hk : k < 89) (hG : GE x a b o k = GA x 0 n f) (i : Nat) (hi : i < n) (hn : n < 2 ^ 31) (he : iv = nI i) (hd : decode cc pc = .ok (.iaload, 1)) (kk : VV p l e R s m args below meth c Q x nL a b o cells slots (pc + 1) lv (.int (f i) :: st)) : VV p l e R s m args below meth c Q x nL a b o cells slots pc lv (.int iv :: .ref (x.2.1 k) :: st) := by
  intro H locs ls hP hS hL
  subst he
  have ha : (wd x a b o)[k]? = some (x.2.1 k, .inl (x.2.2 0, n, .inl f)) := by rw [wd_at hk, hG]; rfl
  refine va_iald C.1 C.2.1 C.K hP k 0 ha rfl (vp_in_le hi hn) hd ?_
  rw [nI_clamp (by omega)]
  exact kk H locs ls hP hS hL
theorem V_zald (C : CX p l s m meth c x cc own nL) {k n : Nat} {f : Nat → Int32} {iv : Int32} (hk : k < 89) (hG : GE x a b o k = GA x 1 n f) (i : Nat) (hi : i < n) (hn : n < 2 ^ 31) (he : iv = nI i) (hd : decode cc pc = .ok (.baload, 1)) (kk : VV p l e R s m args below meth c Q x nL a b o cells slots (pc + 1) lv (.int (f i) :: st)) : VV p l e R s m args below meth c Q x nL a b o cells slots pc lv (.int iv :: .ref (x.2.1 k) :: st) := by
  intro H locs ls hP hS hL
  subst he
  have ha : (wd x a b o)[k]? = some (x.2.1 k, .inl (x.2.2 1, n, .inl f)) := by rw [wd_at hk, hG]; rfl
  refine va_zald C.1 C.2.1 C.K hP k 1 ha rfl (vp_in_le hi hn) hd ?_
  rw [nI_clamp (by omega)]
  exact kk H locs ls hP hS hL
theorem V_iast (C : CX p l s m meth c x cc own nL) {a' b' : Mem} {k n : Nat} {f : Nat → Int32} {iv v : Int32} (hk : k < 89) (hG : GE x a b o k = GA x 0 n f) (i : Nat) (hi : i < n) (hn : n < 2 ^ 31) (he : iv = nI i) (hs : (wd x a b o).set k (x.2.1 k, GA x 0 n (upd f i v)) = wd x a' b' o) (hd : decode cc pc = .ok (.iastore, 1)) (kk : VV p l e R s m args below meth c Q x nL a' b' o cells slots (pc + 1) lv st) : VV p l e R s m args below meth c Q x nL a b o cells slots pc lv (.int v :: .int iv :: .ref (x.2.1 k) :: st) := by
  intro H locs ls hP hS hL
  subst he
  have ha : (wd x a b o)[k]? = some (x.2.1 k, .inl (x.2.2 0, n, .inl f)) := by rw [wd_at hk, hG]; rfl
  refine va_iast C.1 C.2.1 C.K hP C.D hS k 0 ha rfl (vp_in_le hi hn) hd (fun H1 locs1 hP1 _ hS1 => ?_)
  rw [nI_clamp (by omega)] at hP1
  have hs' : (wd x a b o).set k (x.2.1 k, .inl (x.2.2 0, n, .inl (upd f i v))) = wd x a' b' o := hs
  rw [hs'] at hP1
  exact kk H1 locs1 ls hP1 hS1 hL
theorem V_zast (C : CX p l s m meth c x cc own nL) {a' b' : Mem} {k n : Nat} {f : Nat → Int32} {iv v : Int32} (hk : k < 89) (hG : GE x a b o k = GA x 1 n f) (i : Nat) (hi : i < n) (hn : n < 2 ^ 31) (he : iv = nI i) (hv : v = 0 ∨ v = 1) (hs : (wd x a b o).set k (x.2.1 k, GA x 1 n (upd f i v)) = wd x a' b' o) (hd : decode cc pc = .ok (.bastore, 1)) (kk : VV p l e R s m args below meth c Q x nL a' b' o cells slots (pc + 1) lv st) : VV p l e R s m args below meth c Q x nL a b o cells slots pc lv (.int v :: .int iv :: .ref (x.2.1 k) :: st) := by
  intro H locs ls hP hS hL
  subst he
  have ha : (wd x a b o)[k]? = some (x.2.1 k, .inl (x.2.2 1, n, .inl f)) := by rw [wd_at hk, hG]; rfl
  refine va_zast C.1 C.2.1 C.K hP C.D hS k 1 ha rfl (vp_in_le hi hn) hd (fun H1 locs1 hP1 _ hS1 => ?_)
  rw [nI_clamp (by omega), vp_nar_z hv] at hP1
  have hs' : (wd x a b o).set k (x.2.1 k, .inl (x.2.2 1, n, .inl (upd f i v))) = wd x a' b' o := hs
  rw [hs'] at hP1
  exact kk H1 locs1 ls hP1 hS1 hL
theorem V_aald (C : CX p l s m meth c x cc own nL) {k n : Nat} {g : Nat → Nat} {iv : Int32} (hk : k < 89) (hG : GE x a b o k = GR x 2 n g) (i : Nat) (hi : i < n) (hn : n < 2 ^ 31) (he : iv = nI i) (hd : decode cc pc = .ok (.aaload, 1)) (kk : VV p l e R s m args below meth c Q x nL a b o cells slots (pc + 1) lv (.ref (x.2.1 (g i)) :: st)) : VV p l e R s m args below meth c Q x nL a b o cells slots pc lv (.int iv :: .ref (x.2.1 k) :: st) := by
  intro H locs ls hP hS hL
  subst he
  have ha : (wd x a b o)[k]? = some (x.2.1 k, .inl (x.2.2 2, n, .inr (.inr (.inr (.inr (fun i => if i < n then some (x.2.1 (g i)) else none)))))) := by rw [wd_at hk, hG]; rfl
  refine va_aldq C.1 C.2.1 C.K hP k 2 ha rfl (vp_in_le hi hn) hd ?_
  rw [nI_clamp (by omega), if_pos hi]
  exact kk H locs ls hP hS hL
theorem V_aald2 (C : CX p l s m meth c x cc own nL) {k n : Nat} {g : Nat → Nat} {iv : Int32} (hk : k < 89) (hG : GE x a b o k = GR x 3 n g) (i : Nat) (hi : i < n) (hn : n < 2 ^ 31) (he : iv = nI i) (hd : decode cc pc = .ok (.aaload, 1)) (kk : VV p l e R s m args below meth c Q x nL a b o cells slots (pc + 1) lv (.ref (x.2.1 (g i)) :: st)) : VV p l e R s m args below meth c Q x nL a b o cells slots pc lv (.int iv :: .ref (x.2.1 k) :: st) := by
  intro H locs ls hP hS hL
  subst he
  have ha : (wd x a b o)[k]? = some (x.2.1 k, .inl (x.2.2 3, n, .inr (.inr (.inr (.inr (fun i => if i < n then some (x.2.1 (g i)) else none)))))) := by rw [wd_at hk, hG]; rfl
  have hin := vp_in_le hi hn
  have hlt : (nI i).toNatClampNeg < n := Nat.not_le.mp fun q => hin (Or.inr q)
  refine W.aald (v := va_rf ((fun i => if i < n then some (x.2.1 (g i)) else none) (nI i).toNatClampNeg)) (ty := .array .int) C.1 C.2.1 (hP k _ ha) ((C.K.2 3 _ rfl).1 n (fun j => va_rf (if j < n then some (x.2.1 (g j)) else none))) rfl (fun q => by cases q) (by show ¬ (nI i < 0 ∨ (arrV _ _ _).slots.size ≤ _); rw [arrV_size]; exact hin) (by show (arrV _ _ _).slots[_]? = _; rw [arrV_read _ _ hlt]) rfl rfl hd ?_
  rw [nI_clamp (by omega)]
  dsimp only
  rw [if_pos hi]
  exact kk H locs ls hP hS hL
/-! ends -/
def QI (x : Sh) (o : Out) (Φ : Int32 → Mem → Mem → Prop) (sz : Nat) : Array Value → State → Outcome → State → Prop := va_Qi (S := Mem × Mem) (fun r u => Φ r u.1 u.2) (fun u t => va_P x.1 vwCl (wd x u.1 u.2 o) t.heap) (AW x sz)
def QV (x : Sh) (o : Out) (Φ : Mem → Mem → Prop) (sz : Nat) : Array Value → State → Outcome → State → Prop := va_Qv (S := Mem × Mem) (fun u => Φ u.1 u.2) (fun u t => va_P x.1 vwCl (wd x u.1 u.2 o) t.heap) (AW x sz)
/-- an answer that is one of the offers -/
def QR (x : Sh) (o : Out) (Φ : Nat → Mem → Mem → Prop) (sz : Nat) : Array Value → State → Outcome → State → Prop := va_Qr (S := Nat × Mem × Mem) (fun u => Φ u.1 u.2.1 u.2.2) (fun u q t => q = x.2.1 u.1 ∧ va_P x.1 vwCl (wd x u.2.1 u.2.2 o) t.heap) (AW x sz)
theorem V_ireti (C : CX p l s m meth c x cc own nL) {Φ : Int32 → Mem → Mem → Prop} {v : Int32} (hr : meth.sig.returnType = some .int) (hd : decode cc pc = .ok (.ireturn, 1)) (h : Φ v a b) : VV p l e R s m args below meth c (MQ below (QI x o Φ s.heap.size) args s cells slots (AW x s.heap.size)) x nL a b o cells slots pc lv [.int v] :=
  fun H locs ls hP hS hL => W.iret C.1 C.2.1 hr (fun t ht hW => ⟨⟨v, (a, b), rfl, h, by show va_P _ _ _ t.heap; rw [ht]; exact hP⟩, hS.F ht⟩) hS.2.2 hd C.2.2.2.2.2.1
theorem V_iretz (C : CX p l s m meth c x cc own nL) {Φ : Int32 → Mem → Mem → Prop} {v : Int32} (hr : meth.sig.returnType = some .boolean) (hz : v = 0 ∨ v = 1) (hd : decode cc pc = .ok (.ireturn, 1)) (h : Φ v a b) : VV p l e R s m args below meth c (MQ below (QI x o Φ s.heap.size) args s cells slots (AW x s.heap.size)) x nL a b o cells slots pc lv [.int v] :=
  fun H locs ls hP hS hL => W.zret C.1 C.2.1 hr (by rcases hz with rfl | rfl <;> rfl) (fun t ht hW => ⟨⟨v, (a, b), rfl, h, by show va_P _ _ _ t.heap; rw [ht]; exact hP⟩, hS.F ht⟩) hS.2.2 hd C.2.2.2.2.2.1
theorem V_vret (C : CX p l s m meth c x cc own nL) {Φ : Mem → Mem → Prop} (hr : meth.sig.returnType = none) (hd : decode cc pc = .ok (.return_, 1)) (h : Φ a b) : VV p l e R s m args below meth c (MQ below (QV x o Φ s.heap.size) args s cells slots (AW x s.heap.size)) x nL a b o cells slots pc lv [] :=
  fun H locs ls hP hS hL => W.vret C.1 C.2.1 hr (fun t ht hW => ⟨⟨(a, b), rfl, h, by show va_P _ _ _ t.heap; rw [ht]; exact hP⟩, hS.F ht⟩) hS.2.2 hd C.2.2.2.2.2.1
theorem V_aret (C : CX p l s m meth c x cc own nL) {Φ : Nat → Mem → Mem → Prop} {k : Nat} {nm : String} (hr : meth.sig.returnType = some (.object nm)) (hd : decode cc pc = .ok (.areturn, 1)) (h : Φ k a b) : VV p l e R s m args below meth c (MQ below (QR x o Φ s.heap.size) args s cells slots (AW x s.heap.size)) x nL a b o cells slots pc lv [.ref (x.2.1 k)] :=
  fun H locs ls hP hS hL => W.aret C.1 C.2.1 hr (Or.inl ⟨nm, rfl⟩) (Or.inr ⟨_, rfl⟩) (fun t ht hW => ⟨⟨(k, a, b), x.2.1 k, rfl, h, rfl, by show va_P _ _ _ t.heap; rw [ht]; exact hP⟩, hS.F ht⟩) hS.2.2 hd C.2.2.2.2.2.1
/-! contracts -/
def MG (l : Launch) (x : Sh) (y : MethodName) (cc : ByteArray) (maxL : Nat) (ret : Option FieldType) (fr lo : Nat) (As : List Value) (a b : Mem) (o : Out) (Qf : Nat → Array Value → State → Outcome → State → Prop) : Prop :=
  ∀ sz, Met l y [Cond.code y cc maxL ret] ({ frames := fr, cells := 0, slots := 0, locals := lo }) (va_Pc As (Pre x a b o sz)) (Qf sz) 0 0 (AW x sz)
/-- a thrown exception changes nothing of the world -/
def XCd (ΦX : String → Prop) (x : Sh) (a b : Mem) (o : Out) (sz : Nat) : String → State → State → Prop := vx_X (S := Unit) (fun _ => True) (fun E _ t => ΦX E ∧ va_P x.1 vwCl (wd x a b o) t.heap) (AW x sz)
def XG (l : Launch) (x : Sh) (y : MethodName) (cc : ByteArray) (maxL : Nat) (ret : Option FieldType) (fr lo mc ms : Nat) (As : List Value) (a b : Mem) (o : Out) (Qf : Nat → Array Value → State → Outcome → State → Prop) (ΦX : String → Prop) : Prop :=
  ∀ sz, vx_Met l y [Cond.code y cc maxL ret] ({ frames := fr, cells := mc, slots := ms, locals := lo }) (va_Pc As (Pre x a b o sz)) (Qf sz) (XCd ΦX x a b o sz) mc ms (AW x sz)
theorem lv_args_at {As : List Value} (h : As.all (fun v => v.category == 1) = true) : ∀ (n i : Nat) (v : Value), As[i]? = some v → (n + i, v) ∈ lv_args n As ∧ v.category = 1 := by
  induction As with
  | nil => intro n i v hi; simp at hi
  | cons w As ih =>
    intro n i v hi
    simp only [List.all_cons, Bool.and_eq_true, beq_iff_eq] at h
    cases i with
    | zero =>
      have e : w = v := by simpa using hi
      subst e
      exact ⟨List.mem_cons_self, h.1⟩
    | succ i =>
      have := ih h.2 (n + 1) i v (by simpa using hi)
      refine ⟨?_, this.2⟩
      unfold lv_args
      rw [if_neg (by omega)]
      refine List.mem_cons_of_mem _ ?_
      rw [show n + (i + 1) = n + 1 + i by omega]
      exact this.1
theorem LV.entry {As : List Value} {n : Nat} (h : As.all (fun v => v.category == 1) = true) (hn : As.length ≤ n) : LV n ((lg_sl As ++ List.replicate (n - (lg_sl As).length) Slot.unset).toArray) (As.map some ++ List.replicate (n - As.length) none) := by
  have hlen : (lg_sl As).length = As.length := by
    have key : ∀ As : List Value, As.all (fun v => v.category == 1) = true → (lg_sl As).length = As.length := by
      intro As
      induction As with
      | nil => intro _; rfl
      | cons w As ih =>
        intro h
        simp only [List.all_cons, Bool.and_eq_true, beq_iff_eq] at h
        have := ih h.2
        simp only [lg_sl, List.flatMap_cons, List.length_append, List.length_cons] at this ⊢
        rw [if_neg (by omega)]
        simp only [List.length_cons, List.length_nil]
        omega
    exact key As h
  have h0 := lv_entry As (n := n) (by rw [hlen]; exact hn)
  refine ⟨h0.1, h0.2.1, by simp; omega, fun i v hi => ?_⟩
  have hv : As[i]? = some v := by
    by_cases hl : i < As.length
    · rw [List.getElem?_append_left (by simpa using hl)] at hi
      simp only [List.getElem?_map] at hi
      cases hx : As[i]? with
      | none => rw [hx] at hi; cases hi
      | some w => rw [hx] at hi; simpa using hi
    · rw [List.getElem?_append_right (by simp; omega)] at hi
      have := List.mem_of_getElem? hi
      simp at this
  have := lv_args_at h 0 i v hv
  rw [Nat.zero_add] at this
  exact ⟨h0.2.2 (i, v) this.1, this.2⟩
theorem MG.of {y : MethodName} {maxL : Nat} {ret : Option FieldType} {fr lo : Nat} {As : List Value} {Qf : Nat → Array Value → State → Outcome → State → Prop} (hl : l.stackTraces = false) (hy : plainName y.cls = true) (lv : List (Option Value)) (hlv : As.map some ++ List.replicate (maxL - As.length) none = lv) (hcat : As.all (fun v => v.category == 1) = true) (hlen : As.length ≤ maxL)
    (body : ∀ (p : Program) (e : Env) (s : State) (m : MethodId) (args : Array Value) (below : List Frame) (meth : Method) (c : Code), CX p l s m meth c x cc y.cls maxL → meth.sig.returnType = ret → VV p l e ({ frames := fr, cells := 0, slots := 0, locals := lo }) s m args below meth c (MQ below (Qf s.heap.size) args s 0 0 (AW x s.heap.size)) x maxL a b o 0 0 0 lv []) : MG l x y cc maxL ret fr lo As a b o Qf := by
  intro sz
  refine Met.ofW (cc := cc) (maxL := maxL) (ret := ret) hy rfl ?_
  intro p e s m args below meth c s₁ B hml hv
  obtain ⟨rfl, rfl, hP, hK⟩ := hv
  have hown : s.vm.findClass y.cls = some m.cls := findClass_of_methodNamed B.named
  rw [lg_entry_eq]
  have hL := LV.entry (n := maxL) hcat hlen
  rw [hlv] at hL
  exact body p e s m As.toArray below meth c ⟨B.exec, B.bytes, hml, hown, hK, B.notSynchronized, hl⟩ B.returns s.heap [] _ hP va_S.rf hL
theorem XG.of {y : MethodName} {maxL : Nat} {ret : Option FieldType} {fr lo mc ms : Nat} {As : List Value} {Qf : Nat → Array Value → State → Outcome → State → Prop} {ΦX : String → Prop} (hl : l.stackTraces = false) (hy : plainName y.cls = true) (lv : List (Option Value)) (hlv : As.map some ++ List.replicate (maxL - As.length) none = lv) (hcat : As.all (fun v => v.category == 1) = true) (hlen : As.length ≤ maxL)
    (body : ∀ (p : Program) (e : Env) (s : State) (m : MethodId) (args : Array Value) (below : List Frame) (meth : Method) (c : Code), CX p l s m meth c x cc y.cls maxL → meth.sig.returnType = ret → (∀ z ∈ c.exceptionTable.toList, False) → VV p l e ({ frames := fr, cells := mc, slots := ms, locals := lo }) s m args below meth c (vx_MQ below (Qf s.heap.size) (XCd ΦX x a b o s.heap.size) args s mc ms (AW x s.heap.size)) x maxL a b o 0 0 0 lv []) : XG l x y cc maxL ret fr lo mc ms As a b o Qf ΦX := by
  intro sz
  refine vx_ofW (cc := cc) (maxL := maxL) (ret := ret) hy rfl ?_
  intro p e s m args below meth c s₁ B hml ht hv
  obtain ⟨rfl, rfl, hP, hK⟩ := hv
  have hown : s.vm.findClass y.cls = some m.cls := findClass_of_methodNamed B.named
  rw [lg_entry_eq]
  have hL := LV.entry (n := maxL) hcat hlen
  rw [hlv] at hL
  exact body p e s m As.toArray below meth c ⟨B.exec, B.bytes, hml, hown, hK, B.notSynchronized, hl⟩ B.returns ht s.heap [] _ hP va_S.rf hL
/-- an end of a method that may throw, where it returns -/
theorem V_xret {Qc : Array Value → State → Outcome → State → Prop} {XC : String → State → State → Prop} {mc ms : Nat} {free : Addr → Prop} (h1 : cells ≤ mc) (h2 : slots ≤ ms) (k : VV p l e R s m args below meth c (MQ below Qc args s mc ms free) x nL a b o mc ms pc lv st) : VV p l e R s m args below meth c (vx_MQ below Qc XC args s mc ms free) x nL a b o cells slots pc lv st :=
  fun H locs ls hP hS hL => W.widen h1 h2 (vx_ret (k H locs ls hP hS hL))
/-! calls -/
theorem CX.fix (C : CX p l s m meth c x cc own nL) : CallFix p m c cc nL s args nwL own := ⟨C.1, C.2.1, C.2.2.1, C.2.2.2.1, C.hts⟩
theorem CX.pre (C : CX p l s m meth c x cc own nL) {H : Heap} {locs : List Loc} {As : List Value} (hP : va_P x.1 vwCl (wd x a b o) H) (hS : va_S (AW x s.heap.size) s.heap H locs) : ∀ U : State, U.heap = H → s.WarmedH U.vm → va_Pc As (Pre x a b o H.size) As.toArray U := by
  intro U hU hW
  refine ⟨rfl, by rw [hU], by rw [hU]; exact hP, ?_⟩
  have h := C.2.2.2.2.1.call hS hW
  rw [hU]
  exact h
/-- a call's run out of any start of the world -/
def RUN (p : Program) (l : Launch) (e : Env) (R : Room) (s : State) (m : MethodId) (args : Array Value) (below : List Frame) (meth : Method) (c : Code) (x : Sh) (nL : Nat) (a b : Mem) (o : Out) (cells slots pc : Nat) (st rest : List Value) (Qf : Nat → Array Value → State → Outcome → State → Prop) (As : List Value) : Prop :=
  ∀ (H : Heap) (locs : List Loc) (ls : Array Slot), va_P x.1 vwCl (wd x a b o) H → va_S (AW x s.heap.size) s.heap H locs → ls.size = nL → va_Run p l e R s m args below meth c H locs cells slots 0 0 (F0 m pc ls st) rest (Qf H.size As.toArray) (AW x H.size)
def RUNX (p : Program) (l : Launch) (e : Env) (R : Room) (s : State) (m : MethodId) (args : Array Value) (below : List Frame) (meth : Method) (c : Code) (x : Sh) (nL : Nat) (a b : Mem) (o : Out) (cells slots pc mc ms : Nat) (st rest : List Value) (Qf : Nat → Array Value → State → Outcome → State → Prop) (ΦX : String → Prop) (As : List Value) : Prop :=
  ∀ (H : Heap) (locs : List Loc) (ls : Array Slot), va_P x.1 vwCl (wd x a b o) H → va_S (AW x s.heap.size) s.heap H locs → ls.size = nL → vx_Run p l e R s m args below meth c H locs cells slots mc ms (F0 m pc ls st) rest (Qf H.size As.toArray) (XCd ΦX x a b o H.size) (AW x H.size)
variable {y : MethodName} {cc' : ByteArray} {maxL' n fr lo mc ms k ci N idx : Nat} {ret' : Option FieldType} {As : List Value} {Qf : Nat → Array Value → State → Outcome → State → Prop} {ΦX : String → Prop} {T : u_T} {fs : List Value}
theorem cwVm (hw : MIW y cc' maxL' ret' n) (hts : ∀ w ∈ nwL, w.before args s = true) (hlk : Cond.methodLink own idx y ∈ nwL) (hR : fr + 1 ≤ R.frames ∧ 8 + (maxL' + 11) + lo ≤ R.locals) : CallW R s args own y.cls idx y cc' maxL' ret' [Cond.code y cc' maxL' ret'] ({ frames := fr, cells := mc, slots := ms, locals := lo }) mc ms n := by
  obtain ⟨h1, h2, h3, h4, h5, h6, h7⟩ := hw
  refine cwV n hts (fun w hw => ?_) rfl rfl rfl ⟨rfl, h5, h6, h7⟩ hR
  simp only [wsV, List.cons_append, List.nil_append, List.mem_cons, List.not_mem_nil, or_false] at hw
  rcases hw with rfl | rfl | rfl | rfl | rfl
  · exact ⟨hlk, Or.inl rfl⟩
  · exact ⟨h1, Or.inl rfl⟩
  · exact ⟨h2, Or.inl rfl⟩
  · exact ⟨h3, Or.inl rfl⟩
  · exact ⟨h4, Or.inl rfl⟩
theorem cwSm (hw : MSW y cc' maxL' ret' n) (hts : ∀ w ∈ nwL, w.before args s = true) (hlk : Cond.methodLink own idx y ∈ nwL) (hR : fr + 1 ≤ R.frames ∧ 8 + (maxL' + 11) + lo ≤ R.locals) : CallB R s args own idx y cc' maxL' ret' [Cond.code y cc' maxL' ret'] ({ frames := fr, cells := mc, slots := ms, locals := lo }) mc ms n ∧ (Cond.static y).before args s = true := by
  obtain ⟨h1, h3, h4, h5, h6, h7⟩ := hw
  refine va_cwS n hts (fun w hw => ?_) rfl rfl rfl ⟨h5, h6, h7⟩ hR
  simp only [va_wsS, List.cons_append, List.nil_append, List.mem_cons, List.not_mem_nil, or_false] at hw
  rcases hw with rfl | rfl | rfl | rfl
  · exact ⟨hlk, Or.inl rfl⟩
  · exact ⟨h1, Or.inl rfl⟩
  · exact ⟨h3, Or.inl rfl⟩
  · exact ⟨h4, Or.inl rfl⟩
theorem CX.recv (C : CX p l s m meth c x cc own nL) {H : Heap} {Rn : String} (hP : va_P x.1 vwCl (wd x a b o) H) (hk : k < 89) (hG : GE x a b o k = .inr (ci, fs)) (hc : vwCl[ci]? = some (Rn, T, N)) : ∃ cell : Cell, H[x.2.1 k]? = some cell ∧ cell.vm.isStatics = false ∧ s.vm.findClass Rn = some cell.cls :=
  va_recv (q := (Rn, T, N)) C.K hP hc (q0 := k) (a := x.2.1 k) (fs := fs) (by rw [wd_at hk, hG])
theorem R_V (C : CX p l s m meth c x cc own nL) (hM : MG l x y cc' maxL' ret' fr lo (.ref (x.2.1 k) :: As) a b o Qf) (hw : MIW y cc' maxL' ret' n) (hlk : Cond.methodLink own idx y ∈ nwL) (hn : As.length = n) (hk : k < 89) (hG : GE x a b o k = .inr (ci, fs)) (hc : vwCl[ci]? = some (y.cls, T, N)) (hR : fr + 1 ≤ R.frames ∧ 8 + (maxL' + 11) + lo ≤ R.locals) (hst : st = As.reverse ++ .ref (x.2.1 k) :: rest) (hcat : (rest.map fun v => v.category).sum ≤ 8) (hf : cells ≤ R.cells ∧ slots ≤ R.slots) (hd : decode cc pc = .ok (.invokevirtual idx, 3)) : RUN p l e R s m args below meth c x nL a b o cells slots pc st rest Qf (.ref (x.2.1 k) :: As) :=
  fun H locs ls hP hS hL => va_runV C.fix (hM H.size) (cwVm hw C.hts hlk hR) ⟨Pre.blind, C.recv hP hk hG hc, C.pre hP hS⟩ rfl hn hL hst (lv_room hcat) hd hf
theorem R_S (C : CX p l s m meth c x cc own nL) (hM : MG l x y cc' maxL' ret' fr lo As a b o Qf) (hw : MSW y cc' maxL' ret' n) (hlk : Cond.methodLink own idx y ∈ nwL) (hn : As.length = n) (hR : fr + 1 ≤ R.frames ∧ 8 + (maxL' + 11) + lo ≤ R.locals) (hst : st = As.reverse ++ rest) (hcat : (rest.map fun v => v.category).sum ≤ 8) (hf : cells ≤ R.cells ∧ slots ≤ R.slots) (hd : decode cc pc = .ok (.invokestatic idx, 3)) : RUN p l e R s m args below meth c x nL a b o cells slots pc st rest Qf As :=
  fun H locs ls hP hS hL => va_runS C.fix (hM H.size) (cwSm hw C.hts hlk hR) ⟨Pre.blind, C.pre hP hS⟩ rfl hn hL hst (lv_room hcat) hd hf
theorem cnm {host : String} {ws : List Cond} (hws : ws = [Cond.code y cc' maxL' ret']) (h3 : Cond.initialized y.cls ∈ nwL) (h4 : Cond.code y cc' maxL' ret' ∈ nwL) (h5 : y.cls ≠ "java/lang/invoke/MethodHandle" ∧ y.cls ≠ "java/lang/invoke/VarHandle" ∧ (parseMethodDescriptor y.desc).map (fun d => d.parameters.length) = some n) (hts : ∀ (A : Array Value), ∀ w ∈ nwL, w.before A s = true) (hlk : Cond.methodLinkNest own idx y host ∈ nwL) (hR : fr + 1 ≤ R.frames ∧ 8 + (maxL' + 11) + lo ≤ R.locals) : va_CN R s args own idx y host cc' maxL' ret' ws ({ frames := fr, cells := mc, slots := ms, locals := lo }) mc ms n := by
  subst hws
  refine va_cnB n (hts args) (fun w hw => ?_) rfl rfl rfl (va_Nw.of rfl (hts args _ hlk)) (hts args _ h3) h5 hR
  rw [List.mem_singleton.mp hw]
  exact ⟨h4, Or.inl rfl⟩
theorem R_VN (C : CX p l s m meth c x cc own nL) {host : String} (hM : MG l x y cc' maxL' ret' fr lo (.ref (x.2.1 k) :: As) a b o Qf) (hw : MIW y cc' maxL' ret' n) (hlk : Cond.methodLinkNest own idx y host ∈ nwL) (hn : As.length = n) (hk : k < 89) (hG : GE x a b o k = .inr (ci, fs)) (hc : vwCl[ci]? = some (y.cls, T, N)) (hR : fr + 1 ≤ R.frames ∧ 8 + (maxL' + 11) + lo ≤ R.locals) (hst : st = As.reverse ++ .ref (x.2.1 k) :: rest) (hcat : (rest.map fun v => v.category).sum ≤ 8) (hf : cells ≤ R.cells ∧ slots ≤ R.slots) (hd : decode cc pc = .ok (.invokevirtual idx, 3)) : RUN p l e R s m args below meth c x nL a b o cells slots pc st rest Qf (.ref (x.2.1 k) :: As) :=
  fun H locs ls hP hS hL => va_runVN C.fix (hM H.size) ⟨cnm rfl hw.2.2.1 hw.2.2.2.1 hw.2.2.2.2 (fun A => C.hts) hlk hR, C.hts _ hw.1, C.hts _ hw.2.1⟩ ⟨Pre.blind, C.recv hP hk hG hc, C.pre hP hS⟩ rfl hn hL hst (lv_room hcat) hd hf
theorem R_SN (C : CX p l s m meth c x cc own nL) {host : String} (hM : MG l x y cc' maxL' ret' fr lo As a b o Qf) (hw : MSW y cc' maxL' ret' n) (hlk : Cond.methodLinkNest own idx y host ∈ nwL) (hn : As.length = n) (hR : fr + 1 ≤ R.frames ∧ 8 + (maxL' + 11) + lo ≤ R.locals) (hst : st = As.reverse ++ rest) (hcat : (rest.map fun v => v.category).sum ≤ 8) (hf : cells ≤ R.cells ∧ slots ≤ R.slots) (hd : decode cc pc = .ok (.invokestatic idx, 3)) : RUN p l e R s m args below meth c x nL a b o cells slots pc st rest Qf As :=
  fun H locs ls hP hS hL => va_runSN C.fix (hM H.size) ⟨cnm rfl hw.2.1 hw.2.2.1 hw.2.2.2 (fun A => C.hts) hlk hR, C.hts _ hw.1, trivial⟩ ⟨Pre.blind, C.pre hP hS⟩ rfl hn hL hst (lv_room hcat) hd hf
theorem RX_V (C : CX p l s m meth c x cc own nL) (hM : XG l x y cc' maxL' ret' fr lo mc ms (.ref (x.2.1 k) :: As) a b o Qf ΦX) (hw : MIW y cc' maxL' ret' n) (hlk : Cond.methodLink own idx y ∈ nwL) (hn : As.length = n) (hk : k < 89) (hG : GE x a b o k = .inr (ci, fs)) (hc : vwCl[ci]? = some (y.cls, T, N)) (hR : fr + 1 ≤ R.frames ∧ 8 + (maxL' + 11) + lo ≤ R.locals) (hst : st = As.reverse ++ .ref (x.2.1 k) :: rest) (hcat : (rest.map fun v => v.category).sum ≤ 8) (hf : cells + mc ≤ R.cells ∧ slots + ms ≤ R.slots) (hd : decode cc pc = .ok (.invokevirtual idx, 3)) : RUNX p l e R s m args below meth c x nL a b o cells slots pc mc ms st rest Qf ΦX (.ref (x.2.1 k) :: As) :=
  fun H locs ls hP hS hL => vx_runV C.fix (hM H.size) (cwVm hw C.hts hlk hR) ⟨Pre.blind, C.recv hP hk hG hc, C.pre hP hS⟩ rfl hn hL hst (lv_room hcat) hd hf
theorem RX_S (C : CX p l s m meth c x cc own nL) (hM : XG l x y cc' maxL' ret' fr lo mc ms As a b o Qf ΦX) (hw : MSW y cc' maxL' ret' n) (hlk : Cond.methodLink own idx y ∈ nwL) (hn : As.length = n) (hR : fr + 1 ≤ R.frames ∧ 8 + (maxL' + 11) + lo ≤ R.locals) (hst : st = As.reverse ++ rest) (hcat : (rest.map fun v => v.category).sum ≤ 8) (hf : cells + mc ≤ R.cells ∧ slots + ms ≤ R.slots) (hd : decode cc pc = .ok (.invokestatic idx, 3)) : RUNX p l e R s m args below meth c x nL a b o cells slots pc mc ms st rest Qf ΦX As :=
  fun H locs ls hP hS hL => vx_runS C.fix (hM H.size) (cwSm hw C.hts hlk hR) ⟨Pre.blind, C.pre hP hS⟩ rfl hn hL hst (lv_room hcat) hd hf
theorem AW_A {H : Heap} {x : Sh} {s : State} {locs : List Loc} (hS : va_S (AW x s.heap.size) s.heap H locs) : ∀ q, AW x H.size q → AW x s.heap.size q := fun q h => h.narrow hS.1
theorem V_calli {Φ : Int32 → Mem → Mem → Prop} (hr : RUN p l e R s m args below meth c x nL a b o cells slots pc st rest (QI x o Φ) As) (kk : ∀ r a' b', Φ r a' b' → VV p l e R s m args below meth c Q x nL a' b' o cells slots (pc + 3) lv (.int r :: rest)) : VV p l e R s m args below meth c Q x nL a b o cells slots pc lv st :=
  fun H locs ls hP hS hL => va_calli (hr H locs ls hP hS hL.1) hS (fun q _ h => AW_A hS q h) (AW_A hS) (fun r u t H1 locs1 ht _ hp hB _ _ hS1 => kk r u.1 u.2 hp H1 locs1 ls (by rw [ht] at hB; exact hB) hS1 hL)
theorem V_callv {Φ : Mem → Mem → Prop} (hr : RUN p l e R s m args below meth c x nL a b o cells slots pc st rest (QV x o Φ) As) (kk : ∀ a' b', Φ a' b' → VV p l e R s m args below meth c Q x nL a' b' o cells slots (pc + 3) lv rest) : VV p l e R s m args below meth c Q x nL a b o cells slots pc lv st :=
  fun H locs ls hP hS hL => va_callv (hr H locs ls hP hS hL.1) hS (fun q _ h => AW_A hS q h) (AW_A hS) (fun u t H1 locs1 ht _ hp hB _ _ hS1 => kk u.1 u.2 hp H1 locs1 ls (by rw [ht] at hB; exact hB) hS1 hL)
/-- not caught here -/
theorem vv_out {Qc : Array Value → State → Outcome → State → Prop} {ΦX' : String → Prop} {mc' ms' : Nat} {H : Heap} {locs : List Loc} {ls : Array Slot} {E : String} {ce : Cell} {q9 : Addr} (C : CX p l s m meth c x cc own nL) (ht : ∀ z ∈ c.exceptionTable.toList, False) (hX : ΦX' E) (hcs : cells ≤ mc' ∧ slots ≤ ms') (hP : va_P x.1 vwCl (wd x a b o) H) (hS : va_S (AW x s.heap.size) s.heap H locs) (hcell : H[q9]? = some ce) (hv : ce.vm = .none) (hcl : s.vm.findClass E = some ce.cls) : vx_W p l e R s m args below meth c H locs cells slots (vx_MQ below Qc (XCd ΦX' x a b o s.heap.size) args s mc' ms' (AW x s.heap.size)) (F0 m pc ls rest) q9 :=
  vx_out (fun z hz => (ht z hz).elim) C.2.2.2.2.2.1 hcell hv hcl (fun t htt _ => ⟨(), trivial, ⟨hX, by rw [htt]; exact hP⟩, hS.F htt⟩) hS.2.2 hcs.1 hcs.2
theorem V_xcalli {Qc : Array Value → State → Outcome → State → Prop} {ΦX' : String → Prop} {mc' ms' : Nat} {Φ : Int32 → Mem → Mem → Prop} (C : CX p l s m meth c x cc own nL) (ht : ∀ z ∈ c.exceptionTable.toList, False) (hr : RUNX p l e R s m args below meth c x nL a b o cells slots pc mc ms st rest (QI x o Φ) ΦX As) (hX : ∀ E, ΦX E → ΦX' E) (hcs : cells + mc ≤ mc' ∧ slots + ms ≤ ms') (kk : ∀ r a' b', Φ r a' b' → VV p l e R s m args below meth c (vx_MQ below Qc (XCd ΦX' x a b o s.heap.size) args s mc' ms' (AW x s.heap.size)) x nL a' b' o (cells + mc) (slots + ms) (pc + 3) lv (.int r :: rest)) : VV p l e R s m args below meth c (vx_MQ below Qc (XCd ΦX' x a b o s.heap.size) args s mc' ms' (AW x s.heap.size)) x nL a b o cells slots pc lv st :=
  fun H locs ls hP hS hL => vx_calli (hr H locs ls hP hS hL.1) hS (fun q _ h => AW_A hS q h) (AW_A hS) (fun q _ h => AW_A hS q h)
    (fun E ce q9 u t H1 locs1 htt _ _ hB _ _ hS1 hce hcv hcl => vv_out C ht (hX E hB.1) hcs (by have := hB.2; rw [htt] at this; exact this) hS1 hce hcv hcl)
    (fun r u t H1 locs1 htt _ hp hB _ _ hS1 => kk r u.1 u.2 hp H1 locs1 ls (by rw [htt] at hB; exact hB) hS1 hL)
theorem V_xcallv {Qc : Array Value → State → Outcome → State → Prop} {ΦX' : String → Prop} {mc' ms' : Nat} {Φ : Mem → Mem → Prop} (C : CX p l s m meth c x cc own nL) (ht : ∀ z ∈ c.exceptionTable.toList, False) (hr : RUNX p l e R s m args below meth c x nL a b o cells slots pc mc ms st rest (QV x o Φ) ΦX As) (hX : ∀ E, ΦX E → ΦX' E) (hcs : cells + mc ≤ mc' ∧ slots + ms ≤ ms') (kk : ∀ a' b', Φ a' b' → VV p l e R s m args below meth c (vx_MQ below Qc (XCd ΦX' x a b o s.heap.size) args s mc' ms' (AW x s.heap.size)) x nL a' b' o (cells + mc) (slots + ms) (pc + 3) lv rest) : VV p l e R s m args below meth c (vx_MQ below Qc (XCd ΦX' x a b o s.heap.size) args s mc' ms' (AW x s.heap.size)) x nL a b o cells slots pc lv st :=
  fun H locs ls hP hS hL => vx_callv (hr H locs ls hP hS hL.1) hS (fun q _ h => AW_A hS q h) (AW_A hS) (fun q _ h => AW_A hS q h)
    (fun E ce q9 u t H1 locs1 htt _ _ hB _ _ hS1 hce hcv hcl => vv_out C ht (hX E hB.1) hcs (by have := hB.2; rw [htt] at this; exact this) hS1 hce hcv hcl)
    (fun u t H1 locs1 htt _ hp hB _ _ hS1 => kk u.1 u.2 hp H1 locs1 ls (by rw [htt] at hB; exact hB) hS1 hL)
theorem V_xcallr {Qc : Array Value → State → Outcome → State → Prop} {ΦX' : String → Prop} {mc' ms' : Nat} {Φ : Nat → Mem → Mem → Prop} (C : CX p l s m meth c x cc own nL) (ht : ∀ z ∈ c.exceptionTable.toList, False) (hr : RUNX p l e R s m args below meth c x nL a b o cells slots pc mc ms st rest (QR x o Φ) ΦX As) (hX : ∀ E, ΦX E → ΦX' E) (hcs : cells + mc ≤ mc' ∧ slots + ms ≤ ms') (kk : ∀ k a' b', Φ k a' b' → VV p l e R s m args below meth c (vx_MQ below Qc (XCd ΦX' x a b o s.heap.size) args s mc' ms' (AW x s.heap.size)) x nL a' b' o (cells + mc) (slots + ms) (pc + 3) lv (.ref (x.2.1 k) :: rest)) : VV p l e R s m args below meth c (vx_MQ below Qc (XCd ΦX' x a b o s.heap.size) args s mc' ms' (AW x s.heap.size)) x nL a b o cells slots pc lv st := by
  intro H locs ls hP hS hL T hT X
  rcases hr H locs ls hP hS hL.1 T hT X with ⟨v, st₀, t, T', L, h0, X', hLf, e1, e2, ⟨⟨u, ra, hv, hp, hb⟩, hF⟩, sts⟩ | ⟨q, st₀, t, T', L, E, ce, h0, X', hLf, e1, e2, ⟨u, hp, hb, hF⟩, hce, hcv, hcl, sts⟩
  · cases hv
    obtain ⟨k1, k2, k3⟩ := vx_keep h0 e1 hS (fun q _ h => AW_A hS q h) (AW_A hS) hLf hF
    obtain ⟨e3, hP1⟩ := hb
    subst e3
    obtain ⟨t2, a1, b1⟩ := kk u.1 u.2.1 u.2.2 hp T'.heap (locs ++ L) ls (by rw [e1]; exact hP1) k3 hL T' rfl X'
    exact ⟨t2, sts t2 a1, b1⟩
  · obtain ⟨k1, k2, k3⟩ := vx_keep h0 e1 hS (fun q _ h => AW_A hS q h) (AW_A hS) hLf hF
    obtain ⟨t2, a1, b1⟩ := vv_out (Qc := Qc) (R := R) (below := below) (args := args) (e := e) (pc := pc) (rest := rest) (ls := ls) C ht (hX E hb.1) hcs (by rw [e1]; exact hb.2) k3 (by rw [e1]; exact hce) hcv hcl T' rfl X'
    exact ⟨t2, sts.trans a1, b1⟩
/-- the words of a throw -/
def TW (own : String) (ik ic : Nat) (cls : String) : Prop := Bundle.fit cls = true ∧ ∀ w ∈ Cond.classLink own ik cls :: Cond.initialized cls :: vx_atS own ic cls ["java/lang/RuntimeException", "java/lang/Exception"], w ∈ nwL ∧ vx_ot w = true
theorem V_throwS {Qc : Array Value → State → Outcome → State → Prop} {ΦX' : String → Prop} {cls text : String} {ik is ic : Nat} (C : CX p l s m meth c x cc own nL) (ht : ∀ z ∈ c.exceptionTable.toList, False) (hw : TW own ik ic cls) (hstr : (own, is, text) ∈ strL) (hX : ΦX' cls) (d0 : decode cc pc = .ok (.new ik, 3)) (d3 : decode cc (pc + 3) = .ok (.dup, 1)) (d4 : decode cc (pc + 4) = .ok (.ldc is, 2)) (d6 : decode cc (pc + 6) = .ok (.invokespecial ic, 3)) (d9 : decode cc (pc + 9) = .ok (.athrow, 1))
    (hR : 5 < R.frames ∧ (st.map fun v => v.category).sum + 82 ≤ R.locals ∧ cells + 1 ≤ R.cells ∧ slots + 6 ≤ R.slots) (hcs : cells + 1 ≤ mc ∧ slots + 6 ≤ ms) : VV p l e R s m args below meth c (vx_MQ below Qc (XCd ΦX' x a b o s.heap.size) args s mc ms (AW x s.heap.size)) x nL a b o cells slots pc lv st := by
  intro H locs ls hP hS hL
  obtain ⟨hfit, hw⟩ := hw
  obtain ⟨hx, hb, hml, hown, hK, hlo, hfl⟩ := id C
  obtain ⟨sa, hsa⟩ := hK.2.2.2.1.2.2 _ hstr
  have hw2 := hw
  refine vx_throwS hx hb hfl hown hfit (by decide) (C.hts _ (hw _ List.mem_cons_self).1) (C.hts _ (hw _ (List.mem_cons_of_mem _ List.mem_cons_self)).1) hsa (fun w h => C.hts _ (hw w (List.mem_cons_of_mem _ (List.mem_cons_of_mem _ h))).1) (fun w h => (hw2 w h).2) hK.2.2.2.1.1 hK.2.2.2.1.2.1 hS (hL.1.trans hml.symm) d0 d3 d4 d6 d9 (fun z hz => (ht z hz).elim) hR.1 hR.2.1 hR.2.2.1 hR.2.2.2 hlo (fun t _ hsz heq => ?_) hS.2.2 hcs.1 hcs.2
  refine ⟨(), trivial, ⟨hX, hP.kept (fun k q hq => heq q.1 ((hP k q hq).lt))⟩, ⟨Nat.le_trans hS.1 hsz, fun q hq hnq => ?_⟩⟩
  rw [heq q (Nat.lt_of_lt_of_le hq hS.1)]
  exact hS.2.1 q hq hnq
theorem V_throwSW {Qc : Array Value → State → Outcome → State → Prop} {ΦX' : String → Prop} {cls text : String} {ik is ic : Nat} (C : CX p l s m meth c x cc own nL) (ht : ∀ z ∈ c.exceptionTable.toList, False) (hw : TW own ik ic cls) (hstr : (own, is, text) ∈ strL) (hX : ΦX' cls) (d0 : decode cc pc = .ok (.new ik, 3)) (d3 : decode cc (pc + 3) = .ok (.dup, 1)) (d4 : decode cc (pc + 4) = .ok (.ldc_w is, 3)) (d6 : decode cc (pc + 7) = .ok (.invokespecial ic, 3)) (d9 : decode cc (pc + 10) = .ok (.athrow, 1))
    (hR : 5 < R.frames ∧ (st.map fun v => v.category).sum + 82 ≤ R.locals ∧ cells + 1 ≤ R.cells ∧ slots + 6 ≤ R.slots) (hcs : cells + 1 ≤ mc ∧ slots + 6 ≤ ms) : VV p l e R s m args below meth c (vx_MQ below Qc (XCd ΦX' x a b o s.heap.size) args s mc ms (AW x s.heap.size)) x nL a b o cells slots pc lv st := by
  intro H locs ls hP hS hL
  obtain ⟨hfit, hw⟩ := hw
  obtain ⟨hx, hb, hml, hown, hK, hlo, hfl⟩ := id C
  obtain ⟨sa, hsa⟩ := hK.2.2.2.1.2.2 _ hstr
  have hw2 := hw
  refine vx_throwSW hx hb hfl hown hfit (by decide) (C.hts _ (hw _ List.mem_cons_self).1) (C.hts _ (hw _ (List.mem_cons_of_mem _ List.mem_cons_self)).1) hsa (fun w h => C.hts _ (hw w (List.mem_cons_of_mem _ (List.mem_cons_of_mem _ h))).1) (fun w h => (hw2 w h).2) hK.2.2.2.1.1 hK.2.2.2.1.2.1 hS (hL.1.trans hml.symm) d0 d3 d4 d6 d9 (fun z hz => (ht z hz).elim) hR.1 hR.2.1 hR.2.2.1 hR.2.2.2 hlo (fun t _ hsz heq => ?_) hS.2.2 hcs.1 hcs.2
  refine ⟨(), trivial, ⟨hX, hP.kept (fun k q hq => heq q.1 ((hP k q hq).lt))⟩, ⟨Nat.le_trans hS.1 hsz, fun q hq hnq => ?_⟩⟩
  rw [heq q (Nat.lt_of_lt_of_le hq hS.1)]
  exact hS.2.1 q hq hnq
end VVM
end
section
theorem GC_O {x : Sh} {i : Nat} {f : Nat → Int32} (hi : i < 12) : GC x (18 + 4 * i) f = GO x (18 + 4 * i) f := by
  unfold GC
  rw [if_pos ⟨by omega, by omega⟩, if_pos (by omega)]
theorem GC_OA {x : Sh} {i j : Nat} {f : Nat → Int32} (hi : i < 12) (h1 : 0 < j) (h2 : j < 4) : GC x (18 + 4 * i + j) f = GA x 0 10 f := by
  unfold GC
  rw [if_pos ⟨by omega, by omega⟩, if_neg (by omega)]
theorem GC_R {x : Sh} {i : Nat} {f : Nat → Int32} (hi : i < 9) : GC x (3 + i) f = GA x 0 60 f := by
  unfold GC
  rw [if_neg (by omega), if_pos ⟨by omega, by omega⟩]
theorem iw_X0 : ∀ w ∈ u_ws RX0 TX0 9, w ∈ nwL := by decide +kernel
theorem iw_X1 : ∀ w ∈ u_ws RX1 TX1 2, w ∈ nwL := by decide +kernel
theorem iw_X2 : ∀ w ∈ u_ws RX2 TX2 4, w ∈ nwL := by decide +kernel
theorem iw_X3 : ∀ w ∈ u_ws RX3 TX3 13, w ∈ nwL := by decide +kernel
theorem iw_X4 : ∀ w ∈ u_ws RX4 TX4 24, w ∈ nwL := by decide +kernel
section FLD
variable {p : Program} {l : Launch} {e : Env} {R : Room} {s : State} {m : MethodId} {args : Array Value} {below : List Frame} {meth : Method} {c : Code} {Q : State → Prop} {x : Sh} {nL : Nat} {a b : Mem} {o : Out} {cells slots pc : Nat} {lv : List (Option Value)} {st : List Value} {cc : ByteArray} {own : String} {idx : Nat}
theorem gt_X3_records (C : CX p l s m meth c x cc own nL) (hl : FLk own idx RX3 "records" "LClassfederation$Records;") (hd : decode cc pc = .ok (.getfield idx, 3)) (kk : VV p l e R s m args below meth c Q x nL a b o cells slots (pc + 3) lv (.ref (x.2.1 1) :: st)) : VV p l e R s m args below meth c Q x nL a b o cells slots pc lv (.ref (x.2.1 0) :: st) := V_get C (k := 0) (by decide) rfl (rfl : vwCl[5]? = some (RX3, TX3, 13)) 0 (by decide) iw_X3 rfl hl rfl hd kk
theorem gt_X3_round (C : CX p l s m meth c x cc own nL) (hl : FLk own idx RX3 "round" "LClassfederation$Round;") (hd : decode cc pc = .ok (.getfield idx, 3)) (kk : VV p l e R s m args below meth c Q x nL a b o cells slots (pc + 3) lv (.ref (x.2.1 13) :: st)) : VV p l e R s m args below meth c Q x nL a b o cells slots pc lv (.ref (x.2.1 0) :: st) := V_get C (k := 0) (by decide) rfl (rfl : vwCl[5]? = some (RX3, TX3, 13)) 1 (by decide) iw_X3 rfl hl rfl hd kk
theorem gt_X3_offers (C : CX p l s m meth c x cc own nL) (hl : FLk own idx RX3 "offers" "[LClassfederation$Offer;") (hd : decode cc pc = .ok (.getfield idx, 3)) (kk : VV p l e R s m args below meth c Q x nL a b o cells slots (pc + 3) lv (.ref (x.2.1 17) :: st)) : VV p l e R s m args below meth c Q x nL a b o cells slots pc lv (.ref (x.2.1 0) :: st) := V_get C (k := 0) (by decide) rfl (rfl : vwCl[5]? = some (RX3, TX3, 13)) 2 (by decide) iw_X3 rfl hl rfl hd kk
theorem gt_X3_seatsOfRoom (C : CX p l s m meth c x cc own nL) (hl : FLk own idx RX3 "seatsOfRoom" "[I") (hd : decode cc pc = .ok (.getfield idx, 3)) (kk : VV p l e R s m args below meth c Q x nL a b o cells slots (pc + 3) lv (.ref (x.2.1 66) :: st)) : VV p l e R s m args below meth c Q x nL a b o cells slots pc lv (.ref (x.2.1 0) :: st) := V_get C (k := 0) (by decide) rfl (rfl : vwCl[5]? = some (RX3, TX3, 13)) 3 (by decide) iw_X3 rfl hl rfl hd kk
theorem gt_X3_pointsLeft (C : CX p l s m meth c x cc own nL) (hl : FLk own idx RX3 "pointsLeft" "[I") (hd : decode cc pc = .ok (.getfield idx, 3)) (kk : VV p l e R s m args below meth c Q x nL a b o cells slots (pc + 3) lv (.ref (x.2.1 67) :: st)) : VV p l e R s m args below meth c Q x nL a b o cells slots pc lv (.ref (x.2.1 0) :: st) := V_get C (k := 0) (by decide) rfl (rfl : vwCl[5]? = some (RX3, TX3, 13)) 4 (by decide) iw_X3 rfl hl rfl hd kk
theorem gt_X3_forfeited (C : CX p l s m meth c x cc own nL) (hl : FLk own idx RX3 "forfeited" "[I") (hd : decode cc pc = .ok (.getfield idx, 3)) (kk : VV p l e R s m args below meth c Q x nL a b o cells slots (pc + 3) lv (.ref (x.2.1 68) :: st)) : VV p l e R s m args below meth c Q x nL a b o cells slots pc lv (.ref (x.2.1 0) :: st) := V_get C (k := 0) (by decide) rfl (rfl : vwCl[5]? = some (RX3, TX3, 13)) 5 (by decide) iw_X3 rfl hl rfl hd kk
theorem gt_X3_slotWasSat (C : CX p l s m meth c x cc own nL) (hl : FLk own idx RX3 "slotWasSat" "[Z") (hd : decode cc pc = .ok (.getfield idx, 3)) (kk : VV p l e R s m args below meth c Q x nL a b o cells slots (pc + 3) lv (.ref (x.2.1 69) :: st)) : VV p l e R s m args below meth c Q x nL a b o cells slots pc lv (.ref (x.2.1 0) :: st) := V_get C (k := 0) (by decide) rfl (rfl : vwCl[5]? = some (RX3, TX3, 13)) 6 (by decide) iw_X3 rfl hl rfl hd kk
theorem gt_X3_roomCount (C : CX p l s m meth c x cc own nL) (hl : FLk own idx RX3 "roomCount" "I") (hd : decode cc pc = .ok (.getfield idx, 3)) (kk : VV p l e R s m args below meth c Q x nL a b o cells slots (pc + 3) lv (.int (a 0 7) :: st)) : VV p l e R s m args below meth c Q x nL a b o cells slots pc lv (.ref (x.2.1 0) :: st) := V_get C (k := 0) (by decide) rfl (rfl : vwCl[5]? = some (RX3, TX3, 13)) 7 (by decide) iw_X3 rfl hl rfl hd kk
theorem pt_X3_roomCount (C : CX p l s m meth c x cc own nL) {v : Int32} (hl : FLk own idx RX3 "roomCount" "I") (hd : decode cc pc = .ok (.putfield idx, 3)) (kk : VV p l e R s m args below meth c Q x nL (up2 a 0 7 v) b o cells slots (pc + 3) lv st) : VV p l e R s m args below meth c Q x nL a b o cells slots pc lv (.int v :: .ref (x.2.1 0) :: st) := V_put C (k := 0) (by decide) rfl (rfl : vwCl[5]? = some (RX3, TX3, 13)) 7 (by decide) iw_X3 rfl hl tyX3 tyX3_ok nmX3 rfl (ty := .int) (by decide +kernel) rfl rfl (Nat.le_of_ble_eq_true rfl) (wd_setC (by decide) rfl) hd kk
theorem gt_X3_examCount (C : CX p l s m meth c x cc own nL) (hl : FLk own idx RX3 "examCount" "I") (hd : decode cc pc = .ok (.getfield idx, 3)) (kk : VV p l e R s m args below meth c Q x nL a b o cells slots (pc + 3) lv (.int (a 0 8) :: st)) : VV p l e R s m args below meth c Q x nL a b o cells slots pc lv (.ref (x.2.1 0) :: st) := V_get C (k := 0) (by decide) rfl (rfl : vwCl[5]? = some (RX3, TX3, 13)) 8 (by decide) iw_X3 rfl hl rfl hd kk
theorem pt_X3_examCount (C : CX p l s m meth c x cc own nL) {v : Int32} (hl : FLk own idx RX3 "examCount" "I") (hd : decode cc pc = .ok (.putfield idx, 3)) (kk : VV p l e R s m args below meth c Q x nL (up2 a 0 8 v) b o cells slots (pc + 3) lv st) : VV p l e R s m args below meth c Q x nL a b o cells slots pc lv (.int v :: .ref (x.2.1 0) :: st) := V_put C (k := 0) (by decide) rfl (rfl : vwCl[5]? = some (RX3, TX3, 13)) 8 (by decide) iw_X3 rfl hl tyX3 tyX3_ok nmX3 rfl (ty := .int) (by decide +kernel) rfl rfl (Nat.le_of_ble_eq_true rfl) (wd_setC (by decide) rfl) hd kk
theorem gt_X3_pupilCount (C : CX p l s m meth c x cc own nL) (hl : FLk own idx RX3 "pupilCount" "I") (hd : decode cc pc = .ok (.getfield idx, 3)) (kk : VV p l e R s m args below meth c Q x nL a b o cells slots (pc + 3) lv (.int (a 0 9) :: st)) : VV p l e R s m args below meth c Q x nL a b o cells slots pc lv (.ref (x.2.1 0) :: st) := V_get C (k := 0) (by decide) rfl (rfl : vwCl[5]? = some (RX3, TX3, 13)) 9 (by decide) iw_X3 rfl hl rfl hd kk
theorem pt_X3_pupilCount (C : CX p l s m meth c x cc own nL) {v : Int32} (hl : FLk own idx RX3 "pupilCount" "I") (hd : decode cc pc = .ok (.putfield idx, 3)) (kk : VV p l e R s m args below meth c Q x nL (up2 a 0 9 v) b o cells slots (pc + 3) lv st) : VV p l e R s m args below meth c Q x nL a b o cells slots pc lv (.int v :: .ref (x.2.1 0) :: st) := V_put C (k := 0) (by decide) rfl (rfl : vwCl[5]? = some (RX3, TX3, 13)) 9 (by decide) iw_X3 rfl hl tyX3 tyX3_ok nmX3 rfl (ty := .int) (by decide +kernel) rfl rfl (Nat.le_of_ble_eq_true rfl) (wd_setC (by decide) rfl) hd kk
theorem gt_X3_offerCount (C : CX p l s m meth c x cc own nL) (hl : FLk own idx RX3 "offerCount" "I") (hd : decode cc pc = .ok (.getfield idx, 3)) (kk : VV p l e R s m args below meth c Q x nL a b o cells slots (pc + 3) lv (.int (a 0 10) :: st)) : VV p l e R s m args below meth c Q x nL a b o cells slots pc lv (.ref (x.2.1 0) :: st) := V_get C (k := 0) (by decide) rfl (rfl : vwCl[5]? = some (RX3, TX3, 13)) 10 (by decide) iw_X3 rfl hl rfl hd kk
theorem pt_X3_offerCount (C : CX p l s m meth c x cc own nL) {v : Int32} (hl : FLk own idx RX3 "offerCount" "I") (hd : decode cc pc = .ok (.putfield idx, 3)) (kk : VV p l e R s m args below meth c Q x nL (up2 a 0 10 v) b o cells slots (pc + 3) lv st) : VV p l e R s m args below meth c Q x nL a b o cells slots pc lv (.int v :: .ref (x.2.1 0) :: st) := V_put C (k := 0) (by decide) rfl (rfl : vwCl[5]? = some (RX3, TX3, 13)) 10 (by decide) iw_X3 rfl hl tyX3 tyX3_ok nmX3 rfl (ty := .int) (by decide +kernel) rfl rfl (Nat.le_of_ble_eq_true rfl) (wd_setC (by decide) rfl) hd kk
theorem gt_X3_settledRounds (C : CX p l s m meth c x cc own nL) (hl : FLk own idx RX3 "settledRounds" "I") (hd : decode cc pc = .ok (.getfield idx, 3)) (kk : VV p l e R s m args below meth c Q x nL a b o cells slots (pc + 3) lv (.int (a 0 11) :: st)) : VV p l e R s m args below meth c Q x nL a b o cells slots pc lv (.ref (x.2.1 0) :: st) := V_get C (k := 0) (by decide) rfl (rfl : vwCl[5]? = some (RX3, TX3, 13)) 11 (by decide) iw_X3 rfl hl rfl hd kk
theorem pt_X3_settledRounds (C : CX p l s m meth c x cc own nL) {v : Int32} (hl : FLk own idx RX3 "settledRounds" "I") (hd : decode cc pc = .ok (.putfield idx, 3)) (kk : VV p l e R s m args below meth c Q x nL (up2 a 0 11 v) b o cells slots (pc + 3) lv st) : VV p l e R s m args below meth c Q x nL a b o cells slots pc lv (.int v :: .ref (x.2.1 0) :: st) := V_put C (k := 0) (by decide) rfl (rfl : vwCl[5]? = some (RX3, TX3, 13)) 11 (by decide) iw_X3 rfl hl tyX3 tyX3_ok nmX3 rfl (ty := .int) (by decide +kernel) rfl rfl (Nat.le_of_ble_eq_true rfl) (wd_setC (by decide) rfl) hd kk
theorem gt_X3_refundSum (C : CX p l s m meth c x cc own nL) (hl : FLk own idx RX3 "refundSum" "I") (hd : decode cc pc = .ok (.getfield idx, 3)) (kk : VV p l e R s m args below meth c Q x nL a b o cells slots (pc + 3) lv (.int (a 0 12) :: st)) : VV p l e R s m args below meth c Q x nL a b o cells slots pc lv (.ref (x.2.1 0) :: st) := V_get C (k := 0) (by decide) rfl (rfl : vwCl[5]? = some (RX3, TX3, 13)) 12 (by decide) iw_X3 rfl hl rfl hd kk
theorem pt_X3_refundSum (C : CX p l s m meth c x cc own nL) {v : Int32} (hl : FLk own idx RX3 "refundSum" "I") (hd : decode cc pc = .ok (.putfield idx, 3)) (kk : VV p l e R s m args below meth c Q x nL (up2 a 0 12 v) b o cells slots (pc + 3) lv st) : VV p l e R s m args below meth c Q x nL a b o cells slots pc lv (.int v :: .ref (x.2.1 0) :: st) := V_put C (k := 0) (by decide) rfl (rfl : vwCl[5]? = some (RX3, TX3, 13)) 12 (by decide) iw_X3 rfl hl tyX3 tyX3_ok nmX3 rfl (ty := .int) (by decide +kernel) rfl rfl (Nat.le_of_ble_eq_true rfl) (wd_setC (by decide) rfl) hd kk
theorem gt_X1_values (C : CX p l s m meth c x cc own nL) (hl : FLk own idx RX1 "values" "[[I") (hd : decode cc pc = .ok (.getfield idx, 3)) (kk : VV p l e R s m args below meth c Q x nL a b o cells slots (pc + 3) lv (.ref (x.2.1 2) :: st)) : VV p l e R s m args below meth c Q x nL a b o cells slots pc lv (.ref (x.2.1 1) :: st) := V_get C (k := 1) (by decide) rfl (rfl : vwCl[3]? = some (RX1, TX1, 2)) 0 (by decide) iw_X1 rfl hl rfl hd kk
theorem gt_X1_owners (C : CX p l s m meth c x cc own nL) (hl : FLk own idx RX1 "owners" "[I") (hd : decode cc pc = .ok (.getfield idx, 3)) (kk : VV p l e R s m args below meth c Q x nL a b o cells slots (pc + 3) lv (.ref (x.2.1 12) :: st)) : VV p l e R s m args below meth c Q x nL a b o cells slots pc lv (.ref (x.2.1 1) :: st) := V_get C (k := 1) (by decide) rfl (rfl : vwCl[3]? = some (RX1, TX1, 2)) 1 (by decide) iw_X1 rfl hl rfl hd kk
theorem gt_X2_pupils (C : CX p l s m meth c x cc own nL) (hl : FLk own idx RX2 "pupils" "[I") (hd : decode cc pc = .ok (.getfield idx, 3)) (kk : VV p l e R s m args below meth c Q x nL a b o cells slots (pc + 3) lv (.ref (x.2.1 14) :: st)) : VV p l e R s m args below meth c Q x nL a b o cells slots pc lv (.ref (x.2.1 13) :: st) := V_get C (k := 13) (by decide) rfl (rfl : vwCl[4]? = some (RX2, TX2, 4)) 0 (by decide) iw_X2 rfl hl rfl hd kk
theorem gt_X2_offers (C : CX p l s m meth c x cc own nL) (hl : FLk own idx RX2 "offers" "[I") (hd : decode cc pc = .ok (.getfield idx, 3)) (kk : VV p l e R s m args below meth c Q x nL a b o cells slots (pc + 3) lv (.ref (x.2.1 15) :: st)) : VV p l e R s m args below meth c Q x nL a b o cells slots pc lv (.ref (x.2.1 13) :: st) := V_get C (k := 13) (by decide) rfl (rfl : vwCl[4]? = some (RX2, TX2, 4)) 1 (by decide) iw_X2 rfl hl rfl hd kk
theorem gt_X2_points (C : CX p l s m meth c x cc own nL) (hl : FLk own idx RX2 "points" "[I") (hd : decode cc pc = .ok (.getfield idx, 3)) (kk : VV p l e R s m args below meth c Q x nL a b o cells slots (pc + 3) lv (.ref (x.2.1 16) :: st)) : VV p l e R s m args below meth c Q x nL a b o cells slots pc lv (.ref (x.2.1 13) :: st) := V_get C (k := 13) (by decide) rfl (rfl : vwCl[4]? = some (RX2, TX2, 4)) 2 (by decide) iw_X2 rfl hl rfl hd kk
theorem gt_X2_count (C : CX p l s m meth c x cc own nL) (hl : FLk own idx RX2 "count" "I") (hd : decode cc pc = .ok (.getfield idx, 3)) (kk : VV p l e R s m args below meth c Q x nL a b o cells slots (pc + 3) lv (.int (a 13 3) :: st)) : VV p l e R s m args below meth c Q x nL a b o cells slots pc lv (.ref (x.2.1 13) :: st) := V_get C (k := 13) (by decide) rfl (rfl : vwCl[4]? = some (RX2, TX2, 4)) 3 (by decide) iw_X2 rfl hl rfl hd kk
theorem pt_X2_count (C : CX p l s m meth c x cc own nL) {v : Int32} (hl : FLk own idx RX2 "count" "I") (hd : decode cc pc = .ok (.putfield idx, 3)) (kk : VV p l e R s m args below meth c Q x nL (up2 a 13 3 v) b o cells slots (pc + 3) lv st) : VV p l e R s m args below meth c Q x nL a b o cells slots pc lv (.int v :: .ref (x.2.1 13) :: st) := V_put C (k := 13) (by decide) rfl (rfl : vwCl[4]? = some (RX2, TX2, 4)) 3 (by decide) iw_X2 rfl hl tyX2 tyX2_ok nmX2 rfl (ty := .int) (by decide +kernel) rfl rfl (Nat.le_of_ble_eq_true rfl) (wd_setC (by decide) rfl) hd kk
theorem gt_X0_exam (C : CX p l s m meth c x cc own nL) {i : Nat} (hi : i < 12) (hl : FLk own idx RX0 "exam" "I") (hd : decode cc pc = .ok (.getfield idx, 3)) (kk : VV p l e R s m args below meth c Q x nL a b o cells slots (pc + 3) lv (.int (a (18 + 4 * i) 0) :: st)) : VV p l e R s m args below meth c Q x nL a b o cells slots pc lv (.ref (x.2.1 (18 + 4 * i)) :: st) := V_get C (k := (18 + 4 * i)) (by omega) ((GE_C (by omega)).trans (GC_O hi)) (rfl : vwCl[2]? = some (RX0, TX0, 9)) 0 (by decide) iw_X0 rfl hl rfl hd kk
theorem pt_X0_exam (C : CX p l s m meth c x cc own nL) {i : Nat} (hi : i < 12) {v : Int32} (hl : FLk own idx RX0 "exam" "I") (hd : decode cc pc = .ok (.putfield idx, 3)) (kk : VV p l e R s m args below meth c Q x nL (up2 a (18 + 4 * i) 0 v) b o cells slots (pc + 3) lv st) : VV p l e R s m args below meth c Q x nL a b o cells slots pc lv (.int v :: .ref (x.2.1 (18 + 4 * i)) :: st) := V_put C (k := (18 + 4 * i)) (by omega) ((GE_C (by omega)).trans (GC_O hi)) (rfl : vwCl[2]? = some (RX0, TX0, 9)) 0 (by decide) iw_X0 rfl hl tyX0 tyX0_ok nmX0 rfl (ty := .int) (by decide +kernel) rfl rfl (Nat.le_of_ble_eq_true rfl) (wd_setC (by omega) (GC_O hi)) hd kk
theorem gt_X0_slot (C : CX p l s m meth c x cc own nL) {i : Nat} (hi : i < 12) (hl : FLk own idx RX0 "slot" "I") (hd : decode cc pc = .ok (.getfield idx, 3)) (kk : VV p l e R s m args below meth c Q x nL a b o cells slots (pc + 3) lv (.int (a (18 + 4 * i) 1) :: st)) : VV p l e R s m args below meth c Q x nL a b o cells slots pc lv (.ref (x.2.1 (18 + 4 * i)) :: st) := V_get C (k := (18 + 4 * i)) (by omega) ((GE_C (by omega)).trans (GC_O hi)) (rfl : vwCl[2]? = some (RX0, TX0, 9)) 1 (by decide) iw_X0 rfl hl rfl hd kk
theorem pt_X0_slot (C : CX p l s m meth c x cc own nL) {i : Nat} (hi : i < 12) {v : Int32} (hl : FLk own idx RX0 "slot" "I") (hd : decode cc pc = .ok (.putfield idx, 3)) (kk : VV p l e R s m args below meth c Q x nL (up2 a (18 + 4 * i) 1 v) b o cells slots (pc + 3) lv st) : VV p l e R s m args below meth c Q x nL a b o cells slots pc lv (.int v :: .ref (x.2.1 (18 + 4 * i)) :: st) := V_put C (k := (18 + 4 * i)) (by omega) ((GE_C (by omega)).trans (GC_O hi)) (rfl : vwCl[2]? = some (RX0, TX0, 9)) 1 (by decide) iw_X0 rfl hl tyX0 tyX0_ok nmX0 rfl (ty := .int) (by decide +kernel) rfl rfl (Nat.le_of_ble_eq_true rfl) (wd_setC (by omega) (GC_O hi)) hd kk
theorem gt_X0_room (C : CX p l s m meth c x cc own nL) {i : Nat} (hi : i < 12) (hl : FLk own idx RX0 "room" "I") (hd : decode cc pc = .ok (.getfield idx, 3)) (kk : VV p l e R s m args below meth c Q x nL a b o cells slots (pc + 3) lv (.int (a (18 + 4 * i) 2) :: st)) : VV p l e R s m args below meth c Q x nL a b o cells slots pc lv (.ref (x.2.1 (18 + 4 * i)) :: st) := V_get C (k := (18 + 4 * i)) (by omega) ((GE_C (by omega)).trans (GC_O hi)) (rfl : vwCl[2]? = some (RX0, TX0, 9)) 2 (by decide) iw_X0 rfl hl rfl hd kk
theorem pt_X0_room (C : CX p l s m meth c x cc own nL) {i : Nat} (hi : i < 12) {v : Int32} (hl : FLk own idx RX0 "room" "I") (hd : decode cc pc = .ok (.putfield idx, 3)) (kk : VV p l e R s m args below meth c Q x nL (up2 a (18 + 4 * i) 2 v) b o cells slots (pc + 3) lv st) : VV p l e R s m args below meth c Q x nL a b o cells slots pc lv (.int v :: .ref (x.2.1 (18 + 4 * i)) :: st) := V_put C (k := (18 + 4 * i)) (by omega) ((GE_C (by omega)).trans (GC_O hi)) (rfl : vwCl[2]? = some (RX0, TX0, 9)) 2 (by decide) iw_X0 rfl hl tyX0 tyX0_ok nmX0 rfl (ty := .int) (by decide +kernel) rfl rfl (Nat.le_of_ble_eq_true rfl) (wd_setC (by omega) (GC_O hi)) hd kk
theorem gt_X0_seats (C : CX p l s m meth c x cc own nL) {i : Nat} (hi : i < 12) (hl : FLk own idx RX0 "seats" "I") (hd : decode cc pc = .ok (.getfield idx, 3)) (kk : VV p l e R s m args below meth c Q x nL a b o cells slots (pc + 3) lv (.int (a (18 + 4 * i) 3) :: st)) : VV p l e R s m args below meth c Q x nL a b o cells slots pc lv (.ref (x.2.1 (18 + 4 * i)) :: st) := V_get C (k := (18 + 4 * i)) (by omega) ((GE_C (by omega)).trans (GC_O hi)) (rfl : vwCl[2]? = some (RX0, TX0, 9)) 3 (by decide) iw_X0 rfl hl rfl hd kk
theorem pt_X0_seats (C : CX p l s m meth c x cc own nL) {i : Nat} (hi : i < 12) {v : Int32} (hl : FLk own idx RX0 "seats" "I") (hd : decode cc pc = .ok (.putfield idx, 3)) (kk : VV p l e R s m args below meth c Q x nL (up2 a (18 + 4 * i) 3 v) b o cells slots (pc + 3) lv st) : VV p l e R s m args below meth c Q x nL a b o cells slots pc lv (.int v :: .ref (x.2.1 (18 + 4 * i)) :: st) := V_put C (k := (18 + 4 * i)) (by omega) ((GE_C (by omega)).trans (GC_O hi)) (rfl : vwCl[2]? = some (RX0, TX0, 9)) 3 (by decide) iw_X0 rfl hl tyX0 tyX0_ok nmX0 rfl (ty := .int) (by decide +kernel) rfl rfl (Nat.le_of_ble_eq_true rfl) (wd_setC (by omega) (GC_O hi)) hd kk
theorem gt_X0_isResit (C : CX p l s m meth c x cc own nL) {i : Nat} (hi : i < 12) (hl : FLk own idx RX0 "isResit" "Z") (hd : decode cc pc = .ok (.getfield idx, 3)) (kk : VV p l e R s m args below meth c Q x nL a b o cells slots (pc + 3) lv (.int (a (18 + 4 * i) 4) :: st)) : VV p l e R s m args below meth c Q x nL a b o cells slots pc lv (.ref (x.2.1 (18 + 4 * i)) :: st) := V_get C (k := (18 + 4 * i)) (by omega) ((GE_C (by omega)).trans (GC_O hi)) (rfl : vwCl[2]? = some (RX0, TX0, 9)) 4 (by decide) iw_X0 rfl hl rfl hd kk
theorem pt_X0_isResit (C : CX p l s m meth c x cc own nL) {i : Nat} (hi : i < 12) {v : Int32} (hz : v = 0 ∨ v = 1) (hl : FLk own idx RX0 "isResit" "Z") (hd : decode cc pc = .ok (.putfield idx, 3)) (kk : VV p l e R s m args below meth c Q x nL (up2 a (18 + 4 * i) 4 v) b o cells slots (pc + 3) lv st) : VV p l e R s m args below meth c Q x nL a b o cells slots pc lv (.int v :: .ref (x.2.1 (18 + 4 * i)) :: st) := V_put C (k := (18 + 4 * i)) (by omega) ((GE_C (by omega)).trans (GC_O hi)) (rfl : vwCl[2]? = some (RX0, TX0, 9)) 4 (by decide) iw_X0 rfl hl tyX0 tyX0_ok nmX0 rfl (ty := .boolean) (by decide +kernel) (by rcases hz with rfl | rfl <;> rfl) (by rcases hz with rfl | rfl <;> rfl) (Nat.le_of_ble_eq_true rfl) (wd_setC (by omega) (GC_O hi)) hd kk
theorem gt_X0_paidBy (C : CX p l s m meth c x cc own nL) {i : Nat} (hi : i < 12) (hl : FLk own idx RX0 "paidBy" "[I") (hd : decode cc pc = .ok (.getfield idx, 3)) (kk : VV p l e R s m args below meth c Q x nL a b o cells slots (pc + 3) lv (.ref (x.2.1 (18 + 4 * i + 1)) :: st)) : VV p l e R s m args below meth c Q x nL a b o cells slots pc lv (.ref (x.2.1 (18 + 4 * i)) :: st) := V_get C (k := (18 + 4 * i)) (by omega) ((GE_C (by omega)).trans (GC_O hi)) (rfl : vwCl[2]? = some (RX0, TX0, 9)) 5 (by decide) iw_X0 rfl hl rfl hd kk
theorem gt_X0_waiters (C : CX p l s m meth c x cc own nL) {i : Nat} (hi : i < 12) (hl : FLk own idx RX0 "waiters" "[I") (hd : decode cc pc = .ok (.getfield idx, 3)) (kk : VV p l e R s m args below meth c Q x nL a b o cells slots (pc + 3) lv (.ref (x.2.1 (18 + 4 * i + 2)) :: st)) : VV p l e R s m args below meth c Q x nL a b o cells slots pc lv (.ref (x.2.1 (18 + 4 * i)) :: st) := V_get C (k := (18 + 4 * i)) (by omega) ((GE_C (by omega)).trans (GC_O hi)) (rfl : vwCl[2]? = some (RX0, TX0, 9)) 6 (by decide) iw_X0 rfl hl rfl hd kk
theorem gt_X0_waiterPoints (C : CX p l s m meth c x cc own nL) {i : Nat} (hi : i < 12) (hl : FLk own idx RX0 "waiterPoints" "[I") (hd : decode cc pc = .ok (.getfield idx, 3)) (kk : VV p l e R s m args below meth c Q x nL a b o cells slots (pc + 3) lv (.ref (x.2.1 (18 + 4 * i + 3)) :: st)) : VV p l e R s m args below meth c Q x nL a b o cells slots pc lv (.ref (x.2.1 (18 + 4 * i)) :: st) := V_get C (k := (18 + 4 * i)) (by omega) ((GE_C (by omega)).trans (GC_O hi)) (rfl : vwCl[2]? = some (RX0, TX0, 9)) 7 (by decide) iw_X0 rfl hl rfl hd kk
theorem gt_X0_waiterCount (C : CX p l s m meth c x cc own nL) {i : Nat} (hi : i < 12) (hl : FLk own idx RX0 "waiterCount" "I") (hd : decode cc pc = .ok (.getfield idx, 3)) (kk : VV p l e R s m args below meth c Q x nL a b o cells slots (pc + 3) lv (.int (a (18 + 4 * i) 8) :: st)) : VV p l e R s m args below meth c Q x nL a b o cells slots pc lv (.ref (x.2.1 (18 + 4 * i)) :: st) := V_get C (k := (18 + 4 * i)) (by omega) ((GE_C (by omega)).trans (GC_O hi)) (rfl : vwCl[2]? = some (RX0, TX0, 9)) 8 (by decide) iw_X0 rfl hl rfl hd kk
theorem pt_X0_waiterCount (C : CX p l s m meth c x cc own nL) {i : Nat} (hi : i < 12) {v : Int32} (hl : FLk own idx RX0 "waiterCount" "I") (hd : decode cc pc = .ok (.putfield idx, 3)) (kk : VV p l e R s m args below meth c Q x nL (up2 a (18 + 4 * i) 8 v) b o cells slots (pc + 3) lv st) : VV p l e R s m args below meth c Q x nL a b o cells slots pc lv (.int v :: .ref (x.2.1 (18 + 4 * i)) :: st) := V_put C (k := (18 + 4 * i)) (by omega) ((GE_C (by omega)).trans (GC_O hi)) (rfl : vwCl[2]? = some (RX0, TX0, 9)) 8 (by decide) iw_X0 rfl hl tyX0 tyX0_ok nmX0 rfl (ty := .int) (by decide +kernel) rfl rfl (Nat.le_of_ble_eq_true rfl) (wd_setC (by omega) (GC_O hi)) hd kk
theorem gt_X4_thrown (C : CX p l s m meth c x cc own nL) (hl : FLk own idx RX4 "thrown" "I") (hd : decode cc pc = .ok (.getfield idx, 3)) (kk : VV p l e R s m args below meth c Q x nL a b o cells slots (pc + 3) lv (.int (b 70 0) :: st)) : VV p l e R s m args below meth c Q x nL a b o cells slots pc lv (.ref (x.2.1 70) :: st) := V_get C (k := 70) (by decide) rfl (rfl : vwCl[6]? = some (RX4, TX4, 24)) 0 (by decide) iw_X4 rfl hl rfl hd kk
theorem pt_X4_thrown (C : CX p l s m meth c x cc own nL) {v : Int32} (hl : FLk own idx RX4 "thrown" "I") (hd : decode cc pc = .ok (.putfield idx, 3)) (kk : VV p l e R s m args below meth c Q x nL a (up2 b 70 0 v) o cells slots (pc + 3) lv st) : VV p l e R s m args below meth c Q x nL a b o cells slots pc lv (.int v :: .ref (x.2.1 70) :: st) := V_put C (k := 70) (by decide) rfl (rfl : vwCl[6]? = some (RX4, TX4, 24)) 0 (by decide) iw_X4 rfl hl tyX4 tyX4_ok nmX4 rfl (ty := .int) (by decide +kernel) rfl rfl (Nat.le_of_ble_eq_true rfl) (wd_setM (by decide) (by decide) rfl) hd kk
theorem gt_X4_rooms (C : CX p l s m meth c x cc own nL) (hl : FLk own idx RX4 "rooms" "I") (hd : decode cc pc = .ok (.getfield idx, 3)) (kk : VV p l e R s m args below meth c Q x nL a b o cells slots (pc + 3) lv (.int (b 70 1) :: st)) : VV p l e R s m args below meth c Q x nL a b o cells slots pc lv (.ref (x.2.1 70) :: st) := V_get C (k := 70) (by decide) rfl (rfl : vwCl[6]? = some (RX4, TX4, 24)) 1 (by decide) iw_X4 rfl hl rfl hd kk
theorem pt_X4_rooms (C : CX p l s m meth c x cc own nL) {v : Int32} (hl : FLk own idx RX4 "rooms" "I") (hd : decode cc pc = .ok (.putfield idx, 3)) (kk : VV p l e R s m args below meth c Q x nL a (up2 b 70 1 v) o cells slots (pc + 3) lv st) : VV p l e R s m args below meth c Q x nL a b o cells slots pc lv (.int v :: .ref (x.2.1 70) :: st) := V_put C (k := 70) (by decide) rfl (rfl : vwCl[6]? = some (RX4, TX4, 24)) 1 (by decide) iw_X4 rfl hl tyX4 tyX4_ok nmX4 rfl (ty := .int) (by decide +kernel) rfl rfl (Nat.le_of_ble_eq_true rfl) (wd_setM (by decide) (by decide) rfl) hd kk
theorem gt_X4_exams (C : CX p l s m meth c x cc own nL) (hl : FLk own idx RX4 "exams" "I") (hd : decode cc pc = .ok (.getfield idx, 3)) (kk : VV p l e R s m args below meth c Q x nL a b o cells slots (pc + 3) lv (.int (b 70 2) :: st)) : VV p l e R s m args below meth c Q x nL a b o cells slots pc lv (.ref (x.2.1 70) :: st) := V_get C (k := 70) (by decide) rfl (rfl : vwCl[6]? = some (RX4, TX4, 24)) 2 (by decide) iw_X4 rfl hl rfl hd kk
theorem pt_X4_exams (C : CX p l s m meth c x cc own nL) {v : Int32} (hl : FLk own idx RX4 "exams" "I") (hd : decode cc pc = .ok (.putfield idx, 3)) (kk : VV p l e R s m args below meth c Q x nL a (up2 b 70 2 v) o cells slots (pc + 3) lv st) : VV p l e R s m args below meth c Q x nL a b o cells slots pc lv (.int v :: .ref (x.2.1 70) :: st) := V_put C (k := 70) (by decide) rfl (rfl : vwCl[6]? = some (RX4, TX4, 24)) 2 (by decide) iw_X4 rfl hl tyX4 tyX4_ok nmX4 rfl (ty := .int) (by decide +kernel) rfl rfl (Nat.le_of_ble_eq_true rfl) (wd_setM (by decide) (by decide) rfl) hd kk
theorem gt_X4_pupils (C : CX p l s m meth c x cc own nL) (hl : FLk own idx RX4 "pupils" "I") (hd : decode cc pc = .ok (.getfield idx, 3)) (kk : VV p l e R s m args below meth c Q x nL a b o cells slots (pc + 3) lv (.int (b 70 3) :: st)) : VV p l e R s m args below meth c Q x nL a b o cells slots pc lv (.ref (x.2.1 70) :: st) := V_get C (k := 70) (by decide) rfl (rfl : vwCl[6]? = some (RX4, TX4, 24)) 3 (by decide) iw_X4 rfl hl rfl hd kk
theorem pt_X4_pupils (C : CX p l s m meth c x cc own nL) {v : Int32} (hl : FLk own idx RX4 "pupils" "I") (hd : decode cc pc = .ok (.putfield idx, 3)) (kk : VV p l e R s m args below meth c Q x nL a (up2 b 70 3 v) o cells slots (pc + 3) lv st) : VV p l e R s m args below meth c Q x nL a b o cells slots pc lv (.int v :: .ref (x.2.1 70) :: st) := V_put C (k := 70) (by decide) rfl (rfl : vwCl[6]? = some (RX4, TX4, 24)) 3 (by decide) iw_X4 rfl hl tyX4 tyX4_ok nmX4 rfl (ty := .int) (by decide +kernel) rfl rfl (Nat.le_of_ble_eq_true rfl) (wd_setM (by decide) (by decide) rfl) hd kk
theorem gt_X4_offers (C : CX p l s m meth c x cc own nL) (hl : FLk own idx RX4 "offers" "I") (hd : decode cc pc = .ok (.getfield idx, 3)) (kk : VV p l e R s m args below meth c Q x nL a b o cells slots (pc + 3) lv (.int (b 70 4) :: st)) : VV p l e R s m args below meth c Q x nL a b o cells slots pc lv (.ref (x.2.1 70) :: st) := V_get C (k := 70) (by decide) rfl (rfl : vwCl[6]? = some (RX4, TX4, 24)) 4 (by decide) iw_X4 rfl hl rfl hd kk
theorem pt_X4_offers (C : CX p l s m meth c x cc own nL) {v : Int32} (hl : FLk own idx RX4 "offers" "I") (hd : decode cc pc = .ok (.putfield idx, 3)) (kk : VV p l e R s m args below meth c Q x nL a (up2 b 70 4 v) o cells slots (pc + 3) lv st) : VV p l e R s m args below meth c Q x nL a b o cells slots pc lv (.int v :: .ref (x.2.1 70) :: st) := V_put C (k := 70) (by decide) rfl (rfl : vwCl[6]? = some (RX4, TX4, 24)) 4 (by decide) iw_X4 rfl hl tyX4 tyX4_ok nmX4 rfl (ty := .int) (by decide +kernel) rfl rfl (Nat.le_of_ble_eq_true rfl) (wd_setM (by decide) (by decide) rfl) hd kk
theorem gt_X4_rounds (C : CX p l s m meth c x cc own nL) (hl : FLk own idx RX4 "rounds" "I") (hd : decode cc pc = .ok (.getfield idx, 3)) (kk : VV p l e R s m args below meth c Q x nL a b o cells slots (pc + 3) lv (.int (b 70 5) :: st)) : VV p l e R s m args below meth c Q x nL a b o cells slots pc lv (.ref (x.2.1 70) :: st) := V_get C (k := 70) (by decide) rfl (rfl : vwCl[6]? = some (RX4, TX4, 24)) 5 (by decide) iw_X4 rfl hl rfl hd kk
theorem pt_X4_rounds (C : CX p l s m meth c x cc own nL) {v : Int32} (hl : FLk own idx RX4 "rounds" "I") (hd : decode cc pc = .ok (.putfield idx, 3)) (kk : VV p l e R s m args below meth c Q x nL a (up2 b 70 5 v) o cells slots (pc + 3) lv st) : VV p l e R s m args below meth c Q x nL a b o cells slots pc lv (.int v :: .ref (x.2.1 70) :: st) := V_put C (k := 70) (by decide) rfl (rfl : vwCl[6]? = some (RX4, TX4, 24)) 5 (by decide) iw_X4 rfl hl tyX4 tyX4_ok nmX4 rfl (ty := .int) (by decide +kernel) rfl rfl (Nat.le_of_ble_eq_true rfl) (wd_setM (by decide) (by decide) rfl) hd kk
theorem gt_X4_refunds (C : CX p l s m meth c x cc own nL) (hl : FLk own idx RX4 "refunds" "I") (hd : decode cc pc = .ok (.getfield idx, 3)) (kk : VV p l e R s m args below meth c Q x nL a b o cells slots (pc + 3) lv (.int (b 70 6) :: st)) : VV p l e R s m args below meth c Q x nL a b o cells slots pc lv (.ref (x.2.1 70) :: st) := V_get C (k := 70) (by decide) rfl (rfl : vwCl[6]? = some (RX4, TX4, 24)) 6 (by decide) iw_X4 rfl hl rfl hd kk
theorem pt_X4_refunds (C : CX p l s m meth c x cc own nL) {v : Int32} (hl : FLk own idx RX4 "refunds" "I") (hd : decode cc pc = .ok (.putfield idx, 3)) (kk : VV p l e R s m args below meth c Q x nL a (up2 b 70 6 v) o cells slots (pc + 3) lv st) : VV p l e R s m args below meth c Q x nL a b o cells slots pc lv (.int v :: .ref (x.2.1 70) :: st) := V_put C (k := 70) (by decide) rfl (rfl : vwCl[6]? = some (RX4, TX4, 24)) 6 (by decide) iw_X4 rfl hl tyX4 tyX4_ok nmX4 rfl (ty := .int) (by decide +kernel) rfl rfl (Nat.le_of_ble_eq_true rfl) (wd_setM (by decide) (by decide) rfl) hd kk
theorem gt_X4_told (C : CX p l s m meth c x cc own nL) (hl : FLk own idx RX4 "told" "I") (hd : decode cc pc = .ok (.getfield idx, 3)) (kk : VV p l e R s m args below meth c Q x nL a b o cells slots (pc + 3) lv (.int (b 70 7) :: st)) : VV p l e R s m args below meth c Q x nL a b o cells slots pc lv (.ref (x.2.1 70) :: st) := V_get C (k := 70) (by decide) rfl (rfl : vwCl[6]? = some (RX4, TX4, 24)) 7 (by decide) iw_X4 rfl hl rfl hd kk
theorem pt_X4_told (C : CX p l s m meth c x cc own nL) {v : Int32} (hl : FLk own idx RX4 "told" "I") (hd : decode cc pc = .ok (.putfield idx, 3)) (kk : VV p l e R s m args below meth c Q x nL a (up2 b 70 7 v) o cells slots (pc + 3) lv st) : VV p l e R s m args below meth c Q x nL a b o cells slots pc lv (.int v :: .ref (x.2.1 70) :: st) := V_put C (k := 70) (by decide) rfl (rfl : vwCl[6]? = some (RX4, TX4, 24)) 7 (by decide) iw_X4 rfl hl tyX4 tyX4_ok nmX4 rfl (ty := .int) (by decide +kernel) rfl rfl (Nat.le_of_ble_eq_true rfl) (wd_setM (by decide) (by decide) rfl) hd kk
theorem gt_X4_seats (C : CX p l s m meth c x cc own nL) (hl : FLk own idx RX4 "seats" "[I") (hd : decode cc pc = .ok (.getfield idx, 3)) (kk : VV p l e R s m args below meth c Q x nL a b o cells slots (pc + 3) lv (.ref (x.2.1 71) :: st)) : VV p l e R s m args below meth c Q x nL a b o cells slots pc lv (.ref (x.2.1 70) :: st) := V_get C (k := 70) (by decide) rfl (rfl : vwCl[6]? = some (RX4, TX4, 24)) 8 (by decide) iw_X4 rfl hl rfl hd kk
theorem gt_X4_exam (C : CX p l s m meth c x cc own nL) (hl : FLk own idx RX4 "exam" "[I") (hd : decode cc pc = .ok (.getfield idx, 3)) (kk : VV p l e R s m args below meth c Q x nL a b o cells slots (pc + 3) lv (.ref (x.2.1 72) :: st)) : VV p l e R s m args below meth c Q x nL a b o cells slots pc lv (.ref (x.2.1 70) :: st) := V_get C (k := 70) (by decide) rfl (rfl : vwCl[6]? = some (RX4, TX4, 24)) 9 (by decide) iw_X4 rfl hl rfl hd kk
theorem gt_X4_slot (C : CX p l s m meth c x cc own nL) (hl : FLk own idx RX4 "slot" "[I") (hd : decode cc pc = .ok (.getfield idx, 3)) (kk : VV p l e R s m args below meth c Q x nL a b o cells slots (pc + 3) lv (.ref (x.2.1 73) :: st)) : VV p l e R s m args below meth c Q x nL a b o cells slots pc lv (.ref (x.2.1 70) :: st) := V_get C (k := 70) (by decide) rfl (rfl : vwCl[6]? = some (RX4, TX4, 24)) 10 (by decide) iw_X4 rfl hl rfl hd kk
theorem gt_X4_room (C : CX p l s m meth c x cc own nL) (hl : FLk own idx RX4 "room" "[I") (hd : decode cc pc = .ok (.getfield idx, 3)) (kk : VV p l e R s m args below meth c Q x nL a b o cells slots (pc + 3) lv (.ref (x.2.1 74) :: st)) : VV p l e R s m args below meth c Q x nL a b o cells slots pc lv (.ref (x.2.1 70) :: st) := V_get C (k := 70) (by decide) rfl (rfl : vwCl[6]? = some (RX4, TX4, 24)) 11 (by decide) iw_X4 rfl hl rfl hd kk
theorem gt_X4_isResit (C : CX p l s m meth c x cc own nL) (hl : FLk own idx RX4 "isResit" "[Z") (hd : decode cc pc = .ok (.getfield idx, 3)) (kk : VV p l e R s m args below meth c Q x nL a b o cells slots (pc + 3) lv (.ref (x.2.1 75) :: st)) : VV p l e R s m args below meth c Q x nL a b o cells slots pc lv (.ref (x.2.1 70) :: st) := V_get C (k := 70) (by decide) rfl (rfl : vwCl[6]? = some (RX4, TX4, 24)) 12 (by decide) iw_X4 rfl hl rfl hd kk
theorem gt_X4_waiting (C : CX p l s m meth c x cc own nL) (hl : FLk own idx RX4 "waiting" "[I") (hd : decode cc pc = .ok (.getfield idx, 3)) (kk : VV p l e R s m args below meth c Q x nL a b o cells slots (pc + 3) lv (.ref (x.2.1 76) :: st)) : VV p l e R s m args below meth c Q x nL a b o cells slots pc lv (.ref (x.2.1 70) :: st) := V_get C (k := 70) (by decide) rfl (rfl : vwCl[6]? = some (RX4, TX4, 24)) 13 (by decide) iw_X4 rfl hl rfl hd kk
theorem gt_X4_waiter (C : CX p l s m meth c x cc own nL) (hl : FLk own idx RX4 "waiter" "[I") (hd : decode cc pc = .ok (.getfield idx, 3)) (kk : VV p l e R s m args below meth c Q x nL a b o cells slots (pc + 3) lv (.ref (x.2.1 77) :: st)) : VV p l e R s m args below meth c Q x nL a b o cells slots pc lv (.ref (x.2.1 70) :: st) := V_get C (k := 70) (by decide) rfl (rfl : vwCl[6]? = some (RX4, TX4, 24)) 14 (by decide) iw_X4 rfl hl rfl hd kk
theorem gt_X4_waits (C : CX p l s m meth c x cc own nL) (hl : FLk own idx RX4 "waits" "[I") (hd : decode cc pc = .ok (.getfield idx, 3)) (kk : VV p l e R s m args below meth c Q x nL a b o cells slots (pc + 3) lv (.ref (x.2.1 78) :: st)) : VV p l e R s m args below meth c Q x nL a b o cells slots pc lv (.ref (x.2.1 70) :: st) := V_get C (k := 70) (by decide) rfl (rfl : vwCl[6]? = some (RX4, TX4, 24)) 15 (by decide) iw_X4 rfl hl rfl hd kk
theorem gt_X4_bid (C : CX p l s m meth c x cc own nL) (hl : FLk own idx RX4 "bid" "[I") (hd : decode cc pc = .ok (.getfield idx, 3)) (kk : VV p l e R s m args below meth c Q x nL a b o cells slots (pc + 3) lv (.ref (x.2.1 79) :: st)) : VV p l e R s m args below meth c Q x nL a b o cells slots pc lv (.ref (x.2.1 70) :: st) := V_get C (k := 70) (by decide) rfl (rfl : vwCl[6]? = some (RX4, TX4, 24)) 16 (by decide) iw_X4 rfl hl rfl hd kk
theorem gt_X4_when (C : CX p l s m meth c x cc own nL) (hl : FLk own idx RX4 "when" "[I") (hd : decode cc pc = .ok (.getfield idx, 3)) (kk : VV p l e R s m args below meth c Q x nL a b o cells slots (pc + 3) lv (.ref (x.2.1 80) :: st)) : VV p l e R s m args below meth c Q x nL a b o cells slots pc lv (.ref (x.2.1 70) :: st) := V_get C (k := 70) (by decide) rfl (rfl : vwCl[6]? = some (RX4, TX4, 24)) 17 (by decide) iw_X4 rfl hl rfl hd kk
theorem gt_X4_paid (C : CX p l s m meth c x cc own nL) (hl : FLk own idx RX4 "paid" "[I") (hd : decode cc pc = .ok (.getfield idx, 3)) (kk : VV p l e R s m args below meth c Q x nL a b o cells slots (pc + 3) lv (.ref (x.2.1 81) :: st)) : VV p l e R s m args below meth c Q x nL a b o cells slots pc lv (.ref (x.2.1 70) :: st) := V_get C (k := 70) (by decide) rfl (rfl : vwCl[6]? = some (RX4, TX4, 24)) 18 (by decide) iw_X4 rfl hl rfl hd kk
theorem gt_X4_value (C : CX p l s m meth c x cc own nL) (hl : FLk own idx RX4 "value" "[I") (hd : decode cc pc = .ok (.getfield idx, 3)) (kk : VV p l e R s m args below meth c Q x nL a b o cells slots (pc + 3) lv (.ref (x.2.1 82) :: st)) : VV p l e R s m args below meth c Q x nL a b o cells slots pc lv (.ref (x.2.1 70) :: st) := V_get C (k := 70) (by decide) rfl (rfl : vwCl[6]? = some (RX4, TX4, 24)) 19 (by decide) iw_X4 rfl hl rfl hd kk
theorem gt_X4_owner (C : CX p l s m meth c x cc own nL) (hl : FLk own idx RX4 "owner" "[I") (hd : decode cc pc = .ok (.getfield idx, 3)) (kk : VV p l e R s m args below meth c Q x nL a b o cells slots (pc + 3) lv (.ref (x.2.1 83) :: st)) : VV p l e R s m args below meth c Q x nL a b o cells slots pc lv (.ref (x.2.1 70) :: st) := V_get C (k := 70) (by decide) rfl (rfl : vwCl[6]? = some (RX4, TX4, 24)) 20 (by decide) iw_X4 rfl hl rfl hd kk
theorem gt_X4_points (C : CX p l s m meth c x cc own nL) (hl : FLk own idx RX4 "points" "[I") (hd : decode cc pc = .ok (.getfield idx, 3)) (kk : VV p l e R s m args below meth c Q x nL a b o cells slots (pc + 3) lv (.ref (x.2.1 84) :: st)) : VV p l e R s m args below meth c Q x nL a b o cells slots pc lv (.ref (x.2.1 70) :: st) := V_get C (k := 70) (by decide) rfl (rfl : vwCl[6]? = some (RX4, TX4, 24)) 21 (by decide) iw_X4 rfl hl rfl hd kk
theorem gt_X4_isSat (C : CX p l s m meth c x cc own nL) (hl : FLk own idx RX4 "isSat" "[Z") (hd : decode cc pc = .ok (.getfield idx, 3)) (kk : VV p l e R s m args below meth c Q x nL a b o cells slots (pc + 3) lv (.ref (x.2.1 85) :: st)) : VV p l e R s m args below meth c Q x nL a b o cells slots pc lv (.ref (x.2.1 70) :: st) := V_get C (k := 70) (by decide) rfl (rfl : vwCl[6]? = some (RX4, TX4, 24)) 22 (by decide) iw_X4 rfl hl rfl hd kk
theorem gt_X4_hasSat (C : CX p l s m meth c x cc own nL) (hl : FLk own idx RX4 "hasSat" "[Z") (hd : decode cc pc = .ok (.getfield idx, 3)) (kk : VV p l e R s m args below meth c Q x nL a b o cells slots (pc + 3) lv (.ref (x.2.1 86) :: st)) : VV p l e R s m args below meth c Q x nL a b o cells slots pc lv (.ref (x.2.1 70) :: st) := V_get C (k := 70) (by decide) rfl (rfl : vwCl[6]? = some (RX4, TX4, 24)) 23 (by decide) iw_X4 rfl hl rfl hd kk
theorem la_rows (C : CX p l s m meth c x cc own nL) {r : Nat} (hr : r < 9) {iv : Int32} (j : Nat) (he : iv = nI j) (hj : j < 60) (hd : decode cc pc = .ok (.iaload, 1)) (kk : VV p l e R s m args below meth c Q x nL a b o cells slots (pc + 1) lv (.int (a (3 + r) j) :: st)) : VV p l e R s m args below meth c Q x nL a b o cells slots pc lv (.int iv :: .ref (x.2.1 (3 + r)) :: st) := V_iald C (k := (3 + r)) (by omega) ((GE_C (by omega)).trans (GC_R hr)) j hj (by decide) he hd kk
theorem sa_rows (C : CX p l s m meth c x cc own nL) {r : Nat} (hr : r < 9) {iv v : Int32} (j : Nat) (he : iv = nI j) (hj : j < 60) (hd : decode cc pc = .ok (.iastore, 1)) (kk : VV p l e R s m args below meth c Q x nL (up2 a (3 + r) j v) b o cells slots (pc + 1) lv st) : VV p l e R s m args below meth c Q x nL a b o cells slots pc lv (.int v :: .int iv :: .ref (x.2.1 (3 + r)) :: st) := V_iast C (k := (3 + r)) (by omega) ((GE_C (by omega)).trans (GC_R hr)) j hj (by decide) he (wd_setC (by omega) (GC_R hr)) hd kk
theorem la_owners (C : CX p l s m meth c x cc own nL) {iv : Int32} (j : Nat) (he : iv = nI j) (hj : j < 3) (hd : decode cc pc = .ok (.iaload, 1)) (kk : VV p l e R s m args below meth c Q x nL a b o cells slots (pc + 1) lv (.int (a 12 j) :: st)) : VV p l e R s m args below meth c Q x nL a b o cells slots pc lv (.int iv :: .ref (x.2.1 12) :: st) := V_iald C (k := 12) (by decide) rfl j hj (by decide) he hd kk
theorem sa_owners (C : CX p l s m meth c x cc own nL) {iv v : Int32} (j : Nat) (he : iv = nI j) (hj : j < 3) (hd : decode cc pc = .ok (.iastore, 1)) (kk : VV p l e R s m args below meth c Q x nL (up2 a 12 j v) b o cells slots (pc + 1) lv st) : VV p l e R s m args below meth c Q x nL a b o cells slots pc lv (.int v :: .int iv :: .ref (x.2.1 12) :: st) := V_iast C (k := 12) (by decide) rfl j hj (by decide) he (wd_setC (by decide) rfl) hd kk
theorem la_rpupils (C : CX p l s m meth c x cc own nL) {iv : Int32} (j : Nat) (he : iv = nI j) (hj : j < 120) (hd : decode cc pc = .ok (.iaload, 1)) (kk : VV p l e R s m args below meth c Q x nL a b o cells slots (pc + 1) lv (.int (a 14 j) :: st)) : VV p l e R s m args below meth c Q x nL a b o cells slots pc lv (.int iv :: .ref (x.2.1 14) :: st) := V_iald C (k := 14) (by decide) rfl j hj (by decide) he hd kk
theorem sa_rpupils (C : CX p l s m meth c x cc own nL) {iv v : Int32} (j : Nat) (he : iv = nI j) (hj : j < 120) (hd : decode cc pc = .ok (.iastore, 1)) (kk : VV p l e R s m args below meth c Q x nL (up2 a 14 j v) b o cells slots (pc + 1) lv st) : VV p l e R s m args below meth c Q x nL a b o cells slots pc lv (.int v :: .int iv :: .ref (x.2.1 14) :: st) := V_iast C (k := 14) (by decide) rfl j hj (by decide) he (wd_setC (by decide) rfl) hd kk
theorem la_roffers (C : CX p l s m meth c x cc own nL) {iv : Int32} (j : Nat) (he : iv = nI j) (hj : j < 120) (hd : decode cc pc = .ok (.iaload, 1)) (kk : VV p l e R s m args below meth c Q x nL a b o cells slots (pc + 1) lv (.int (a 15 j) :: st)) : VV p l e R s m args below meth c Q x nL a b o cells slots pc lv (.int iv :: .ref (x.2.1 15) :: st) := V_iald C (k := 15) (by decide) rfl j hj (by decide) he hd kk
theorem sa_roffers (C : CX p l s m meth c x cc own nL) {iv v : Int32} (j : Nat) (he : iv = nI j) (hj : j < 120) (hd : decode cc pc = .ok (.iastore, 1)) (kk : VV p l e R s m args below meth c Q x nL (up2 a 15 j v) b o cells slots (pc + 1) lv st) : VV p l e R s m args below meth c Q x nL a b o cells slots pc lv (.int v :: .int iv :: .ref (x.2.1 15) :: st) := V_iast C (k := 15) (by decide) rfl j hj (by decide) he (wd_setC (by decide) rfl) hd kk
theorem la_rpoints (C : CX p l s m meth c x cc own nL) {iv : Int32} (j : Nat) (he : iv = nI j) (hj : j < 120) (hd : decode cc pc = .ok (.iaload, 1)) (kk : VV p l e R s m args below meth c Q x nL a b o cells slots (pc + 1) lv (.int (a 16 j) :: st)) : VV p l e R s m args below meth c Q x nL a b o cells slots pc lv (.int iv :: .ref (x.2.1 16) :: st) := V_iald C (k := 16) (by decide) rfl j hj (by decide) he hd kk
theorem sa_rpoints (C : CX p l s m meth c x cc own nL) {iv v : Int32} (j : Nat) (he : iv = nI j) (hj : j < 120) (hd : decode cc pc = .ok (.iastore, 1)) (kk : VV p l e R s m args below meth c Q x nL (up2 a 16 j v) b o cells slots (pc + 1) lv st) : VV p l e R s m args below meth c Q x nL a b o cells slots pc lv (.int v :: .int iv :: .ref (x.2.1 16) :: st) := V_iast C (k := 16) (by decide) rfl j hj (by decide) he (wd_setC (by decide) rfl) hd kk
theorem la_seatsOf (C : CX p l s m meth c x cc own nL) {iv : Int32} (j : Nat) (he : iv = nI j) (hj : j < 3) (hd : decode cc pc = .ok (.iaload, 1)) (kk : VV p l e R s m args below meth c Q x nL a b o cells slots (pc + 1) lv (.int (a 66 j) :: st)) : VV p l e R s m args below meth c Q x nL a b o cells slots pc lv (.int iv :: .ref (x.2.1 66) :: st) := V_iald C (k := 66) (by decide) rfl j hj (by decide) he hd kk
theorem sa_seatsOf (C : CX p l s m meth c x cc own nL) {iv v : Int32} (j : Nat) (he : iv = nI j) (hj : j < 3) (hd : decode cc pc = .ok (.iastore, 1)) (kk : VV p l e R s m args below meth c Q x nL (up2 a 66 j v) b o cells slots (pc + 1) lv st) : VV p l e R s m args below meth c Q x nL a b o cells slots pc lv (.int v :: .int iv :: .ref (x.2.1 66) :: st) := V_iast C (k := 66) (by decide) rfl j hj (by decide) he (wd_setC (by decide) rfl) hd kk
theorem la_left (C : CX p l s m meth c x cc own nL) {iv : Int32} (j : Nat) (he : iv = nI j) (hj : j < 10) (hd : decode cc pc = .ok (.iaload, 1)) (kk : VV p l e R s m args below meth c Q x nL a b o cells slots (pc + 1) lv (.int (a 67 j) :: st)) : VV p l e R s m args below meth c Q x nL a b o cells slots pc lv (.int iv :: .ref (x.2.1 67) :: st) := V_iald C (k := 67) (by decide) rfl j hj (by decide) he hd kk
theorem sa_left (C : CX p l s m meth c x cc own nL) {iv v : Int32} (j : Nat) (he : iv = nI j) (hj : j < 10) (hd : decode cc pc = .ok (.iastore, 1)) (kk : VV p l e R s m args below meth c Q x nL (up2 a 67 j v) b o cells slots (pc + 1) lv st) : VV p l e R s m args below meth c Q x nL a b o cells slots pc lv (.int v :: .int iv :: .ref (x.2.1 67) :: st) := V_iast C (k := 67) (by decide) rfl j hj (by decide) he (wd_setC (by decide) rfl) hd kk
theorem la_forf (C : CX p l s m meth c x cc own nL) {iv : Int32} (j : Nat) (he : iv = nI j) (hj : j < 10) (hd : decode cc pc = .ok (.iaload, 1)) (kk : VV p l e R s m args below meth c Q x nL a b o cells slots (pc + 1) lv (.int (a 68 j) :: st)) : VV p l e R s m args below meth c Q x nL a b o cells slots pc lv (.int iv :: .ref (x.2.1 68) :: st) := V_iald C (k := 68) (by decide) rfl j hj (by decide) he hd kk
theorem sa_forf (C : CX p l s m meth c x cc own nL) {iv v : Int32} (j : Nat) (he : iv = nI j) (hj : j < 10) (hd : decode cc pc = .ok (.iastore, 1)) (kk : VV p l e R s m args below meth c Q x nL (up2 a 68 j v) b o cells slots (pc + 1) lv st) : VV p l e R s m args below meth c Q x nL a b o cells slots pc lv (.int v :: .int iv :: .ref (x.2.1 68) :: st) := V_iast C (k := 68) (by decide) rfl j hj (by decide) he (wd_setC (by decide) rfl) hd kk
theorem la_wasSat (C : CX p l s m meth c x cc own nL) {iv : Int32} (j : Nat) (he : iv = nI j) (hj : j < 6) (hd : decode cc pc = .ok (.baload, 1)) (kk : VV p l e R s m args below meth c Q x nL a b o cells slots (pc + 1) lv (.int (a 69 j) :: st)) : VV p l e R s m args below meth c Q x nL a b o cells slots pc lv (.int iv :: .ref (x.2.1 69) :: st) := V_zald C (k := 69) (by decide) rfl j hj (by decide) he hd kk
theorem sa_wasSat (C : CX p l s m meth c x cc own nL) {iv v : Int32} (j : Nat) (he : iv = nI j) (hj : j < 6) (hz : v = 0 ∨ v = 1) (hd : decode cc pc = .ok (.bastore, 1)) (kk : VV p l e R s m args below meth c Q x nL (up2 a 69 j v) b o cells slots (pc + 1) lv st) : VV p l e R s m args below meth c Q x nL a b o cells slots pc lv (.int v :: .int iv :: .ref (x.2.1 69) :: st) := V_zast C (k := 69) (by decide) rfl j hj (by decide) he hz (wd_setC (by decide) rfl) hd kk
theorem la_paidBy (C : CX p l s m meth c x cc own nL) {i : Nat} (hi : i < 12) {iv : Int32} (j : Nat) (he : iv = nI j) (hj : j < 10) (hd : decode cc pc = .ok (.iaload, 1)) (kk : VV p l e R s m args below meth c Q x nL a b o cells slots (pc + 1) lv (.int (a (18 + 4 * i + 1) j) :: st)) : VV p l e R s m args below meth c Q x nL a b o cells slots pc lv (.int iv :: .ref (x.2.1 (18 + 4 * i + 1)) :: st) := V_iald C (k := (18 + 4 * i + 1)) (by omega) ((GE_C (by omega)).trans (GC_OA hi (by decide) (by decide))) j hj (by decide) he hd kk
theorem sa_paidBy (C : CX p l s m meth c x cc own nL) {i : Nat} (hi : i < 12) {iv v : Int32} (j : Nat) (he : iv = nI j) (hj : j < 10) (hd : decode cc pc = .ok (.iastore, 1)) (kk : VV p l e R s m args below meth c Q x nL (up2 a (18 + 4 * i + 1) j v) b o cells slots (pc + 1) lv st) : VV p l e R s m args below meth c Q x nL a b o cells slots pc lv (.int v :: .int iv :: .ref (x.2.1 (18 + 4 * i + 1)) :: st) := V_iast C (k := (18 + 4 * i + 1)) (by omega) ((GE_C (by omega)).trans (GC_OA hi (by decide) (by decide))) j hj (by decide) he (wd_setC (by omega) (GC_OA hi (by decide) (by decide))) hd kk
theorem la_waiters (C : CX p l s m meth c x cc own nL) {i : Nat} (hi : i < 12) {iv : Int32} (j : Nat) (he : iv = nI j) (hj : j < 10) (hd : decode cc pc = .ok (.iaload, 1)) (kk : VV p l e R s m args below meth c Q x nL a b o cells slots (pc + 1) lv (.int (a (18 + 4 * i + 2) j) :: st)) : VV p l e R s m args below meth c Q x nL a b o cells slots pc lv (.int iv :: .ref (x.2.1 (18 + 4 * i + 2)) :: st) := V_iald C (k := (18 + 4 * i + 2)) (by omega) ((GE_C (by omega)).trans (GC_OA hi (by decide) (by decide))) j hj (by decide) he hd kk
theorem sa_waiters (C : CX p l s m meth c x cc own nL) {i : Nat} (hi : i < 12) {iv v : Int32} (j : Nat) (he : iv = nI j) (hj : j < 10) (hd : decode cc pc = .ok (.iastore, 1)) (kk : VV p l e R s m args below meth c Q x nL (up2 a (18 + 4 * i + 2) j v) b o cells slots (pc + 1) lv st) : VV p l e R s m args below meth c Q x nL a b o cells slots pc lv (.int v :: .int iv :: .ref (x.2.1 (18 + 4 * i + 2)) :: st) := V_iast C (k := (18 + 4 * i + 2)) (by omega) ((GE_C (by omega)).trans (GC_OA hi (by decide) (by decide))) j hj (by decide) he (wd_setC (by omega) (GC_OA hi (by decide) (by decide))) hd kk
theorem la_waiterPoints (C : CX p l s m meth c x cc own nL) {i : Nat} (hi : i < 12) {iv : Int32} (j : Nat) (he : iv = nI j) (hj : j < 10) (hd : decode cc pc = .ok (.iaload, 1)) (kk : VV p l e R s m args below meth c Q x nL a b o cells slots (pc + 1) lv (.int (a (18 + 4 * i + 3) j) :: st)) : VV p l e R s m args below meth c Q x nL a b o cells slots pc lv (.int iv :: .ref (x.2.1 (18 + 4 * i + 3)) :: st) := V_iald C (k := (18 + 4 * i + 3)) (by omega) ((GE_C (by omega)).trans (GC_OA hi (by decide) (by decide))) j hj (by decide) he hd kk
theorem sa_waiterPoints (C : CX p l s m meth c x cc own nL) {i : Nat} (hi : i < 12) {iv v : Int32} (j : Nat) (he : iv = nI j) (hj : j < 10) (hd : decode cc pc = .ok (.iastore, 1)) (kk : VV p l e R s m args below meth c Q x nL (up2 a (18 + 4 * i + 3) j v) b o cells slots (pc + 1) lv st) : VV p l e R s m args below meth c Q x nL a b o cells slots pc lv (.int v :: .int iv :: .ref (x.2.1 (18 + 4 * i + 3)) :: st) := V_iast C (k := (18 + 4 * i + 3)) (by omega) ((GE_C (by omega)).trans (GC_OA hi (by decide) (by decide))) j hj (by decide) he (wd_setC (by omega) (GC_OA hi (by decide) (by decide))) hd kk
theorem la_m_seats (C : CX p l s m meth c x cc own nL) {iv : Int32} (j : Nat) (he : iv = nI j) (hj : j < 3) (hd : decode cc pc = .ok (.iaload, 1)) (kk : VV p l e R s m args below meth c Q x nL a b o cells slots (pc + 1) lv (.int (b 71 j) :: st)) : VV p l e R s m args below meth c Q x nL a b o cells slots pc lv (.int iv :: .ref (x.2.1 71) :: st) := V_iald C (k := 71) (by decide) rfl j hj (by decide) he hd kk
theorem sa_m_seats (C : CX p l s m meth c x cc own nL) {iv v : Int32} (j : Nat) (he : iv = nI j) (hj : j < 3) (hd : decode cc pc = .ok (.iastore, 1)) (kk : VV p l e R s m args below meth c Q x nL a (up2 b 71 j v) o cells slots (pc + 1) lv st) : VV p l e R s m args below meth c Q x nL a b o cells slots pc lv (.int v :: .int iv :: .ref (x.2.1 71) :: st) := V_iast C (k := 71) (by decide) rfl j hj (by decide) he (wd_setM (by decide) (by decide) rfl) hd kk
theorem la_m_exam (C : CX p l s m meth c x cc own nL) {iv : Int32} (j : Nat) (he : iv = nI j) (hj : j < 12) (hd : decode cc pc = .ok (.iaload, 1)) (kk : VV p l e R s m args below meth c Q x nL a b o cells slots (pc + 1) lv (.int (b 72 j) :: st)) : VV p l e R s m args below meth c Q x nL a b o cells slots pc lv (.int iv :: .ref (x.2.1 72) :: st) := V_iald C (k := 72) (by decide) rfl j hj (by decide) he hd kk
theorem sa_m_exam (C : CX p l s m meth c x cc own nL) {iv v : Int32} (j : Nat) (he : iv = nI j) (hj : j < 12) (hd : decode cc pc = .ok (.iastore, 1)) (kk : VV p l e R s m args below meth c Q x nL a (up2 b 72 j v) o cells slots (pc + 1) lv st) : VV p l e R s m args below meth c Q x nL a b o cells slots pc lv (.int v :: .int iv :: .ref (x.2.1 72) :: st) := V_iast C (k := 72) (by decide) rfl j hj (by decide) he (wd_setM (by decide) (by decide) rfl) hd kk
theorem la_m_slot (C : CX p l s m meth c x cc own nL) {iv : Int32} (j : Nat) (he : iv = nI j) (hj : j < 12) (hd : decode cc pc = .ok (.iaload, 1)) (kk : VV p l e R s m args below meth c Q x nL a b o cells slots (pc + 1) lv (.int (b 73 j) :: st)) : VV p l e R s m args below meth c Q x nL a b o cells slots pc lv (.int iv :: .ref (x.2.1 73) :: st) := V_iald C (k := 73) (by decide) rfl j hj (by decide) he hd kk
theorem sa_m_slot (C : CX p l s m meth c x cc own nL) {iv v : Int32} (j : Nat) (he : iv = nI j) (hj : j < 12) (hd : decode cc pc = .ok (.iastore, 1)) (kk : VV p l e R s m args below meth c Q x nL a (up2 b 73 j v) o cells slots (pc + 1) lv st) : VV p l e R s m args below meth c Q x nL a b o cells slots pc lv (.int v :: .int iv :: .ref (x.2.1 73) :: st) := V_iast C (k := 73) (by decide) rfl j hj (by decide) he (wd_setM (by decide) (by decide) rfl) hd kk
theorem la_m_room (C : CX p l s m meth c x cc own nL) {iv : Int32} (j : Nat) (he : iv = nI j) (hj : j < 12) (hd : decode cc pc = .ok (.iaload, 1)) (kk : VV p l e R s m args below meth c Q x nL a b o cells slots (pc + 1) lv (.int (b 74 j) :: st)) : VV p l e R s m args below meth c Q x nL a b o cells slots pc lv (.int iv :: .ref (x.2.1 74) :: st) := V_iald C (k := 74) (by decide) rfl j hj (by decide) he hd kk
theorem sa_m_room (C : CX p l s m meth c x cc own nL) {iv v : Int32} (j : Nat) (he : iv = nI j) (hj : j < 12) (hd : decode cc pc = .ok (.iastore, 1)) (kk : VV p l e R s m args below meth c Q x nL a (up2 b 74 j v) o cells slots (pc + 1) lv st) : VV p l e R s m args below meth c Q x nL a b o cells slots pc lv (.int v :: .int iv :: .ref (x.2.1 74) :: st) := V_iast C (k := 74) (by decide) rfl j hj (by decide) he (wd_setM (by decide) (by decide) rfl) hd kk
theorem la_m_isResit (C : CX p l s m meth c x cc own nL) {iv : Int32} (j : Nat) (he : iv = nI j) (hj : j < 12) (hd : decode cc pc = .ok (.baload, 1)) (kk : VV p l e R s m args below meth c Q x nL a b o cells slots (pc + 1) lv (.int (b 75 j) :: st)) : VV p l e R s m args below meth c Q x nL a b o cells slots pc lv (.int iv :: .ref (x.2.1 75) :: st) := V_zald C (k := 75) (by decide) rfl j hj (by decide) he hd kk
theorem sa_m_isResit (C : CX p l s m meth c x cc own nL) {iv v : Int32} (j : Nat) (he : iv = nI j) (hj : j < 12) (hz : v = 0 ∨ v = 1) (hd : decode cc pc = .ok (.bastore, 1)) (kk : VV p l e R s m args below meth c Q x nL a (up2 b 75 j v) o cells slots (pc + 1) lv st) : VV p l e R s m args below meth c Q x nL a b o cells slots pc lv (.int v :: .int iv :: .ref (x.2.1 75) :: st) := V_zast C (k := 75) (by decide) rfl j hj (by decide) he hz (wd_setM (by decide) (by decide) rfl) hd kk
theorem la_m_waiting (C : CX p l s m meth c x cc own nL) {iv : Int32} (j : Nat) (he : iv = nI j) (hj : j < 12) (hd : decode cc pc = .ok (.iaload, 1)) (kk : VV p l e R s m args below meth c Q x nL a b o cells slots (pc + 1) lv (.int (b 76 j) :: st)) : VV p l e R s m args below meth c Q x nL a b o cells slots pc lv (.int iv :: .ref (x.2.1 76) :: st) := V_iald C (k := 76) (by decide) rfl j hj (by decide) he hd kk
theorem sa_m_waiting (C : CX p l s m meth c x cc own nL) {iv v : Int32} (j : Nat) (he : iv = nI j) (hj : j < 12) (hd : decode cc pc = .ok (.iastore, 1)) (kk : VV p l e R s m args below meth c Q x nL a (up2 b 76 j v) o cells slots (pc + 1) lv st) : VV p l e R s m args below meth c Q x nL a b o cells slots pc lv (.int v :: .int iv :: .ref (x.2.1 76) :: st) := V_iast C (k := 76) (by decide) rfl j hj (by decide) he (wd_setM (by decide) (by decide) rfl) hd kk
theorem la_m_waiter (C : CX p l s m meth c x cc own nL) {iv : Int32} (j : Nat) (he : iv = nI j) (hj : j < 120) (hd : decode cc pc = .ok (.iaload, 1)) (kk : VV p l e R s m args below meth c Q x nL a b o cells slots (pc + 1) lv (.int (b 77 j) :: st)) : VV p l e R s m args below meth c Q x nL a b o cells slots pc lv (.int iv :: .ref (x.2.1 77) :: st) := V_iald C (k := 77) (by decide) rfl j hj (by decide) he hd kk
theorem sa_m_waiter (C : CX p l s m meth c x cc own nL) {iv v : Int32} (j : Nat) (he : iv = nI j) (hj : j < 120) (hd : decode cc pc = .ok (.iastore, 1)) (kk : VV p l e R s m args below meth c Q x nL a (up2 b 77 j v) o cells slots (pc + 1) lv st) : VV p l e R s m args below meth c Q x nL a b o cells slots pc lv (.int v :: .int iv :: .ref (x.2.1 77) :: st) := V_iast C (k := 77) (by decide) rfl j hj (by decide) he (wd_setM (by decide) (by decide) rfl) hd kk
theorem la_m_waits (C : CX p l s m meth c x cc own nL) {iv : Int32} (j : Nat) (he : iv = nI j) (hj : j < 120) (hd : decode cc pc = .ok (.iaload, 1)) (kk : VV p l e R s m args below meth c Q x nL a b o cells slots (pc + 1) lv (.int (b 78 j) :: st)) : VV p l e R s m args below meth c Q x nL a b o cells slots pc lv (.int iv :: .ref (x.2.1 78) :: st) := V_iald C (k := 78) (by decide) rfl j hj (by decide) he hd kk
theorem sa_m_waits (C : CX p l s m meth c x cc own nL) {iv v : Int32} (j : Nat) (he : iv = nI j) (hj : j < 120) (hd : decode cc pc = .ok (.iastore, 1)) (kk : VV p l e R s m args below meth c Q x nL a (up2 b 78 j v) o cells slots (pc + 1) lv st) : VV p l e R s m args below meth c Q x nL a b o cells slots pc lv (.int v :: .int iv :: .ref (x.2.1 78) :: st) := V_iast C (k := 78) (by decide) rfl j hj (by decide) he (wd_setM (by decide) (by decide) rfl) hd kk
theorem la_m_bid (C : CX p l s m meth c x cc own nL) {iv : Int32} (j : Nat) (he : iv = nI j) (hj : j < 120) (hd : decode cc pc = .ok (.iaload, 1)) (kk : VV p l e R s m args below meth c Q x nL a b o cells slots (pc + 1) lv (.int (b 79 j) :: st)) : VV p l e R s m args below meth c Q x nL a b o cells slots pc lv (.int iv :: .ref (x.2.1 79) :: st) := V_iald C (k := 79) (by decide) rfl j hj (by decide) he hd kk
theorem sa_m_bid (C : CX p l s m meth c x cc own nL) {iv v : Int32} (j : Nat) (he : iv = nI j) (hj : j < 120) (hd : decode cc pc = .ok (.iastore, 1)) (kk : VV p l e R s m args below meth c Q x nL a (up2 b 79 j v) o cells slots (pc + 1) lv st) : VV p l e R s m args below meth c Q x nL a b o cells slots pc lv (.int v :: .int iv :: .ref (x.2.1 79) :: st) := V_iast C (k := 79) (by decide) rfl j hj (by decide) he (wd_setM (by decide) (by decide) rfl) hd kk
theorem la_m_when (C : CX p l s m meth c x cc own nL) {iv : Int32} (j : Nat) (he : iv = nI j) (hj : j < 120) (hd : decode cc pc = .ok (.iaload, 1)) (kk : VV p l e R s m args below meth c Q x nL a b o cells slots (pc + 1) lv (.int (b 80 j) :: st)) : VV p l e R s m args below meth c Q x nL a b o cells slots pc lv (.int iv :: .ref (x.2.1 80) :: st) := V_iald C (k := 80) (by decide) rfl j hj (by decide) he hd kk
theorem sa_m_when (C : CX p l s m meth c x cc own nL) {iv v : Int32} (j : Nat) (he : iv = nI j) (hj : j < 120) (hd : decode cc pc = .ok (.iastore, 1)) (kk : VV p l e R s m args below meth c Q x nL a (up2 b 80 j v) o cells slots (pc + 1) lv st) : VV p l e R s m args below meth c Q x nL a b o cells slots pc lv (.int v :: .int iv :: .ref (x.2.1 80) :: st) := V_iast C (k := 80) (by decide) rfl j hj (by decide) he (wd_setM (by decide) (by decide) rfl) hd kk
theorem la_m_paid (C : CX p l s m meth c x cc own nL) {iv : Int32} (j : Nat) (he : iv = nI j) (hj : j < 120) (hd : decode cc pc = .ok (.iaload, 1)) (kk : VV p l e R s m args below meth c Q x nL a b o cells slots (pc + 1) lv (.int (b 81 j) :: st)) : VV p l e R s m args below meth c Q x nL a b o cells slots pc lv (.int iv :: .ref (x.2.1 81) :: st) := V_iald C (k := 81) (by decide) rfl j hj (by decide) he hd kk
theorem sa_m_paid (C : CX p l s m meth c x cc own nL) {iv v : Int32} (j : Nat) (he : iv = nI j) (hj : j < 120) (hd : decode cc pc = .ok (.iastore, 1)) (kk : VV p l e R s m args below meth c Q x nL a (up2 b 81 j v) o cells slots (pc + 1) lv st) : VV p l e R s m args below meth c Q x nL a b o cells slots pc lv (.int v :: .int iv :: .ref (x.2.1 81) :: st) := V_iast C (k := 81) (by decide) rfl j hj (by decide) he (wd_setM (by decide) (by decide) rfl) hd kk
theorem la_m_value (C : CX p l s m meth c x cc own nL) {iv : Int32} (j : Nat) (he : iv = nI j) (hj : j < 540) (hd : decode cc pc = .ok (.iaload, 1)) (kk : VV p l e R s m args below meth c Q x nL a b o cells slots (pc + 1) lv (.int (b 82 j) :: st)) : VV p l e R s m args below meth c Q x nL a b o cells slots pc lv (.int iv :: .ref (x.2.1 82) :: st) := V_iald C (k := 82) (by decide) rfl j hj (by decide) he hd kk
theorem sa_m_value (C : CX p l s m meth c x cc own nL) {iv v : Int32} (j : Nat) (he : iv = nI j) (hj : j < 540) (hd : decode cc pc = .ok (.iastore, 1)) (kk : VV p l e R s m args below meth c Q x nL a (up2 b 82 j v) o cells slots (pc + 1) lv st) : VV p l e R s m args below meth c Q x nL a b o cells slots pc lv (.int v :: .int iv :: .ref (x.2.1 82) :: st) := V_iast C (k := 82) (by decide) rfl j hj (by decide) he (wd_setM (by decide) (by decide) rfl) hd kk
theorem la_m_owner (C : CX p l s m meth c x cc own nL) {iv : Int32} (j : Nat) (he : iv = nI j) (hj : j < 3) (hd : decode cc pc = .ok (.iaload, 1)) (kk : VV p l e R s m args below meth c Q x nL a b o cells slots (pc + 1) lv (.int (b 83 j) :: st)) : VV p l e R s m args below meth c Q x nL a b o cells slots pc lv (.int iv :: .ref (x.2.1 83) :: st) := V_iald C (k := 83) (by decide) rfl j hj (by decide) he hd kk
theorem sa_m_owner (C : CX p l s m meth c x cc own nL) {iv v : Int32} (j : Nat) (he : iv = nI j) (hj : j < 3) (hd : decode cc pc = .ok (.iastore, 1)) (kk : VV p l e R s m args below meth c Q x nL a (up2 b 83 j v) o cells slots (pc + 1) lv st) : VV p l e R s m args below meth c Q x nL a b o cells slots pc lv (.int v :: .int iv :: .ref (x.2.1 83) :: st) := V_iast C (k := 83) (by decide) rfl j hj (by decide) he (wd_setM (by decide) (by decide) rfl) hd kk
theorem la_m_points (C : CX p l s m meth c x cc own nL) {iv : Int32} (j : Nat) (he : iv = nI j) (hj : j < 10) (hd : decode cc pc = .ok (.iaload, 1)) (kk : VV p l e R s m args below meth c Q x nL a b o cells slots (pc + 1) lv (.int (b 84 j) :: st)) : VV p l e R s m args below meth c Q x nL a b o cells slots pc lv (.int iv :: .ref (x.2.1 84) :: st) := V_iald C (k := 84) (by decide) rfl j hj (by decide) he hd kk
theorem sa_m_points (C : CX p l s m meth c x cc own nL) {iv v : Int32} (j : Nat) (he : iv = nI j) (hj : j < 10) (hd : decode cc pc = .ok (.iastore, 1)) (kk : VV p l e R s m args below meth c Q x nL a (up2 b 84 j v) o cells slots (pc + 1) lv st) : VV p l e R s m args below meth c Q x nL a b o cells slots pc lv (.int v :: .int iv :: .ref (x.2.1 84) :: st) := V_iast C (k := 84) (by decide) rfl j hj (by decide) he (wd_setM (by decide) (by decide) rfl) hd kk
theorem la_m_isSat (C : CX p l s m meth c x cc own nL) {iv : Int32} (j : Nat) (he : iv = nI j) (hj : j < 6) (hd : decode cc pc = .ok (.baload, 1)) (kk : VV p l e R s m args below meth c Q x nL a b o cells slots (pc + 1) lv (.int (b 85 j) :: st)) : VV p l e R s m args below meth c Q x nL a b o cells slots pc lv (.int iv :: .ref (x.2.1 85) :: st) := V_zald C (k := 85) (by decide) rfl j hj (by decide) he hd kk
theorem sa_m_isSat (C : CX p l s m meth c x cc own nL) {iv v : Int32} (j : Nat) (he : iv = nI j) (hj : j < 6) (hz : v = 0 ∨ v = 1) (hd : decode cc pc = .ok (.bastore, 1)) (kk : VV p l e R s m args below meth c Q x nL a (up2 b 85 j v) o cells slots (pc + 1) lv st) : VV p l e R s m args below meth c Q x nL a b o cells slots pc lv (.int v :: .int iv :: .ref (x.2.1 85) :: st) := V_zast C (k := 85) (by decide) rfl j hj (by decide) he hz (wd_setM (by decide) (by decide) rfl) hd kk
theorem la_m_hasSat (C : CX p l s m meth c x cc own nL) {iv : Int32} (j : Nat) (he : iv = nI j) (hj : j < 120) (hd : decode cc pc = .ok (.baload, 1)) (kk : VV p l e R s m args below meth c Q x nL a b o cells slots (pc + 1) lv (.int (b 86 j) :: st)) : VV p l e R s m args below meth c Q x nL a b o cells slots pc lv (.int iv :: .ref (x.2.1 86) :: st) := V_zald C (k := 86) (by decide) rfl j hj (by decide) he hd kk
theorem sa_m_hasSat (C : CX p l s m meth c x cc own nL) {iv v : Int32} (j : Nat) (he : iv = nI j) (hj : j < 120) (hz : v = 0 ∨ v = 1) (hd : decode cc pc = .ok (.bastore, 1)) (kk : VV p l e R s m args below meth c Q x nL a (up2 b 86 j v) o cells slots (pc + 1) lv st) : VV p l e R s m args below meth c Q x nL a b o cells slots pc lv (.int v :: .int iv :: .ref (x.2.1 86) :: st) := V_zast C (k := 86) (by decide) rfl j hj (by decide) he hz (wd_setM (by decide) (by decide) rfl) hd kk
theorem la_offers (C : CX p l s m meth c x cc own nL) {iv : Int32} (j : Nat) (he : iv = nI j) (hj : j < 12) (hd : decode cc pc = .ok (.aaload, 1)) (kk : VV p l e R s m args below meth c Q x nL a b o cells slots (pc + 1) lv (.ref (x.2.1 (18 + 4 * j)) :: st)) : VV p l e R s m args below meth c Q x nL a b o cells slots pc lv (.int iv :: .ref (x.2.1 17) :: st) := V_aald C (k := 17) (by decide) rfl j hj (by decide) he hd kk
theorem la_values (C : CX p l s m meth c x cc own nL) {iv : Int32} (j : Nat) (he : iv = nI j) (hj : j < 9) (hd : decode cc pc = .ok (.aaload, 1)) (kk : VV p l e R s m args below meth c Q x nL a b o cells slots (pc + 1) lv (.ref (x.2.1 (3 + j)) :: st)) : VV p l e R s m args below meth c Q x nL a b o cells slots pc lv (.int iv :: .ref (x.2.1 2) :: st) := V_aald2 C (k := 2) (by decide) rfl j hj (by decide) he hd kk
end FLD
end
section
set_option maxRecDepth 100000 in
theorem mi_X1_rowOf : MSW yX1_rowOf cX1_rowOf 2 (some .int) 2 := ⟨nw_mem 103 rfl rfl, nw_mem 71 rfl rfl, nw_mem 104 rfl rfl, by decide +kernel, by decide +kernel, by decide +kernel⟩
set_option maxRecDepth 100000 in
theorem mi_X3_bids : MIW yX3_bids cX3_bids 1 (some .int) 0 := ⟨nw_mem 223 rfl rfl, nw_mem 224 rfl rfl, nw_mem 70 rfl rfl, nw_mem 225 rfl rfl, by decide +kernel, by decide +kernel, by decide +kernel⟩
set_option maxRecDepth 100000 in
theorem mi_X3_settle : MIW yX3_settle cX3_settle 3 (some .int) 0 := ⟨nw_mem 227 rfl rfl, nw_mem 228 rfl rfl, nw_mem 70 rfl rfl, nw_mem 229 rfl rfl, by decide +kernel, by decide +kernel, by decide +kernel⟩
set_option maxRecDepth 100000 in
theorem mi_X3_isSeatWon : MIW yX3_isSeatWon cX3_isSeatWon 4 (some .boolean) 3 := ⟨nw_mem 232 rfl rfl, nw_mem 0 rfl rfl, nw_mem 70 rfl rfl, nw_mem 233 rfl rfl, by decide +kernel, by decide +kernel, by decide +kernel⟩
set_option maxRecDepth 100000 in
theorem mi_X3_needsOnlySeat : MIW yX3_needsOnlySeat cX3_needsOnlySeat 4 (some .boolean) 3 := ⟨nw_mem 236 rfl rfl, nw_mem 1 rfl rfl, nw_mem 70 rfl rfl, nw_mem 237 rfl rfl, by decide +kernel, by decide +kernel, by decide +kernel⟩
set_option maxRecDepth 100000 in
theorem mi_X3_isClosed : MIW yX3_isClosed cX3_isClosed 2 (some .boolean) 1 := ⟨nw_mem 240 rfl rfl, nw_mem 2 rfl rfl, nw_mem 70 rfl rfl, nw_mem 241 rfl rfl, by decide +kernel, by decide +kernel, by decide +kernel⟩
set_option maxRecDepth 100000 in
theorem mi_X3_mayHaveSeat : MIW yX3_mayHaveSeat cX3_mayHaveSeat 3 (some .boolean) 2 := ⟨nw_mem 244 rfl rfl, nw_mem 3 rfl rfl, nw_mem 70 rfl rfl, nw_mem 245 rfl rfl, by decide +kernel, by decide +kernel, by decide +kernel⟩
set_option maxRecDepth 100000 in
theorem mi_X1_isRightGiven : MIW yX1_isRightGiven cX1_isRightGiven 3 (some .boolean) 2 := ⟨nw_mem 248 rfl rfl, nw_mem 4 rfl rfl, nw_mem 71 rfl rfl, nw_mem 249 rfl rfl, by decide +kernel, by decide +kernel, by decide +kernel⟩
set_option maxRecDepth 100000 in
theorem mi_X1_cellOf : MSW yX1_cellOf cX1_cellOf 2 (some .int) 2 := ⟨nw_mem 251 rfl rfl, nw_mem 71 rfl rfl, nw_mem 252 rfl rfl, by decide +kernel, by decide +kernel, by decide +kernel⟩
set_option maxRecDepth 100000 in
theorem mi_X1_isAgreed : MIW yX1_isAgreed cX1_isAgreed 5 (some .boolean) 2 := ⟨nw_mem 255 rfl rfl, nw_mem 5 rfl rfl, nw_mem 71 rfl rfl, nw_mem 256 rfl rfl, by decide +kernel, by decide +kernel, by decide +kernel⟩
set_option maxRecDepth 100000 in
theorem mi_X1_valueByOwner : MIW yX1_valueByOwner cX1_valueByOwner 4 (some .int) 3 := ⟨nw_mem 259 rfl rfl, nw_mem 6 rfl rfl, nw_mem 71 rfl rfl, nw_mem 260 rfl rfl, by decide +kernel, by decide +kernel, by decide +kernel⟩
set_option maxRecDepth 100000 in
theorem mi_X1_valueIn : MIW yX1_valueIn cX1_valueIn 5 (some .int) 4 := ⟨nw_mem 263 rfl rfl, nw_mem 7 rfl rfl, nw_mem 71 rfl rfl, nw_mem 264 rfl rfl, by decide +kernel, by decide +kernel, by decide +kernel⟩
set_option maxRecDepth 100000 in
theorem mi_X1_isResitOpen : MIW yX1_isResitOpen cX1_isResitOpen 4 (some .boolean) 2 := ⟨nw_mem 267 rfl rfl, nw_mem 8 rfl rfl, nw_mem 71 rfl rfl, nw_mem 268 rfl rfl, by decide +kernel, by decide +kernel, by decide +kernel⟩
set_option maxRecDepth 100000 in
theorem mi_X3_offerHeldFor : MIW yX3_offerHeldFor cX3_offerHeldFor 5 (some .int) 3 := ⟨nw_mem 272 rfl rfl, nw_mem 9 rfl rfl, nw_mem 70 rfl rfl, nw_mem 273 rfl rfl, by decide +kernel, by decide +kernel, by decide +kernel⟩
set_option maxRecDepth 100000 in
theorem mi_X0_isOf : MIW yX0_isOf cX0_isOf 3 (some .boolean) 2 := ⟨nw_mem 276 rfl rfl, nw_mem 10 rfl rfl, nw_mem 73 rfl rfl, nw_mem 277 rfl rfl, by decide +kernel, by decide +kernel, by decide +kernel⟩
set_option maxRecDepth 100000 in
theorem mi_X0_hasSeated : MIW yX0_hasSeated cX0_hasSeated 2 (some .boolean) 1 := ⟨nw_mem 280 rfl rfl, nw_mem 11 rfl rfl, nw_mem 73 rfl rfl, nw_mem 281 rfl rfl, by decide +kernel, by decide +kernel, by decide +kernel⟩
set_option maxRecDepth 100000 in
theorem mi_X3_offerHeldAt : MIW yX3_offerHeldAt cX3_offerHeldAt 4 (some .int) 2 := ⟨nw_mem 284 rfl rfl, nw_mem 12 rfl rfl, nw_mem 70 rfl rfl, nw_mem 285 rfl rfl, by decide +kernel, by decide +kernel, by decide +kernel⟩
set_option maxRecDepth 100000 in
theorem mi_X0_isFull : MIW yX0_isFull cX0_isFull 1 (some .boolean) 0 := ⟨nw_mem 288 rfl rfl, nw_mem 13 rfl rfl, nw_mem 73 rfl rfl, nw_mem 289 rfl rfl, by decide +kernel, by decide +kernel, by decide +kernel⟩
set_option maxRecDepth 100000 in
theorem mi_X0_countTaken : MIW yX0_countTaken cX0_countTaken 3 (some .int) 0 := ⟨nw_mem 292 rfl rfl, nw_mem 14 rfl rfl, nw_mem 73 rfl rfl, nw_mem 293 rfl rfl, by decide +kernel, by decide +kernel, by decide +kernel⟩
set_option maxRecDepth 100000 in
theorem mi_X0_letWait : MIW yX0_letWait cX0_letWait 3 none 2 := ⟨nw_mem 297 rfl rfl, nw_mem 15 rfl rfl, nw_mem 73 rfl rfl, nw_mem 298 rfl rfl, by decide +kernel, by decide +kernel, by decide +kernel⟩
set_option maxRecDepth 100000 in
theorem mi_X0_placeInQueue : MIW yX0_placeInQueue cX0_placeInQueue 3 (some .int) 1 := ⟨nw_mem 301 rfl rfl, nw_mem 16 rfl rfl, nw_mem 73 rfl rfl, nw_mem 302 rfl rfl, by decide +kernel, by decide +kernel, by decide +kernel⟩
set_option maxRecDepth 100000 in
theorem mi_X3_giveSeat : MIW yX3_giveSeat cX3_giveSeat 5 none 3 := ⟨nw_mem 305 rfl rfl, nw_mem 17 rfl rfl, nw_mem 70 rfl rfl, nw_mem 306 rfl rfl, by decide +kernel, by decide +kernel, by decide +kernel⟩
set_option maxRecDepth 100000 in
theorem mi_X0_letWaitNoMore : MIW yX0_letWaitNoMore cX0_letWaitNoMore 4 none 1 := ⟨nw_mem 309 rfl rfl, nw_mem 18 rfl rfl, nw_mem 73 rfl rfl, nw_mem 310 rfl rfl, by decide +kernel, by decide +kernel, by decide +kernel⟩
set_option maxRecDepth 100000 in
theorem mi_X3_rounds : MIW yX3_rounds cX3_rounds 1 (some .int) 0 := ⟨nw_mem 312 rfl rfl, nw_mem 313 rfl rfl, nw_mem 70 rfl rfl, nw_mem 314 rfl rfl, by decide +kernel, by decide +kernel, by decide +kernel⟩
set_option maxRecDepth 100000 in
theorem mi_X3_refunds : MIW yX3_refunds cX3_refunds 1 (some .int) 0 := ⟨nw_mem 316 rfl rfl, nw_mem 317 rfl rfl, nw_mem 70 rfl rfl, nw_mem 318 rfl rfl, by decide +kernel, by decide +kernel, by decide +kernel⟩
set_option maxRecDepth 100000 in
theorem mi_X3_isTrue : MIW yX3_isTrue cX3_isTrue 2 (some .boolean) 0 := ⟨nw_mem 320 rfl rfl, nw_mem 321 rfl rfl, nw_mem 70 rfl rfl, nw_mem 322 rfl rfl, by decide +kernel, by decide +kernel, by decide +kernel⟩
set_option maxRecDepth 100000 in
theorem mi_X3_hasSeatsThatClash : MIW yX3_hasSeatsThatClash cX3_hasSeatsThatClash 7 (some .boolean) 1 := ⟨nw_mem 325 rfl rfl, nw_mem 19 rfl rfl, nw_mem 70 rfl rfl, nw_mem 326 rfl rfl, by decide +kernel, by decide +kernel, by decide +kernel⟩
set_option maxRecDepth 100000 in
theorem mi_X3_arePointsWhole : MIW yX3_arePointsWhole cX3_arePointsWhole 4 (some .boolean) 1 := ⟨nw_mem 329 rfl rfl, nw_mem 20 rfl rfl, nw_mem 70 rfl rfl, nw_mem 330 rfl rfl, by decide +kernel, by decide +kernel, by decide +kernel⟩
set_option maxRecDepth 100000 in
theorem mi_X0_hasSeatedWaiter : MIW yX0_hasSeatedWaiter cX0_hasSeatedWaiter 2 (some .boolean) 0 := ⟨nw_mem 334 rfl rfl, nw_mem 21 rfl rfl, nw_mem 73 rfl rfl, nw_mem 335 rfl rfl, by decide +kernel, by decide +kernel, by decide +kernel⟩
set_option maxRecDepth 100000 in
theorem mi_X3_isRoomShared : MIW yX3_isRoomShared cX3_isRoomShared 3 (some .boolean) 1 := ⟨nw_mem 338 rfl rfl, nw_mem 22 rfl rfl, nw_mem 70 rfl rfl, nw_mem 339 rfl rfl, by decide +kernel, by decide +kernel, by decide +kernel⟩
set_option maxRecDepth 100000 in
theorem mi_X3_room : MIW yX3_room cX3_room 2 (some .int) 1 := ⟨nw_mem 346 rfl rfl, nw_mem 347 rfl rfl, nw_mem 70 rfl rfl, nw_mem 348 rfl rfl, by decide +kernel, by decide +kernel, by decide +kernel⟩
set_option maxRecDepth 100000 in
theorem mi_X3_exam : MIW yX3_exam cX3_exam 1 (some .int) 0 := ⟨nw_mem 441 rfl rfl, nw_mem 442 rfl rfl, nw_mem 70 rfl rfl, nw_mem 443 rfl rfl, by decide +kernel, by decide +kernel, by decide +kernel⟩
set_option maxRecDepth 100000 in
theorem mi_X3_pupil : MIW yX3_pupil cX3_pupil 1 (some .int) 0 := ⟨nw_mem 449 rfl rfl, nw_mem 450 rfl rfl, nw_mem 70 rfl rfl, nw_mem 451 rfl rfl, by decide +kernel, by decide +kernel, by decide +kernel⟩
set_option maxRecDepth 100000 in
theorem mi_X3_offer : MIW yX3_offer cX3_offer 5 (some .int) 4 := ⟨nw_mem 482 rfl rfl, nw_mem 483 rfl rfl, nw_mem 70 rfl rfl, nw_mem 484 rfl rfl, by decide +kernel, by decide +kernel, by decide +kernel⟩
set_option maxRecDepth 100000 in
theorem mi_X3_needExam : MIW yX3_needExam cX3_needExam 2 none 1 := ⟨nw_mem 487 rfl rfl, nw_mem 24 rfl rfl, nw_mem 70 rfl rfl, nw_mem 488 rfl rfl, by decide +kernel, by decide +kernel, by decide +kernel⟩
set_option maxRecDepth 100000 in
theorem mi_X3_needSlot : MSW yX3_needSlot cX3_needSlot 1 none 1 := ⟨nw_mem 504 rfl rfl, nw_mem 70 rfl rfl, nw_mem 505 rfl rfl, by decide +kernel, by decide +kernel, by decide +kernel⟩
set_option maxRecDepth 100000 in
theorem mi_X3_isRoomTaken : MIW yX3_isRoomTaken cX3_isRoomTaken 4 (some .boolean) 2 := ⟨nw_mem 509 rfl rfl, nw_mem 25 rfl rfl, nw_mem 70 rfl rfl, nw_mem 510 rfl rfl, by decide +kernel, by decide +kernel, by decide +kernel⟩
set_option maxRecDepth 100000 in
theorem mi_X0_open : MIW yX0_open cX0_open 6 none 5 := ⟨nw_mem 530 rfl rfl, nw_mem 26 rfl rfl, nw_mem 73 rfl rfl, nw_mem 531 rfl rfl, by decide +kernel, by decide +kernel, by decide +kernel⟩
set_option maxRecDepth 100000 in
theorem mi_X3_bid : MIW yX3_bid cX3_bid 6 (some .int) 3 := ⟨nw_mem 536 rfl rfl, nw_mem 537 rfl rfl, nw_mem 70 rfl rfl, nw_mem 538 rfl rfl, by decide +kernel, by decide +kernel, by decide +kernel⟩
set_option maxRecDepth 100000 in
theorem mi_X3_needPupil : MIW yX3_needPupil cX3_needPupil 2 none 1 := ⟨nw_mem 541 rfl rfl, nw_mem 27 rfl rfl, nw_mem 70 rfl rfl, nw_mem 542 rfl rfl, by decide +kernel, by decide +kernel, by decide +kernel⟩
set_option maxRecDepth 100000 in
theorem mi_X3_offerNumbered : MIW yX3_offerNumbered cX3_offerNumbered 2 (some (.object "Classfederation$Offer")) 1 := ⟨nw_mem 546 rfl rfl, nw_mem 28 rfl rfl, nw_mem 70 rfl rfl, nw_mem 547 rfl rfl, by decide +kernel, by decide +kernel, by decide +kernel⟩
set_option maxRecDepth 100000 in
theorem mi_X3_needOffer : MIW yX3_needOffer cX3_needOffer 2 none 1 := ⟨nw_mem 550 rfl rfl, nw_mem 29 rfl rfl, nw_mem 70 rfl rfl, nw_mem 551 rfl rfl, by decide +kernel, by decide +kernel, by decide +kernel⟩
set_option maxRecDepth 100000 in
theorem mi_X2_sumOf : MIW yX2_sumOf cX2_sumOf 4 (some .int) 1 := ⟨nw_mem 556 rfl rfl, nw_mem 30 rfl rfl, nw_mem 72 rfl rfl, nw_mem 557 rfl rfl, by decide +kernel, by decide +kernel, by decide +kernel⟩
set_option maxRecDepth 100000 in
theorem mi_X2_pointsBid : MIW yX2_pointsBid cX2_pointsBid 4 (some .int) 2 := ⟨nw_mem 560 rfl rfl, nw_mem 31 rfl rfl, nw_mem 72 rfl rfl, nw_mem 561 rfl rfl, by decide +kernel, by decide +kernel, by decide +kernel⟩
set_option maxRecDepth 100000 in
theorem mi_X2_placeOf : MIW yX2_placeOf cX2_placeOf 4 (some .int) 2 := ⟨nw_mem 564 rfl rfl, nw_mem 32 rfl rfl, nw_mem 72 rfl rfl, nw_mem 565 rfl rfl, by decide +kernel, by decide +kernel, by decide +kernel⟩
set_option maxRecDepth 100000 in
theorem mi_X2_takeOut : MIW yX2_takeOut cX2_takeOut 5 none 2 := ⟨nw_mem 569 rfl rfl, nw_mem 33 rfl rfl, nw_mem 72 rfl rfl, nw_mem 570 rfl rfl, by decide +kernel, by decide +kernel, by decide +kernel⟩
set_option maxRecDepth 100000 in
theorem mi_X2_tell : MIW yX2_tell cX2_tell 5 none 3 := ⟨nw_mem 573 rfl rfl, nw_mem 34 rfl rfl, nw_mem 72 rfl rfl, nw_mem 574 rfl rfl, by decide +kernel, by decide +kernel, by decide +kernel⟩
set_option maxRecDepth 100000 in
theorem mi_X3_unbid : MIW yX3_unbid cX3_unbid 4 (some .int) 2 := ⟨nw_mem 580 rfl rfl, nw_mem 581 rfl rfl, nw_mem 70 rfl rfl, nw_mem 582 rfl rfl, by decide +kernel, by decide +kernel, by decide +kernel⟩
set_option maxRecDepth 100000 in
theorem mi_X3_points : MIW yX3_points cX3_points 2 (some .int) 1 := ⟨nw_mem 603 rfl rfl, nw_mem 604 rfl rfl, nw_mem 70 rfl rfl, nw_mem 605 rfl rfl, by decide +kernel, by decide +kernel, by decide +kernel⟩
set_option maxRecDepth 100000 in
theorem mi_X3_seat : MIW yX3_seat cX3_seat 5 (some .int) 3 := ⟨nw_mem 610 rfl rfl, nw_mem 611 rfl rfl, nw_mem 70 rfl rfl, nw_mem 612 rfl rfl, by decide +kernel, by decide +kernel, by decide +kernel⟩
set_option maxRecDepth 100000 in
theorem mi_X3_at : MIW yX3_at cX3_at 3 (some .int) 2 := ⟨nw_mem 618 rfl rfl, nw_mem 619 rfl rfl, nw_mem 70 rfl rfl, nw_mem 620 rfl rfl, by decide +kernel, by decide +kernel, by decide +kernel⟩
set_option maxRecDepth 100000 in
theorem mi_X3_examHeldAt : MIW yX3_examHeldAt cX3_examHeldAt 4 (some .int) 2 := ⟨nw_mem 623 rfl rfl, nw_mem 35 rfl rfl, nw_mem 70 rfl rfl, nw_mem 624 rfl rfl, by decide +kernel, by decide +kernel, by decide +kernel⟩
set_option maxRecDepth 100000 in
theorem mi_X3_holders : MIW yX3_holders cX3_holders 2 (some .int) 1 := ⟨nw_mem 630 rfl rfl, nw_mem 631 rfl rfl, nw_mem 70 rfl rfl, nw_mem 632 rfl rfl, by decide +kernel, by decide +kernel, by decide +kernel⟩
set_option maxRecDepth 100000 in
theorem mi_X3_holder : MIW yX3_holder cX3_holder 4 (some .int) 2 := ⟨nw_mem 637 rfl rfl, nw_mem 638 rfl rfl, nw_mem 70 rfl rfl, nw_mem 639 rfl rfl, by decide +kernel, by decide +kernel, by decide +kernel⟩
set_option maxRecDepth 100000 in
theorem mi_X0_pupilSeated : MIW yX0_pupilSeated cX0_pupilSeated 4 (some .int) 1 := ⟨nw_mem 642 rfl rfl, nw_mem 36 rfl rfl, nw_mem 73 rfl rfl, nw_mem 643 rfl rfl, by decide +kernel, by decide +kernel, by decide +kernel⟩
set_option maxRecDepth 100000 in
theorem mi_X3_paid : MIW yX3_paid cX3_paid 4 (some .int) 2 := ⟨nw_mem 649 rfl rfl, nw_mem 650 rfl rfl, nw_mem 70 rfl rfl, nw_mem 651 rfl rfl, by decide +kernel, by decide +kernel, by decide +kernel⟩
set_option maxRecDepth 100000 in
theorem mi_X3_waiting : MIW yX3_waiting cX3_waiting 2 (some .int) 1 := ⟨nw_mem 657 rfl rfl, nw_mem 658 rfl rfl, nw_mem 70 rfl rfl, nw_mem 659 rfl rfl, by decide +kernel, by decide +kernel, by decide +kernel⟩
set_option maxRecDepth 100000 in
theorem mi_X3_waiter : MIW yX3_waiter cX3_waiter 4 (some .int) 2 := ⟨nw_mem 664 rfl rfl, nw_mem 665 rfl rfl, nw_mem 70 rfl rfl, nw_mem 666 rfl rfl, by decide +kernel, by decide +kernel, by decide +kernel⟩
set_option maxRecDepth 100000 in
theorem mi_X3_giveUp : MIW yX3_giveUp cX3_giveUp 6 (some .int) 2 := ⟨nw_mem 672 rfl rfl, nw_mem 673 rfl rfl, nw_mem 70 rfl rfl, nw_mem 674 rfl rfl, by decide +kernel, by decide +kernel, by decide +kernel⟩
set_option maxRecDepth 100000 in
theorem mi_X0_unseat : MIW yX0_unseat cX0_unseat 3 (some .int) 1 := ⟨nw_mem 678 rfl rfl, nw_mem 37 rfl rfl, nw_mem 73 rfl rfl, nw_mem 679 rfl rfl, by decide +kernel, by decide +kernel, by decide +kernel⟩
set_option maxRecDepth 100000 in
theorem mi_X3_payBack : MIW yX3_payBack cX3_payBack 3 none 2 := ⟨nw_mem 682 rfl rfl, nw_mem 38 rfl rfl, nw_mem 70 rfl rfl, nw_mem 683 rfl rfl, by decide +kernel, by decide +kernel, by decide +kernel⟩
set_option maxRecDepth 100000 in
theorem mi_X3_moveOneUp : MIW yX3_moveOneUp cX3_moveOneUp 5 (some .int) 1 := ⟨nw_mem 686 rfl rfl, nw_mem 39 rfl rfl, nw_mem 70 rfl rfl, nw_mem 687 rfl rfl, by decide +kernel, by decide +kernel, by decide +kernel⟩
set_option maxRecDepth 100000 in
theorem mi_X3_move : MIW yX3_move cX3_move 6 (some .int) 2 := ⟨nw_mem 692 rfl rfl, nw_mem 693 rfl rfl, nw_mem 70 rfl rfl, nw_mem 694 rfl rfl, by decide +kernel, by decide +kernel, by decide +kernel⟩
set_option maxRecDepth 100000 in
theorem mi_X3_isSeatLostByMove : MIW yX3_isSeatLostByMove cX3_isSeatLostByMove 5 (some .boolean) 3 := ⟨nw_mem 698 rfl rfl, nw_mem 40 rfl rfl, nw_mem 70 rfl rfl, nw_mem 699 rfl rfl, by decide +kernel, by decide +kernel, by decide +kernel⟩
set_option maxRecDepth 100000 in
theorem mi_X3_moveAllUp : MIW yX3_moveAllUp cX3_moveAllUp 3 none 1 := ⟨nw_mem 702 rfl rfl, nw_mem 41 rfl rfl, nw_mem 70 rfl rfl, nw_mem 703 rfl rfl, by decide +kernel, by decide +kernel, by decide +kernel⟩
set_option maxRecDepth 100000 in
theorem mi_X3_slotOf : MIW yX3_slotOf cX3_slotOf 2 (some .int) 1 := ⟨nw_mem 708 rfl rfl, nw_mem 709 rfl rfl, nw_mem 70 rfl rfl, nw_mem 710 rfl rfl, by decide +kernel, by decide +kernel, by decide +kernel⟩
set_option maxRecDepth 100000 in
theorem mi_X3_write : MIW yX3_write cX3_write 8 (some .int) 5 := ⟨nw_mem 715 rfl rfl, nw_mem 716 rfl rfl, nw_mem 70 rfl rfl, nw_mem 717 rfl rfl, by decide +kernel, by decide +kernel, by decide +kernel⟩
set_option maxRecDepth 100000 in
theorem mi_X3_needStore : MSW yX3_needStore cX3_needStore 1 none 1 := ⟨nw_mem 719 rfl rfl, nw_mem 70 rfl rfl, nw_mem 720 rfl rfl, by decide +kernel, by decide +kernel, by decide +kernel⟩
set_option maxRecDepth 100000 in
theorem mi_X3_fieldNumbered : MSW yX3_fieldNumbered cX3_fieldNumbered 1 (some .int) 1 := ⟨nw_mem 723 rfl rfl, nw_mem 70 rfl rfl, nw_mem 724 rfl rfl, by decide +kernel, by decide +kernel, by decide +kernel⟩
set_option maxRecDepth 100000 in
theorem mi_X1_isInRange : MSW yX1_isInRange cX1_isInRange 2 (some .boolean) 2 := ⟨nw_mem 727 rfl rfl, nw_mem 71 rfl rfl, nw_mem 728 rfl rfl, by decide +kernel, by decide +kernel, by decide +kernel⟩
set_option maxRecDepth 100000 in
theorem mi_X1_put : MIW yX1_put cX1_put 6 none 5 := ⟨nw_mem 733 rfl rfl, nw_mem 42 rfl rfl, nw_mem 71 rfl rfl, nw_mem 734 rfl rfl, by decide +kernel, by decide +kernel, by decide +kernel⟩
set_option maxRecDepth 100000 in
theorem mi_X3_read : MIW yX3_read cX3_read 5 (some .int) 4 := ⟨nw_mem 739 rfl rfl, nw_mem 740 rfl rfl, nw_mem 70 rfl rfl, nw_mem 741 rfl rfl, by decide +kernel, by decide +kernel, by decide +kernel⟩
set_option maxRecDepth 100000 in
theorem mi_X3_sync : MIW yX3_sync cX3_sync 3 (some .int) 2 := ⟨nw_mem 746 rfl rfl, nw_mem 747 rfl rfl, nw_mem 70 rfl rfl, nw_mem 748 rfl rfl, by decide +kernel, by decide +kernel, by decide +kernel⟩
set_option maxRecDepth 100000 in
theorem mi_X1_copyOwned : MIW yX1_copyOwned cX1_copyOwned 5 (some .int) 2 := ⟨nw_mem 752 rfl rfl, nw_mem 43 rfl rfl, nw_mem 71 rfl rfl, nw_mem 753 rfl rfl, by decide +kernel, by decide +kernel, by decide +kernel⟩
set_option maxRecDepth 100000 in
theorem mi_X1_copyRow : MSW yX1_copyRow cX1_copyRow 4 (some .int) 2 := ⟨nw_mem 755 rfl rfl, nw_mem 71 rfl rfl, nw_mem 756 rfl rfl, by decide +kernel, by decide +kernel, by decide +kernel⟩
set_option maxRecDepth 100000 in
theorem mi_X3_owner : MIW yX3_owner cX3_owner 2 (some .int) 1 := ⟨nw_mem 761 rfl rfl, nw_mem 762 rfl rfl, nw_mem 70 rfl rfl, nw_mem 763 rfl rfl, by decide +kernel, by decide +kernel, by decide +kernel⟩
set_option maxRecDepth 100000 in
theorem mi_X3_setOwner : MIW yX3_setOwner cX3_setOwner 5 (some .int) 2 := ⟨nw_mem 768 rfl rfl, nw_mem 769 rfl rfl, nw_mem 70 rfl rfl, nw_mem 770 rfl rfl, by decide +kernel, by decide +kernel, by decide +kernel⟩
set_option maxRecDepth 100000 in
theorem mi_X1_areSame : MIW yX1_areSame cX1_areSame 5 (some .boolean) 3 := ⟨nw_mem 773 rfl rfl, nw_mem 44 rfl rfl, nw_mem 71 rfl rfl, nw_mem 774 rfl rfl, by decide +kernel, by decide +kernel, by decide +kernel⟩
set_option maxRecDepth 100000 in
theorem mi_X3_apart : MIW yX3_apart cX3_apart 2 (some .int) 1 := ⟨nw_mem 780 rfl rfl, nw_mem 781 rfl rfl, nw_mem 70 rfl rfl, nw_mem 782 rfl rfl, by decide +kernel, by decide +kernel, by decide +kernel⟩
set_option maxRecDepth 100000 in
theorem mi_X1_countApart : MIW yX1_countApart cX1_countApart 4 (some .int) 1 := ⟨nw_mem 785 rfl rfl, nw_mem 45 rfl rfl, nw_mem 71 rfl rfl, nw_mem 786 rfl rfl, by decide +kernel, by decide +kernel, by decide +kernel⟩
set_option maxRecDepth 100000 in
theorem mi_X3_maySit : MIW yX3_maySit cX3_maySit 3 (some .boolean) 2 := ⟨nw_mem 791 rfl rfl, nw_mem 792 rfl rfl, nw_mem 70 rfl rfl, nw_mem 793 rfl rfl, by decide +kernel, by decide +kernel, by decide +kernel⟩
set_option maxRecDepth 100000 in
theorem mi_X3_isOpen : MIW yX3_isOpen cX3_isOpen 3 (some .boolean) 2 := ⟨nw_mem 798 rfl rfl, nw_mem 799 rfl rfl, nw_mem 70 rfl rfl, nw_mem 800 rfl rfl, by decide +kernel, by decide +kernel, by decide +kernel⟩
set_option maxRecDepth 100000 in
theorem mi_X3_sit : MIW yX3_sit cX3_sit 4 (some .int) 1 := ⟨nw_mem 805 rfl rfl, nw_mem 806 rfl rfl, nw_mem 70 rfl rfl, nw_mem 807 rfl rfl, by decide +kernel, by decide +kernel, by decide +kernel⟩
set_option maxRecDepth 100000 in
theorem mi_X3_letSit : MIW yX3_letSit cX3_letSit 4 (some .int) 1 := ⟨nw_mem 811 rfl rfl, nw_mem 46 rfl rfl, nw_mem 70 rfl rfl, nw_mem 812 rfl rfl, by decide +kernel, by decide +kernel, by decide +kernel⟩
set_option maxRecDepth 100000 in
theorem mi_X3_hasSat : MIW yX3_hasSat cX3_hasSat 5 (some .boolean) 3 := ⟨nw_mem 817 rfl rfl, nw_mem 818 rfl rfl, nw_mem 70 rfl rfl, nw_mem 819 rfl rfl, by decide +kernel, by decide +kernel, by decide +kernel⟩
set_option maxRecDepth 100000 in
theorem mi_X3_more : MIW yX3_more cX3_more 3 (some .int) 2 := ⟨nw_mem 824 rfl rfl, nw_mem 825 rfl rfl, nw_mem 70 rfl rfl, nw_mem 826 rfl rfl, by decide +kernel, by decide +kernel, by decide +kernel⟩
set_option maxRecDepth 100000 in
theorem mi_X3_takenShare : MIW yX3_takenShare cX3_takenShare 4 (some .float) 0 := ⟨nw_mem 845 rfl rfl, nw_mem 846 rfl rfl, nw_mem 70 rfl rfl, nw_mem 847 rfl rfl, by decide +kernel, by decide +kernel, by decide +kernel⟩
set_option maxRecDepth 100000 in
theorem mi_X3_meanPoints : MIW yX3_meanPoints cX3_meanPoints 3 (some .double) 0 := ⟨nw_mem 855 rfl rfl, nw_mem 856 rfl rfl, nw_mem 70 rfl rfl, nw_mem 857 rfl rfl, by decide +kernel, by decide +kernel, by decide +kernel⟩
set_option maxRecDepth 100000 in
theorem mi_X4_thrown : MIW yX4_thrown cX4_thrown 1 (some .int) 0 := ⟨nw_mem 939 rfl rfl, nw_mem 940 rfl rfl, nw_mem 74 rfl rfl, nw_mem 941 rfl rfl, by decide +kernel, by decide +kernel, by decide +kernel⟩
set_option maxRecDepth 100000 in
theorem mi_X4_room : MIW yX4_room cX4_room 2 (some .int) 1 := ⟨nw_mem 943 rfl rfl, nw_mem 944 rfl rfl, nw_mem 74 rfl rfl, nw_mem 945 rfl rfl, by decide +kernel, by decide +kernel, by decide +kernel⟩
set_option maxRecDepth 100000 in
theorem mi_X4_in : MSW yX4_in cX4_in 3 (some .boolean) 3 := ⟨nw_mem 947 rfl rfl, nw_mem 74 rfl rfl, nw_mem 948 rfl rfl, by decide +kernel, by decide +kernel, by decide +kernel⟩
set_option maxRecDepth 100000 in
theorem mi_X4_exam : MIW yX4_exam cX4_exam 1 (some .int) 0 := ⟨nw_mem 950 rfl rfl, nw_mem 951 rfl rfl, nw_mem 74 rfl rfl, nw_mem 952 rfl rfl, by decide +kernel, by decide +kernel, by decide +kernel⟩
set_option maxRecDepth 100000 in
theorem mi_X4_pupil : MIW yX4_pupil cX4_pupil 1 (some .int) 0 := ⟨nw_mem 954 rfl rfl, nw_mem 955 rfl rfl, nw_mem 74 rfl rfl, nw_mem 956 rfl rfl, by decide +kernel, by decide +kernel, by decide +kernel⟩
set_option maxRecDepth 100000 in
theorem mi_X4_offer : MIW yX4_offer cX4_offer 5 (some .int) 4 := ⟨nw_mem 958 rfl rfl, nw_mem 959 rfl rfl, nw_mem 74 rfl rfl, nw_mem 960 rfl rfl, by decide +kernel, by decide +kernel, by decide +kernel⟩
set_option maxRecDepth 100000 in
theorem mi_X4_isExam : MIW yX4_isExam cX4_isExam 2 (some .boolean) 1 := ⟨nw_mem 963 rfl rfl, nw_mem 47 rfl rfl, nw_mem 74 rfl rfl, nw_mem 964 rfl rfl, by decide +kernel, by decide +kernel, by decide +kernel⟩
set_option maxRecDepth 100000 in
theorem mi_X4_isSlot : MSW yX4_isSlot cX4_isSlot 1 (some .boolean) 1 := ⟨nw_mem 966 rfl rfl, nw_mem 74 rfl rfl, nw_mem 967 rfl rfl, by decide +kernel, by decide +kernel, by decide +kernel⟩
set_option maxRecDepth 100000 in
theorem mi_X4_isTaken : MIW yX4_isTaken cX4_isTaken 5 (some .boolean) 2 := ⟨nw_mem 970 rfl rfl, nw_mem 48 rfl rfl, nw_mem 74 rfl rfl, nw_mem 971 rfl rfl, by decide +kernel, by decide +kernel, by decide +kernel⟩
set_option maxRecDepth 100000 in
theorem mi_X4_bid : MIW yX4_bid cX4_bid 6 (some .int) 3 := ⟨nw_mem 973 rfl rfl, nw_mem 974 rfl rfl, nw_mem 74 rfl rfl, nw_mem 975 rfl rfl, by decide +kernel, by decide +kernel, by decide +kernel⟩
set_option maxRecDepth 100000 in
theorem mi_X4_isPupil : MIW yX4_isPupil cX4_isPupil 2 (some .boolean) 1 := ⟨nw_mem 978 rfl rfl, nw_mem 49 rfl rfl, nw_mem 74 rfl rfl, nw_mem 979 rfl rfl, by decide +kernel, by decide +kernel, by decide +kernel⟩
set_option maxRecDepth 100000 in
theorem mi_X4_isOffer : MIW yX4_isOffer cX4_isOffer 2 (some .boolean) 1 := ⟨nw_mem 982 rfl rfl, nw_mem 50 rfl rfl, nw_mem 74 rfl rfl, nw_mem 983 rfl rfl, by decide +kernel, by decide +kernel, by decide +kernel⟩
set_option maxRecDepth 100000 in
theorem mi_X4_pair : MSW yX4_pair cX4_pair 2 (some .int) 2 := ⟨nw_mem 985 rfl rfl, nw_mem 74 rfl rfl, nw_mem 986 rfl rfl, by decide +kernel, by decide +kernel, by decide +kernel⟩
set_option maxRecDepth 100000 in
theorem mi_X4_unbid : MIW yX4_unbid cX4_unbid 4 (some .int) 2 := ⟨nw_mem 988 rfl rfl, nw_mem 989 rfl rfl, nw_mem 74 rfl rfl, nw_mem 990 rfl rfl, by decide +kernel, by decide +kernel, by decide +kernel⟩
set_option maxRecDepth 100000 in
theorem mi_X4_bids : MIW yX4_bids cX4_bids 3 (some .int) 0 := ⟨nw_mem 992 rfl rfl, nw_mem 993 rfl rfl, nw_mem 74 rfl rfl, nw_mem 994 rfl rfl, by decide +kernel, by decide +kernel, by decide +kernel⟩
set_option maxRecDepth 100000 in
theorem mi_X4_settle : MIW yX4_settle cX4_settle 6 (some .int) 0 := ⟨nw_mem 996 rfl rfl, nw_mem 997 rfl rfl, nw_mem 74 rfl rfl, nw_mem 998 rfl rfl, by decide +kernel, by decide +kernel, by decide +kernel⟩
set_option maxRecDepth 100000 in
theorem mi_X4_nextBid : MIW yX4_nextBid cX4_nextBid 4 (some .int) 0 := ⟨nw_mem 1001 rfl rfl, nw_mem 51 rfl rfl, nw_mem 74 rfl rfl, nw_mem 1002 rfl rfl, by decide +kernel, by decide +kernel, by decide +kernel⟩
set_option maxRecDepth 100000 in
theorem mi_X4_does : MIW yX4_does cX4_does 4 (some .boolean) 3 := ⟨nw_mem 1005 rfl rfl, nw_mem 52 rfl rfl, nw_mem 74 rfl rfl, nw_mem 1006 rfl rfl, by decide +kernel, by decide +kernel, by decide +kernel⟩
set_option maxRecDepth 100000 in
theorem mi_X4_can : MIW yX4_can cX4_can 4 (some .boolean) 2 := ⟨nw_mem 1009 rfl rfl, nw_mem 53 rfl rfl, nw_mem 74 rfl rfl, nw_mem 1010 rfl rfl, by decide +kernel, by decide +kernel, by decide +kernel⟩
set_option maxRecDepth 100000 in
theorem mi_X4_opens : MIW yX4_opens cX4_opens 3 (some .boolean) 2 := ⟨nw_mem 1013 rfl rfl, nw_mem 54 rfl rfl, nw_mem 74 rfl rfl, nw_mem 1014 rfl rfl, by decide +kernel, by decide +kernel, by decide +kernel⟩
set_option maxRecDepth 100000 in
theorem mi_X4_agree : MIW yX4_agree cX4_agree 5 (some .boolean) 3 := ⟨nw_mem 1017 rfl rfl, nw_mem 55 rfl rfl, nw_mem 74 rfl rfl, nw_mem 1018 rfl rfl, by decide +kernel, by decide +kernel, by decide +kernel⟩
set_option maxRecDepth 100000 in
theorem mi_X4_cell : MSW yX4_cell cX4_cell 4 (some .int) 4 := ⟨nw_mem 1020 rfl rfl, nw_mem 74 rfl rfl, nw_mem 1021 rfl rfl, by decide +kernel, by decide +kernel, by decide +kernel⟩
set_option maxRecDepth 100000 in
theorem mi_X4_sits : MIW yX4_sits cX4_sits 3 (some .boolean) 2 := ⟨nw_mem 1024 rfl rfl, nw_mem 56 rfl rfl, nw_mem 74 rfl rfl, nw_mem 1025 rfl rfl, by decide +kernel, by decide +kernel, by decide +kernel⟩
set_option maxRecDepth 100000 in
theorem mi_X4_isFree : MIW yX4_isFree cX4_isFree 6 (some .boolean) 2 := ⟨nw_mem 1028 rfl rfl, nw_mem 57 rfl rfl, nw_mem 74 rfl rfl, nw_mem 1029 rfl rfl, by decide +kernel, by decide +kernel, by decide +kernel⟩
set_option maxRecDepth 100000 in
theorem mi_X4_isLike : MIW yX4_isLike cX4_isLike 3 (some .boolean) 2 := ⟨nw_mem 1032 rfl rfl, nw_mem 58 rfl rfl, nw_mem 74 rfl rfl, nw_mem 1033 rfl rfl, by decide +kernel, by decide +kernel, by decide +kernel⟩
set_option maxRecDepth 100000 in
theorem mi_X4_hasSeat : MIW yX4_hasSeat cX4_hasSeat 2 (some .boolean) 1 := ⟨nw_mem 1036 rfl rfl, nw_mem 59 rfl rfl, nw_mem 74 rfl rfl, nw_mem 1037 rfl rfl, by decide +kernel, by decide +kernel, by decide +kernel⟩
set_option maxRecDepth 100000 in
theorem mi_X4_held : MIW yX4_held cX4_held 4 (some .int) 1 := ⟨nw_mem 1040 rfl rfl, nw_mem 60 rfl rfl, nw_mem 74 rfl rfl, nw_mem 1041 rfl rfl, by decide +kernel, by decide +kernel, by decide +kernel⟩
set_option maxRecDepth 100000 in
theorem mi_X4_give : MIW yX4_give cX4_give 5 none 3 := ⟨nw_mem 1044 rfl rfl, nw_mem 61 rfl rfl, nw_mem 74 rfl rfl, nw_mem 1045 rfl rfl, by decide +kernel, by decide +kernel, by decide +kernel⟩
set_option maxRecDepth 100000 in
theorem mi_X4_leave : MIW yX4_leave cX4_leave 5 none 2 := ⟨nw_mem 1048 rfl rfl, nw_mem 62 rfl rfl, nw_mem 74 rfl rfl, nw_mem 1049 rfl rfl, by decide +kernel, by decide +kernel, by decide +kernel⟩
set_option maxRecDepth 100000 in
theorem mi_X4_placeOf : MIW yX4_placeOf cX4_placeOf 5 (some .int) 2 := ⟨nw_mem 1052 rfl rfl, nw_mem 63 rfl rfl, nw_mem 74 rfl rfl, nw_mem 1053 rfl rfl, by decide +kernel, by decide +kernel, by decide +kernel⟩
set_option maxRecDepth 100000 in
theorem mi_X4_rounds : MIW yX4_rounds cX4_rounds 1 (some .int) 0 := ⟨nw_mem 1055 rfl rfl, nw_mem 1056 rfl rfl, nw_mem 74 rfl rfl, nw_mem 1057 rfl rfl, by decide +kernel, by decide +kernel, by decide +kernel⟩
set_option maxRecDepth 100000 in
theorem mi_X4_points : MIW yX4_points cX4_points 2 (some .int) 1 := ⟨nw_mem 1059 rfl rfl, nw_mem 1060 rfl rfl, nw_mem 74 rfl rfl, nw_mem 1061 rfl rfl, by decide +kernel, by decide +kernel, by decide +kernel⟩
set_option maxRecDepth 100000 in
theorem mi_X4_seat : MIW yX4_seat cX4_seat 6 (some .int) 3 := ⟨nw_mem 1063 rfl rfl, nw_mem 1064 rfl rfl, nw_mem 74 rfl rfl, nw_mem 1065 rfl rfl, by decide +kernel, by decide +kernel, by decide +kernel⟩
set_option maxRecDepth 100000 in
theorem mi_X4_at : MIW yX4_at cX4_at 3 (some .int) 2 := ⟨nw_mem 1067 rfl rfl, nw_mem 1068 rfl rfl, nw_mem 74 rfl rfl, nw_mem 1069 rfl rfl, by decide +kernel, by decide +kernel, by decide +kernel⟩
set_option maxRecDepth 100000 in
theorem mi_X4_noneAt : MIW yX4_noneAt cX4_noneAt 3 (some .boolean) 2 := ⟨nw_mem 1072 rfl rfl, nw_mem 64 rfl rfl, nw_mem 74 rfl rfl, nw_mem 1073 rfl rfl, by decide +kernel, by decide +kernel, by decide +kernel⟩
set_option maxRecDepth 100000 in
theorem mi_X4_offerAt : MIW yX4_offerAt cX4_offerAt 5 (some .int) 2 := ⟨nw_mem 1076 rfl rfl, nw_mem 65 rfl rfl, nw_mem 74 rfl rfl, nw_mem 1077 rfl rfl, by decide +kernel, by decide +kernel, by decide +kernel⟩
set_option maxRecDepth 100000 in
theorem mi_X4_holders : MIW yX4_holders cX4_holders 2 (some .int) 1 := ⟨nw_mem 1079 rfl rfl, nw_mem 1080 rfl rfl, nw_mem 74 rfl rfl, nw_mem 1081 rfl rfl, by decide +kernel, by decide +kernel, by decide +kernel⟩
set_option maxRecDepth 100000 in
theorem mi_X4_holder : MIW yX4_holder cX4_holder 7 (some .int) 2 := ⟨nw_mem 1083 rfl rfl, nw_mem 1084 rfl rfl, nw_mem 74 rfl rfl, nw_mem 1085 rfl rfl, by decide +kernel, by decide +kernel, by decide +kernel⟩
set_option maxRecDepth 100000 in
theorem mi_X4_paid : MIW yX4_paid cX4_paid 3 (some .int) 2 := ⟨nw_mem 1087 rfl rfl, nw_mem 1088 rfl rfl, nw_mem 74 rfl rfl, nw_mem 1089 rfl rfl, by decide +kernel, by decide +kernel, by decide +kernel⟩
set_option maxRecDepth 100000 in
theorem mi_X4_waiting : MIW yX4_waiting cX4_waiting 2 (some .int) 1 := ⟨nw_mem 1091 rfl rfl, nw_mem 1092 rfl rfl, nw_mem 74 rfl rfl, nw_mem 1093 rfl rfl, by decide +kernel, by decide +kernel, by decide +kernel⟩
set_option maxRecDepth 100000 in
theorem mi_X4_waiter : MIW yX4_waiter cX4_waiter 3 (some .int) 2 := ⟨nw_mem 1095 rfl rfl, nw_mem 1096 rfl rfl, nw_mem 74 rfl rfl, nw_mem 1097 rfl rfl, by decide +kernel, by decide +kernel, by decide +kernel⟩
set_option maxRecDepth 100000 in
theorem mi_X4_giveUp : MIW yX4_giveUp cX4_giveUp 3 (some .int) 2 := ⟨nw_mem 1099 rfl rfl, nw_mem 1100 rfl rfl, nw_mem 74 rfl rfl, nw_mem 1101 rfl rfl, by decide +kernel, by decide +kernel, by decide +kernel⟩
set_option maxRecDepth 100000 in
theorem mi_X4_bring : MIW yX4_bring cX4_bring 3 none 2 := ⟨nw_mem 1104 rfl rfl, nw_mem 66 rfl rfl, nw_mem 74 rfl rfl, nw_mem 1105 rfl rfl, by decide +kernel, by decide +kernel, by decide +kernel⟩
set_option maxRecDepth 100000 in
theorem mi_X4_movesUp : MIW yX4_movesUp cX4_movesUp 4 (some .int) 1 := ⟨nw_mem 1108 rfl rfl, nw_mem 67 rfl rfl, nw_mem 74 rfl rfl, nw_mem 1109 rfl rfl, by decide +kernel, by decide +kernel, by decide +kernel⟩
set_option maxRecDepth 100000 in
theorem mi_X4_move : MIW yX4_move cX4_move 6 (some .int) 2 := ⟨nw_mem 1111 rfl rfl, nw_mem 1112 rfl rfl, nw_mem 74 rfl rfl, nw_mem 1113 rfl rfl, by decide +kernel, by decide +kernel, by decide +kernel⟩
set_option maxRecDepth 100000 in
theorem mi_X4_slotOf : MIW yX4_slotOf cX4_slotOf 2 (some .int) 1 := ⟨nw_mem 1115 rfl rfl, nw_mem 1116 rfl rfl, nw_mem 74 rfl rfl, nw_mem 1117 rfl rfl, by decide +kernel, by decide +kernel, by decide +kernel⟩
set_option maxRecDepth 100000 in
theorem mi_X4_refunds : MIW yX4_refunds cX4_refunds 1 (some .int) 0 := ⟨nw_mem 1119 rfl rfl, nw_mem 1120 rfl rfl, nw_mem 74 rfl rfl, nw_mem 1121 rfl rfl, by decide +kernel, by decide +kernel, by decide +kernel⟩
set_option maxRecDepth 100000 in
theorem mi_X4_write : MIW yX4_write cX4_write 9 (some .int) 5 := ⟨nw_mem 1123 rfl rfl, nw_mem 1124 rfl rfl, nw_mem 74 rfl rfl, nw_mem 1125 rfl rfl, by decide +kernel, by decide +kernel, by decide +kernel⟩
set_option maxRecDepth 100000 in
theorem mi_X4_fieldOf : MSW yX4_fieldOf cX4_fieldOf 1 (some .int) 1 := ⟨nw_mem 1127 rfl rfl, nw_mem 74 rfl rfl, nw_mem 1128 rfl rfl, by decide +kernel, by decide +kernel, by decide +kernel⟩
set_option maxRecDepth 100000 in
theorem mi_X4_noRecord : MIW yX4_noRecord cX4_noRecord 4 (some .boolean) 3 := ⟨nw_mem 1131 rfl rfl, nw_mem 68 rfl rfl, nw_mem 74 rfl rfl, nw_mem 1132 rfl rfl, by decide +kernel, by decide +kernel, by decide +kernel⟩
set_option maxRecDepth 100000 in
theorem mi_X4_isStore : MSW yX4_isStore cX4_isStore 1 (some .boolean) 1 := ⟨nw_mem 1134 rfl rfl, nw_mem 74 rfl rfl, nw_mem 1135 rfl rfl, by decide +kernel, by decide +kernel, by decide +kernel⟩
set_option maxRecDepth 100000 in
theorem mi_X4_read : MIW yX4_read cX4_read 5 (some .int) 4 := ⟨nw_mem 1137 rfl rfl, nw_mem 1138 rfl rfl, nw_mem 74 rfl rfl, nw_mem 1139 rfl rfl, by decide +kernel, by decide +kernel, by decide +kernel⟩
set_option maxRecDepth 100000 in
theorem mi_X4_sync : MIW yX4_sync cX4_sync 8 (some .int) 2 := ⟨nw_mem 1141 rfl rfl, nw_mem 1142 rfl rfl, nw_mem 74 rfl rfl, nw_mem 1143 rfl rfl, by decide +kernel, by decide +kernel, by decide +kernel⟩
set_option maxRecDepth 100000 in
theorem mi_X4_owner : MIW yX4_owner cX4_owner 2 (some .int) 1 := ⟨nw_mem 1145 rfl rfl, nw_mem 1146 rfl rfl, nw_mem 74 rfl rfl, nw_mem 1147 rfl rfl, by decide +kernel, by decide +kernel, by decide +kernel⟩
set_option maxRecDepth 100000 in
theorem mi_X4_setOwner : MIW yX4_setOwner cX4_setOwner 6 (some .int) 2 := ⟨nw_mem 1149 rfl rfl, nw_mem 1150 rfl rfl, nw_mem 74 rfl rfl, nw_mem 1151 rfl rfl, by decide +kernel, by decide +kernel, by decide +kernel⟩
set_option maxRecDepth 100000 in
theorem mi_X4_apart : MIW yX4_apart cX4_apart 6 (some .int) 1 := ⟨nw_mem 1153 rfl rfl, nw_mem 1154 rfl rfl, nw_mem 74 rfl rfl, nw_mem 1155 rfl rfl, by decide +kernel, by decide +kernel, by decide +kernel⟩
set_option maxRecDepth 100000 in
theorem mi_X4_maySit : MIW yX4_maySit cX4_maySit 3 (some .boolean) 2 := ⟨nw_mem 1157 rfl rfl, nw_mem 1158 rfl rfl, nw_mem 74 rfl rfl, nw_mem 1159 rfl rfl, by decide +kernel, by decide +kernel, by decide +kernel⟩
set_option maxRecDepth 100000 in
theorem mi_X4_isOpen : MIW yX4_isOpen cX4_isOpen 3 (some .boolean) 2 := ⟨nw_mem 1161 rfl rfl, nw_mem 1162 rfl rfl, nw_mem 74 rfl rfl, nw_mem 1163 rfl rfl, by decide +kernel, by decide +kernel, by decide +kernel⟩
set_option maxRecDepth 100000 in
theorem mi_X4_sit : MIW yX4_sit cX4_sit 6 (some .int) 1 := ⟨nw_mem 1165 rfl rfl, nw_mem 1166 rfl rfl, nw_mem 74 rfl rfl, nw_mem 1167 rfl rfl, by decide +kernel, by decide +kernel, by decide +kernel⟩
set_option maxRecDepth 100000 in
theorem mi_X4_satCell : MSW yX4_satCell cX4_satCell 3 (some .int) 3 := ⟨nw_mem 1169 rfl rfl, nw_mem 74 rfl rfl, nw_mem 1170 rfl rfl, by decide +kernel, by decide +kernel, by decide +kernel⟩
set_option maxRecDepth 100000 in
theorem mi_X4_hasSat : MIW yX4_hasSat cX4_hasSat 4 (some .boolean) 3 := ⟨nw_mem 1172 rfl rfl, nw_mem 1173 rfl rfl, nw_mem 74 rfl rfl, nw_mem 1174 rfl rfl, by decide +kernel, by decide +kernel, by decide +kernel⟩
set_option maxRecDepth 100000 in
theorem mi_X4_more : MIW yX4_more cX4_more 3 (some .int) 2 := ⟨nw_mem 1176 rfl rfl, nw_mem 1177 rfl rfl, nw_mem 74 rfl rfl, nw_mem 1178 rfl rfl, by decide +kernel, by decide +kernel, by decide +kernel⟩
set_option maxRecDepth 100000 in
theorem mi_X4_takenShare : MIW yX4_takenShare cX4_takenShare 4 (some .float) 0 := ⟨nw_mem 1180 rfl rfl, nw_mem 1181 rfl rfl, nw_mem 74 rfl rfl, nw_mem 1182 rfl rfl, by decide +kernel, by decide +kernel, by decide +kernel⟩
set_option maxRecDepth 100000 in
theorem mi_X4_meanPoints : MIW yX4_meanPoints cX4_meanPoints 3 (some .double) 0 := ⟨nw_mem 1184 rfl rfl, nw_mem 1185 rfl rfl, nw_mem 74 rfl rfl, nw_mem 1186 rfl rfl, by decide +kernel, by decide +kernel, by decide +kernel⟩
set_option maxRecDepth 100000 in
theorem mi_X4_isTrue : MIW yX4_isTrue cX4_isTrue 1 (some .boolean) 0 := ⟨nw_mem 1188 rfl rfl, nw_mem 1189 rfl rfl, nw_mem 74 rfl rfl, nw_mem 1190 rfl rfl, by decide +kernel, by decide +kernel, by decide +kernel⟩
set_option maxRecDepth 100000 in
theorem mk_L_125 : Cond.methodLink RL 125 yX3_init ∈ nwL := nw_mem 88 rfl rfl
set_option maxRecDepth 100000 in
theorem mk_X3_9 : Cond.methodLinkNest RX3 9 yX1_init "Classfederation" ∈ nwL := nw_mem 96 rfl rfl
set_option maxRecDepth 100000 in
theorem mk_X1_16 : Cond.methodLink RX1 16 yX1_rowOf ∈ nwL := nw_mem 102 rfl rfl
set_option maxRecDepth 100000 in
theorem fk_X1_13 : FLk RX1 13 RX1 "values" "[[I" := Or.inl (nw_mem 105 rfl rfl)
set_option maxRecDepth 100000 in
theorem fk_X1_20 : FLk RX1 20 RX1 "owners" "[I" := Or.inl (nw_mem 106 rfl rfl)
set_option maxRecDepth 100000 in
theorem fk_X3_247 : FLk RX3 247 RX1 "owners" "[I" := Or.inr ⟨"Classfederation", nw_mem 107 rfl rfl⟩
set_option maxRecDepth 100000 in
theorem mk_X3_18 : Cond.methodLinkNest RX3 18 yX2_init "Classfederation" ∈ nwL := nw_mem 116 rfl rfl
set_option maxRecDepth 100000 in
theorem fk_X2_11 : FLk RX2 11 RX2 "pupils" "[I" := Or.inl (nw_mem 120 rfl rfl)
set_option maxRecDepth 100000 in
theorem fk_X3_145 : FLk RX3 145 RX2 "pupils" "[I" := Or.inr ⟨"Classfederation", nw_mem 121 rfl rfl⟩
set_option maxRecDepth 100000 in
theorem fk_X2_15 : FLk RX2 15 RX2 "offers" "[I" := Or.inl (nw_mem 122 rfl rfl)
set_option maxRecDepth 100000 in
theorem fk_X3_148 : FLk RX3 148 RX2 "offers" "[I" := Or.inr ⟨"Classfederation", nw_mem 123 rfl rfl⟩
set_option maxRecDepth 100000 in
theorem fk_X2_18 : FLk RX2 18 RX2 "points" "[I" := Or.inl (nw_mem 124 rfl rfl)
set_option maxRecDepth 100000 in
theorem fk_X3_150 : FLk RX3 150 RX2 "points" "[I" := Or.inr ⟨"Classfederation", nw_mem 125 rfl rfl⟩
set_option maxRecDepth 100000 in
theorem fk_X2_21 : FLk RX2 21 RX2 "count" "I" := Or.inl (nw_mem 126 rfl rfl)
set_option maxRecDepth 100000 in
theorem fk_X3_142 : FLk RX3 142 RX2 "count" "I" := Or.inr ⟨"Classfederation", nw_mem 127 rfl rfl⟩
set_option maxRecDepth 100000 in
theorem mk_X3_29 : Cond.methodLinkNest RX3 29 yX0_init "Classfederation" ∈ nwL := nw_mem 140 rfl rfl
set_option maxRecDepth 100000 in
theorem fk_X0_21 : FLk RX0 21 RX0 "exam" "I" := Or.inl (nw_mem 144 rfl rfl)
set_option maxRecDepth 100000 in
theorem fk_X3_318 : FLk RX3 318 RX0 "exam" "I" := Or.inr ⟨"Classfederation", nw_mem 145 rfl rfl⟩
set_option maxRecDepth 100000 in
theorem fk_X0_25 : FLk RX0 25 RX0 "slot" "I" := Or.inl (nw_mem 146 rfl rfl)
set_option maxRecDepth 100000 in
theorem fk_X3_104 : FLk RX3 104 RX0 "slot" "I" := Or.inr ⟨"Classfederation", nw_mem 147 rfl rfl⟩
set_option maxRecDepth 100000 in
theorem fk_X0_28 : FLk RX0 28 RX0 "room" "I" := Or.inl (nw_mem 148 rfl rfl)
set_option maxRecDepth 100000 in
theorem fk_X3_207 : FLk RX3 207 RX0 "room" "I" := Or.inr ⟨"Classfederation", nw_mem 149 rfl rfl⟩
set_option maxRecDepth 100000 in
theorem fk_X0_31 : FLk RX0 31 RX0 "seats" "I" := Or.inl (nw_mem 150 rfl rfl)
set_option maxRecDepth 100000 in
theorem fk_X3_279 : FLk RX3 279 RX0 "seats" "I" := Or.inr ⟨"Classfederation", nw_mem 151 rfl rfl⟩
set_option maxRecDepth 100000 in
theorem fk_X0_34 : FLk RX0 34 RX0 "isResit" "Z" := Or.inl (nw_mem 152 rfl rfl)
set_option maxRecDepth 100000 in
theorem fk_X3_321 : FLk RX3 321 RX0 "isResit" "Z" := Or.inr ⟨"Classfederation", nw_mem 153 rfl rfl⟩
set_option maxRecDepth 100000 in
theorem fk_X0_9 : FLk RX0 9 RX0 "paidBy" "[I" := Or.inl (nw_mem 154 rfl rfl)
set_option maxRecDepth 100000 in
theorem fk_X3_184 : FLk RX3 184 RX0 "paidBy" "[I" := Or.inr ⟨"Classfederation", nw_mem 155 rfl rfl⟩
set_option maxRecDepth 100000 in
theorem fk_X0_15 : FLk RX0 15 RX0 "waiters" "[I" := Or.inl (nw_mem 156 rfl rfl)
set_option maxRecDepth 100000 in
theorem fk_X3_192 : FLk RX3 192 RX0 "waiters" "[I" := Or.inr ⟨"Classfederation", nw_mem 157 rfl rfl⟩
set_option maxRecDepth 100000 in
theorem fk_X0_18 : FLk RX0 18 RX0 "waiterPoints" "[I" := Or.inl (nw_mem 158 rfl rfl)
set_option maxRecDepth 100000 in
theorem fk_X3_345 : FLk RX3 345 RX0 "waiterPoints" "[I" := Or.inr ⟨"Classfederation", nw_mem 159 rfl rfl⟩
set_option maxRecDepth 100000 in
theorem fk_X0_46 : FLk RX0 46 RX0 "waiterCount" "I" := Or.inl (nw_mem 160 rfl rfl)
set_option maxRecDepth 100000 in
theorem fk_X3_187 : FLk RX3 187 RX0 "waiterCount" "I" := Or.inr ⟨"Classfederation", nw_mem 161 rfl rfl⟩
set_option maxRecDepth 100000 in
theorem fk_X3_10 : FLk RX3 10 RX3 "records" "LClassfederation$Records;" := Or.inl (nw_mem 181 rfl rfl)
set_option maxRecDepth 100000 in
theorem fk_X3_19 : FLk RX3 19 RX3 "round" "LClassfederation$Round;" := Or.inl (nw_mem 182 rfl rfl)
set_option maxRecDepth 100000 in
theorem fk_X3_25 : FLk RX3 25 RX3 "offers" "[LClassfederation$Offer;" := Or.inl (nw_mem 183 rfl rfl)
set_option maxRecDepth 100000 in
theorem fk_X3_30 : FLk RX3 30 RX3 "seatsOfRoom" "[I" := Or.inl (nw_mem 184 rfl rfl)
set_option maxRecDepth 100000 in
theorem fk_X3_34 : FLk RX3 34 RX3 "pointsLeft" "[I" := Or.inl (nw_mem 185 rfl rfl)
set_option maxRecDepth 100000 in
theorem fk_X3_37 : FLk RX3 37 RX3 "forfeited" "[I" := Or.inl (nw_mem 186 rfl rfl)
set_option maxRecDepth 100000 in
theorem fk_X3_40 : FLk RX3 40 RX3 "slotWasSat" "[Z" := Or.inl (nw_mem 187 rfl rfl)
set_option maxRecDepth 100000 in
theorem fk_X3_51 : FLk RX3 51 RX3 "roomCount" "I" := Or.inl (nw_mem 188 rfl rfl)
set_option maxRecDepth 100000 in
theorem fk_X3_60 : FLk RX3 60 RX3 "examCount" "I" := Or.inl (nw_mem 189 rfl rfl)
set_option maxRecDepth 100000 in
theorem fk_X3_65 : FLk RX3 65 RX3 "pupilCount" "I" := Or.inl (nw_mem 190 rfl rfl)
set_option maxRecDepth 100000 in
theorem fk_X3_91 : FLk RX3 91 RX3 "offerCount" "I" := Or.inl (nw_mem 191 rfl rfl)
set_option maxRecDepth 100000 in
theorem fk_X3_157 : FLk RX3 157 RX3 "settledRounds" "I" := Or.inl (nw_mem 192 rfl rfl)
set_option maxRecDepth 100000 in
theorem fk_X3_219 : FLk RX3 219 RX3 "refundSum" "I" := Or.inl (nw_mem 193 rfl rfl)
set_option maxRecDepth 100000 in
theorem mk_L_157 : Cond.methodLink RL 157 yX3_bids ∈ nwL := nw_mem 222 rfl rfl
set_option maxRecDepth 100000 in
theorem mk_L_161 : Cond.methodLink RL 161 yX3_settle ∈ nwL := nw_mem 226 rfl rfl
set_option maxRecDepth 100000 in
theorem mk_X3_153 : Cond.methodLink RX3 153 yX3_isSeatWon ∈ nwL := nw_mem 230 rfl rfl
set_option maxRecDepth 100000 in
theorem mk_X3_329 : Cond.methodLink RX3 329 yX3_needsOnlySeat ∈ nwL := nw_mem 234 rfl rfl
set_option maxRecDepth 100000 in
theorem mk_X3_120 : Cond.methodLink RX3 120 yX3_isClosed ∈ nwL := nw_mem 238 rfl rfl
set_option maxRecDepth 100000 in
theorem mk_X3_325 : Cond.methodLink RX3 325 yX3_mayHaveSeat ∈ nwL := nw_mem 242 rfl rfl
set_option maxRecDepth 100000 in
theorem mk_X3_259 : Cond.methodLinkNest RX3 259 yX1_isRightGiven "Classfederation" ∈ nwL := nw_mem 246 rfl rfl
set_option maxRecDepth 100000 in
theorem mk_X1_24 : Cond.methodLink RX1 24 yX1_cellOf ∈ nwL := nw_mem 250 rfl rfl
set_option maxRecDepth 100000 in
theorem mk_X1_35 : Cond.methodLink RX1 35 yX1_isAgreed ∈ nwL := nw_mem 253 rfl rfl
set_option maxRecDepth 100000 in
theorem mk_X1_39 : Cond.methodLink RX1 39 yX1_valueByOwner ∈ nwL := nw_mem 257 rfl rfl
set_option maxRecDepth 100000 in
theorem mk_X1_27 : Cond.methodLink RX1 27 yX1_valueIn ∈ nwL := nw_mem 261 rfl rfl
set_option maxRecDepth 100000 in
theorem mk_X3_262 : Cond.methodLinkNest RX3 262 yX1_isResitOpen "Classfederation" ∈ nwL := nw_mem 265 rfl rfl
set_option maxRecDepth 100000 in
theorem mk_X3_270 : Cond.methodLinkNest RX3 270 yX1_valueByOwner "Classfederation" ∈ nwL := nw_mem 269 rfl rfl
set_option maxRecDepth 100000 in
theorem mk_X3_160 : Cond.methodLink RX3 160 yX3_offerHeldFor ∈ nwL := nw_mem 270 rfl rfl
set_option maxRecDepth 100000 in
theorem mk_X3_309 : Cond.methodLinkNest RX3 309 yX0_isOf "Classfederation" ∈ nwL := nw_mem 274 rfl rfl
set_option maxRecDepth 100000 in
theorem mk_X3_178 : Cond.methodLinkNest RX3 178 yX0_hasSeated "Classfederation" ∈ nwL := nw_mem 278 rfl rfl
set_option maxRecDepth 100000 in
theorem mk_X3_313 : Cond.methodLink RX3 313 yX3_offerHeldAt ∈ nwL := nw_mem 282 rfl rfl
set_option maxRecDepth 100000 in
theorem mk_X3_332 : Cond.methodLinkNest RX3 332 yX0_isFull "Classfederation" ∈ nwL := nw_mem 286 rfl rfl
set_option maxRecDepth 100000 in
theorem mk_X0_42 : Cond.methodLink RX0 42 yX0_countTaken ∈ nwL := nw_mem 290 rfl rfl
set_option maxRecDepth 100000 in
theorem mk_X0_38 : Cond.methodLink RX0 38 yX0_hasSeated ∈ nwL := nw_mem 294 rfl rfl
set_option maxRecDepth 100000 in
theorem mk_X3_335 : Cond.methodLinkNest RX3 335 yX0_letWait "Classfederation" ∈ nwL := nw_mem 295 rfl rfl
set_option maxRecDepth 100000 in
theorem mk_X0_49 : Cond.methodLink RX0 49 yX0_placeInQueue ∈ nwL := nw_mem 299 rfl rfl
set_option maxRecDepth 100000 in
theorem mk_X3_338 : Cond.methodLink RX3 338 yX3_giveSeat ∈ nwL := nw_mem 303 rfl rfl
set_option maxRecDepth 100000 in
theorem mk_X3_342 : Cond.methodLinkNest RX3 342 yX0_letWaitNoMore "Classfederation" ∈ nwL := nw_mem 307 rfl rfl
set_option maxRecDepth 100000 in
theorem mk_L_165 : Cond.methodLink RL 165 yX3_rounds ∈ nwL := nw_mem 311 rfl rfl
set_option maxRecDepth 100000 in
theorem mk_L_203 : Cond.methodLink RL 203 yX3_refunds ∈ nwL := nw_mem 315 rfl rfl
set_option maxRecDepth 100000 in
theorem mk_L_251 : Cond.methodLink RL 251 yX3_isTrue ∈ nwL := nw_mem 319 rfl rfl
set_option maxRecDepth 100000 in
theorem mk_X3_284 : Cond.methodLink RX3 284 yX3_hasSeatsThatClash ∈ nwL := nw_mem 323 rfl rfl
set_option maxRecDepth 100000 in
theorem mk_X3_287 : Cond.methodLink RX3 287 yX3_arePointsWhole ∈ nwL := nw_mem 327 rfl rfl
set_option maxRecDepth 100000 in
theorem mk_X3_169 : Cond.methodLinkNest RX3 169 yX0_countTaken "Classfederation" ∈ nwL := nw_mem 331 rfl rfl
set_option maxRecDepth 100000 in
theorem mk_X3_290 : Cond.methodLinkNest RX3 290 yX0_hasSeatedWaiter "Classfederation" ∈ nwL := nw_mem 332 rfl rfl
set_option maxRecDepth 100000 in
theorem mk_X3_294 : Cond.methodLink RX3 294 yX3_isRoomShared ∈ nwL := nw_mem 336 rfl rfl
set_option maxRecDepth 100000 in
theorem mk_L_129 : Cond.methodLink RL 129 yL_room ∈ nwL := nw_mem 340 rfl rfl
set_option maxRecDepth 100000 in
theorem mk_L_7 : Cond.methodLink RL 7 yX3_room ∈ nwL := nw_mem 345 rfl rfl
set_option maxRecDepth 100000 in
theorem mk_L_138 : Cond.methodLink RL 138 yL_exam ∈ nwL := nw_mem 437 rfl rfl
set_option maxRecDepth 100000 in
theorem mk_L_17 : Cond.methodLink RL 17 yX3_exam ∈ nwL := nw_mem 440 rfl rfl
set_option maxRecDepth 100000 in
theorem mk_L_142 : Cond.methodLink RL 142 yL_pupil ∈ nwL := nw_mem 445 rfl rfl
set_option maxRecDepth 100000 in
theorem mk_L_21 : Cond.methodLink RL 21 yX3_pupil ∈ nwL := nw_mem 448 rfl rfl
set_option maxRecDepth 100000 in
theorem mk_L_145 : Cond.methodLink RL 145 yL_offer ∈ nwL := nw_mem 453 rfl rfl
set_option maxRecDepth 100000 in
theorem mk_L_24 : Cond.methodLink RL 24 yX3_offer ∈ nwL := nw_mem 481 rfl rfl
set_option maxRecDepth 100000 in
theorem mk_X3_70 : Cond.methodLink RX3 70 yX3_needExam ∈ nwL := nw_mem 485 rfl rfl
set_option maxRecDepth 100000 in
theorem mk_X3_79 : Cond.methodLink RX3 79 yX3_needSlot ∈ nwL := nw_mem 503 rfl rfl
set_option maxRecDepth 100000 in
theorem mk_X3_82 : Cond.methodLink RX3 82 yX3_isRoomTaken ∈ nwL := nw_mem 507 rfl rfl
set_option maxRecDepth 100000 in
theorem mk_X3_96 : Cond.methodLinkNest RX3 96 yX0_open "Classfederation" ∈ nwL := nw_mem 528 rfl rfl
set_option maxRecDepth 100000 in
theorem mk_L_149 : Cond.methodLink RL 149 yL_bid ∈ nwL := nw_mem 532 rfl rfl
set_option maxRecDepth 100000 in
theorem mk_L_32 : Cond.methodLink RL 32 yX3_bid ∈ nwL := nw_mem 535 rfl rfl
set_option maxRecDepth 100000 in
theorem mk_X3_107 : Cond.methodLink RX3 107 yX3_needPupil ∈ nwL := nw_mem 539 rfl rfl
set_option maxRecDepth 100000 in
theorem mk_X3_100 : Cond.methodLink RX3 100 yX3_offerNumbered ∈ nwL := nw_mem 544 rfl rfl
set_option maxRecDepth 100000 in
theorem mk_X3_134 : Cond.methodLink RX3 134 yX3_needOffer ∈ nwL := nw_mem 548 rfl rfl
set_option maxRecDepth 100000 in
theorem mk_X3_112 : Cond.methodLinkNest RX3 112 yX2_sumOf "Classfederation" ∈ nwL := nw_mem 554 rfl rfl
set_option maxRecDepth 100000 in
theorem mk_X3_116 : Cond.methodLinkNest RX3 116 yX2_pointsBid "Classfederation" ∈ nwL := nw_mem 558 rfl rfl
set_option maxRecDepth 100000 in
theorem mk_X2_25 : Cond.methodLink RX2 25 yX2_placeOf ∈ nwL := nw_mem 562 rfl rfl
set_option maxRecDepth 100000 in
theorem mk_X3_126 : Cond.methodLinkNest RX3 126 yX2_takeOut "Classfederation" ∈ nwL := nw_mem 567 rfl rfl
set_option maxRecDepth 100000 in
theorem mk_X3_130 : Cond.methodLinkNest RX3 130 yX2_tell "Classfederation" ∈ nwL := nw_mem 571 rfl rfl
set_option maxRecDepth 100000 in
theorem mk_L_153 : Cond.methodLink RL 153 yL_unbid ∈ nwL := nw_mem 575 rfl rfl
set_option maxRecDepth 100000 in
theorem mk_L_36 : Cond.methodLink RL 36 yX3_unbid ∈ nwL := nw_mem 579 rfl rfl
set_option maxRecDepth 100000 in
theorem mk_L_169 : Cond.methodLink RL 169 yL_points ∈ nwL := nw_mem 599 rfl rfl
set_option maxRecDepth 100000 in
theorem mk_L_42 : Cond.methodLink RL 42 yX3_points ∈ nwL := nw_mem 602 rfl rfl
set_option maxRecDepth 100000 in
theorem mk_L_172 : Cond.methodLink RL 172 yL_seat ∈ nwL := nw_mem 606 rfl rfl
set_option maxRecDepth 100000 in
theorem mk_L_45 : Cond.methodLink RL 45 yX3_seat ∈ nwL := nw_mem 609 rfl rfl
set_option maxRecDepth 100000 in
theorem mk_L_176 : Cond.methodLink RL 176 yL_at ∈ nwL := nw_mem 614 rfl rfl
set_option maxRecDepth 100000 in
theorem mk_L_49 : Cond.methodLink RL 49 yX3_at ∈ nwL := nw_mem 617 rfl rfl
set_option maxRecDepth 100000 in
theorem mk_X3_166 : Cond.methodLink RX3 166 yX3_examHeldAt ∈ nwL := nw_mem 621 rfl rfl
set_option maxRecDepth 100000 in
theorem mk_L_179 : Cond.methodLink RL 179 yL_holders ∈ nwL := nw_mem 626 rfl rfl
set_option maxRecDepth 100000 in
theorem mk_L_52 : Cond.methodLink RL 52 yX3_holders ∈ nwL := nw_mem 629 rfl rfl
set_option maxRecDepth 100000 in
theorem mk_L_182 : Cond.methodLink RL 182 yL_holder ∈ nwL := nw_mem 633 rfl rfl
set_option maxRecDepth 100000 in
theorem mk_L_55 : Cond.methodLink RL 55 yX3_holder ∈ nwL := nw_mem 636 rfl rfl
set_option maxRecDepth 100000 in
theorem mk_X3_173 : Cond.methodLinkNest RX3 173 yX0_pupilSeated "Classfederation" ∈ nwL := nw_mem 640 rfl rfl
set_option maxRecDepth 100000 in
theorem mk_L_185 : Cond.methodLink RL 185 yL_paid ∈ nwL := nw_mem 645 rfl rfl
set_option maxRecDepth 100000 in
theorem mk_L_58 : Cond.methodLink RL 58 yX3_paid ∈ nwL := nw_mem 648 rfl rfl
set_option maxRecDepth 100000 in
theorem mk_L_188 : Cond.methodLink RL 188 yL_waiting ∈ nwL := nw_mem 653 rfl rfl
set_option maxRecDepth 100000 in
theorem mk_L_61 : Cond.methodLink RL 61 yX3_waiting ∈ nwL := nw_mem 656 rfl rfl
set_option maxRecDepth 100000 in
theorem mk_L_191 : Cond.methodLink RL 191 yL_waiter ∈ nwL := nw_mem 660 rfl rfl
set_option maxRecDepth 100000 in
theorem mk_L_64 : Cond.methodLink RL 64 yX3_waiter ∈ nwL := nw_mem 663 rfl rfl
set_option maxRecDepth 100000 in
theorem mk_L_194 : Cond.methodLink RL 194 yL_giveUp ∈ nwL := nw_mem 668 rfl rfl
set_option maxRecDepth 100000 in
theorem mk_L_67 : Cond.methodLink RL 67 yX3_giveUp ∈ nwL := nw_mem 671 rfl rfl
set_option maxRecDepth 100000 in
theorem mk_X3_197 : Cond.methodLinkNest RX3 197 yX0_unseat "Classfederation" ∈ nwL := nw_mem 676 rfl rfl
set_option maxRecDepth 100000 in
theorem mk_X3_200 : Cond.methodLink RX3 200 yX3_payBack ∈ nwL := nw_mem 680 rfl rfl
set_option maxRecDepth 100000 in
theorem mk_X3_203 : Cond.methodLink RX3 203 yX3_moveOneUp ∈ nwL := nw_mem 684 rfl rfl
set_option maxRecDepth 100000 in
theorem mk_L_197 : Cond.methodLink RL 197 yL_move ∈ nwL := nw_mem 688 rfl rfl
set_option maxRecDepth 100000 in
theorem mk_L_70 : Cond.methodLink RL 70 yX3_move ∈ nwL := nw_mem 691 rfl rfl
set_option maxRecDepth 100000 in
theorem mk_X3_212 : Cond.methodLink RX3 212 yX3_isSeatLostByMove ∈ nwL := nw_mem 696 rfl rfl
set_option maxRecDepth 100000 in
theorem mk_X3_215 : Cond.methodLink RX3 215 yX3_moveAllUp ∈ nwL := nw_mem 700 rfl rfl
set_option maxRecDepth 100000 in
theorem mk_L_200 : Cond.methodLink RL 200 yL_slotOf ∈ nwL := nw_mem 704 rfl rfl
set_option maxRecDepth 100000 in
theorem mk_L_73 : Cond.methodLink RL 73 yX3_slotOf ∈ nwL := nw_mem 707 rfl rfl
set_option maxRecDepth 100000 in
theorem mk_L_207 : Cond.methodLink RL 207 yL_write ∈ nwL := nw_mem 711 rfl rfl
set_option maxRecDepth 100000 in
theorem mk_L_76 : Cond.methodLink RL 76 yX3_write ∈ nwL := nw_mem 714 rfl rfl
set_option maxRecDepth 100000 in
theorem mk_X3_222 : Cond.methodLink RX3 222 yX3_needStore ∈ nwL := nw_mem 718 rfl rfl
set_option maxRecDepth 100000 in
theorem mk_X3_225 : Cond.methodLink RX3 225 yX3_fieldNumbered ∈ nwL := nw_mem 722 rfl rfl
set_option maxRecDepth 100000 in
theorem mk_X3_229 : Cond.methodLinkNest RX3 229 yX1_isInRange "Classfederation" ∈ nwL := nw_mem 726 rfl rfl
set_option maxRecDepth 100000 in
theorem mk_X3_234 : Cond.methodLinkNest RX3 234 yX1_valueIn "Classfederation" ∈ nwL := nw_mem 730 rfl rfl
set_option maxRecDepth 100000 in
theorem mk_X3_238 : Cond.methodLinkNest RX3 238 yX1_put "Classfederation" ∈ nwL := nw_mem 731 rfl rfl
set_option maxRecDepth 100000 in
theorem mk_L_211 : Cond.methodLink RL 211 yL_read ∈ nwL := nw_mem 735 rfl rfl
set_option maxRecDepth 100000 in
theorem mk_L_80 : Cond.methodLink RL 80 yX3_read ∈ nwL := nw_mem 738 rfl rfl
set_option maxRecDepth 100000 in
theorem mk_L_215 : Cond.methodLink RL 215 yL_sync ∈ nwL := nw_mem 742 rfl rfl
set_option maxRecDepth 100000 in
theorem mk_L_84 : Cond.methodLink RL 84 yX3_sync ∈ nwL := nw_mem 745 rfl rfl
set_option maxRecDepth 100000 in
theorem mk_X3_244 : Cond.methodLinkNest RX3 244 yX1_copyOwned "Classfederation" ∈ nwL := nw_mem 750 rfl rfl
set_option maxRecDepth 100000 in
theorem mk_X1_31 : Cond.methodLink RX1 31 yX1_copyRow ∈ nwL := nw_mem 754 rfl rfl
set_option maxRecDepth 100000 in
theorem mk_L_218 : Cond.methodLink RL 218 yL_owner ∈ nwL := nw_mem 757 rfl rfl
set_option maxRecDepth 100000 in
theorem mk_L_87 : Cond.methodLink RL 87 yX3_owner ∈ nwL := nw_mem 760 rfl rfl
set_option maxRecDepth 100000 in
theorem mk_L_222 : Cond.methodLink RL 222 yL_setOwner ∈ nwL := nw_mem 764 rfl rfl
set_option maxRecDepth 100000 in
theorem mk_L_91 : Cond.methodLink RL 91 yX3_setOwner ∈ nwL := nw_mem 767 rfl rfl
set_option maxRecDepth 100000 in
theorem mk_X3_250 : Cond.methodLinkNest RX3 250 yX1_areSame "Classfederation" ∈ nwL := nw_mem 771 rfl rfl
set_option maxRecDepth 100000 in
theorem mk_L_226 : Cond.methodLink RL 226 yL_apart ∈ nwL := nw_mem 776 rfl rfl
set_option maxRecDepth 100000 in
theorem mk_L_95 : Cond.methodLink RL 95 yX3_apart ∈ nwL := nw_mem 779 rfl rfl
set_option maxRecDepth 100000 in
theorem mk_X3_256 : Cond.methodLinkNest RX3 256 yX1_countApart "Classfederation" ∈ nwL := nw_mem 783 rfl rfl
set_option maxRecDepth 100000 in
theorem mk_L_229 : Cond.methodLink RL 229 yL_maySit ∈ nwL := nw_mem 787 rfl rfl
set_option maxRecDepth 100000 in
theorem mk_L_98 : Cond.methodLink RL 98 yX3_maySit ∈ nwL := nw_mem 790 rfl rfl
set_option maxRecDepth 100000 in
theorem mk_L_232 : Cond.methodLink RL 232 yL_isOpen ∈ nwL := nw_mem 794 rfl rfl
set_option maxRecDepth 100000 in
theorem mk_L_102 : Cond.methodLink RL 102 yX3_isOpen ∈ nwL := nw_mem 797 rfl rfl
set_option maxRecDepth 100000 in
theorem mk_L_235 : Cond.methodLink RL 235 yL_sit ∈ nwL := nw_mem 801 rfl rfl
set_option maxRecDepth 100000 in
theorem mk_L_105 : Cond.methodLink RL 105 yX3_sit ∈ nwL := nw_mem 804 rfl rfl
set_option maxRecDepth 100000 in
theorem mk_X3_267 : Cond.methodLink RX3 267 yX3_letSit ∈ nwL := nw_mem 809 rfl rfl
set_option maxRecDepth 100000 in
theorem mk_L_238 : Cond.methodLink RL 238 yL_hasSat ∈ nwL := nw_mem 813 rfl rfl
set_option maxRecDepth 100000 in
theorem mk_L_108 : Cond.methodLink RL 108 yX3_hasSat ∈ nwL := nw_mem 816 rfl rfl
set_option maxRecDepth 100000 in
theorem mk_L_241 : Cond.methodLink RL 241 yL_more ∈ nwL := nw_mem 820 rfl rfl
set_option maxRecDepth 100000 in
theorem mk_L_112 : Cond.methodLink RL 112 yX3_more ∈ nwL := nw_mem 823 rfl rfl
set_option maxRecDepth 100000 in
theorem mk_L_244 : Cond.methodLink RL 244 yL_takenShare ∈ nwL := nw_mem 827 rfl rfl
set_option maxRecDepth 100000 in
theorem mk_L_115 : Cond.methodLink RL 115 yX3_takenShare ∈ nwL := nw_mem 844 rfl rfl
set_option maxRecDepth 100000 in
theorem mk_L_248 : Cond.methodLink RL 248 yL_meanPoints ∈ nwL := nw_mem 851 rfl rfl
set_option maxRecDepth 100000 in
theorem mk_L_121 : Cond.methodLink RL 121 yX3_meanPoints ∈ nwL := nw_mem 854 rfl rfl
set_option maxRecDepth 100000 in
theorem mk_L_128 : Cond.methodLink RL 128 yX4_init ∈ nwL := nw_mem 861 rfl rfl
set_option maxRecDepth 100000 in
theorem fk_X4_59 : FLk RX4 59 RX4 "thrown" "I" := Or.inl (nw_mem 865 rfl rfl)
set_option maxRecDepth 100000 in
theorem fk_X4_76 : FLk RX4 76 RX4 "rooms" "I" := Or.inl (nw_mem 866 rfl rfl)
set_option maxRecDepth 100000 in
theorem fk_X4_70 : FLk RX4 70 RX4 "exams" "I" := Or.inl (nw_mem 867 rfl rfl)
set_option maxRecDepth 100000 in
theorem fk_X4_63 : FLk RX4 63 RX4 "pupils" "I" := Or.inl (nw_mem 868 rfl rfl)
set_option maxRecDepth 100000 in
theorem fk_X4_73 : FLk RX4 73 RX4 "offers" "I" := Or.inl (nw_mem 869 rfl rfl)
set_option maxRecDepth 100000 in
theorem fk_X4_136 : FLk RX4 136 RX4 "rounds" "I" := Or.inl (nw_mem 870 rfl rfl)
set_option maxRecDepth 100000 in
theorem fk_X4_159 : FLk RX4 159 RX4 "refunds" "I" := Or.inl (nw_mem 871 rfl rfl)
set_option maxRecDepth 100000 in
theorem fk_X4_100 : FLk RX4 100 RX4 "told" "I" := Or.inl (nw_mem 872 rfl rfl)
set_option maxRecDepth 100000 in
theorem fk_X4_7 : FLk RX4 7 RX4 "seats" "[I" := Or.inl (nw_mem 873 rfl rfl)
set_option maxRecDepth 100000 in
theorem fk_X4_13 : FLk RX4 13 RX4 "exam" "[I" := Or.inl (nw_mem 874 rfl rfl)
set_option maxRecDepth 100000 in
theorem fk_X4_16 : FLk RX4 16 RX4 "slot" "[I" := Or.inl (nw_mem 875 rfl rfl)
set_option maxRecDepth 100000 in
theorem fk_X4_19 : FLk RX4 19 RX4 "room" "[I" := Or.inl (nw_mem 876 rfl rfl)
set_option maxRecDepth 100000 in
theorem fk_X4_22 : FLk RX4 22 RX4 "isResit" "[Z" := Or.inl (nw_mem 877 rfl rfl)
set_option maxRecDepth 100000 in
theorem fk_X4_26 : FLk RX4 26 RX4 "waiting" "[I" := Or.inl (nw_mem 878 rfl rfl)
set_option maxRecDepth 100000 in
theorem fk_X4_29 : FLk RX4 29 RX4 "waiter" "[I" := Or.inl (nw_mem 879 rfl rfl)
set_option maxRecDepth 100000 in
theorem fk_X4_32 : FLk RX4 32 RX4 "waits" "[I" := Or.inl (nw_mem 880 rfl rfl)
set_option maxRecDepth 100000 in
theorem fk_X4_35 : FLk RX4 35 RX4 "bid" "[I" := Or.inl (nw_mem 881 rfl rfl)
set_option maxRecDepth 100000 in
theorem fk_X4_38 : FLk RX4 38 RX4 "when" "[I" := Or.inl (nw_mem 882 rfl rfl)
set_option maxRecDepth 100000 in
theorem fk_X4_41 : FLk RX4 41 RX4 "paid" "[I" := Or.inl (nw_mem 883 rfl rfl)
set_option maxRecDepth 100000 in
theorem fk_X4_44 : FLk RX4 44 RX4 "value" "[I" := Or.inl (nw_mem 884 rfl rfl)
set_option maxRecDepth 100000 in
theorem fk_X4_47 : FLk RX4 47 RX4 "owner" "[I" := Or.inl (nw_mem 885 rfl rfl)
set_option maxRecDepth 100000 in
theorem fk_X4_50 : FLk RX4 50 RX4 "points" "[I" := Or.inl (nw_mem 886 rfl rfl)
set_option maxRecDepth 100000 in
theorem fk_X4_53 : FLk RX4 53 RX4 "isSat" "[Z" := Or.inl (nw_mem 887 rfl rfl)
set_option maxRecDepth 100000 in
theorem fk_X4_56 : FLk RX4 56 RX4 "hasSat" "[Z" := Or.inl (nw_mem 888 rfl rfl)
set_option maxRecDepth 100000 in
theorem mk_L_135 : Cond.methodLink RL 135 yX4_thrown ∈ nwL := nw_mem 938 rfl rfl
set_option maxRecDepth 100000 in
theorem mk_L_134 : Cond.methodLink RL 134 yX4_room ∈ nwL := nw_mem 942 rfl rfl
set_option maxRecDepth 100000 in
theorem mk_X4_66 : Cond.methodLink RX4 66 yX4_in ∈ nwL := nw_mem 946 rfl rfl
set_option maxRecDepth 100000 in
theorem mk_L_141 : Cond.methodLink RL 141 yX4_exam ∈ nwL := nw_mem 949 rfl rfl
set_option maxRecDepth 100000 in
theorem mk_L_144 : Cond.methodLink RL 144 yX4_pupil ∈ nwL := nw_mem 953 rfl rfl
set_option maxRecDepth 100000 in
theorem mk_L_148 : Cond.methodLink RL 148 yX4_offer ∈ nwL := nw_mem 957 rfl rfl
set_option maxRecDepth 100000 in
theorem mk_X4_79 : Cond.methodLink RX4 79 yX4_isExam ∈ nwL := nw_mem 961 rfl rfl
set_option maxRecDepth 100000 in
theorem mk_X4_83 : Cond.methodLink RX4 83 yX4_isSlot ∈ nwL := nw_mem 965 rfl rfl
set_option maxRecDepth 100000 in
theorem mk_X4_86 : Cond.methodLink RX4 86 yX4_isTaken ∈ nwL := nw_mem 968 rfl rfl
set_option maxRecDepth 100000 in
theorem mk_L_152 : Cond.methodLink RL 152 yX4_bid ∈ nwL := nw_mem 972 rfl rfl
set_option maxRecDepth 100000 in
theorem mk_X4_90 : Cond.methodLink RX4 90 yX4_isPupil ∈ nwL := nw_mem 976 rfl rfl
set_option maxRecDepth 100000 in
theorem mk_X4_93 : Cond.methodLink RX4 93 yX4_isOffer ∈ nwL := nw_mem 980 rfl rfl
set_option maxRecDepth 100000 in
theorem mk_X4_96 : Cond.methodLink RX4 96 yX4_pair ∈ nwL := nw_mem 984 rfl rfl
set_option maxRecDepth 100000 in
theorem mk_L_156 : Cond.methodLink RL 156 yX4_unbid ∈ nwL := nw_mem 987 rfl rfl
set_option maxRecDepth 100000 in
theorem mk_L_160 : Cond.methodLink RL 160 yX4_bids ∈ nwL := nw_mem 991 rfl rfl
set_option maxRecDepth 100000 in
theorem mk_L_164 : Cond.methodLink RL 164 yX4_settle ∈ nwL := nw_mem 995 rfl rfl
set_option maxRecDepth 100000 in
theorem mk_X4_139 : Cond.methodLink RX4 139 yX4_nextBid ∈ nwL := nw_mem 999 rfl rfl
set_option maxRecDepth 100000 in
theorem mk_X4_143 : Cond.methodLink RX4 143 yX4_does ∈ nwL := nw_mem 1003 rfl rfl
set_option maxRecDepth 100000 in
theorem mk_X4_123 : Cond.methodLink RX4 123 yX4_can ∈ nwL := nw_mem 1007 rfl rfl
set_option maxRecDepth 100000 in
theorem mk_X4_110 : Cond.methodLink RX4 110 yX4_opens ∈ nwL := nw_mem 1011 rfl rfl
set_option maxRecDepth 100000 in
theorem mk_X4_107 : Cond.methodLink RX4 107 yX4_agree ∈ nwL := nw_mem 1015 rfl rfl
set_option maxRecDepth 100000 in
theorem mk_X4_103 : Cond.methodLink RX4 103 yX4_cell ∈ nwL := nw_mem 1019 rfl rfl
set_option maxRecDepth 100000 in
theorem mk_X4_113 : Cond.methodLink RX4 113 yX4_sits ∈ nwL := nw_mem 1022 rfl rfl
set_option maxRecDepth 100000 in
theorem mk_X4_126 : Cond.methodLink RX4 126 yX4_isFree ∈ nwL := nw_mem 1026 rfl rfl
set_option maxRecDepth 100000 in
theorem mk_X4_116 : Cond.methodLink RX4 116 yX4_isLike ∈ nwL := nw_mem 1030 rfl rfl
set_option maxRecDepth 100000 in
theorem mk_X4_146 : Cond.methodLink RX4 146 yX4_hasSeat ∈ nwL := nw_mem 1034 rfl rfl
set_option maxRecDepth 100000 in
theorem mk_X4_119 : Cond.methodLink RX4 119 yX4_held ∈ nwL := nw_mem 1038 rfl rfl
set_option maxRecDepth 100000 in
theorem mk_X4_149 : Cond.methodLink RX4 149 yX4_give ∈ nwL := nw_mem 1042 rfl rfl
set_option maxRecDepth 100000 in
theorem mk_X4_132 : Cond.methodLink RX4 132 yX4_leave ∈ nwL := nw_mem 1046 rfl rfl
set_option maxRecDepth 100000 in
theorem mk_X4_129 : Cond.methodLink RX4 129 yX4_placeOf ∈ nwL := nw_mem 1050 rfl rfl
set_option maxRecDepth 100000 in
theorem mk_L_168 : Cond.methodLink RL 168 yX4_rounds ∈ nwL := nw_mem 1054 rfl rfl
set_option maxRecDepth 100000 in
theorem mk_L_171 : Cond.methodLink RL 171 yX4_points ∈ nwL := nw_mem 1058 rfl rfl
set_option maxRecDepth 100000 in
theorem mk_L_175 : Cond.methodLink RL 175 yX4_seat ∈ nwL := nw_mem 1062 rfl rfl
set_option maxRecDepth 100000 in
theorem mk_L_178 : Cond.methodLink RL 178 yX4_at ∈ nwL := nw_mem 1066 rfl rfl
set_option maxRecDepth 100000 in
theorem mk_X4_156 : Cond.methodLink RX4 156 yX4_noneAt ∈ nwL := nw_mem 1070 rfl rfl
set_option maxRecDepth 100000 in
theorem mk_X4_153 : Cond.methodLink RX4 153 yX4_offerAt ∈ nwL := nw_mem 1074 rfl rfl
set_option maxRecDepth 100000 in
theorem mk_L_181 : Cond.methodLink RL 181 yX4_holders ∈ nwL := nw_mem 1078 rfl rfl
set_option maxRecDepth 100000 in
theorem mk_L_184 : Cond.methodLink RL 184 yX4_holder ∈ nwL := nw_mem 1082 rfl rfl
set_option maxRecDepth 100000 in
theorem mk_L_187 : Cond.methodLink RL 187 yX4_paid ∈ nwL := nw_mem 1086 rfl rfl
set_option maxRecDepth 100000 in
theorem mk_L_190 : Cond.methodLink RL 190 yX4_waiting ∈ nwL := nw_mem 1090 rfl rfl
set_option maxRecDepth 100000 in
theorem mk_L_193 : Cond.methodLink RL 193 yX4_waiter ∈ nwL := nw_mem 1094 rfl rfl
set_option maxRecDepth 100000 in
theorem mk_L_196 : Cond.methodLink RL 196 yX4_giveUp ∈ nwL := nw_mem 1098 rfl rfl
set_option maxRecDepth 100000 in
theorem mk_X4_162 : Cond.methodLink RX4 162 yX4_bring ∈ nwL := nw_mem 1102 rfl rfl
set_option maxRecDepth 100000 in
theorem mk_X4_165 : Cond.methodLink RX4 165 yX4_movesUp ∈ nwL := nw_mem 1106 rfl rfl
set_option maxRecDepth 100000 in
theorem mk_L_199 : Cond.methodLink RL 199 yX4_move ∈ nwL := nw_mem 1110 rfl rfl
set_option maxRecDepth 100000 in
theorem mk_L_202 : Cond.methodLink RL 202 yX4_slotOf ∈ nwL := nw_mem 1114 rfl rfl
set_option maxRecDepth 100000 in
theorem mk_L_206 : Cond.methodLink RL 206 yX4_refunds ∈ nwL := nw_mem 1118 rfl rfl
set_option maxRecDepth 100000 in
theorem mk_L_210 : Cond.methodLink RL 210 yX4_write ∈ nwL := nw_mem 1122 rfl rfl
set_option maxRecDepth 100000 in
theorem mk_X4_171 : Cond.methodLink RX4 171 yX4_fieldOf ∈ nwL := nw_mem 1126 rfl rfl
set_option maxRecDepth 100000 in
theorem mk_X4_175 : Cond.methodLink RX4 175 yX4_noRecord ∈ nwL := nw_mem 1129 rfl rfl
set_option maxRecDepth 100000 in
theorem mk_X4_168 : Cond.methodLink RX4 168 yX4_isStore ∈ nwL := nw_mem 1133 rfl rfl
set_option maxRecDepth 100000 in
theorem mk_L_214 : Cond.methodLink RL 214 yX4_read ∈ nwL := nw_mem 1136 rfl rfl
set_option maxRecDepth 100000 in
theorem mk_L_217 : Cond.methodLink RL 217 yX4_sync ∈ nwL := nw_mem 1140 rfl rfl
set_option maxRecDepth 100000 in
theorem mk_L_221 : Cond.methodLink RL 221 yX4_owner ∈ nwL := nw_mem 1144 rfl rfl
set_option maxRecDepth 100000 in
theorem mk_L_225 : Cond.methodLink RL 225 yX4_setOwner ∈ nwL := nw_mem 1148 rfl rfl
set_option maxRecDepth 100000 in
theorem mk_L_228 : Cond.methodLink RL 228 yX4_apart ∈ nwL := nw_mem 1152 rfl rfl
set_option maxRecDepth 100000 in
theorem mk_L_231 : Cond.methodLink RL 231 yX4_maySit ∈ nwL := nw_mem 1156 rfl rfl
set_option maxRecDepth 100000 in
theorem mk_L_234 : Cond.methodLink RL 234 yX4_isOpen ∈ nwL := nw_mem 1160 rfl rfl
set_option maxRecDepth 100000 in
theorem mk_L_237 : Cond.methodLink RL 237 yX4_sit ∈ nwL := nw_mem 1164 rfl rfl
set_option maxRecDepth 100000 in
theorem mk_X4_178 : Cond.methodLink RX4 178 yX4_satCell ∈ nwL := nw_mem 1168 rfl rfl
set_option maxRecDepth 100000 in
theorem mk_L_240 : Cond.methodLink RL 240 yX4_hasSat ∈ nwL := nw_mem 1171 rfl rfl
set_option maxRecDepth 100000 in
theorem mk_L_243 : Cond.methodLink RL 243 yX4_more ∈ nwL := nw_mem 1175 rfl rfl
set_option maxRecDepth 100000 in
theorem mk_L_247 : Cond.methodLink RL 247 yX4_takenShare ∈ nwL := nw_mem 1179 rfl rfl
set_option maxRecDepth 100000 in
theorem mk_L_250 : Cond.methodLink RL 250 yX4_meanPoints ∈ nwL := nw_mem 1183 rfl rfl
set_option maxRecDepth 100000 in
theorem mk_L_255 : Cond.methodLink RL 255 yX4_isTrue ∈ nwL := nw_mem 1187 rfl rfl
set_option maxRecDepth 100000 in
theorem tw_X3_IllegalArgumentException : TW RX3 44 48 "java/lang/IllegalArgumentException" := ⟨by decide +kernel, by decide +kernel⟩
set_option maxRecDepth 100000 in
theorem tw_X3_IllegalStateException : TW RX3 55 59 "java/lang/IllegalStateException" := ⟨by decide +kernel, by decide +kernel⟩
set_option maxRecDepth 100000 in
theorem tw_X3_IndexOutOfBoundsException : TW RX3 74 78 "java/lang/IndexOutOfBoundsException" := ⟨by decide +kernel, by decide +kernel⟩
set_option maxRecDepth 100000 in
theorem tw_X3_UnsupportedOperationException : TW RX3 86 90 "java/lang/UnsupportedOperationException" := ⟨by decide +kernel, by decide +kernel⟩
set_option maxRecDepth 100000 in
theorem tw_X3_ArithmeticException : TW RX3 274 278 "java/lang/ArithmeticException" := ⟨by decide +kernel, by decide +kernel⟩
end
section
/-! Bools as ints, counts over the first n -/
def bI (P : Bool) : Int32 := if P then 1 else 0
theorem bI_or (P : Bool) : bI P = 0 ∨ bI P = 1 := by cases P <;> simp [bI]
theorem bI_t : bI true = 1 := rfl
theorem bI_f : bI false = 0 := rfl
theorem bI_0 {P : Bool} : bI P = 0 ↔ P = false := by cases P <;> simp [bI]
theorem bI_n0 {P : Bool} : ¬ bI P = 0 ↔ P = true := by cases P <;> simp [bI]
def anyN (f : Nat → Bool) : Nat → Bool
  | 0 => false
  | n + 1 => anyN f n || f n
theorem anyN_iff {f : Nat → Bool} {n : Nat} : anyN f n = true ↔ ∃ i, i < n ∧ f i = true := by
  induction n with
  | zero => simp [anyN]
  | succ n ih =>
    simp only [anyN, Bool.or_eq_true, ih]
    constructor
    · rintro (⟨i, h1, h2⟩ | h)
      · exact ⟨i, by omega, h2⟩
      · exact ⟨n, by omega, h⟩
    · rintro ⟨i, h1, h2⟩
      by_cases e : i = n
      · subst e; exact Or.inr h2
      · exact Or.inl ⟨i, by omega, h2⟩
theorem anyN_t {f : Nat → Bool} {n i : Nat} (h : i < n) (hf : f i = true) : anyN f n = true := anyN_iff.mpr ⟨i, h, hf⟩
theorem anyN_f {f : Nat → Bool} {n : Nat} : anyN f n = false ↔ ∀ i, i < n → f i = false := by
  constructor
  · intro h i hi
    cases hf : f i with
    | false => rfl
    | true => rw [anyN_t hi hf] at h; cases h
  · intro h
    cases hf : anyN f n with
    | false => rfl
    | true =>
      obtain ⟨i, h1, h2⟩ := anyN_iff.mp hf
      rw [h i h1] at h2; cases h2
theorem anyN_s {f : Nat → Bool} {n : Nat} (h : anyN f n = false) (hf : f n = false) : anyN f (n + 1) = false := by simp [anyN, h, hf]
theorem anyN_congr {f g : Nat → Bool} {n : Nat} (h : ∀ i, i < n → f i = g i) : anyN f n = anyN g n := by
  induction n with
  | zero => rfl
  | succ n ih => simp only [anyN]; rw [ih (fun i hi => h i (by omega)), h n (by omega)]
def cntN (f : Nat → Bool) : Nat → Nat
  | 0 => 0
  | n + 1 => cntN f n + (if f n then 1 else 0)
theorem cntN_le (f : Nat → Bool) (n : Nat) : cntN f n ≤ n := by
  induction n with
  | zero => simp [cntN]
  | succ n ih => simp only [cntN]; split <;> omega
theorem cntN_t {f : Nat → Bool} {n : Nat} (h : f n = true) : cntN f (n + 1) = cntN f n + 1 := by simp [cntN, h]
theorem cntN_f {f : Nat → Bool} {n : Nat} (h : f n = false) : cntN f (n + 1) = cntN f n := by simp [cntN, h]
theorem cntN_congr {f g : Nat → Bool} {n : Nat} (h : ∀ i, i < n → f i = g i) : cntN f n = cntN g n := by
  induction n with
  | zero => rfl
  | succ n ih => simp only [cntN]; rw [ih (fun i hi => h i (by omega)), h n (by omega)]
theorem cntN_mono {f : Nat → Bool} {i n : Nat} (h : i ≤ n) : cntN f i ≤ cntN f n := by
  induction n with
  | zero => have : i = 0 := by omega
            subst this; exact Nat.le_refl _
  | succ n ih =>
    by_cases e : i = n + 1
    · subst e; exact Nat.le_refl _
    · have := ih (by omega)
      simp only [cntN]; omega
def sumN (g : Nat → Int32) : Nat → Int32
  | 0 => 0
  | n + 1 => sumN g n + g n
theorem sumN_congr {f g : Nat → Int32} {n : Nat} (h : ∀ i, i < n → f i = g i) : sumN f n = sumN g n := by
  induction n with
  | zero => rfl
  | succ n ih => simp only [sumN]; rw [ih (fun i hi => h i (by omega)), h n (by omega)]
def itN {α : Type} (f : Nat → α → α) : Nat → α → α
  | 0, a => a
  | n + 1, a => f n (itN f n a)
/-- the first place below n where f holds, else n -/
def firN (f : Nat → Bool) : Nat → Nat
  | 0 => 0
  | n + 1 => if firN f n < n then firN f n else if f n then n else n + 1
theorem firN_le (f : Nat → Bool) (n : Nat) : firN f n ≤ n := by
  induction n with
  | zero => simp [firN]
  | succ n ih => simp only [firN]; split <;> (try split) <;> omega
theorem firN_no {f : Nat → Bool} {n : Nat} : ∀ j, j < firN f n → f j = false := by
  induction n with
  | zero => intro j hj; simp [firN] at hj
  | succ n ih =>
    intro j hj
    simp only [firN] at hj
    split at hj
    · exact ih j hj
    · have hle := firN_le f n
      split at hj
      · exact ih j (by omega)
      · rename_i h1 h2
        by_cases e : j = n
        · subst e; simpa using h2
        · exact ih j (by omega)
theorem firN_yes {f : Nat → Bool} {n : Nat} (h : firN f n < n) : f (firN f n) = true := by
  induction n with
  | zero => omega
  | succ n ih =>
    simp only [firN] at h ⊢
    split
    · rename_i h1; exact ih h1
    · rename_i h1
      rw [if_neg h1] at h
      split
      · assumption
      · rename_i h2
        rw [if_neg h2] at h; omega
theorem firN_eq {f : Nat → Bool} {n i : Nat} (hi : i ≤ n) (h1 : ∀ j, j < i → f j = false) (h2 : i < n → f i = true) : firN f n = i := by
  have a1 := firN_le f n
  rcases Nat.lt_trichotomy (firN f n) i with h | h | h
  · have := firN_yes (f := f) (n := n) (by omega)
    rw [h1 _ h] at this; cases this
  · exact h
  · have := firN_no i h
    rw [h2 (by omega)] at this; cases this
theorem firN_congr {f g : Nat → Bool} {n : Nat} (h : ∀ i, i < n → f i = g i) : firN f n = firN g n := by
  induction n with
  | zero => rfl
  | succ n ih => simp only [firN]; rw [ih (fun i hi => h i (by omega)), h n (by omega)]
/-- its place as Java tells it: -1 for none -/
def fI (f : Nat → Bool) (n : Nat) : Int32 := if firN f n < n then nI (firN f n) else -1
theorem nI_ne_m1 {n : Nat} (h : n < 2 ^ 31) : ¬ nI n = -1 := by
  intro e
  have h1 := nI_toInt h
  rw [e] at h1
  have h2 : (-1 : Int32).toInt = -1 := by decide
  omega
section VVB
variable {p : Program} {l : Launch} {e : Env} {R : Room} {s : State} {m : MethodId} {args : Array Value} {below : List Frame} {meth : Method} {c : Code} {Q : State → Prop} {x : Sh} {nL : Nat} {a b : Mem} {o : Out} {cells slots pc : Nat} {lv : List (Option Value)} {st rest : List Value} {cc : ByteArray} {own : String}
theorem V_ifb_eq (C : CX p l s m meth c x cc own nL) {P : Bool} {off : Int} (tgt : Nat) (hd : decode cc pc = .ok (.ifCond .eq off, 3)) (ht : (pc : Int) + off = (tgt : Int)) (kt : P = false → VV p l e R s m args below meth c Q x nL a b o cells slots tgt lv st) (kf : P = true → VV p l e R s m args below meth c Q x nL a b o cells slots (pc + 3) lv st) : VV p l e R s m args below meth c Q x nL a b o cells slots pc lv (.int (bI P) :: st) := V_if_eq C tgt hd ht (fun h => kt (bI_0.mp h)) (fun h => kf (bI_n0.mp h))
theorem V_ifb_ne (C : CX p l s m meth c x cc own nL) {P : Bool} {off : Int} (tgt : Nat) (hd : decode cc pc = .ok (.ifCond .ne off, 3)) (ht : (pc : Int) + off = (tgt : Int)) (kt : P = true → VV p l e R s m args below meth c Q x nL a b o cells slots tgt lv st) (kf : P = false → VV p l e R s m args below meth c Q x nL a b o cells slots (pc + 3) lv st) : VV p l e R s m args below meth c Q x nL a b o cells slots pc lv (.int (bI P) :: st) := V_if_ne C tgt hd ht (fun h => kt (bI_n0.mp h)) (fun h => kf (bI_0.mp (by simpa using h)))
/-- for i < n, by naturals -/
theorem V_lt (C : CX p l s m meth c x cc own nL) {i n : Nat} {off : Int} (tgt : Nat) (hd : decode cc pc = .ok (.if_icmp .ge off, 3)) (ht : (pc : Int) + off = (tgt : Int)) (hi : i < 2 ^ 31) (hn : n < 2 ^ 31) (kt : n ≤ i → VV p l e R s m args below meth c Q x nL a b o cells slots tgt lv st) (kf : i < n → VV p l e R s m args below meth c Q x nL a b o cells slots (pc + 3) lv st) : VV p l e R s m args below meth c Q x nL a b o cells slots pc lv (.int (nI n) :: .int (nI i) :: st) := V_icmp_ge C tgt hd ht (fun h => kt ((nI_leI hn hi).mp h)) (fun h => kf (by have := mt (nI_leI hn hi).mpr h; omega))
/-- contracts by functions: the answer, and what is held behind -/
def FI (F : Int32) (A' B' : Mem) : Int32 → Mem → Mem → Prop := fun r a' b' => r = F ∧ a' = A' ∧ b' = B'
def FV (A' B' : Mem) : Mem → Mem → Prop := fun a' b' => a' = A' ∧ b' = B'
variable {F : Int32} {A' B' : Mem} {As : List Value}
theorem V_callf (hr : RUN p l e R s m args below meth c x nL a b o cells slots pc st rest (QI x o (FI F A' B')) As) (kk : VV p l e R s m args below meth c Q x nL A' B' o cells slots (pc + 3) lv (.int F :: rest)) : VV p l e R s m args below meth c Q x nL a b o cells slots pc lv st := V_calli hr (fun r a' b' h => by obtain ⟨rfl, rfl, rfl⟩ := h; exact kk)
theorem V_callfv (hr : RUN p l e R s m args below meth c x nL a b o cells slots pc st rest (QV x o (FV A' B')) As) (kk : VV p l e R s m args below meth c Q x nL A' B' o cells slots (pc + 3) lv rest) : VV p l e R s m args below meth c Q x nL a b o cells slots pc lv st := V_callv hr (fun a' b' h => by obtain ⟨rfl, rfl⟩ := h; exact kk)
end VVB
end
section
theorem up2_s {a : Mem} {k j : Nat} {v : Int32} : up2 a k j v k j = v := by simp [up2]
theorem up2_o {a : Mem} {k j k' j' : Nat} {v : Int32} (h : k' ≠ k ∨ j' ≠ j) : up2 a k j v k' j' = a k' j' := by
  simp only [up2]
  rw [if_neg (by omega)]
def hs (a : Mem) (i p : Nat) : Bool := decide (¬ a (18 + 4 * i + 1) p = -1)
def nTaken (a : Mem) (i : Nat) : Nat := cntN (hs a i) 10
def isFullB (a : Mem) (i : Nat) : Bool := decide (¬ nI (nTaken a i) < a (18 + 4 * i) 3)
def isOfB (a : Mem) (i : Nat) (ex z : Int32) : Bool := decide (a (18 + 4 * i) 0 = ex) && decide (a (18 + 4 * i) 4 = z)
def qAt (a : Mem) (i : Nat) (p : Int32) (k : Nat) : Bool := decide (a (18 + 4 * i + 2) k = p)
def qW (a : Mem) (i : Nat) : Nat := (a (18 + 4 * i) 8).toNatClampNeg
/-- the k-th who has a seat -/
def nthS (f : Nat → Bool) (idx : Int32) (k : Nat) : Bool := f k && decide (nI (cntN f k) = idx)
def letW (a : Mem) (i : Nat) (p pts : Int32) (w : Nat) : Mem := if firN (qAt a i p) w < w ∨ 10 ≤ w then a else up2 (up2 (up2 a (18 + 4 * i + 2) w p) (18 + 4 * i + 3) w pts) (18 + 4 * i) 8 (nI (w + 1))
def delK (a : Mem) (i pl w k : Nat) : Mem := fun c j => if c = 18 + 4 * i ∧ j = 8 then nI (w - 1) else if (c = 18 + 4 * i + 2 ∨ c = 18 + 4 * i + 3) ∧ pl ≤ j ∧ j < k then a c (j + 1) else a c j
def noMore (a : Mem) (i : Nat) (p : Int32) (w : Nat) : Mem := if firN (qAt a i p) w < w then delK a i (firN (qAt a i p) w) w (w - 1) else a
theorem fI_m1 {f : Nat → Bool} {n : Nat} (hn : n < 2 ^ 31) : fI f n = -1 ↔ ¬ firN f n < n := by
  unfold fI
  split
  · rename_i h
    constructor
    · intro e; exact absurd e (nI_ne_m1 (by omega))
    · intro e; exact absurd h e
  · rename_i h
    exact ⟨fun _ => h, fun _ => rfl⟩
theorem delK_0 {a : Mem} {i pl w : Nat} : up2 a (18 + 4 * i) 8 (nI (w - 1)) = delK a i pl w pl := by
  funext c j
  simp only [up2, delK]
  split
  · rfl
  · rw [if_neg (by omega)]
theorem delK_s {a : Mem} {i pl w k : Nat} (h : pl ≤ k) : up2 (up2 (delK a i pl w k) (18 + 4 * i + 2) k (a (18 + 4 * i + 2) (k + 1))) (18 + 4 * i + 3) k (a (18 + 4 * i + 3) (k + 1)) = delK a i pl w (k + 1) := by
  funext c j
  simp only [up2, delK]
  grind
theorem delK_2 {a : Mem} {i pl w k : Nat} (j : Nat) (h : k ≤ j) : delK a i pl w k (18 + 4 * i + 2) j = a (18 + 4 * i + 2) j := by
  simp only [delK]
  rw [if_neg (by omega), if_neg (by omega)]
theorem delK_3 {a : Mem} {i pl w k : Nat} (j : Nat) (h : k ≤ j) : delK a i pl w k (18 + 4 * i + 3) j = a (18 + 4 * i + 3) j := by
  simp only [delK]
  rw [if_neg (by omega), if_neg (by omega)]
theorem delK_8 {a : Mem} {i pl w k : Nat} : delK a i pl w k (18 + 4 * i) 8 = nI (w - 1) := by simp [delK]
set_option maxHeartbeats 4000000 in
set_option maxRecDepth 100000 in
theorem c_X0_hasSeated {l : Launch} {x : Sh} {a b : Mem} {o : Out} (hfl : l.stackTraces = false) {i : Nat} (hi : i < 12) {p : Nat} (hp : p < 10) : MG l x yX0_hasSeated cX0_hasSeated 2 (some .boolean) 0 40 [.ref (x.2.1 (18 + 4 * i)), .int (nI p)] a b o (QI x o (FI (bI (hs a i p)) a b)) := by
  refine MG.of (maxL := 2) (ret := (some .boolean)) hfl (by decide) [some (.ref (x.2.1 (18 + 4 * i))), some (.int (nI p))] rfl rfl (Nat.le_of_ble_eq_true rfl) ?_
  intro pP eE sS mM argsA belowB methM cC C hr
  refine V_aload_n C dX0_hasSeated_0 rfl ?_
  refine gt_X0_paidBy C (by omega) fk_X0_9 dX0_hasSeated_1 ?_
  refine V_iload_n C dX0_hasSeated_4 rfl ?_
  refine la_paidBy C (by omega) _ rfl (by omega) dX0_hasSeated_5 ?_
  refine V_iconst (v := -1) C dX0_hasSeated_6 (by decide) ?_
  refine V_icmp_eq C 14 dX0_hasSeated_7 (by decide) (fun h7 => ?_) (fun h7 => ?_)
  · refine V_iconst (v := 0) C dX0_hasSeated_14 (by decide) ?_
    exact V_iretz C hr (by first | exact Or.inl rfl | exact Or.inr rfl | exact bI_or _) dX0_hasSeated_15 ⟨by simp [hs, h7, bI], rfl, rfl⟩
  · refine V_iconst (v := 1) C dX0_hasSeated_10 (by decide) ?_
    refine V_goto C 15 dX0_hasSeated_11 (by decide) ?_
    exact V_iretz C hr (by first | exact Or.inl rfl | exact Or.inr rfl | exact bI_or _) dX0_hasSeated_15 ⟨by simp [hs, h7, bI], rfl, rfl⟩
set_option maxHeartbeats 4000000 in
set_option maxRecDepth 100000 in
theorem c_X0_isOf {l : Launch} {x : Sh} {a b : Mem} {o : Out} (hfl : l.stackTraces = false) {i : Nat} (hi : i < 12) {ex z : Int32} : MG l x yX0_isOf cX0_isOf 3 (some .boolean) 0 40 [.ref (x.2.1 (18 + 4 * i)), .int ex, .int z] a b o (QI x o (FI (bI (isOfB a i ex z)) a b)) := by
  refine MG.of (maxL := 3) (ret := (some .boolean)) hfl (by decide) [some (.ref (x.2.1 (18 + 4 * i))), some (.int ex), some (.int z)] rfl rfl (Nat.le_of_ble_eq_true rfl) ?_
  intro pP eE sS mM argsA belowB methM cC C hr
  refine V_aload_n C dX0_isOf_0 rfl ?_
  refine gt_X0_exam C (by omega) fk_X0_21 dX0_isOf_1 ?_
  refine V_iload_n C dX0_isOf_4 rfl ?_
  refine V_icmp_ne C 20 dX0_isOf_5 (by decide) (fun h5 => ?_) (fun h5 => ?_)
  · refine V_iconst (v := 0) C dX0_isOf_20 (by decide) ?_
    exact V_iretz C hr (by first | exact Or.inl rfl | exact Or.inr rfl | exact bI_or _) dX0_isOf_21 ⟨by first | simp [isOfB, h5, bI, h13] | simp [isOfB, h5, bI], rfl, rfl⟩
  · refine V_aload_n C dX0_isOf_8 rfl ?_
    refine gt_X0_isResit C (by omega) fk_X0_34 dX0_isOf_9 ?_
    refine V_iload_n C dX0_isOf_12 rfl ?_
    refine V_icmp_ne C 20 dX0_isOf_13 (by decide) (fun h13 => ?_) (fun h13 => ?_)
    · refine V_iconst (v := 0) C dX0_isOf_20 (by decide) ?_
      exact V_iretz C hr (by first | exact Or.inl rfl | exact Or.inr rfl | exact bI_or _) dX0_isOf_21 ⟨by first | simp [isOfB, h5, bI, h13] | simp [isOfB, h5, bI], rfl, rfl⟩
    · refine V_iconst (v := 1) C dX0_isOf_16 (by decide) ?_
      refine V_goto C 21 dX0_isOf_17 (by decide) ?_
      exact V_iretz C hr (by first | exact Or.inl rfl | exact Or.inr rfl | exact bI_or _) dX0_isOf_21 ⟨by first | simp [isOfB, h5, bI, h13] | simp [isOfB, h5, bI], rfl, rfl⟩
set_option maxHeartbeats 4000000 in
set_option maxRecDepth 100000 in
theorem c_X0_countTaken {l : Launch} {x : Sh} {a b : Mem} {o : Out} (hfl : l.stackTraces = false) {i : Nat} (hi : i < 12) : MG l x yX0_countTaken cX0_countTaken 3 (some .int) 1 80 [.ref (x.2.1 (18 + 4 * i))] a b o (QI x o (FI (nI (nTaken a i)) a b)) := by
  refine MG.of (maxL := 3) (ret := (some .int)) hfl (by decide) [some (.ref (x.2.1 (18 + 4 * i))), none, none] rfl rfl (Nat.le_of_ble_eq_true rfl) ?_
  intro pP eE sS mM argsA belowB methM cC C hr
  refine V_iconst (v := 0) C dX0_countTaken_0 (by decide) ?_
  refine V_istore_n1 C dX0_countTaken_1 (by decide) ?_
  refine V_iconst (v := 0) C dX0_countTaken_2 (by decide) ?_
  refine V_istore_n2 C dX0_countTaken_3 (by decide) ?_
  have L4 : ∀ (fuel : Nat) (k : Nat), k ≤ 10 → 10 - k < fuel → VV pP l eE ({ frames := 1, cells := 0, slots := 0, locals := 80 } : Room) sS mM argsA belowB methM cC (MQ belowB (QI x o (FI (nI (nTaken a i)) a b) sS.heap.size) argsA sS 0 0 (AW x sS.heap.size)) x 3 a b o 0 0 4 [some (.ref (x.2.1 (18 + 4 * i))), some (.int (nI (cntN (hs a i) k))), some (.int (nI k))] [] := by
    intro fuel
    induction fuel with
    | zero => intro k hk hm; exact absurd hm (Nat.not_lt_zero _)
    | succ fuel ih4 =>
      intro k hk hm
      refine V_iload_n C dX0_countTaken_4 rfl ?_
      refine V_bipush (v := nI 10) C dX0_countTaken_5 (by decide) ?_
      refine V_lt C 27 dX0_countTaken_7 (by decide) (by omega) (by omega) (fun h7 => ?_) (fun h7 => ?_)
      · have hk10 : k = 10 := by omega
        subst hk10
        refine V_iload_n C dX0_countTaken_27 rfl ?_
        exact V_ireti C hr dX0_countTaken_28 ⟨rfl, rfl, rfl⟩
      · refine V_aload_n C dX0_countTaken_10 rfl ?_
        refine V_iload_n C dX0_countTaken_11 rfl ?_
        refine V_callf (R_V C (c_X0_hasSeated hfl (by omega) (by omega)) mi_X0_hasSeated mk_X0_38 rfl (by omega) ((GE_C (by omega)).trans (GC_O (by omega))) (rfl : vwCl[2]? = some (RX0, TX0, 9)) (by decide) rfl (Nat.le_of_ble_eq_true rfl) (by decide) dX0_countTaken_12) ?_
        refine V_ifb_eq C 21 dX0_countTaken_15 (by decide) (fun h15 => ?_) (fun h15 => ?_)
        · refine V_iinc_2 C _ dX0_countTaken_21 (nI_1 _) (by decide) ?_
          refine V_goto C 4 dX0_countTaken_24 (by decide) ?_
          have ih := ih4 (k + 1) (by omega) (by omega)
          first
            | (rw [cntN_t (by assumption)] at ih; exact ih)
            | (rw [cntN_f (by assumption)] at ih; exact ih)
        · refine V_iinc_1 C _ dX0_countTaken_18 (nI_1 _) (by decide) ?_
          refine V_iinc_2 C _ dX0_countTaken_21 (nI_1 _) (by decide) ?_
          refine V_goto C 4 dX0_countTaken_24 (by decide) ?_
          have ih := ih4 (k + 1) (by omega) (by omega)
          first
            | (rw [cntN_t (by assumption)] at ih; exact ih)
            | (rw [cntN_f (by assumption)] at ih; exact ih)
  exact L4 _ 0 (by decide) (Nat.lt_succ_self _)
set_option maxHeartbeats 4000000 in
set_option maxRecDepth 100000 in
theorem c_X0_isFull {l : Launch} {x : Sh} {a b : Mem} {o : Out} (hfl : l.stackTraces = false) {i : Nat} (hi : i < 12) : MG l x yX0_isFull cX0_isFull 1 (some .boolean) 2 120 [.ref (x.2.1 (18 + 4 * i))] a b o (QI x o (FI (bI (isFullB a i)) a b)) := by
  refine MG.of (maxL := 1) (ret := (some .boolean)) hfl (by decide) [some (.ref (x.2.1 (18 + 4 * i)))] rfl rfl (Nat.le_of_ble_eq_true rfl) ?_
  intro pP eE sS mM argsA belowB methM cC C hr
  refine V_aload_n C dX0_isFull_0 rfl ?_
  refine V_callf (R_V C (c_X0_countTaken hfl (by omega)) mi_X0_countTaken mk_X0_42 rfl (by omega) ((GE_C (by omega)).trans (GC_O (by omega))) (rfl : vwCl[2]? = some (RX0, TX0, 9)) (by decide) rfl (Nat.le_of_ble_eq_true rfl) (by decide) dX0_isFull_1) ?_
  refine V_aload_n C dX0_isFull_4 rfl ?_
  refine gt_X0_seats C (by omega) fk_X0_31 dX0_isFull_5 ?_
  refine V_icmp_lt C 15 dX0_isFull_8 (by decide) (fun h8 => ?_) (fun h8 => ?_)
  · refine V_iconst (v := 0) C dX0_isFull_15 (by decide) ?_
    exact V_iretz C hr (by first | exact Or.inl rfl | exact Or.inr rfl | exact bI_or _) dX0_isFull_16 ⟨by simp [isFullB, h8, bI], rfl, rfl⟩
  · refine V_iconst (v := 1) C dX0_isFull_11 (by decide) ?_
    refine V_goto C 16 dX0_isFull_12 (by decide) ?_
    exact V_iretz C hr (by first | exact Or.inl rfl | exact Or.inr rfl | exact bI_or _) dX0_isFull_16 ⟨by simp [isFullB, h8, bI], rfl, rfl⟩
set_option maxHeartbeats 4000000 in
set_option maxRecDepth 100000 in
theorem c_X0_pupilSeated {l : Launch} {x : Sh} {a b : Mem} {o : Out} (hfl : l.stackTraces = false) {i : Nat} (hi : i < 12) {idx : Int32} : MG l x yX0_pupilSeated cX0_pupilSeated 4 (some .int) 1 80 [.ref (x.2.1 (18 + 4 * i)), .int idx] a b o (QI x o (FI (fI (nthS (hs a i) idx) 10) a b)) := by
  refine MG.of (maxL := 4) (ret := (some .int)) hfl (by decide) [some (.ref (x.2.1 (18 + 4 * i))), some (.int idx), none, none] rfl rfl (Nat.le_of_ble_eq_true rfl) ?_
  intro pP eE sS mM argsA belowB methM cC C hr
  refine V_iconst (v := 0) C dX0_pupilSeated_0 (by decide) ?_
  refine V_istore_n2 C dX0_pupilSeated_1 (by decide) ?_
  refine V_iconst (v := 0) C dX0_pupilSeated_2 (by decide) ?_
  refine V_istore_n3 C dX0_pupilSeated_3 (by decide) ?_
  have L4 : ∀ (fuel : Nat) (k : Nat), k ≤ 10 → (∀ j, j < k → nthS (hs a i) idx j = false) → 10 - k < fuel → VV pP l eE ({ frames := 1, cells := 0, slots := 0, locals := 80 } : Room) sS mM argsA belowB methM cC (MQ belowB (QI x o (FI (fI (nthS (hs a i) idx) 10) a b) sS.heap.size) argsA sS 0 0 (AW x sS.heap.size)) x 4 a b o 0 0 4 [some (.ref (x.2.1 (18 + 4 * i))), some (.int idx), some (.int (nI (cntN (hs a i) k))), some (.int (nI k))] [] := by
    intro fuel
    induction fuel with
    | zero => intro k hk hno hm; exact absurd hm (Nat.not_lt_zero _)
    | succ fuel ih4 =>
      intro k hk hno hm
      refine V_iload_n C dX0_pupilSeated_4 rfl ?_
      refine V_bipush (v := nI 10) C dX0_pupilSeated_5 (by decide) ?_
      refine V_lt C 34 dX0_pupilSeated_7 (by decide) (by omega) (by omega) (fun h7 => ?_) (fun h7 => ?_)
      · refine V_iconst (v := -1) C dX0_pupilSeated_34 (by decide) ?_
        exact V_ireti C hr dX0_pupilSeated_35 ⟨by rw [fI, firN_eq (Nat.le_refl 10) (fun j hj => hno j (by omega)) (fun h => absurd h (Nat.lt_irrefl _)), if_neg (Nat.lt_irrefl _)], rfl, rfl⟩
      · refine V_aload_n C dX0_pupilSeated_10 rfl ?_
        refine V_iload_n C dX0_pupilSeated_11 rfl ?_
        refine V_callf (R_V C (c_X0_hasSeated hfl (by omega) (by omega)) mi_X0_hasSeated mk_X0_38 rfl (by omega) ((GE_C (by omega)).trans (GC_O (by omega))) (rfl : vwCl[2]? = some (RX0, TX0, 9)) (by decide) rfl (Nat.le_of_ble_eq_true rfl) (by decide) dX0_pupilSeated_12) ?_
        refine V_ifb_eq C 28 dX0_pupilSeated_15 (by decide) (fun h15 => ?_) (fun h15 => ?_)
        · refine V_iinc_3 C _ dX0_pupilSeated_28 (nI_1 _) (by decide) ?_
          refine V_goto C 4 dX0_pupilSeated_31 (by decide) ?_
          have ih := ih4 (k + 1) (by omega) (lt_s hno (by first | simp [nthS, h15, h20] | simp [nthS, h15])) (by omega)
          first
            | (rw [cntN_t h15] at ih; exact ih)
            | (rw [cntN_f h15] at ih; exact ih)
        · refine V_iload_n C dX0_pupilSeated_18 rfl ?_
          refine V_iload_n C dX0_pupilSeated_19 rfl ?_
          refine V_icmp_ne C 25 dX0_pupilSeated_20 (by decide) (fun h20 => ?_) (fun h20 => ?_)
          · refine V_iinc_2 C _ dX0_pupilSeated_25 (nI_1 _) (by decide) ?_
            refine V_iinc_3 C _ dX0_pupilSeated_28 (nI_1 _) (by decide) ?_
            refine V_goto C 4 dX0_pupilSeated_31 (by decide) ?_
            have ih := ih4 (k + 1) (by omega) (lt_s hno (by first | simp [nthS, h15, h20] | simp [nthS, h15])) (by omega)
            first
              | (rw [cntN_t h15] at ih; exact ih)
              | (rw [cntN_f h15] at ih; exact ih)
          · refine V_iload_n C dX0_pupilSeated_23 rfl ?_
            exact V_ireti C hr dX0_pupilSeated_24 ⟨by rw [fI, firN_eq (by omega) hno (fun _ => by simp [nthS, h15, by simpa using h20]), if_pos h7], rfl, rfl⟩
  exact L4 _ 0 (by decide) (fun j hj => absurd hj (Nat.not_lt_zero _)) (Nat.lt_succ_self _)
set_option maxHeartbeats 4000000 in
set_option maxRecDepth 100000 in
theorem c_X0_unseat {l : Launch} {x : Sh} {a b : Mem} {o : Out} (hfl : l.stackTraces = false) {i : Nat} (hi : i < 12) {p : Nat} (hp : p < 10) : MG l x yX0_unseat cX0_unseat 3 (some .int) 0 40 [.ref (x.2.1 (18 + 4 * i)), .int (nI p)] a b o (QI x o (FI (a (18 + 4 * i + 1) p) (up2 a (18 + 4 * i + 1) p (-1)) b)) := by
  refine MG.of (maxL := 3) (ret := (some .int)) hfl (by decide) [some (.ref (x.2.1 (18 + 4 * i))), some (.int (nI p)), none] rfl rfl (Nat.le_of_ble_eq_true rfl) ?_
  intro pP eE sS mM argsA belowB methM cC C hr
  refine V_aload_n C dX0_unseat_0 rfl ?_
  refine gt_X0_paidBy C (by omega) fk_X0_9 dX0_unseat_1 ?_
  refine V_iload_n C dX0_unseat_4 rfl ?_
  refine la_paidBy C (by omega) _ rfl (by omega) dX0_unseat_5 ?_
  refine V_istore_n2 C dX0_unseat_6 (by decide) ?_
  refine V_aload_n C dX0_unseat_7 rfl ?_
  refine gt_X0_paidBy C (by omega) fk_X0_9 dX0_unseat_8 ?_
  refine V_iload_n C dX0_unseat_11 rfl ?_
  refine V_iconst (v := -1) C dX0_unseat_12 (by decide) ?_
  refine sa_paidBy C (by omega) _ rfl (by omega) dX0_unseat_13 ?_
  refine V_iload_n C dX0_unseat_14 rfl ?_
  exact V_ireti C hr dX0_unseat_15 ⟨rfl, rfl, rfl⟩
set_option maxHeartbeats 4000000 in
set_option maxRecDepth 100000 in
theorem c_X0_placeInQueue {l : Launch} {x : Sh} {a b : Mem} {o : Out} (hfl : l.stackTraces = false) {i : Nat} (hi : i < 12) {w : Nat} (hw : a (18 + 4 * i) 8 = nI w) (hw10 : w ≤ 10) {p : Int32} : MG l x yX0_placeInQueue cX0_placeInQueue 3 (some .int) 0 40 [.ref (x.2.1 (18 + 4 * i)), .int p] a b o (QI x o (FI (fI (qAt a i p) w) a b)) := by
  refine MG.of (maxL := 3) (ret := (some .int)) hfl (by decide) [some (.ref (x.2.1 (18 + 4 * i))), some (.int p), none] rfl rfl (Nat.le_of_ble_eq_true rfl) ?_
  intro pP eE sS mM argsA belowB methM cC C hr
  refine V_iconst (v := 0) C dX0_placeInQueue_0 (by decide) ?_
  refine V_istore_n2 C dX0_placeInQueue_1 (by decide) ?_
  have L2 : ∀ (fuel : Nat) (k : Nat), k ≤ w → (∀ j, j < k → qAt a i p j = false) → w - k < fuel → VV pP l eE ({ frames := 0, cells := 0, slots := 0, locals := 40 } : Room) sS mM argsA belowB methM cC (MQ belowB (QI x o (FI (fI (qAt a i p) w) a b) sS.heap.size) argsA sS 0 0 (AW x sS.heap.size)) x 3 a b o 0 0 2 [some (.ref (x.2.1 (18 + 4 * i))), some (.int p), some (.int (nI k))] [] := by
    intro fuel
    induction fuel with
    | zero => intro k hk hno hm; exact absurd hm (Nat.not_lt_zero _)
    | succ fuel ih2 =>
      intro k hk hno hm
      refine V_iload_n C dX0_placeInQueue_2 rfl ?_
      refine V_aload_n C dX0_placeInQueue_3 rfl ?_
      refine gt_X0_waiterCount C (by omega) fk_X0_46 dX0_placeInQueue_4 ?_
      refine V_topi hw ?_
      refine V_lt C 28 dX0_placeInQueue_7 (by decide) (by omega) (by omega) (fun h7 => ?_) (fun h7 => ?_)
      · refine V_iconst (v := -1) C dX0_placeInQueue_28 (by decide) ?_
        exact V_ireti C hr dX0_placeInQueue_29 ⟨by rw [fI, firN_eq (Nat.le_refl w) (fun j hj => hno j (by omega)) (fun h => absurd h (Nat.lt_irrefl _)), if_neg (Nat.lt_irrefl _)], rfl, rfl⟩
      · refine V_aload_n C dX0_placeInQueue_10 rfl ?_
        refine gt_X0_waiters C (by omega) fk_X0_15 dX0_placeInQueue_11 ?_
        refine V_iload_n C dX0_placeInQueue_14 rfl ?_
        refine la_waiters C (by omega) _ rfl (by omega) dX0_placeInQueue_15 ?_
        refine V_iload_n C dX0_placeInQueue_16 rfl ?_
        refine V_icmp_ne C 22 dX0_placeInQueue_17 (by decide) (fun h17 => ?_) (fun h17 => ?_)
        · refine V_iinc_2 C _ dX0_placeInQueue_22 (nI_1 _) (by decide) ?_
          refine V_goto C 2 dX0_placeInQueue_25 (by decide) ?_
          exact ih2 (k + 1) (by omega) (lt_s hno (by simp [qAt, h17])) (by omega)
        · refine V_iload_n C dX0_placeInQueue_20 rfl ?_
          exact V_ireti C hr dX0_placeInQueue_21 ⟨by rw [fI, firN_eq (by omega) hno (fun _ => by simpa [qAt] using h17), if_pos h7], rfl, rfl⟩
  exact L2 _ 0 (Nat.zero_le _) (fun j hj => absurd hj (Nat.not_lt_zero _)) (Nat.lt_succ_self _)
set_option maxHeartbeats 4000000 in
set_option maxRecDepth 100000 in
theorem c_X0_letWait {l : Launch} {x : Sh} {a b : Mem} {o : Out} (hfl : l.stackTraces = false) {i : Nat} (hi : i < 12) {w : Nat} (hw : a (18 + 4 * i) 8 = nI w) (hw10 : w ≤ 10) {p pts : Int32} : MG l x yX0_letWait cX0_letWait 3 none 1 80 [.ref (x.2.1 (18 + 4 * i)), .int p, .int pts] a b o (QV x o (FV (letW a i p pts w) b)) := by
  refine MG.of (maxL := 3) (ret := none) hfl (by decide) [some (.ref (x.2.1 (18 + 4 * i))), some (.int p), some (.int pts)] rfl rfl (Nat.le_of_ble_eq_true rfl) ?_
  intro pP eE sS mM argsA belowB methM cC C hr
  refine V_aload_n C dX0_letWait_0 rfl ?_
  refine V_iload_n C dX0_letWait_1 rfl ?_
  refine V_callf (R_V C (c_X0_placeInQueue hfl hi hw hw10) mi_X0_placeInQueue mk_X0_49 rfl (by omega) ((GE_C (by omega)).trans (GC_O (by omega))) (rfl : vwCl[2]? = some (RX0, TX0, 9)) (by decide) rfl (Nat.le_of_ble_eq_true rfl) (by decide) dX0_letWait_2) ?_
  refine V_iconst (v := -1) C dX0_letWait_5 (by decide) ?_
  refine V_icmp_ne C 18 dX0_letWait_6 (by decide) (fun h6 => ?_) (fun h6 => ?_)
  · have q6 : firN (qAt a i p) w < w := by
      have := mt (fI_m1 (f := qAt a i p) (n := w) (by omega)).mpr h6
      omega
    exact V_vret C hr dX0_letWait_18 ⟨by first | rw [letW, if_pos (Or.inl q6)] | rw [letW, if_pos (Or.inr q15)], rfl⟩
  · have q6 : ¬ firN (qAt a i p) w < w := (fI_m1 (by omega)).mp (by simpa using h6)
    refine V_aload_n C dX0_letWait_9 rfl ?_
    refine gt_X0_waiterCount C (by omega) fk_X0_46 dX0_letWait_10 ?_
    refine V_topi hw ?_
    refine V_bipush (v := nI 10) C dX0_letWait_13 (by decide) ?_
    refine V_icmp_lt C 19 dX0_letWait_15 (by decide) (fun h15 => ?_) (fun h15 => ?_)
    · have q15 : w < 10 := (nI_ltI (by omega) (by omega)).mp h15
      refine V_aload_n C dX0_letWait_19 rfl ?_
      refine gt_X0_waiters C (by omega) fk_X0_15 dX0_letWait_20 ?_
      refine V_aload_n C dX0_letWait_23 rfl ?_
      refine gt_X0_waiterCount C (by omega) fk_X0_46 dX0_letWait_24 ?_
      refine V_topi hw ?_
      refine V_iload_n C dX0_letWait_27 rfl ?_
      refine sa_waiters C (by omega) _ rfl (by omega) dX0_letWait_28 ?_
      refine V_aload_n C dX0_letWait_29 rfl ?_
      refine gt_X0_waiterPoints C (by omega) fk_X0_18 dX0_letWait_30 ?_
      refine V_aload_n C dX0_letWait_33 rfl ?_
      refine gt_X0_waiterCount C (by omega) fk_X0_46 dX0_letWait_34 ?_
      refine V_topi ((up2_o (by omega)).trans hw) ?_
      refine V_iload_n C dX0_letWait_37 rfl ?_
      refine sa_waiterPoints C (by omega) _ rfl (by omega) dX0_letWait_38 ?_
      refine V_aload_n C dX0_letWait_39 rfl ?_
      refine V_dup C dX0_letWait_40 rfl ?_
      refine gt_X0_waiterCount C (by omega) fk_X0_46 dX0_letWait_41 ?_
      refine V_topi ((up2_o (by omega)).trans ((up2_o (by omega)).trans hw)) ?_
      refine V_iconst (v := 1) C dX0_letWait_44 (by decide) ?_
      refine V_iadd C dX0_letWait_45 ?_
      refine V_topi (nI_1 _) ?_
      refine pt_X0_waiterCount C (by omega) fk_X0_46 dX0_letWait_46 ?_
      exact V_vret C hr dX0_letWait_49 ⟨by rw [letW, if_neg (by omega)], rfl⟩
    · have q15 : 10 ≤ w := by
        have := mt (nI_ltI (a := w) (b := 10) (by omega) (by omega)).mpr h15
        omega
      exact V_vret C hr dX0_letWait_18 ⟨by first | rw [letW, if_pos (Or.inl q6)] | rw [letW, if_pos (Or.inr q15)], rfl⟩
set_option maxHeartbeats 4000000 in
set_option maxRecDepth 100000 in
theorem c_X0_letWaitNoMore {l : Launch} {x : Sh} {a b : Mem} {o : Out} (hfl : l.stackTraces = false) {i : Nat} (hi : i < 12) {w : Nat} (hw : a (18 + 4 * i) 8 = nI w) (hw10 : w ≤ 10) {p : Int32} : MG l x yX0_letWaitNoMore cX0_letWaitNoMore 4 none 1 80 [.ref (x.2.1 (18 + 4 * i)), .int p] a b o (QV x o (FV (noMore a i p w) b)) := by
  refine MG.of (maxL := 4) (ret := none) hfl (by decide) [some (.ref (x.2.1 (18 + 4 * i))), some (.int p), none, none] rfl rfl (Nat.le_of_ble_eq_true rfl) ?_
  intro pP eE sS mM argsA belowB methM cC C hr
  refine V_aload_n C dX0_letWaitNoMore_0 rfl ?_
  refine V_iload_n C dX0_letWaitNoMore_1 rfl ?_
  refine V_callf (R_V C (c_X0_placeInQueue hfl hi hw hw10) mi_X0_placeInQueue mk_X0_49 rfl (by omega) ((GE_C (by omega)).trans (GC_O (by omega))) (rfl : vwCl[2]? = some (RX0, TX0, 9)) (by decide) rfl (Nat.le_of_ble_eq_true rfl) (by decide) dX0_letWaitNoMore_2) ?_
  refine V_istore_n2 C dX0_letWaitNoMore_5 (by decide) ?_
  refine V_iload_n C dX0_letWaitNoMore_6 rfl ?_
  refine V_iconst (v := -1) C dX0_letWaitNoMore_7 (by decide) ?_
  refine V_icmp_ne C 12 dX0_letWaitNoMore_8 (by decide) (fun h8 => ?_) (fun h8 => ?_)
  · have q8 : firN (qAt a i p) w < w := by
      have := mt (fI_m1 (f := qAt a i p) (n := w) (by omega)).mpr h8
      omega
    rw [fI, if_pos q8]
    generalize hpl : firN (qAt a i p) w = pl at q8 ⊢
    refine V_aload_n C dX0_letWaitNoMore_12 rfl ?_
    refine V_dup C dX0_letWaitNoMore_13 rfl ?_
    refine gt_X0_waiterCount C (by omega) fk_X0_46 dX0_letWaitNoMore_14 ?_
    refine V_topi hw ?_
    refine V_iconst (v := 1) C dX0_letWaitNoMore_17 (by decide) ?_
    refine V_isub C dX0_letWaitNoMore_18 ?_
    refine V_topi (show nI w - 1 = nI (w - 1) from pk_sub (b := 1) (by omega)) ?_
    refine pt_X0_waiterCount C (by omega) fk_X0_46 dX0_letWaitNoMore_19 ?_
    rw [delK_0 (pl := pl)]
    refine V_iload_n C dX0_letWaitNoMore_22 rfl ?_
    refine V_istore_n3 C dX0_letWaitNoMore_23 (by decide) ?_
    have L24 : ∀ (fuel : Nat) (k : Nat), pl ≤ k → k ≤ w - 1 → w - 1 - k < fuel → VV pP l eE ({ frames := 1, cells := 0, slots := 0, locals := 80 } : Room) sS mM argsA belowB methM cC (MQ belowB (QV x o (FV (noMore a i p w) b) sS.heap.size) argsA sS 0 0 (AW x sS.heap.size)) x 4 (delK a i pl w k) b o 0 0 24 [some (.ref (x.2.1 (18 + 4 * i))), some (.int p), some (.int (nI pl)), some (.int (nI k))] [] := by
      intro fuel
      induction fuel with
      | zero => intro k hk0 hk hm; exact absurd hm (Nat.not_lt_zero _)
      | succ fuel ih24 =>
        intro k hk0 hk hm
        refine V_iload_n C dX0_letWaitNoMore_24 rfl ?_
        refine V_aload_n C dX0_letWaitNoMore_25 rfl ?_
        refine gt_X0_waiterCount C (by omega) fk_X0_46 dX0_letWaitNoMore_26 ?_
        refine V_topi delK_8 ?_
        refine V_lt C 66 dX0_letWaitNoMore_29 (by decide) (by omega) (by omega) (fun h29 => ?_) (fun h29 => ?_)
        · exact V_vret C hr dX0_letWaitNoMore_66 ⟨by rw [noMore, hpl, if_pos q8, show w - 1 = k by omega], rfl⟩
        · refine V_aload_n C dX0_letWaitNoMore_32 rfl ?_
          refine gt_X0_waiters C (by omega) fk_X0_15 dX0_letWaitNoMore_33 ?_
          refine V_iload_n C dX0_letWaitNoMore_36 rfl ?_
          refine V_aload_n C dX0_letWaitNoMore_37 rfl ?_
          refine gt_X0_waiters C (by omega) fk_X0_15 dX0_letWaitNoMore_38 ?_
          refine V_iload_n C dX0_letWaitNoMore_41 rfl ?_
          refine V_iconst (v := 1) C dX0_letWaitNoMore_42 (by decide) ?_
          refine V_iadd C dX0_letWaitNoMore_43 ?_
          refine V_topi (nI_1 _) ?_
          refine la_waiters C (by omega) _ rfl (by omega) dX0_letWaitNoMore_44 ?_
          refine V_topi (delK_2 _ (by omega)) ?_
          refine sa_waiters C (by omega) _ rfl (by omega) dX0_letWaitNoMore_45 ?_
          refine V_aload_n C dX0_letWaitNoMore_46 rfl ?_
          refine gt_X0_waiterPoints C (by omega) fk_X0_18 dX0_letWaitNoMore_47 ?_
          refine V_iload_n C dX0_letWaitNoMore_50 rfl ?_
          refine V_aload_n C dX0_letWaitNoMore_51 rfl ?_
          refine gt_X0_waiterPoints C (by omega) fk_X0_18 dX0_letWaitNoMore_52 ?_
          refine V_iload_n C dX0_letWaitNoMore_55 rfl ?_
          refine V_iconst (v := 1) C dX0_letWaitNoMore_56 (by decide) ?_
          refine V_iadd C dX0_letWaitNoMore_57 ?_
          refine V_topi (nI_1 _) ?_
          refine la_waiterPoints C (by omega) _ rfl (by omega) dX0_letWaitNoMore_58 ?_
          refine V_topi ((up2_o (by omega)).trans (delK_3 _ (by omega))) ?_
          refine sa_waiterPoints C (by omega) _ rfl (by omega) dX0_letWaitNoMore_59 ?_
          refine V_iinc_3 C _ dX0_letWaitNoMore_60 (nI_1 _) (by decide) ?_
          refine V_goto C 24 dX0_letWaitNoMore_63 (by decide) ?_
          rw [delK_s hk0]
          exact ih24 (k + 1) (by omega) (by omega) (by omega)
    exact L24 _ pl (Nat.le_refl _) (by omega) (Nat.lt_succ_self _)
  · have q8 : ¬ firN (qAt a i p) w < w := (fI_m1 (by omega)).mp (by simpa using h8)
    exact V_vret C hr dX0_letWaitNoMore_11 ⟨by rw [noMore, if_neg q8], rfl⟩
set_option maxHeartbeats 4000000 in
set_option maxRecDepth 100000 in
theorem c_X0_hasSeatedWaiter {l : Launch} {x : Sh} {a b : Mem} {o : Out} (hfl : l.stackTraces = false) {i : Nat} (hi : i < 12) {w : Nat} (hw : a (18 + 4 * i) 8 = nI w) (hw10 : w ≤ 10) (hq : ∀ k, k < w → ∃ p : Nat, p < 10 ∧ a (18 + 4 * i + 2) k = nI p) : MG l x yX0_hasSeatedWaiter cX0_hasSeatedWaiter 2 (some .boolean) 1 80 [.ref (x.2.1 (18 + 4 * i))] a b o (QI x o (FI (bI (anyN (fun k => hs a i (a (18 + 4 * i + 2) k).toNatClampNeg) w)) a b)) := by
  refine MG.of (maxL := 2) (ret := (some .boolean)) hfl (by decide) [some (.ref (x.2.1 (18 + 4 * i))), none] rfl rfl (Nat.le_of_ble_eq_true rfl) ?_
  intro pP eE sS mM argsA belowB methM cC C hr
  refine V_iconst (v := 0) C dX0_hasSeatedWaiter_0 (by decide) ?_
  refine V_istore_n1 C dX0_hasSeatedWaiter_1 (by decide) ?_
  have L2 : ∀ (fuel : Nat) (k : Nat), k ≤ w → anyN (fun k => hs a i (a (18 + 4 * i + 2) k).toNatClampNeg) k = false → w - k < fuel → VV pP l eE ({ frames := 1, cells := 0, slots := 0, locals := 80 } : Room) sS mM argsA belowB methM cC (MQ belowB (QI x o (FI (bI (anyN (fun k => hs a i (a (18 + 4 * i + 2) k).toNatClampNeg) w)) a b) sS.heap.size) argsA sS 0 0 (AW x sS.heap.size)) x 2 a b o 0 0 2 [some (.ref (x.2.1 (18 + 4 * i))), some (.int (nI k))] [] := by
    intro fuel
    induction fuel with
    | zero => intro k hk hno hm; exact absurd hm (Nat.not_lt_zero _)
    | succ fuel ih2 =>
      intro k hk hno hm
      refine V_iload_n C dX0_hasSeatedWaiter_2 rfl ?_
      refine V_aload_n C dX0_hasSeatedWaiter_3 rfl ?_
      refine gt_X0_waiterCount C (by omega) fk_X0_46 dX0_hasSeatedWaiter_4 ?_
      refine V_topi hw ?_
      refine V_lt C 31 dX0_hasSeatedWaiter_7 (by decide) (by omega) (by omega) (fun h7 => ?_) (fun h7 => ?_)
      · refine V_iconst (v := 0) C dX0_hasSeatedWaiter_31 (by decide) ?_
        exact V_iretz C hr (by first | exact Or.inl rfl | exact Or.inr rfl | exact bI_or _) dX0_hasSeatedWaiter_32 ⟨by rw [show w = k by omega, hno]; rfl, rfl, rfl⟩
      · obtain ⟨p, hp, hpe⟩ := hq k h7
        have hpc : (a (18 + 4 * i + 2) k).toNatClampNeg = p := by rw [hpe]; exact nI_clamp (by omega)
        refine V_aload_n C dX0_hasSeatedWaiter_10 rfl ?_
        refine V_aload_n C dX0_hasSeatedWaiter_11 rfl ?_
        refine gt_X0_waiters C (by omega) fk_X0_15 dX0_hasSeatedWaiter_12 ?_
        refine V_iload_n C dX0_hasSeatedWaiter_15 rfl ?_
        refine la_waiters C (by omega) _ rfl (by omega) dX0_hasSeatedWaiter_16 ?_
        refine V_topi hpe ?_
        refine V_callf (R_V C (c_X0_hasSeated hfl (by omega) (by omega)) mi_X0_hasSeated mk_X0_38 rfl (by omega) ((GE_C (by omega)).trans (GC_O (by omega))) (rfl : vwCl[2]? = some (RX0, TX0, 9)) (by decide) rfl (Nat.le_of_ble_eq_true rfl) (by decide) dX0_hasSeatedWaiter_17) ?_
        refine V_ifb_eq C 25 dX0_hasSeatedWaiter_20 (by decide) (fun h20 => ?_) (fun h20 => ?_)
        · refine V_iinc_1 C _ dX0_hasSeatedWaiter_25 (nI_1 _) (by decide) ?_
          refine V_goto C 2 dX0_hasSeatedWaiter_28 (by decide) ?_
          exact ih2 (k + 1) (by omega) (anyN_s hno (by show hs a i _ = false; rw [hpc]; exact h20)) (by omega)
        · refine V_iconst (v := 1) C dX0_hasSeatedWaiter_23 (by decide) ?_
          exact V_iretz C hr (by first | exact Or.inl rfl | exact Or.inr rfl | exact bI_or _) dX0_hasSeatedWaiter_24 ⟨by rw [anyN_t h7 (by show hs a i _ = true; rw [hpc]; exact h20)]; rfl, rfl, rfl⟩
  exact L2 _ 0 (Nat.zero_le _) rfl (Nat.lt_succ_self _)
set_option maxHeartbeats 4000000 in
set_option maxRecDepth 100000 in
theorem c_X0_open {l : Launch} {x : Sh} {a b : Mem} {o : Out} (hfl : l.stackTraces = false) {i : Nat} (hi : i < 12) {e1 e2 e3 e4 e5 : Int32} (hz : e5 = 0 ∨ e5 = 1) : MG l x yX0_open cX0_open 6 none 0 40 [.ref (x.2.1 (18 + 4 * i)), .int e1, .int e2, .int e3, .int e4, .int e5] a b o (QV x o (FV (up2 (up2 (up2 (up2 (up2 a (18 + 4 * i) 0 e1) (18 + 4 * i) 1 e2) (18 + 4 * i) 2 e3) (18 + 4 * i) 3 e4) (18 + 4 * i) 4 e5) b)) := by
  refine MG.of (maxL := 6) (ret := none) hfl (by decide) [some (.ref (x.2.1 (18 + 4 * i))), some (.int e1), some (.int e2), some (.int e3), some (.int e4), some (.int e5)] rfl rfl (Nat.le_of_ble_eq_true rfl) ?_
  intro pP eE sS mM argsA belowB methM cC C hr
  refine V_aload_n C dX0_open_0 rfl ?_
  refine V_iload_n C dX0_open_1 rfl ?_
  refine pt_X0_exam C (by omega) fk_X0_21 dX0_open_2 ?_
  refine V_aload_n C dX0_open_5 rfl ?_
  refine V_iload_n C dX0_open_6 rfl ?_
  refine pt_X0_slot C (by omega) fk_X0_25 dX0_open_7 ?_
  refine V_aload_n C dX0_open_10 rfl ?_
  refine V_iload_n C dX0_open_11 rfl ?_
  refine pt_X0_room C (by omega) fk_X0_28 dX0_open_12 ?_
  refine V_aload_n C dX0_open_15 rfl ?_
  refine V_iload C dX0_open_16 rfl ?_
  refine pt_X0_seats C (by omega) fk_X0_31 dX0_open_18 ?_
  refine V_aload_n C dX0_open_21 rfl ?_
  refine V_iload C dX0_open_22 rfl ?_
  refine pt_X0_isResit C (by omega) hz fk_X0_34 dX0_open_24 ?_
  exact V_vret C hr dX0_open_27 ⟨rfl, rfl⟩
end
