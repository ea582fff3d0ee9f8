section
-- ===== PART A: goes FIRST, ahead of the names: the tables' words, and 'selects' of the private methods out of them =====
/-- a private method of a class that the tables say can be made, by its rows of tables_1 -/
def lw_okq (q : MethodName × Nat) : Prop := (q.1.cls ≠ "java/lang/invoke/MethodHandle" ∧ q.1.cls ≠ "java/lang/invoke/VarHandle") ∧ Cond.instantiable q.1.cls q.2 ∈ tables_1 ∧ Cond.privateMethod q.1 ∈ tables_1 ∧ Cond.instanceMethod q.1 ∈ tables_1
theorem lw_p0 : lw_okq (⟨"RengaHall$Means", "isGreater", "(II)Z"⟩, 2) := ⟨⟨by decide +kernel, by decide +kernel⟩, List.mem_of_getElem? (i := 150) (by decide +kernel), List.mem_of_getElem? (i := 263) (by decide +kernel), List.mem_of_getElem? (i := 264) (by decide +kernel)⟩
theorem lw_p1 : lw_okq (⟨"RengaHall", "needRange", "(III)V"⟩, 13) := ⟨⟨by decide +kernel, by decide +kernel⟩, List.mem_of_getElem? (i := 18) (by decide +kernel), List.mem_of_getElem? (i := 276) (by decide +kernel), List.mem_of_getElem? (i := 277) (by decide +kernel)⟩
theorem lw_p2 : lw_okq (⟨"java/lang/Throwable", "fillInStackTrace", "(I)Ljava/lang/Throwable;"⟩, 6) := ⟨⟨by decide +kernel, by decide +kernel⟩, List.mem_of_getElem? (i := 318) (by decide +kernel), List.mem_of_getElem? (i := 316) (by decide +kernel), List.mem_of_getElem? (i := 317) (by decide +kernel)⟩
theorem lw_p3 : lw_okq (⟨"RengaHall", "needWord", "(I)V"⟩, 13) := ⟨⟨by decide +kernel, by decide +kernel⟩, List.mem_of_getElem? (i := 18) (by decide +kernel), List.mem_of_getElem? (i := 381) (by decide +kernel), List.mem_of_getElem? (i := 382) (by decide +kernel)⟩
theorem lw_p4 : lw_okq (⟨"RengaHall", "needNoOffers", "()V"⟩, 13) := ⟨⟨by decide +kernel, by decide +kernel⟩, List.mem_of_getElem? (i := 18) (by decide +kernel), List.mem_of_getElem? (i := 443) (by decide +kernel), List.mem_of_getElem? (i := 444) (by decide +kernel)⟩
theorem lw_p5 : lw_okq (⟨"RengaHall", "needPoet", "(I)V"⟩, 13) := ⟨⟨by decide +kernel, by decide +kernel⟩, List.mem_of_getElem? (i := 18) (by decide +kernel), List.mem_of_getElem? (i := 488) (by decide +kernel), List.mem_of_getElem? (i := 489) (by decide +kernel)⟩
theorem lw_p6 : lw_okq (⟨"RengaHall$Scribe", "unlikeSeasonPlace", "(LRengaHall$Verse;)I"⟩, 2) := ⟨⟨by decide +kernel, by decide +kernel⟩, List.mem_of_getElem? (i := 135) (by decide +kernel), List.mem_of_getElem? (i := 507) (by decide +kernel), List.mem_of_getElem? (i := 508) (by decide +kernel)⟩
theorem lw_p7 : lw_okq (⟨"RengaHall$Scribe", "wordAgainPlace", "(LRengaHall$Verse;I)I"⟩, 2) := ⟨⟨by decide +kernel, by decide +kernel⟩, List.mem_of_getElem? (i := 135) (by decide +kernel), List.mem_of_getElem? (i := 516) (by decide +kernel), List.mem_of_getElem? (i := 517) (by decide +kernel)⟩
theorem lw_p8 : lw_okq (⟨"RengaHall$Scribe", "joins", "(LRengaHall$Verse;I)Z"⟩, 2) := ⟨⟨by decide +kernel, by decide +kernel⟩, List.mem_of_getElem? (i := 135) (by decide +kernel), List.mem_of_getElem? (i := 525) (by decide +kernel), List.mem_of_getElem? (i := 526) (by decide +kernel)⟩
theorem lw_p9 : lw_okq (⟨"RengaHall$Scribe", "lowestSubject", "(I)I"⟩, 2) := ⟨⟨by decide +kernel, by decide +kernel⟩, List.mem_of_getElem? (i := 135) (by decide +kernel), List.mem_of_getElem? (i := 537) (by decide +kernel), List.mem_of_getElem? (i := 538) (by decide +kernel)⟩
theorem lw_p10 : lw_okq (⟨"RengaHall$Scribe", "wrongSeason", "(II)I"⟩, 2) := ⟨⟨by decide +kernel, by decide +kernel⟩, List.mem_of_getElem? (i := 135) (by decide +kernel), List.mem_of_getElem? (i := 541) (by decide +kernel), List.mem_of_getElem? (i := 542) (by decide +kernel)⟩
theorem lw_p11 : lw_okq (⟨"RengaHall$Scribe", "leastRun", "(I)I"⟩, 2) := ⟨⟨by decide +kernel, by decide +kernel⟩, List.mem_of_getElem? (i := 135) (by decide +kernel), List.mem_of_getElem? (i := 554) (by decide +kernel), List.mem_of_getElem? (i := 555) (by decide +kernel)⟩
theorem lw_p12 : lw_okq (⟨"RengaHall$Scribe", "isLong", "(I)Z"⟩, 2) := ⟨⟨by decide +kernel, by decide +kernel⟩, List.mem_of_getElem? (i := 135) (by decide +kernel), List.mem_of_getElem? (i := 558) (by decide +kernel), List.mem_of_getElem? (i := 559) (by decide +kernel)⟩
theorem lw_p13 : lw_okq (⟨"RengaHall$Scribe", "mostRun", "(I)I"⟩, 2) := ⟨⟨by decide +kernel, by decide +kernel⟩, List.mem_of_getElem? (i := 135) (by decide +kernel), List.mem_of_getElem? (i := 562) (by decide +kernel), List.mem_of_getElem? (i := 563) (by decide +kernel)⟩
theorem lw_p14 : lw_okq (⟨"RengaHall$Scribe", "isLately", "(II)Z"⟩, 2) := ⟨⟨by decide +kernel, by decide +kernel⟩, List.mem_of_getElem? (i := 135) (by decide +kernel), List.mem_of_getElem? (i := 566) (by decide +kernel), List.mem_of_getElem? (i := 567) (by decide +kernel)⟩
theorem lw_p15 : lw_okq (⟨"RengaHall$Scribe", "wrongSeat", "(II)I"⟩, 2) := ⟨⟨by decide +kernel, by decide +kernel⟩, List.mem_of_getElem? (i := 135) (by decide +kernel), List.mem_of_getElem? (i := 571) (by decide +kernel), List.mem_of_getElem? (i := 572) (by decide +kernel)⟩
def lw_privs_1 : List (MethodName × Nat) := [(⟨"RengaHall$Means", "isGreater", "(II)Z"⟩, 2), (⟨"RengaHall", "needRange", "(III)V"⟩, 13), (⟨"java/lang/Throwable", "fillInStackTrace", "(I)Ljava/lang/Throwable;"⟩, 6), (⟨"RengaHall", "needWord", "(I)V"⟩, 13), (⟨"RengaHall", "needNoOffers", "()V"⟩, 13), (⟨"RengaHall", "needPoet", "(I)V"⟩, 13), (⟨"RengaHall$Scribe", "unlikeSeasonPlace", "(LRengaHall$Verse;)I"⟩, 2), (⟨"RengaHall$Scribe", "wordAgainPlace", "(LRengaHall$Verse;I)I"⟩, 2), (⟨"RengaHall$Scribe", "joins", "(LRengaHall$Verse;I)Z"⟩, 2), (⟨"RengaHall$Scribe", "lowestSubject", "(I)I"⟩, 2), (⟨"RengaHall$Scribe", "wrongSeason", "(II)I"⟩, 2), (⟨"RengaHall$Scribe", "leastRun", "(I)I"⟩, 2), (⟨"RengaHall$Scribe", "isLong", "(I)Z"⟩, 2), (⟨"RengaHall$Scribe", "mostRun", "(I)I"⟩, 2), (⟨"RengaHall$Scribe", "isLately", "(II)Z"⟩, 2), (⟨"RengaHall$Scribe", "wrongSeat", "(II)I"⟩, 2)]
theorem lw_r1 : ∀ q ∈ lw_privs_1, lw_okq q := List.forall_mem_cons.mpr ⟨lw_p0, List.forall_mem_cons.mpr ⟨lw_p1, List.forall_mem_cons.mpr ⟨lw_p2, List.forall_mem_cons.mpr ⟨lw_p3, List.forall_mem_cons.mpr ⟨lw_p4, List.forall_mem_cons.mpr ⟨lw_p5, List.forall_mem_cons.mpr ⟨lw_p6, List.forall_mem_cons.mpr ⟨lw_p7, List.forall_mem_cons.mpr ⟨lw_p8, List.forall_mem_cons.mpr ⟨lw_p9, List.forall_mem_cons.mpr ⟨lw_p10, List.forall_mem_cons.mpr ⟨lw_p11, List.forall_mem_cons.mpr ⟨lw_p12, List.forall_mem_cons.mpr ⟨lw_p13, List.forall_mem_cons.mpr ⟨lw_p14, List.forall_mem_cons.mpr ⟨lw_p15, fun _ h => absurd h List.not_mem_nil⟩⟩⟩⟩⟩⟩⟩⟩⟩⟩⟩⟩⟩⟩⟩⟩
theorem lw_p16 : lw_okq (⟨"RengaHall", "needLink", "(I)V"⟩, 13) := ⟨⟨by decide +kernel, by decide +kernel⟩, List.mem_of_getElem? (i := 18) (by decide +kernel), List.mem_of_getElem? (i := 607) (by decide +kernel), List.mem_of_getElem? (i := 608) (by decide +kernel)⟩
theorem lw_p17 : lw_okq (⟨"RengaHall", "needPlace", "(II)V"⟩, 13) := ⟨⟨by decide +kernel, by decide +kernel⟩, List.mem_of_getElem? (i := 18) (by decide +kernel), List.mem_of_getElem? (i := 613) (by decide +kernel), List.mem_of_getElem? (i := 614) (by decide +kernel)⟩
theorem lw_p18 : lw_okq (⟨"RengaHall", "needText", "(I)V"⟩, 13) := ⟨⟨by decide +kernel, by decide +kernel⟩, List.mem_of_getElem? (i := 18) (by decide +kernel), List.mem_of_getElem? (i := 643) (by decide +kernel), List.mem_of_getElem? (i := 644) (by decide +kernel)⟩
theorem lw_p19 : lw_okq (⟨"RengaHall", "needCopy", "(I)V"⟩, 13) := ⟨⟨by decide +kernel, by decide +kernel⟩, List.mem_of_getElem? (i := 18) (by decide +kernel), List.mem_of_getElem? (i := 647) (by decide +kernel), List.mem_of_getElem? (i := 648) (by decide +kernel)⟩
theorem lw_p20 : lw_okq (⟨"RengaHall", "needPoem", "()V"⟩, 13) := ⟨⟨by decide +kernel, by decide +kernel⟩, List.mem_of_getElem? (i := 18) (by decide +kernel), List.mem_of_getElem? (i := 652) (by decide +kernel), List.mem_of_getElem? (i := 653) (by decide +kernel)⟩
theorem lw_p21 : lw_okq (⟨"RengaHall", "fillSheet", "(LRengaHall$Sheet;I)V"⟩, 13) := ⟨⟨by decide +kernel, by decide +kernel⟩, List.mem_of_getElem? (i := 18) (by decide +kernel), List.mem_of_getElem? (i := 662) (by decide +kernel), List.mem_of_getElem? (i := 663) (by decide +kernel)⟩
theorem lw_p22 : lw_okq (⟨"RengaHall", "textWord", "(III)I"⟩, 13) := ⟨⟨by decide +kernel, by decide +kernel⟩, List.mem_of_getElem? (i := 18) (by decide +kernel), List.mem_of_getElem? (i := 666) (by decide +kernel), List.mem_of_getElem? (i := 667) (by decide +kernel)⟩
theorem lw_p23 : lw_okq (⟨"RengaHall$Sheet", "isOnSheet", "(II)Z"⟩, 1) := ⟨⟨by decide +kernel, by decide +kernel⟩, List.mem_of_getElem? (i := 164) (by decide +kernel), List.mem_of_getElem? (i := 674) (by decide +kernel), List.mem_of_getElem? (i := 675) (by decide +kernel)⟩
theorem lw_p24 : lw_okq (⟨"RengaHall", "chanceOf", "(III)I"⟩, 13) := ⟨⟨by decide +kernel, by decide +kernel⟩, List.mem_of_getElem? (i := 18) (by decide +kernel), List.mem_of_getElem? (i := 728) (by decide +kernel), List.mem_of_getElem? (i := 729) (by decide +kernel)⟩
theorem lw_p25 : lw_okq (⟨"RengaHall", "distance", "(II)I"⟩, 13) := ⟨⟨by decide +kernel, by decide +kernel⟩, List.mem_of_getElem? (i := 18) (by decide +kernel), List.mem_of_getElem? (i := 739) (by decide +kernel), List.mem_of_getElem? (i := 740) (by decide +kernel)⟩
theorem lw_p26 : lw_okq (⟨"RengaHall", "likeness", "(II)I"⟩, 13) := ⟨⟨by decide +kernel, by decide +kernel⟩, List.mem_of_getElem? (i := 18) (by decide +kernel), List.mem_of_getElem? (i := 757) (by decide +kernel), List.mem_of_getElem? (i := 758) (by decide +kernel)⟩
theorem lw_p27 : lw_okq (⟨"RengaHallModel", "goes", "(ZZZ)Z"⟩, 34) := ⟨⟨by decide +kernel, by decide +kernel⟩, List.mem_of_getElem? (i := 774) (by decide +kernel), List.mem_of_getElem? (i := 894) (by decide +kernel), List.mem_of_getElem? (i := 895) (by decide +kernel)⟩
theorem lw_p28 : lw_okq (⟨"RengaHallModel", "isWord", "(I)Z"⟩, 34) := ⟨⟨by decide +kernel, by decide +kernel⟩, List.mem_of_getElem? (i := 774) (by decide +kernel), List.mem_of_getElem? (i := 902) (by decide +kernel), List.mem_of_getElem? (i := 903) (by decide +kernel)⟩
theorem lw_p29 : lw_okq (⟨"RengaHallModel", "calls", "(II)Z"⟩, 34) := ⟨⟨by decide +kernel, by decide +kernel⟩, List.mem_of_getElem? (i := 774) (by decide +kernel), List.mem_of_getElem? (i := 906) (by decide +kernel), List.mem_of_getElem? (i := 907) (by decide +kernel)⟩
theorem lw_p30 : lw_okq (⟨"RengaHallModel", "isFinished", "()Z"⟩, 34) := ⟨⟨by decide +kernel, by decide +kernel⟩, List.mem_of_getElem? (i := 774) (by decide +kernel), List.mem_of_getElem? (i := 918) (by decide +kernel), List.mem_of_getElem? (i := 919) (by decide +kernel)⟩
theorem lw_p31 : lw_okq (⟨"RengaHallModel", "isPoet", "(I)Z"⟩, 34) := ⟨⟨by decide +kernel, by decide +kernel⟩, List.mem_of_getElem? (i := 774) (by decide +kernel), List.mem_of_getElem? (i := 938) (by decide +kernel), List.mem_of_getElem? (i := 939) (by decide +kernel)⟩
def lw_privs_2 : List (MethodName × Nat) := [(⟨"RengaHall", "needLink", "(I)V"⟩, 13), (⟨"RengaHall", "needPlace", "(II)V"⟩, 13), (⟨"RengaHall", "needText", "(I)V"⟩, 13), (⟨"RengaHall", "needCopy", "(I)V"⟩, 13), (⟨"RengaHall", "needPoem", "()V"⟩, 13), (⟨"RengaHall", "fillSheet", "(LRengaHall$Sheet;I)V"⟩, 13), (⟨"RengaHall", "textWord", "(III)I"⟩, 13), (⟨"RengaHall$Sheet", "isOnSheet", "(II)Z"⟩, 1), (⟨"RengaHall", "chanceOf", "(III)I"⟩, 13), (⟨"RengaHall", "distance", "(II)I"⟩, 13), (⟨"RengaHall", "likeness", "(II)I"⟩, 13), (⟨"RengaHallModel", "goes", "(ZZZ)Z"⟩, 34), (⟨"RengaHallModel", "isWord", "(I)Z"⟩, 34), (⟨"RengaHallModel", "calls", "(II)Z"⟩, 34), (⟨"RengaHallModel", "isFinished", "()Z"⟩, 34), (⟨"RengaHallModel", "isPoet", "(I)Z"⟩, 34)]
theorem lw_r2 : ∀ q ∈ lw_privs_2, lw_okq q := List.forall_mem_cons.mpr ⟨lw_p16, List.forall_mem_cons.mpr ⟨lw_p17, List.forall_mem_cons.mpr ⟨lw_p18, List.forall_mem_cons.mpr ⟨lw_p19, List.forall_mem_cons.mpr ⟨lw_p20, List.forall_mem_cons.mpr ⟨lw_p21, List.forall_mem_cons.mpr ⟨lw_p22, List.forall_mem_cons.mpr ⟨lw_p23, List.forall_mem_cons.mpr ⟨lw_p24, List.forall_mem_cons.mpr ⟨lw_p25, List.forall_mem_cons.mpr ⟨lw_p26, List.forall_mem_cons.mpr ⟨lw_p27, List.forall_mem_cons.mpr ⟨lw_p28, List.forall_mem_cons.mpr ⟨lw_p29, List.forall_mem_cons.mpr ⟨lw_p30, List.forall_mem_cons.mpr ⟨lw_p31, fun _ h => absurd h List.not_mem_nil⟩⟩⟩⟩⟩⟩⟩⟩⟩⟩⟩⟩⟩⟩⟩⟩
theorem lw_p32 : lw_okq (⟨"RengaHallModel", "faultOf", "(II)I"⟩, 34) := ⟨⟨by decide +kernel, by decide +kernel⟩, List.mem_of_getElem? (i := 774) (by decide +kernel), List.mem_of_getElem? (i := 942) (by decide +kernel), List.mem_of_getElem? (i := 943) (by decide +kernel)⟩
theorem lw_p33 : lw_okq (⟨"RengaHallModel", "soundsOfRow", "()I"⟩, 34) := ⟨⟨by decide +kernel, by decide +kernel⟩, List.mem_of_getElem? (i := 774) (by decide +kernel), List.mem_of_getElem? (i := 946) (by decide +kernel), List.mem_of_getElem? (i := 947) (by decide +kernel)⟩
theorem lw_p34 : lw_okq (⟨"RengaHallModel", "mixes", "()I"⟩, 34) := ⟨⟨by decide +kernel, by decide +kernel⟩, List.mem_of_getElem? (i := 774) (by decide +kernel), List.mem_of_getElem? (i := 950) (by decide +kernel), List.mem_of_getElem? (i := 951) (by decide +kernel)⟩
theorem lw_p35 : lw_okq (⟨"RengaHallModel", "seasonOfRow", "()I"⟩, 34) := ⟨⟨by decide +kernel, by decide +kernel⟩, List.mem_of_getElem? (i := 774) (by decide +kernel), List.mem_of_getElem? (i := 954) (by decide +kernel), List.mem_of_getElem? (i := 955) (by decide +kernel)⟩
theorem lw_p36 : lw_okq (⟨"RengaHallModel", "comesAgain", "(I)I"⟩, 34) := ⟨⟨by decide +kernel, by decide +kernel⟩, List.mem_of_getElem? (i := 774) (by decide +kernel), List.mem_of_getElem? (i := 958) (by decide +kernel), List.mem_of_getElem? (i := 959) (by decide +kernel)⟩
theorem lw_p37 : lw_okq (⟨"RengaHallModel", "joins", "(I)Z"⟩, 34) := ⟨⟨by decide +kernel, by decide +kernel⟩, List.mem_of_getElem? (i := 774) (by decide +kernel), List.mem_of_getElem? (i := 962) (by decide +kernel), List.mem_of_getElem? (i := 963) (by decide +kernel)⟩
theorem lw_p38 : lw_okq (⟨"RengaHallModel", "signsOfRow", "()I"⟩, 34) := ⟨⟨by decide +kernel, by decide +kernel⟩, List.mem_of_getElem? (i := 774) (by decide +kernel), List.mem_of_getElem? (i := 966) (by decide +kernel), List.mem_of_getElem? (i := 967) (by decide +kernel)⟩
theorem lw_p39 : lw_okq (⟨"RengaHallModel", "signsOf", "(I)I"⟩, 34) := ⟨⟨by decide +kernel, by decide +kernel⟩, List.mem_of_getElem? (i := 774) (by decide +kernel), List.mem_of_getElem? (i := 970) (by decide +kernel), List.mem_of_getElem? (i := 971) (by decide +kernel)⟩
theorem lw_p40 : lw_okq (⟨"RengaHallModel", "lengthFault", "(I)I"⟩, 34) := ⟨⟨by decide +kernel, by decide +kernel⟩, List.mem_of_getElem? (i := 774) (by decide +kernel), List.mem_of_getElem? (i := 977) (by decide +kernel), List.mem_of_getElem? (i := 978) (by decide +kernel)⟩
theorem lw_p41 : lw_okq (⟨"RengaHallModel", "seasonOf", "(I)I"⟩, 34) := ⟨⟨by decide +kernel, by decide +kernel⟩, List.mem_of_getElem? (i := 774) (by decide +kernel), List.mem_of_getElem? (i := 981) (by decide +kernel), List.mem_of_getElem? (i := 982) (by decide +kernel)⟩
theorem lw_p42 : lw_okq (⟨"RengaHallModel", "runAt", "(I)I"⟩, 34) := ⟨⟨by decide +kernel, by decide +kernel⟩, List.mem_of_getElem? (i := 774) (by decide +kernel), List.mem_of_getElem? (i := 985) (by decide +kernel), List.mem_of_getElem? (i := 986) (by decide +kernel)⟩
theorem lw_p43 : lw_okq (⟨"RengaHallModel", "seatFault", "(I)I"⟩, 34) := ⟨⟨by decide +kernel, by decide +kernel⟩, List.mem_of_getElem? (i := 774) (by decide +kernel), List.mem_of_getElem? (i := 992) (by decide +kernel), List.mem_of_getElem? (i := 993) (by decide +kernel)⟩
theorem lw_p44 : lw_okq (⟨"RengaHallModel", "laysLink", "(I)V"⟩, 34) := ⟨⟨by decide +kernel, by decide +kernel⟩, List.mem_of_getElem? (i := 774) (by decide +kernel), List.mem_of_getElem? (i := 1008) (by decide +kernel), List.mem_of_getElem? (i := 1009) (by decide +kernel)⟩
theorem lw_p45 : lw_okq (⟨"RengaHallModel", "isLink", "(I)Z"⟩, 34) := ⟨⟨by decide +kernel, by decide +kernel⟩, List.mem_of_getElem? (i := 774) (by decide +kernel), List.mem_of_getElem? (i := 1016) (by decide +kernel), List.mem_of_getElem? (i := 1017) (by decide +kernel)⟩
theorem lw_p46 : lw_okq (⟨"RengaHallModel", "linksOf", "(I)I"⟩, 34) := ⟨⟨by decide +kernel, by decide +kernel⟩, List.mem_of_getElem? (i := 774) (by decide +kernel), List.mem_of_getElem? (i := 1024) (by decide +kernel), List.mem_of_getElem? (i := 1025) (by decide +kernel)⟩
theorem lw_p47 : lw_okq (⟨"RengaHallModel", "sizeOf", "(II)I"⟩, 34) := ⟨⟨by decide +kernel, by decide +kernel⟩, List.mem_of_getElem? (i := 774) (by decide +kernel), List.mem_of_getElem? (i := 1028) (by decide +kernel), List.mem_of_getElem? (i := 1029) (by decide +kernel)⟩
def lw_privs_3 : List (MethodName × Nat) := [(⟨"RengaHallModel", "faultOf", "(II)I"⟩, 34), (⟨"RengaHallModel", "soundsOfRow", "()I"⟩, 34), (⟨"RengaHallModel", "mixes", "()I"⟩, 34), (⟨"RengaHallModel", "seasonOfRow", "()I"⟩, 34), (⟨"RengaHallModel", "comesAgain", "(I)I"⟩, 34), (⟨"RengaHallModel", "joins", "(I)Z"⟩, 34), (⟨"RengaHallModel", "signsOfRow", "()I"⟩, 34), (⟨"RengaHallModel", "signsOf", "(I)I"⟩, 34), (⟨"RengaHallModel", "lengthFault", "(I)I"⟩, 34), (⟨"RengaHallModel", "seasonOf", "(I)I"⟩, 34), (⟨"RengaHallModel", "runAt", "(I)I"⟩, 34), (⟨"RengaHallModel", "seatFault", "(I)I"⟩, 34), (⟨"RengaHallModel", "laysLink", "(I)V"⟩, 34), (⟨"RengaHallModel", "isLink", "(I)Z"⟩, 34), (⟨"RengaHallModel", "linksOf", "(I)I"⟩, 34), (⟨"RengaHallModel", "sizeOf", "(II)I"⟩, 34)]
theorem lw_r3 : ∀ q ∈ lw_privs_3, lw_okq q := List.forall_mem_cons.mpr ⟨lw_p32, List.forall_mem_cons.mpr ⟨lw_p33, List.forall_mem_cons.mpr ⟨lw_p34, List.forall_mem_cons.mpr ⟨lw_p35, List.forall_mem_cons.mpr ⟨lw_p36, List.forall_mem_cons.mpr ⟨lw_p37, List.forall_mem_cons.mpr ⟨lw_p38, List.forall_mem_cons.mpr ⟨lw_p39, List.forall_mem_cons.mpr ⟨lw_p40, List.forall_mem_cons.mpr ⟨lw_p41, List.forall_mem_cons.mpr ⟨lw_p42, List.forall_mem_cons.mpr ⟨lw_p43, List.forall_mem_cons.mpr ⟨lw_p44, List.forall_mem_cons.mpr ⟨lw_p45, List.forall_mem_cons.mpr ⟨lw_p46, List.forall_mem_cons.mpr ⟨lw_p47, fun _ h => absurd h List.not_mem_nil⟩⟩⟩⟩⟩⟩⟩⟩⟩⟩⟩⟩⟩⟩⟩⟩
theorem lw_p48 : lw_okq (⟨"RengaHallModel", "wordOf", "(III)I"⟩, 34) := ⟨⟨by decide +kernel, by decide +kernel⟩, List.mem_of_getElem? (i := 774) (by decide +kernel), List.mem_of_getElem? (i := 1032) (by decide +kernel), List.mem_of_getElem? (i := 1033) (by decide +kernel)⟩
theorem lw_p49 : lw_okq (⟨"RengaHallModel", "isText", "(I)Z"⟩, 34) := ⟨⟨by decide +kernel, by decide +kernel⟩, List.mem_of_getElem? (i := 774) (by decide +kernel), List.mem_of_getElem? (i := 1076) (by decide +kernel), List.mem_of_getElem? (i := 1077) (by decide +kernel)⟩
theorem lw_p50 : lw_okq (⟨"RengaHallModel", "farOf", "(II)I"⟩, 34) := ⟨⟨by decide +kernel, by decide +kernel⟩, List.mem_of_getElem? (i := 774) (by decide +kernel), List.mem_of_getElem? (i := 1080) (by decide +kernel), List.mem_of_getElem? (i := 1081) (by decide +kernel)⟩
theorem lw_p51 : lw_okq (⟨"RengaHallModel", "likeness", "(II)I"⟩, 34) := ⟨⟨by decide +kernel, by decide +kernel⟩, List.mem_of_getElem? (i := 774) (by decide +kernel), List.mem_of_getElem? (i := 1092) (by decide +kernel), List.mem_of_getElem? (i := 1093) (by decide +kernel)⟩
def lw_privs_4 : List (MethodName × Nat) := [(⟨"RengaHallModel", "wordOf", "(III)I"⟩, 34), (⟨"RengaHallModel", "isText", "(I)Z"⟩, 34), (⟨"RengaHallModel", "farOf", "(II)I"⟩, 34), (⟨"RengaHallModel", "likeness", "(II)I"⟩, 34)]
theorem lw_r4 : ∀ q ∈ lw_privs_4, lw_okq q := List.forall_mem_cons.mpr ⟨lw_p48, List.forall_mem_cons.mpr ⟨lw_p49, List.forall_mem_cons.mpr ⟨lw_p50, List.forall_mem_cons.mpr ⟨lw_p51, fun _ h => absurd h List.not_mem_nil⟩⟩⟩⟩
def lw_privs : List (MethodName × Nat) := lw_privs_1 ++ (lw_privs_2 ++ (lw_privs_3 ++ (lw_privs_4)))
def lw_tbl : List Cond := k2_sels lw_privs ++ tables_1
theorem lw_privs_ok : ∀ q ∈ lw_privs, lw_okq q := by
  show ∀ q ∈ lw_privs_1 ++ (lw_privs_2 ++ (lw_privs_3 ++ (lw_privs_4))), lw_okq q
  exact List.forall_mem_append.mpr ⟨lw_r1, List.forall_mem_append.mpr ⟨lw_r2, List.forall_mem_append.mpr ⟨lw_r3, lw_r4⟩⟩⟩
end
section
/-! ===== BEGIN words of one list among another's, by their places ===== -/
theorem goodIn_r {big : List Cond} (ws : List Cond) (ps : List Nat) (hp : ws = ps.filterMap (fun i => big[i]?)) (h : ws.all goodWord = true) : GoodIn big ws := by
  intro w hw
  have h1 := List.all_eq_true.mp h w hw
  rw [hp] at hw
  obtain ⟨i, -, hi⟩ := List.mem_filterMap.mp hw
  have hm : w ∈ big := by first | exact List.mem_of_getElem? hi | exact List.getElem?_mem hi
  exact ⟨hm, good_of_word h1⟩
theorem goodIn_app {big a b : List Cond} (ha : GoodIn big a) (hb : GoodIn big b) : GoodIn big (a ++ b) := fun w h => (List.mem_append.mp h).elim (ha w) (hb w)
theorem goodIn_ca {big a b : List Cond} {c : Cond} (ha : GoodIn big (c :: a)) (hb : GoodIn big b) : GoodIn big (c :: (a ++ b)) := fun w h => (List.mem_cons.mp h).elim (fun e => ha w (List.mem_cons.mpr (Or.inl e))) (fun h => (List.mem_append.mp h).elim (fun h => ha w (List.mem_cons.mpr (Or.inr h))) (hb w))
theorem goodIn_sub {big ws : List Cond} (hm : ∀ w ∈ ws, w ∈ big) (h : ws.all goodWord = true) : GoodIn big ws := fun w hw => ⟨hm w hw, good_of_word (List.all_eq_true.mp h w hw)⟩
/-! ===== END ===== -/

/-! ===== BEGIN exceptions that leave a method, and their catching by the caller (launches without stack traces) ===== -/
section VXA
/-! The laws vx_back, vx_callV, vx_callS, vx_callSW, vx_throw0, vx_throwS follow proofs of the library, with one case more: JvmDerived/Free/Laws.lean (Back.of_free), Shelf42/LK1.lean (callV, callS), Shelf/KitTraced.lean (throwNew0V, throwNewS). -/
/-- where a method has thrown q: the class by its name, the cell, what was written, the world -/
def vx_T (XC : String → State → State → Prop) (st : State) (q : Addr) (t : State) (mc ms : Nat) (free : Addr → Prop) : Prop :=
  ∃ (E : String) (ce : Cell) (L : List Loc), XC E st t ∧ t.heap[q]? = some ce ∧ ce.vm = .none ∧ st.vm.findClass E = some ce.cls ∧ st.WarmedH t.vm ∧ st.sameButNew ({ t with vm := st.vm } : State) L mc ms ∧ ∀ z ∈ L, free z.base
def vx_Q (Qc : Array Value → State → Outcome → State → Prop) (XC : String → State → State → Prop) (mc ms : Nat) (free : Addr → Prop) : Array Value → State → Outcome → State → Prop := fun a st o t =>
  (Qc a st o t ∧ ∃ L, FrameEnd st o t L mc ms ∧ ∀ q ∈ L, free q.base) ∨ ∃ q, o = .threw q ∧ vx_T XC st q t mc ms free
/-- a callee that returns or throws -/
def vx_Met (l : Launch) (y : MethodName) (ws : List Cond) (rm : Room) (Pc : Array Value → State → Prop) (Qc : Array Value → State → Outcome → State → Prop) (XC : String → State → State → Prop) (mc ms : Nat) (free : Addr → Prop) : Prop :=
  MetFree l y (headSpec ws rm) Pc (fun _ _ _ _ _ => True) (vx_Q Qc XC mc ms free)
def vx_Post (XC : String → State → State → Prop) (mc ms : Nat) (free : Addr → Prop) : Pt → Array Value → Addr → Pt → Prop := fun A a q B =>
  ∃ (g : JFrame) (mk : MethodId) (t : State) (L : List Loc) (E : String) (ce : Cell), B.U.heap = t.heap ∧ B.U.vm = t.vm ∧ XC E (A.U.calling g mk a) t ∧ t.heap[q]? = some ce ∧ ce.vm = .none ∧ A.U.vm.findClass E = some ce.cls ∧ B.locs = A.locs ++ L ∧ (∀ z ∈ L, free z.base) ∧ B.cells = A.cells + mc ∧ B.slots = A.slots + ms
def vx_Back (l : Launch) (R : Room) (p : Program) (e : Env) (below : List Frame) (s : State) (sargs : Array Value) (y : MethodName) (len W9 : Nat)
    (Pre : Pt → Array Value → Prop) (Post : Pt → Array Value → Option Value → Pt → Prop) (PostX : Pt → Array Value → Addr → Pt → Prop) : Prop :=
  ∀ (m : MethodId) (meth : Method) (c : Code) (A : Pt) (g : JFrame) (ig : Instr) (mk : MethodId) (a : Array Value),
    Stand p l e R s m sargs below meth c A.U A.locs A.cells A.slots → g.method = m → g.locals.size = c.maxLocals → decode c.code g.pc = .ok (ig, len) →
    2 * g.monitorRoom + (g.stack.map fun v => v.category).sum ≤ W9 → A.U.methodNamed? y = some mk → Pre A a →
    (∃ (v : Option Value) (B : Pt), Stand p l e R s m sargs below meth c B.U B.locs B.cells B.slots ∧ Post A a v B ∧
      Steps p.tables e below (doInvoke e (A.U.setTop g) [] mk a).1 (B.U.setTop { g with pc := g.pc + len, stack := v.toList ++ g.stack })) ∨
    (∃ (q : Addr) (B : Pt), Stand p l e R s m sargs below meth c B.U B.locs B.cells B.slots ∧ PostX A a q B ∧
      Steps p.tables e below (doInvoke e (A.U.setTop g) [] mk a).1 ((B.U.setTop g).pushFrame (.throwing q)))
section Payer
variable {l : Launch} {R : Room} {p : Program} {e : Env} {below : List Frame} {s : State} {sargs : Array Value} {y : MethodName} {len W9 : Nat}
theorem vx_back {ws : List Cond} {rm : Room} {Pc : Array Value → State → Prop} {Qc : Array Value → State → Outcome → State → Prop} {XC : String → State → State → Prop} {mc ms : Nat} {free : Addr → Prop} {bytes : ByteArray} {maxL : Nat} {ret : Option FieldType}
    (hM : vx_Met l y ws rm Pc Qc XC mc ms free) (hblind : FrameBlind Pc) (hrc : rm.cells = mc) (hrs : rm.slots = ms)
    (hframes : rm.frames + 1 ≤ R.frames) (hlocals : W9 + (maxL + 11) + rm.locals ≤ R.locals)
    (hws : ∀ w ∈ ws, ∀ a' U, s.WarmedH U.vm → w.before a' U = true) (hcode : Cond.code y bytes maxL ret ∈ ws) (hinit : ∀ a' U, s.WarmedH U.vm → (Cond.initialized y.cls).before a' U = true) :
    vx_Back l R p e below s sargs y len W9 (PreOf R mc ms Pc) (PostOf Qc mc ms free) (vx_Post XC mc ms free) := by
  intro m meth c A g ig mk a X hg hsize hdg hW hn hp
  have h1 : (headSpec ws rm).pre.before a A.U = true := atoms_intro fun w hw => hws w hw _ _ X.warmed
  have h2 : (Cond.code y bytes maxL ret).before a A.U = true := hws _ hcode _ _ X.warmed
  have h3 : (Cond.initialized y.cls).before a A.U = true := hinit _ _ X.warmed
  have h4 : A.cells + (headSpec ws rm).room.cells ≤ R.cells := by rw [show (headSpec ws rm).room.cells = mc from hrc]; exact hp.1
  have h5 : A.slots + (headSpec ws rm).room.slots ≤ R.slots := by rw [show (headSpec ws rm).room.slots = ms from hrs]; exact hp.2.1
  have hPc : Pc a (A.U.calling g mk a) := hblind _ _ _ _ hp.2.2
  obtain ⟨U, Ls, c0, s0⟩ := A
  dsimp only [Pt.U, Pt.locs, Pt.cells, Pt.slots] at h1 h2 h3 h4 h5 X hn hPc ⊢
  obtain ⟨methY, cY, hmY, hcY, -, hlY, -, -, -, -⟩ := Cond.code_spec hn h2
  obtain ⟨kY, hkY, -⟩ := className_of_methodNamed hn
  have hinitY : kY.init = .initialized := Cond.initialized_spec (findClass_of_methodNamed hn) hkY h3
  have h : At U g.method c below := by rw [hg]; exact X.here
  have hlocals9 : W9 + (maxL + 11) + (headSpec ws rm).room.locals ≤ R.locals := hlocals
  have happ : (headSpec ws rm).appliesLoose y e.platform (U.calling g mk a) = true :=
    Spec.appliesLoose_calling (g := g) h hdg hn hkY hinitY
      (X.room_calling (g := g) (R' := (headSpec ws rm).room) hsize hmY hcY hframes (by rw [hlY]; omega) h4 h5) h1
  obtain ⟨mid, hmid⟩ := h.above
  have hfr : (U.setTop g).frames = (.java g :: mid) ++ below := by rw [State.frames_setTop' g h.top, hmid]; rfl
  obtain ⟨o, s₂, hsteps, -, hend, hq⟩ := Steps.callFree hM p X.admits X.cas X.clock (acts := []) hfr happ hPc trivial
  have hq' : vx_Q Qc XC mc ms free a (U.calling g mk a) o s₂ := hq
  rw [State.frames_setTop' g h.top] at hend
  obtain ⟨g₀, hg0⟩ := Option.isSome_iff_exists.mp h.top
  obtain ⟨r, hr⟩ := State.topJava?_eq_some.mp hg0
  have hr' : (({ U with heap := s₂.heap, slotsUsed := s₂.slotsUsed } : State).setVm s₂.vm).frames = .java g₀ :: r := hr
  rcases hq' with ⟨hqc, L, hfe, hL⟩ | ⟨q, rfl, E, ce, L, hx, hce, hcv, hcl, hW₂, hsm, hL⟩
  · obtain ⟨⟨v, rfl⟩, hW₂, e2, q2, q3, q4, q5, q6⟩ := id hfe
    have e3 : s₂ = ({ (U.calling g mk a).setFrames s₂.frames with heap := s₂.heap, slotsUsed := s₂.slotsUsed } : State).setVm s₂.vm := by
      have : s₂ = ({ s₂ with vm := (U.calling g mk a).vm } : State).setVm s₂.vm := rfl
      rw [e2] at this
      exact this
    obtain ⟨c₂, i₂, len₂, hc₂, hd₂, hf₂⟩ := hend
    have hW' : U.WarmedH s₂.vm := hW₂
    have hcc : c₂ = c := by
      have h1 : s₂.code? g.method = U.code? g.method := by
        rw [State.code?_eq, State.code?_eq, hW'.alike.method?]
      exact Option.some.inj (hc₂.symm.trans (h1.trans h.code))
    subst hcc
    have hlen : len₂ = len := by rw [hdg] at hd₂; cases hd₂; rfl
    subst hlen
    have hs₂ : s₂ = (({ U with heap := s₂.heap, slotsUsed := s₂.slotsUsed } : State).setVm s₂.vm).setTop { g with pc := g.pc + len₂, stack := v.toList ++ g.stack } := by
      refine e3.trans ?_
      rw [hf₂, State.calling_eq h.top, State.setFrames_setFrames, State.setTop_of_frames _ hr', hr]
      rfl
    have hsame : U.sameButNew ({ U with heap := s₂.heap, slotsUsed := s₂.slotsUsed } : State) L mc ms := by
      refine ⟨?_, q2, q3, q4, q5, q6⟩
      obtain ⟨t, ht, -⟩ := State.frames_cons hr
      show ({ U with heap := s₂.heap, slotsUsed := s₂.slotsUsed } : State) = { U.setFrames U.frames with heap := s₂.heap, slotsUsed := s₂.slotsUsed }
      rw [State.setFrames_self ht]
    subst hg
    refine Or.inl ⟨v, ⟨(({ U with heap := s₂.heap, slotsUsed := s₂.slotsUsed } : State).setVm s₂.vm), Ls ++ L, c0 + mc, s0 + ms⟩,
      ⟨X.admits, X.cas, X.clock, X.frames, X.room, X.hears, X.method, X.code, (X.here.setHeapUsed s₂.heap s₂.slotsUsed).setVm hW'.alike, X.tail, State.WarmedH.trans X.warmed hW', X.limits, X.bytes, X.same.trans (hsame.setVm s.vm)⟩,
      ⟨g, mk, s₂, L, rfl, rfl, hqc, rfl, hL, rfl, rfl⟩, ?_⟩
    show Steps p.tables e below _ ((({ U with heap := s₂.heap, slotsUsed := s₂.slotsUsed } : State).setVm s₂.vm).setTop { g with pc := g.pc + len₂, stack := v.toList ++ g.stack })
    rw [← hs₂]
    exact hsteps
  · obtain ⟨e2, q2, q3, q4, q5, q6⟩ := id hsm
    have e3 : s₂ = ({ (U.calling g mk a).setFrames s₂.frames with heap := s₂.heap, slotsUsed := s₂.slotsUsed } : State).setVm s₂.vm := by
      have : s₂ = ({ s₂ with vm := (U.calling g mk a).vm } : State).setVm s₂.vm := rfl
      rw [e2] at this
      exact this
    have hf₂ : s₂.frames = .throwing q :: .java g :: U.frames.tail := hend
    have hW' : U.WarmedH s₂.vm := hW₂
    have hs₂ : s₂ = ((({ U with heap := s₂.heap, slotsUsed := s₂.slotsUsed } : State).setVm s₂.vm).setTop g).pushFrame (.throwing q) := by
      refine e3.trans ?_
      rw [hf₂, State.calling_eq h.top, State.setFrames_setFrames, State.pushFrame, State.frames_setTop _ hr', State.setTop_of_frames _ hr', State.setFrames_setFrames, hr]
      rfl
    have hsame : U.sameButNew ({ U with heap := s₂.heap, slotsUsed := s₂.slotsUsed } : State) L mc ms := by
      refine ⟨?_, q2, q3, q4, q5, q6⟩
      obtain ⟨t, ht, -⟩ := State.frames_cons hr
      show ({ U with heap := s₂.heap, slotsUsed := s₂.slotsUsed } : State) = { U.setFrames U.frames with heap := s₂.heap, slotsUsed := s₂.slotsUsed }
      rw [State.setFrames_self ht]
    subst hg
    refine Or.inr ⟨q, ⟨(({ U with heap := s₂.heap, slotsUsed := s₂.slotsUsed } : State).setVm s₂.vm), Ls ++ L, c0 + mc, s0 + ms⟩,
      ⟨X.admits, X.cas, X.clock, X.frames, X.room, X.hears, X.method, X.code, (X.here.setHeapUsed s₂.heap s₂.slotsUsed).setVm hW'.alike, X.tail, State.WarmedH.trans X.warmed hW', X.limits, X.bytes, X.same.trans (hsame.setVm s.vm)⟩,
      ⟨g, mk, s₂, L, E, ce, rfl, rfl, hx, hce, hcv, hcl, rfl, hL, rfl, rfl⟩, ?_⟩
    show Steps p.tables e below _ (((({ U with heap := s₂.heap, slotsUsed := s₂.slotsUsed } : State).setVm s₂.vm).setTop g).pushFrame (.throwing q))
    rw [← hs₂]
    exact hsteps
end Payer
section Calls
variable {p : Program} {l : Launch} {e : Env} {R : Room} {s : State} {m : MethodId} {args : Array Value} {below : List Frame} {meth : Method} {c : Code} {T : State} {locs : List Loc} {cells slots : Nat}
theorem vx_callV (X : Stand p l e R s m args below meth c T locs cells slots) (hexec : p.tables.exec = Jvm.exec) {own C : String} {index : Nat} {y : MethodName} {bytes : ByteArray} {maxL : Nat} {ret : Option FieldType}
    (hown : s.vm.findClass own = some m.cls) (hlink : (Cond.methodLink own index y).before args s = true) (hinst : (Cond.instanceMethod y).before args s = true) (hsel : (Cond.selects C y y).before args s = true)
    (hcode : (Cond.code y bytes maxL ret).before args s = true) (hy : y.cls ≠ "java/lang/invoke/MethodHandle" ∧ y.cls ≠ "java/lang/invoke/VarHandle")
    {W9 : Nat} {Pre : Pt → Array Value → Prop} {Post : Pt → Array Value → Option Value → Pt → Prop} {PostX : Pt → Array Value → Addr → Pt → Prop} (hK : vx_Back l R p e below s args y 3 W9 Pre Post PostX)
    {b : Addr} {cellB : Cell} (hcell : T.heap[b]? = some cellB) (hobj : cellB.vm.isStatics = false) (hcls : s.vm.findClass C = some cellB.cls)
    {g : JFrame} (hg : g.method = m) (hsize : g.locals.size = c.maxLocals) {argsL rest : List Value} (hlen : ∀ sig, parseMethodDescriptor y.desc = some sig → argsL.length = sig.parameters.length)
    (hstack : g.stack = argsL.reverse ++ .ref b :: rest) (hW : 2 * g.monitorRoom + (rest.map fun v => v.category).sum ≤ W9) (hdg : decode c.code g.pc = .ok (.invokevirtual index, 3))
    (hpre : ∀ vm₁, s.WarmedH vm₁ → Pre ⟨T.setVm vm₁, locs, cells, slots⟩ (Value.ref b :: argsL).toArray) :
    (∃ (v : Option Value) (vm₁ : Vm) (B : Pt), s.WarmedH vm₁ ∧ Stand p l e R s m args below meth c B.U B.locs B.cells B.slots ∧ Post ⟨T.setVm vm₁, locs, cells, slots⟩ (Value.ref b :: argsL).toArray v B ∧
      ∀ target, Steps p.tables e below (B.U.setTop { g with pc := g.pc + 3, stack := v.toList ++ rest }) target → Steps p.tables e below (T.setTop g) target) ∨
    (∃ (q : Addr) (vm₁ : Vm) (B : Pt), s.WarmedH vm₁ ∧ Stand p l e R s m args below meth c B.U B.locs B.cells B.slots ∧ PostX ⟨T.setVm vm₁, locs, cells, slots⟩ (Value.ref b :: argsL).toArray q B ∧
      Steps p.tables e below (T.setTop g) ((B.U.setTop { g with stack := rest }).pushFrame (.throwing q))) := by
  obtain ⟨mk, methM, hnamed, hmethM, hstM, habM⟩ := Cond.instanceMethod_spec hinst
  obtain ⟨methM', cM, hmethM', -, -, -, -, -, -, hsigM⟩ := Cond.code_spec hnamed hcode
  cases hmethM.symm.trans hmethM'
  obtain ⟨c2, r2, m2, q1, q2, q3, q4, kP, hkP, hkPi⟩ := Cond.selects_spec hsel
  cases hcls.symm.trans q1
  cases (State.methodFound?_of_named hnamed hy).symm.trans q2
  cases hnamed.symm.trans q3
  have hselP : selectMethod e.platform s.vm cellB.cls mk = .method mk := by rw [Launch.admits_selectMethod X.admits]; exact q4
  obtain ⟨vm₁, X₁, hstep₁⟩ := X.invokevirtual hexec hown hlink hnamed hmethM hstM hkP hkPi hy (a := b) (cell := cellB) hcell
    (fun z h => by rw [h] at hobj; cases hobj) hselP hmethM habM hkP hkPi (g := g) hg (argsL := argsL) (rest := rest) (hlen _ hsigM) hstack hdg
  rcases hK m meth c ⟨T.setVm vm₁, locs, cells, slots⟩ { g with stack := rest } (.invokevirtual index) mk (Value.ref b :: argsL).toArray X₁ hg hsize hdg hW (X₁.named hnamed) (hpre vm₁ X₁.warmed) with ⟨v, B, X', hpost, hsteps⟩ | ⟨q, B, X', hpost, hsteps⟩
  · exact Or.inl ⟨v, vm₁, B, X₁.warmed, X', hpost, fun target h => hstep₁ _ fun acts => by rw [doInvoke_state]; exact hsteps.trans h⟩
  · exact Or.inr ⟨q, vm₁, B, X₁.warmed, X', hpost, hstep₁ _ fun acts => by rw [doInvoke_state]; exact hsteps⟩
theorem vx_callS (X : Stand p l e R s m args below meth c T locs cells slots) (hexec : p.tables.exec = Jvm.exec) {own : String} {index : Nat} {y : MethodName} {bytes : ByteArray} {maxL : Nat} {ret : Option FieldType}
    (hown : s.vm.findClass own = some m.cls) (hlink : (Cond.methodLink own index y).before args s = true) (hstat : (Cond.static y).before args s = true) (hinit : (Cond.initialized y.cls).before args s = true)
    (hcode : (Cond.code y bytes maxL ret).before args s = true) (hy : y.cls ≠ "java/lang/invoke/MethodHandle" ∧ y.cls ≠ "java/lang/invoke/VarHandle")
    {W9 : Nat} {Pre : Pt → Array Value → Prop} {Post : Pt → Array Value → Option Value → Pt → Prop} {PostX : Pt → Array Value → Addr → Pt → Prop} (hK : vx_Back l R p e below s args y 3 W9 Pre Post PostX)
    {g : JFrame} (hg : g.method = m) (hsize : g.locals.size = c.maxLocals) {argsL rest : List Value} (hlen : ∀ sig, parseMethodDescriptor y.desc = some sig → argsL.length = sig.parameters.length)
    (hstack : g.stack = argsL.reverse ++ rest) (hW : 2 * g.monitorRoom + (rest.map fun v => v.category).sum ≤ W9) (hdg : decode c.code g.pc = .ok (.invokestatic index, 3))
    (hpre : ∀ vm₁, s.WarmedH vm₁ → Pre ⟨T.setVm vm₁, locs, cells, slots⟩ argsL.toArray) :
    (∃ (v : Option Value) (vm₁ : Vm) (B : Pt), s.WarmedH vm₁ ∧ Stand p l e R s m args below meth c B.U B.locs B.cells B.slots ∧ Post ⟨T.setVm vm₁, locs, cells, slots⟩ argsL.toArray v B ∧
      ∀ target, Steps p.tables e below (B.U.setTop { g with pc := g.pc + 3, stack := v.toList ++ rest }) target → Steps p.tables e below (T.setTop g) target) ∨
    (∃ (q : Addr) (vm₁ : Vm) (B : Pt), s.WarmedH vm₁ ∧ Stand p l e R s m args below meth c B.U B.locs B.cells B.slots ∧ PostX ⟨T.setVm vm₁, locs, cells, slots⟩ argsL.toArray q B ∧
      Steps p.tables e below (T.setTop g) ((B.U.setTop { g with stack := rest }).pushFrame (.throwing q))) := by
  obtain ⟨mk, hnamed⟩ := Cond.code_named hcode
  obtain ⟨methM, cM, hmethM, -, -, -, -, -, -, hsigM⟩ := Cond.code_spec hnamed hcode
  have hstatic : methM.isStatic = true := Cond.static_spec hnamed hmethM hstat
  obtain ⟨kP, hkP, -⟩ := className_of_methodNamed hnamed
  have hinitP : kP.init = .initialized := Cond.initialized_spec (findClass_of_methodNamed hnamed) hkP hinit
  obtain ⟨vm₁, X₁, hstep₁⟩ := X.invokestatic hexec hown hlink hnamed hmethM hstatic hkP hinitP hy (g := g) hg (argsL := argsL) (rest := rest) (hlen _ hsigM) hstack hdg
  rcases hK m meth c ⟨T.setVm vm₁, locs, cells, slots⟩ { g with stack := rest } (.invokestatic index) mk argsL.toArray X₁ hg hsize hdg hW (X₁.named hnamed) (hpre vm₁ X₁.warmed) with ⟨v, B, X', hpost, hsteps⟩ | ⟨q, B, X', hpost, hsteps⟩
  · exact Or.inl ⟨v, vm₁, B, X₁.warmed, X', hpost, fun target h => hstep₁ _ fun acts => by rw [doInvoke_state]; exact hsteps.trans h⟩
  · exact Or.inr ⟨q, vm₁, B, X₁.warmed, X', hpost, hstep₁ _ fun acts => by rw [doInvoke_state]; exact hsteps⟩
end Calls
theorem vx_cls {s : State} {T : State} {vm₁ : Vm} {E : String} {k : ClassId} (hW : s.WarmedH vm₁) (h : (T.setVm vm₁).vm.findClass E = some k) : s.vm.findClass E = some k := by
  have h1 : vm₁.findClass E = some k := h
  rw [hW.alike.findClass] at h1
  exact h1
/-- the method's frame g, with q thrown over it -/
def vx_W (p : Program) (l : Launch) (e : Env) (R : Room) (s : State) (m : MethodId) (args : Array Value) (below : List Frame) (meth : Method) (c : Code) (H : Heap) (locs : List Loc) (cells slots : Nat) (Q : State → Prop) (g : JFrame) (q : Addr) : Prop :=
  ∀ T : State, T.heap = H → Stand p l e R s m args below meth c T locs cells slots → ∃ t, Steps p.tables e below ((T.setTop g).pushFrame (.throwing q)) t ∧ Q t
def vx_Run (p : Program) (l : Launch) (e : Env) (R : Room) (s : State) (m : MethodId) (args : Array Value) (below : List Frame) (meth : Method) (c : Code) (H : Heap) (locs : List Loc) (cells slots mc ms : Nat) (g : JFrame) (rest : List Value) (Qa : State → Outcome → State → Prop) (XC : String → State → State → Prop) (free : Addr → Prop) : Prop :=
  ∀ T : State, T.heap = H → Stand p l e R s m args below meth c T locs cells slots →
    (∃ (v : Option Value) (st₀ t T' : State) (L : List Loc), st₀.heap = H ∧ Stand p l e R s m args below meth c T' (locs ++ L) (cells + mc) (slots + ms) ∧ (∀ q ∈ L, free q.base) ∧ T'.heap = t.heap ∧ T'.vm = t.vm ∧ Qa st₀ (.returned v) t ∧
      Goes p e below T g T' { g with pc := g.pc + 3, stack := v.toList ++ rest }) ∨
    (∃ (q : Addr) (st₀ t T' : State) (L : List Loc) (E : String) (ce : Cell), st₀.heap = H ∧ Stand p l e R s m args below meth c T' (locs ++ L) (cells + mc) (slots + ms) ∧ (∀ z ∈ L, free z.base) ∧ T'.heap = t.heap ∧ T'.vm = t.vm ∧ XC E st₀ t ∧ t.heap[q]? = some ce ∧ ce.vm = .none ∧ s.vm.findClass E = some ce.cls ∧
      Steps p.tables e below (T.setTop g) ((T'.setTop { g with stack := rest }).pushFrame (.throwing q)))
def vx_X {S : Type} (px : S → Prop) (B : String → S → State → Prop) (A : Nat → Prop) : String → State → State → Prop := fun E st t => ∃ u : S, px u ∧ B E u t ∧ va_F A st t
section Runs
variable {p : Program} {l : Launch} {e : Env} {R : Room} {s : State} {m : MethodId} {args : Array Value} {below : List Frame} {meth : Method} {c : Code} {H : Heap} {locs : List Loc} {cells slots : Nat}
variable {y : MethodName} {bytes cc : ByteArray} {maxL nL mc ms n index : Nat} {ret : Option FieldType} {ws : List Cond} {rm : Room} {Pc : Array Value → State → Prop} {Qc : Array Value → State → Outcome → State → Prop} {XC : String → State → State → Prop} {free : Addr → Prop} {Ts : List Cond} {own C : String} {b : Addr} {As rest : List Value} {g : JFrame}
theorem vx_callBack (cb : CallB R s args own index y bytes maxL ret ws rm mc ms n) (hM : vx_Met l y ws rm Pc Qc XC mc ms free) (hbl : FrameBlind Pc) : vx_Back l R p e below s args y 3 8 (PreOf R mc ms Pc) (PostOf Qc mc ms free) (vx_Post XC mc ms free) := by
  obtain ⟨hrc, hrs, hfr, hlo, hws, hcw, -, hini, -⟩ := cb
  exact vx_back (bytes := bytes) (maxL := maxL) (ret := ret) hM hbl hrc hrs hfr hlo hws hcw (fun a' U hW => word_at hW (Or.inl (by first | rfl | simp [Cond.onTables, Cond.keeps, Cond.steady])) hini)
theorem vx_runV (S : CallFix p m c cc nL s args Ts own) (hM : vx_Met l y ws rm Pc Qc XC mc ms free) (cw : CallW R s args own C index y bytes maxL ret ws rm mc ms n) (hp : PreV s H C b Pc As)
    (hg : g.method = m) (hn : As.length = n) (hsize : g.locals.size = nL) (hstack : g.stack = As.reverse ++ .ref b :: rest) (hW : 2 * g.monitorRoom + (rest.map fun v => v.category).sum ≤ 8) (hdg : decode cc g.pc = .ok (.invokevirtual index, 3)) (hf : cells + mc ≤ R.cells ∧ slots + ms ≤ R.slots) :
    vx_Run p l e R s m args below meth c H locs cells slots mc ms g rest (Qc (Value.ref b :: As).toArray) XC free := by
  have hK : vx_Back l R p e below s args y 3 8 (PreOf R mc ms Pc) (PostOf Qc mc ms free) (vx_Post XC mc ms free) := vx_callBack cw.1 hM hp.1
  obtain ⟨⟨-, -, -, -, -, -, hcode, -, hy, hlen, hl⟩, hin, hse⟩ := cw
  obtain ⟨hx, hb, hml, ho, -⟩ := S
  obtain ⟨-, ⟨cellB, hcB, hoB, hclB⟩, hPc⟩ := hp
  intro T hT X
  rcases vx_callV X hx (C := C) (bytes := bytes) (maxL := maxL) (ret := ret) ho hl hin hse hcode hy hK (by rw [hT]; exact hcB) hoB hclB hg (hsize.trans hml.symm) (argsL := As) (rest := rest) (fun sig h => hn.trans (hlen sig h)) hstack hW (by rw [hb]; exact hdg)
    (fun vm₁ hW₁ => ⟨hf.1, hf.2, hPc (T.setVm vm₁) hT hW₁⟩) with ⟨v, vm₁, ⟨U', l2, c2, s2⟩, hW₁, X', ⟨g', mk, t, L, e1, e2, hq, h1, hL, h2, h3⟩, st⟩ | ⟨q, vm₁, ⟨U', l2, c2, s2⟩, hW₁, X', ⟨g', mk, t, L, E, ce, e1, e2, hq, hce, hcv, hcl, h1, hL, h2, h3⟩, st⟩
  · dsimp only [Pt.U, Pt.locs, Pt.cells, Pt.slots] at X' e1 e2 h1 h2 h3 st
    subst h1; subst h2; subst h3
    exact Or.inl ⟨v, (T.setVm vm₁).calling g' mk (Value.ref b :: As).toArray, t, U', L, hT, X', hL, e1, e2, hq, st⟩
  · dsimp only [Pt.U, Pt.locs, Pt.cells, Pt.slots] at X' e1 e2 h1 h2 h3 st hcl
    subst h1; subst h2; subst h3
    exact Or.inr ⟨q, (T.setVm vm₁).calling g' mk (Value.ref b :: As).toArray, t, U', L, E, ce, hT, X', hL, e1, e2, hq, hce, hcv, vx_cls hW₁ hcl, st⟩
theorem vx_runS (S : CallFix p m c cc nL s args Ts own) (hM : vx_Met l y ws rm Pc Qc XC mc ms free) (cw : CallB R s args own index y bytes maxL ret ws rm mc ms n ∧ (Cond.static y).before args s = true) (hp : PreS s H Pc As)
    (hg : g.method = m) (hn : As.length = n) (hsize : g.locals.size = nL) (hstack : g.stack = As.reverse ++ rest) (hW : 2 * g.monitorRoom + (rest.map fun v => v.category).sum ≤ 8) (hdg : decode cc g.pc = .ok (.invokestatic index, 3)) (hf : cells + mc ≤ R.cells ∧ slots + ms ≤ R.slots) :
    vx_Run p l e R s m args below meth c H locs cells slots mc ms g rest (Qc As.toArray) XC free := by
  have hK : vx_Back l R p e below s args y 3 8 (PreOf R mc ms Pc) (PostOf Qc mc ms free) (vx_Post XC mc ms free) := vx_callBack cw.1 hM hp.1
  obtain ⟨⟨-, -, -, -, -, -, hcode, hini, hy, hlen, hl⟩, hstt⟩ := cw
  obtain ⟨hx, hb, hml, ho, -⟩ := S
  intro T hT X
  rcases vx_callS X hx (bytes := bytes) (maxL := maxL) (ret := ret) ho hl hstt hini hcode hy hK hg (hsize.trans hml.symm) (argsL := As) (rest := rest) (fun sig h => hn.trans (hlen sig h)) hstack hW (by rw [hb]; exact hdg)
    (fun vm₁ hW₁ => ⟨hf.1, hf.2, hp.2 (T.setVm vm₁) hT hW₁⟩) with ⟨v, vm₁, ⟨U', l2, c2, s2⟩, hW₁, X', ⟨g', mk, t, L, e1, e2, hq, h1, hL, h2, h3⟩, st⟩ | ⟨q, vm₁, ⟨U', l2, c2, s2⟩, hW₁, X', ⟨g', mk, t, L, E, ce, e1, e2, hq, hce, hcv, hcl, h1, hL, h2, h3⟩, st⟩
  · dsimp only [Pt.U, Pt.locs, Pt.cells, Pt.slots] at X' e1 e2 h1 h2 h3 st
    subst h1; subst h2; subst h3
    exact Or.inl ⟨v, (T.setVm vm₁).calling g' mk As.toArray, t, U', L, hT, X', hL, e1, e2, hq, st⟩
  · dsimp only [Pt.U, Pt.locs, Pt.cells, Pt.slots] at X' e1 e2 h1 h2 h3 st hcl
    subst h1; subst h2; subst h3
    exact Or.inr ⟨q, (T.setVm vm₁).calling g' mk As.toArray, t, U', L, E, ce, hT, X', hL, e1, e2, hq, hce, hcv, vx_cls hW₁ hcl, st⟩
end Runs
section Rows
variable {p : Program} {l : Launch} {e : Env} {R : Room} {s : State} {m : MethodId} {args : Array Value} {below : List Frame} {meth : Method} {c : Code} {H : Heap} {locs : List Loc} {cells slots : Nat} {Q : State → Prop}
variable {mc ms : Nat} {free : Addr → Prop} {A0 A1 : Nat → Prop} {H0 : Heap} {a : Array Value} {pc : Nat} {ls : Array Slot} {st0 rest : List Value}
theorem vx_keep {st₀ t T' : State} {L : List Loc} (h0 : st₀.heap = H) (e1 : T'.heap = t.heap) (hS : va_S A0 H0 H locs) (hA : ∀ q, q < H.size → A1 q → A0 q) (hf : ∀ q, free q → A0 q) (hL : ∀ q ∈ L, free q.base) (hF : va_F A1 st₀ t) :
    H.size ≤ T'.heap.size ∧ (∀ q : Nat, q < H.size → ¬ A1 q → T'.heap[q]? = H[q]?) ∧ va_S A0 H0 T'.heap (locs ++ L) := by
  obtain ⟨hz, hk⟩ := hF
  rw [h0] at hz hk
  exact ⟨by rw [e1]; exact hz, fun q h1 h2 => by rw [e1]; exact hk q h1 h2,
    ⟨Nat.le_trans hS.1 (by rw [e1]; exact hz), fun q h1 h2 => by rw [e1, hk q (Nat.lt_of_lt_of_le h1 hS.1) (fun z => h2 (hA q (Nat.lt_of_lt_of_le h1 hS.1) z))]; exact hS.2.1 q h1 h2, fun q hq => by
      rcases List.mem_append.mp hq with h | h
      · exact hS.2.2 q h
      · exact hf _ (hL q h)⟩⟩
theorem vx_calli {S SX : Type} {post : Int32 → S → Prop} {px : SX → Prop} {B : S → State → Prop} {BX : String → SX → State → Prop} {AX : Nat → Prop} (hr : vx_Run p l e R s m args below meth c H locs cells slots mc ms (F0 m pc ls st0) rest (va_Qi post B A1 a) (vx_X px BX AX) free) (hS : va_S A0 H0 H locs) (hA : ∀ q, q < H.size → A1 q → A0 q) (hf : ∀ q, free q → A0 q) (hAX : ∀ q, q < H.size → AX q → A0 q)
    (kx : ∀ (E : String) (ce : Cell) (q9 : Addr) (u : SX) (t : State) (H1 : Heap) (locs1 : List Loc), t.heap = H1 → s.vm.Alike t.vm → px u → BX E u t → H.size ≤ H1.size → (∀ q : Nat, q < H.size → ¬ AX q → H1[q]? = H[q]?) → va_S A0 H0 H1 locs1 → H1[q9]? = some ce → ce.vm = .none → s.vm.findClass E = some ce.cls → vx_W p l e R s m args below meth c H1 locs1 (cells + mc) (slots + ms) Q (F0 m pc ls rest) q9)
    (kk : ∀ (r : Int32) (u : S) (t : State) (H1 : Heap) (locs1 : List Loc), t.heap = H1 → s.vm.Alike t.vm → post r u → B u t → H.size ≤ H1.size → (∀ q : Nat, q < H.size → ¬ A1 q → H1[q]? = H[q]?) → va_S A0 H0 H1 locs1 → W p l e R s m args below meth c H1 locs1 (cells + mc) (slots + ms) Q (F0 m (pc + 3) ls (.int r :: rest))) : W p l e R s m args below meth c H locs cells slots Q (F0 m pc ls st0) := by
  intro T hT X
  rcases hr T hT X with ⟨v, st₀, t, T', L, h0, X', hL, e1, e2, ⟨⟨r, u, hv, hp, hb⟩, hF⟩, st⟩ | ⟨q, st₀, t, T', L, E, ce, h0, X', hL, e1, e2, ⟨u, hp, hb, hF⟩, hce, hcv, hcl, st⟩
  · cases hv
    obtain ⟨k1, k2, k3⟩ := vx_keep h0 e1 hS hA hf hL hF
    obtain ⟨t2, a1, b1⟩ := kk r u t T'.heap (locs ++ L) e1.symm (by rw [← e2]; exact X'.warmed.alike) hp hb k1 k2 k3 T' rfl X'
    exact ⟨t2, st t2 a1, b1⟩
  · obtain ⟨k1, k2, k3⟩ := vx_keep h0 e1 hS hAX hf hL hF
    obtain ⟨t2, a1, b1⟩ := kx E ce q u t T'.heap (locs ++ L) e1.symm (by rw [← e2]; exact X'.warmed.alike) hp hb k1 k2 k3 (by rw [e1]; exact hce) hcv hcl T' rfl X'
    exact ⟨t2, st.trans a1, b1⟩
theorem vx_calll {S SX : Type} {post : Int64 → S → Prop} {px : SX → Prop} {B : S → State → Prop} {BX : String → SX → State → Prop} {AX : Nat → Prop} (hr : vx_Run p l e R s m args below meth c H locs cells slots mc ms (F0 m pc ls st0) rest (va_Ql post B A1 a) (vx_X px BX AX) free) (hS : va_S A0 H0 H locs) (hA : ∀ q, q < H.size → A1 q → A0 q) (hf : ∀ q, free q → A0 q) (hAX : ∀ q, q < H.size → AX q → A0 q)
    (kx : ∀ (E : String) (ce : Cell) (q9 : Addr) (u : SX) (t : State) (H1 : Heap) (locs1 : List Loc), t.heap = H1 → s.vm.Alike t.vm → px u → BX E u t → H.size ≤ H1.size → (∀ q : Nat, q < H.size → ¬ AX q → H1[q]? = H[q]?) → va_S A0 H0 H1 locs1 → H1[q9]? = some ce → ce.vm = .none → s.vm.findClass E = some ce.cls → vx_W p l e R s m args below meth c H1 locs1 (cells + mc) (slots + ms) Q (F0 m pc ls rest) q9)
    (kk : ∀ (r : Int64) (u : S) (t : State) (H1 : Heap) (locs1 : List Loc), t.heap = H1 → s.vm.Alike t.vm → post r u → B u t → H.size ≤ H1.size → (∀ q : Nat, q < H.size → ¬ A1 q → H1[q]? = H[q]?) → va_S A0 H0 H1 locs1 → W p l e R s m args below meth c H1 locs1 (cells + mc) (slots + ms) Q (F0 m (pc + 3) ls (.long r :: rest))) : W p l e R s m args below meth c H locs cells slots Q (F0 m pc ls st0) := by
  intro T hT X
  rcases hr T hT X with ⟨v, st₀, t, T', L, h0, X', hL, e1, e2, ⟨⟨r, u, hv, hp, hb⟩, hF⟩, st⟩ | ⟨q, st₀, t, T', L, E, ce, h0, X', hL, e1, e2, ⟨u, hp, hb, hF⟩, hce, hcv, hcl, st⟩
  · cases hv
    obtain ⟨k1, k2, k3⟩ := vx_keep h0 e1 hS hA hf hL hF
    obtain ⟨t2, a1, b1⟩ := kk r u t T'.heap (locs ++ L) e1.symm (by rw [← e2]; exact X'.warmed.alike) hp hb k1 k2 k3 T' rfl X'
    exact ⟨t2, st t2 a1, b1⟩
  · obtain ⟨k1, k2, k3⟩ := vx_keep h0 e1 hS hAX hf hL hF
    obtain ⟨t2, a1, b1⟩ := kx E ce q u t T'.heap (locs ++ L) e1.symm (by rw [← e2]; exact X'.warmed.alike) hp hb k1 k2 k3 (by rw [e1]; exact hce) hcv hcl T' rfl X'
    exact ⟨t2, st.trans a1, b1⟩
theorem vx_callf {S SX : Type} {post : UInt32 → S → Prop} {px : SX → Prop} {B : S → State → Prop} {BX : String → SX → State → Prop} {AX : Nat → Prop} (hr : vx_Run p l e R s m args below meth c H locs cells slots mc ms (F0 m pc ls st0) rest (va_Qf post B A1 a) (vx_X px BX AX) free) (hS : va_S A0 H0 H locs) (hA : ∀ q, q < H.size → A1 q → A0 q) (hf : ∀ q, free q → A0 q) (hAX : ∀ q, q < H.size → AX q → A0 q)
    (kx : ∀ (E : String) (ce : Cell) (q9 : Addr) (u : SX) (t : State) (H1 : Heap) (locs1 : List Loc), t.heap = H1 → s.vm.Alike t.vm → px u → BX E u t → H.size ≤ H1.size → (∀ q : Nat, q < H.size → ¬ AX q → H1[q]? = H[q]?) → va_S A0 H0 H1 locs1 → H1[q9]? = some ce → ce.vm = .none → s.vm.findClass E = some ce.cls → vx_W p l e R s m args below meth c H1 locs1 (cells + mc) (slots + ms) Q (F0 m pc ls rest) q9)
    (kk : ∀ (r : UInt32) (u : S) (t : State) (H1 : Heap) (locs1 : List Loc), t.heap = H1 → s.vm.Alike t.vm → post r u → B u t → H.size ≤ H1.size → (∀ q : Nat, q < H.size → ¬ A1 q → H1[q]? = H[q]?) → va_S A0 H0 H1 locs1 → W p l e R s m args below meth c H1 locs1 (cells + mc) (slots + ms) Q (F0 m (pc + 3) ls (.float r :: rest))) : W p l e R s m args below meth c H locs cells slots Q (F0 m pc ls st0) := by
  intro T hT X
  rcases hr T hT X with ⟨v, st₀, t, T', L, h0, X', hL, e1, e2, ⟨⟨r, u, hv, hp, hb⟩, hF⟩, st⟩ | ⟨q, st₀, t, T', L, E, ce, h0, X', hL, e1, e2, ⟨u, hp, hb, hF⟩, hce, hcv, hcl, st⟩
  · cases hv
    obtain ⟨k1, k2, k3⟩ := vx_keep h0 e1 hS hA hf hL hF
    obtain ⟨t2, a1, b1⟩ := kk r u t T'.heap (locs ++ L) e1.symm (by rw [← e2]; exact X'.warmed.alike) hp hb k1 k2 k3 T' rfl X'
    exact ⟨t2, st t2 a1, b1⟩
  · obtain ⟨k1, k2, k3⟩ := vx_keep h0 e1 hS hAX hf hL hF
    obtain ⟨t2, a1, b1⟩ := kx E ce q u t T'.heap (locs ++ L) e1.symm (by rw [← e2]; exact X'.warmed.alike) hp hb k1 k2 k3 (by rw [e1]; exact hce) hcv hcl T' rfl X'
    exact ⟨t2, st.trans a1, b1⟩
theorem vx_calld {S SX : Type} {post : UInt64 → S → Prop} {px : SX → Prop} {B : S → State → Prop} {BX : String → SX → State → Prop} {AX : Nat → Prop} (hr : vx_Run p l e R s m args below meth c H locs cells slots mc ms (F0 m pc ls st0) rest (va_Qd post B A1 a) (vx_X px BX AX) free) (hS : va_S A0 H0 H locs) (hA : ∀ q, q < H.size → A1 q → A0 q) (hf : ∀ q, free q → A0 q) (hAX : ∀ q, q < H.size → AX q → A0 q)
    (kx : ∀ (E : String) (ce : Cell) (q9 : Addr) (u : SX) (t : State) (H1 : Heap) (locs1 : List Loc), t.heap = H1 → s.vm.Alike t.vm → px u → BX E u t → H.size ≤ H1.size → (∀ q : Nat, q < H.size → ¬ AX q → H1[q]? = H[q]?) → va_S A0 H0 H1 locs1 → H1[q9]? = some ce → ce.vm = .none → s.vm.findClass E = some ce.cls → vx_W p l e R s m args below meth c H1 locs1 (cells + mc) (slots + ms) Q (F0 m pc ls rest) q9)
    (kk : ∀ (r : UInt64) (u : S) (t : State) (H1 : Heap) (locs1 : List Loc), t.heap = H1 → s.vm.Alike t.vm → post r u → B u t → H.size ≤ H1.size → (∀ q : Nat, q < H.size → ¬ A1 q → H1[q]? = H[q]?) → va_S A0 H0 H1 locs1 → W p l e R s m args below meth c H1 locs1 (cells + mc) (slots + ms) Q (F0 m (pc + 3) ls (.double r :: rest))) : W p l e R s m args below meth c H locs cells slots Q (F0 m pc ls st0) := by
  intro T hT X
  rcases hr T hT X with ⟨v, st₀, t, T', L, h0, X', hL, e1, e2, ⟨⟨r, u, hv, hp, hb⟩, hF⟩, st⟩ | ⟨q, st₀, t, T', L, E, ce, h0, X', hL, e1, e2, ⟨u, hp, hb, hF⟩, hce, hcv, hcl, st⟩
  · cases hv
    obtain ⟨k1, k2, k3⟩ := vx_keep h0 e1 hS hA hf hL hF
    obtain ⟨t2, a1, b1⟩ := kk r u t T'.heap (locs ++ L) e1.symm (by rw [← e2]; exact X'.warmed.alike) hp hb k1 k2 k3 T' rfl X'
    exact ⟨t2, st t2 a1, b1⟩
  · obtain ⟨k1, k2, k3⟩ := vx_keep h0 e1 hS hAX hf hL hF
    obtain ⟨t2, a1, b1⟩ := kx E ce q u t T'.heap (locs ++ L) e1.symm (by rw [← e2]; exact X'.warmed.alike) hp hb k1 k2 k3 (by rw [e1]; exact hce) hcv hcl T' rfl X'
    exact ⟨t2, st.trans a1, b1⟩
theorem vx_callv {S SX : Type} {post : S → Prop} {px : SX → Prop} {B : S → State → Prop} {BX : String → SX → State → Prop} {AX : Nat → Prop} (hr : vx_Run p l e R s m args below meth c H locs cells slots mc ms (F0 m pc ls st0) rest (va_Qv post B A1 a) (vx_X px BX AX) free) (hS : va_S A0 H0 H locs) (hA : ∀ q, q < H.size → A1 q → A0 q) (hf : ∀ q, free q → A0 q) (hAX : ∀ q, q < H.size → AX q → A0 q)
    (kx : ∀ (E : String) (ce : Cell) (q9 : Addr) (u : SX) (t : State) (H1 : Heap) (locs1 : List Loc), t.heap = H1 → s.vm.Alike t.vm → px u → BX E u t → H.size ≤ H1.size → (∀ q : Nat, q < H.size → ¬ AX q → H1[q]? = H[q]?) → va_S A0 H0 H1 locs1 → H1[q9]? = some ce → ce.vm = .none → s.vm.findClass E = some ce.cls → vx_W p l e R s m args below meth c H1 locs1 (cells + mc) (slots + ms) Q (F0 m pc ls rest) q9)
    (kk : ∀ (u : S) (t : State) (H1 : Heap) (locs1 : List Loc), t.heap = H1 → s.vm.Alike t.vm → post u → B u t → H.size ≤ H1.size → (∀ q : Nat, q < H.size → ¬ A1 q → H1[q]? = H[q]?) → va_S A0 H0 H1 locs1 → W p l e R s m args below meth c H1 locs1 (cells + mc) (slots + ms) Q (F0 m (pc + 3) ls (rest))) : W p l e R s m args below meth c H locs cells slots Q (F0 m pc ls st0) := by
  intro T hT X
  rcases hr T hT X with ⟨v, st₀, t, T', L, h0, X', hL, e1, e2, ⟨⟨u, hv, hp, hb⟩, hF⟩, st⟩ | ⟨q, st₀, t, T', L, E, ce, h0, X', hL, e1, e2, ⟨u, hp, hb, hF⟩, hce, hcv, hcl, st⟩
  · cases hv
    obtain ⟨k1, k2, k3⟩ := vx_keep h0 e1 hS hA hf hL hF
    obtain ⟨t2, a1, b1⟩ := kk u t T'.heap (locs ++ L) e1.symm (by rw [← e2]; exact X'.warmed.alike) hp hb k1 k2 k3 T' rfl X'
    exact ⟨t2, st t2 a1, b1⟩
  · obtain ⟨k1, k2, k3⟩ := vx_keep h0 e1 hS hAX hf hL hF
    obtain ⟨t2, a1, b1⟩ := kx E ce q u t T'.heap (locs ++ L) e1.symm (by rw [← e2]; exact X'.warmed.alike) hp hb k1 k2 k3 (by rw [e1]; exact hce) hcv hcl T' rfl X'
    exact ⟨t2, st.trans a1, b1⟩
/-- caught by the row x of this method's table; the rows ahead don't take it -/
theorem vx_catch {own name : String} {E : String} {ce : Cell} {q : Addr} (hown : s.vm.findClass own = some m.cls) (pre : List ExceptionTableEntry) (x : ExceptionTableEntry) (suf : List ExceptionTableEntry) (hsplit : c.exceptionTable.toList = pre ++ x :: suf)
    (hpass : ∀ z ∈ pre, covers z pc = false ∨ (z.catchType ≠ 0 ∧ ∃ nm : String, (Cond.classLink own z.catchType nm).before args s = true ∧ va_Nc E nm s)) (hx : covers x pc = true) (h0 : x.catchType ≠ 0)
    (hlink : (Cond.classLink own x.catchType name).before args s = true) (hcast : (Cond.castable E name).before args s = true) (hcell : H[q]? = some ce) (hv : ce.vm = .none) (hcl : s.vm.findClass E = some ce.cls)
    (kk : W p l e R s m args below meth c H locs cells slots Q (F0 m x.handlerPc ls [.ref q])) : vx_W p l e R s m args below meth c H locs cells slots Q (F0 m pc ls rest) q := by
  intro T hT X
  have hpl : e.platform.magicAccessors = ({} : Platform).magicAccessors := by rw [X.admits.platform]
  obtain ⟨c3, c4, hc3, hc4, hasg⟩ := Cond.castable_spec hcast
  cases Option.some.inj (hc3.symm.trans hcl)
  obtain ⟨c5, hc5, hcl5⟩ := Cond.classLink_spec hown hlink e.platform hpl
  cases Option.some.inj (hc4.symm.trans hc5)
  obtain ⟨vm', X', st⟩ := X.thenCaughtThrough q (g := F0 m pc ls rest) rfl (Steps.refl _) (by rw [hT]; exact hcell) (by rw [hv]; rfl) (by obtain ⟨k9, h9, -⟩ := Vm.findClass_spec hcl; exact ⟨k9, h9⟩) pre x suf hsplit
    (fun z hz => by
      rcases hpass z hz with h | ⟨hz0, nm, hl1, hn1⟩
      · exact Or.inl h
      · obtain ⟨c6, hc6, hcl6⟩ := Cond.classLink_spec hown hl1 e.platform hpl
        obtain ⟨a8, b8, h1, h2, h3⟩ := hn1
        cases Option.some.inj (h1.symm.trans hcl)
        cases Option.some.inj (h2.symm.trans hc6)
        exact Or.inr ⟨hz0, _, hcl6, h3⟩) hx (Or.inr ⟨h0, c4, hcl5, hasg⟩)
  obtain ⟨t, a1, b1⟩ := kk (T.setVm vm') hT X'
  exact ⟨t, st.trans a1, b1⟩
end Rows
section Ends
variable {p : Program} {l : Launch} {e : Env} {R : Room} {s : State} {m : MethodId} {args : Array Value} {below : List Frame} {meth : Method} {c : Code} {H : Heap} {locs : List Loc} {cells slots : Nat} {Q : State → Prop}
variable {mc ms : Nat} {free : Addr → Prop} {A0 A1 : Nat → Prop} {H0 : Heap} {a : Array Value} {ls : Array Slot} {st0 rest : List Value}
variable {Qc : Array Value → State → Outcome → State → Prop} {XC : String → State → State → Prop}
/-- what a body that may throw owes at its end -/
def vx_MQ (below : List Frame) (Qc : Array Value → State → Outcome → State → Prop) (XC : String → State → State → Prop) (a : Array Value) (s : State) (mc ms : Nat) (free : Addr → Prop) : State → Prop := fun t =>
  ∃ o, t.status = .running ∧ Ended t below o ∧ vx_Q Qc XC mc ms free a s o t
theorem vx_ret {g : JFrame} {mc ms : Nat} (k : W p l e R s m args below meth c H locs cells slots (MQ below Qc args s mc ms free) g) : W p l e R s m args below meth c H locs cells slots (vx_MQ below Qc XC args s mc ms free) g := by
  intro T hT X
  obtain ⟨t, a1, o, b1, b2, b3, b4⟩ := k T hT X
  exact ⟨t, a1, o, b1, b2, Or.inl ⟨b3, b4⟩⟩
/-- not caught here: it goes on to the caller -/
theorem vx_widen {g : JFrame} {q : Addr} {k n : Nat} (h1 : cells ≤ k) (h2 : slots ≤ n) (kk : vx_W p l e R s m args below meth c H locs k n Q g q) : vx_W p l e R s m args below meth c H locs cells slots Q g q := fun T hT X => kk T hT (stand_widen X h1 h2)
theorem vx_out {pc : Nat} {E : String} {ce : Cell} {q : Addr} {mc ms : Nat} (hout : ∀ x ∈ c.exceptionTable.toList, covers x pc = false) (hlocks : meth.locks = false) (hcell : H[q]? = some ce) (hv : ce.vm = .none) (hcl : s.vm.findClass E = some ce.cls)
    (hx : ∀ t : State, t.heap = H → s.vm.Alike t.vm → XC E s t) (hf : ∀ z ∈ locs, free z.base) (hc : cells ≤ mc) (hs : slots ≤ ms) :
    vx_W p l e R s m args below meth c H locs cells slots (vx_MQ below Qc XC args s mc ms free) (F0 m pc ls rest) q := by
  intro T hT X
  obtain ⟨st1, hrun, hend, hW, hsm⟩ := X.leaveThrown q (g := F0 m pc ls rest) rfl rfl rfl hout hlocks
  have hcell9 : (T.setFrames (.throwing q :: below)).heap[q]? = some ce := by
    show T.heap[q]? = some ce
    rw [hT]; exact hcell
  exact ⟨_, st1, .threw q, hrun, hend, Or.inr ⟨q, rfl, E, ce, locs, hx _ hT hW.alike, hcell9, hv, hcl, hW, hsm.mono hc hs, hf⟩⟩
theorem vx_frame {U : State} {k n : Nat} (h : s.sameButNew ({ U with vm := s.vm } : State) locs k n) : s.heap.size ≤ U.heap.size ∧ ∀ q : Nat, q < s.heap.size → (∀ z ∈ locs, z.base ≠ q) → U.heap[q]? = s.heap[q]? := by
  obtain ⟨-, h2, -, -, -, h6⟩ := h
  refine ⟨h2, fun q hq hz => ?_⟩
  obtain ⟨c9, e1, e2, e3, e4⟩ := h6 q _ (Array.getElem?_eq_getElem hq)
  have hs : c9.slots = (s.heap[q]).slots := Array.ext_getElem? fun i => e4 i fun hm => hz _ hm rfl
  have h9 : c9 = s.heap[q] := by
    rw [hs] at e2
    exact e2
  have e5 : U.heap[q]? = some c9 := e1
  rw [e5, h9, Array.getElem?_eq_getElem hq]
/-- the words of a throw but the four that speak of the heap -/
def vx_no (w : Cond) : Bool := decide (w ≠ .isRef (.static Bundle.tN "UNASSIGNED_STACK" Bundle.steD)) && decide (w ≠ .isRef (.static Bundle.tN "SUPPRESSED_SENTINEL" Bundle.listD)) && decide (w ≠ .laysStatic Bundle.tN "UNASSIGNED_STACK" Bundle.steD) && decide (w ≠ .laysStatic Bundle.tN "SUPPRESSED_SENTINEL" Bundle.listD)
def vx_at0 (own : String) (ic : Nat) (X : String) (names : List String) : List Cond := (Bundle.ownAtoms0 own ic X names).filter vx_no
def vx_atS (own : String) (ic : Nat) (X : String) (names : List String) : List Cond := (Bundle.ownAtoms own ic X names).filter vx_no
/-- a word that the tables alone decide, or a good one -/
def vx_ot (w : Cond) : Bool := w.onTables || goodWord w
theorem vx_ot_at {args a' : Array Value} {s U : State} {w : Cond} (hW : s.WarmedH U.vm) (hvm : s.vm = U.vm) (hg : vx_ot w = true) (h : w.before args s = true) : w.before a' U = true := by
  simp only [vx_ot, Bool.or_eq_true] at hg
  rcases hg with hg | hg
  · exact va_tabs hg hvm h
  · exact word_at hW (good_of_word hg) h
/-- a list's words: the good ones out of the method's own list, the others by premises of their own -/
theorem vx_hat {args : Array Value} {s : State} {L B : List Cond} (h1 : ∀ w ∈ L.filter goodWord, w.before args s = true) (h2 : ∀ w ∈ L.filter (fun w => !goodWord w), w ∈ B) (h3 : ∀ w ∈ B, w.before args s = true) : ∀ w ∈ L, w.before args s = true := by
  intro w hw
  by_cases g : goodWord w = true
  · exact h1 w (List.mem_filter.mpr ⟨hw, g⟩)
  · refine h3 w (h2 w (List.mem_filter.mpr ⟨hw, ?_⟩))
    show (!goodWord w) = true
    cases hgw : goodWord w
    · rfl
    · exact absurd hgw g
theorem vx_c {args : Array Value} {s : State} {w : Cond} {B : List Cond} (h : w.before args s = true) (t : ∀ w ∈ B, w.before args s = true) : ∀ w' ∈ w :: B, w'.before args s = true := fun w' h' => (List.mem_cons.mp h').elim (fun e => by rw [e]; exact h) (t w')
theorem vx_n {args : Array Value} {s : State} : ∀ w ∈ ([] : List Cond), w.before args s = true := fun _ h => nomatch h
theorem vx_own {args : Array Value} {s : State} {L : List Cond} (h1 : ∀ w ∈ L.filter vx_no, w.before args s = true)
    (hU : (Cond.isRef (.static Bundle.tN "UNASSIGNED_STACK" Bundle.steD)).before args s = true) (hN : (Cond.isRef (.static Bundle.tN "SUPPRESSED_SENTINEL" Bundle.listD)).before args s = true)
    (lU : (Cond.laysStatic Bundle.tN "UNASSIGNED_STACK" Bundle.steD).before args s = true) (lN : (Cond.laysStatic Bundle.tN "SUPPRESSED_SENTINEL" Bundle.listD).before args s = true) : ∀ w ∈ L, w.before args s = true := by
  intro w hw
  by_cases e1 : w = .isRef (.static Bundle.tN "UNASSIGNED_STACK" Bundle.steD)
  · rw [e1]; exact hU
  · by_cases e2 : w = .isRef (.static Bundle.tN "SUPPRESSED_SENTINEL" Bundle.listD)
    · rw [e2]; exact hN
    · by_cases e3 : w = .laysStatic Bundle.tN "UNASSIGNED_STACK" Bundle.steD
      · rw [e3]; exact lU
      · by_cases e4 : w = .laysStatic Bundle.tN "SUPPRESSED_SENTINEL" Bundle.listD
        · rw [e4]; exact lN
        · exact h1 w (List.mem_filter.mpr ⟨hw, by unfold vx_no; rw [decide_eq_true e1, decide_eq_true e2, decide_eq_true e3, decide_eq_true e4]; rfl⟩)
/-- where a static field lies, its class's statics cell in H -/
def vx_L (C n d : String) (A : Nat → Prop) (U : State) (H : Heap) : Prop := ∃ (c : ClassId) (k : Class) (i : Nat) (f : Field) (a : Nat) (cell : Cell), U.vm.findClass C = some c ∧ U.fieldFound? C n d = some (c, k, i, f) ∧ f.isStatic = true ∧ k.statics = some a ∧ H[a]? = some cell ∧ cell.vm.isStatics = true ∧ cell.cls = c ∧ f.slot < cell.slots.size ∧ k.staticTypes[f.slot]? = some f.type ∧ ¬ A a
theorem vx_L.moved {C n d : String} {A : Nat → Prop} {u U : State} {H : Heap} (hvm : u.vm.Alike U.vm) (h : vx_L C n d A u H) : vx_L C n d A U H := by
  obtain ⟨c, k, i, f, a, cell, h1, h2, h3, h4, h5, h6, h7, h8, h9, h10⟩ := h
  obtain ⟨k', hi', he⟩ := State.fieldFound?_setVm hvm h2
  exact ⟨c, k', i, f, a, cell, by rw [hvm.findClass]; exact h1, hi', h3, by rw [he]; exact h4, h5, h6, h7, h8, by rw [he]; exact h9, h10⟩
theorem vx_L.kept {C n d : String} {A : Nat → Prop} {U : State} {H H1 : Heap} (h : vx_L C n d A U H) (hq : ∀ a : Nat, a < H.size → ¬ A a → H1[a]? = H[a]?) : vx_L C n d A U H1 := by
  obtain ⟨c, k, i, f, a, cell, h1, h2, h3, h4, h5, h6, h7, h8, h9, h10⟩ := h
  exact ⟨c, k, i, f, a, cell, h1, h2, h3, h4, by rw [hq a (Array.getElem?_eq_some_iff.mp h5).1 h10]; exact h5, h6, h7, h8, h9, h10⟩
theorem vx_L.narrow {C n d : String} {A B : Nat → Prop} {U : State} {H : Heap} (h : vx_L C n d A U H) (hAB : ∀ q, B q → A q) : vx_L C n d B U H := by
  obtain ⟨c, k, i, f, a, cell, h1, h2, h3, h4, h5, h6, h7, h8, h9, h10⟩ := h
  exact ⟨c, k, i, f, a, cell, h1, h2, h3, h4, h5, h6, h7, h8, h9, fun z => h10 (hAB _ z)⟩
theorem vx_L.word {C n d : String} {A : Nat → Prop} {s : State} {args : Array Value} (h : vx_L C n d A s s.heap) : (Cond.laysStatic C n d).before args s = true := by
  obtain ⟨c, k, i, f, a, cell, h1, h2, h3, h4, h5, h6, h7, h8, h9, -⟩ := h
  show (Cond.laysStatic C n d).holds args s none s [] = true
  exact Cond.laysStatic_of h1 h2 h3 h4 h5 h6 h7 h8 h9
/-- .. and what it holds: null or some reference -/
def vx_Zq (C n d : String) (A : Nat → Prop) (U : State) (H : Heap) : Prop := va_Zq C n d A U H ∧ vx_L C n d A U H
theorem vx_Zq.moved {C n d : String} {A : Nat → Prop} {u U : State} {H : Heap} (hvm : u.vm.Alike U.vm) (h : vx_Zq C n d A u H) : vx_Zq C n d A U H := ⟨va_Zq.moved hvm h.1, vx_L.moved hvm h.2⟩
theorem vx_Zq.kept {C n d : String} {A : Nat → Prop} {U : State} {H H1 : Heap} (h : vx_Zq C n d A U H) (hq : ∀ a : Nat, a < H.size → ¬ A a → H1[a]? = H[a]?) : vx_Zq C n d A U H1 := ⟨va_Zq.kept h.1 hq, vx_L.kept h.2 hq⟩
theorem vx_Zq.narrow {C n d : String} {A B : Nat → Prop} {U : State} {H : Heap} (h : vx_Zq C n d A U H) (hAB : ∀ q, B q → A q) : vx_Zq C n d B U H := ⟨va_Zq.narrow h.1 hAB, vx_L.narrow h.2 hAB⟩
theorem vx_Zqof {args : Array Value} {s : State} {C n d : String} {A : Nat → Prop} (hl : (Cond.laysStatic C n d).before args s = true) (hini : (Cond.initialized C).before args s = true) (h : (Cond.isRef (.static C n d)).before args s = true) (hA : ∀ a : Nat, a < s.heap.size → ¬ A a) : vx_Zq C n d A s s.heap := by
  refine ⟨va_Zqof hl hini h hA, ?_⟩
  obtain ⟨c, k, i, f, a, cell, h1, h2, h3, h4, h5, h6, h7, h8, h9⟩ := Cond.laysStatic_spec hl
  exact ⟨c, k, i, f, a, cell, h1, h2, h3, h4, h5, h6, h7, h8, h9, hA a (Array.getElem?_eq_some_iff.mp h5).1⟩
theorem vx_isRef {C n d : String} {v : Value} {A : Nat → Prop} {s : State} {args : Array Value} (h : va_Z C n d v A s s.heap) (hv : v.isRef = true) : (Cond.isRef (.static C n d)).before args s = true := by
  obtain ⟨cf, kf, fi, f, a, cell, h1, h2, h3, h4, h5, h6, h7, -⟩ := h
  have he : (Term.static C n d).eval args s none [] s = some v := by
    simp [Term.eval, State.fieldNamed?, h1, h2, h4, h5, h6, h7]
  simp only [Cond.before, Cond.holds, Cond.value, he]
  cases v <;> simp_all [Value.isRef]
theorem vx_isRefq {C n d : String} {A : Nat → Prop} {s : State} {args : Array Value} (h : va_Zq C n d A s s.heap) : (Cond.isRef (.static C n d)).before args s = true := by
  rcases h with h | ⟨t, h⟩
  · exact vx_isRef h rfl
  · exact vx_isRef h rfl
/-- the same frame, seen from here: as if the method were called anew in this heap -/
theorem vx_rebase {T : State} (X : Stand p l e R s m args below meth c T locs cells slots) {R' : Room} (hf : R'.frames ≤ R.frames) (hl : R'.locals ≤ R.locals) (hc : cells + R'.cells ≤ R.cells) (hs : slots + R'.slots ≤ R.slots) :
    Stand p l e R' ((T.setVm s.vm).setFrames (.invoking m args :: below)) m args below meth c T [] 0 0 := by
  have htop : (T.setVm s.vm).topJava?.isSome := X.here.top
  have hF : ((T.setVm s.vm).setFrames (.invoking m args :: below)).frames = .invoking m args :: below := State.frames_setFrames _ (State.cur_lt_of_top htop)
  obtain ⟨g₀, hg0⟩ := Option.isSome_iff_exists.mp htop
  obtain ⟨r, hr⟩ := State.topJava?_eq_some.mp hg0
  have hl9 : e.platform.stackLimits (T.setVm s.vm).me = e.platform.stackLimits s.me := X.limits
  have hb9 : (T.setVm s.vm).me.stackBytes = s.me.stackBytes := X.bytes
  refine ⟨X.admits, X.cas, X.clock, hF, ?_, X.hears, X.method, X.code, X.here, X.tail, X.warmed, ?_, ?_, ?_⟩
  · have h := X.room
    have hU : ((T.setVm s.vm).setFrames (.invoking m args :: below)).localsInUse = s.localsInUse := by
      rw [State.localsInUse_invoking hF (meth := meth) (c := c) X.method X.code, State.localsInUse_invoking X.frames X.method X.code]
    simp only [State.hasRoom, Bool.and_eq_true, decide_eq_true_eq] at h ⊢
    obtain ⟨⟨⟨⟨h1, h2, h3, h4, h5, h6⟩, h7⟩, h8⟩, h9⟩ := h
    rw [X.frames, List.length_cons] at h2 h3
    have q1 := X.heapSize
    have q2 := X.used
    simp only [hF, hU, List.length_cons, State.stackLimits_setFrames, State.stackBytes_setFrames, hl9, hb9]
    refine ⟨⟨⟨⟨by omega, by omega, by omega, by omega, by omega, h6⟩, ?_⟩, ?_⟩, X.book⟩
    · show T.heap.size + R'.cells ≤ e.platform.maxCells
      omega
    · show T.slotsUsed + R'.slots ≤ e.platform.maxSlots
      omega
  · rw [State.stackLimits_setFrames]; rfl
  · rw [State.stackBytes_setFrames]; rfl
  · refine ⟨?_, Nat.le_refl _, Nat.le_refl _, ?_, ?_, fun a c9 h9 => ⟨c9, h9, rfl, rfl, fun _ _ => rfl⟩⟩
    · obtain ⟨t, ht, -⟩ := State.frames_cons hr
      show T.setVm s.vm = { ((T.setVm s.vm).setFrames (.invoking m args :: below)).setFrames (T.setVm s.vm).frames with heap := T.heap, slotsUsed := T.slotsUsed }
      rw [State.setFrames_setFrames, State.setFrames_self ht]
      rfl
    · show T.slotsUsed = T.slotsUsed + ((T.heap.toList.drop T.heap.size).map (·.slots.size)).sum
      rw [List.drop_eq_nil_of_le (Nat.le_of_eq Array.length_toList)]
      rfl
    · show ((T.heap.toList.drop T.heap.size).map (·.slots.size)).sum ≤ 0
      rw [List.drop_eq_nil_of_le (Nat.le_of_eq Array.length_toList)]
      exact Nat.le_refl _
/-- 'throw new E()': new; dup; invokespecial; athrow -/
theorem vx_throw0 {cc : ByteArray} {pc : Nat} (hexec : p.tables.exec = Jvm.exec) (hb : c.code = cc) (hl : l.stackTraces = false) {own cls : String} {names : List String} {ik ic mc ms : Nat} {A : Nat → Prop}
    (hown : s.vm.findClass own = some m.cls) (hcls : Bundle.fit cls = true) (hnames : ∀ n ∈ names, Bundle.fit n = true)
    (hk : (Cond.classLink own ik cls).before args s = true) (hini : (Cond.initialized cls).before args s = true) (hat : ∀ w ∈ vx_at0 own ic cls names, w.before args s = true)
    (hgood : ∀ w ∈ Cond.classLink own ik cls :: Cond.initialized cls :: vx_at0 own ic cls names, vx_ot w = true)
    (hU : vx_Zq Bundle.tN "UNASSIGNED_STACK" Bundle.steD A s s.heap) (hN : vx_Zq Bundle.tN "SUPPRESSED_SENTINEL" Bundle.listD A s s.heap) (hS : va_S A s.heap H locs) (hsize : ls.size = c.maxLocals)
    (d0 : decode cc pc = .ok (.new ik, 3)) (d3 : decode cc (pc + 3) = .ok (.dup, 1)) (d4 : decode cc (pc + 4) = .ok (.invokespecial ic, 3)) (d7 : decode cc (pc + 7) = .ok (.athrow, 1))
    (hout : ∀ x ∈ c.exceptionTable.toList, covers x (pc + 7) = false)
    (hRframes : names.length + 3 < R.frames) (hRlocals : (rest.map fun v => v.category).sum + (13 * (names.length + 1) + 42) ≤ R.locals) (hRcells : cells + 1 ≤ R.cells) (hRslots : slots + 6 ≤ R.slots) (hlocks : meth.locks = false)
    (hx : ∀ t : State, s.vm.Alike t.vm → H.size ≤ t.heap.size → (∀ q : Nat, q < H.size → t.heap[q]? = H[q]?) → XC cls s t)
    (hf : ∀ z ∈ locs, free z.base) (hc : cells + 1 ≤ mc) (hs : slots + 6 ≤ ms) :
    W p l e R s m args below meth c H locs cells slots (vx_MQ below Qc XC args s mc ms free) (F0 m pc ls rest) := by
  intro T hT X
  have htr : e.platform.stackTraces = false := (show e.platform.stackTraces = l.stackTraces by rw [X.admits.platform]).trans hl
  have Y := vx_rebase X (R' := { frames := R.frames, locals := R.locals, cells := 1, slots := 6 }) (Nat.le_refl _) (Nat.le_refl _) hRcells hRslots
  obtain ⟨s', hA⟩ : ∃ z, z = (T.setVm s.vm).setFrames (.invoking m args :: below) := ⟨_, rfl⟩
  rw [← hA] at Y
  have hvm : s'.vm = s.vm := by rw [hA]; rfl
  have hhp : s'.heap = H := by rw [hA]; exact hT
  have hW0 : s.WarmedH s'.vm := by rw [hvm]; exact State.WarmedH.refl s
  have hat' : ∀ w ∈ vx_at0 own ic cls names, w.before args s' = true := fun w hw => vx_ot_at hW0 hvm.symm (hgood w (List.mem_cons_of_mem _ (List.mem_cons_of_mem _ hw))) (hat w hw)
  have hk' : (Cond.classLink own ik cls).before args s' = true := vx_ot_at hW0 hvm.symm (hgood _ List.mem_cons_self) hk
  have hini' : (Cond.initialized cls).before args s' = true := vx_ot_at hW0 hvm.symm (hgood _ (List.mem_cons_of_mem _ List.mem_cons_self)) hini
  have hU' : vx_Zq Bundle.tN "UNASSIGNED_STACK" Bundle.steD A s' s'.heap := by rw [hhp]; exact vx_Zq.moved hW0.alike (hU.kept hS.2.1)
  have hN' : vx_Zq Bundle.tN "SUPPRESSED_SENTINEL" Bundle.listD A s' s'.heap := by rw [hhp]; exact vx_Zq.moved hW0.alike (hN.kept hS.2.1)
  have h : ∀ w ∈ Bundle.ownAtoms0 own ic cls names, w.before args s' = true := vx_own hat' (vx_isRefq hU'.1) (vx_isRefq hN'.1) hU'.2.word hN'.2.word
  have hown' : s'.vm.findClass own = some m.cls := by rw [hvm]; exact hown
  have hins : (Cond.instantiable cls 6).before args s' = true := h _ (by simp [Bundle.ownAtoms0])
  obtain ⟨vm₁, cX, kX, hfX, hkX, -, -, X₁, st1⟩ := Y.newCold hexec (own := own) (C := cls) (index := ik) (n := 6) hown' hk' hins hini'
    (g := F0 m pc ls rest) rfl (by rw [hb]; exact d0) (Nat.le_refl _) (Nat.le_refl _)
  generalize hT1 : (T.setVm vm₁).pushCell { cls := cX, slots := kX.instanceTypes.map defaultValue, vm := .none } = T1 at X₁ st1
  have hcat : (Value.ref T.heap.size).category = 1 := rfl
  have hcellA : T1.heap[T.heap.size]? = some (freshCell cX kX) := by rw [← hT1]; exact State.heap_pushCell_size _ _
  have d3' : decode c.code (pc + 3) = .ok (.dup, 1) := by rw [hb]; exact d3
  obtain ⟨U, hsteps, hrun, hend, hW, hsame, ce, hce, hO⟩ := X₁.ctorThrow0 hexec htr (own := own) (cls := cls) (names := names) (ic := ic) hown' hcls hnames h (fun x hx => nomatch hx) hfX hkX hcellA (by rw [hhp, hT]; exact Nat.le_refl _)
    (g := { method := m, pc := pc + 4, locals := ls, stack := .ref T.heap.size :: .ref T.heap.size :: rest, locked := none }) rfl hsize rfl rfl (rest := rest) rfl
    (by rw [hb]; exact d4) (by rw [hb]; exact d7) hout hRframes (by simp only [List.map_cons, List.sum_cons, hcat]; omega) hlocks
  obtain ⟨f1, f2⟩ := vx_frame hsame
  rw [hhp] at f1 f2
  have hWs : s.WarmedH U.vm := State.WarmedH.trans hW0 hW
  have hcl : s.vm.findClass cls = some ce.cls := by
    have h9 := hO.cls
    rw [hvm] at h9
    exact h9
  have hall : s.sameButNew ({ U with vm := s.vm } : State) locs mc ms := by
    subst hA
    obtain ⟨e1, e2⟩ := hsame
    rw [State.setFrames_setFrames] at e1
    have h2 : (T.setVm s.vm).sameButNew ({ U with vm := s.vm } : State) [] (0 + 1) (0 + 6) := ⟨e1, e2⟩
    have h3 := X.same.trans h2
    rw [List.append_nil] at h3
    exact h3.mono hc hs
  refine ⟨U, ?_, .threw T.heap.size, hrun, hend, Or.inr ⟨T.heap.size, rfl, cls, ce, locs, hx U hWs.alike f1 (fun q hq => f2 q hq (fun z hz => nomatch hz)), hce, hO.vm, hcl, hWs, hall, hf⟩⟩
  refine st1 _ ?_
  show Steps p.tables e below (T1.setTop { method := m, pc := pc + 3, locals := ls, stack := .ref T.heap.size :: rest, locked := none }) _
  jvm_step X₁.here [X₁.here.top, hexec, d3', Value.category]
  exact hsteps
/-- 'throw new E("text")': new; dup; ldc; invokespecial; athrow -/
theorem vx_throwS {cc : ByteArray} {pc : Nat} (hexec : p.tables.exec = Jvm.exec) (hb : c.code = cc) (hl : l.stackTraces = false) {own cls text : String} {names : List String} {ik is ic mc ms sa : Nat} {A : Nat → Prop}
    (hown : s.vm.findClass own = some m.cls) (hcls : Bundle.fit cls = true) (hnames : ∀ n ∈ names, Bundle.fit n = true)
    (hk : (Cond.classLink own ik cls).before args s = true) (hini : (Cond.initialized cls).before args s = true) (hstr : vk_R own is text sa s) (hat : ∀ w ∈ vx_atS own ic cls names, w.before args s = true)
    (hgood : ∀ w ∈ Cond.classLink own ik cls :: Cond.initialized cls :: vx_atS own ic cls names, vx_ot w = true)
    (hU : vx_Zq Bundle.tN "UNASSIGNED_STACK" Bundle.steD A s s.heap) (hN : vx_Zq Bundle.tN "SUPPRESSED_SENTINEL" Bundle.listD A s s.heap) (hS : va_S A s.heap H locs) (hsize : ls.size = c.maxLocals)
    (d0 : decode cc pc = .ok (.new ik, 3)) (d3 : decode cc (pc + 3) = .ok (.dup, 1)) (d4 : decode cc (pc + 4) = .ok (.ldc is, 2)) (d6 : decode cc (pc + 6) = .ok (.invokespecial ic, 3)) (d9 : decode cc (pc + 9) = .ok (.athrow, 1))
    (hout : ∀ x ∈ c.exceptionTable.toList, covers x (pc + 9) = false)
    (hRframes : names.length + 3 < R.frames) (hRlocals : (rest.map fun v => v.category).sum + (13 * (names.length + 1) + 43) ≤ R.locals) (hRcells : cells + 1 ≤ R.cells) (hRslots : slots + 6 ≤ R.slots) (hlocks : meth.locks = false)
    (hx : ∀ t : State, s.vm.Alike t.vm → H.size ≤ t.heap.size → (∀ q : Nat, q < H.size → t.heap[q]? = H[q]?) → XC cls s t)
    (hf : ∀ z ∈ locs, free z.base) (hc : cells + 1 ≤ mc) (hs : slots + 6 ≤ ms) :
    W p l e R s m args below meth c H locs cells slots (vx_MQ below Qc XC args s mc ms free) (F0 m pc ls rest) := by
  intro T hT X
  have htr : e.platform.stackTraces = false := (show e.platform.stackTraces = l.stackTraces by rw [X.admits.platform]).trans hl
  have Y := vx_rebase X (R' := { frames := R.frames, locals := R.locals, cells := 1, slots := 6 }) (Nat.le_refl _) (Nat.le_refl _) hRcells hRslots
  obtain ⟨s', hA⟩ : ∃ z, z = (T.setVm s.vm).setFrames (.invoking m args :: below) := ⟨_, rfl⟩
  rw [← hA] at Y
  have hvm : s'.vm = s.vm := by rw [hA]; rfl
  have hhp : s'.heap = H := by rw [hA]; exact hT
  have hW0 : s.WarmedH s'.vm := by rw [hvm]; exact State.WarmedH.refl s
  have hat' : ∀ w ∈ vx_atS own ic cls names, w.before args s' = true := fun w hw => vx_ot_at hW0 hvm.symm (hgood w (List.mem_cons_of_mem _ (List.mem_cons_of_mem _ hw))) (hat w hw)
  have hk' : (Cond.classLink own ik cls).before args s' = true := vx_ot_at hW0 hvm.symm (hgood _ List.mem_cons_self) hk
  have hini' : (Cond.initialized cls).before args s' = true := vx_ot_at hW0 hvm.symm (hgood _ (List.mem_cons_of_mem _ List.mem_cons_self)) hini
  have hU' : vx_Zq Bundle.tN "UNASSIGNED_STACK" Bundle.steD A s' s'.heap := by rw [hhp]; exact vx_Zq.moved hW0.alike (hU.kept hS.2.1)
  have hN' : vx_Zq Bundle.tN "SUPPRESSED_SENTINEL" Bundle.listD A s' s'.heap := by rw [hhp]; exact vx_Zq.moved hW0.alike (hN.kept hS.2.1)
  have h : ∀ w ∈ Bundle.ownAtoms own ic cls names, w.before args s' = true := vx_own hat' (vx_isRefq hU'.1) (vx_isRefq hN'.1) hU'.2.word hN'.2.word
  have hown' : s'.vm.findClass own = some m.cls := by rw [hvm]; exact hown
  have hins : (Cond.instantiable cls 6).before args s' = true := h _ (by simp [Bundle.ownAtoms])
  obtain ⟨vm₁, cX, kX, hfX, hkX, -, -, X₁, st1⟩ := Y.newCold hexec (own := own) (C := cls) (index := ik) (n := 6) hown' hk' hins hini'
    (g := F0 m pc ls rest) rfl (by rw [hb]; exact d0) (Nat.le_refl _) (Nat.le_refl _)
  generalize hT1 : (T.setVm vm₁).pushCell { cls := cX, slots := kX.instanceTypes.map defaultValue, vm := .none } = T1 at X₁ st1
  have hcat : (Value.ref T.heap.size).category = 1 := rfl
  have hcellA : T1.heap[T.heap.size]? = some (freshCell cX kX) := by rw [← hT1]; exact State.heap_pushCell_size _ _
  have d3' : decode c.code (pc + 3) = .ok (.dup, 1) := by rw [hb]; exact d3
  have d4' : decode c.code (pc + 4) = .ok (.ldc is, 2) := by rw [hb]; exact d4
  have hstr' : vk_R own is text sa s' := vk_R.warm hW0 hstr
  obtain ⟨U, hsteps, hrun, hend, hW, hsame, ce, hce, hO⟩ := X₁.ctorThrowS hexec htr (own := own) (cls := cls) (names := names) (ic := ic) hown' hcls hnames h (fun x hx => nomatch hx) hfX hkX hcellA (by rw [hhp, hT]; exact Nat.le_refl _) (msg := .ref sa) rfl
    (g := { method := m, pc := pc + 6, locals := ls, stack := .ref sa :: .ref T.heap.size :: .ref T.heap.size :: rest, locked := none }) rfl hsize rfl rfl (rest := rest) rfl
    (by rw [hb]; exact d6) (by rw [hb]; exact d9) hout hRframes (by simp only [List.map_cons, List.sum_cons, hcat]; omega) hlocks
  obtain ⟨f1, f2⟩ := vx_frame hsame
  rw [hhp] at f1 f2
  have hWs : s.WarmedH U.vm := State.WarmedH.trans hW0 hW
  have hcl : s.vm.findClass cls = some ce.cls := by
    have h9 := hO.cls
    rw [hvm] at h9
    exact h9
  have hall : s.sameButNew ({ U with vm := s.vm } : State) locs mc ms := by
    subst hA
    obtain ⟨e1, e2⟩ := hsame
    rw [State.setFrames_setFrames] at e1
    have h2 : (T.setVm s.vm).sameButNew ({ U with vm := s.vm } : State) [] (0 + 1) (0 + 6) := ⟨e1, e2⟩
    have h3 := X.same.trans h2
    rw [List.append_nil] at h3
    exact h3.mono hc hs
  refine ⟨U, ?_, .threw T.heap.size, hrun, hend, Or.inr ⟨T.heap.size, rfl, cls, ce, locs, hx U hWs.alike f1 (fun q hq => f2 q hq (fun z hz => nomatch hz)), hce, hO.vm, hcl, hWs, hall, hf⟩⟩
  refine st1 _ ?_
  show Steps p.tables e below (T1.setTop { method := m, pc := pc + 3, locals := ls, stack := .ref T.heap.size :: rest, locked := none }) _
  jvm_step X₁.here [X₁.here.top, hexec, d3', Value.category]
  exact X₁.ldcString hexec (own := own) (text := text) (index := is) (a := sa) hown' hstr'.1 hstr'.2
    (g := { method := m, pc := pc + 4, locals := ls, stack := .ref T.heap.size :: .ref T.heap.size :: rest, locked := none }) rfl d4' _ hsteps
/-- 'throw new E("text")', the text by a wide index -/
theorem vx_throwSW {cc : ByteArray} {pc : Nat} (hexec : p.tables.exec = Jvm.exec) (hb : c.code = cc) (hl : l.stackTraces = false) {own cls text : String} {names : List String} {ik is ic mc ms sa : Nat} {A : Nat → Prop}
    (hown : s.vm.findClass own = some m.cls) (hcls : Bundle.fit cls = true) (hnames : ∀ n ∈ names, Bundle.fit n = true)
    (hk : (Cond.classLink own ik cls).before args s = true) (hini : (Cond.initialized cls).before args s = true) (hstr : vk_R own is text sa s) (hat : ∀ w ∈ vx_atS own ic cls names, w.before args s = true)
    (hgood : ∀ w ∈ Cond.classLink own ik cls :: Cond.initialized cls :: vx_atS own ic cls names, vx_ot w = true)
    (hU : vx_Zq Bundle.tN "UNASSIGNED_STACK" Bundle.steD A s s.heap) (hN : vx_Zq Bundle.tN "SUPPRESSED_SENTINEL" Bundle.listD A s s.heap) (hS : va_S A s.heap H locs) (hsize : ls.size = c.maxLocals)
    (d0 : decode cc pc = .ok (.new ik, 3)) (d3 : decode cc (pc + 3) = .ok (.dup, 1)) (d4 : decode cc (pc + 4) = .ok (.ldc_w is, 3)) (d7 : decode cc (pc + 7) = .ok (.invokespecial ic, 3)) (d10 : decode cc (pc + 10) = .ok (.athrow, 1))
    (hout : ∀ x ∈ c.exceptionTable.toList, covers x (pc + 10) = false)
    (hRframes : names.length + 3 < R.frames) (hRlocals : (rest.map fun v => v.category).sum + (13 * (names.length + 1) + 43) ≤ R.locals) (hRcells : cells + 1 ≤ R.cells) (hRslots : slots + 6 ≤ R.slots) (hlocks : meth.locks = false)
    (hx : ∀ t : State, s.vm.Alike t.vm → H.size ≤ t.heap.size → (∀ q : Nat, q < H.size → t.heap[q]? = H[q]?) → XC cls s t)
    (hf : ∀ z ∈ locs, free z.base) (hc : cells + 1 ≤ mc) (hs : slots + 6 ≤ ms) :
    W p l e R s m args below meth c H locs cells slots (vx_MQ below Qc XC args s mc ms free) (F0 m pc ls rest) := by
  intro T hT X
  have htr : e.platform.stackTraces = false := (show e.platform.stackTraces = l.stackTraces by rw [X.admits.platform]).trans hl
  have Y := vx_rebase X (R' := { frames := R.frames, locals := R.locals, cells := 1, slots := 6 }) (Nat.le_refl _) (Nat.le_refl _) hRcells hRslots
  obtain ⟨s', hA⟩ : ∃ z, z = (T.setVm s.vm).setFrames (.invoking m args :: below) := ⟨_, rfl⟩
  rw [← hA] at Y
  have hvm : s'.vm = s.vm := by rw [hA]; rfl
  have hhp : s'.heap = H := by rw [hA]; exact hT
  have hW0 : s.WarmedH s'.vm := by rw [hvm]; exact State.WarmedH.refl s
  have hat' : ∀ w ∈ vx_atS own ic cls names, w.before args s' = true := fun w hw => vx_ot_at hW0 hvm.symm (hgood w (List.mem_cons_of_mem _ (List.mem_cons_of_mem _ hw))) (hat w hw)
  have hk' : (Cond.classLink own ik cls).before args s' = true := vx_ot_at hW0 hvm.symm (hgood _ List.mem_cons_self) hk
  have hini' : (Cond.initialized cls).before args s' = true := vx_ot_at hW0 hvm.symm (hgood _ (List.mem_cons_of_mem _ List.mem_cons_self)) hini
  have hU' : vx_Zq Bundle.tN "UNASSIGNED_STACK" Bundle.steD A s' s'.heap := by rw [hhp]; exact vx_Zq.moved hW0.alike (hU.kept hS.2.1)
  have hN' : vx_Zq Bundle.tN "SUPPRESSED_SENTINEL" Bundle.listD A s' s'.heap := by rw [hhp]; exact vx_Zq.moved hW0.alike (hN.kept hS.2.1)
  have h : ∀ w ∈ Bundle.ownAtoms own ic cls names, w.before args s' = true := vx_own hat' (vx_isRefq hU'.1) (vx_isRefq hN'.1) hU'.2.word hN'.2.word
  have hown' : s'.vm.findClass own = some m.cls := by rw [hvm]; exact hown
  have hins : (Cond.instantiable cls 6).before args s' = true := h _ (by simp [Bundle.ownAtoms])
  obtain ⟨vm₁, cX, kX, hfX, hkX, -, -, X₁, st1⟩ := Y.newCold hexec (own := own) (C := cls) (index := ik) (n := 6) hown' hk' hins hini'
    (g := F0 m pc ls rest) rfl (by rw [hb]; exact d0) (Nat.le_refl _) (Nat.le_refl _)
  generalize hT1 : (T.setVm vm₁).pushCell { cls := cX, slots := kX.instanceTypes.map defaultValue, vm := .none } = T1 at X₁ st1
  have hcat : (Value.ref T.heap.size).category = 1 := rfl
  have hcellA : T1.heap[T.heap.size]? = some (freshCell cX kX) := by rw [← hT1]; exact State.heap_pushCell_size _ _
  have d3' : decode c.code (pc + 3) = .ok (.dup, 1) := by rw [hb]; exact d3
  have d4' : decode c.code (pc + 4) = .ok (.ldc_w is, 3) := by rw [hb]; exact d4
  have hstr' : vk_R own is text sa s' := vk_R.warm hW0 hstr
  obtain ⟨U, hsteps, hrun, hend, hW, hsame, ce, hce, hO⟩ := X₁.ctorThrowS hexec htr (own := own) (cls := cls) (names := names) (ic := ic) hown' hcls hnames h (fun x hx => nomatch hx) hfX hkX hcellA (by rw [hhp, hT]; exact Nat.le_refl _) (msg := .ref sa) rfl
    (g := { method := m, pc := pc + 7, locals := ls, stack := .ref sa :: .ref T.heap.size :: .ref T.heap.size :: rest, locked := none }) rfl hsize rfl rfl (rest := rest) rfl
    (by rw [hb]; exact d7) (by rw [hb]; exact d10) hout hRframes (by simp only [List.map_cons, List.sum_cons, hcat]; omega) hlocks
  obtain ⟨f1, f2⟩ := vx_frame hsame
  rw [hhp] at f1 f2
  have hWs : s.WarmedH U.vm := State.WarmedH.trans hW0 hW
  have hcl : s.vm.findClass cls = some ce.cls := by
    have h9 := hO.cls
    rw [hvm] at h9
    exact h9
  have hall : s.sameButNew ({ U with vm := s.vm } : State) locs mc ms := by
    subst hA
    obtain ⟨e1, e2⟩ := hsame
    rw [State.setFrames_setFrames] at e1
    have h2 : (T.setVm s.vm).sameButNew ({ U with vm := s.vm } : State) [] (0 + 1) (0 + 6) := ⟨e1, e2⟩
    have h3 := X.same.trans h2
    rw [List.append_nil] at h3
    exact h3.mono hc hs
  refine ⟨U, ?_, .threw T.heap.size, hrun, hend, Or.inr ⟨T.heap.size, rfl, cls, ce, locs, hx U hWs.alike f1 (fun q hq => f2 q hq (fun z hz => nomatch hz)), hce, hO.vm, hcl, hWs, hall, hf⟩⟩
  refine st1 _ ?_
  show Steps p.tables e below (T1.setTop { method := m, pc := pc + 3, locals := ls, stack := .ref T.heap.size :: rest, locked := none }) _
  jvm_step X₁.here [X₁.here.top, hexec, d3', Value.category]
  exact X₁.ldcStringW hexec (own := own) (text := text) (index := is) (a := sa) hown' hstr'.1 hstr'.2
    (g := { method := m, pc := pc + 4, locals := ls, stack := .ref T.heap.size :: .ref T.heap.size :: rest, locked := none }) rfl d4' _ hsteps
end Ends
section Bodies
variable {l : Launch}
theorem vx_ofW {y : MethodName} {ws ws' : List Cond} {rm : Room} {Pc : Array Value → State → Prop} {Qc : Array Value → State → Outcome → State → Prop} {XC : String → State → State → Prop} {mc ms : Nat} {free : Addr → Prop} {cc : ByteArray} {maxL : Nat} {ret : Option FieldType}
    (hy : plainName y.cls = true) (hw : ws = Cond.code y cc maxL ret :: ws')
    (body : ∀ p e s m args below meth c s₁, BodyLoose p l y (headSpec ws rm) cc maxL ret e s m args below meth c s₁ → c.maxLocals = maxL → (∀ x ∈ c.exceptionTable.toList, False) → Pc args s →
      W p l e (headSpec ws rm).room s m args below meth c s.heap [] 0 0 (vx_MQ below Qc XC args s mc ms free) (entryFrame m args maxL)) : vx_Met l y ws rm Pc Qc XC mc ms free := by
  refine MetFree.of_bodyS (code := cc) (maxLocals := maxL) (ret := ret) hy ?_ ?_
  · intro args s m h hn
    obtain ⟨meth, c, h1, h2, h3, h4, h5, h6, -, -⟩ := Cond.code_spec hn (atoms_spec (ws := ws) h _ (by rw [hw]; exact List.mem_cons_self))
    exact ⟨meth, c, h1, h2, h3, h4, h5, h6⟩
  · intro p e s m args below meth c s₁ B hml hP _
    have hh0 : s₁.heap = s.heap := by rw [B.state]; rfl
    have ht : ∀ x ∈ c.exceptionTable.toList, False := by
      obtain ⟨meth9, c9, h1, h2, -, -, -, -, h7, -⟩ := Cond.code_spec B.named (atoms_spec (ws := ws) B.pre _ (by rw [hw]; exact List.mem_cons_self))
      cases Option.some.inj (h1.symm.trans B.method)
      cases Option.some.inj (h2.symm.trans (Stand.of_body B).code)
      intro x hx
      rw [Array.isEmpty_iff.mp h7] at hx
      cases hx
    obtain ⟨t, a1, o, b1, b2, b3⟩ := body p e s m args below meth c s₁ B hml ht hP s₁ hh0 (Stand.of_body B)
    exact ⟨t, o, a1, b1, b2, b3⟩
/-- the table of a body with handlers -/
theorem vx_table {p : Program} {x y : MethodName} {S : Spec} {cc bytes : ByteArray} {maxL maxL' : Nat} {ret ret' : Option FieldType} {e : Env} {s s₁ : State} {m : MethodId} {args : Array Value} {below : List Frame} {meth : Method} {c : Code} {hh : List (Nat × Nat × Nat × Nat)}
    (B : BodyLoose p l y S cc maxL ret e s m args below meth c s₁) (h : (Cond.codeWith y bytes maxL' ret' hh).before args s = true) : c.exceptionTable.toList = tableOf hh := by
  obtain ⟨m9, meth9, c9, hn9, h1, h2, -, -, h6, -⟩ := Cond.codeWith_spec h
  cases Option.some.inj (hn9.symm.trans B.named)
  cases Option.some.inj (h1.symm.trans B.method)
  cases Option.some.inj (h2.symm.trans (Stand.of_body B).code)
  rw [← h6, table_eq]
end Bodies
end VXA
/-! ===== END ===== -/
/-! ===== BEGIN a static call of a method with an exception table ===== -/
section VXS
variable {p : Program} {l : Launch} {e : Env} {R : Room} {s : State} {m : MethodId} {args : Array Value} {below : List Frame} {meth : Method} {c : Code} {T : State} {H : Heap} {locs : List Loc} {cells slots : Nat}
abbrev vx_CSW (R : Room) (s : State) (args : Array Value) (own : String) (index : Nat) (y : MethodName) (bytes : ByteArray) (maxL : Nat) (ret : Option FieldType) (hh : List (Nat × Nat × Nat × Nat)) (ws : List Cond) (rm : Room) (mc ms n : Nat) : Prop :=
  (rm.cells = mc ∧ rm.slots = ms ∧ rm.frames + 1 ≤ R.frames ∧ 8 + (maxL + 11) + rm.locals ≤ R.locals ∧ (∀ w ∈ ws, ∀ (a' : Array Value) (U : State), s.WarmedH U.vm → w.before a' U = true) ∧ Cond.codeWith y bytes maxL ret hh ∈ ws) ∧
  (Cond.codeWith y bytes maxL ret hh).before args s = true ∧ (Cond.initialized y.cls).before args s = true ∧ (y.cls ≠ "java/lang/invoke/MethodHandle" ∧ y.cls ≠ "java/lang/invoke/VarHandle") ∧
  (∀ sig, parseMethodDescriptor y.desc = some sig → n = sig.parameters.length) ∧ (Cond.methodLink own index y).before args s = true ∧ (Cond.static y).before args s = true
theorem vx_cwSW {own : String} {index maxL mc ms : Nat} {y : MethodName} {bytes : ByteArray} {ret : Option FieldType} {hh : List (Nat × Nat × Nat × Nat)} {Ts ws ws' : List Cond} {rm : Room} (n : Nat) (ht : ∀ w ∈ Ts, w.before args s = true) (hT : GoodIn Ts (va_wsS own index y ws)) (hw : ws = Cond.codeWith y bytes maxL ret hh :: ws') (hrc : rm.cells = mc) (hrs : rm.slots = ms)
    (hd : y.cls ≠ "java/lang/invoke/MethodHandle" ∧ y.cls ≠ "java/lang/invoke/VarHandle" ∧ (parseMethodDescriptor y.desc).map (fun d => d.parameters.length) = some n) (hR : rm.frames + 1 ≤ R.frames ∧ 8 + (maxL + 11) + rm.locals ≤ R.locals) :
    vx_CSW R s args own index y bytes maxL ret hh ws rm mc ms n := by
  have ok : ∀ w ∈ va_wsS own index y ws, w.before args s = true := fun w h => ht w (hT w h).1
  have hG : GoodIn Ts ws := fun w h => hT w (by unfold va_wsS; exact List.mem_append_right _ h)
  have hc : Cond.codeWith y bytes maxL ret hh ∈ ws := by rw [hw]; exact List.mem_cons_self
  refine ⟨⟨hrc, hrs, hR.1, hR.2, pay_in ht hG, hc⟩, ht _ (hG _ hc).1, ok _ (by simp [va_wsS]), ⟨hd.1, hd.2.1⟩, fun sig h => ?_, ok _ (by simp [va_wsS]), ok _ (by simp [va_wsS])⟩
  have h2 := hd.2.2
  rw [h] at h2
  exact (Option.some.inj h2).symm
theorem vx_callSW (X : Stand p l e R s m args below meth c T locs cells slots) (hexec : p.tables.exec = Jvm.exec) {own : String} {index : Nat} {y : MethodName} {bytes : ByteArray} {maxL : Nat} {ret : Option FieldType} {hh : List (Nat × Nat × Nat × Nat)}
    (hown : s.vm.findClass own = some m.cls) (hlink : (Cond.methodLink own index y).before args s = true) (hstat : (Cond.static y).before args s = true) (hinit : (Cond.initialized y.cls).before args s = true)
    (hcode : (Cond.codeWith y bytes maxL ret hh).before args s = true) (hy : y.cls ≠ "java/lang/invoke/MethodHandle" ∧ y.cls ≠ "java/lang/invoke/VarHandle")
    {W9 : Nat} {Pre : Pt → Array Value → Prop} {Post : Pt → Array Value → Option Value → Pt → Prop} (hK : Back l R p e below s args y 3 W9 Pre Post)
    {g : JFrame} (hg : g.method = m) (hsize : g.locals.size = c.maxLocals) {argsL rest : List Value} (hlen : ∀ sig, parseMethodDescriptor y.desc = some sig → argsL.length = sig.parameters.length)
    (hstack : g.stack = argsL.reverse ++ rest) (hW : 2 * g.monitorRoom + (rest.map fun v => v.category).sum ≤ W9) (hdg : decode c.code g.pc = .ok (.invokestatic index, 3))
    (hpre : ∀ vm₁, s.WarmedH vm₁ → Pre ⟨T.setVm vm₁, locs, cells, slots⟩ argsL.toArray) :
    ∃ (v : Option Value) (vm₁ : Vm) (B : Pt), s.WarmedH vm₁ ∧ Stand p l e R s m args below meth c B.U B.locs B.cells B.slots ∧ Post ⟨T.setVm vm₁, locs, cells, slots⟩ argsL.toArray v B ∧
      ∀ target, Steps p.tables e below (B.U.setTop { g with pc := g.pc + 3, stack := v.toList ++ rest }) target → Steps p.tables e below (T.setTop g) target := by
  obtain ⟨mk, methM, cM, hnamed, hmethM, -, -, -, -, -, -, hsigM⟩ := Cond.codeWith_spec hcode
  have hstatic : methM.isStatic = true := Cond.static_spec hnamed hmethM hstat
  obtain ⟨kP, hkP, -⟩ := className_of_methodNamed hnamed
  have hinitP : kP.init = .initialized := Cond.initialized_spec (findClass_of_methodNamed hnamed) hkP hinit
  obtain ⟨vm₁, X₁, hstep₁⟩ := X.invokestatic hexec hown hlink hnamed hmethM hstatic hkP hinitP hy (g := g) hg (argsL := argsL) (rest := rest) (hlen _ hsigM) hstack hdg
  obtain ⟨v, B, X', hpost, hsteps⟩ := hK m meth c ⟨T.setVm vm₁, locs, cells, slots⟩ { g with stack := rest } (.invokestatic index) mk argsL.toArray X₁ hg hsize hdg hW (X₁.named hnamed) (hpre vm₁ X₁.warmed)
  exact ⟨v, vm₁, B, X₁.warmed, X', hpost, fun target h => hstep₁ _ fun acts => by rw [doInvoke_state]; exact hsteps.trans h⟩
theorem vx_runSW {y : MethodName} {bytes cc : ByteArray} {maxL nL mc ms n index : Nat} {ret : Option FieldType} {hh : List (Nat × Nat × Nat × Nat)} {ws : List Cond} {rm : Room} {Pc : Array Value → State → Prop} {Qc : Array Value → State → Outcome → State → Prop} {free : Addr → Prop} {Ts : List Cond} {own : String} {As rest : List Value} {g : JFrame}
    (S : CallFix p m c cc nL s args Ts own) (hM : Met l y ws rm Pc Qc mc ms free) (cw : vx_CSW R s args own index y bytes maxL ret hh ws rm mc ms n) (hp : PreS s H Pc As)
    (hg : g.method = m) (hn : As.length = n) (hsize : g.locals.size = nL) (hstack : g.stack = As.reverse ++ rest) (hW : 2 * g.monitorRoom + (rest.map fun v => v.category).sum ≤ 8) (hdg : decode cc g.pc = .ok (.invokestatic index, 3)) (hf : cells + mc ≤ R.cells ∧ slots + ms ≤ R.slots) :
    va_Run p l e R s m args below meth c H locs cells slots mc ms g rest (Qc As.toArray) (free) := by
  obtain ⟨⟨hrc, hrs, hfr, hlo, hws, hcw⟩, hcode, hini, hy, hlen, hl, hstt⟩ := cw
  have hK : Back l R p e below s args y 3 8 (PreOf R mc ms Pc) (PostOf Qc mc ms free) := va_backW (hh := hh) (bytes := bytes) (maxL := maxL) (ret := ret) hM hp.1 hrc hrs hfr hlo hws hcw (fun a' U hW => word_at hW (Or.inl (by first | rfl | simp [Cond.onTables, Cond.keeps, Cond.steady])) hini)
  obtain ⟨hx, hb, hml, ho, -⟩ := S
  intro T hT X
  obtain ⟨v, vm₁, ⟨U', l2, c2, s2⟩, hW₁, X', ⟨g', mk, t, L, e1, e2, hq, h1, hL, h2, h3⟩, st⟩ := vx_callSW X hx (hh := hh) (bytes := bytes) (maxL := maxL) (ret := ret) ho hl hstt hini hcode hy hK hg (hsize.trans hml.symm) (argsL := As) (rest := rest) (fun sig h => hn.trans (hlen sig h)) hstack hW (by rw [hb]; exact hdg)
    (fun vm₁ hW₁ => ⟨hf.1, hf.2, hp.2 (T.setVm vm₁) hT hW₁⟩)
  dsimp only [Pt.U, Pt.locs, Pt.cells, Pt.slots] at X' e1 e2 h1 h2 h3 st
  subst h1; subst h2; subst h3
  exact ⟨v, (T.setVm vm₁).calling g' mk As.toArray, t, U', L, hT, X', hL, e1, e2, hq, st⟩
/-- not caught here, past rows that name other classes: it goes on to the caller -/
theorem vx_outP {p : Program} {l : Launch} {e : Env} {R : Room} {s : State} {m : MethodId} {args : Array Value} {below : List Frame} {meth : Method} {c : Code} {H : Heap} {locs : List Loc} {cells slots : Nat} {free : Addr → Prop} {ls : Array Slot} {rest : List Value} {Qc : Array Value → State → Outcome → State → Prop} {XC : String → State → State → Prop}
    {pc : Nat} {own E : String} {ce : Cell} {q : Addr} {mc ms : Nat} (hown : s.vm.findClass own = some m.cls) (hlocks : meth.locks = false)
    (hpass : ∀ z ∈ c.exceptionTable.toList, covers z pc = false ∨ (z.catchType ≠ 0 ∧ ∃ nm : String, (Cond.classLink own z.catchType nm).before args s = true ∧ va_Nc E nm s)) (hcell : H[q]? = some ce) (hv : ce.vm = .none) (hcl : s.vm.findClass E = some ce.cls)
    (hx : ∀ t : State, t.heap = H → s.vm.Alike t.vm → XC E s t) (hf : ∀ z ∈ locs, free z.base) (hc : cells ≤ mc) (hs : slots ≤ ms) :
    vx_W p l e R s m args below meth c H locs cells slots (vx_MQ below Qc XC args s mc ms free) (F0 m pc ls rest) q := by
  intro T hT X
  have hpl : e.platform.magicAccessors = ({} : Platform).magicAccessors := by rw [X.admits.platform]
  obtain ⟨vm', hW', X', st⟩ := X.outThrough hlocks q (g := F0 m pc ls rest) rfl rfl rfl (cell := ce) (by rw [hT]; exact hcell) (by rw [hv]; rfl)
    (by obtain ⟨k9, h9, -⟩ := Vm.findClass_spec hcl; exact ⟨k9, h9⟩) (fun z hz => by
      rcases hpass z hz with h | ⟨hz0, nm, hl1, hn1⟩
      · exact Or.inl h
      · obtain ⟨c6, hc6, hcl6⟩ := Cond.classLink_spec hown hl1 e.platform hpl
        obtain ⟨a8, b8, h1, h2, h3⟩ := hn1
        cases Option.some.inj (h1.symm.trans hcl)
        cases Option.some.inj (h2.symm.trans hc6)
        exact Or.inr ⟨hz0, _, hcl6, h3⟩)
  obtain ⟨g₀, hfr⟩ := X'.frames_eq
  have hcell9 : ((T.setVm vm').setFrames (.throwing q :: below)).heap[q]? = some ce := by
    show T.heap[q]? = some ce
    rw [hT]; exact hcell
  have hend : Ended ((T.setVm vm').setFrames (.throwing q :: below)) below (.threw q) := State.frames_setFrames _ (State.cur_lt_of_frames hfr)
  refine ⟨(T.setVm vm').setFrames (.throwing q :: below), ?_, .threw q, X'.here.running, hend, Or.inr ⟨q, rfl, E, ce, locs, hx _ hT (X'.ends _).1.alike, hcell9, hv, hcl, (X'.ends _).1, (X'.ends _).2.mono hc hs, hf⟩⟩
  rw [X.pushThrowing_eq]
  exact st
/-- a thing of a world lies in the heap -/
theorem vx_lt {D : va_G} {cl : List vw_C} {ws : va_W} {H1 : Heap} (h : va_P D cl ws H1) {k : Nat} {q : Nat × va_E} (hk : ws[k]? = some q) : q.1 < H1.size := (h k q hk).lt
end VXS
/-! ===== END ===== -/
/-! ===== BEGIN methods with a table of their own: called by a name, returning or throwing ===== -/
section VXH
/-! vx_backW, vx_callVX, vx_callSX, vx_callVW, vx_runVW, vx_runVX, vx_runSX, vx_ofWH follow the same proofs as their sisters above (Free/Laws.lean, Shelf42/LK1.lean); vx_outP calls Shelf42/NT130.lean (outThrough). -/
section
variable {l : Launch} {R : Room} {p : Program} {e : Env} {below : List Frame} {s : State} {sargs : Array Value} {y : MethodName} {len W9 : Nat}
theorem vx_backW {ws : List Cond} {rm : Room} {Pc : Array Value → State → Prop} {Qc : Array Value → State → Outcome → State → Prop} {XC : String → State → State → Prop} {mc ms : Nat} {free : Addr → Prop} {bytes : ByteArray} {maxL : Nat} {ret : Option FieldType} {hh : List (Nat × Nat × Nat × Nat)}
    (hM : vx_Met l y ws rm Pc Qc XC mc ms free) (hblind : FrameBlind Pc) (hrc : rm.cells = mc) (hrs : rm.slots = ms)
    (hframes : rm.frames + 1 ≤ R.frames) (hlocals : W9 + (maxL + 11) + rm.locals ≤ R.locals)
    (hws : ∀ w ∈ ws, ∀ a' U, s.WarmedH U.vm → w.before a' U = true) (hcode : Cond.codeWith y bytes maxL ret hh ∈ ws) (hinit : ∀ a' U, s.WarmedH U.vm → (Cond.initialized y.cls).before a' U = true) :
    vx_Back l R p e below s sargs y len W9 (PreOf R mc ms Pc) (PostOf Qc mc ms free) (vx_Post XC mc ms free) := by
  intro m meth c A g ig mk a X hg hsize hdg hW hn hp
  have h1 : (headSpec ws rm).pre.before a A.U = true := atoms_intro fun w hw => hws w hw _ _ X.warmed
  have h2 : (Cond.codeWith y bytes maxL ret hh).before a A.U = true := hws _ hcode _ _ X.warmed
  have h3 : (Cond.initialized y.cls).before a A.U = true := hinit _ _ X.warmed
  have h4 : A.cells + (headSpec ws rm).room.cells ≤ R.cells := by rw [show (headSpec ws rm).room.cells = mc from hrc]; exact hp.1
  have h5 : A.slots + (headSpec ws rm).room.slots ≤ R.slots := by rw [show (headSpec ws rm).room.slots = ms from hrs]; exact hp.2.1
  have hPc : Pc a (A.U.calling g mk a) := hblind _ _ _ _ hp.2.2
  obtain ⟨U, Ls, c0, s0⟩ := A
  dsimp only [Pt.U, Pt.locs, Pt.cells, Pt.slots] at h1 h2 h3 h4 h5 X hn hPc ⊢
  obtain ⟨m9, methY, cY, hn9, hmY, hcY, -, hlY, -⟩ := Cond.codeWith_spec h2
  cases Option.some.inj (hn9.symm.trans hn)
  obtain ⟨kY, hkY, -⟩ := className_of_methodNamed hn
  have hinitY : kY.init = .initialized := Cond.initialized_spec (findClass_of_methodNamed hn) hkY h3
  have h : At U g.method c below := by rw [hg]; exact X.here
  have hlocals9 : W9 + (maxL + 11) + (headSpec ws rm).room.locals ≤ R.locals := hlocals
  have happ : (headSpec ws rm).appliesLoose y e.platform (U.calling g mk a) = true :=
    Spec.appliesLoose_calling (g := g) h hdg hn hkY hinitY
      (X.room_calling (g := g) (R' := (headSpec ws rm).room) hsize hmY hcY hframes (by rw [hlY]; omega) h4 h5) h1
  obtain ⟨mid, hmid⟩ := h.above
  have hfr : (U.setTop g).frames = (.java g :: mid) ++ below := by rw [State.frames_setTop' g h.top, hmid]; rfl
  obtain ⟨o, s₂, hsteps, -, hend, hq⟩ := Steps.callFree hM p X.admits X.cas X.clock (acts := []) hfr happ hPc trivial
  have hq' : vx_Q Qc XC mc ms free a (U.calling g mk a) o s₂ := hq
  rw [State.frames_setTop' g h.top] at hend
  obtain ⟨g₀, hg0⟩ := Option.isSome_iff_exists.mp h.top
  obtain ⟨r, hr⟩ := State.topJava?_eq_some.mp hg0
  have hr' : (({ U with heap := s₂.heap, slotsUsed := s₂.slotsUsed } : State).setVm s₂.vm).frames = .java g₀ :: r := hr
  rcases hq' with ⟨hqc, L, hfe, hL⟩ | ⟨q, rfl, E, ce, L, hx, hce, hcv, hcl, hW₂, hsm, hL⟩
  · obtain ⟨⟨v, rfl⟩, hW₂, e2, q2, q3, q4, q5, q6⟩ := id hfe
    have e3 : s₂ = ({ (U.calling g mk a).setFrames s₂.frames with heap := s₂.heap, slotsUsed := s₂.slotsUsed } : State).setVm s₂.vm := by
      have : s₂ = ({ s₂ with vm := (U.calling g mk a).vm } : State).setVm s₂.vm := rfl
      rw [e2] at this
      exact this
    obtain ⟨c₂, i₂, len₂, hc₂, hd₂, hf₂⟩ := hend
    have hW' : U.WarmedH s₂.vm := hW₂
    have hcc : c₂ = c := by
      have h1 : s₂.code? g.method = U.code? g.method := by
        rw [State.code?_eq, State.code?_eq, hW'.alike.method?]
      exact Option.some.inj (hc₂.symm.trans (h1.trans h.code))
    subst hcc
    have hlen : len₂ = len := by rw [hdg] at hd₂; cases hd₂; rfl
    subst hlen
    have hs₂ : s₂ = (({ U with heap := s₂.heap, slotsUsed := s₂.slotsUsed } : State).setVm s₂.vm).setTop { g with pc := g.pc + len₂, stack := v.toList ++ g.stack } := by
      refine e3.trans ?_
      rw [hf₂, State.calling_eq h.top, State.setFrames_setFrames, State.setTop_of_frames _ hr', hr]
      rfl
    have hsame : U.sameButNew ({ U with heap := s₂.heap, slotsUsed := s₂.slotsUsed } : State) L mc ms := by
      refine ⟨?_, q2, q3, q4, q5, q6⟩
      obtain ⟨t, ht, -⟩ := State.frames_cons hr
      show ({ U with heap := s₂.heap, slotsUsed := s₂.slotsUsed } : State) = { U.setFrames U.frames with heap := s₂.heap, slotsUsed := s₂.slotsUsed }
      rw [State.setFrames_self ht]
    subst hg
    refine Or.inl ⟨v, ⟨(({ U with heap := s₂.heap, slotsUsed := s₂.slotsUsed } : State).setVm s₂.vm), Ls ++ L, c0 + mc, s0 + ms⟩,
      ⟨X.admits, X.cas, X.clock, X.frames, X.room, X.hears, X.method, X.code, (X.here.setHeapUsed s₂.heap s₂.slotsUsed).setVm hW'.alike, X.tail, State.WarmedH.trans X.warmed hW', X.limits, X.bytes, X.same.trans (hsame.setVm s.vm)⟩,
      ⟨g, mk, s₂, L, rfl, rfl, hqc, rfl, hL, rfl, rfl⟩, ?_⟩
    show Steps p.tables e below _ ((({ U with heap := s₂.heap, slotsUsed := s₂.slotsUsed } : State).setVm s₂.vm).setTop { g with pc := g.pc + len₂, stack := v.toList ++ g.stack })
    rw [← hs₂]
    exact hsteps
  · obtain ⟨e2, q2, q3, q4, q5, q6⟩ := id hsm
    have e3 : s₂ = ({ (U.calling g mk a).setFrames s₂.frames with heap := s₂.heap, slotsUsed := s₂.slotsUsed } : State).setVm s₂.vm := by
      have : s₂ = ({ s₂ with vm := (U.calling g mk a).vm } : State).setVm s₂.vm := rfl
      rw [e2] at this
      exact this
    have hf₂ : s₂.frames = .throwing q :: .java g :: U.frames.tail := hend
    have hW' : U.WarmedH s₂.vm := hW₂
    have hs₂ : s₂ = ((({ U with heap := s₂.heap, slotsUsed := s₂.slotsUsed } : State).setVm s₂.vm).setTop g).pushFrame (.throwing q) := by
      refine e3.trans ?_
      rw [hf₂, State.calling_eq h.top, State.setFrames_setFrames, State.pushFrame, State.frames_setTop _ hr', State.setTop_of_frames _ hr', State.setFrames_setFrames, hr]
      rfl
    have hsame : U.sameButNew ({ U with heap := s₂.heap, slotsUsed := s₂.slotsUsed } : State) L mc ms := by
      refine ⟨?_, q2, q3, q4, q5, q6⟩
      obtain ⟨t, ht, -⟩ := State.frames_cons hr
      show ({ U with heap := s₂.heap, slotsUsed := s₂.slotsUsed } : State) = { U.setFrames U.frames with heap := s₂.heap, slotsUsed := s₂.slotsUsed }
      rw [State.setFrames_self ht]
    subst hg
    refine Or.inr ⟨q, ⟨(({ U with heap := s₂.heap, slotsUsed := s₂.slotsUsed } : State).setVm s₂.vm), Ls ++ L, c0 + mc, s0 + ms⟩,
      ⟨X.admits, X.cas, X.clock, X.frames, X.room, X.hears, X.method, X.code, (X.here.setHeapUsed s₂.heap s₂.slotsUsed).setVm hW'.alike, X.tail, State.WarmedH.trans X.warmed hW', X.limits, X.bytes, X.same.trans (hsame.setVm s.vm)⟩,
      ⟨g, mk, s₂, L, E, ce, rfl, rfl, hx, hce, hcv, hcl, rfl, hL, rfl, rfl⟩, ?_⟩
    show Steps p.tables e below _ (((({ U with heap := s₂.heap, slotsUsed := s₂.slotsUsed } : State).setVm s₂.vm).setTop g).pushFrame (.throwing q))
    rw [← hs₂]
    exact hsteps
end
variable {p : Program} {l : Launch} {e : Env} {R : Room} {s : State} {m : MethodId} {args : Array Value} {below : List Frame} {meth : Method} {c : Code} {T : State} {H : Heap} {locs : List Loc} {cells slots : Nat}
theorem vx_callVX (X : Stand p l e R s m args below meth c T locs cells slots) (hexec : p.tables.exec = Jvm.exec) {own C : String} {index : Nat} {y : MethodName} {bytes : ByteArray} {maxL : Nat} {ret : Option FieldType} {hh : List (Nat × Nat × Nat × Nat)}
    (hown : s.vm.findClass own = some m.cls) (hlink : (Cond.methodLink own index y).before args s = true) (hinst : (Cond.instanceMethod y).before args s = true) (hsel : (Cond.selects C y y).before args s = true)
    (hcode : (Cond.codeWith y bytes maxL ret hh).before args s = true) (hy : y.cls ≠ "java/lang/invoke/MethodHandle" ∧ y.cls ≠ "java/lang/invoke/VarHandle")
    {W9 : Nat} {Pre : Pt → Array Value → Prop} {Post : Pt → Array Value → Option Value → Pt → Prop} {PostX : Pt → Array Value → Addr → Pt → Prop} (hK : vx_Back l R p e below s args y 3 W9 Pre Post PostX)
    {b : Addr} {cellB : Cell} (hcell : T.heap[b]? = some cellB) (hobj : cellB.vm.isStatics = false) (hcls : s.vm.findClass C = some cellB.cls)
    {g : JFrame} (hg : g.method = m) (hsize : g.locals.size = c.maxLocals) {argsL rest : List Value} (hlen : ∀ sig, parseMethodDescriptor y.desc = some sig → argsL.length = sig.parameters.length)
    (hstack : g.stack = argsL.reverse ++ .ref b :: rest) (hW : 2 * g.monitorRoom + (rest.map fun v => v.category).sum ≤ W9) (hdg : decode c.code g.pc = .ok (.invokevirtual index, 3))
    (hpre : ∀ vm₁, s.WarmedH vm₁ → Pre ⟨T.setVm vm₁, locs, cells, slots⟩ (Value.ref b :: argsL).toArray) :
    (∃ (v : Option Value) (vm₁ : Vm) (B : Pt), s.WarmedH vm₁ ∧ Stand p l e R s m args below meth c B.U B.locs B.cells B.slots ∧ Post ⟨T.setVm vm₁, locs, cells, slots⟩ (Value.ref b :: argsL).toArray v B ∧
      ∀ target, Steps p.tables e below (B.U.setTop { g with pc := g.pc + 3, stack := v.toList ++ rest }) target → Steps p.tables e below (T.setTop g) target) ∨
    (∃ (q : Addr) (vm₁ : Vm) (B : Pt), s.WarmedH vm₁ ∧ Stand p l e R s m args below meth c B.U B.locs B.cells B.slots ∧ PostX ⟨T.setVm vm₁, locs, cells, slots⟩ (Value.ref b :: argsL).toArray q B ∧
      Steps p.tables e below (T.setTop g) ((B.U.setTop { g with stack := rest }).pushFrame (.throwing q))) := by
  obtain ⟨mk, methM, hnamed, hmethM, hstM, habM⟩ := Cond.instanceMethod_spec hinst
  obtain ⟨m8, methM', cM, hn8, hmethM', -, -, -, -, -, -, hsigM⟩ := Cond.codeWith_spec hcode
  cases Option.some.inj (hn8.symm.trans hnamed)
  cases hmethM.symm.trans hmethM'
  obtain ⟨c2, r2, m2, q1, q2, q3, q4, kP, hkP, hkPi⟩ := Cond.selects_spec hsel
  cases hcls.symm.trans q1
  cases (State.methodFound?_of_named hnamed hy).symm.trans q2
  cases hnamed.symm.trans q3
  have hselP : selectMethod e.platform s.vm cellB.cls mk = .method mk := by rw [Launch.admits_selectMethod X.admits]; exact q4
  obtain ⟨vm₁, X₁, hstep₁⟩ := X.invokevirtual hexec hown hlink hnamed hmethM hstM hkP hkPi hy (a := b) (cell := cellB) hcell
    (fun z h => by rw [h] at hobj; cases hobj) hselP hmethM habM hkP hkPi (g := g) hg (argsL := argsL) (rest := rest) (hlen _ hsigM) hstack hdg
  rcases hK m meth c ⟨T.setVm vm₁, locs, cells, slots⟩ { g with stack := rest } (.invokevirtual index) mk (Value.ref b :: argsL).toArray X₁ hg hsize hdg hW (X₁.named hnamed) (hpre vm₁ X₁.warmed) with ⟨v, B, X', hpost, hsteps⟩ | ⟨q, B, X', hpost, hsteps⟩
  · exact Or.inl ⟨v, vm₁, B, X₁.warmed, X', hpost, fun target h => hstep₁ _ fun acts => by rw [doInvoke_state]; exact hsteps.trans h⟩
  · exact Or.inr ⟨q, vm₁, B, X₁.warmed, X', hpost, hstep₁ _ fun acts => by rw [doInvoke_state]; exact hsteps⟩
theorem vx_callSX (X : Stand p l e R s m args below meth c T locs cells slots) (hexec : p.tables.exec = Jvm.exec) {own : String} {index : Nat} {y : MethodName} {bytes : ByteArray} {maxL : Nat} {ret : Option FieldType} {hh : List (Nat × Nat × Nat × Nat)}
    (hown : s.vm.findClass own = some m.cls) (hlink : (Cond.methodLink own index y).before args s = true) (hstat : (Cond.static y).before args s = true) (hinit : (Cond.initialized y.cls).before args s = true)
    (hcode : (Cond.codeWith y bytes maxL ret hh).before args s = true) (hy : y.cls ≠ "java/lang/invoke/MethodHandle" ∧ y.cls ≠ "java/lang/invoke/VarHandle")
    {W9 : Nat} {Pre : Pt → Array Value → Prop} {Post : Pt → Array Value → Option Value → Pt → Prop} {PostX : Pt → Array Value → Addr → Pt → Prop} (hK : vx_Back l R p e below s args y 3 W9 Pre Post PostX)
    {g : JFrame} (hg : g.method = m) (hsize : g.locals.size = c.maxLocals) {argsL rest : List Value} (hlen : ∀ sig, parseMethodDescriptor y.desc = some sig → argsL.length = sig.parameters.length)
    (hstack : g.stack = argsL.reverse ++ rest) (hW : 2 * g.monitorRoom + (rest.map fun v => v.category).sum ≤ W9) (hdg : decode c.code g.pc = .ok (.invokestatic index, 3))
    (hpre : ∀ vm₁, s.WarmedH vm₁ → Pre ⟨T.setVm vm₁, locs, cells, slots⟩ argsL.toArray) :
    (∃ (v : Option Value) (vm₁ : Vm) (B : Pt), s.WarmedH vm₁ ∧ Stand p l e R s m args below meth c B.U B.locs B.cells B.slots ∧ Post ⟨T.setVm vm₁, locs, cells, slots⟩ argsL.toArray v B ∧
      ∀ target, Steps p.tables e below (B.U.setTop { g with pc := g.pc + 3, stack := v.toList ++ rest }) target → Steps p.tables e below (T.setTop g) target) ∨
    (∃ (q : Addr) (vm₁ : Vm) (B : Pt), s.WarmedH vm₁ ∧ Stand p l e R s m args below meth c B.U B.locs B.cells B.slots ∧ PostX ⟨T.setVm vm₁, locs, cells, slots⟩ argsL.toArray q B ∧
      Steps p.tables e below (T.setTop g) ((B.U.setTop { g with stack := rest }).pushFrame (.throwing q))) := by
  obtain ⟨mk, methM, cM, hnamed, hmethM, -, -, -, -, -, -, hsigM⟩ := Cond.codeWith_spec hcode
  have hstatic : methM.isStatic = true := Cond.static_spec hnamed hmethM hstat
  obtain ⟨kP, hkP, -⟩ := className_of_methodNamed hnamed
  have hinitP : kP.init = .initialized := Cond.initialized_spec (findClass_of_methodNamed hnamed) hkP hinit
  obtain ⟨vm₁, X₁, hstep₁⟩ := X.invokestatic hexec hown hlink hnamed hmethM hstatic hkP hinitP hy (g := g) hg (argsL := argsL) (rest := rest) (hlen _ hsigM) hstack hdg
  rcases hK m meth c ⟨T.setVm vm₁, locs, cells, slots⟩ { g with stack := rest } (.invokestatic index) mk argsL.toArray X₁ hg hsize hdg hW (X₁.named hnamed) (hpre vm₁ X₁.warmed) with ⟨v, B, X', hpost, hsteps⟩ | ⟨q, B, X', hpost, hsteps⟩
  · exact Or.inl ⟨v, vm₁, B, X₁.warmed, X', hpost, fun target h => hstep₁ _ fun acts => by rw [doInvoke_state]; exact hsteps.trans h⟩
  · exact Or.inr ⟨q, vm₁, B, X₁.warmed, X', hpost, hstep₁ _ fun acts => by rw [doInvoke_state]; exact hsteps⟩
theorem vx_callVW (X : Stand p l e R s m args below meth c T locs cells slots) (hexec : p.tables.exec = Jvm.exec) {own C : String} {index : Nat} {y : MethodName} {bytes : ByteArray} {maxL : Nat} {ret : Option FieldType} {hh : List (Nat × Nat × Nat × Nat)}
    (hown : s.vm.findClass own = some m.cls) (hlink : (Cond.methodLink own index y).before args s = true) (hinst : (Cond.instanceMethod y).before args s = true) (hsel : (Cond.selects C y y).before args s = true)
    (hcode : (Cond.codeWith y bytes maxL ret hh).before args s = true) (hy : y.cls ≠ "java/lang/invoke/MethodHandle" ∧ y.cls ≠ "java/lang/invoke/VarHandle")
    {W9 : Nat} {Pre : Pt → Array Value → Prop} {Post : Pt → Array Value → Option Value → Pt → Prop} (hK : Back l R p e below s args y 3 W9 Pre Post)
    {b : Addr} {cellB : Cell} (hcell : T.heap[b]? = some cellB) (hobj : cellB.vm.isStatics = false) (hcls : s.vm.findClass C = some cellB.cls)
    {g : JFrame} (hg : g.method = m) (hsize : g.locals.size = c.maxLocals) {argsL rest : List Value} (hlen : ∀ sig, parseMethodDescriptor y.desc = some sig → argsL.length = sig.parameters.length)
    (hstack : g.stack = argsL.reverse ++ .ref b :: rest) (hW : 2 * g.monitorRoom + (rest.map fun v => v.category).sum ≤ W9) (hdg : decode c.code g.pc = .ok (.invokevirtual index, 3))
    (hpre : ∀ vm₁, s.WarmedH vm₁ → Pre ⟨T.setVm vm₁, locs, cells, slots⟩ (Value.ref b :: argsL).toArray) :
    ∃ (v : Option Value) (vm₁ : Vm) (B : Pt), s.WarmedH vm₁ ∧ Stand p l e R s m args below meth c B.U B.locs B.cells B.slots ∧ Post ⟨T.setVm vm₁, locs, cells, slots⟩ (Value.ref b :: argsL).toArray v B ∧
      ∀ target, Steps p.tables e below (B.U.setTop { g with pc := g.pc + 3, stack := v.toList ++ rest }) target → Steps p.tables e below (T.setTop g) target := by
  obtain ⟨mk, methM, hnamed, hmethM, hstM, habM⟩ := Cond.instanceMethod_spec hinst
  obtain ⟨m8, methM', cM, hn8, hmethM', -, -, -, -, -, -, hsigM⟩ := Cond.codeWith_spec hcode
  cases Option.some.inj (hn8.symm.trans hnamed)
  cases hmethM.symm.trans hmethM'
  obtain ⟨c2, r2, m2, q1, q2, q3, q4, kP, hkP, hkPi⟩ := Cond.selects_spec hsel
  cases hcls.symm.trans q1
  cases (State.methodFound?_of_named hnamed hy).symm.trans q2
  cases hnamed.symm.trans q3
  have hselP : selectMethod e.platform s.vm cellB.cls mk = .method mk := by rw [Launch.admits_selectMethod X.admits]; exact q4
  obtain ⟨vm₁, X₁, hstep₁⟩ := X.invokevirtual hexec hown hlink hnamed hmethM hstM hkP hkPi hy (a := b) (cell := cellB) hcell
    (fun z h => by rw [h] at hobj; cases hobj) hselP hmethM habM hkP hkPi (g := g) hg (argsL := argsL) (rest := rest) (hlen _ hsigM) hstack hdg
  obtain ⟨v, B, X', hpost, hsteps⟩ := hK m meth c ⟨T.setVm vm₁, locs, cells, slots⟩ { g with stack := rest } (.invokevirtual index) mk (Value.ref b :: argsL).toArray X₁ hg hsize hdg hW (X₁.named hnamed) (hpre vm₁ X₁.warmed)
  exact ⟨v, vm₁, B, X₁.warmed, X', hpost, fun target h => hstep₁ _ fun acts => by rw [doInvoke_state]; exact hsteps.trans h⟩
abbrev vx_CVW (R : Room) (s : State) (args : Array Value) (own C : String) (index : Nat) (y : MethodName) (bytes : ByteArray) (maxL : Nat) (ret : Option FieldType) (hh : List (Nat × Nat × Nat × Nat)) (ws : List Cond) (rm : Room) (mc ms n : Nat) : Prop :=
  (rm.cells = mc ∧ rm.slots = ms ∧ rm.frames + 1 ≤ R.frames ∧ 8 + (maxL + 11) + rm.locals ≤ R.locals ∧ (∀ w ∈ ws, ∀ (a' : Array Value) (U : State), s.WarmedH U.vm → w.before a' U = true) ∧ Cond.codeWith y bytes maxL ret hh ∈ ws) ∧
  (Cond.codeWith y bytes maxL ret hh).before args s = true ∧ (Cond.initialized y.cls).before args s = true ∧ (y.cls ≠ "java/lang/invoke/MethodHandle" ∧ y.cls ≠ "java/lang/invoke/VarHandle") ∧
  (∀ sig, parseMethodDescriptor y.desc = some sig → n = sig.parameters.length) ∧ (Cond.methodLink own index y).before args s = true ∧ (Cond.instanceMethod y).before args s = true ∧ (Cond.selects C y y).before args s = true
theorem vx_cwVW {own C : String} {index maxL mc ms : Nat} {y : MethodName} {bytes : ByteArray} {ret : Option FieldType} {hh : List (Nat × Nat × Nat × Nat)} {Ts ws ws' : List Cond} {rm : Room} (n : Nat) (ht : ∀ w ∈ Ts, w.before args s = true) (hT : GoodIn Ts (wsV own index C y ws)) (hw : ws = Cond.codeWith y bytes maxL ret hh :: ws') (hrc : rm.cells = mc) (hrs : rm.slots = ms)
    (hd : y.cls = C ∧ y.cls ≠ "java/lang/invoke/MethodHandle" ∧ y.cls ≠ "java/lang/invoke/VarHandle" ∧ (parseMethodDescriptor y.desc).map (fun d => d.parameters.length) = some n) (hR : rm.frames + 1 ≤ R.frames ∧ 8 + (maxL + 11) + rm.locals ≤ R.locals) :
    vx_CVW R s args own C index y bytes maxL ret hh ws rm mc ms n := by
  obtain ⟨hC, hd⟩ := hd
  subst hC
  have ok : ∀ w ∈ wsV own index y.cls y ws, w.before args s = true := fun w h => ht w (hT w h).1
  have hG : GoodIn Ts ws := fun w h => hT w (by unfold wsV; exact List.mem_append_right _ h)
  have hc : Cond.codeWith y bytes maxL ret hh ∈ ws := by rw [hw]; exact List.mem_cons_self
  refine ⟨⟨hrc, hrs, hR.1, hR.2, pay_in ht hG, hc⟩, ht _ (hG _ hc).1, ok _ (by simp [wsV]), ⟨hd.1, hd.2.1⟩, fun sig h => ?_, ok _ (by simp [wsV]), ok _ (by simp [wsV]), ok _ (by simp [wsV])⟩
  have h2 := hd.2.2
  rw [h] at h2
  exact (Option.some.inj h2).symm
theorem vx_runVW {y : MethodName} {bytes cc : ByteArray} {maxL nL mc ms n index : Nat} {ret : Option FieldType} {hh : List (Nat × Nat × Nat × Nat)} {ws : List Cond} {rm : Room} {Pc : Array Value → State → Prop} {Qc : Array Value → State → Outcome → State → Prop} {free : Addr → Prop} {Ts : List Cond} {own C : String} {b : Addr} {As rest : List Value} {g : JFrame}
    (S : CallFix p m c cc nL s args Ts own) (hM : Met l y ws rm Pc Qc mc ms free) (cw : vx_CVW R s args own C index y bytes maxL ret hh ws rm mc ms n) (hp : PreV s H C b Pc As)
    (hg : g.method = m) (hn : As.length = n) (hsize : g.locals.size = nL) (hstack : g.stack = As.reverse ++ .ref b :: rest) (hW : 2 * g.monitorRoom + (rest.map fun v => v.category).sum ≤ 8) (hdg : decode cc g.pc = .ok (.invokevirtual index, 3)) (hf : cells + mc ≤ R.cells ∧ slots + ms ≤ R.slots) :
    va_Run p l e R s m args below meth c H locs cells slots mc ms g rest (Qc (Value.ref b :: As).toArray) free := by
  obtain ⟨⟨hrc, hrs, hfr, hlo, hws, hcw⟩, hcode, hini, hy, hlen, hl, hin, hse⟩ := cw
  have hK : Back l R p e below s args y 3 8 (PreOf R mc ms Pc) (PostOf Qc mc ms free) := va_backW (hh := hh) (bytes := bytes) (maxL := maxL) (ret := ret) hM hp.1 hrc hrs hfr hlo hws hcw (fun a' U hW => word_at hW (Or.inl (by first | rfl | simp [Cond.onTables, Cond.keeps, Cond.steady])) hini)
  obtain ⟨hx, hb, hml, ho, -⟩ := S
  obtain ⟨-, ⟨cellB, hcB, hoB, hclB⟩, hPc⟩ := hp
  intro T hT X
  obtain ⟨v, vm₁, ⟨U', l2, c2, s2⟩, hW₁, X', ⟨g', mk, t, L, e1, e2, hq, h1, hL, h2, h3⟩, st⟩ := vx_callVW X hx (C := C) (hh := hh) (bytes := bytes) (maxL := maxL) (ret := ret) ho hl hin hse hcode hy hK (by rw [hT]; exact hcB) hoB hclB hg (hsize.trans hml.symm) (argsL := As) (rest := rest) (fun sig h => hn.trans (hlen sig h)) hstack hW (by rw [hb]; exact hdg)
    (fun vm₁ hW₁ => ⟨hf.1, hf.2, hPc (T.setVm vm₁) hT hW₁⟩)
  dsimp only [Pt.U, Pt.locs, Pt.cells, Pt.slots] at X' e1 e2 h1 h2 h3 st
  subst h1; subst h2; subst h3
  exact ⟨v, (T.setVm vm₁).calling g' mk (Value.ref b :: As).toArray, t, U', L, hT, X', hL, e1, e2, hq, st⟩
section
variable {y : MethodName} {bytes cc : ByteArray} {maxL nL mc ms n index : Nat} {ret : Option FieldType} {ws : List Cond} {rm : Room} {Pc : Array Value → State → Prop} {Qc : Array Value → State → Outcome → State → Prop} {XC : String → State → State → Prop} {free : Addr → Prop} {Ts : List Cond} {own C : String} {b : Addr} {As rest : List Value} {g : JFrame}
theorem vx_runVX {hh : List (Nat × Nat × Nat × Nat)} (S : CallFix p m c cc nL s args Ts own) (hM : vx_Met l y ws rm Pc Qc XC mc ms free) (cw : vx_CVW R s args own C index y bytes maxL ret hh ws rm mc ms n) (hp : PreV s H C b Pc As)
    (hg : g.method = m) (hn : As.length = n) (hsize : g.locals.size = nL) (hstack : g.stack = As.reverse ++ .ref b :: rest) (hW : 2 * g.monitorRoom + (rest.map fun v => v.category).sum ≤ 8) (hdg : decode cc g.pc = .ok (.invokevirtual index, 3)) (hf : cells + mc ≤ R.cells ∧ slots + ms ≤ R.slots) :
    vx_Run p l e R s m args below meth c H locs cells slots mc ms g rest (Qc (Value.ref b :: As).toArray) XC free := by
  obtain ⟨⟨hrc, hrs, hfr, hlo, hws, hcw⟩, hcode, hini, hy, hlen, hl, hin, hse⟩ := cw
  have hK : vx_Back l R p e below s args y 3 8 (PreOf R mc ms Pc) (PostOf Qc mc ms free) (vx_Post XC mc ms free) := vx_backW (hh := hh) (bytes := bytes) (maxL := maxL) (ret := ret) hM hp.1 hrc hrs hfr hlo hws hcw (fun a' U hW => word_at hW (Or.inl (by first | rfl | simp [Cond.onTables, Cond.keeps, Cond.steady])) hini)
  obtain ⟨hx, hb, hml, ho, -⟩ := S
  obtain ⟨-, ⟨cellB, hcB, hoB, hclB⟩, hPc⟩ := hp
  intro T hT X
  rcases vx_callVX X hx (C := C) (hh := hh) (bytes := bytes) (maxL := maxL) (ret := ret) ho hl hin hse hcode hy hK (by rw [hT]; exact hcB) hoB hclB hg (hsize.trans hml.symm) (argsL := As) (rest := rest) (fun sig h => hn.trans (hlen sig h)) hstack hW (by rw [hb]; exact hdg)
    (fun vm₁ hW₁ => ⟨hf.1, hf.2, hPc (T.setVm vm₁) hT hW₁⟩) with ⟨v, vm₁, ⟨U', l2, c2, s2⟩, hW₁, X', ⟨g', mk, t, L, e1, e2, hq, h1, hL, h2, h3⟩, st⟩ | ⟨q, vm₁, ⟨U', l2, c2, s2⟩, hW₁, X', ⟨g', mk, t, L, E, ce, e1, e2, hq, hce, hcv, hcl, h1, hL, h2, h3⟩, st⟩
  · dsimp only [Pt.U, Pt.locs, Pt.cells, Pt.slots] at X' e1 e2 h1 h2 h3 st
    subst h1; subst h2; subst h3
    exact Or.inl ⟨v, (T.setVm vm₁).calling g' mk (Value.ref b :: As).toArray, t, U', L, hT, X', hL, e1, e2, hq, st⟩
  · dsimp only [Pt.U, Pt.locs, Pt.cells, Pt.slots] at X' e1 e2 h1 h2 h3 st hcl
    subst h1; subst h2; subst h3
    exact Or.inr ⟨q, (T.setVm vm₁).calling g' mk (Value.ref b :: As).toArray, t, U', L, E, ce, hT, X', hL, e1, e2, hq, hce, hcv, vx_cls hW₁ hcl, st⟩
theorem vx_runSX {hh : List (Nat × Nat × Nat × Nat)} (S : CallFix p m c cc nL s args Ts own) (hM : vx_Met l y ws rm Pc Qc XC mc ms free) (cw : vx_CSW R s args own index y bytes maxL ret hh ws rm mc ms n) (hp : PreS s H Pc As)
    (hg : g.method = m) (hn : As.length = n) (hsize : g.locals.size = nL) (hstack : g.stack = As.reverse ++ rest) (hW : 2 * g.monitorRoom + (rest.map fun v => v.category).sum ≤ 8) (hdg : decode cc g.pc = .ok (.invokestatic index, 3)) (hf : cells + mc ≤ R.cells ∧ slots + ms ≤ R.slots) :
    vx_Run p l e R s m args below meth c H locs cells slots mc ms g rest (Qc As.toArray) XC free := by
  obtain ⟨⟨hrc, hrs, hfr, hlo, hws, hcw⟩, hcode, hini, hy, hlen, hl, hstt⟩ := cw
  have hK : vx_Back l R p e below s args y 3 8 (PreOf R mc ms Pc) (PostOf Qc mc ms free) (vx_Post XC mc ms free) := vx_backW (hh := hh) (bytes := bytes) (maxL := maxL) (ret := ret) hM hp.1 hrc hrs hfr hlo hws hcw (fun a' U hW => word_at hW (Or.inl (by first | rfl | simp [Cond.onTables, Cond.keeps, Cond.steady])) hini)
  obtain ⟨hx, hb, hml, ho, -⟩ := S
  intro T hT X
  rcases vx_callSX X hx (hh := hh) (bytes := bytes) (maxL := maxL) (ret := ret) ho hl hstt hini hcode hy hK hg (hsize.trans hml.symm) (argsL := As) (rest := rest) (fun sig h => hn.trans (hlen sig h)) hstack hW (by rw [hb]; exact hdg)
    (fun vm₁ hW₁ => ⟨hf.1, hf.2, hp.2 (T.setVm vm₁) hT hW₁⟩) with ⟨v, vm₁, ⟨U', l2, c2, s2⟩, hW₁, X', ⟨g', mk, t, L, e1, e2, hq, h1, hL, h2, h3⟩, st⟩ | ⟨q, vm₁, ⟨U', l2, c2, s2⟩, hW₁, X', ⟨g', mk, t, L, E, ce, e1, e2, hq, hce, hcv, hcl, h1, hL, h2, h3⟩, st⟩
  · dsimp only [Pt.U, Pt.locs, Pt.cells, Pt.slots] at X' e1 e2 h1 h2 h3 st
    subst h1; subst h2; subst h3
    exact Or.inl ⟨v, (T.setVm vm₁).calling g' mk As.toArray, t, U', L, hT, X', hL, e1, e2, hq, st⟩
  · dsimp only [Pt.U, Pt.locs, Pt.cells, Pt.slots] at X' e1 e2 h1 h2 h3 st hcl
    subst h1; subst h2; subst h3
    exact Or.inr ⟨q, (T.setVm vm₁).calling g' mk As.toArray, t, U', L, E, ce, hT, X', hL, e1, e2, hq, hce, hcv, vx_cls hW₁ hcl, st⟩
end
end VXH
theorem vx_ofWH {l : Launch} {y : MethodName} {ws ws' : List Cond} {rm : Room} {Pc : Array Value → State → Prop} {Qc : Array Value → State → Outcome → State → Prop} {XC : String → State → State → Prop} {mc ms : Nat} {free : Addr → Prop} {cc : ByteArray} {maxL : Nat} {ret : Option FieldType} {hh : List (Nat × Nat × Nat × Nat)}
    (hy : plainName y.cls = true) (hw : ws = Cond.codeWith y cc maxL ret hh :: ws')
    (body : ∀ p e s m args below meth c s₁, BodyLoose p l y (headSpec ws rm) cc maxL ret e s m args below meth c s₁ → c.maxLocals = maxL → Pc args s →
      W p l e (headSpec ws rm).room s m args below meth c s.heap [] 0 0 (vx_MQ below Qc XC args s mc ms free) (entryFrame m args maxL)) : vx_Met l y ws rm Pc Qc XC mc ms free := by
  refine MetFree.of_bodyS (code := cc) (maxLocals := maxL) (ret := ret) hy ?_ ?_
  · intro args s m h hn
    obtain ⟨m9, meth, c, hn9, h1, h2, h3, h4, -, h5, h6, -⟩ := Cond.codeWith_spec (atoms_spec (ws := ws) h _ (by rw [hw]; exact List.mem_cons_self))
    cases hn.symm.trans hn9
    exact ⟨meth, c, h1, h2, h3, h4, h5, h6⟩
  · intro p e s m args below meth c s₁ B hml hP _
    have hh0 : s₁.heap = s.heap := by rw [B.state]; rfl
    obtain ⟨t, a1, o, b1, b2, b3⟩ := body p e s m args below meth c s₁ B hml hP s₁ hh0 (Stand.of_body B)
    exact ⟨t, o, a1, b1, b2, b3⟩
/-! ===== END ===== -/
end
section
def RX0 : String := "RengaHall$Means"
def TX0 : u_T := fun k => match k with
  | 0 => ("RengaHall$Means", "sums", "[I", true)
  | _ => ("RengaHall$Means", "counts", "[I", true)
def tyX0 : Nat → FieldType := fun k => match k with
  | 0 => .array .int
  | _ => .array .int
theorem nmX0 : ∀ a, a < 2 → ∀ b, b < 2 → a ≠ b → (TX0 a).2.1 ≠ (TX0 b).2.1 := by decide +kernel
theorem tyX0_ok : ∀ k, k < 2 → parseFieldDescriptor (TX0 k).2.2.1 = some (tyX0 k) := by decide +kernel
abbrev cX0_init : ByteArray := prog_2_method_1_code
def yX0_init : MethodName := ⟨RX0, "<init>", "()V"⟩
abbrev cX0_reset : ByteArray := prog_2_method_2_code
def yX0_reset : MethodName := ⟨RX0, "reset", "()V"⟩
abbrev cX0_enter : ByteArray := prog_2_method_3_code
def yX0_enter : MethodName := ⟨RX0, "enter", "(II)V"⟩
abbrev cX0_greatest : ByteArray := prog_2_method_4_code
def yX0_greatest : MethodName := ⟨RX0, "greatest", "()I"⟩
abbrev cX0_isGreater : ByteArray := prog_2_method_5_code
def yX0_isGreater : MethodName := ⟨RX0, "isGreater", "(II)Z"⟩
def RX1 : String := "RengaHall$Poem"
def TX1 : u_T := fun k => match k with
  | 0 => ("RengaHall$Poem", "length", "I", false)
  | 1 => ("RengaHall$Poem", "span", "I", false)
  | 2 => ("RengaHall$Poem", "evenSounds", "I", false)
  | 3 => ("RengaHall$Poem", "oddSounds", "I", false)
  | 4 => ("RengaHall$Poem", "made", "I", false)
  | 5 => ("RengaHall$Poem", "seats", "[I", true)
  | 6 => ("RengaHall$Poem", "verses", "[LRengaHall$Verse;", true)
  | 7 => ("RengaHall$Poem", "makers", "[I", true)
  | 8 => ("RengaHall$Poem", "hidden", "[Z", true)
  | 9 => ("RengaHall$Poem", "mended", "[Z", true)
  | _ => ("RengaHall$Poem", "points", "[[I", true)
def tyX1 : Nat → FieldType := fun k => match k with
  | 0 => .int
  | 1 => .int
  | 2 => .int
  | 3 => .int
  | 4 => .int
  | 5 => .array .int
  | 6 => .array (.object "RengaHall$Verse")
  | 7 => .array .int
  | 8 => .array .boolean
  | 9 => .array .boolean
  | _ => .array (.array .int)
theorem nmX1 : ∀ a, a < 11 → ∀ b, b < 11 → a ≠ b → (TX1 a).2.1 ≠ (TX1 b).2.1 := by decide +kernel
theorem tyX1_ok : ∀ k, k < 11 → parseFieldDescriptor (TX1 k).2.2.1 = some (tyX1 k) := by decide +kernel
abbrev cX1_init : ByteArray := prog_3_method_1_code
def yX1_init : MethodName := ⟨RX1, "<init>", "()V"⟩
abbrev cX1_isBegun : ByteArray := prog_3_method_2_code
def yX1_isBegun : MethodName := ⟨RX1, "isBegun", "()Z"⟩
abbrev cX1_isOpen : ByteArray := prog_3_method_3_code
def yX1_isOpen : MethodName := ⟨RX1, "isOpen", "()Z"⟩
abbrev cX1_has : ByteArray := prog_3_method_4_code
def yX1_has : MethodName := ⟨RX1, "has", "(I)Z"⟩
abbrev cX1_restart : ByteArray := prog_3_method_5_code
def yX1_restart : MethodName := ⟨RX1, "restart", "(IIII)V"⟩
abbrev cX1_extend : ByteArray := prog_3_method_6_code
def yX1_extend : MethodName := ⟨RX1, "extend", "(LRengaHall$Verse;ILRengaHall$Stock;)V"⟩
abbrev cX1_mendLatest : ByteArray := prog_3_method_7_code
def yX1_mendLatest : MethodName := ⟨RX1, "mendLatest", "(LRengaHall$Verse;LRengaHall$Stock;)V"⟩
abbrev cX1_setSeat : ByteArray := prog_3_method_8_code
def yX1_setSeat : MethodName := ⟨RX1, "setSeat", "(II)V"⟩
abbrev cX1_seatAt : ByteArray := prog_3_method_9_code
def yX1_seatAt : MethodName := ⟨RX1, "seatAt", "(I)I"⟩
abbrev cX1_soundsAt : ByteArray := prog_3_method_10_code
def yX1_soundsAt : MethodName := ⟨RX1, "soundsAt", "(I)I"⟩
abbrev cX1_makerAt : ByteArray := prog_3_method_11_code
def yX1_makerAt : MethodName := ⟨RX1, "makerAt", "(I)I"⟩
abbrev cX1_seasonAt : ByteArray := prog_3_method_12_code
def yX1_seasonAt : MethodName := ⟨RX1, "seasonAt", "(I)I"⟩
abbrev cX1_signsAt : ByteArray := prog_3_method_13_code
def yX1_signsAt : MethodName := ⟨RX1, "signsAt", "(I)I"⟩
abbrev cX1_wordSetAt : ByteArray := prog_3_method_14_code
def yX1_wordSetAt : MethodName := ⟨RX1, "wordSetAt", "(I)J"⟩
abbrev cX1_wordOrNone : ByteArray := prog_3_method_15_code
def yX1_wordOrNone : MethodName := ⟨RX1, "wordOrNone", "(II)I"⟩
abbrev cX1_pointsOf : ByteArray := prog_3_method_16_code
def yX1_pointsOf : MethodName := ⟨RX1, "pointsOf", "(II)I"⟩
abbrev cX1_runAt : ByteArray := prog_3_method_17_code
def yX1_runAt : MethodName := ⟨RX1, "runAt", "(I)I"⟩
def RX2 : String := "RengaHall$Scribe"
def TX2 : u_T := fun k => match k with
  | 0 => ("RengaHall$Scribe", "stock", "LRengaHall$Stock;", true)
  | _ => ("RengaHall$Scribe", "poem", "LRengaHall$Poem;", true)
def tyX2 : Nat → FieldType := fun k => match k with
  | 0 => .object "RengaHall$Stock"
  | _ => .object "RengaHall$Poem"
theorem nmX2 : ∀ a, a < 2 → ∀ b, b < 2 → a ≠ b → (TX2 a).2.1 ≠ (TX2 b).2.1 := by decide +kernel
theorem tyX2_ok : ∀ k, k < 2 → parseFieldDescriptor (TX2 k).2.2.1 = some (tyX2 k) := by decide +kernel
abbrev cX2_init : ByteArray := prog_4_method_1_code
def yX2_init : MethodName := ⟨RX2, "<init>", "(LRengaHall$Stock;LRengaHall$Poem;)V"⟩
abbrev cX2_firstFault : ByteArray := prog_4_method_2_code
def yX2_firstFault : MethodName := ⟨RX2, "firstFault", "(LRengaHall$Verse;II)I"⟩
abbrev cX2_causeOf : ByteArray := prog_4_method_3_code
def yX2_causeOf : MethodName := ⟨RX2, "causeOf", "(ILRengaHall$Verse;II)I"⟩
abbrev cX2_unlikeSeasonPlace : ByteArray := prog_4_method_4_code
def yX2_unlikeSeasonPlace : MethodName := ⟨RX2, "unlikeSeasonPlace", "(LRengaHall$Verse;)I"⟩
abbrev cX2_wordAgainPlace : ByteArray := prog_4_method_5_code
def yX2_wordAgainPlace : MethodName := ⟨RX2, "wordAgainPlace", "(LRengaHall$Verse;I)I"⟩
abbrev cX2_joins : ByteArray := prog_4_method_6_code
def yX2_joins : MethodName := ⟨RX2, "joins", "(LRengaHall$Verse;I)Z"⟩
abbrev cX2_lowestSubject : ByteArray := prog_4_method_7_code
def yX2_lowestSubject : MethodName := ⟨RX2, "lowestSubject", "(I)I"⟩
abbrev cX2_wrongSeason : ByteArray := prog_4_method_8_code
def yX2_wrongSeason : MethodName := ⟨RX2, "wrongSeason", "(II)I"⟩
abbrev cX2_isLately : ByteArray := prog_4_method_9_code
def yX2_isLately : MethodName := ⟨RX2, "isLately", "(II)Z"⟩
abbrev cX2_isLong : ByteArray := prog_4_method_10_code
def yX2_isLong : MethodName := ⟨RX2, "isLong", "(I)Z"⟩
abbrev cX2_leastRun : ByteArray := prog_4_method_11_code
def yX2_leastRun : MethodName := ⟨RX2, "leastRun", "(I)I"⟩
abbrev cX2_mostRun : ByteArray := prog_4_method_12_code
def yX2_mostRun : MethodName := ⟨RX2, "mostRun", "(I)I"⟩
abbrev cX2_wrongSeat : ByteArray := prog_4_method_13_code
def yX2_wrongSeat : MethodName := ⟨RX2, "wrongSeat", "(II)I"⟩
def RX3 : String := "RengaHall$Sheet"
def TX3 : u_T := fun k => match k with
  | _ => ("RengaHall$Sheet", "words", "[[I", true)
def tyX3 : Nat → FieldType := fun k => match k with
  | _ => .array (.array .int)
theorem nmX3 : ∀ a, a < 1 → ∀ b, b < 1 → a ≠ b → (TX3 a).2.1 ≠ (TX3 b).2.1 := by decide +kernel
theorem tyX3_ok : ∀ k, k < 1 → parseFieldDescriptor (TX3 k).2.2.1 = some (tyX3 k) := by decide +kernel
abbrev cX3_init : ByteArray := prog_5_method_1_code
def yX3_init : MethodName := ⟨RX3, "<init>", "()V"⟩
abbrev cX3_put : ByteArray := prog_5_method_2_code
def yX3_put : MethodName := ⟨RX3, "put", "(III)V"⟩
abbrev cX3_wordOrNone : ByteArray := prog_5_method_3_code
def yX3_wordOrNone : MethodName := ⟨RX3, "wordOrNone", "(II)I"⟩
abbrev cX3_isOnSheet : ByteArray := prog_5_method_4_code
def yX3_isOnSheet : MethodName := ⟨RX3, "isOnSheet", "(II)Z"⟩
def RX4 : String := "RengaHall$Stock"
def TX4 : u_T := fun k => match k with
  | 0 => ("RengaHall$Stock", "sounds", "[I", true)
  | 1 => ("RengaHall$Stock", "seasons", "[I", true)
  | 2 => ("RengaHall$Stock", "signs", "[I", true)
  | 3 => ("RengaHall$Stock", "called", "[J", true)
  | _ => ("RengaHall$Stock", "count", "I", false)
def tyX4 : Nat → FieldType := fun k => match k with
  | 0 => .array .int
  | 1 => .array .int
  | 2 => .array .int
  | 3 => .array .long
  | _ => .int
theorem nmX4 : ∀ a, a < 5 → ∀ b, b < 5 → a ≠ b → (TX4 a).2.1 ≠ (TX4 b).2.1 := by decide +kernel
theorem tyX4_ok : ∀ k, k < 5 → parseFieldDescriptor (TX4 k).2.2.1 = some (tyX4 k) := by decide +kernel
abbrev cX4_init : ByteArray := prog_6_method_1_code
def yX4_init : MethodName := ⟨RX4, "<init>", "()V"⟩
abbrev cX4_has : ByteArray := prog_6_method_2_code
def yX4_has : MethodName := ⟨RX4, "has", "(I)Z"⟩
abbrev cX4_isFull : ByteArray := prog_6_method_3_code
def yX4_isFull : MethodName := ⟨RX4, "isFull", "()Z"⟩
abbrev cX4_put : ByteArray := prog_6_method_4_code
def yX4_put : MethodName := ⟨RX4, "put", "(III)I"⟩
abbrev cX4_bind : ByteArray := prog_6_method_5_code
def yX4_bind : MethodName := ⟨RX4, "bind", "(II)Z"⟩
abbrev cX4_soundsOf : ByteArray := prog_6_method_6_code
def yX4_soundsOf : MethodName := ⟨RX4, "soundsOf", "(I)I"⟩
abbrev cX4_seasonOf : ByteArray := prog_6_method_7_code
def yX4_seasonOf : MethodName := ⟨RX4, "seasonOf", "(I)I"⟩
abbrev cX4_signsOf : ByteArray := prog_6_method_8_code
def yX4_signsOf : MethodName := ⟨RX4, "signsOf", "(I)I"⟩
abbrev cX4_calledBy : ByteArray := prog_6_method_9_code
def yX4_calledBy : MethodName := ⟨RX4, "calledBy", "(I)J"⟩
def RX5 : String := "RengaHall$Verse"
def TX5 : u_T := fun k => match k with
  | 0 => ("RengaHall$Verse", "words", "[I", true)
  | 1 => ("RengaHall$Verse", "size", "I", false)
  | 2 => ("RengaHall$Verse", "sounds", "I", false)
  | 3 => ("RengaHall$Verse", "season", "I", false)
  | 4 => ("RengaHall$Verse", "signs", "I", false)
  | _ => ("RengaHall$Verse", "wordSet", "J", false)
def tyX5 : Nat → FieldType := fun k => match k with
  | 0 => .array .int
  | 1 => .int
  | 2 => .int
  | 3 => .int
  | 4 => .int
  | _ => .long
theorem nmX5 : ∀ a, a < 6 → ∀ b, b < 6 → a ≠ b → (TX5 a).2.1 ≠ (TX5 b).2.1 := by decide +kernel
theorem tyX5_ok : ∀ k, k < 6 → parseFieldDescriptor (TX5 k).2.2.1 = some (tyX5 k) := by decide +kernel
abbrev cX5_init : ByteArray := prog_7_method_1_code
def yX5_init : MethodName := ⟨RX5, "<init>", "()V"⟩
abbrev cX5_empty : ByteArray := prog_7_method_2_code
def yX5_empty : MethodName := ⟨RX5, "empty", "()V"⟩
abbrev cX5_append : ByteArray := prog_7_method_3_code
def yX5_append : MethodName := ⟨RX5, "append", "(ILRengaHall$Stock;)V"⟩
abbrev cX5_take : ByteArray := prog_7_method_4_code
def yX5_take : MethodName := ⟨RX5, "take", "(LRengaHall$Verse;LRengaHall$Stock;)V"⟩
abbrev cX5_takeMended : ByteArray := prog_7_method_5_code
def yX5_takeMended : MethodName := ⟨RX5, "takeMended", "(LRengaHall$Verse;IILRengaHall$Stock;)V"⟩
abbrev cX5_wordOrNone : ByteArray := prog_7_method_6_code
def yX5_wordOrNone : MethodName := ⟨RX5, "wordOrNone", "(I)I"⟩
def RX6 : String := "RengaHall"
def TX6 : u_T := fun k => match k with
  | 0 => ("RengaHall", "stock", "LRengaHall$Stock;", true)
  | 1 => ("RengaHall", "poem", "LRengaHall$Poem;", true)
  | 2 => ("RengaHall", "scribe", "LRengaHall$Scribe;", true)
  | 3 => ("RengaHall", "draft", "LRengaHall$Verse;", true)
  | 4 => ("RengaHall", "offered", "[LRengaHall$Verse;", true)
  | 5 => ("RengaHall", "offerers", "[I", true)
  | 6 => ("RengaHall", "sheets", "[LRengaHall$Sheet;", true)
  | 7 => ("RengaHall", "trial", "LRengaHall$Verse;", true)
  | 8 => ("RengaHall", "means", "LRengaHall$Means;", true)
  | 9 => ("RengaHall", "poetCount", "I", false)
  | 10 => ("RengaHall", "offerCount", "I", false)
  | 11 => ("RengaHall", "copyCount", "I", false)
  | _ => ("RengaHall", "latestCause", "I", false)
def tyX6 : Nat → FieldType := fun k => match k with
  | 0 => .object "RengaHall$Stock"
  | 1 => .object "RengaHall$Poem"
  | 2 => .object "RengaHall$Scribe"
  | 3 => .object "RengaHall$Verse"
  | 4 => .array (.object "RengaHall$Verse")
  | 5 => .array .int
  | 6 => .array (.object "RengaHall$Sheet")
  | 7 => .object "RengaHall$Verse"
  | 8 => .object "RengaHall$Means"
  | 9 => .int
  | 10 => .int
  | 11 => .int
  | _ => .int
theorem nmX6 : ∀ a, a < 13 → ∀ b, b < 13 → a ≠ b → (TX6 a).2.1 ≠ (TX6 b).2.1 := by decide +kernel
theorem tyX6_ok : ∀ k, k < 13 → parseFieldDescriptor (TX6 k).2.2.1 = some (tyX6 k) := by decide +kernel
abbrev cX6_init : ByteArray := prog_1_method_1_code
def yX6_init : MethodName := ⟨RX6, "<init>", "()V"⟩
abbrev cX6_word : ByteArray := prog_1_method_2_code
def yX6_word : MethodName := ⟨RX6, "word", "(III)I"⟩
abbrev cX6_call : ByteArray := prog_1_method_3_code
def yX6_call : MethodName := ⟨RX6, "call", "(II)Z"⟩
abbrev cX6_poet : ByteArray := prog_1_method_4_code
def yX6_poet : MethodName := ⟨RX6, "poet", "()I"⟩
abbrev cX6_begin : ByteArray := prog_1_method_5_code
def yX6_begin : MethodName := ⟨RX6, "begin", "(IIII)V"⟩
abbrev cX6_seat : ByteArray := prog_1_method_6_code
def yX6_seat : MethodName := ⟨RX6, "seat", "(II)I"⟩
abbrev cX6_add : ByteArray := prog_1_method_7_code
def yX6_add : MethodName := ⟨RX6, "add", "(I)I"⟩
abbrev cX6_clear : ByteArray := prog_1_method_8_code
def yX6_clear : MethodName := ⟨RX6, "clear", "()I"⟩
abbrev cX6_offer : ByteArray := prog_1_method_9_code
def yX6_offer : MethodName := ⟨RX6, "offer", "(I)I"⟩
abbrev cX6_why : ByteArray := prog_1_method_10_code
def yX6_why : MethodName := ⟨RX6, "why", "()I"⟩
abbrev cX6_choose : ByteArray := prog_1_method_11_code
def yX6_choose : MethodName := ⟨RX6, "choose", "(I)I"⟩
abbrev cX6_mend : ByteArray := prog_1_method_12_code
def yX6_mend : MethodName := ⟨RX6, "mend", "(II)I"⟩
abbrev cX6_give : ByteArray := prog_1_method_13_code
def yX6_give : MethodName := ⟨RX6, "give", "(III)I"⟩
abbrev cX6_copy : ByteArray := prog_1_method_14_code
def yX6_copy : MethodName := ⟨RX6, "copy", "(I)I"⟩
abbrev cX6_write : ByteArray := prog_1_method_15_code
def yX6_write : MethodName := ⟨RX6, "write", "(IIII)I"⟩
abbrev cX6_hide : ByteArray := prog_1_method_16_code
def yX6_hide : MethodName := ⟨RX6, "hide", "(IZ)Z"⟩
abbrev cX6_links : ByteArray := prog_1_method_17_code
def yX6_links : MethodName := ⟨RX6, "links", "()I"⟩
abbrev cX6_offers : ByteArray := prog_1_method_18_code
def yX6_offers : MethodName := ⟨RX6, "offers", "()I"⟩
abbrev cX6_ofLink : ByteArray := prog_1_method_19_code
def yX6_ofLink : MethodName := ⟨RX6, "ofLink", "(II)I"⟩
abbrev cX6_wordAt : ByteArray := prog_1_method_20_code
def yX6_wordAt : MethodName := ⟨RX6, "wordAt", "(II)I"⟩
abbrev cX6_faultAnew : ByteArray := prog_1_method_21_code
def yX6_faultAnew : MethodName := ⟨RX6, "faultAnew", "(I)I"⟩
abbrev cX6_chances : ByteArray := prog_1_method_22_code
def yX6_chances : MethodName := ⟨RX6, "chances", "(I)I"⟩
abbrev cX6_prize : ByteArray := prog_1_method_23_code
def yX6_prize : MethodName := ⟨RX6, "prize", "()I"⟩
abbrev cX6_far : ByteArray := prog_1_method_24_code
def yX6_far : MethodName := ⟨RX6, "far", "(II)I"⟩
abbrev cX6_source : ByteArray := prog_1_method_25_code
def yX6_source : MethodName := ⟨RX6, "source", "(I)I"⟩
abbrev cX6_hand : ByteArray := prog_1_method_26_code
def yX6_hand : MethodName := ⟨RX6, "hand", "(I)I"⟩
abbrev cX6_needRange : ByteArray := prog_1_method_27_code
def yX6_needRange : MethodName := ⟨RX6, "needRange", "(III)V"⟩
abbrev cX6_needWord : ByteArray := prog_1_method_28_code
def yX6_needWord : MethodName := ⟨RX6, "needWord", "(I)V"⟩
abbrev cX6_needPoet : ByteArray := prog_1_method_29_code
def yX6_needPoet : MethodName := ⟨RX6, "needPoet", "(I)V"⟩
abbrev cX6_needLink : ByteArray := prog_1_method_30_code
def yX6_needLink : MethodName := ⟨RX6, "needLink", "(I)V"⟩
abbrev cX6_needPlace : ByteArray := prog_1_method_31_code
def yX6_needPlace : MethodName := ⟨RX6, "needPlace", "(II)V"⟩
abbrev cX6_needCopy : ByteArray := prog_1_method_32_code
def yX6_needCopy : MethodName := ⟨RX6, "needCopy", "(I)V"⟩
abbrev cX6_needText : ByteArray := prog_1_method_33_code
def yX6_needText : MethodName := ⟨RX6, "needText", "(I)V"⟩
abbrev cX6_needPoem : ByteArray := prog_1_method_34_code
def yX6_needPoem : MethodName := ⟨RX6, "needPoem", "()V"⟩
abbrev cX6_needNoOffers : ByteArray := prog_1_method_35_code
def yX6_needNoOffers : MethodName := ⟨RX6, "needNoOffers", "()V"⟩
abbrev cX6_chanceOf : ByteArray := prog_1_method_36_code
def yX6_chanceOf : MethodName := ⟨RX6, "chanceOf", "(III)I"⟩
abbrev cX6_likeness : ByteArray := prog_1_method_37_code
def yX6_likeness : MethodName := ⟨RX6, "likeness", "(II)I"⟩
abbrev cX6_textWord : ByteArray := prog_1_method_38_code
def yX6_textWord : MethodName := ⟨RX6, "textWord", "(III)I"⟩
abbrev cX6_fillSheet : ByteArray := prog_1_method_39_code
def yX6_fillSheet : MethodName := ⟨RX6, "fillSheet", "(LRengaHall$Sheet;I)V"⟩
abbrev cX6_distance : ByteArray := prog_1_method_40_code
def yX6_distance : MethodName := ⟨RX6, "distance", "(II)I"⟩
def RX7 : String := "RengaHallModel"
def TX7 : u_T := fun k => match k with
  | 0 => ("RengaHallModel", "sounds", "[I", true)
  | 1 => ("RengaHallModel", "seasons", "[I", true)
  | 2 => ("RengaHallModel", "signs", "[I", true)
  | 3 => ("RengaHallModel", "calls", "[J", true)
  | 4 => ("RengaHallModel", "words", "I", false)
  | 5 => ("RengaHallModel", "poets", "I", false)
  | 6 => ("RengaHallModel", "isPoem", "Z", false)
  | 7 => ("RengaHallModel", "total", "I", false)
  | 8 => ("RengaHallModel", "span", "I", false)
  | 9 => ("RengaHallModel", "evenSounds", "I", false)
  | 10 => ("RengaHallModel", "oddSounds", "I", false)
  | 11 => ("RengaHallModel", "links", "I", false)
  | 12 => ("RengaHallModel", "texts", "[I", true)
  | 13 => ("RengaHallModel", "sizes", "[I", true)
  | 14 => ("RengaHallModel", "makers", "[I", true)
  | 15 => ("RengaHallModel", "seats", "[I", true)
  | 16 => ("RengaHallModel", "hidden", "[Z", true)
  | 17 => ("RengaHallModel", "mended", "[Z", true)
  | 18 => ("RengaHallModel", "points", "[I", true)
  | 19 => ("RengaHallModel", "draft", "[I", true)
  | 20 => ("RengaHallModel", "drafted", "I", false)
  | 21 => ("RengaHallModel", "offered", "[I", true)
  | 22 => ("RengaHallModel", "offerSizes", "[I", true)
  | 23 => ("RengaHallModel", "offerPoets", "[I", true)
  | 24 => ("RengaHallModel", "offers", "I", false)
  | 25 => ("RengaHallModel", "why", "I", false)
  | 26 => ("RengaHallModel", "copied", "[I", true)
  | 27 => ("RengaHallModel", "copySizes", "[I", true)
  | 28 => ("RengaHallModel", "copyLinks", "[I", true)
  | 29 => ("RengaHallModel", "copies", "I", false)
  | 30 => ("RengaHallModel", "row", "[I", true)
  | 31 => ("RengaHallModel", "many", "I", false)
  | 32 => ("RengaHallModel", "cause", "I", false)
  | _ => ("RengaHallModel", "last", "I", false)
def tyX7 : Nat → FieldType := fun k => match k with
  | 0 => .array .int
  | 1 => .array .int
  | 2 => .array .int
  | 3 => .array .long
  | 4 => .int
  | 5 => .int
  | 6 => .boolean
  | 7 => .int
  | 8 => .int
  | 9 => .int
  | 10 => .int
  | 11 => .int
  | 12 => .array .int
  | 13 => .array .int
  | 14 => .array .int
  | 15 => .array .int
  | 16 => .array .boolean
  | 17 => .array .boolean
  | 18 => .array .int
  | 19 => .array .int
  | 20 => .int
  | 21 => .array .int
  | 22 => .array .int
  | 23 => .array .int
  | 24 => .int
  | 25 => .int
  | 26 => .array .int
  | 27 => .array .int
  | 28 => .array .int
  | 29 => .int
  | 30 => .array .int
  | 31 => .int
  | 32 => .int
  | _ => .int
theorem nmX7 : ∀ a, a < 34 → ∀ b, b < 34 → a ≠ b → (TX7 a).2.1 ≠ (TX7 b).2.1 := by decide +kernel
theorem tyX7_ok : ∀ k, k < 34 → parseFieldDescriptor (TX7 k).2.2.1 = some (tyX7 k) := by decide +kernel
abbrev cX7_init : ByteArray := prog_9_method_1_code
def yX7_init : MethodName := ⟨RX7, "<init>", "()V"⟩
abbrev cX7_thrown : ByteArray := prog_9_method_2_code
def yX7_thrown : MethodName := ⟨RX7, "thrown", "()I"⟩
abbrev cX7_in : ByteArray := prog_9_method_3_code
def yX7_in : MethodName := ⟨RX7, "in", "(III)Z"⟩
abbrev cX7_goes : ByteArray := prog_9_method_4_code
def yX7_goes : MethodName := ⟨RX7, "goes", "(ZZZ)Z"⟩
abbrev cX7_isWord : ByteArray := prog_9_method_5_code
def yX7_isWord : MethodName := ⟨RX7, "isWord", "(I)Z"⟩
abbrev cX7_isPoet : ByteArray := prog_9_method_6_code
def yX7_isPoet : MethodName := ⟨RX7, "isPoet", "(I)Z"⟩
abbrev cX7_isLink : ByteArray := prog_9_method_7_code
def yX7_isLink : MethodName := ⟨RX7, "isLink", "(I)Z"⟩
abbrev cX7_isFinished : ByteArray := prog_9_method_8_code
def yX7_isFinished : MethodName := ⟨RX7, "isFinished", "()Z"⟩
abbrev cX7_word : ByteArray := prog_9_method_9_code
def yX7_word : MethodName := ⟨RX7, "word", "(III)I"⟩
abbrev cX7_calls : ByteArray := prog_9_method_10_code
def yX7_calls : MethodName := ⟨RX7, "calls", "(II)Z"⟩
abbrev cX7_call : ByteArray := prog_9_method_11_code
def yX7_call : MethodName := ⟨RX7, "call", "(II)Z"⟩
abbrev cX7_poet : ByteArray := prog_9_method_12_code
def yX7_poet : MethodName := ⟨RX7, "poet", "()I"⟩
abbrev cX7_begin : ByteArray := prog_9_method_13_code
def yX7_begin : MethodName := ⟨RX7, "begin", "(IIII)V"⟩
abbrev cX7_seat : ByteArray := prog_9_method_14_code
def yX7_seat : MethodName := ⟨RX7, "seat", "(II)I"⟩
abbrev cX7_add : ByteArray := prog_9_method_15_code
def yX7_add : MethodName := ⟨RX7, "add", "(I)I"⟩
abbrev cX7_clear : ByteArray := prog_9_method_16_code
def yX7_clear : MethodName := ⟨RX7, "clear", "()I"⟩
abbrev cX7_seasonOf : ByteArray := prog_9_method_17_code
def yX7_seasonOf : MethodName := ⟨RX7, "seasonOf", "(I)I"⟩
abbrev cX7_signsOf : ByteArray := prog_9_method_18_code
def yX7_signsOf : MethodName := ⟨RX7, "signsOf", "(I)I"⟩
abbrev cX7_runAt : ByteArray := prog_9_method_19_code
def yX7_runAt : MethodName := ⟨RX7, "runAt", "(I)I"⟩
abbrev cX7_soundsOfRow : ByteArray := prog_9_method_20_code
def yX7_soundsOfRow : MethodName := ⟨RX7, "soundsOfRow", "()I"⟩
abbrev cX7_seasonOfRow : ByteArray := prog_9_method_21_code
def yX7_seasonOfRow : MethodName := ⟨RX7, "seasonOfRow", "()I"⟩
abbrev cX7_signsOfRow : ByteArray := prog_9_method_22_code
def yX7_signsOfRow : MethodName := ⟨RX7, "signsOfRow", "()I"⟩
abbrev cX7_mixes : ByteArray := prog_9_method_23_code
def yX7_mixes : MethodName := ⟨RX7, "mixes", "()I"⟩
abbrev cX7_comesAgain : ByteArray := prog_9_method_24_code
def yX7_comesAgain : MethodName := ⟨RX7, "comesAgain", "(I)I"⟩
abbrev cX7_joins : ByteArray := prog_9_method_25_code
def yX7_joins : MethodName := ⟨RX7, "joins", "(I)Z"⟩
abbrev cX7_lowest : ByteArray := prog_9_method_26_code
def yX7_lowest : MethodName := ⟨RX7, "lowest", "(I)I"⟩
abbrev cX7_isLong : ByteArray := prog_9_method_27_code
def yX7_isLong : MethodName := ⟨RX7, "isLong", "(I)Z"⟩
abbrev cX7_lengthFault : ByteArray := prog_9_method_28_code
def yX7_lengthFault : MethodName := ⟨RX7, "lengthFault", "(I)I"⟩
abbrev cX7_seatFault : ByteArray := prog_9_method_29_code
def yX7_seatFault : MethodName := ⟨RX7, "seatFault", "(I)I"⟩
abbrev cX7_faultOf : ByteArray := prog_9_method_30_code
def yX7_faultOf : MethodName := ⟨RX7, "faultOf", "(II)I"⟩
abbrev cX7_laysLink : ByteArray := prog_9_method_31_code
def yX7_laysLink : MethodName := ⟨RX7, "laysLink", "(I)V"⟩
abbrev cX7_offer : ByteArray := prog_9_method_32_code
def yX7_offer : MethodName := ⟨RX7, "offer", "(I)I"⟩
abbrev cX7_why : ByteArray := prog_9_method_33_code
def yX7_why : MethodName := ⟨RX7, "why", "()I"⟩
abbrev cX7_choose : ByteArray := prog_9_method_34_code
def yX7_choose : MethodName := ⟨RX7, "choose", "(I)I"⟩
abbrev cX7_mend : ByteArray := prog_9_method_35_code
def yX7_mend : MethodName := ⟨RX7, "mend", "(II)I"⟩
abbrev cX7_give : ByteArray := prog_9_method_36_code
def yX7_give : MethodName := ⟨RX7, "give", "(III)I"⟩
abbrev cX7_copy : ByteArray := prog_9_method_37_code
def yX7_copy : MethodName := ⟨RX7, "copy", "(I)I"⟩
abbrev cX7_linksOf : ByteArray := prog_9_method_38_code
def yX7_linksOf : MethodName := ⟨RX7, "linksOf", "(I)I"⟩
abbrev cX7_sizeOf : ByteArray := prog_9_method_39_code
def yX7_sizeOf : MethodName := ⟨RX7, "sizeOf", "(II)I"⟩
abbrev cX7_wordOf : ByteArray := prog_9_method_40_code
def yX7_wordOf : MethodName := ⟨RX7, "wordOf", "(III)I"⟩
abbrev cX7_write : ByteArray := prog_9_method_41_code
def yX7_write : MethodName := ⟨RX7, "write", "(IIII)I"⟩
abbrev cX7_hide : ByteArray := prog_9_method_42_code
def yX7_hide : MethodName := ⟨RX7, "hide", "(IZ)Z"⟩
abbrev cX7_links : ByteArray := prog_9_method_43_code
def yX7_links : MethodName := ⟨RX7, "links", "()I"⟩
abbrev cX7_offers : ByteArray := prog_9_method_44_code
def yX7_offers : MethodName := ⟨RX7, "offers", "()I"⟩
abbrev cX7_ofLink : ByteArray := prog_9_method_45_code
def yX7_ofLink : MethodName := ⟨RX7, "ofLink", "(II)I"⟩
abbrev cX7_wordAt : ByteArray := prog_9_method_46_code
def yX7_wordAt : MethodName := ⟨RX7, "wordAt", "(II)I"⟩
abbrev cX7_faultAnew : ByteArray := prog_9_method_47_code
def yX7_faultAnew : MethodName := ⟨RX7, "faultAnew", "(I)I"⟩
abbrev cX7_chances : ByteArray := prog_9_method_48_code
def yX7_chances : MethodName := ⟨RX7, "chances", "(I)I"⟩
abbrev cX7_prize : ByteArray := prog_9_method_49_code
def yX7_prize : MethodName := ⟨RX7, "prize", "()I"⟩
abbrev cX7_farOf : ByteArray := prog_9_method_50_code
def yX7_farOf : MethodName := ⟨RX7, "farOf", "(II)I"⟩
abbrev cX7_isText : ByteArray := prog_9_method_51_code
def yX7_isText : MethodName := ⟨RX7, "isText", "(I)Z"⟩
abbrev cX7_far : ByteArray := prog_9_method_52_code
def yX7_far : MethodName := ⟨RX7, "far", "(II)I"⟩
abbrev cX7_source : ByteArray := prog_9_method_53_code
def yX7_source : MethodName := ⟨RX7, "source", "(I)I"⟩
abbrev cX7_likeness : ByteArray := prog_9_method_54_code
def yX7_likeness : MethodName := ⟨RX7, "likeness", "(II)I"⟩
abbrev cX7_hand : ByteArray := prog_9_method_55_code
def yX7_hand : MethodName := ⟨RX7, "hand", "(I)I"⟩
def RJ6 : String := "java/lang/Integer"
def TJ6 : u_T := fun k => match k with
  | _ => ("", "", "", false)
def tyJ6 : Nat → FieldType := fun k => match k with
  | _ => .int
theorem nmJ6 : ∀ a, a < 0 → ∀ b, b < 0 → a ≠ b → (TJ6 a).2.1 ≠ (TJ6 b).2.1 := by decide +kernel
theorem tyJ6_ok : ∀ k, k < 0 → parseFieldDescriptor (TJ6 k).2.2.1 = some (tyJ6 k) := by decide +kernel
abbrev cJ6_bitCount_0f7a4 : ByteArray := prog_14_method_49_code
def yJ6_bitCount_0f7a4 : MethodName := ⟨RJ6, "bitCount", "(I)I"⟩
def RJ13 : String := "java/lang/Long"
def TJ13 : u_T := fun k => match k with
  | _ => ("", "", "", false)
def tyJ13 : Nat → FieldType := fun k => match k with
  | _ => .int
theorem nmJ13 : ∀ a, a < 0 → ∀ b, b < 0 → a ≠ b → (TJ13 a).2.1 ≠ (TJ13 b).2.1 := by decide +kernel
theorem tyJ13_ok : ∀ k, k < 0 → parseFieldDescriptor (TJ13 k).2.2.1 = some (tyJ13 k) := by decide +kernel
abbrev cJ13_bitCount_95d88 : ByteArray := prog_15_method_50_code
def yJ13_bitCount_95d88 : MethodName := ⟨RJ13, "bitCount", "(J)I"⟩
def RJ0 : String := "java/lang/String"
def TJ0 : u_T := fun k => match k with
  | _ => ("", "", "", false)
def tyJ0 : Nat → FieldType := fun k => match k with
  | _ => .int
theorem nmJ0 : ∀ a, a < 0 → ∀ b, b < 0 → a ≠ b → (TJ0 a).2.1 ≠ (TJ0 b).2.1 := by decide +kernel
theorem tyJ0_ok : ∀ k, k < 0 → parseFieldDescriptor (TJ0 k).2.2.1 = some (tyJ0 k) := by decide +kernel
def RL : String := "RengaHallLaw"
abbrev cL_word : ByteArray := method_3_code
def yL_word : MethodName := ⟨RL, "word", "(LRengaHall;III[J)I"⟩
abbrev cL_call : ByteArray := method_4_code
def yL_call : MethodName := ⟨RL, "call", "(LRengaHall;II[J)I"⟩
abbrev cL_poet : ByteArray := method_5_code
def yL_poet : MethodName := ⟨RL, "poet", "(LRengaHall;[J)I"⟩
abbrev cL_begin : ByteArray := method_6_code
def yL_begin : MethodName := ⟨RL, "begin", "(LRengaHall;IIII)I"⟩
abbrev cL_seat : ByteArray := method_7_code
def yL_seat : MethodName := ⟨RL, "seat", "(LRengaHall;II[J)I"⟩
abbrev cL_add : ByteArray := method_8_code
def yL_add : MethodName := ⟨RL, "add", "(LRengaHall;I[J)I"⟩
abbrev cL_offer : ByteArray := method_9_code
def yL_offer : MethodName := ⟨RL, "offer", "(LRengaHall;I[J)I"⟩
abbrev cL_choose : ByteArray := method_10_code
def yL_choose : MethodName := ⟨RL, "choose", "(LRengaHall;I[J)I"⟩
abbrev cL_mend : ByteArray := method_11_code
def yL_mend : MethodName := ⟨RL, "mend", "(LRengaHall;II[J)I"⟩
abbrev cL_give : ByteArray := method_12_code
def yL_give : MethodName := ⟨RL, "give", "(LRengaHall;III[J)I"⟩
abbrev cL_copy : ByteArray := method_13_code
def yL_copy : MethodName := ⟨RL, "copy", "(LRengaHall;I[J)I"⟩
abbrev cL_write : ByteArray := method_14_code
def yL_write : MethodName := ⟨RL, "write", "(LRengaHall;IIII[J)I"⟩
abbrev cL_hide : ByteArray := method_15_code
def yL_hide : MethodName := ⟨RL, "hide", "(LRengaHall;IZ[J)I"⟩
abbrev cL_ofLink : ByteArray := method_16_code
def yL_ofLink : MethodName := ⟨RL, "ofLink", "(LRengaHall;II[J)I"⟩
abbrev cL_wordAt : ByteArray := method_17_code
def yL_wordAt : MethodName := ⟨RL, "wordAt", "(LRengaHall;II[J)I"⟩
abbrev cL_faultAnew : ByteArray := method_18_code
def yL_faultAnew : MethodName := ⟨RL, "faultAnew", "(LRengaHall;I[J)I"⟩
abbrev cL_chances : ByteArray := method_19_code
def yL_chances : MethodName := ⟨RL, "chances", "(LRengaHall;I[J)I"⟩
abbrev cL_far : ByteArray := method_20_code
def yL_far : MethodName := ⟨RL, "far", "(LRengaHall;II[J)I"⟩
abbrev cL_source : ByteArray := method_21_code
def yL_source : MethodName := ⟨RL, "source", "(LRengaHall;I[J)I"⟩
abbrev cL_hand : ByteArray := method_22_code
def yL_hand : MethodName := ⟨RL, "hand", "(LRengaHall;I[J)I"⟩
abbrev cL_law : ByteArray := code
def yL_law : MethodName := ⟨RL, "law", "([I)Z"⟩
abbrev vwCl : List vw_C := [(RX0, TX0, 2), (RX1, TX1, 11), (RX2, TX2, 2), (RX3, TX3, 1), (RX4, TX4, 5), (RX5, TX5, 6), (RX6, TX6, 13), (RX7, TX7, 34)]
end
section
def rg_T : List Cond := lw_tbl.filter goodWord
theorem rg_m0 {w : Cond} (h : w ∈ k2_sels lw_privs) (g : goodWord w = true) : w ∈ rg_T := List.mem_filter.mpr ⟨List.mem_append_left _ h, g⟩
theorem rg_mt {w : Cond} (h : w ∈ tables_1) (g : goodWord w = true) : w ∈ rg_T := List.mem_filter.mpr ⟨List.mem_append_right _ h, g⟩
theorem rg_m1 {w : Cond} (h : w ∈ tables_1_1) (g : goodWord w = true) : w ∈ rg_T := rg_mt (List.mem_append_left _ h) g
theorem rg_m2 {w : Cond} (h : w ∈ tables_1_2) (g : goodWord w = true) : w ∈ rg_T := rg_mt (List.mem_append_right _ (List.mem_append_left _ h)) g
theorem rg_m3 {w : Cond} (h : w ∈ tables_1_3) (g : goodWord w = true) : w ∈ rg_T := rg_mt (List.mem_append_right _ (List.mem_append_right _ (List.mem_append_left _ h))) g
theorem rg_m4 {w : Cond} (h : w ∈ tables_1_4) (g : goodWord w = true) : w ∈ rg_T := rg_mt (List.mem_append_right _ (List.mem_append_right _ (List.mem_append_right _ (List.mem_append_left _ h)))) g
theorem rg_m5 {w : Cond} (h : w ∈ tables_1_5) (g : goodWord w = true) : w ∈ rg_T := rg_mt (List.mem_append_right _ (List.mem_append_right _ (List.mem_append_right _ (List.mem_append_right _ (h))))) g
theorem tw_n_L : (Cond.initialized "RengaHallLaw") ∈ rg_T := rg_m1 (List.mem_of_getElem? (i := 0) rfl) rfl
theorem tw_n_X6 : (Cond.initialized "RengaHall") ∈ rg_T := rg_m1 (List.mem_of_getElem? (i := 1) rfl) rfl
theorem tw_n_X4 : (Cond.initialized "RengaHall$Stock") ∈ rg_T := rg_m1 (List.mem_of_getElem? (i := 2) rfl) rfl
theorem tw_n_X1 : (Cond.initialized "RengaHall$Poem") ∈ rg_T := rg_m1 (List.mem_of_getElem? (i := 3) rfl) rfl
theorem tw_n_X5 : (Cond.initialized "RengaHall$Verse") ∈ rg_T := rg_m1 (List.mem_of_getElem? (i := 4) rfl) rfl
theorem tw_n_X2 : (Cond.initialized "RengaHall$Scribe") ∈ rg_T := rg_m1 (List.mem_of_getElem? (i := 5) rfl) rfl
theorem tw_n_X0 : (Cond.initialized "RengaHall$Means") ∈ rg_T := rg_m1 (List.mem_of_getElem? (i := 6) rfl) rfl
theorem tw_n_X3 : (Cond.initialized "RengaHall$Sheet") ∈ rg_T := rg_m1 (List.mem_of_getElem? (i := 7) rfl) rfl
theorem tw_n_X7 : (Cond.initialized "RengaHallModel") ∈ rg_T := rg_m1 (List.mem_of_getElem? (i := 8) rfl) rfl
theorem tw_n_Throwable : (Cond.initialized "java/lang/Throwable") ∈ rg_T := rg_m1 (List.mem_of_getElem? (i := 9) rfl) rfl
theorem tw_n_Exception : (Cond.initialized "java/lang/Exception") ∈ rg_T := rg_m1 (List.mem_of_getElem? (i := 10) rfl) rfl
theorem tw_n_RuntimeException : (Cond.initialized "java/lang/RuntimeException") ∈ rg_T := rg_m1 (List.mem_of_getElem? (i := 11) rfl) rfl
theorem tw_n_IllegalArgumentException : (Cond.initialized "java/lang/IllegalArgumentException") ∈ rg_T := rg_m1 (List.mem_of_getElem? (i := 12) rfl) rfl
theorem tw_n_IllegalStateException : (Cond.initialized "java/lang/IllegalStateException") ∈ rg_T := rg_m1 (List.mem_of_getElem? (i := 13) rfl) rfl
theorem tw_n_IndexOutOfBoundsException : (Cond.initialized "java/lang/IndexOutOfBoundsException") ∈ rg_T := rg_m1 (List.mem_of_getElem? (i := 14) rfl) rfl
theorem tw_n_J13 : (Cond.initialized "java/lang/Long") ∈ rg_T := rg_m1 (List.mem_of_getElem? (i := 15) rfl) rfl
theorem tw_n_J6 : (Cond.initialized "java/lang/Integer") ∈ rg_T := rg_m1 (List.mem_of_getElem? (i := 16) rfl) rfl
theorem tw_k_L_8 : (Cond.classLink "RengaHallLaw" 8 "RengaHall") ∈ rg_T := rg_m1 (List.mem_of_getElem? (i := 17) rfl) rfl
theorem tw_o_X6 : (Cond.instantiable "RengaHall" 13) ∈ rg_T := rg_m1 (List.mem_of_getElem? (i := 18) rfl) rfl
theorem tw_m_L_83 : (Cond.methodLink "RengaHallLaw" 83 yX6_init) ∈ rg_T := rg_m1 (List.mem_of_getElem? (i := 19) rfl) rfl
theorem tw_i_X6_init : (Cond.instanceMethod yX6_init) ∈ rg_T := rg_m1 (List.mem_of_getElem? (i := 20) rfl) rfl
theorem tw_c_X6_init : (Cond.code yX6_init cX6_init 4 none) ∈ rg_T := rg_m1 (List.mem_of_getElem? (i := 21) rfl) rfl
theorem tw_m_X6_1 : (Cond.methodLink "RengaHall" 1 ⟨"java/lang/Object", "<init>", "()V"⟩) ∈ rg_T := rg_m1 (List.mem_of_getElem? (i := 22) rfl) rfl
theorem tw_i_objInit : (Cond.instanceMethod ⟨"java/lang/Object", "<init>", "()V"⟩) ∈ rg_T := rg_m1 (List.mem_of_getElem? (i := 23) rfl) rfl
theorem tw_c_objInit : (Cond.code ⟨"java/lang/Object", "<init>", "()V"⟩ object_method_1_code 1 none) ∈ rg_T := rg_m1 (List.mem_of_getElem? (i := 24) rfl) rfl
theorem tw_k_X6_7 : (Cond.classLink "RengaHall" 7 "RengaHall$Stock") ∈ rg_T := rg_m1 (List.mem_of_getElem? (i := 25) rfl) rfl
theorem tw_o_X4 : (Cond.instantiable "RengaHall$Stock" 5) ∈ rg_T := rg_m1 (List.mem_of_getElem? (i := 26) rfl) rfl
theorem tw_i_X4_init : (Cond.instanceMethod yX4_init) ∈ rg_T := rg_m1 (List.mem_of_getElem? (i := 28) rfl) rfl
theorem tw_c_X4_init : (Cond.code yX4_init cX4_init 1 none) ∈ rg_T := rg_m1 (List.mem_of_getElem? (i := 29) rfl) rfl
theorem tw_m_X4_3 : (Cond.methodLink "RengaHall$Stock" 3 ⟨"java/lang/Object", "<init>", "()V"⟩) ∈ rg_T := rg_m1 (List.mem_of_getElem? (i := 30) rfl) rfl
theorem tw_f_X4_9 : (Cond.fieldLink "RengaHall$Stock" 9 "RengaHall$Stock" "sounds" "[I") ∈ rg_T := rg_m1 (List.mem_of_getElem? (i := 31) rfl) rfl
theorem tw_f_X4_15 : (Cond.fieldLink "RengaHall$Stock" 15 "RengaHall$Stock" "seasons" "[I") ∈ rg_T := rg_m1 (List.mem_of_getElem? (i := 32) rfl) rfl
theorem tw_f_X4_18 : (Cond.fieldLink "RengaHall$Stock" 18 "RengaHall$Stock" "signs" "[I") ∈ rg_T := rg_m1 (List.mem_of_getElem? (i := 33) rfl) rfl
theorem tw_f_X4_21 : (Cond.fieldLink "RengaHall$Stock" 21 "RengaHall$Stock" "called" "[J") ∈ rg_T := rg_m1 (List.mem_of_getElem? (i := 34) rfl) rfl
theorem tw_f_X4_25 : (Cond.fieldLink "RengaHall$Stock" 25 "RengaHall$Stock" "count" "I") ∈ rg_T := rg_m1 (List.mem_of_getElem? (i := 35) rfl) rfl
theorem tw_a_int : (Cond.arrayClass FieldType.int) ∈ rg_T := rg_m1 (List.mem_of_getElem? (i := 48) rfl) rfl
theorem tw_a_long : (Cond.arrayClass FieldType.long) ∈ rg_T := rg_m1 (List.mem_of_getElem? (i := 49) rfl) rfl
theorem tw_k_X6_10 : (Cond.classLink "RengaHall" 10 "RengaHall$Poem") ∈ rg_T := rg_m1 (List.mem_of_getElem? (i := 50) rfl) rfl
theorem tw_o_X1 : (Cond.instantiable "RengaHall$Poem" 11) ∈ rg_T := rg_m1 (List.mem_of_getElem? (i := 51) rfl) rfl
theorem tw_m_X6_12 : (Cond.methodLink "RengaHall" 12 yX1_init) ∈ rg_T := rg_m1 (List.mem_of_getElem? (i := 52) rfl) rfl
theorem tw_i_X1_init : (Cond.instanceMethod yX1_init) ∈ rg_T := rg_m1 (List.mem_of_getElem? (i := 53) rfl) rfl
theorem tw_c_X1_init : (Cond.code yX1_init cX1_init 2 none) ∈ rg_T := rg_m1 (List.mem_of_getElem? (i := 54) rfl) rfl
theorem tw_m_X1_3 : (Cond.methodLink "RengaHall$Poem" 3 ⟨"java/lang/Object", "<init>", "()V"⟩) ∈ rg_T := rg_m1 (List.mem_of_getElem? (i := 55) rfl) rfl
theorem tw_k_X1_15 : (Cond.classLink "RengaHall$Poem" 15 "RengaHall$Verse") ∈ rg_T := rg_m1 (List.mem_of_getElem? (i := 56) rfl) rfl
theorem tw_k_X1_31 : (Cond.classLink "RengaHall$Poem" 31 "[[I") ∈ rg_T := rg_m1 (List.mem_of_getElem? (i := 58) rfl) rfl
theorem tw_o_X5 : (Cond.instantiable "RengaHall$Verse" 6) ∈ rg_T := rg_m1 (List.mem_of_getElem? (i := 60) rfl) rfl
theorem tw_i_X5_init : (Cond.instanceMethod yX5_init) ∈ rg_T := rg_m1 (List.mem_of_getElem? (i := 62) rfl) rfl
theorem tw_c_X5_init : (Cond.code yX5_init cX5_init 1 none) ∈ rg_T := rg_m1 (List.mem_of_getElem? (i := 63) rfl) rfl
theorem tw_m_X5_3 : (Cond.methodLink "RengaHall$Verse" 3 ⟨"java/lang/Object", "<init>", "()V"⟩) ∈ rg_T := rg_m1 (List.mem_of_getElem? (i := 64) rfl) rfl
theorem tw_f_X5_9 : (Cond.fieldLink "RengaHall$Verse" 9 "RengaHall$Verse" "words" "[I") ∈ rg_T := rg_m1 (List.mem_of_getElem? (i := 65) rfl) rfl
theorem tw_f_X5_19 : (Cond.fieldLink "RengaHall$Verse" 19 "RengaHall$Verse" "size" "I") ∈ rg_T := rg_m1 (List.mem_of_getElem? (i := 66) rfl) rfl
theorem tw_f_X5_22 : (Cond.fieldLink "RengaHall$Verse" 22 "RengaHall$Verse" "sounds" "I") ∈ rg_T := rg_m1 (List.mem_of_getElem? (i := 69) rfl) rfl
theorem tw_f_X5_15 : (Cond.fieldLink "RengaHall$Verse" 15 "RengaHall$Verse" "season" "I") ∈ rg_T := rg_m1 (List.mem_of_getElem? (i := 71) rfl) rfl
theorem tw_f_X5_25 : (Cond.fieldLink "RengaHall$Verse" 25 "RengaHall$Verse" "signs" "I") ∈ rg_T := rg_m1 (List.mem_of_getElem? (i := 74) rfl) rfl
theorem tw_f_X5_28 : (Cond.fieldLink "RengaHall$Verse" 28 "RengaHall$Verse" "wordSet" "J") ∈ rg_T := rg_m1 (List.mem_of_getElem? (i := 77) rfl) rfl
theorem tw_a_boolean : (Cond.arrayClass FieldType.boolean) ∈ rg_T := rg_m1 (List.mem_of_getElem? (i := 92) rfl) rfl
theorem tw_f_X1_37 : (Cond.fieldLink "RengaHall$Poem" 37 "RengaHall$Poem" "length" "I") ∈ rg_T := rg_m1 (List.mem_of_getElem? (i := 93) rfl) rfl
theorem tw_f_X1_44 : (Cond.fieldLink "RengaHall$Poem" 44 "RengaHall$Poem" "span" "I") ∈ rg_T := rg_m1 (List.mem_of_getElem? (i := 95) rfl) rfl
theorem tw_f_X1_47 : (Cond.fieldLink "RengaHall$Poem" 47 "RengaHall$Poem" "evenSounds" "I") ∈ rg_T := rg_m1 (List.mem_of_getElem? (i := 97) rfl) rfl
theorem tw_f_X1_50 : (Cond.fieldLink "RengaHall$Poem" 50 "RengaHall$Poem" "oddSounds" "I") ∈ rg_T := rg_m1 (List.mem_of_getElem? (i := 98) rfl) rfl
theorem tw_f_X1_41 : (Cond.fieldLink "RengaHall$Poem" 41 "RengaHall$Poem" "made" "I") ∈ rg_T := rg_m1 (List.mem_of_getElem? (i := 99) rfl) rfl
theorem tw_f_X1_9 : (Cond.fieldLink "RengaHall$Poem" 9 "RengaHall$Poem" "seats" "[I") ∈ rg_T := rg_m1 (List.mem_of_getElem? (i := 101) rfl) rfl
theorem tw_f_X1_17 : (Cond.fieldLink "RengaHall$Poem" 17 "RengaHall$Poem" "verses" "[LRengaHall$Verse;") ∈ rg_T := rg_m1 (List.mem_of_getElem? (i := 102) rfl) rfl
theorem tw_f_X1_21 : (Cond.fieldLink "RengaHall$Poem" 21 "RengaHall$Poem" "makers" "[I") ∈ rg_T := rg_m1 (List.mem_of_getElem? (i := 104) rfl) rfl
theorem tw_f_X1_24 : (Cond.fieldLink "RengaHall$Poem" 24 "RengaHall$Poem" "hidden" "[Z") ∈ rg_T := rg_m1 (List.mem_of_getElem? (i := 105) rfl) rfl
theorem tw_f_X1_28 : (Cond.fieldLink "RengaHall$Poem" 28 "RengaHall$Poem" "mended" "[Z") ∈ rg_T := rg_m1 (List.mem_of_getElem? (i := 107) rfl) rfl
theorem tw_f_X1_33 : (Cond.fieldLink "RengaHall$Poem" 33 "RengaHall$Poem" "points" "[[I") ∈ rg_T := rg_m1 (List.mem_of_getElem? (i := 109) rfl) rfl
theorem tw_k_X6_23 : (Cond.classLink "RengaHall" 23 "RengaHall$Scribe") ∈ rg_T := rg_m1 (List.mem_of_getElem? (i := 134) rfl) rfl
theorem tw_o_X2 : (Cond.instantiable "RengaHall$Scribe" 2) ∈ rg_T := rg_m1 (List.mem_of_getElem? (i := 135) rfl) rfl
theorem tw_m_X6_25 : (Cond.methodLink "RengaHall" 25 yX2_init) ∈ rg_T := rg_m1 (List.mem_of_getElem? (i := 136) rfl) rfl
theorem tw_i_X2_init : (Cond.instanceMethod yX2_init) ∈ rg_T := rg_m1 (List.mem_of_getElem? (i := 137) rfl) rfl
theorem tw_c_X2_init : (Cond.code yX2_init cX2_init 3 none) ∈ rg_T := rg_m1 (List.mem_of_getElem? (i := 138) rfl) rfl
theorem tw_m_X2_3 : (Cond.methodLink "RengaHall$Scribe" 3 ⟨"java/lang/Object", "<init>", "()V"⟩) ∈ rg_T := rg_m1 (List.mem_of_getElem? (i := 139) rfl) rfl
theorem tw_f_X2_9 : (Cond.fieldLink "RengaHall$Scribe" 9 "RengaHall$Scribe" "stock" "LRengaHall$Stock;") ∈ rg_T := rg_m1 (List.mem_of_getElem? (i := 140) rfl) rfl
theorem tw_f_X2_15 : (Cond.fieldLink "RengaHall$Scribe" 15 "RengaHall$Scribe" "poem" "LRengaHall$Poem;") ∈ rg_T := rg_m1 (List.mem_of_getElem? (i := 141) rfl) rfl
theorem tw_k_X6_32 : (Cond.classLink "RengaHall" 32 "RengaHall$Verse") ∈ rg_T := rg_m1 (List.mem_of_getElem? (i := 147) rfl) rfl
theorem tw_k_X6_42 : (Cond.classLink "RengaHall" 42 "RengaHall$Means") ∈ rg_T := rg_m1 (List.mem_of_getElem? (i := 149) rfl) rfl
theorem tw_o_X0 : (Cond.instantiable "RengaHall$Means" 2) ∈ rg_T := rg_m1 (List.mem_of_getElem? (i := 150) rfl) rfl
theorem tw_i_X0_init : (Cond.instanceMethod yX0_init) ∈ rg_T := rg_m1 (List.mem_of_getElem? (i := 152) rfl) rfl
theorem tw_c_X0_init : (Cond.code yX0_init cX0_init 1 none) ∈ rg_T := rg_m1 (List.mem_of_getElem? (i := 153) rfl) rfl
theorem tw_m_X0_3 : (Cond.methodLink "RengaHall$Means" 3 ⟨"java/lang/Object", "<init>", "()V"⟩) ∈ rg_T := rg_m1 (List.mem_of_getElem? (i := 154) rfl) rfl
theorem tw_f_X0_9 : (Cond.fieldLink "RengaHall$Means" 9 "RengaHall$Means" "sums" "[I") ∈ rg_T := rg_m1 (List.mem_of_getElem? (i := 155) rfl) rfl
theorem tw_f_X0_15 : (Cond.fieldLink "RengaHall$Means" 15 "RengaHall$Means" "counts" "[I") ∈ rg_T := rg_m1 (List.mem_of_getElem? (i := 156) rfl) rfl
theorem tw_k_X6_57 : (Cond.classLink "RengaHall" 57 "RengaHall$Sheet") ∈ rg_T := rg_m1 (List.mem_of_getElem? (i := 162) rfl) rfl
theorem tw_o_X3 : (Cond.instantiable "RengaHall$Sheet" 1) ∈ rg_T := rg_m1 (List.mem_of_getElem? (i := 164) rfl) rfl
theorem tw_i_X3_init : (Cond.instanceMethod yX3_init) ∈ rg_T := rg_m1 (List.mem_of_getElem? (i := 166) rfl) rfl
theorem tw_c_X3_init : (Cond.code yX3_init cX3_init 1 none) ∈ rg_T := rg_m1 (List.mem_of_getElem? (i := 167) rfl) rfl
theorem tw_m_X3_3 : (Cond.methodLink "RengaHall$Sheet" 3 ⟨"java/lang/Object", "<init>", "()V"⟩) ∈ rg_T := rg_m1 (List.mem_of_getElem? (i := 168) rfl) rfl
theorem tw_k_X3_9 : (Cond.classLink "RengaHall$Sheet" 9 "[[I") ∈ rg_T := rg_m1 (List.mem_of_getElem? (i := 169) rfl) rfl
theorem tw_f_X3_11 : (Cond.fieldLink "RengaHall$Sheet" 11 "RengaHall$Sheet" "words" "[[I") ∈ rg_T := rg_m1 (List.mem_of_getElem? (i := 170) rfl) rfl
theorem tw_f_X6_13 : (Cond.fieldLink "RengaHall" 13 "RengaHall" "stock" "LRengaHall$Stock;") ∈ rg_T := rg_m1 (List.mem_of_getElem? (i := 174) rfl) rfl
theorem tw_f_X6_19 : (Cond.fieldLink "RengaHall" 19 "RengaHall" "poem" "LRengaHall$Poem;") ∈ rg_T := rg_m1 (List.mem_of_getElem? (i := 175) rfl) rfl
theorem tw_f_X6_28 : (Cond.fieldLink "RengaHall" 28 "RengaHall" "scribe" "LRengaHall$Scribe;") ∈ rg_T := rg_m1 (List.mem_of_getElem? (i := 176) rfl) rfl
theorem tw_f_X6_35 : (Cond.fieldLink "RengaHall" 35 "RengaHall" "draft" "LRengaHall$Verse;") ∈ rg_T := rg_m1 (List.mem_of_getElem? (i := 177) rfl) rfl
theorem tw_f_X6_53 : (Cond.fieldLink "RengaHall" 53 "RengaHall" "offered" "[LRengaHall$Verse;") ∈ rg_T := rg_m1 (List.mem_of_getElem? (i := 178) rfl) rfl
theorem tw_f_X6_49 : (Cond.fieldLink "RengaHall" 49 "RengaHall" "offerers" "[I") ∈ rg_T := rg_m1 (List.mem_of_getElem? (i := 179) rfl) rfl
theorem tw_f_X6_59 : (Cond.fieldLink "RengaHall" 59 "RengaHall" "sheets" "[LRengaHall$Sheet;") ∈ rg_T := rg_m1 (List.mem_of_getElem? (i := 180) rfl) rfl
theorem tw_f_X6_39 : (Cond.fieldLink "RengaHall" 39 "RengaHall" "trial" "LRengaHall$Verse;") ∈ rg_T := rg_m1 (List.mem_of_getElem? (i := 181) rfl) rfl
theorem tw_f_X6_45 : (Cond.fieldLink "RengaHall" 45 "RengaHall" "means" "LRengaHall$Means;") ∈ rg_T := rg_m1 (List.mem_of_getElem? (i := 182) rfl) rfl
theorem tw_f_X6_100 : (Cond.fieldLink "RengaHall" 100 "RengaHall" "poetCount" "I") ∈ rg_T := rg_m1 (List.mem_of_getElem? (i := 183) rfl) rfl
theorem tw_f_X6_117 : (Cond.fieldLink "RengaHall" 117 "RengaHall" "offerCount" "I") ∈ rg_T := rg_m1 (List.mem_of_getElem? (i := 184) rfl) rfl
theorem tw_f_X6_120 : (Cond.fieldLink "RengaHall" 120 "RengaHall" "copyCount" "I") ∈ rg_T := rg_m1 (List.mem_of_getElem? (i := 185) rfl) rfl
theorem tw_f_X6_64 : (Cond.fieldLink "RengaHall" 64 "RengaHall" "latestCause" "I") ∈ rg_T := rg_m1 (List.mem_of_getElem? (i := 186) rfl) rfl
theorem tw_m_L_115 : (Cond.methodLink "RengaHallLaw" 115 yX6_clear) ∈ rg_T := rg_m1 (List.mem_of_getElem? (i := 214) rfl) rfl
theorem tw_i_X6_clear : (Cond.instanceMethod yX6_clear) ∈ rg_T := rg_m1 (List.mem_of_getElem? (i := 215) rfl) rfl
theorem tw_v_X6_clear : (Cond.selects "RengaHall" yX6_clear yX6_clear) ∈ rg_T := rg_m1 (List.mem_of_getElem? (i := 216) rfl) rfl
theorem tw_c_X6_clear : (Cond.code yX6_clear cX6_clear 2 (some FieldType.int)) ∈ rg_T := rg_m1 (List.mem_of_getElem? (i := 217) rfl) rfl
theorem tw_m_X6_151 : (Cond.methodLink "RengaHall" 151 yX5_empty) ∈ rg_T := rg_m1 (List.mem_of_getElem? (i := 218) rfl) rfl
theorem tw_i_X5_empty : (Cond.instanceMethod yX5_empty) ∈ rg_T := rg_m1 (List.mem_of_getElem? (i := 219) rfl) rfl
theorem tw_v_X5_empty : (Cond.selects "RengaHall$Verse" yX5_empty yX5_empty) ∈ rg_T := rg_m1 (List.mem_of_getElem? (i := 220) rfl) rfl
theorem tw_c_X5_empty : (Cond.code yX5_empty cX5_empty 1 none) ∈ rg_T := rg_m1 (List.mem_of_getElem? (i := 221) rfl) rfl
theorem tw_m_L_122 : (Cond.methodLink "RengaHallLaw" 122 yX6_why) ∈ rg_T := rg_m1 (List.mem_of_getElem? (i := 222) rfl) rfl
theorem tw_i_X6_why : (Cond.instanceMethod yX6_why) ∈ rg_T := rg_m1 (List.mem_of_getElem? (i := 223) rfl) rfl
theorem tw_v_X6_why : (Cond.selects "RengaHall" yX6_why yX6_why) ∈ rg_T := rg_m1 (List.mem_of_getElem? (i := 224) rfl) rfl
theorem tw_c_X6_why : (Cond.code yX6_why cX6_why 1 (some FieldType.int)) ∈ rg_T := rg_m1 (List.mem_of_getElem? (i := 225) rfl) rfl
theorem tw_m_L_146 : (Cond.methodLink "RengaHallLaw" 146 yX6_links) ∈ rg_T := rg_m1 (List.mem_of_getElem? (i := 226) rfl) rfl
theorem tw_i_X6_links : (Cond.instanceMethod yX6_links) ∈ rg_T := rg_m1 (List.mem_of_getElem? (i := 227) rfl) rfl
theorem tw_v_X6_links : (Cond.selects "RengaHall" yX6_links yX6_links) ∈ rg_T := rg_m1 (List.mem_of_getElem? (i := 228) rfl) rfl
theorem tw_c_X6_links : (Cond.code yX6_links cX6_links 1 (some FieldType.int)) ∈ rg_T := rg_m1 (List.mem_of_getElem? (i := 229) rfl) rfl
theorem tw_m_L_150 : (Cond.methodLink "RengaHallLaw" 150 yX6_offers) ∈ rg_T := rg_m1 (List.mem_of_getElem? (i := 230) rfl) rfl
theorem tw_i_X6_offers : (Cond.instanceMethod yX6_offers) ∈ rg_T := rg_m1 (List.mem_of_getElem? (i := 231) rfl) rfl
theorem tw_v_X6_offers : (Cond.selects "RengaHall" yX6_offers yX6_offers) ∈ rg_T := rg_m1 (List.mem_of_getElem? (i := 232) rfl) rfl
theorem tw_c_X6_offers : (Cond.code yX6_offers cX6_offers 1 (some FieldType.int)) ∈ rg_T := rg_m1 (List.mem_of_getElem? (i := 233) rfl) rfl
theorem tw_m_L_166 : (Cond.methodLink "RengaHallLaw" 166 yX6_prize) ∈ rg_T := rg_m1 (List.mem_of_getElem? (i := 234) rfl) rfl
theorem tw_i_X6_prize : (Cond.instanceMethod yX6_prize) ∈ rg_T := rg_m1 (List.mem_of_getElem? (i := 235) rfl) rfl
theorem tw_v_X6_prize : (Cond.selects "RengaHall" yX6_prize yX6_prize) ∈ rg_T := rg_m1 (List.mem_of_getElem? (i := 236) rfl) rfl
theorem tw_c_X6_prize : (Cond.code yX6_prize cX6_prize 4 (some FieldType.int)) ∈ rg_T := rg_m1 (List.mem_of_getElem? (i := 237) rfl) rfl
theorem tw_m_X6_252 : (Cond.methodLink "RengaHall" 252 yX0_reset) ∈ rg_T := rg_m1 (List.mem_of_getElem? (i := 238) rfl) rfl
theorem tw_i_X0_reset : (Cond.instanceMethod yX0_reset) ∈ rg_T := rg_m1 (List.mem_of_getElem? (i := 239) rfl) rfl
theorem tw_v_X0_reset : (Cond.selects "RengaHall$Means" yX0_reset yX0_reset) ∈ rg_T := rg_m2 (List.mem_of_getElem? (i := 0) rfl) rfl
theorem tw_c_X0_reset : (Cond.code yX0_reset cX0_reset 2 none) ∈ rg_T := rg_m2 (List.mem_of_getElem? (i := 1) rfl) rfl
theorem tw_m_X6_255 : (Cond.methodLink "RengaHall" 255 yX1_pointsOf) ∈ rg_T := rg_m2 (List.mem_of_getElem? (i := 2) rfl) rfl
theorem tw_i_X1_pointsOf : (Cond.instanceMethod yX1_pointsOf) ∈ rg_T := rg_m2 (List.mem_of_getElem? (i := 3) rfl) rfl
theorem tw_v_X1_pointsOf : (Cond.selects "RengaHall$Poem" yX1_pointsOf yX1_pointsOf) ∈ rg_T := rg_m2 (List.mem_of_getElem? (i := 4) rfl) rfl
theorem tw_c_X1_pointsOf : (Cond.code yX1_pointsOf cX1_pointsOf 4 (some FieldType.int)) ∈ rg_T := rg_m2 (List.mem_of_getElem? (i := 5) rfl) rfl
theorem tw_m_X1_57 : (Cond.methodLink "RengaHall$Poem" 57 yX1_has) ∈ rg_T := rg_m2 (List.mem_of_getElem? (i := 6) rfl) rfl
theorem tw_i_X1_has : (Cond.instanceMethod yX1_has) ∈ rg_T := rg_m2 (List.mem_of_getElem? (i := 7) rfl) rfl
theorem tw_v_X1_has : (Cond.selects "RengaHall$Poem" yX1_has yX1_has) ∈ rg_T := rg_m2 (List.mem_of_getElem? (i := 8) rfl) rfl
theorem tw_c_X1_has : (Cond.code yX1_has cX1_has 2 (some FieldType.boolean)) ∈ rg_T := rg_m2 (List.mem_of_getElem? (i := 9) rfl) rfl
theorem tw_m_X6_227 : (Cond.methodLink "RengaHall" 227 yX1_makerAt) ∈ rg_T := rg_m2 (List.mem_of_getElem? (i := 10) rfl) rfl
theorem tw_i_X1_makerAt : (Cond.instanceMethod yX1_makerAt) ∈ rg_T := rg_m2 (List.mem_of_getElem? (i := 11) rfl) rfl
theorem tw_v_X1_makerAt : (Cond.selects "RengaHall$Poem" yX1_makerAt yX1_makerAt) ∈ rg_T := rg_m2 (List.mem_of_getElem? (i := 12) rfl) rfl
theorem tw_c_X1_makerAt : (Cond.code yX1_makerAt cX1_makerAt 2 (some FieldType.int)) ∈ rg_T := rg_m2 (List.mem_of_getElem? (i := 13) rfl) rfl
theorem tw_m_X6_258 : (Cond.methodLink "RengaHall" 258 yX0_enter) ∈ rg_T := rg_m2 (List.mem_of_getElem? (i := 14) rfl) rfl
theorem tw_i_X0_enter : (Cond.instanceMethod yX0_enter) ∈ rg_T := rg_m2 (List.mem_of_getElem? (i := 15) rfl) rfl
theorem tw_v_X0_enter : (Cond.selects "RengaHall$Means" yX0_enter yX0_enter) ∈ rg_T := rg_m2 (List.mem_of_getElem? (i := 16) rfl) rfl
theorem tw_c_X0_enter : (Cond.code yX0_enter cX0_enter 3 none) ∈ rg_T := rg_m2 (List.mem_of_getElem? (i := 17) rfl) rfl
theorem tw_m_X6_261 : (Cond.methodLink "RengaHall" 261 yX0_greatest) ∈ rg_T := rg_m2 (List.mem_of_getElem? (i := 18) rfl) rfl
theorem tw_i_X0_greatest : (Cond.instanceMethod yX0_greatest) ∈ rg_T := rg_m2 (List.mem_of_getElem? (i := 19) rfl) rfl
theorem tw_v_X0_greatest : (Cond.selects "RengaHall$Means" yX0_greatest yX0_greatest) ∈ rg_T := rg_m2 (List.mem_of_getElem? (i := 20) rfl) rfl
theorem tw_c_X0_greatest : (Cond.code yX0_greatest cX0_greatest 3 (some FieldType.int)) ∈ rg_T := rg_m2 (List.mem_of_getElem? (i := 21) rfl) rfl
theorem tw_m_X0_18 : (Cond.methodLink "RengaHall$Means" 18 yX0_isGreater) ∈ rg_T := rg_m2 (List.mem_of_getElem? (i := 22) rfl) rfl
theorem tw_i_X0_isGreater : (Cond.instanceMethod yX0_isGreater) ∈ rg_T := rg_m2 (List.mem_of_getElem? (i := 24) rfl) rfl
theorem tw_c_X0_isGreater : (Cond.code yX0_isGreater cX0_isGreater 3 (some FieldType.boolean)) ∈ rg_T := rg_m2 (List.mem_of_getElem? (i := 25) rfl) rfl
theorem tw_m_L_87 : (Cond.methodLink "RengaHallLaw" 87 yL_word) ∈ rg_T := rg_m2 (List.mem_of_getElem? (i := 26) rfl) rfl
theorem tw_s_L_word : (Cond.static yL_word) ∈ rg_T := rg_m2 (List.mem_of_getElem? (i := 27) rfl) rfl
theorem tw_c_L_word : (Cond.codeWith yL_word cL_word 6 (some FieldType.int) [(0, 12, 15, 13), (0, 12, 19, 15)]) ∈ rg_T := rg_m2 (List.mem_of_getElem? (i := 28) rfl) rfl
theorem tw_k_L_13 : (Cond.classLink "RengaHallLaw" 13 "java/lang/IllegalArgumentException") ∈ rg_T := rg_m2 (List.mem_of_getElem? (i := 29) rfl) rfl
theorem tw_k_L_15 : (Cond.classLink "RengaHallLaw" 15 "java/lang/IllegalStateException") ∈ rg_T := rg_m2 (List.mem_of_getElem? (i := 30) rfl) rfl
theorem tw_m_L_7 : (Cond.methodLink "RengaHallLaw" 7 yX6_word) ∈ rg_T := rg_m2 (List.mem_of_getElem? (i := 31) rfl) rfl
theorem tw_i_X6_word : (Cond.instanceMethod yX6_word) ∈ rg_T := rg_m2 (List.mem_of_getElem? (i := 32) rfl) rfl
theorem tw_v_X6_word : (Cond.selects "RengaHall" yX6_word yX6_word) ∈ rg_T := rg_m2 (List.mem_of_getElem? (i := 33) rfl) rfl
theorem tw_c_X6_word : (Cond.code yX6_word cX6_word 4 (some FieldType.int)) ∈ rg_T := rg_m2 (List.mem_of_getElem? (i := 34) rfl) rfl
theorem tw_m_X6_68 : (Cond.methodLink "RengaHall" 68 yX6_needRange) ∈ rg_T := rg_m2 (List.mem_of_getElem? (i := 35) rfl) rfl
theorem tw_i_X6_needRange : (Cond.instanceMethod yX6_needRange) ∈ rg_T := rg_m2 (List.mem_of_getElem? (i := 37) rfl) rfl
theorem tw_c_X6_needRange : (Cond.code yX6_needRange cX6_needRange 4 none) ∈ rg_T := rg_m2 (List.mem_of_getElem? (i := 38) rfl) rfl
theorem tw_k_X6_91 : (Cond.classLink "RengaHall" 91 "java/lang/IllegalArgumentException") ∈ rg_T := rg_m2 (List.mem_of_getElem? (i := 39) rfl) rfl
theorem tw_m_X6_95 : (Cond.methodLink "RengaHall" 95 ⟨"java/lang/IllegalArgumentException", "<init>", "(Ljava/lang/String;)V"⟩) ∈ rg_T := rg_m2 (List.mem_of_getElem? (i := 81) rfl) rfl
theorem tw_a_byte : (Cond.arrayClass FieldType.byte) ∈ rg_T := rg_m2 (List.mem_of_getElem? (i := 106) rfl) rfl
theorem tw_m_X6_72 : (Cond.methodLink "RengaHall" 72 yX4_isFull) ∈ rg_T := rg_m2 (List.mem_of_getElem? (i := 107) rfl) rfl
theorem tw_i_X4_isFull : (Cond.instanceMethod yX4_isFull) ∈ rg_T := rg_m2 (List.mem_of_getElem? (i := 108) rfl) rfl
theorem tw_v_X4_isFull : (Cond.selects "RengaHall$Stock" yX4_isFull yX4_isFull) ∈ rg_T := rg_m2 (List.mem_of_getElem? (i := 109) rfl) rfl
theorem tw_c_X4_isFull : (Cond.code yX4_isFull cX4_isFull 1 (some FieldType.boolean)) ∈ rg_T := rg_m2 (List.mem_of_getElem? (i := 110) rfl) rfl
theorem tw_k_X6_76 : (Cond.classLink "RengaHall" 76 "java/lang/IllegalStateException") ∈ rg_T := rg_m2 (List.mem_of_getElem? (i := 111) rfl) rfl
theorem tw_m_X6_80 : (Cond.methodLink "RengaHall" 80 ⟨"java/lang/IllegalStateException", "<init>", "(Ljava/lang/String;)V"⟩) ∈ rg_T := rg_m2 (List.mem_of_getElem? (i := 121) rfl) rfl
theorem tw_m_X6_83 : (Cond.methodLink "RengaHall" 83 yX4_put) ∈ rg_T := rg_m2 (List.mem_of_getElem? (i := 127) rfl) rfl
theorem tw_i_X4_put : (Cond.instanceMethod yX4_put) ∈ rg_T := rg_m2 (List.mem_of_getElem? (i := 128) rfl) rfl
theorem tw_v_X4_put : (Cond.selects "RengaHall$Stock" yX4_put yX4_put) ∈ rg_T := rg_m2 (List.mem_of_getElem? (i := 129) rfl) rfl
theorem tw_c_X4_put : (Cond.code yX4_put cX4_put 4 (some FieldType.int)) ∈ rg_T := rg_m2 (List.mem_of_getElem? (i := 130) rfl) rfl
theorem tw_m_X4_29 : (Cond.methodLink "RengaHall$Stock" 29 yX4_isFull) ∈ rg_T := rg_m2 (List.mem_of_getElem? (i := 131) rfl) rfl
theorem tw_m_L_96 : (Cond.methodLink "RengaHallLaw" 96 yL_call) ∈ rg_T := rg_m2 (List.mem_of_getElem? (i := 132) rfl) rfl
theorem tw_s_L_call : (Cond.static yL_call) ∈ rg_T := rg_m2 (List.mem_of_getElem? (i := 133) rfl) rfl
theorem tw_c_L_call : (Cond.codeWith yL_call cL_call 5 (some FieldType.int) [(0, 17, 20, 21), (0, 17, 24, 13)]) ∈ rg_T := rg_m2 (List.mem_of_getElem? (i := 134) rfl) rfl
theorem tw_k_L_21 : (Cond.classLink "RengaHallLaw" 21 "java/lang/IndexOutOfBoundsException") ∈ rg_T := rg_m2 (List.mem_of_getElem? (i := 135) rfl) rfl
theorem tw_m_L_17 : (Cond.methodLink "RengaHallLaw" 17 yX6_call) ∈ rg_T := rg_m2 (List.mem_of_getElem? (i := 136) rfl) rfl
theorem tw_i_X6_call : (Cond.instanceMethod yX6_call) ∈ rg_T := rg_m2 (List.mem_of_getElem? (i := 137) rfl) rfl
theorem tw_v_X6_call : (Cond.selects "RengaHall" yX6_call yX6_call) ∈ rg_T := rg_m2 (List.mem_of_getElem? (i := 138) rfl) rfl
theorem tw_c_X6_call : (Cond.code yX6_call cX6_call 3 (some FieldType.boolean)) ∈ rg_T := rg_m2 (List.mem_of_getElem? (i := 139) rfl) rfl
theorem tw_m_X6_87 : (Cond.methodLink "RengaHall" 87 yX6_needWord) ∈ rg_T := rg_m2 (List.mem_of_getElem? (i := 140) rfl) rfl
theorem tw_i_X6_needWord : (Cond.instanceMethod yX6_needWord) ∈ rg_T := rg_m2 (List.mem_of_getElem? (i := 142) rfl) rfl
theorem tw_c_X6_needWord : (Cond.code yX6_needWord cX6_needWord 2 none) ∈ rg_T := rg_m2 (List.mem_of_getElem? (i := 143) rfl) rfl
theorem tw_m_X6_273 : (Cond.methodLink "RengaHall" 273 yX4_has) ∈ rg_T := rg_m2 (List.mem_of_getElem? (i := 144) rfl) rfl
theorem tw_i_X4_has : (Cond.instanceMethod yX4_has) ∈ rg_T := rg_m2 (List.mem_of_getElem? (i := 145) rfl) rfl
theorem tw_v_X4_has : (Cond.selects "RengaHall$Stock" yX4_has yX4_has) ∈ rg_T := rg_m2 (List.mem_of_getElem? (i := 146) rfl) rfl
theorem tw_c_X4_has : (Cond.code yX4_has cX4_has 2 (some FieldType.boolean)) ∈ rg_T := rg_m2 (List.mem_of_getElem? (i := 147) rfl) rfl
theorem tw_k_X6_126 : (Cond.classLink "RengaHall" 126 "java/lang/IndexOutOfBoundsException") ∈ rg_T := rg_m2 (List.mem_of_getElem? (i := 148) rfl) rfl
theorem tw_m_X6_130 : (Cond.methodLink "RengaHall" 130 ⟨"java/lang/IndexOutOfBoundsException", "<init>", "(Ljava/lang/String;)V"⟩) ∈ rg_T := rg_m2 (List.mem_of_getElem? (i := 158) rfl) rfl
theorem tw_m_X6_96 : (Cond.methodLink "RengaHall" 96 yX4_bind) ∈ rg_T := rg_m2 (List.mem_of_getElem? (i := 165) rfl) rfl
theorem tw_i_X4_bind : (Cond.instanceMethod yX4_bind) ∈ rg_T := rg_m2 (List.mem_of_getElem? (i := 166) rfl) rfl
theorem tw_v_X4_bind : (Cond.selects "RengaHall$Stock" yX4_bind yX4_bind) ∈ rg_T := rg_m2 (List.mem_of_getElem? (i := 167) rfl) rfl
theorem tw_c_X4_bind : (Cond.code yX4_bind cX4_bind 4 (some FieldType.boolean)) ∈ rg_T := rg_m2 (List.mem_of_getElem? (i := 168) rfl) rfl
theorem tw_m_X4_33 : (Cond.methodLink "RengaHall$Stock" 33 yX4_has) ∈ rg_T := rg_m2 (List.mem_of_getElem? (i := 169) rfl) rfl
theorem tw_m_L_100 : (Cond.methodLink "RengaHallLaw" 100 yL_poet) ∈ rg_T := rg_m2 (List.mem_of_getElem? (i := 170) rfl) rfl
theorem tw_s_L_poet : (Cond.static yL_poet) ∈ rg_T := rg_m2 (List.mem_of_getElem? (i := 171) rfl) rfl
theorem tw_c_L_poet : (Cond.codeWith yL_poet cL_poet 3 (some FieldType.int) [(0, 8, 11, 15)]) ∈ rg_T := rg_m2 (List.mem_of_getElem? (i := 172) rfl) rfl
theorem tw_m_L_23 : (Cond.methodLink "RengaHallLaw" 23 yX6_poet) ∈ rg_T := rg_m2 (List.mem_of_getElem? (i := 173) rfl) rfl
theorem tw_i_X6_poet : (Cond.instanceMethod yX6_poet) ∈ rg_T := rg_m2 (List.mem_of_getElem? (i := 174) rfl) rfl
theorem tw_v_X6_poet : (Cond.selects "RengaHall" yX6_poet yX6_poet) ∈ rg_T := rg_m2 (List.mem_of_getElem? (i := 175) rfl) rfl
theorem tw_c_X6_poet : (Cond.code yX6_poet cX6_poet 1 (some FieldType.int)) ∈ rg_T := rg_m2 (List.mem_of_getElem? (i := 176) rfl) rfl
theorem tw_m_L_104 : (Cond.methodLink "RengaHallLaw" 104 yL_begin) ∈ rg_T := rg_m2 (List.mem_of_getElem? (i := 178) rfl) rfl
theorem tw_s_L_begin : (Cond.static yL_begin) ∈ rg_T := rg_m2 (List.mem_of_getElem? (i := 179) rfl) rfl
theorem tw_c_L_begin : (Cond.codeWith yL_begin cL_begin 6 (some FieldType.int) [(0, 9, 12, 13), (0, 9, 16, 15)]) ∈ rg_T := rg_m2 (List.mem_of_getElem? (i := 180) rfl) rfl
theorem tw_m_L_27 : (Cond.methodLink "RengaHallLaw" 27 yX6_begin) ∈ rg_T := rg_m2 (List.mem_of_getElem? (i := 181) rfl) rfl
theorem tw_i_X6_begin : (Cond.instanceMethod yX6_begin) ∈ rg_T := rg_m2 (List.mem_of_getElem? (i := 182) rfl) rfl
theorem tw_v_X6_begin : (Cond.selects "RengaHall" yX6_begin yX6_begin) ∈ rg_T := rg_m2 (List.mem_of_getElem? (i := 183) rfl) rfl
theorem tw_c_X6_begin : (Cond.code yX6_begin cX6_begin 5 none) ∈ rg_T := rg_m2 (List.mem_of_getElem? (i := 184) rfl) rfl
theorem tw_m_X6_105 : (Cond.methodLink "RengaHall" 105 yX1_isOpen) ∈ rg_T := rg_m2 (List.mem_of_getElem? (i := 185) rfl) rfl
theorem tw_i_X1_isOpen : (Cond.instanceMethod yX1_isOpen) ∈ rg_T := rg_m2 (List.mem_of_getElem? (i := 186) rfl) rfl
theorem tw_v_X1_isOpen : (Cond.selects "RengaHall$Poem" yX1_isOpen yX1_isOpen) ∈ rg_T := rg_m2 (List.mem_of_getElem? (i := 187) rfl) rfl
theorem tw_c_X1_isOpen : (Cond.code yX1_isOpen cX1_isOpen 1 (some FieldType.boolean)) ∈ rg_T := rg_m2 (List.mem_of_getElem? (i := 188) rfl) rfl
theorem tw_m_X6_113 : (Cond.methodLink "RengaHall" 113 yX1_restart) ∈ rg_T := rg_m2 (List.mem_of_getElem? (i := 190) rfl) rfl
theorem tw_i_X1_restart : (Cond.instanceMethod yX1_restart) ∈ rg_T := rg_m2 (List.mem_of_getElem? (i := 191) rfl) rfl
theorem tw_v_X1_restart : (Cond.selects "RengaHall$Poem" yX1_restart yX1_restart) ∈ rg_T := rg_m2 (List.mem_of_getElem? (i := 192) rfl) rfl
theorem tw_c_X1_restart : (Cond.code yX1_restart cX1_restart 6 none) ∈ rg_T := rg_m2 (List.mem_of_getElem? (i := 193) rfl) rfl
theorem tw_m_L_108 : (Cond.methodLink "RengaHallLaw" 108 yL_seat) ∈ rg_T := rg_m2 (List.mem_of_getElem? (i := 194) rfl) rfl
theorem tw_s_L_seat : (Cond.static yL_seat) ∈ rg_T := rg_m2 (List.mem_of_getElem? (i := 195) rfl) rfl
theorem tw_c_L_seat : (Cond.codeWith yL_seat cL_seat 5 (some FieldType.int) [(0, 10, 13, 21), (0, 10, 17, 13), (0, 10, 21, 15)]) ∈ rg_T := rg_m2 (List.mem_of_getElem? (i := 196) rfl) rfl
theorem tw_m_L_31 : (Cond.methodLink "RengaHallLaw" 31 yX6_seat) ∈ rg_T := rg_m2 (List.mem_of_getElem? (i := 197) rfl) rfl
theorem tw_i_X6_seat : (Cond.instanceMethod yX6_seat) ∈ rg_T := rg_m2 (List.mem_of_getElem? (i := 198) rfl) rfl
theorem tw_v_X6_seat : (Cond.selects "RengaHall" yX6_seat yX6_seat) ∈ rg_T := rg_m2 (List.mem_of_getElem? (i := 199) rfl) rfl
theorem tw_c_X6_seat : (Cond.code yX6_seat cX6_seat 4 (some FieldType.int)) ∈ rg_T := rg_m2 (List.mem_of_getElem? (i := 200) rfl) rfl
theorem tw_m_X6_131 : (Cond.methodLink "RengaHall" 131 yX6_needNoOffers) ∈ rg_T := rg_m2 (List.mem_of_getElem? (i := 202) rfl) rfl
theorem tw_i_X6_needNoOffers : (Cond.instanceMethod yX6_needNoOffers) ∈ rg_T := rg_m2 (List.mem_of_getElem? (i := 204) rfl) rfl
theorem tw_c_X6_needNoOffers : (Cond.code yX6_needNoOffers cX6_needNoOffers 1 none) ∈ rg_T := rg_m2 (List.mem_of_getElem? (i := 205) rfl) rfl
theorem tw_m_X6_134 : (Cond.methodLink "RengaHall" 134 yX1_seatAt) ∈ rg_T := rg_m2 (List.mem_of_getElem? (i := 207) rfl) rfl
theorem tw_i_X1_seatAt : (Cond.instanceMethod yX1_seatAt) ∈ rg_T := rg_m2 (List.mem_of_getElem? (i := 208) rfl) rfl
theorem tw_v_X1_seatAt : (Cond.selects "RengaHall$Poem" yX1_seatAt yX1_seatAt) ∈ rg_T := rg_m2 (List.mem_of_getElem? (i := 209) rfl) rfl
theorem tw_c_X1_seatAt : (Cond.code yX1_seatAt cX1_seatAt 2 (some FieldType.int)) ∈ rg_T := rg_m2 (List.mem_of_getElem? (i := 210) rfl) rfl
theorem tw_m_X6_138 : (Cond.methodLink "RengaHall" 138 yX1_setSeat) ∈ rg_T := rg_m2 (List.mem_of_getElem? (i := 211) rfl) rfl
theorem tw_i_X1_setSeat : (Cond.instanceMethod yX1_setSeat) ∈ rg_T := rg_m2 (List.mem_of_getElem? (i := 212) rfl) rfl
theorem tw_v_X1_setSeat : (Cond.selects "RengaHall$Poem" yX1_setSeat yX1_setSeat) ∈ rg_T := rg_m2 (List.mem_of_getElem? (i := 213) rfl) rfl
theorem tw_c_X1_setSeat : (Cond.code yX1_setSeat cX1_setSeat 3 none) ∈ rg_T := rg_m2 (List.mem_of_getElem? (i := 214) rfl) rfl
theorem tw_m_L_111 : (Cond.methodLink "RengaHallLaw" 111 yL_add) ∈ rg_T := rg_m2 (List.mem_of_getElem? (i := 215) rfl) rfl
theorem tw_s_L_add : (Cond.static yL_add) ∈ rg_T := rg_m2 (List.mem_of_getElem? (i := 216) rfl) rfl
theorem tw_c_L_add : (Cond.codeWith yL_add cL_add 4 (some FieldType.int) [(0, 9, 12, 21), (0, 9, 15, 15)]) ∈ rg_T := rg_m2 (List.mem_of_getElem? (i := 217) rfl) rfl
theorem tw_m_L_35 : (Cond.methodLink "RengaHallLaw" 35 yX6_add) ∈ rg_T := rg_m2 (List.mem_of_getElem? (i := 218) rfl) rfl
theorem tw_i_X6_add : (Cond.instanceMethod yX6_add) ∈ rg_T := rg_m2 (List.mem_of_getElem? (i := 219) rfl) rfl
theorem tw_v_X6_add : (Cond.selects "RengaHall" yX6_add yX6_add) ∈ rg_T := rg_m2 (List.mem_of_getElem? (i := 220) rfl) rfl
theorem tw_c_X6_add : (Cond.code yX6_add cX6_add 2 (some FieldType.int)) ∈ rg_T := rg_m2 (List.mem_of_getElem? (i := 221) rfl) rfl
theorem tw_m_X6_147 : (Cond.methodLink "RengaHall" 147 yX5_append) ∈ rg_T := rg_m2 (List.mem_of_getElem? (i := 223) rfl) rfl
theorem tw_i_X5_append : (Cond.instanceMethod yX5_append) ∈ rg_T := rg_m2 (List.mem_of_getElem? (i := 224) rfl) rfl
theorem tw_v_X5_append : (Cond.selects "RengaHall$Verse" yX5_append yX5_append) ∈ rg_T := rg_m2 (List.mem_of_getElem? (i := 225) rfl) rfl
theorem tw_c_X5_append : (Cond.code yX5_append cX5_append 3 none) ∈ rg_T := rg_m2 (List.mem_of_getElem? (i := 226) rfl) rfl
theorem tw_m_X5_32 : (Cond.methodLink "RengaHall$Verse" 32 yX4_has) ∈ rg_T := rg_m2 (List.mem_of_getElem? (i := 227) rfl) rfl
theorem tw_m_X5_38 : (Cond.methodLink "RengaHall$Verse" 38 yX4_soundsOf) ∈ rg_T := rg_m2 (List.mem_of_getElem? (i := 228) rfl) rfl
theorem tw_i_X4_soundsOf : (Cond.instanceMethod yX4_soundsOf) ∈ rg_T := rg_m2 (List.mem_of_getElem? (i := 229) rfl) rfl
theorem tw_v_X4_soundsOf : (Cond.selects "RengaHall$Stock" yX4_soundsOf yX4_soundsOf) ∈ rg_T := rg_m2 (List.mem_of_getElem? (i := 230) rfl) rfl
theorem tw_c_X4_soundsOf : (Cond.code yX4_soundsOf cX4_soundsOf 2 (some FieldType.int)) ∈ rg_T := rg_m2 (List.mem_of_getElem? (i := 231) rfl) rfl
theorem tw_m_X5_42 : (Cond.methodLink "RengaHall$Verse" 42 yX4_seasonOf) ∈ rg_T := rg_m2 (List.mem_of_getElem? (i := 232) rfl) rfl
theorem tw_i_X4_seasonOf : (Cond.instanceMethod yX4_seasonOf) ∈ rg_T := rg_m2 (List.mem_of_getElem? (i := 233) rfl) rfl
theorem tw_v_X4_seasonOf : (Cond.selects "RengaHall$Stock" yX4_seasonOf yX4_seasonOf) ∈ rg_T := rg_m2 (List.mem_of_getElem? (i := 234) rfl) rfl
theorem tw_c_X4_seasonOf : (Cond.code yX4_seasonOf cX4_seasonOf 2 (some FieldType.int)) ∈ rg_T := rg_m2 (List.mem_of_getElem? (i := 235) rfl) rfl
theorem tw_m_X5_45 : (Cond.methodLink "RengaHall$Verse" 45 yX4_signsOf) ∈ rg_T := rg_m2 (List.mem_of_getElem? (i := 236) rfl) rfl
theorem tw_i_X4_signsOf : (Cond.instanceMethod yX4_signsOf) ∈ rg_T := rg_m2 (List.mem_of_getElem? (i := 237) rfl) rfl
theorem tw_v_X4_signsOf : (Cond.selects "RengaHall$Stock" yX4_signsOf yX4_signsOf) ∈ rg_T := rg_m2 (List.mem_of_getElem? (i := 238) rfl) rfl
theorem tw_c_X4_signsOf : (Cond.code yX4_signsOf cX4_signsOf 2 (some FieldType.int)) ∈ rg_T := rg_m2 (List.mem_of_getElem? (i := 239) rfl) rfl
theorem tw_m_L_119 : (Cond.methodLink "RengaHallLaw" 119 yL_offer) ∈ rg_T := rg_m3 (List.mem_of_getElem? (i := 0) rfl) rfl
theorem tw_s_L_offer : (Cond.static yL_offer) ∈ rg_T := rg_m3 (List.mem_of_getElem? (i := 1) rfl) rfl
theorem tw_c_L_offer : (Cond.codeWith yL_offer cL_offer 4 (some FieldType.int) [(0, 9, 12, 21), (0, 9, 15, 15)]) ∈ rg_T := rg_m3 (List.mem_of_getElem? (i := 2) rfl) rfl
theorem tw_m_L_39 : (Cond.methodLink "RengaHallLaw" 39 yX6_offer) ∈ rg_T := rg_m3 (List.mem_of_getElem? (i := 3) rfl) rfl
theorem tw_i_X6_offer : (Cond.instanceMethod yX6_offer) ∈ rg_T := rg_m3 (List.mem_of_getElem? (i := 4) rfl) rfl
theorem tw_v_X6_offer : (Cond.selects "RengaHall" yX6_offer yX6_offer) ∈ rg_T := rg_m3 (List.mem_of_getElem? (i := 5) rfl) rfl
theorem tw_c_X6_offer : (Cond.code yX6_offer cX6_offer 3 (some FieldType.int)) ∈ rg_T := rg_m3 (List.mem_of_getElem? (i := 6) rfl) rfl
theorem tw_m_X6_154 : (Cond.methodLink "RengaHall" 154 yX6_needPoet) ∈ rg_T := rg_m3 (List.mem_of_getElem? (i := 7) rfl) rfl
theorem tw_i_X6_needPoet : (Cond.instanceMethod yX6_needPoet) ∈ rg_T := rg_m3 (List.mem_of_getElem? (i := 9) rfl) rfl
theorem tw_c_X6_needPoet : (Cond.code yX6_needPoet cX6_needPoet 2 none) ∈ rg_T := rg_m3 (List.mem_of_getElem? (i := 10) rfl) rfl
theorem tw_m_X6_161 : (Cond.methodLink "RengaHall" 161 yX2_firstFault) ∈ rg_T := rg_m3 (List.mem_of_getElem? (i := 14) rfl) rfl
theorem tw_i_X2_firstFault : (Cond.instanceMethod yX2_firstFault) ∈ rg_T := rg_m3 (List.mem_of_getElem? (i := 15) rfl) rfl
theorem tw_v_X2_firstFault : (Cond.selects "RengaHall$Scribe" yX2_firstFault yX2_firstFault) ∈ rg_T := rg_m3 (List.mem_of_getElem? (i := 16) rfl) rfl
theorem tw_c_X2_firstFault : (Cond.code yX2_firstFault cX2_firstFault 5 (some FieldType.int)) ∈ rg_T := rg_m3 (List.mem_of_getElem? (i := 17) rfl) rfl
theorem tw_m_X2_19 : (Cond.methodLink "RengaHall$Scribe" 19 yX2_causeOf) ∈ rg_T := rg_m3 (List.mem_of_getElem? (i := 18) rfl) rfl
theorem tw_i_X2_causeOf : (Cond.instanceMethod yX2_causeOf) ∈ rg_T := rg_m3 (List.mem_of_getElem? (i := 19) rfl) rfl
theorem tw_v_X2_causeOf : (Cond.selects "RengaHall$Scribe" yX2_causeOf yX2_causeOf) ∈ rg_T := rg_m3 (List.mem_of_getElem? (i := 20) rfl) rfl
theorem tw_c_X2_causeOf : (Cond.code yX2_causeOf cX2_causeOf 5 (some FieldType.int)) ∈ rg_T := rg_m3 (List.mem_of_getElem? (i := 21) rfl) rfl
theorem tw_m_X2_29 : (Cond.methodLink "RengaHall$Scribe" 29 yX1_soundsAt) ∈ rg_T := rg_m3 (List.mem_of_getElem? (i := 22) rfl) rfl
theorem tw_i_X1_soundsAt : (Cond.instanceMethod yX1_soundsAt) ∈ rg_T := rg_m3 (List.mem_of_getElem? (i := 23) rfl) rfl
theorem tw_v_X1_soundsAt : (Cond.selects "RengaHall$Poem" yX1_soundsAt yX1_soundsAt) ∈ rg_T := rg_m3 (List.mem_of_getElem? (i := 24) rfl) rfl
theorem tw_c_X1_soundsAt : (Cond.code yX1_soundsAt cX1_soundsAt 2 (some FieldType.int)) ∈ rg_T := rg_m3 (List.mem_of_getElem? (i := 25) rfl) rfl
theorem tw_m_X2_35 : (Cond.methodLink "RengaHall$Scribe" 35 yX2_unlikeSeasonPlace) ∈ rg_T := rg_m3 (List.mem_of_getElem? (i := 26) rfl) rfl
theorem tw_i_X2_unlikeSeasonPlace : (Cond.instanceMethod yX2_unlikeSeasonPlace) ∈ rg_T := rg_m3 (List.mem_of_getElem? (i := 28) rfl) rfl
theorem tw_c_X2_unlikeSeasonPlace : (Cond.code yX2_unlikeSeasonPlace cX2_unlikeSeasonPlace 4 (some FieldType.int)) ∈ rg_T := rg_m3 (List.mem_of_getElem? (i := 29) rfl) rfl
theorem tw_m_X2_75 : (Cond.methodLink "RengaHall$Scribe" 75 yX5_wordOrNone) ∈ rg_T := rg_m3 (List.mem_of_getElem? (i := 30) rfl) rfl
theorem tw_i_X5_wordOrNone : (Cond.instanceMethod yX5_wordOrNone) ∈ rg_T := rg_m3 (List.mem_of_getElem? (i := 31) rfl) rfl
theorem tw_v_X5_wordOrNone : (Cond.selects "RengaHall$Verse" yX5_wordOrNone yX5_wordOrNone) ∈ rg_T := rg_m3 (List.mem_of_getElem? (i := 32) rfl) rfl
theorem tw_c_X5_wordOrNone : (Cond.code yX5_wordOrNone cX5_wordOrNone 2 (some FieldType.int)) ∈ rg_T := rg_m3 (List.mem_of_getElem? (i := 33) rfl) rfl
theorem tw_m_X2_78 : (Cond.methodLink "RengaHall$Scribe" 78 yX4_seasonOf) ∈ rg_T := rg_m3 (List.mem_of_getElem? (i := 34) rfl) rfl
theorem tw_m_X2_39 : (Cond.methodLink "RengaHall$Scribe" 39 yX2_wordAgainPlace) ∈ rg_T := rg_m3 (List.mem_of_getElem? (i := 35) rfl) rfl
theorem tw_i_X2_wordAgainPlace : (Cond.instanceMethod yX2_wordAgainPlace) ∈ rg_T := rg_m3 (List.mem_of_getElem? (i := 37) rfl) rfl
theorem tw_c_X2_wordAgainPlace : (Cond.code yX2_wordAgainPlace cX2_wordAgainPlace 8 (some FieldType.int)) ∈ rg_T := rg_m3 (List.mem_of_getElem? (i := 38) rfl) rfl
theorem tw_m_X2_86 : (Cond.methodLink "RengaHall$Scribe" 86 yX1_wordSetAt) ∈ rg_T := rg_m3 (List.mem_of_getElem? (i := 39) rfl) rfl
theorem tw_i_X1_wordSetAt : (Cond.instanceMethod yX1_wordSetAt) ∈ rg_T := rg_m3 (List.mem_of_getElem? (i := 40) rfl) rfl
theorem tw_v_X1_wordSetAt : (Cond.selects "RengaHall$Poem" yX1_wordSetAt yX1_wordSetAt) ∈ rg_T := rg_m3 (List.mem_of_getElem? (i := 41) rfl) rfl
theorem tw_c_X1_wordSetAt : (Cond.code yX1_wordSetAt cX1_wordSetAt 2 (some FieldType.long)) ∈ rg_T := rg_m3 (List.mem_of_getElem? (i := 42) rfl) rfl
theorem tw_m_X2_43 : (Cond.methodLink "RengaHall$Scribe" 43 yX1_makerAt) ∈ rg_T := rg_m3 (List.mem_of_getElem? (i := 43) rfl) rfl
theorem tw_m_X2_46 : (Cond.methodLink "RengaHall$Scribe" 46 yX2_joins) ∈ rg_T := rg_m3 (List.mem_of_getElem? (i := 44) rfl) rfl
theorem tw_i_X2_joins : (Cond.instanceMethod yX2_joins) ∈ rg_T := rg_m3 (List.mem_of_getElem? (i := 46) rfl) rfl
theorem tw_c_X2_joins : (Cond.code yX2_joins cX2_joins 6 (some FieldType.boolean)) ∈ rg_T := rg_m3 (List.mem_of_getElem? (i := 47) rfl) rfl
theorem tw_m_X2_53 : (Cond.methodLink "RengaHall$Scribe" 53 yX1_signsAt) ∈ rg_T := rg_m3 (List.mem_of_getElem? (i := 48) rfl) rfl
theorem tw_i_X1_signsAt : (Cond.instanceMethod yX1_signsAt) ∈ rg_T := rg_m3 (List.mem_of_getElem? (i := 49) rfl) rfl
theorem tw_v_X1_signsAt : (Cond.selects "RengaHall$Poem" yX1_signsAt yX1_signsAt) ∈ rg_T := rg_m3 (List.mem_of_getElem? (i := 50) rfl) rfl
theorem tw_c_X1_signsAt : (Cond.code yX1_signsAt cX1_signsAt 2 (some FieldType.int)) ∈ rg_T := rg_m3 (List.mem_of_getElem? (i := 51) rfl) rfl
theorem tw_m_X2_90 : (Cond.methodLink "RengaHall$Scribe" 90 yX4_calledBy) ∈ rg_T := rg_m3 (List.mem_of_getElem? (i := 52) rfl) rfl
theorem tw_i_X4_calledBy : (Cond.instanceMethod yX4_calledBy) ∈ rg_T := rg_m3 (List.mem_of_getElem? (i := 53) rfl) rfl
theorem tw_v_X4_calledBy : (Cond.selects "RengaHall$Stock" yX4_calledBy yX4_calledBy) ∈ rg_T := rg_m3 (List.mem_of_getElem? (i := 54) rfl) rfl
theorem tw_c_X4_calledBy : (Cond.code yX4_calledBy cX4_calledBy 2 (some FieldType.long)) ∈ rg_T := rg_m3 (List.mem_of_getElem? (i := 55) rfl) rfl
theorem tw_m_X2_56 : (Cond.methodLink "RengaHall$Scribe" 56 yX2_lowestSubject) ∈ rg_T := rg_m3 (List.mem_of_getElem? (i := 56) rfl) rfl
theorem tw_i_X2_lowestSubject : (Cond.instanceMethod yX2_lowestSubject) ∈ rg_T := rg_m3 (List.mem_of_getElem? (i := 58) rfl) rfl
theorem tw_c_X2_lowestSubject : (Cond.code yX2_lowestSubject cX2_lowestSubject 3 (some FieldType.int)) ∈ rg_T := rg_m3 (List.mem_of_getElem? (i := 59) rfl) rfl
theorem tw_m_X2_62 : (Cond.methodLink "RengaHall$Scribe" 62 yX2_wrongSeason) ∈ rg_T := rg_m3 (List.mem_of_getElem? (i := 60) rfl) rfl
theorem tw_i_X2_wrongSeason : (Cond.instanceMethod yX2_wrongSeason) ∈ rg_T := rg_m3 (List.mem_of_getElem? (i := 62) rfl) rfl
theorem tw_c_X2_wrongSeason : (Cond.code yX2_wrongSeason cX2_wrongSeason 5 (some FieldType.int)) ∈ rg_T := rg_m3 (List.mem_of_getElem? (i := 63) rfl) rfl
theorem tw_m_X2_93 : (Cond.methodLink "RengaHall$Scribe" 93 yX1_seasonAt) ∈ rg_T := rg_m3 (List.mem_of_getElem? (i := 64) rfl) rfl
theorem tw_i_X1_seasonAt : (Cond.instanceMethod yX1_seasonAt) ∈ rg_T := rg_m3 (List.mem_of_getElem? (i := 65) rfl) rfl
theorem tw_v_X1_seasonAt : (Cond.selects "RengaHall$Poem" yX1_seasonAt yX1_seasonAt) ∈ rg_T := rg_m3 (List.mem_of_getElem? (i := 66) rfl) rfl
theorem tw_c_X1_seasonAt : (Cond.code yX1_seasonAt cX1_seasonAt 2 (some FieldType.int)) ∈ rg_T := rg_m3 (List.mem_of_getElem? (i := 67) rfl) rfl
theorem tw_m_X2_96 : (Cond.methodLink "RengaHall$Scribe" 96 yX1_runAt) ∈ rg_T := rg_m3 (List.mem_of_getElem? (i := 68) rfl) rfl
theorem tw_i_X1_runAt : (Cond.instanceMethod yX1_runAt) ∈ rg_T := rg_m3 (List.mem_of_getElem? (i := 69) rfl) rfl
theorem tw_v_X1_runAt : (Cond.selects "RengaHall$Poem" yX1_runAt yX1_runAt) ∈ rg_T := rg_m3 (List.mem_of_getElem? (i := 70) rfl) rfl
theorem tw_c_X1_runAt : (Cond.code yX1_runAt cX1_runAt 5 (some FieldType.int)) ∈ rg_T := rg_m3 (List.mem_of_getElem? (i := 71) rfl) rfl
theorem tw_m_X1_75 : (Cond.methodLink "RengaHall$Poem" 75 yX1_seasonAt) ∈ rg_T := rg_m3 (List.mem_of_getElem? (i := 72) rfl) rfl
theorem tw_m_X2_99 : (Cond.methodLink "RengaHall$Scribe" 99 yX2_leastRun) ∈ rg_T := rg_m3 (List.mem_of_getElem? (i := 73) rfl) rfl
theorem tw_i_X2_leastRun : (Cond.instanceMethod yX2_leastRun) ∈ rg_T := rg_m3 (List.mem_of_getElem? (i := 75) rfl) rfl
theorem tw_c_X2_leastRun : (Cond.code yX2_leastRun cX2_leastRun 2 (some FieldType.int)) ∈ rg_T := rg_m3 (List.mem_of_getElem? (i := 76) rfl) rfl
theorem tw_m_X2_109 : (Cond.methodLink "RengaHall$Scribe" 109 yX2_isLong) ∈ rg_T := rg_m3 (List.mem_of_getElem? (i := 77) rfl) rfl
theorem tw_i_X2_isLong : (Cond.instanceMethod yX2_isLong) ∈ rg_T := rg_m3 (List.mem_of_getElem? (i := 79) rfl) rfl
theorem tw_c_X2_isLong : (Cond.code yX2_isLong cX2_isLong 2 (some FieldType.boolean)) ∈ rg_T := rg_m3 (List.mem_of_getElem? (i := 80) rfl) rfl
theorem tw_m_X2_102 : (Cond.methodLink "RengaHall$Scribe" 102 yX2_mostRun) ∈ rg_T := rg_m3 (List.mem_of_getElem? (i := 81) rfl) rfl
theorem tw_i_X2_mostRun : (Cond.instanceMethod yX2_mostRun) ∈ rg_T := rg_m3 (List.mem_of_getElem? (i := 83) rfl) rfl
theorem tw_c_X2_mostRun : (Cond.code yX2_mostRun cX2_mostRun 2 (some FieldType.int)) ∈ rg_T := rg_m3 (List.mem_of_getElem? (i := 84) rfl) rfl
theorem tw_m_X2_105 : (Cond.methodLink "RengaHall$Scribe" 105 yX2_isLately) ∈ rg_T := rg_m3 (List.mem_of_getElem? (i := 85) rfl) rfl
theorem tw_i_X2_isLately : (Cond.instanceMethod yX2_isLately) ∈ rg_T := rg_m3 (List.mem_of_getElem? (i := 87) rfl) rfl
theorem tw_c_X2_isLately : (Cond.code yX2_isLately cX2_isLately 4 (some FieldType.boolean)) ∈ rg_T := rg_m3 (List.mem_of_getElem? (i := 88) rfl) rfl
theorem tw_m_X2_66 : (Cond.methodLink "RengaHall$Scribe" 66 yX1_seatAt) ∈ rg_T := rg_m3 (List.mem_of_getElem? (i := 89) rfl) rfl
theorem tw_m_X2_69 : (Cond.methodLink "RengaHall$Scribe" 69 yX2_wrongSeat) ∈ rg_T := rg_m3 (List.mem_of_getElem? (i := 90) rfl) rfl
theorem tw_i_X2_wrongSeat : (Cond.instanceMethod yX2_wrongSeat) ∈ rg_T := rg_m3 (List.mem_of_getElem? (i := 92) rfl) rfl
theorem tw_c_X2_wrongSeat : (Cond.code yX2_wrongSeat cX2_wrongSeat 5 (some FieldType.int)) ∈ rg_T := rg_m3 (List.mem_of_getElem? (i := 93) rfl) rfl
theorem tw_m_X6_165 : (Cond.methodLink "RengaHall" 165 yX2_causeOf) ∈ rg_T := rg_m3 (List.mem_of_getElem? (i := 94) rfl) rfl
theorem tw_m_X6_169 : (Cond.methodLink "RengaHall" 169 yX5_take) ∈ rg_T := rg_m3 (List.mem_of_getElem? (i := 95) rfl) rfl
theorem tw_i_X5_take : (Cond.instanceMethod yX5_take) ∈ rg_T := rg_m3 (List.mem_of_getElem? (i := 96) rfl) rfl
theorem tw_v_X5_take : (Cond.selects "RengaHall$Verse" yX5_take yX5_take) ∈ rg_T := rg_m3 (List.mem_of_getElem? (i := 97) rfl) rfl
theorem tw_c_X5_take : (Cond.code yX5_take cX5_take 3 none) ∈ rg_T := rg_m3 (List.mem_of_getElem? (i := 98) rfl) rfl
theorem tw_m_X5_48 : (Cond.methodLink "RengaHall$Verse" 48 yX5_takeMended) ∈ rg_T := rg_m3 (List.mem_of_getElem? (i := 99) rfl) rfl
theorem tw_i_X5_takeMended : (Cond.instanceMethod yX5_takeMended) ∈ rg_T := rg_m3 (List.mem_of_getElem? (i := 100) rfl) rfl
theorem tw_v_X5_takeMended : (Cond.selects "RengaHall$Verse" yX5_takeMended yX5_takeMended) ∈ rg_T := rg_m3 (List.mem_of_getElem? (i := 101) rfl) rfl
theorem tw_c_X5_takeMended : (Cond.code yX5_takeMended cX5_takeMended 6 none) ∈ rg_T := rg_m3 (List.mem_of_getElem? (i := 102) rfl) rfl
theorem tw_m_X5_52 : (Cond.methodLink "RengaHall$Verse" 52 yX5_empty) ∈ rg_T := rg_m3 (List.mem_of_getElem? (i := 103) rfl) rfl
theorem tw_m_X5_55 : (Cond.methodLink "RengaHall$Verse" 55 yX5_wordOrNone) ∈ rg_T := rg_m3 (List.mem_of_getElem? (i := 104) rfl) rfl
theorem tw_m_X5_58 : (Cond.methodLink "RengaHall$Verse" 58 yX5_append) ∈ rg_T := rg_m3 (List.mem_of_getElem? (i := 105) rfl) rfl
theorem tw_m_L_126 : (Cond.methodLink "RengaHallLaw" 126 yL_choose) ∈ rg_T := rg_m3 (List.mem_of_getElem? (i := 106) rfl) rfl
theorem tw_s_L_choose : (Cond.static yL_choose) ∈ rg_T := rg_m3 (List.mem_of_getElem? (i := 107) rfl) rfl
theorem tw_c_L_choose : (Cond.codeWith yL_choose cL_choose 4 (some FieldType.int) [(0, 9, 12, 21)]) ∈ rg_T := rg_m3 (List.mem_of_getElem? (i := 108) rfl) rfl
theorem tw_m_L_42 : (Cond.methodLink "RengaHallLaw" 42 yX6_choose) ∈ rg_T := rg_m3 (List.mem_of_getElem? (i := 109) rfl) rfl
theorem tw_i_X6_choose : (Cond.instanceMethod yX6_choose) ∈ rg_T := rg_m3 (List.mem_of_getElem? (i := 110) rfl) rfl
theorem tw_v_X6_choose : (Cond.selects "RengaHall" yX6_choose yX6_choose) ∈ rg_T := rg_m3 (List.mem_of_getElem? (i := 111) rfl) rfl
theorem tw_c_X6_choose : (Cond.code yX6_choose cX6_choose 2 (some FieldType.int)) ∈ rg_T := rg_m3 (List.mem_of_getElem? (i := 112) rfl) rfl
theorem tw_m_X6_175 : (Cond.methodLink "RengaHall" 175 yX1_extend) ∈ rg_T := rg_m3 (List.mem_of_getElem? (i := 114) rfl) rfl
theorem tw_i_X1_extend : (Cond.instanceMethod yX1_extend) ∈ rg_T := rg_m3 (List.mem_of_getElem? (i := 115) rfl) rfl
theorem tw_v_X1_extend : (Cond.selects "RengaHall$Poem" yX1_extend yX1_extend) ∈ rg_T := rg_m3 (List.mem_of_getElem? (i := 116) rfl) rfl
theorem tw_c_X1_extend : (Cond.code yX1_extend cX1_extend 5 none) ∈ rg_T := rg_m3 (List.mem_of_getElem? (i := 117) rfl) rfl
theorem tw_m_X1_53 : (Cond.methodLink "RengaHall$Poem" 53 yX5_take) ∈ rg_T := rg_m3 (List.mem_of_getElem? (i := 118) rfl) rfl
theorem tw_m_L_129 : (Cond.methodLink "RengaHallLaw" 129 yL_mend) ∈ rg_T := rg_m3 (List.mem_of_getElem? (i := 119) rfl) rfl
theorem tw_s_L_mend : (Cond.static yL_mend) ∈ rg_T := rg_m3 (List.mem_of_getElem? (i := 120) rfl) rfl
theorem tw_c_L_mend : (Cond.codeWith yL_mend cL_mend 5 (some FieldType.int) [(0, 10, 13, 21), (0, 10, 17, 15)]) ∈ rg_T := rg_m3 (List.mem_of_getElem? (i := 121) rfl) rfl
theorem tw_m_L_45 : (Cond.methodLink "RengaHallLaw" 45 yX6_mend) ∈ rg_T := rg_m3 (List.mem_of_getElem? (i := 122) rfl) rfl
theorem tw_i_X6_mend : (Cond.instanceMethod yX6_mend) ∈ rg_T := rg_m3 (List.mem_of_getElem? (i := 123) rfl) rfl
theorem tw_v_X6_mend : (Cond.selects "RengaHall" yX6_mend yX6_mend) ∈ rg_T := rg_m3 (List.mem_of_getElem? (i := 124) rfl) rfl
theorem tw_c_X6_mend : (Cond.code yX6_mend cX6_mend 5 (some FieldType.int)) ∈ rg_T := rg_m3 (List.mem_of_getElem? (i := 125) rfl) rfl
theorem tw_m_X6_179 : (Cond.methodLink "RengaHall" 179 yX6_needLink) ∈ rg_T := rg_m3 (List.mem_of_getElem? (i := 126) rfl) rfl
theorem tw_i_X6_needLink : (Cond.instanceMethod yX6_needLink) ∈ rg_T := rg_m3 (List.mem_of_getElem? (i := 128) rfl) rfl
theorem tw_c_X6_needLink : (Cond.code yX6_needLink cX6_needLink 2 none) ∈ rg_T := rg_m3 (List.mem_of_getElem? (i := 129) rfl) rfl
theorem tw_m_X6_281 : (Cond.methodLink "RengaHall" 281 yX1_has) ∈ rg_T := rg_m3 (List.mem_of_getElem? (i := 130) rfl) rfl
theorem tw_m_X6_182 : (Cond.methodLink "RengaHall" 182 yX6_needPlace) ∈ rg_T := rg_m3 (List.mem_of_getElem? (i := 132) rfl) rfl
theorem tw_i_X6_needPlace : (Cond.instanceMethod yX6_needPlace) ∈ rg_T := rg_m3 (List.mem_of_getElem? (i := 134) rfl) rfl
theorem tw_c_X6_needPlace : (Cond.code yX6_needPlace cX6_needPlace 3 none) ∈ rg_T := rg_m3 (List.mem_of_getElem? (i := 135) rfl) rfl
theorem tw_m_X6_242 : (Cond.methodLink "RengaHall" 242 yX1_wordOrNone) ∈ rg_T := rg_m3 (List.mem_of_getElem? (i := 136) rfl) rfl
theorem tw_i_X1_wordOrNone : (Cond.instanceMethod yX1_wordOrNone) ∈ rg_T := rg_m3 (List.mem_of_getElem? (i := 137) rfl) rfl
theorem tw_v_X1_wordOrNone : (Cond.selects "RengaHall$Poem" yX1_wordOrNone yX1_wordOrNone) ∈ rg_T := rg_m3 (List.mem_of_getElem? (i := 138) rfl) rfl
theorem tw_c_X1_wordOrNone : (Cond.code yX1_wordOrNone cX1_wordOrNone 3 (some FieldType.int)) ∈ rg_T := rg_m3 (List.mem_of_getElem? (i := 139) rfl) rfl
theorem tw_m_X1_71 : (Cond.methodLink "RengaHall$Poem" 71 yX5_wordOrNone) ∈ rg_T := rg_m3 (List.mem_of_getElem? (i := 140) rfl) rfl
theorem tw_m_X6_188 : (Cond.methodLink "RengaHall" 188 yX5_takeMended) ∈ rg_T := rg_m3 (List.mem_of_getElem? (i := 142) rfl) rfl
theorem tw_m_X6_192 : (Cond.methodLink "RengaHall" 192 yX1_mendLatest) ∈ rg_T := rg_m3 (List.mem_of_getElem? (i := 143) rfl) rfl
theorem tw_i_X1_mendLatest : (Cond.instanceMethod yX1_mendLatest) ∈ rg_T := rg_m3 (List.mem_of_getElem? (i := 144) rfl) rfl
theorem tw_v_X1_mendLatest : (Cond.selects "RengaHall$Poem" yX1_mendLatest yX1_mendLatest) ∈ rg_T := rg_m3 (List.mem_of_getElem? (i := 145) rfl) rfl
theorem tw_c_X1_mendLatest : (Cond.code yX1_mendLatest cX1_mendLatest 3 none) ∈ rg_T := rg_m3 (List.mem_of_getElem? (i := 146) rfl) rfl
theorem tw_m_L_132 : (Cond.methodLink "RengaHallLaw" 132 yL_give) ∈ rg_T := rg_m3 (List.mem_of_getElem? (i := 147) rfl) rfl
theorem tw_s_L_give : (Cond.static yL_give) ∈ rg_T := rg_m3 (List.mem_of_getElem? (i := 148) rfl) rfl
theorem tw_c_L_give : (Cond.codeWith yL_give cL_give 6 (some FieldType.int) [(0, 12, 15, 21), (0, 12, 19, 13)]) ∈ rg_T := rg_m3 (List.mem_of_getElem? (i := 149) rfl) rfl
theorem tw_m_L_48 : (Cond.methodLink "RengaHallLaw" 48 yX6_give) ∈ rg_T := rg_m3 (List.mem_of_getElem? (i := 150) rfl) rfl
theorem tw_i_X6_give : (Cond.instanceMethod yX6_give) ∈ rg_T := rg_m3 (List.mem_of_getElem? (i := 151) rfl) rfl
theorem tw_v_X6_give : (Cond.selects "RengaHall" yX6_give yX6_give) ∈ rg_T := rg_m3 (List.mem_of_getElem? (i := 152) rfl) rfl
theorem tw_c_X6_give : (Cond.code yX6_give cX6_give 5 (some FieldType.int)) ∈ rg_T := rg_m3 (List.mem_of_getElem? (i := 153) rfl) rfl
theorem tw_m_L_135 : (Cond.methodLink "RengaHallLaw" 135 yL_copy) ∈ rg_T := rg_m3 (List.mem_of_getElem? (i := 155) rfl) rfl
theorem tw_s_L_copy : (Cond.static yL_copy) ∈ rg_T := rg_m3 (List.mem_of_getElem? (i := 156) rfl) rfl
theorem tw_c_L_copy : (Cond.codeWith yL_copy cL_copy 4 (some FieldType.int) [(0, 9, 12, 21), (0, 9, 15, 15)]) ∈ rg_T := rg_m3 (List.mem_of_getElem? (i := 157) rfl) rfl
theorem tw_m_L_51 : (Cond.methodLink "RengaHallLaw" 51 yX6_copy) ∈ rg_T := rg_m3 (List.mem_of_getElem? (i := 158) rfl) rfl
theorem tw_i_X6_copy : (Cond.instanceMethod yX6_copy) ∈ rg_T := rg_m3 (List.mem_of_getElem? (i := 159) rfl) rfl
theorem tw_v_X6_copy : (Cond.selects "RengaHall" yX6_copy yX6_copy) ∈ rg_T := rg_m3 (List.mem_of_getElem? (i := 160) rfl) rfl
theorem tw_c_X6_copy : (Cond.code yX6_copy cX6_copy 2 (some FieldType.int)) ∈ rg_T := rg_m3 (List.mem_of_getElem? (i := 161) rfl) rfl
theorem tw_m_X6_201 : (Cond.methodLink "RengaHall" 201 yX6_needText) ∈ rg_T := rg_m3 (List.mem_of_getElem? (i := 162) rfl) rfl
theorem tw_i_X6_needText : (Cond.instanceMethod yX6_needText) ∈ rg_T := rg_m3 (List.mem_of_getElem? (i := 164) rfl) rfl
theorem tw_c_X6_needText : (Cond.code yX6_needText cX6_needText 2 none) ∈ rg_T := rg_m3 (List.mem_of_getElem? (i := 165) rfl) rfl
theorem tw_m_X6_213 : (Cond.methodLink "RengaHall" 213 yX6_needCopy) ∈ rg_T := rg_m3 (List.mem_of_getElem? (i := 166) rfl) rfl
theorem tw_i_X6_needCopy : (Cond.instanceMethod yX6_needCopy) ∈ rg_T := rg_m3 (List.mem_of_getElem? (i := 168) rfl) rfl
theorem tw_c_X6_needCopy : (Cond.code yX6_needCopy cX6_needCopy 2 none) ∈ rg_T := rg_m3 (List.mem_of_getElem? (i := 169) rfl) rfl
theorem tw_m_X6_204 : (Cond.methodLink "RengaHall" 204 yX6_needPoem) ∈ rg_T := rg_m3 (List.mem_of_getElem? (i := 171) rfl) rfl
theorem tw_i_X6_needPoem : (Cond.instanceMethod yX6_needPoem) ∈ rg_T := rg_m3 (List.mem_of_getElem? (i := 173) rfl) rfl
theorem tw_c_X6_needPoem : (Cond.code yX6_needPoem cX6_needPoem 1 none) ∈ rg_T := rg_m3 (List.mem_of_getElem? (i := 174) rfl) rfl
theorem tw_m_X6_288 : (Cond.methodLink "RengaHall" 288 yX1_isBegun) ∈ rg_T := rg_m3 (List.mem_of_getElem? (i := 175) rfl) rfl
theorem tw_i_X1_isBegun : (Cond.instanceMethod yX1_isBegun) ∈ rg_T := rg_m3 (List.mem_of_getElem? (i := 176) rfl) rfl
theorem tw_v_X1_isBegun : (Cond.selects "RengaHall$Poem" yX1_isBegun yX1_isBegun) ∈ rg_T := rg_m3 (List.mem_of_getElem? (i := 177) rfl) rfl
theorem tw_c_X1_isBegun : (Cond.code yX1_isBegun cX1_isBegun 1 (some FieldType.boolean)) ∈ rg_T := rg_m3 (List.mem_of_getElem? (i := 178) rfl) rfl
theorem tw_m_X6_209 : (Cond.methodLink "RengaHall" 209 yX6_fillSheet) ∈ rg_T := rg_m3 (List.mem_of_getElem? (i := 181) rfl) rfl
theorem tw_i_X6_fillSheet : (Cond.instanceMethod yX6_fillSheet) ∈ rg_T := rg_m3 (List.mem_of_getElem? (i := 183) rfl) rfl
theorem tw_c_X6_fillSheet : (Cond.code yX6_fillSheet cX6_fillSheet 5 none) ∈ rg_T := rg_m3 (List.mem_of_getElem? (i := 184) rfl) rfl
theorem tw_m_X6_216 : (Cond.methodLink "RengaHall" 216 yX6_textWord) ∈ rg_T := rg_m3 (List.mem_of_getElem? (i := 185) rfl) rfl
theorem tw_i_X6_textWord : (Cond.instanceMethod yX6_textWord) ∈ rg_T := rg_m3 (List.mem_of_getElem? (i := 187) rfl) rfl
theorem tw_c_X6_textWord : (Cond.code yX6_textWord cX6_textWord 5 (some FieldType.int)) ∈ rg_T := rg_m3 (List.mem_of_getElem? (i := 188) rfl) rfl
theorem tw_m_X6_309 : (Cond.methodLink "RengaHall" 309 yX3_wordOrNone) ∈ rg_T := rg_m3 (List.mem_of_getElem? (i := 189) rfl) rfl
theorem tw_i_X3_wordOrNone : (Cond.instanceMethod yX3_wordOrNone) ∈ rg_T := rg_m3 (List.mem_of_getElem? (i := 190) rfl) rfl
theorem tw_v_X3_wordOrNone : (Cond.selects "RengaHall$Sheet" yX3_wordOrNone yX3_wordOrNone) ∈ rg_T := rg_m3 (List.mem_of_getElem? (i := 191) rfl) rfl
theorem tw_c_X3_wordOrNone : (Cond.code yX3_wordOrNone cX3_wordOrNone 3 (some FieldType.int)) ∈ rg_T := rg_m3 (List.mem_of_getElem? (i := 192) rfl) rfl
theorem tw_m_X3_16 : (Cond.methodLink "RengaHall$Sheet" 16 yX3_isOnSheet) ∈ rg_T := rg_m3 (List.mem_of_getElem? (i := 193) rfl) rfl
theorem tw_i_X3_isOnSheet : (Cond.instanceMethod yX3_isOnSheet) ∈ rg_T := rg_m3 (List.mem_of_getElem? (i := 195) rfl) rfl
theorem tw_c_X3_isOnSheet : (Cond.code yX3_isOnSheet cX3_isOnSheet 3 (some FieldType.boolean)) ∈ rg_T := rg_m3 (List.mem_of_getElem? (i := 196) rfl) rfl
theorem tw_m_X6_221 : (Cond.methodLink "RengaHall" 221 yX3_put) ∈ rg_T := rg_m3 (List.mem_of_getElem? (i := 197) rfl) rfl
theorem tw_i_X3_put : (Cond.instanceMethod yX3_put) ∈ rg_T := rg_m3 (List.mem_of_getElem? (i := 198) rfl) rfl
theorem tw_v_X3_put : (Cond.selects "RengaHall$Sheet" yX3_put yX3_put) ∈ rg_T := rg_m3 (List.mem_of_getElem? (i := 199) rfl) rfl
theorem tw_c_X3_put : (Cond.code yX3_put cX3_put 4 none) ∈ rg_T := rg_m3 (List.mem_of_getElem? (i := 200) rfl) rfl
theorem tw_m_L_138 : (Cond.methodLink "RengaHallLaw" 138 yL_write) ∈ rg_T := rg_m3 (List.mem_of_getElem? (i := 201) rfl) rfl
theorem tw_s_L_write : (Cond.static yL_write) ∈ rg_T := rg_m3 (List.mem_of_getElem? (i := 202) rfl) rfl
theorem tw_c_L_write : (Cond.codeWith yL_write cL_write 7 (some FieldType.int) [(0, 14, 17, 21)]) ∈ rg_T := rg_m3 (List.mem_of_getElem? (i := 203) rfl) rfl
theorem tw_m_L_54 : (Cond.methodLink "RengaHallLaw" 54 yX6_write) ∈ rg_T := rg_m3 (List.mem_of_getElem? (i := 204) rfl) rfl
theorem tw_i_X6_write : (Cond.instanceMethod yX6_write) ∈ rg_T := rg_m3 (List.mem_of_getElem? (i := 205) rfl) rfl
theorem tw_v_X6_write : (Cond.selects "RengaHall" yX6_write yX6_write) ∈ rg_T := rg_m3 (List.mem_of_getElem? (i := 206) rfl) rfl
theorem tw_c_X6_write : (Cond.code yX6_write cX6_write 6 (some FieldType.int)) ∈ rg_T := rg_m3 (List.mem_of_getElem? (i := 207) rfl) rfl
theorem tw_m_L_142 : (Cond.methodLink "RengaHallLaw" 142 yL_hide) ∈ rg_T := rg_m3 (List.mem_of_getElem? (i := 209) rfl) rfl
theorem tw_s_L_hide : (Cond.static yL_hide) ∈ rg_T := rg_m3 (List.mem_of_getElem? (i := 210) rfl) rfl
theorem tw_c_L_hide : (Cond.codeWith yL_hide cL_hide 5 (some FieldType.int) [(0, 17, 20, 21)]) ∈ rg_T := rg_m3 (List.mem_of_getElem? (i := 211) rfl) rfl
theorem tw_m_L_58 : (Cond.methodLink "RengaHallLaw" 58 yX6_hide) ∈ rg_T := rg_m3 (List.mem_of_getElem? (i := 212) rfl) rfl
theorem tw_i_X6_hide : (Cond.instanceMethod yX6_hide) ∈ rg_T := rg_m3 (List.mem_of_getElem? (i := 213) rfl) rfl
theorem tw_v_X6_hide : (Cond.selects "RengaHall" yX6_hide yX6_hide) ∈ rg_T := rg_m3 (List.mem_of_getElem? (i := 214) rfl) rfl
theorem tw_c_X6_hide : (Cond.code yX6_hide cX6_hide 4 (some FieldType.boolean)) ∈ rg_T := rg_m3 (List.mem_of_getElem? (i := 215) rfl) rfl
theorem tw_m_L_154 : (Cond.methodLink "RengaHallLaw" 154 yL_ofLink) ∈ rg_T := rg_m3 (List.mem_of_getElem? (i := 216) rfl) rfl
theorem tw_s_L_ofLink : (Cond.static yL_ofLink) ∈ rg_T := rg_m3 (List.mem_of_getElem? (i := 217) rfl) rfl
theorem tw_c_L_ofLink : (Cond.codeWith yL_ofLink cL_ofLink 5 (some FieldType.int) [(0, 10, 13, 21), (0, 10, 17, 13)]) ∈ rg_T := rg_m3 (List.mem_of_getElem? (i := 218) rfl) rfl
theorem tw_m_L_62 : (Cond.methodLink "RengaHallLaw" 62 yX6_ofLink) ∈ rg_T := rg_m3 (List.mem_of_getElem? (i := 219) rfl) rfl
theorem tw_i_X6_ofLink : (Cond.instanceMethod yX6_ofLink) ∈ rg_T := rg_m3 (List.mem_of_getElem? (i := 220) rfl) rfl
theorem tw_v_X6_ofLink : (Cond.selects "RengaHall" yX6_ofLink yX6_ofLink) ∈ rg_T := rg_m3 (List.mem_of_getElem? (i := 221) rfl) rfl
theorem tw_c_X6_ofLink : (Cond.code yX6_ofLink cX6_ofLink 3 (some FieldType.int)) ∈ rg_T := rg_m3 (List.mem_of_getElem? (i := 222) rfl) rfl
theorem tw_m_X6_230 : (Cond.methodLink "RengaHall" 230 yX1_seasonAt) ∈ rg_T := rg_m3 (List.mem_of_getElem? (i := 223) rfl) rfl
theorem tw_m_X6_233 : (Cond.methodLink "RengaHall" 233 yX1_signsAt) ∈ rg_T := rg_m3 (List.mem_of_getElem? (i := 224) rfl) rfl
theorem tw_m_X6_236 : (Cond.methodLink "RengaHall" 236 yX1_runAt) ∈ rg_T := rg_m3 (List.mem_of_getElem? (i := 225) rfl) rfl
theorem tw_m_L_157 : (Cond.methodLink "RengaHallLaw" 157 yL_wordAt) ∈ rg_T := rg_m3 (List.mem_of_getElem? (i := 226) rfl) rfl
theorem tw_s_L_wordAt : (Cond.static yL_wordAt) ∈ rg_T := rg_m3 (List.mem_of_getElem? (i := 227) rfl) rfl
theorem tw_c_L_wordAt : (Cond.codeWith yL_wordAt cL_wordAt 5 (some FieldType.int) [(0, 10, 13, 21)]) ∈ rg_T := rg_m3 (List.mem_of_getElem? (i := 228) rfl) rfl
theorem tw_m_L_65 : (Cond.methodLink "RengaHallLaw" 65 yX6_wordAt) ∈ rg_T := rg_m3 (List.mem_of_getElem? (i := 229) rfl) rfl
theorem tw_i_X6_wordAt : (Cond.instanceMethod yX6_wordAt) ∈ rg_T := rg_m3 (List.mem_of_getElem? (i := 230) rfl) rfl
theorem tw_v_X6_wordAt : (Cond.selects "RengaHall" yX6_wordAt yX6_wordAt) ∈ rg_T := rg_m3 (List.mem_of_getElem? (i := 231) rfl) rfl
theorem tw_c_X6_wordAt : (Cond.code yX6_wordAt cX6_wordAt 3 (some FieldType.int)) ∈ rg_T := rg_m3 (List.mem_of_getElem? (i := 232) rfl) rfl
theorem tw_m_L_160 : (Cond.methodLink "RengaHallLaw" 160 yL_faultAnew) ∈ rg_T := rg_m3 (List.mem_of_getElem? (i := 233) rfl) rfl
theorem tw_s_L_faultAnew : (Cond.static yL_faultAnew) ∈ rg_T := rg_m3 (List.mem_of_getElem? (i := 234) rfl) rfl
theorem tw_c_L_faultAnew : (Cond.codeWith yL_faultAnew cL_faultAnew 4 (some FieldType.int) [(0, 9, 12, 21)]) ∈ rg_T := rg_m3 (List.mem_of_getElem? (i := 235) rfl) rfl
theorem tw_m_L_68 : (Cond.methodLink "RengaHallLaw" 68 yX6_faultAnew) ∈ rg_T := rg_m3 (List.mem_of_getElem? (i := 236) rfl) rfl
theorem tw_i_X6_faultAnew : (Cond.instanceMethod yX6_faultAnew) ∈ rg_T := rg_m3 (List.mem_of_getElem? (i := 237) rfl) rfl
theorem tw_v_X6_faultAnew : (Cond.selects "RengaHall" yX6_faultAnew yX6_faultAnew) ∈ rg_T := rg_m3 (List.mem_of_getElem? (i := 238) rfl) rfl
theorem tw_c_X6_faultAnew : (Cond.code yX6_faultAnew cX6_faultAnew 2 (some FieldType.int)) ∈ rg_T := rg_m3 (List.mem_of_getElem? (i := 239) rfl) rfl
theorem tw_m_L_163 : (Cond.methodLink "RengaHallLaw" 163 yL_chances) ∈ rg_T := rg_m4 (List.mem_of_getElem? (i := 0) rfl) rfl
theorem tw_s_L_chances : (Cond.static yL_chances) ∈ rg_T := rg_m4 (List.mem_of_getElem? (i := 1) rfl) rfl
theorem tw_c_L_chances : (Cond.codeWith yL_chances cL_chances 4 (some FieldType.int) [(0, 9, 12, 21)]) ∈ rg_T := rg_m4 (List.mem_of_getElem? (i := 2) rfl) rfl
theorem tw_m_L_71 : (Cond.methodLink "RengaHallLaw" 71 yX6_chances) ∈ rg_T := rg_m4 (List.mem_of_getElem? (i := 3) rfl) rfl
theorem tw_i_X6_chances : (Cond.instanceMethod yX6_chances) ∈ rg_T := rg_m4 (List.mem_of_getElem? (i := 4) rfl) rfl
theorem tw_v_X6_chances : (Cond.selects "RengaHall" yX6_chances yX6_chances) ∈ rg_T := rg_m4 (List.mem_of_getElem? (i := 5) rfl) rfl
theorem tw_c_X6_chances : (Cond.code yX6_chances cX6_chances 5 (some FieldType.int)) ∈ rg_T := rg_m4 (List.mem_of_getElem? (i := 6) rfl) rfl
theorem tw_m_X6_249 : (Cond.methodLink "RengaHall" 249 yX6_chanceOf) ∈ rg_T := rg_m4 (List.mem_of_getElem? (i := 7) rfl) rfl
theorem tw_i_X6_chanceOf : (Cond.instanceMethod yX6_chanceOf) ∈ rg_T := rg_m4 (List.mem_of_getElem? (i := 9) rfl) rfl
theorem tw_c_X6_chanceOf : (Cond.code yX6_chanceOf cX6_chanceOf 4 (some FieldType.int)) ∈ rg_T := rg_m4 (List.mem_of_getElem? (i := 10) rfl) rfl
theorem tw_m_L_170 : (Cond.methodLink "RengaHallLaw" 170 yL_far) ∈ rg_T := rg_m4 (List.mem_of_getElem? (i := 11) rfl) rfl
theorem tw_s_L_far : (Cond.static yL_far) ∈ rg_T := rg_m4 (List.mem_of_getElem? (i := 12) rfl) rfl
theorem tw_c_L_far : (Cond.codeWith yL_far cL_far 5 (some FieldType.int) [(0, 10, 13, 21), (0, 10, 17, 15)]) ∈ rg_T := rg_m4 (List.mem_of_getElem? (i := 13) rfl) rfl
theorem tw_m_L_74 : (Cond.methodLink "RengaHallLaw" 74 yX6_far) ∈ rg_T := rg_m4 (List.mem_of_getElem? (i := 14) rfl) rfl
theorem tw_i_X6_far : (Cond.instanceMethod yX6_far) ∈ rg_T := rg_m4 (List.mem_of_getElem? (i := 15) rfl) rfl
theorem tw_v_X6_far : (Cond.selects "RengaHall" yX6_far yX6_far) ∈ rg_T := rg_m4 (List.mem_of_getElem? (i := 16) rfl) rfl
theorem tw_c_X6_far : (Cond.code yX6_far cX6_far 3 (some FieldType.int)) ∈ rg_T := rg_m4 (List.mem_of_getElem? (i := 17) rfl) rfl
theorem tw_m_X6_265 : (Cond.methodLink "RengaHall" 265 yX6_distance) ∈ rg_T := rg_m4 (List.mem_of_getElem? (i := 18) rfl) rfl
theorem tw_i_X6_distance : (Cond.instanceMethod yX6_distance) ∈ rg_T := rg_m4 (List.mem_of_getElem? (i := 20) rfl) rfl
theorem tw_c_X6_distance : (Cond.code yX6_distance cX6_distance 6 (some FieldType.int)) ∈ rg_T := rg_m4 (List.mem_of_getElem? (i := 21) rfl) rfl
theorem tw_m_L_173 : (Cond.methodLink "RengaHallLaw" 173 yL_source) ∈ rg_T := rg_m4 (List.mem_of_getElem? (i := 22) rfl) rfl
theorem tw_s_L_source : (Cond.static yL_source) ∈ rg_T := rg_m4 (List.mem_of_getElem? (i := 23) rfl) rfl
theorem tw_c_L_source : (Cond.codeWith yL_source cL_source 4 (some FieldType.int) [(0, 9, 12, 21)]) ∈ rg_T := rg_m4 (List.mem_of_getElem? (i := 24) rfl) rfl
theorem tw_m_L_77 : (Cond.methodLink "RengaHallLaw" 77 yX6_source) ∈ rg_T := rg_m4 (List.mem_of_getElem? (i := 25) rfl) rfl
theorem tw_i_X6_source : (Cond.instanceMethod yX6_source) ∈ rg_T := rg_m4 (List.mem_of_getElem? (i := 26) rfl) rfl
theorem tw_v_X6_source : (Cond.selects "RengaHall" yX6_source yX6_source) ∈ rg_T := rg_m4 (List.mem_of_getElem? (i := 27) rfl) rfl
theorem tw_c_X6_source : (Cond.code yX6_source cX6_source 6 (some FieldType.int)) ∈ rg_T := rg_m4 (List.mem_of_getElem? (i := 28) rfl) rfl
theorem tw_m_L_176 : (Cond.methodLink "RengaHallLaw" 176 yL_hand) ∈ rg_T := rg_m4 (List.mem_of_getElem? (i := 29) rfl) rfl
theorem tw_s_L_hand : (Cond.static yL_hand) ∈ rg_T := rg_m4 (List.mem_of_getElem? (i := 30) rfl) rfl
theorem tw_c_L_hand : (Cond.codeWith yL_hand cL_hand 4 (some FieldType.int) [(0, 9, 12, 21)]) ∈ rg_T := rg_m4 (List.mem_of_getElem? (i := 31) rfl) rfl
theorem tw_m_L_80 : (Cond.methodLink "RengaHallLaw" 80 yX6_hand) ∈ rg_T := rg_m4 (List.mem_of_getElem? (i := 32) rfl) rfl
theorem tw_i_X6_hand : (Cond.instanceMethod yX6_hand) ∈ rg_T := rg_m4 (List.mem_of_getElem? (i := 33) rfl) rfl
theorem tw_v_X6_hand : (Cond.selects "RengaHall" yX6_hand yX6_hand) ∈ rg_T := rg_m4 (List.mem_of_getElem? (i := 34) rfl) rfl
theorem tw_c_X6_hand : (Cond.code yX6_hand cX6_hand 3 (some FieldType.int)) ∈ rg_T := rg_m4 (List.mem_of_getElem? (i := 35) rfl) rfl
theorem tw_m_X6_268 : (Cond.methodLink "RengaHall" 268 yX6_likeness) ∈ rg_T := rg_m4 (List.mem_of_getElem? (i := 36) rfl) rfl
theorem tw_i_X6_likeness : (Cond.instanceMethod yX6_likeness) ∈ rg_T := rg_m4 (List.mem_of_getElem? (i := 38) rfl) rfl
theorem tw_c_X6_likeness : (Cond.code yX6_likeness cX6_likeness 5 (some FieldType.int)) ∈ rg_T := rg_m4 (List.mem_of_getElem? (i := 39) rfl) rfl
theorem tw_m_X6_295 : (Cond.methodLink "RengaHall" 295 yX1_wordSetAt) ∈ rg_T := rg_m4 (List.mem_of_getElem? (i := 40) rfl) rfl
theorem tw_m_X6_299 : (Cond.methodLink "RengaHall" 299 yJ13_bitCount_95d88) ∈ rg_T := rg_m4 (List.mem_of_getElem? (i := 41) rfl) rfl
theorem tw_s_J13_bitCount_95d88 : (Cond.static yJ13_bitCount_95d88) ∈ rg_T := rg_m4 (List.mem_of_getElem? (i := 42) rfl) rfl
theorem tw_c_J13_bitCount_95d88 : (Cond.code yJ13_bitCount_95d88 cJ13_bitCount_95d88 2 (some FieldType.int)) ∈ rg_T := rg_m4 (List.mem_of_getElem? (i := 43) rfl) rfl
theorem tw_q_J13_314 : (Cond.constantLong "java/lang/Long" 314 (6148914691236517205 : Int64)) ∈ rg_T := rg_m4 (List.mem_of_getElem? (i := 44) rfl) rfl
theorem tw_q_J13_316 : (Cond.constantLong "java/lang/Long" 316 (3689348814741910323 : Int64)) ∈ rg_T := rg_m4 (List.mem_of_getElem? (i := 45) rfl) rfl
theorem tw_q_J13_318 : (Cond.constantLong "java/lang/Long" 318 (1085102592571150095 : Int64)) ∈ rg_T := rg_m4 (List.mem_of_getElem? (i := 46) rfl) rfl
theorem tw_m_X6_305 : (Cond.methodLink "RengaHall" 305 yJ6_bitCount_0f7a4) ∈ rg_T := rg_m4 (List.mem_of_getElem? (i := 47) rfl) rfl
theorem tw_s_J6_bitCount_0f7a4 : (Cond.static yJ6_bitCount_0f7a4) ∈ rg_T := rg_m4 (List.mem_of_getElem? (i := 48) rfl) rfl
theorem tw_c_J6_bitCount_0f7a4 : (Cond.code yJ6_bitCount_0f7a4 cJ6_bitCount_0f7a4 1 (some FieldType.int)) ∈ rg_T := rg_m4 (List.mem_of_getElem? (i := 49) rfl) rfl
theorem tw_q_J6_265 : (Cond.constant "java/lang/Integer" 265 (1431655765 : Int32)) ∈ rg_T := rg_m4 (List.mem_of_getElem? (i := 50) rfl) rfl
theorem tw_q_J6_266 : (Cond.constant "java/lang/Integer" 266 (858993459 : Int32)) ∈ rg_T := rg_m4 (List.mem_of_getElem? (i := 51) rfl) rfl
theorem tw_q_J6_267 : (Cond.constant "java/lang/Integer" 267 (252645135 : Int32)) ∈ rg_T := rg_m4 (List.mem_of_getElem? (i := 52) rfl) rfl
theorem tw_k_L_84 : (Cond.classLink "RengaHallLaw" 84 "RengaHallModel") ∈ rg_T := rg_m4 (List.mem_of_getElem? (i := 53) rfl) rfl
theorem tw_o_X7 : (Cond.instantiable "RengaHallModel" 34) ∈ rg_T := rg_m4 (List.mem_of_getElem? (i := 54) rfl) rfl
theorem tw_m_L_86 : (Cond.methodLink "RengaHallLaw" 86 yX7_init) ∈ rg_T := rg_m4 (List.mem_of_getElem? (i := 55) rfl) rfl
theorem tw_i_X7_init : (Cond.instanceMethod yX7_init) ∈ rg_T := rg_m4 (List.mem_of_getElem? (i := 56) rfl) rfl
theorem tw_c_X7_init : (Cond.code yX7_init cX7_init 1 none) ∈ rg_T := rg_m4 (List.mem_of_getElem? (i := 57) rfl) rfl
theorem tw_m_X7_1 : (Cond.methodLink "RengaHallModel" 1 ⟨"java/lang/Object", "<init>", "()V"⟩) ∈ rg_T := rg_m4 (List.mem_of_getElem? (i := 58) rfl) rfl
theorem tw_f_X7_7 : (Cond.fieldLink "RengaHallModel" 7 "RengaHallModel" "sounds" "[I") ∈ rg_T := rg_m4 (List.mem_of_getElem? (i := 59) rfl) rfl
theorem tw_f_X7_13 : (Cond.fieldLink "RengaHallModel" 13 "RengaHallModel" "seasons" "[I") ∈ rg_T := rg_m4 (List.mem_of_getElem? (i := 60) rfl) rfl
theorem tw_f_X7_16 : (Cond.fieldLink "RengaHallModel" 16 "RengaHallModel" "signs" "[I") ∈ rg_T := rg_m4 (List.mem_of_getElem? (i := 61) rfl) rfl
theorem tw_f_X7_19 : (Cond.fieldLink "RengaHallModel" 19 "RengaHallModel" "calls" "[J") ∈ rg_T := rg_m4 (List.mem_of_getElem? (i := 62) rfl) rfl
theorem tw_f_X7_76 : (Cond.fieldLink "RengaHallModel" 76 "RengaHallModel" "words" "I") ∈ rg_T := rg_m4 (List.mem_of_getElem? (i := 63) rfl) rfl
theorem tw_f_X7_83 : (Cond.fieldLink "RengaHallModel" 83 "RengaHallModel" "poets" "I") ∈ rg_T := rg_m4 (List.mem_of_getElem? (i := 64) rfl) rfl
theorem tw_f_X7_103 : (Cond.fieldLink "RengaHallModel" 103 "RengaHallModel" "isPoem" "Z") ∈ rg_T := rg_m4 (List.mem_of_getElem? (i := 65) rfl) rfl
theorem tw_f_X7_89 : (Cond.fieldLink "RengaHallModel" 89 "RengaHallModel" "total" "I") ∈ rg_T := rg_m4 (List.mem_of_getElem? (i := 66) rfl) rfl
theorem tw_f_X7_111 : (Cond.fieldLink "RengaHallModel" 111 "RengaHallModel" "span" "I") ∈ rg_T := rg_m4 (List.mem_of_getElem? (i := 67) rfl) rfl
theorem tw_f_X7_114 : (Cond.fieldLink "RengaHallModel" 114 "RengaHallModel" "evenSounds" "I") ∈ rg_T := rg_m4 (List.mem_of_getElem? (i := 68) rfl) rfl
theorem tw_f_X7_117 : (Cond.fieldLink "RengaHallModel" 117 "RengaHallModel" "oddSounds" "I") ∈ rg_T := rg_m4 (List.mem_of_getElem? (i := 69) rfl) rfl
theorem tw_f_X7_86 : (Cond.fieldLink "RengaHallModel" 86 "RengaHallModel" "links" "I") ∈ rg_T := rg_m4 (List.mem_of_getElem? (i := 70) rfl) rfl
theorem tw_f_X7_23 : (Cond.fieldLink "RengaHallModel" 23 "RengaHallModel" "texts" "[I") ∈ rg_T := rg_m4 (List.mem_of_getElem? (i := 71) rfl) rfl
theorem tw_f_X7_26 : (Cond.fieldLink "RengaHallModel" 26 "RengaHallModel" "sizes" "[I") ∈ rg_T := rg_m4 (List.mem_of_getElem? (i := 72) rfl) rfl
theorem tw_f_X7_29 : (Cond.fieldLink "RengaHallModel" 29 "RengaHallModel" "makers" "[I") ∈ rg_T := rg_m4 (List.mem_of_getElem? (i := 73) rfl) rfl
theorem tw_f_X7_32 : (Cond.fieldLink "RengaHallModel" 32 "RengaHallModel" "seats" "[I") ∈ rg_T := rg_m4 (List.mem_of_getElem? (i := 74) rfl) rfl
theorem tw_f_X7_35 : (Cond.fieldLink "RengaHallModel" 35 "RengaHallModel" "hidden" "[Z") ∈ rg_T := rg_m4 (List.mem_of_getElem? (i := 75) rfl) rfl
theorem tw_f_X7_39 : (Cond.fieldLink "RengaHallModel" 39 "RengaHallModel" "mended" "[Z") ∈ rg_T := rg_m4 (List.mem_of_getElem? (i := 76) rfl) rfl
theorem tw_f_X7_42 : (Cond.fieldLink "RengaHallModel" 42 "RengaHallModel" "points" "[I") ∈ rg_T := rg_m4 (List.mem_of_getElem? (i := 77) rfl) rfl
theorem tw_f_X7_45 : (Cond.fieldLink "RengaHallModel" 45 "RengaHallModel" "draft" "[I") ∈ rg_T := rg_m4 (List.mem_of_getElem? (i := 78) rfl) rfl
theorem tw_f_X7_126 : (Cond.fieldLink "RengaHallModel" 126 "RengaHallModel" "drafted" "I") ∈ rg_T := rg_m4 (List.mem_of_getElem? (i := 79) rfl) rfl
theorem tw_f_X7_48 : (Cond.fieldLink "RengaHallModel" 48 "RengaHallModel" "offered" "[I") ∈ rg_T := rg_m4 (List.mem_of_getElem? (i := 80) rfl) rfl
theorem tw_f_X7_51 : (Cond.fieldLink "RengaHallModel" 51 "RengaHallModel" "offerSizes" "[I") ∈ rg_T := rg_m4 (List.mem_of_getElem? (i := 81) rfl) rfl
theorem tw_f_X7_54 : (Cond.fieldLink "RengaHallModel" 54 "RengaHallModel" "offerPoets" "[I") ∈ rg_T := rg_m4 (List.mem_of_getElem? (i := 82) rfl) rfl
theorem tw_f_X7_120 : (Cond.fieldLink "RengaHallModel" 120 "RengaHallModel" "offers" "I") ∈ rg_T := rg_m4 (List.mem_of_getElem? (i := 83) rfl) rfl
theorem tw_f_X7_57 : (Cond.fieldLink "RengaHallModel" 57 "RengaHallModel" "why" "I") ∈ rg_T := rg_m4 (List.mem_of_getElem? (i := 84) rfl) rfl
theorem tw_f_X7_61 : (Cond.fieldLink "RengaHallModel" 61 "RengaHallModel" "copied" "[I") ∈ rg_T := rg_m4 (List.mem_of_getElem? (i := 85) rfl) rfl
theorem tw_f_X7_64 : (Cond.fieldLink "RengaHallModel" 64 "RengaHallModel" "copySizes" "[I") ∈ rg_T := rg_m4 (List.mem_of_getElem? (i := 86) rfl) rfl
theorem tw_f_X7_67 : (Cond.fieldLink "RengaHallModel" 67 "RengaHallModel" "copyLinks" "[I") ∈ rg_T := rg_m4 (List.mem_of_getElem? (i := 87) rfl) rfl
theorem tw_f_X7_123 : (Cond.fieldLink "RengaHallModel" 123 "RengaHallModel" "copies" "I") ∈ rg_T := rg_m4 (List.mem_of_getElem? (i := 88) rfl) rfl
theorem tw_f_X7_70 : (Cond.fieldLink "RengaHallModel" 70 "RengaHallModel" "row" "[I") ∈ rg_T := rg_m4 (List.mem_of_getElem? (i := 89) rfl) rfl
theorem tw_f_X7_133 : (Cond.fieldLink "RengaHallModel" 133 "RengaHallModel" "many" "I") ∈ rg_T := rg_m4 (List.mem_of_getElem? (i := 90) rfl) rfl
theorem tw_f_X7_155 : (Cond.fieldLink "RengaHallModel" 155 "RengaHallModel" "cause" "I") ∈ rg_T := rg_m4 (List.mem_of_getElem? (i := 91) rfl) rfl
theorem tw_f_X7_73 : (Cond.fieldLink "RengaHallModel" 73 "RengaHallModel" "last" "I") ∈ rg_T := rg_m4 (List.mem_of_getElem? (i := 92) rfl) rfl
theorem tw_m_L_93 : (Cond.methodLink "RengaHallLaw" 93 yX7_thrown) ∈ rg_T := rg_m4 (List.mem_of_getElem? (i := 162) rfl) rfl
theorem tw_i_X7_thrown : (Cond.instanceMethod yX7_thrown) ∈ rg_T := rg_m4 (List.mem_of_getElem? (i := 163) rfl) rfl
theorem tw_v_X7_thrown : (Cond.selects "RengaHallModel" yX7_thrown yX7_thrown) ∈ rg_T := rg_m4 (List.mem_of_getElem? (i := 164) rfl) rfl
theorem tw_c_X7_thrown : (Cond.code yX7_thrown cX7_thrown 1 (some FieldType.int)) ∈ rg_T := rg_m4 (List.mem_of_getElem? (i := 165) rfl) rfl
theorem tw_m_L_92 : (Cond.methodLink "RengaHallLaw" 92 yX7_word) ∈ rg_T := rg_m4 (List.mem_of_getElem? (i := 166) rfl) rfl
theorem tw_i_X7_word : (Cond.instanceMethod yX7_word) ∈ rg_T := rg_m4 (List.mem_of_getElem? (i := 167) rfl) rfl
theorem tw_v_X7_word : (Cond.selects "RengaHallModel" yX7_word yX7_word) ∈ rg_T := rg_m4 (List.mem_of_getElem? (i := 168) rfl) rfl
theorem tw_c_X7_word : (Cond.code yX7_word cX7_word 4 (some FieldType.int)) ∈ rg_T := rg_m4 (List.mem_of_getElem? (i := 169) rfl) rfl
theorem tw_m_X7_79 : (Cond.methodLink "RengaHallModel" 79 yX7_in) ∈ rg_T := rg_m4 (List.mem_of_getElem? (i := 170) rfl) rfl
theorem tw_s_X7_in : (Cond.static yX7_in) ∈ rg_T := rg_m4 (List.mem_of_getElem? (i := 171) rfl) rfl
theorem tw_c_X7_in : (Cond.code yX7_in cX7_in 3 (some FieldType.boolean)) ∈ rg_T := rg_m4 (List.mem_of_getElem? (i := 172) rfl) rfl
theorem tw_m_X7_92 : (Cond.methodLink "RengaHallModel" 92 yX7_goes) ∈ rg_T := rg_m4 (List.mem_of_getElem? (i := 173) rfl) rfl
theorem tw_i_X7_goes : (Cond.instanceMethod yX7_goes) ∈ rg_T := rg_m4 (List.mem_of_getElem? (i := 175) rfl) rfl
theorem tw_c_X7_goes : (Cond.code yX7_goes cX7_goes 4 (some FieldType.boolean)) ∈ rg_T := rg_m4 (List.mem_of_getElem? (i := 176) rfl) rfl
theorem tw_m_L_99 : (Cond.methodLink "RengaHallLaw" 99 yX7_call) ∈ rg_T := rg_m4 (List.mem_of_getElem? (i := 177) rfl) rfl
theorem tw_i_X7_call : (Cond.instanceMethod yX7_call) ∈ rg_T := rg_m4 (List.mem_of_getElem? (i := 178) rfl) rfl
theorem tw_v_X7_call : (Cond.selects "RengaHallModel" yX7_call yX7_call) ∈ rg_T := rg_m4 (List.mem_of_getElem? (i := 179) rfl) rfl
theorem tw_c_X7_call : (Cond.code yX7_call cX7_call 4 (some FieldType.boolean)) ∈ rg_T := rg_m4 (List.mem_of_getElem? (i := 180) rfl) rfl
theorem tw_m_X7_96 : (Cond.methodLink "RengaHallModel" 96 yX7_isWord) ∈ rg_T := rg_m4 (List.mem_of_getElem? (i := 181) rfl) rfl
theorem tw_i_X7_isWord : (Cond.instanceMethod yX7_isWord) ∈ rg_T := rg_m4 (List.mem_of_getElem? (i := 183) rfl) rfl
theorem tw_c_X7_isWord : (Cond.code yX7_isWord cX7_isWord 2 (some FieldType.boolean)) ∈ rg_T := rg_m4 (List.mem_of_getElem? (i := 184) rfl) rfl
theorem tw_m_X7_100 : (Cond.methodLink "RengaHallModel" 100 yX7_calls) ∈ rg_T := rg_m4 (List.mem_of_getElem? (i := 185) rfl) rfl
theorem tw_i_X7_calls : (Cond.instanceMethod yX7_calls) ∈ rg_T := rg_m4 (List.mem_of_getElem? (i := 187) rfl) rfl
theorem tw_c_X7_calls : (Cond.code yX7_calls cX7_calls 3 (some FieldType.boolean)) ∈ rg_T := rg_m4 (List.mem_of_getElem? (i := 188) rfl) rfl
theorem tw_m_L_103 : (Cond.methodLink "RengaHallLaw" 103 yX7_poet) ∈ rg_T := rg_m4 (List.mem_of_getElem? (i := 189) rfl) rfl
theorem tw_i_X7_poet : (Cond.instanceMethod yX7_poet) ∈ rg_T := rg_m4 (List.mem_of_getElem? (i := 190) rfl) rfl
theorem tw_v_X7_poet : (Cond.selects "RengaHallModel" yX7_poet yX7_poet) ∈ rg_T := rg_m4 (List.mem_of_getElem? (i := 191) rfl) rfl
theorem tw_c_X7_poet : (Cond.code yX7_poet cX7_poet 1 (some FieldType.int)) ∈ rg_T := rg_m4 (List.mem_of_getElem? (i := 192) rfl) rfl
theorem tw_m_L_107 : (Cond.methodLink "RengaHallLaw" 107 yX7_begin) ∈ rg_T := rg_m4 (List.mem_of_getElem? (i := 193) rfl) rfl
theorem tw_i_X7_begin : (Cond.instanceMethod yX7_begin) ∈ rg_T := rg_m4 (List.mem_of_getElem? (i := 194) rfl) rfl
theorem tw_v_X7_begin : (Cond.selects "RengaHallModel" yX7_begin yX7_begin) ∈ rg_T := rg_m4 (List.mem_of_getElem? (i := 195) rfl) rfl
theorem tw_c_X7_begin : (Cond.code yX7_begin cX7_begin 7 none) ∈ rg_T := rg_m4 (List.mem_of_getElem? (i := 196) rfl) rfl
theorem tw_m_X7_107 : (Cond.methodLink "RengaHallModel" 107 yX7_isFinished) ∈ rg_T := rg_m4 (List.mem_of_getElem? (i := 197) rfl) rfl
theorem tw_i_X7_isFinished : (Cond.instanceMethod yX7_isFinished) ∈ rg_T := rg_m4 (List.mem_of_getElem? (i := 199) rfl) rfl
theorem tw_c_X7_isFinished : (Cond.code yX7_isFinished cX7_isFinished 1 (some FieldType.boolean)) ∈ rg_T := rg_m4 (List.mem_of_getElem? (i := 200) rfl) rfl
theorem tw_m_L_110 : (Cond.methodLink "RengaHallLaw" 110 yX7_seat) ∈ rg_T := rg_m4 (List.mem_of_getElem? (i := 201) rfl) rfl
theorem tw_i_X7_seat : (Cond.instanceMethod yX7_seat) ∈ rg_T := rg_m4 (List.mem_of_getElem? (i := 202) rfl) rfl
theorem tw_v_X7_seat : (Cond.selects "RengaHallModel" yX7_seat yX7_seat) ∈ rg_T := rg_m4 (List.mem_of_getElem? (i := 203) rfl) rfl
theorem tw_c_X7_seat : (Cond.code yX7_seat cX7_seat 4 (some FieldType.int)) ∈ rg_T := rg_m4 (List.mem_of_getElem? (i := 204) rfl) rfl
theorem tw_m_L_114 : (Cond.methodLink "RengaHallLaw" 114 yX7_add) ∈ rg_T := rg_m4 (List.mem_of_getElem? (i := 205) rfl) rfl
theorem tw_i_X7_add : (Cond.instanceMethod yX7_add) ∈ rg_T := rg_m4 (List.mem_of_getElem? (i := 206) rfl) rfl
theorem tw_v_X7_add : (Cond.selects "RengaHallModel" yX7_add yX7_add) ∈ rg_T := rg_m4 (List.mem_of_getElem? (i := 207) rfl) rfl
theorem tw_c_X7_add : (Cond.code yX7_add cX7_add 2 (some FieldType.int)) ∈ rg_T := rg_m4 (List.mem_of_getElem? (i := 208) rfl) rfl
theorem tw_m_L_118 : (Cond.methodLink "RengaHallLaw" 118 yX7_clear) ∈ rg_T := rg_m4 (List.mem_of_getElem? (i := 209) rfl) rfl
theorem tw_i_X7_clear : (Cond.instanceMethod yX7_clear) ∈ rg_T := rg_m4 (List.mem_of_getElem? (i := 210) rfl) rfl
theorem tw_v_X7_clear : (Cond.selects "RengaHallModel" yX7_clear yX7_clear) ∈ rg_T := rg_m4 (List.mem_of_getElem? (i := 211) rfl) rfl
theorem tw_c_X7_clear : (Cond.code yX7_clear cX7_clear 2 (some FieldType.int)) ∈ rg_T := rg_m4 (List.mem_of_getElem? (i := 212) rfl) rfl
theorem tw_m_L_121 : (Cond.methodLink "RengaHallLaw" 121 yX7_offer) ∈ rg_T := rg_m4 (List.mem_of_getElem? (i := 213) rfl) rfl
theorem tw_i_X7_offer : (Cond.instanceMethod yX7_offer) ∈ rg_T := rg_m4 (List.mem_of_getElem? (i := 214) rfl) rfl
theorem tw_v_X7_offer : (Cond.selects "RengaHallModel" yX7_offer yX7_offer) ∈ rg_T := rg_m4 (List.mem_of_getElem? (i := 215) rfl) rfl
theorem tw_c_X7_offer : (Cond.code yX7_offer cX7_offer 4 (some FieldType.int)) ∈ rg_T := rg_m4 (List.mem_of_getElem? (i := 216) rfl) rfl
theorem tw_m_X7_176 : (Cond.methodLink "RengaHallModel" 176 yX7_isPoet) ∈ rg_T := rg_m4 (List.mem_of_getElem? (i := 217) rfl) rfl
theorem tw_i_X7_isPoet : (Cond.instanceMethod yX7_isPoet) ∈ rg_T := rg_m4 (List.mem_of_getElem? (i := 219) rfl) rfl
theorem tw_c_X7_isPoet : (Cond.code yX7_isPoet cX7_isPoet 2 (some FieldType.boolean)) ∈ rg_T := rg_m4 (List.mem_of_getElem? (i := 220) rfl) rfl
theorem tw_m_X7_179 : (Cond.methodLink "RengaHallModel" 179 yX7_faultOf) ∈ rg_T := rg_m4 (List.mem_of_getElem? (i := 221) rfl) rfl
theorem tw_i_X7_faultOf : (Cond.instanceMethod yX7_faultOf) ∈ rg_T := rg_m4 (List.mem_of_getElem? (i := 223) rfl) rfl
theorem tw_c_X7_faultOf : (Cond.code yX7_faultOf cX7_faultOf 5 (some FieldType.int)) ∈ rg_T := rg_m4 (List.mem_of_getElem? (i := 224) rfl) rfl
theorem tw_m_X7_152 : (Cond.methodLink "RengaHallModel" 152 yX7_soundsOfRow) ∈ rg_T := rg_m4 (List.mem_of_getElem? (i := 225) rfl) rfl
theorem tw_i_X7_soundsOfRow : (Cond.instanceMethod yX7_soundsOfRow) ∈ rg_T := rg_m4 (List.mem_of_getElem? (i := 227) rfl) rfl
theorem tw_c_X7_soundsOfRow : (Cond.code yX7_soundsOfRow cX7_soundsOfRow 3 (some FieldType.int)) ∈ rg_T := rg_m4 (List.mem_of_getElem? (i := 228) rfl) rfl
theorem tw_m_X7_158 : (Cond.methodLink "RengaHallModel" 158 yX7_mixes) ∈ rg_T := rg_m4 (List.mem_of_getElem? (i := 229) rfl) rfl
theorem tw_i_X7_mixes : (Cond.instanceMethod yX7_mixes) ∈ rg_T := rg_m4 (List.mem_of_getElem? (i := 231) rfl) rfl
theorem tw_c_X7_mixes : (Cond.code yX7_mixes cX7_mixes 3 (some FieldType.int)) ∈ rg_T := rg_m4 (List.mem_of_getElem? (i := 232) rfl) rfl
theorem tw_m_X7_136 : (Cond.methodLink "RengaHallModel" 136 yX7_seasonOfRow) ∈ rg_T := rg_m4 (List.mem_of_getElem? (i := 233) rfl) rfl
theorem tw_i_X7_seasonOfRow : (Cond.instanceMethod yX7_seasonOfRow) ∈ rg_T := rg_m4 (List.mem_of_getElem? (i := 235) rfl) rfl
theorem tw_c_X7_seasonOfRow : (Cond.code yX7_seasonOfRow cX7_seasonOfRow 3 (some FieldType.int)) ∈ rg_T := rg_m4 (List.mem_of_getElem? (i := 236) rfl) rfl
theorem tw_m_X7_161 : (Cond.methodLink "RengaHallModel" 161 yX7_comesAgain) ∈ rg_T := rg_m4 (List.mem_of_getElem? (i := 237) rfl) rfl
theorem tw_i_X7_comesAgain : (Cond.instanceMethod yX7_comesAgain) ∈ rg_T := rg_m4 (List.mem_of_getElem? (i := 239) rfl) rfl
theorem tw_c_X7_comesAgain : (Cond.code yX7_comesAgain cX7_comesAgain 5 (some FieldType.int)) ∈ rg_T := rg_m5 (List.mem_of_getElem? (i := 0) rfl) rfl
theorem tw_m_X7_164 : (Cond.methodLink "RengaHallModel" 164 yX7_joins) ∈ rg_T := rg_m5 (List.mem_of_getElem? (i := 1) rfl) rfl
theorem tw_i_X7_joins : (Cond.instanceMethod yX7_joins) ∈ rg_T := rg_m5 (List.mem_of_getElem? (i := 3) rfl) rfl
theorem tw_c_X7_joins : (Cond.code yX7_joins cX7_joins 5 (some FieldType.boolean)) ∈ rg_T := rg_m5 (List.mem_of_getElem? (i := 4) rfl) rfl
theorem tw_m_X7_140 : (Cond.methodLink "RengaHallModel" 140 yX7_signsOfRow) ∈ rg_T := rg_m5 (List.mem_of_getElem? (i := 5) rfl) rfl
theorem tw_i_X7_signsOfRow : (Cond.instanceMethod yX7_signsOfRow) ∈ rg_T := rg_m5 (List.mem_of_getElem? (i := 7) rfl) rfl
theorem tw_c_X7_signsOfRow : (Cond.code yX7_signsOfRow cX7_signsOfRow 3 (some FieldType.int)) ∈ rg_T := rg_m5 (List.mem_of_getElem? (i := 8) rfl) rfl
theorem tw_m_X7_143 : (Cond.methodLink "RengaHallModel" 143 yX7_signsOf) ∈ rg_T := rg_m5 (List.mem_of_getElem? (i := 9) rfl) rfl
theorem tw_i_X7_signsOf : (Cond.instanceMethod yX7_signsOf) ∈ rg_T := rg_m5 (List.mem_of_getElem? (i := 11) rfl) rfl
theorem tw_c_X7_signsOf : (Cond.code yX7_signsOf cX7_signsOf 4 (some FieldType.int)) ∈ rg_T := rg_m5 (List.mem_of_getElem? (i := 12) rfl) rfl
theorem tw_m_X7_167 : (Cond.methodLink "RengaHallModel" 167 yX7_lowest) ∈ rg_T := rg_m5 (List.mem_of_getElem? (i := 13) rfl) rfl
theorem tw_s_X7_lowest : (Cond.static yX7_lowest) ∈ rg_T := rg_m5 (List.mem_of_getElem? (i := 14) rfl) rfl
theorem tw_c_X7_lowest : (Cond.code yX7_lowest cX7_lowest 2 (some FieldType.int)) ∈ rg_T := rg_m5 (List.mem_of_getElem? (i := 15) rfl) rfl
theorem tw_m_X7_170 : (Cond.methodLink "RengaHallModel" 170 yX7_lengthFault) ∈ rg_T := rg_m5 (List.mem_of_getElem? (i := 16) rfl) rfl
theorem tw_i_X7_lengthFault : (Cond.instanceMethod yX7_lengthFault) ∈ rg_T := rg_m5 (List.mem_of_getElem? (i := 18) rfl) rfl
theorem tw_c_X7_lengthFault : (Cond.code yX7_lengthFault cX7_lengthFault 6 (some FieldType.int)) ∈ rg_T := rg_m5 (List.mem_of_getElem? (i := 19) rfl) rfl
theorem tw_m_X7_129 : (Cond.methodLink "RengaHallModel" 129 yX7_seasonOf) ∈ rg_T := rg_m5 (List.mem_of_getElem? (i := 20) rfl) rfl
theorem tw_i_X7_seasonOf : (Cond.instanceMethod yX7_seasonOf) ∈ rg_T := rg_m5 (List.mem_of_getElem? (i := 22) rfl) rfl
theorem tw_c_X7_seasonOf : (Cond.code yX7_seasonOf cX7_seasonOf 3 (some FieldType.int)) ∈ rg_T := rg_m5 (List.mem_of_getElem? (i := 23) rfl) rfl
theorem tw_m_X7_146 : (Cond.methodLink "RengaHallModel" 146 yX7_runAt) ∈ rg_T := rg_m5 (List.mem_of_getElem? (i := 24) rfl) rfl
theorem tw_i_X7_runAt : (Cond.instanceMethod yX7_runAt) ∈ rg_T := rg_m5 (List.mem_of_getElem? (i := 26) rfl) rfl
theorem tw_c_X7_runAt : (Cond.code yX7_runAt cX7_runAt 5 (some FieldType.int)) ∈ rg_T := rg_m5 (List.mem_of_getElem? (i := 27) rfl) rfl
theorem tw_m_X7_149 : (Cond.methodLink "RengaHallModel" 149 yX7_isLong) ∈ rg_T := rg_m5 (List.mem_of_getElem? (i := 28) rfl) rfl
theorem tw_s_X7_isLong : (Cond.static yX7_isLong) ∈ rg_T := rg_m5 (List.mem_of_getElem? (i := 29) rfl) rfl
theorem tw_c_X7_isLong : (Cond.code yX7_isLong cX7_isLong 1 (some FieldType.boolean)) ∈ rg_T := rg_m5 (List.mem_of_getElem? (i := 30) rfl) rfl
theorem tw_m_X7_173 : (Cond.methodLink "RengaHallModel" 173 yX7_seatFault) ∈ rg_T := rg_m5 (List.mem_of_getElem? (i := 31) rfl) rfl
theorem tw_i_X7_seatFault : (Cond.instanceMethod yX7_seatFault) ∈ rg_T := rg_m5 (List.mem_of_getElem? (i := 33) rfl) rfl
theorem tw_c_X7_seatFault : (Cond.code yX7_seatFault cX7_seatFault 5 (some FieldType.int)) ∈ rg_T := rg_m5 (List.mem_of_getElem? (i := 34) rfl) rfl
theorem tw_m_L_125 : (Cond.methodLink "RengaHallLaw" 125 yX7_why) ∈ rg_T := rg_m5 (List.mem_of_getElem? (i := 35) rfl) rfl
theorem tw_i_X7_why : (Cond.instanceMethod yX7_why) ∈ rg_T := rg_m5 (List.mem_of_getElem? (i := 36) rfl) rfl
theorem tw_v_X7_why : (Cond.selects "RengaHallModel" yX7_why yX7_why) ∈ rg_T := rg_m5 (List.mem_of_getElem? (i := 37) rfl) rfl
theorem tw_c_X7_why : (Cond.code yX7_why cX7_why 1 (some FieldType.int)) ∈ rg_T := rg_m5 (List.mem_of_getElem? (i := 38) rfl) rfl
theorem tw_m_L_128 : (Cond.methodLink "RengaHallLaw" 128 yX7_choose) ∈ rg_T := rg_m5 (List.mem_of_getElem? (i := 39) rfl) rfl
theorem tw_i_X7_choose : (Cond.instanceMethod yX7_choose) ∈ rg_T := rg_m5 (List.mem_of_getElem? (i := 40) rfl) rfl
theorem tw_v_X7_choose : (Cond.selects "RengaHallModel" yX7_choose yX7_choose) ∈ rg_T := rg_m5 (List.mem_of_getElem? (i := 41) rfl) rfl
theorem tw_c_X7_choose : (Cond.code yX7_choose cX7_choose 3 (some FieldType.int)) ∈ rg_T := rg_m5 (List.mem_of_getElem? (i := 42) rfl) rfl
theorem tw_m_L_131 : (Cond.methodLink "RengaHallLaw" 131 yX7_mend) ∈ rg_T := rg_m5 (List.mem_of_getElem? (i := 43) rfl) rfl
theorem tw_i_X7_mend : (Cond.instanceMethod yX7_mend) ∈ rg_T := rg_m5 (List.mem_of_getElem? (i := 44) rfl) rfl
theorem tw_v_X7_mend : (Cond.selects "RengaHallModel" yX7_mend yX7_mend) ∈ rg_T := rg_m5 (List.mem_of_getElem? (i := 45) rfl) rfl
theorem tw_c_X7_mend : (Cond.code yX7_mend cX7_mend 5 (some FieldType.int)) ∈ rg_T := rg_m5 (List.mem_of_getElem? (i := 46) rfl) rfl
theorem tw_m_X7_183 : (Cond.methodLink "RengaHallModel" 183 yX7_laysLink) ∈ rg_T := rg_m5 (List.mem_of_getElem? (i := 47) rfl) rfl
theorem tw_i_X7_laysLink : (Cond.instanceMethod yX7_laysLink) ∈ rg_T := rg_m5 (List.mem_of_getElem? (i := 49) rfl) rfl
theorem tw_c_X7_laysLink : (Cond.code yX7_laysLink cX7_laysLink 3 none) ∈ rg_T := rg_m5 (List.mem_of_getElem? (i := 50) rfl) rfl
theorem tw_m_L_134 : (Cond.methodLink "RengaHallLaw" 134 yX7_give) ∈ rg_T := rg_m5 (List.mem_of_getElem? (i := 51) rfl) rfl
theorem tw_i_X7_give : (Cond.instanceMethod yX7_give) ∈ rg_T := rg_m5 (List.mem_of_getElem? (i := 52) rfl) rfl
theorem tw_v_X7_give : (Cond.selects "RengaHallModel" yX7_give yX7_give) ∈ rg_T := rg_m5 (List.mem_of_getElem? (i := 53) rfl) rfl
theorem tw_c_X7_give : (Cond.code yX7_give cX7_give 5 (some FieldType.int)) ∈ rg_T := rg_m5 (List.mem_of_getElem? (i := 54) rfl) rfl
theorem tw_m_X7_187 : (Cond.methodLink "RengaHallModel" 187 yX7_isLink) ∈ rg_T := rg_m5 (List.mem_of_getElem? (i := 55) rfl) rfl
theorem tw_i_X7_isLink : (Cond.instanceMethod yX7_isLink) ∈ rg_T := rg_m5 (List.mem_of_getElem? (i := 57) rfl) rfl
theorem tw_c_X7_isLink : (Cond.code yX7_isLink cX7_isLink 2 (some FieldType.boolean)) ∈ rg_T := rg_m5 (List.mem_of_getElem? (i := 58) rfl) rfl
theorem tw_m_L_137 : (Cond.methodLink "RengaHallLaw" 137 yX7_copy) ∈ rg_T := rg_m5 (List.mem_of_getElem? (i := 59) rfl) rfl
theorem tw_i_X7_copy : (Cond.instanceMethod yX7_copy) ∈ rg_T := rg_m5 (List.mem_of_getElem? (i := 60) rfl) rfl
theorem tw_v_X7_copy : (Cond.selects "RengaHallModel" yX7_copy yX7_copy) ∈ rg_T := rg_m5 (List.mem_of_getElem? (i := 61) rfl) rfl
theorem tw_c_X7_copy : (Cond.code yX7_copy cX7_copy 4 (some FieldType.int)) ∈ rg_T := rg_m5 (List.mem_of_getElem? (i := 62) rfl) rfl
theorem tw_m_X7_190 : (Cond.methodLink "RengaHallModel" 190 yX7_linksOf) ∈ rg_T := rg_m5 (List.mem_of_getElem? (i := 63) rfl) rfl
theorem tw_i_X7_linksOf : (Cond.instanceMethod yX7_linksOf) ∈ rg_T := rg_m5 (List.mem_of_getElem? (i := 65) rfl) rfl
theorem tw_c_X7_linksOf : (Cond.code yX7_linksOf cX7_linksOf 2 (some FieldType.int)) ∈ rg_T := rg_m5 (List.mem_of_getElem? (i := 66) rfl) rfl
theorem tw_m_X7_193 : (Cond.methodLink "RengaHallModel" 193 yX7_sizeOf) ∈ rg_T := rg_m5 (List.mem_of_getElem? (i := 67) rfl) rfl
theorem tw_i_X7_sizeOf : (Cond.instanceMethod yX7_sizeOf) ∈ rg_T := rg_m5 (List.mem_of_getElem? (i := 69) rfl) rfl
theorem tw_c_X7_sizeOf : (Cond.code yX7_sizeOf cX7_sizeOf 3 (some FieldType.int)) ∈ rg_T := rg_m5 (List.mem_of_getElem? (i := 70) rfl) rfl
theorem tw_m_X7_196 : (Cond.methodLink "RengaHallModel" 196 yX7_wordOf) ∈ rg_T := rg_m5 (List.mem_of_getElem? (i := 71) rfl) rfl
theorem tw_i_X7_wordOf : (Cond.instanceMethod yX7_wordOf) ∈ rg_T := rg_m5 (List.mem_of_getElem? (i := 73) rfl) rfl
theorem tw_c_X7_wordOf : (Cond.code yX7_wordOf cX7_wordOf 4 (some FieldType.int)) ∈ rg_T := rg_m5 (List.mem_of_getElem? (i := 74) rfl) rfl
theorem tw_m_L_141 : (Cond.methodLink "RengaHallLaw" 141 yX7_write) ∈ rg_T := rg_m5 (List.mem_of_getElem? (i := 75) rfl) rfl
theorem tw_i_X7_write : (Cond.instanceMethod yX7_write) ∈ rg_T := rg_m5 (List.mem_of_getElem? (i := 76) rfl) rfl
theorem tw_v_X7_write : (Cond.selects "RengaHallModel" yX7_write yX7_write) ∈ rg_T := rg_m5 (List.mem_of_getElem? (i := 77) rfl) rfl
theorem tw_c_X7_write : (Cond.code yX7_write cX7_write 8 (some FieldType.int)) ∈ rg_T := rg_m5 (List.mem_of_getElem? (i := 78) rfl) rfl
theorem tw_m_L_145 : (Cond.methodLink "RengaHallLaw" 145 yX7_hide) ∈ rg_T := rg_m5 (List.mem_of_getElem? (i := 79) rfl) rfl
theorem tw_i_X7_hide : (Cond.instanceMethod yX7_hide) ∈ rg_T := rg_m5 (List.mem_of_getElem? (i := 80) rfl) rfl
theorem tw_v_X7_hide : (Cond.selects "RengaHallModel" yX7_hide yX7_hide) ∈ rg_T := rg_m5 (List.mem_of_getElem? (i := 81) rfl) rfl
theorem tw_c_X7_hide : (Cond.code yX7_hide cX7_hide 4 (some FieldType.boolean)) ∈ rg_T := rg_m5 (List.mem_of_getElem? (i := 82) rfl) rfl
theorem tw_m_L_149 : (Cond.methodLink "RengaHallLaw" 149 yX7_links) ∈ rg_T := rg_m5 (List.mem_of_getElem? (i := 83) rfl) rfl
theorem tw_i_X7_links : (Cond.instanceMethod yX7_links) ∈ rg_T := rg_m5 (List.mem_of_getElem? (i := 84) rfl) rfl
theorem tw_v_X7_links : (Cond.selects "RengaHallModel" yX7_links yX7_links) ∈ rg_T := rg_m5 (List.mem_of_getElem? (i := 85) rfl) rfl
theorem tw_c_X7_links : (Cond.code yX7_links cX7_links 1 (some FieldType.int)) ∈ rg_T := rg_m5 (List.mem_of_getElem? (i := 86) rfl) rfl
theorem tw_m_L_153 : (Cond.methodLink "RengaHallLaw" 153 yX7_offers) ∈ rg_T := rg_m5 (List.mem_of_getElem? (i := 87) rfl) rfl
theorem tw_i_X7_offers : (Cond.instanceMethod yX7_offers) ∈ rg_T := rg_m5 (List.mem_of_getElem? (i := 88) rfl) rfl
theorem tw_v_X7_offers : (Cond.selects "RengaHallModel" yX7_offers yX7_offers) ∈ rg_T := rg_m5 (List.mem_of_getElem? (i := 89) rfl) rfl
theorem tw_c_X7_offers : (Cond.code yX7_offers cX7_offers 1 (some FieldType.int)) ∈ rg_T := rg_m5 (List.mem_of_getElem? (i := 90) rfl) rfl
theorem tw_m_L_156 : (Cond.methodLink "RengaHallLaw" 156 yX7_ofLink) ∈ rg_T := rg_m5 (List.mem_of_getElem? (i := 91) rfl) rfl
theorem tw_i_X7_ofLink : (Cond.instanceMethod yX7_ofLink) ∈ rg_T := rg_m5 (List.mem_of_getElem? (i := 92) rfl) rfl
theorem tw_v_X7_ofLink : (Cond.selects "RengaHallModel" yX7_ofLink yX7_ofLink) ∈ rg_T := rg_m5 (List.mem_of_getElem? (i := 93) rfl) rfl
theorem tw_c_X7_ofLink : (Cond.code yX7_ofLink cX7_ofLink 3 (some FieldType.int)) ∈ rg_T := rg_m5 (List.mem_of_getElem? (i := 94) rfl) rfl
theorem tw_m_L_159 : (Cond.methodLink "RengaHallLaw" 159 yX7_wordAt) ∈ rg_T := rg_m5 (List.mem_of_getElem? (i := 95) rfl) rfl
theorem tw_i_X7_wordAt : (Cond.instanceMethod yX7_wordAt) ∈ rg_T := rg_m5 (List.mem_of_getElem? (i := 96) rfl) rfl
theorem tw_v_X7_wordAt : (Cond.selects "RengaHallModel" yX7_wordAt yX7_wordAt) ∈ rg_T := rg_m5 (List.mem_of_getElem? (i := 97) rfl) rfl
theorem tw_c_X7_wordAt : (Cond.code yX7_wordAt cX7_wordAt 4 (some FieldType.int)) ∈ rg_T := rg_m5 (List.mem_of_getElem? (i := 98) rfl) rfl
theorem tw_m_L_162 : (Cond.methodLink "RengaHallLaw" 162 yX7_faultAnew) ∈ rg_T := rg_m5 (List.mem_of_getElem? (i := 99) rfl) rfl
theorem tw_i_X7_faultAnew : (Cond.instanceMethod yX7_faultAnew) ∈ rg_T := rg_m5 (List.mem_of_getElem? (i := 100) rfl) rfl
theorem tw_v_X7_faultAnew : (Cond.selects "RengaHallModel" yX7_faultAnew yX7_faultAnew) ∈ rg_T := rg_m5 (List.mem_of_getElem? (i := 101) rfl) rfl
theorem tw_c_X7_faultAnew : (Cond.code yX7_faultAnew cX7_faultAnew 2 (some FieldType.int)) ∈ rg_T := rg_m5 (List.mem_of_getElem? (i := 102) rfl) rfl
theorem tw_m_L_165 : (Cond.methodLink "RengaHallLaw" 165 yX7_chances) ∈ rg_T := rg_m5 (List.mem_of_getElem? (i := 103) rfl) rfl
theorem tw_i_X7_chances : (Cond.instanceMethod yX7_chances) ∈ rg_T := rg_m5 (List.mem_of_getElem? (i := 104) rfl) rfl
theorem tw_v_X7_chances : (Cond.selects "RengaHallModel" yX7_chances yX7_chances) ∈ rg_T := rg_m5 (List.mem_of_getElem? (i := 105) rfl) rfl
theorem tw_c_X7_chances : (Cond.code yX7_chances cX7_chances 5 (some FieldType.int)) ∈ rg_T := rg_m5 (List.mem_of_getElem? (i := 106) rfl) rfl
theorem tw_m_L_169 : (Cond.methodLink "RengaHallLaw" 169 yX7_prize) ∈ rg_T := rg_m5 (List.mem_of_getElem? (i := 107) rfl) rfl
theorem tw_i_X7_prize : (Cond.instanceMethod yX7_prize) ∈ rg_T := rg_m5 (List.mem_of_getElem? (i := 108) rfl) rfl
theorem tw_v_X7_prize : (Cond.selects "RengaHallModel" yX7_prize yX7_prize) ∈ rg_T := rg_m5 (List.mem_of_getElem? (i := 109) rfl) rfl
theorem tw_c_X7_prize : (Cond.code yX7_prize cX7_prize 9 (some FieldType.int)) ∈ rg_T := rg_m5 (List.mem_of_getElem? (i := 110) rfl) rfl
theorem tw_m_L_172 : (Cond.methodLink "RengaHallLaw" 172 yX7_far) ∈ rg_T := rg_m5 (List.mem_of_getElem? (i := 111) rfl) rfl
theorem tw_i_X7_far : (Cond.instanceMethod yX7_far) ∈ rg_T := rg_m5 (List.mem_of_getElem? (i := 112) rfl) rfl
theorem tw_v_X7_far : (Cond.selects "RengaHallModel" yX7_far yX7_far) ∈ rg_T := rg_m5 (List.mem_of_getElem? (i := 113) rfl) rfl
theorem tw_c_X7_far : (Cond.code yX7_far cX7_far 3 (some FieldType.int)) ∈ rg_T := rg_m5 (List.mem_of_getElem? (i := 114) rfl) rfl
theorem tw_m_X7_200 : (Cond.methodLink "RengaHallModel" 200 yX7_isText) ∈ rg_T := rg_m5 (List.mem_of_getElem? (i := 115) rfl) rfl
theorem tw_i_X7_isText : (Cond.instanceMethod yX7_isText) ∈ rg_T := rg_m5 (List.mem_of_getElem? (i := 117) rfl) rfl
theorem tw_c_X7_isText : (Cond.code yX7_isText cX7_isText 2 (some FieldType.boolean)) ∈ rg_T := rg_m5 (List.mem_of_getElem? (i := 118) rfl) rfl
theorem tw_m_X7_203 : (Cond.methodLink "RengaHallModel" 203 yX7_farOf) ∈ rg_T := rg_m5 (List.mem_of_getElem? (i := 119) rfl) rfl
theorem tw_i_X7_farOf : (Cond.instanceMethod yX7_farOf) ∈ rg_T := rg_m5 (List.mem_of_getElem? (i := 121) rfl) rfl
theorem tw_c_X7_farOf : (Cond.code yX7_farOf cX7_farOf 8 (some FieldType.int)) ∈ rg_T := rg_m5 (List.mem_of_getElem? (i := 122) rfl) rfl
theorem tw_m_L_175 : (Cond.methodLink "RengaHallLaw" 175 yX7_source) ∈ rg_T := rg_m5 (List.mem_of_getElem? (i := 123) rfl) rfl
theorem tw_i_X7_source : (Cond.instanceMethod yX7_source) ∈ rg_T := rg_m5 (List.mem_of_getElem? (i := 124) rfl) rfl
theorem tw_v_X7_source : (Cond.selects "RengaHallModel" yX7_source yX7_source) ∈ rg_T := rg_m5 (List.mem_of_getElem? (i := 125) rfl) rfl
theorem tw_c_X7_source : (Cond.code yX7_source cX7_source 4 (some FieldType.int)) ∈ rg_T := rg_m5 (List.mem_of_getElem? (i := 126) rfl) rfl
theorem tw_m_L_178 : (Cond.methodLink "RengaHallLaw" 178 yX7_hand) ∈ rg_T := rg_m5 (List.mem_of_getElem? (i := 127) rfl) rfl
theorem tw_i_X7_hand : (Cond.instanceMethod yX7_hand) ∈ rg_T := rg_m5 (List.mem_of_getElem? (i := 128) rfl) rfl
theorem tw_v_X7_hand : (Cond.selects "RengaHallModel" yX7_hand yX7_hand) ∈ rg_T := rg_m5 (List.mem_of_getElem? (i := 129) rfl) rfl
theorem tw_c_X7_hand : (Cond.code yX7_hand cX7_hand 10 (some FieldType.int)) ∈ rg_T := rg_m5 (List.mem_of_getElem? (i := 130) rfl) rfl
theorem tw_m_X7_206 : (Cond.methodLink "RengaHallModel" 206 yX7_likeness) ∈ rg_T := rg_m5 (List.mem_of_getElem? (i := 131) rfl) rfl
theorem tw_i_X7_likeness : (Cond.instanceMethod yX7_likeness) ∈ rg_T := rg_m5 (List.mem_of_getElem? (i := 133) rfl) rfl
theorem tw_c_X7_likeness : (Cond.code yX7_likeness cX7_likeness 7 (some FieldType.int)) ∈ rg_T := rg_m5 (List.mem_of_getElem? (i := 134) rfl) rfl
theorem tw_v_X0_isGreater : Cond.selects "RengaHall$Means" yX0_isGreater yX0_isGreater ∈ rg_T := rg_m0 (List.mem_of_getElem? (i := 0) rfl) rfl
theorem tw_v_X6_needRange : Cond.selects "RengaHall" yX6_needRange yX6_needRange ∈ rg_T := rg_m0 (List.mem_of_getElem? (i := 1) rfl) rfl
theorem tw_v_X6_needWord : Cond.selects "RengaHall" yX6_needWord yX6_needWord ∈ rg_T := rg_m0 (List.mem_of_getElem? (i := 3) rfl) rfl
theorem tw_v_X6_needNoOffers : Cond.selects "RengaHall" yX6_needNoOffers yX6_needNoOffers ∈ rg_T := rg_m0 (List.mem_of_getElem? (i := 4) rfl) rfl
theorem tw_v_X6_needPoet : Cond.selects "RengaHall" yX6_needPoet yX6_needPoet ∈ rg_T := rg_m0 (List.mem_of_getElem? (i := 5) rfl) rfl
theorem tw_v_X2_unlikeSeasonPlace : Cond.selects "RengaHall$Scribe" yX2_unlikeSeasonPlace yX2_unlikeSeasonPlace ∈ rg_T := rg_m0 (List.mem_of_getElem? (i := 6) rfl) rfl
theorem tw_v_X2_wordAgainPlace : Cond.selects "RengaHall$Scribe" yX2_wordAgainPlace yX2_wordAgainPlace ∈ rg_T := rg_m0 (List.mem_of_getElem? (i := 7) rfl) rfl
theorem tw_v_X2_joins : Cond.selects "RengaHall$Scribe" yX2_joins yX2_joins ∈ rg_T := rg_m0 (List.mem_of_getElem? (i := 8) rfl) rfl
theorem tw_v_X2_lowestSubject : Cond.selects "RengaHall$Scribe" yX2_lowestSubject yX2_lowestSubject ∈ rg_T := rg_m0 (List.mem_of_getElem? (i := 9) rfl) rfl
theorem tw_v_X2_wrongSeason : Cond.selects "RengaHall$Scribe" yX2_wrongSeason yX2_wrongSeason ∈ rg_T := rg_m0 (List.mem_of_getElem? (i := 10) rfl) rfl
theorem tw_v_X2_leastRun : Cond.selects "RengaHall$Scribe" yX2_leastRun yX2_leastRun ∈ rg_T := rg_m0 (List.mem_of_getElem? (i := 11) rfl) rfl
theorem tw_v_X2_isLong : Cond.selects "RengaHall$Scribe" yX2_isLong yX2_isLong ∈ rg_T := rg_m0 (List.mem_of_getElem? (i := 12) rfl) rfl
theorem tw_v_X2_mostRun : Cond.selects "RengaHall$Scribe" yX2_mostRun yX2_mostRun ∈ rg_T := rg_m0 (List.mem_of_getElem? (i := 13) rfl) rfl
theorem tw_v_X2_isLately : Cond.selects "RengaHall$Scribe" yX2_isLately yX2_isLately ∈ rg_T := rg_m0 (List.mem_of_getElem? (i := 14) rfl) rfl
theorem tw_v_X2_wrongSeat : Cond.selects "RengaHall$Scribe" yX2_wrongSeat yX2_wrongSeat ∈ rg_T := rg_m0 (List.mem_of_getElem? (i := 15) rfl) rfl
theorem tw_v_X6_needLink : Cond.selects "RengaHall" yX6_needLink yX6_needLink ∈ rg_T := rg_m0 (List.mem_of_getElem? (i := 16) rfl) rfl
theorem tw_v_X6_needPlace : Cond.selects "RengaHall" yX6_needPlace yX6_needPlace ∈ rg_T := rg_m0 (List.mem_of_getElem? (i := 17) rfl) rfl
theorem tw_v_X6_needText : Cond.selects "RengaHall" yX6_needText yX6_needText ∈ rg_T := rg_m0 (List.mem_of_getElem? (i := 18) rfl) rfl
theorem tw_v_X6_needCopy : Cond.selects "RengaHall" yX6_needCopy yX6_needCopy ∈ rg_T := rg_m0 (List.mem_of_getElem? (i := 19) rfl) rfl
theorem tw_v_X6_needPoem : Cond.selects "RengaHall" yX6_needPoem yX6_needPoem ∈ rg_T := rg_m0 (List.mem_of_getElem? (i := 20) rfl) rfl
theorem tw_v_X6_fillSheet : Cond.selects "RengaHall" yX6_fillSheet yX6_fillSheet ∈ rg_T := rg_m0 (List.mem_of_getElem? (i := 21) rfl) rfl
theorem tw_v_X6_textWord : Cond.selects "RengaHall" yX6_textWord yX6_textWord ∈ rg_T := rg_m0 (List.mem_of_getElem? (i := 22) rfl) rfl
theorem tw_v_X3_isOnSheet : Cond.selects "RengaHall$Sheet" yX3_isOnSheet yX3_isOnSheet ∈ rg_T := rg_m0 (List.mem_of_getElem? (i := 23) rfl) rfl
theorem tw_v_X6_chanceOf : Cond.selects "RengaHall" yX6_chanceOf yX6_chanceOf ∈ rg_T := rg_m0 (List.mem_of_getElem? (i := 24) rfl) rfl
theorem tw_v_X6_distance : Cond.selects "RengaHall" yX6_distance yX6_distance ∈ rg_T := rg_m0 (List.mem_of_getElem? (i := 25) rfl) rfl
theorem tw_v_X6_likeness : Cond.selects "RengaHall" yX6_likeness yX6_likeness ∈ rg_T := rg_m0 (List.mem_of_getElem? (i := 26) rfl) rfl
theorem tw_v_X7_goes : Cond.selects "RengaHallModel" yX7_goes yX7_goes ∈ rg_T := rg_m0 (List.mem_of_getElem? (i := 27) rfl) rfl
theorem tw_v_X7_isWord : Cond.selects "RengaHallModel" yX7_isWord yX7_isWord ∈ rg_T := rg_m0 (List.mem_of_getElem? (i := 28) rfl) rfl
theorem tw_v_X7_calls : Cond.selects "RengaHallModel" yX7_calls yX7_calls ∈ rg_T := rg_m0 (List.mem_of_getElem? (i := 29) rfl) rfl
theorem tw_v_X7_isFinished : Cond.selects "RengaHallModel" yX7_isFinished yX7_isFinished ∈ rg_T := rg_m0 (List.mem_of_getElem? (i := 30) rfl) rfl
theorem tw_v_X7_isPoet : Cond.selects "RengaHallModel" yX7_isPoet yX7_isPoet ∈ rg_T := rg_m0 (List.mem_of_getElem? (i := 31) rfl) rfl
theorem tw_v_X7_faultOf : Cond.selects "RengaHallModel" yX7_faultOf yX7_faultOf ∈ rg_T := rg_m0 (List.mem_of_getElem? (i := 32) rfl) rfl
theorem tw_v_X7_soundsOfRow : Cond.selects "RengaHallModel" yX7_soundsOfRow yX7_soundsOfRow ∈ rg_T := rg_m0 (List.mem_of_getElem? (i := 33) rfl) rfl
theorem tw_v_X7_mixes : Cond.selects "RengaHallModel" yX7_mixes yX7_mixes ∈ rg_T := rg_m0 (List.mem_of_getElem? (i := 34) rfl) rfl
theorem tw_v_X7_seasonOfRow : Cond.selects "RengaHallModel" yX7_seasonOfRow yX7_seasonOfRow ∈ rg_T := rg_m0 (List.mem_of_getElem? (i := 35) rfl) rfl
theorem tw_v_X7_comesAgain : Cond.selects "RengaHallModel" yX7_comesAgain yX7_comesAgain ∈ rg_T := rg_m0 (List.mem_of_getElem? (i := 36) rfl) rfl
theorem tw_v_X7_joins : Cond.selects "RengaHallModel" yX7_joins yX7_joins ∈ rg_T := rg_m0 (List.mem_of_getElem? (i := 37) rfl) rfl
theorem tw_v_X7_signsOfRow : Cond.selects "RengaHallModel" yX7_signsOfRow yX7_signsOfRow ∈ rg_T := rg_m0 (List.mem_of_getElem? (i := 38) rfl) rfl
theorem tw_v_X7_signsOf : Cond.selects "RengaHallModel" yX7_signsOf yX7_signsOf ∈ rg_T := rg_m0 (List.mem_of_getElem? (i := 39) rfl) rfl
theorem tw_v_X7_lengthFault : Cond.selects "RengaHallModel" yX7_lengthFault yX7_lengthFault ∈ rg_T := rg_m0 (List.mem_of_getElem? (i := 40) rfl) rfl
theorem tw_v_X7_seasonOf : Cond.selects "RengaHallModel" yX7_seasonOf yX7_seasonOf ∈ rg_T := rg_m0 (List.mem_of_getElem? (i := 41) rfl) rfl
theorem tw_v_X7_runAt : Cond.selects "RengaHallModel" yX7_runAt yX7_runAt ∈ rg_T := rg_m0 (List.mem_of_getElem? (i := 42) rfl) rfl
theorem tw_v_X7_seatFault : Cond.selects "RengaHallModel" yX7_seatFault yX7_seatFault ∈ rg_T := rg_m0 (List.mem_of_getElem? (i := 43) rfl) rfl
theorem tw_v_X7_laysLink : Cond.selects "RengaHallModel" yX7_laysLink yX7_laysLink ∈ rg_T := rg_m0 (List.mem_of_getElem? (i := 44) rfl) rfl
theorem tw_v_X7_isLink : Cond.selects "RengaHallModel" yX7_isLink yX7_isLink ∈ rg_T := rg_m0 (List.mem_of_getElem? (i := 45) rfl) rfl
theorem tw_v_X7_linksOf : Cond.selects "RengaHallModel" yX7_linksOf yX7_linksOf ∈ rg_T := rg_m0 (List.mem_of_getElem? (i := 46) rfl) rfl
theorem tw_v_X7_sizeOf : Cond.selects "RengaHallModel" yX7_sizeOf yX7_sizeOf ∈ rg_T := rg_m0 (List.mem_of_getElem? (i := 47) rfl) rfl
theorem tw_v_X7_wordOf : Cond.selects "RengaHallModel" yX7_wordOf yX7_wordOf ∈ rg_T := rg_m0 (List.mem_of_getElem? (i := 48) rfl) rfl
theorem tw_v_X7_isText : Cond.selects "RengaHallModel" yX7_isText yX7_isText ∈ rg_T := rg_m0 (List.mem_of_getElem? (i := 49) rfl) rfl
theorem tw_v_X7_farOf : Cond.selects "RengaHallModel" yX7_farOf yX7_farOf ∈ rg_T := rg_m0 (List.mem_of_getElem? (i := 50) rfl) rfl
theorem tw_v_X7_likeness : Cond.selects "RengaHallModel" yX7_likeness yX7_likeness ∈ rg_T := rg_m0 (List.mem_of_getElem? (i := 51) rfl) rfl
theorem tw_l_X0_0 : u_lay RX0 TX0 0 ∈ rg_T := rg_m1 (List.mem_of_getElem? (i := 157) rfl) rfl
theorem tw_l_X0_1 : u_lay RX0 TX0 1 ∈ rg_T := rg_m1 (List.mem_of_getElem? (i := 159) rfl) rfl
theorem inT_X0 : ∀ w ∈ u_ws RX0 TX0 2, w ∈ rg_T := by
  intro w hw
  obtain ⟨k, hk, rfl⟩ := List.mem_map.mp hw
  have hk := List.mem_range.mp hk
  match k, hk with
  | 0, _ => exact tw_l_X0_0
  | 1, _ => exact tw_l_X0_1
  | k + 2, hk => exact absurd hk (by omega)
theorem tw_l_X1_0 : u_lay RX1 TX1 0 ∈ rg_T := rg_m1 (List.mem_of_getElem? (i := 111) rfl) rfl
theorem tw_l_X1_1 : u_lay RX1 TX1 1 ∈ rg_T := rg_m1 (List.mem_of_getElem? (i := 113) rfl) rfl
theorem tw_l_X1_2 : u_lay RX1 TX1 2 ∈ rg_T := rg_m1 (List.mem_of_getElem? (i := 115) rfl) rfl
theorem tw_l_X1_3 : u_lay RX1 TX1 3 ∈ rg_T := rg_m1 (List.mem_of_getElem? (i := 117) rfl) rfl
theorem tw_l_X1_4 : u_lay RX1 TX1 4 ∈ rg_T := rg_m1 (List.mem_of_getElem? (i := 119) rfl) rfl
theorem tw_l_X1_5 : u_lay RX1 TX1 5 ∈ rg_T := rg_m1 (List.mem_of_getElem? (i := 121) rfl) rfl
theorem tw_l_X1_6 : u_lay RX1 TX1 6 ∈ rg_T := rg_m1 (List.mem_of_getElem? (i := 123) rfl) rfl
theorem tw_l_X1_7 : u_lay RX1 TX1 7 ∈ rg_T := rg_m1 (List.mem_of_getElem? (i := 125) rfl) rfl
theorem tw_l_X1_8 : u_lay RX1 TX1 8 ∈ rg_T := rg_m1 (List.mem_of_getElem? (i := 127) rfl) rfl
theorem tw_l_X1_9 : u_lay RX1 TX1 9 ∈ rg_T := rg_m1 (List.mem_of_getElem? (i := 129) rfl) rfl
theorem tw_l_X1_10 : u_lay RX1 TX1 10 ∈ rg_T := rg_m1 (List.mem_of_getElem? (i := 131) rfl) rfl
theorem inT_X1 : ∀ w ∈ u_ws RX1 TX1 11, w ∈ rg_T := by
  intro w hw
  obtain ⟨k, hk, rfl⟩ := List.mem_map.mp hw
  have hk := List.mem_range.mp hk
  match k, hk with
  | 0, _ => exact tw_l_X1_0
  | 1, _ => exact tw_l_X1_1
  | 2, _ => exact tw_l_X1_2
  | 3, _ => exact tw_l_X1_3
  | 4, _ => exact tw_l_X1_4
  | 5, _ => exact tw_l_X1_5
  | 6, _ => exact tw_l_X1_6
  | 7, _ => exact tw_l_X1_7
  | 8, _ => exact tw_l_X1_8
  | 9, _ => exact tw_l_X1_9
  | 10, _ => exact tw_l_X1_10
  | k + 11, hk => exact absurd hk (by omega)
theorem tw_l_X2_0 : u_lay RX2 TX2 0 ∈ rg_T := rg_m1 (List.mem_of_getElem? (i := 142) rfl) rfl
theorem tw_l_X2_1 : u_lay RX2 TX2 1 ∈ rg_T := rg_m1 (List.mem_of_getElem? (i := 144) rfl) rfl
theorem inT_X2 : ∀ w ∈ u_ws RX2 TX2 2, w ∈ rg_T := by
  intro w hw
  obtain ⟨k, hk, rfl⟩ := List.mem_map.mp hw
  have hk := List.mem_range.mp hk
  match k, hk with
  | 0, _ => exact tw_l_X2_0
  | 1, _ => exact tw_l_X2_1
  | k + 2, hk => exact absurd hk (by omega)
theorem tw_l_X3_0 : u_lay RX3 TX3 0 ∈ rg_T := rg_m1 (List.mem_of_getElem? (i := 171) rfl) rfl
theorem inT_X3 : ∀ w ∈ u_ws RX3 TX3 1, w ∈ rg_T := by
  intro w hw
  obtain ⟨k, hk, rfl⟩ := List.mem_map.mp hw
  have hk := List.mem_range.mp hk
  match k, hk with
  | 0, _ => exact tw_l_X3_0
  | k + 1, hk => exact absurd hk (by omega)
theorem tw_l_X4_0 : u_lay RX4 TX4 0 ∈ rg_T := rg_m1 (List.mem_of_getElem? (i := 37) rfl) rfl
theorem tw_l_X4_1 : u_lay RX4 TX4 1 ∈ rg_T := rg_m1 (List.mem_of_getElem? (i := 39) rfl) rfl
theorem tw_l_X4_2 : u_lay RX4 TX4 2 ∈ rg_T := rg_m1 (List.mem_of_getElem? (i := 41) rfl) rfl
theorem tw_l_X4_3 : u_lay RX4 TX4 3 ∈ rg_T := rg_m1 (List.mem_of_getElem? (i := 43) rfl) rfl
theorem tw_l_X4_4 : u_lay RX4 TX4 4 ∈ rg_T := rg_m1 (List.mem_of_getElem? (i := 45) rfl) rfl
theorem inT_X4 : ∀ w ∈ u_ws RX4 TX4 5, w ∈ rg_T := by
  intro w hw
  obtain ⟨k, hk, rfl⟩ := List.mem_map.mp hw
  have hk := List.mem_range.mp hk
  match k, hk with
  | 0, _ => exact tw_l_X4_0
  | 1, _ => exact tw_l_X4_1
  | 2, _ => exact tw_l_X4_2
  | 3, _ => exact tw_l_X4_3
  | 4, _ => exact tw_l_X4_4
  | k + 5, hk => exact absurd hk (by omega)
theorem tw_l_X5_0 : u_lay RX5 TX5 0 ∈ rg_T := rg_m1 (List.mem_of_getElem? (i := 79) rfl) rfl
theorem tw_l_X5_1 : u_lay RX5 TX5 1 ∈ rg_T := rg_m1 (List.mem_of_getElem? (i := 81) rfl) rfl
theorem tw_l_X5_2 : u_lay RX5 TX5 2 ∈ rg_T := rg_m1 (List.mem_of_getElem? (i := 83) rfl) rfl
theorem tw_l_X5_3 : u_lay RX5 TX5 3 ∈ rg_T := rg_m1 (List.mem_of_getElem? (i := 85) rfl) rfl
theorem tw_l_X5_4 : u_lay RX5 TX5 4 ∈ rg_T := rg_m1 (List.mem_of_getElem? (i := 87) rfl) rfl
theorem tw_l_X5_5 : u_lay RX5 TX5 5 ∈ rg_T := rg_m1 (List.mem_of_getElem? (i := 89) rfl) rfl
theorem inT_X5 : ∀ w ∈ u_ws RX5 TX5 6, w ∈ rg_T := by
  intro w hw
  obtain ⟨k, hk, rfl⟩ := List.mem_map.mp hw
  have hk := List.mem_range.mp hk
  match k, hk with
  | 0, _ => exact tw_l_X5_0
  | 1, _ => exact tw_l_X5_1
  | 2, _ => exact tw_l_X5_2
  | 3, _ => exact tw_l_X5_3
  | 4, _ => exact tw_l_X5_4
  | 5, _ => exact tw_l_X5_5
  | k + 6, hk => exact absurd hk (by omega)
theorem tw_l_X6_0 : u_lay RX6 TX6 0 ∈ rg_T := rg_m1 (List.mem_of_getElem? (i := 187) rfl) rfl
theorem tw_l_X6_1 : u_lay RX6 TX6 1 ∈ rg_T := rg_m1 (List.mem_of_getElem? (i := 189) rfl) rfl
theorem tw_l_X6_2 : u_lay RX6 TX6 2 ∈ rg_T := rg_m1 (List.mem_of_getElem? (i := 191) rfl) rfl
theorem tw_l_X6_3 : u_lay RX6 TX6 3 ∈ rg_T := rg_m1 (List.mem_of_getElem? (i := 193) rfl) rfl
theorem tw_l_X6_4 : u_lay RX6 TX6 4 ∈ rg_T := rg_m1 (List.mem_of_getElem? (i := 195) rfl) rfl
theorem tw_l_X6_5 : u_lay RX6 TX6 5 ∈ rg_T := rg_m1 (List.mem_of_getElem? (i := 197) rfl) rfl
theorem tw_l_X6_6 : u_lay RX6 TX6 6 ∈ rg_T := rg_m1 (List.mem_of_getElem? (i := 199) rfl) rfl
theorem tw_l_X6_7 : u_lay RX6 TX6 7 ∈ rg_T := rg_m1 (List.mem_of_getElem? (i := 201) rfl) rfl
theorem tw_l_X6_8 : u_lay RX6 TX6 8 ∈ rg_T := rg_m1 (List.mem_of_getElem? (i := 203) rfl) rfl
theorem tw_l_X6_9 : u_lay RX6 TX6 9 ∈ rg_T := rg_m1 (List.mem_of_getElem? (i := 205) rfl) rfl
theorem tw_l_X6_10 : u_lay RX6 TX6 10 ∈ rg_T := rg_m1 (List.mem_of_getElem? (i := 207) rfl) rfl
theorem tw_l_X6_11 : u_lay RX6 TX6 11 ∈ rg_T := rg_m1 (List.mem_of_getElem? (i := 209) rfl) rfl
theorem tw_l_X6_12 : u_lay RX6 TX6 12 ∈ rg_T := rg_m1 (List.mem_of_getElem? (i := 211) rfl) rfl
theorem inT_X6 : ∀ w ∈ u_ws RX6 TX6 13, w ∈ rg_T := by
  intro w hw
  obtain ⟨k, hk, rfl⟩ := List.mem_map.mp hw
  have hk := List.mem_range.mp hk
  match k, hk with
  | 0, _ => exact tw_l_X6_0
  | 1, _ => exact tw_l_X6_1
  | 2, _ => exact tw_l_X6_2
  | 3, _ => exact tw_l_X6_3
  | 4, _ => exact tw_l_X6_4
  | 5, _ => exact tw_l_X6_5
  | 6, _ => exact tw_l_X6_6
  | 7, _ => exact tw_l_X6_7
  | 8, _ => exact tw_l_X6_8
  | 9, _ => exact tw_l_X6_9
  | 10, _ => exact tw_l_X6_10
  | 11, _ => exact tw_l_X6_11
  | 12, _ => exact tw_l_X6_12
  | k + 13, hk => exact absurd hk (by omega)
theorem tw_l_X7_0 : u_lay RX7 TX7 0 ∈ rg_T := rg_m4 (List.mem_of_getElem? (i := 93) rfl) rfl
theorem tw_l_X7_1 : u_lay RX7 TX7 1 ∈ rg_T := rg_m4 (List.mem_of_getElem? (i := 95) rfl) rfl
theorem tw_l_X7_2 : u_lay RX7 TX7 2 ∈ rg_T := rg_m4 (List.mem_of_getElem? (i := 97) rfl) rfl
theorem tw_l_X7_3 : u_lay RX7 TX7 3 ∈ rg_T := rg_m4 (List.mem_of_getElem? (i := 99) rfl) rfl
theorem tw_l_X7_4 : u_lay RX7 TX7 4 ∈ rg_T := rg_m4 (List.mem_of_getElem? (i := 101) rfl) rfl
theorem tw_l_X7_5 : u_lay RX7 TX7 5 ∈ rg_T := rg_m4 (List.mem_of_getElem? (i := 103) rfl) rfl
theorem tw_l_X7_6 : u_lay RX7 TX7 6 ∈ rg_T := rg_m4 (List.mem_of_getElem? (i := 105) rfl) rfl
theorem tw_l_X7_7 : u_lay RX7 TX7 7 ∈ rg_T := rg_m4 (List.mem_of_getElem? (i := 107) rfl) rfl
theorem tw_l_X7_8 : u_lay RX7 TX7 8 ∈ rg_T := rg_m4 (List.mem_of_getElem? (i := 109) rfl) rfl
theorem tw_l_X7_9 : u_lay RX7 TX7 9 ∈ rg_T := rg_m4 (List.mem_of_getElem? (i := 111) rfl) rfl
theorem tw_l_X7_10 : u_lay RX7 TX7 10 ∈ rg_T := rg_m4 (List.mem_of_getElem? (i := 113) rfl) rfl
theorem tw_l_X7_11 : u_lay RX7 TX7 11 ∈ rg_T := rg_m4 (List.mem_of_getElem? (i := 115) rfl) rfl
theorem tw_l_X7_12 : u_lay RX7 TX7 12 ∈ rg_T := rg_m4 (List.mem_of_getElem? (i := 117) rfl) rfl
theorem tw_l_X7_13 : u_lay RX7 TX7 13 ∈ rg_T := rg_m4 (List.mem_of_getElem? (i := 119) rfl) rfl
theorem tw_l_X7_14 : u_lay RX7 TX7 14 ∈ rg_T := rg_m4 (List.mem_of_getElem? (i := 121) rfl) rfl
theorem tw_l_X7_15 : u_lay RX7 TX7 15 ∈ rg_T := rg_m4 (List.mem_of_getElem? (i := 123) rfl) rfl
theorem tw_l_X7_16 : u_lay RX7 TX7 16 ∈ rg_T := rg_m4 (List.mem_of_getElem? (i := 125) rfl) rfl
theorem tw_l_X7_17 : u_lay RX7 TX7 17 ∈ rg_T := rg_m4 (List.mem_of_getElem? (i := 127) rfl) rfl
theorem tw_l_X7_18 : u_lay RX7 TX7 18 ∈ rg_T := rg_m4 (List.mem_of_getElem? (i := 129) rfl) rfl
theorem tw_l_X7_19 : u_lay RX7 TX7 19 ∈ rg_T := rg_m4 (List.mem_of_getElem? (i := 131) rfl) rfl
theorem tw_l_X7_20 : u_lay RX7 TX7 20 ∈ rg_T := rg_m4 (List.mem_of_getElem? (i := 133) rfl) rfl
theorem tw_l_X7_21 : u_lay RX7 TX7 21 ∈ rg_T := rg_m4 (List.mem_of_getElem? (i := 135) rfl) rfl
theorem tw_l_X7_22 : u_lay RX7 TX7 22 ∈ rg_T := rg_m4 (List.mem_of_getElem? (i := 137) rfl) rfl
theorem tw_l_X7_23 : u_lay RX7 TX7 23 ∈ rg_T := rg_m4 (List.mem_of_getElem? (i := 139) rfl) rfl
theorem tw_l_X7_24 : u_lay RX7 TX7 24 ∈ rg_T := rg_m4 (List.mem_of_getElem? (i := 141) rfl) rfl
theorem tw_l_X7_25 : u_lay RX7 TX7 25 ∈ rg_T := rg_m4 (List.mem_of_getElem? (i := 143) rfl) rfl
theorem tw_l_X7_26 : u_lay RX7 TX7 26 ∈ rg_T := rg_m4 (List.mem_of_getElem? (i := 145) rfl) rfl
theorem tw_l_X7_27 : u_lay RX7 TX7 27 ∈ rg_T := rg_m4 (List.mem_of_getElem? (i := 147) rfl) rfl
theorem tw_l_X7_28 : u_lay RX7 TX7 28 ∈ rg_T := rg_m4 (List.mem_of_getElem? (i := 149) rfl) rfl
theorem tw_l_X7_29 : u_lay RX7 TX7 29 ∈ rg_T := rg_m4 (List.mem_of_getElem? (i := 151) rfl) rfl
theorem tw_l_X7_30 : u_lay RX7 TX7 30 ∈ rg_T := rg_m4 (List.mem_of_getElem? (i := 153) rfl) rfl
theorem tw_l_X7_31 : u_lay RX7 TX7 31 ∈ rg_T := rg_m4 (List.mem_of_getElem? (i := 155) rfl) rfl
theorem tw_l_X7_32 : u_lay RX7 TX7 32 ∈ rg_T := rg_m4 (List.mem_of_getElem? (i := 157) rfl) rfl
theorem tw_l_X7_33 : u_lay RX7 TX7 33 ∈ rg_T := rg_m4 (List.mem_of_getElem? (i := 159) rfl) rfl
theorem inT_X7 : ∀ w ∈ u_ws RX7 TX7 34, w ∈ rg_T := by
  intro w hw
  obtain ⟨k, hk, rfl⟩ := List.mem_map.mp hw
  have hk := List.mem_range.mp hk
  match k, hk with
  | 0, _ => exact tw_l_X7_0
  | 1, _ => exact tw_l_X7_1
  | 2, _ => exact tw_l_X7_2
  | 3, _ => exact tw_l_X7_3
  | 4, _ => exact tw_l_X7_4
  | 5, _ => exact tw_l_X7_5
  | 6, _ => exact tw_l_X7_6
  | 7, _ => exact tw_l_X7_7
  | 8, _ => exact tw_l_X7_8
  | 9, _ => exact tw_l_X7_9
  | 10, _ => exact tw_l_X7_10
  | 11, _ => exact tw_l_X7_11
  | 12, _ => exact tw_l_X7_12
  | 13, _ => exact tw_l_X7_13
  | 14, _ => exact tw_l_X7_14
  | 15, _ => exact tw_l_X7_15
  | 16, _ => exact tw_l_X7_16
  | 17, _ => exact tw_l_X7_17
  | 18, _ => exact tw_l_X7_18
  | 19, _ => exact tw_l_X7_19
  | 20, _ => exact tw_l_X7_20
  | 21, _ => exact tw_l_X7_21
  | 22, _ => exact tw_l_X7_22
  | 23, _ => exact tw_l_X7_23
  | 24, _ => exact tw_l_X7_24
  | 25, _ => exact tw_l_X7_25
  | 26, _ => exact tw_l_X7_26
  | 27, _ => exact tw_l_X7_27
  | 28, _ => exact tw_l_X7_28
  | 29, _ => exact tw_l_X7_29
  | 30, _ => exact tw_l_X7_30
  | 31, _ => exact tw_l_X7_31
  | 32, _ => exact tw_l_X7_32
  | 33, _ => exact tw_l_X7_33
  | k + 34, hk => exact absurd hk (by omega)
end
section
theorem dX0_init_0 : decode cX0_init 0 = .ok (.aload_n 0, 1) := by decide +kernel
theorem dX0_init_1 : decode cX0_init 1 = .ok (.invokespecial 3, 3) := by decide +kernel
theorem dX0_init_4 : decode cX0_init 4 = .ok (.aload_n 0, 1) := by decide +kernel
theorem dX0_init_5 : decode cX0_init 5 = .ok (.bipush 6, 2) := by decide +kernel
theorem dX0_init_7 : decode cX0_init 7 = .ok (.newarray .int, 2) := by decide +kernel
theorem dX0_init_9 : decode cX0_init 9 = .ok (.putfield 9, 3) := by decide +kernel
theorem dX0_init_12 : decode cX0_init 12 = .ok (.aload_n 0, 1) := by decide +kernel
theorem dX0_init_13 : decode cX0_init 13 = .ok (.bipush 6, 2) := by decide +kernel
theorem dX0_init_15 : decode cX0_init 15 = .ok (.newarray .int, 2) := by decide +kernel
theorem dX0_init_17 : decode cX0_init 17 = .ok (.putfield 15, 3) := by decide +kernel
theorem dX0_init_20 : decode cX0_init 20 = .ok (.return_, 1) := by decide +kernel
theorem dX0_reset_0 : decode cX0_reset 0 = .ok (.iconst 0, 1) := by decide +kernel
theorem dX0_reset_1 : decode cX0_reset 1 = .ok (.istore_n 1, 1) := by decide +kernel
theorem dX0_reset_2 : decode cX0_reset 2 = .ok (.iload_n 1, 1) := by decide +kernel
theorem dX0_reset_3 : decode cX0_reset 3 = .ok (.bipush 6, 2) := by decide +kernel
theorem dX0_reset_5 : decode cX0_reset 5 = .ok (.if_icmp .ge 23, 3) := by decide +kernel
theorem dX0_reset_8 : decode cX0_reset 8 = .ok (.aload_n 0, 1) := by decide +kernel
theorem dX0_reset_9 : decode cX0_reset 9 = .ok (.getfield 9, 3) := by decide +kernel
theorem dX0_reset_12 : decode cX0_reset 12 = .ok (.iload_n 1, 1) := by decide +kernel
theorem dX0_reset_13 : decode cX0_reset 13 = .ok (.iconst 0, 1) := by decide +kernel
theorem dX0_reset_14 : decode cX0_reset 14 = .ok (.iastore, 1) := by decide +kernel
theorem dX0_reset_15 : decode cX0_reset 15 = .ok (.aload_n 0, 1) := by decide +kernel
theorem dX0_reset_16 : decode cX0_reset 16 = .ok (.getfield 15, 3) := by decide +kernel
theorem dX0_reset_19 : decode cX0_reset 19 = .ok (.iload_n 1, 1) := by decide +kernel
theorem dX0_reset_20 : decode cX0_reset 20 = .ok (.iconst 0, 1) := by decide +kernel
theorem dX0_reset_21 : decode cX0_reset 21 = .ok (.iastore, 1) := by decide +kernel
theorem dX0_reset_22 : decode cX0_reset 22 = .ok (.iinc 1 1, 3) := by decide +kernel
theorem dX0_reset_25 : decode cX0_reset 25 = .ok (.goto (-23), 3) := by decide +kernel
theorem dX0_reset_28 : decode cX0_reset 28 = .ok (.return_, 1) := by decide +kernel
theorem dX0_enter_0 : decode cX0_enter 0 = .ok (.iload_n 1, 1) := by decide +kernel
theorem dX0_enter_1 : decode cX0_enter 1 = .ok (.ifCond .lt 29, 3) := by decide +kernel
theorem dX0_enter_4 : decode cX0_enter 4 = .ok (.iload_n 1, 1) := by decide +kernel
theorem dX0_enter_5 : decode cX0_enter 5 = .ok (.bipush 6, 2) := by decide +kernel
theorem dX0_enter_7 : decode cX0_enter 7 = .ok (.if_icmp .ge 23, 3) := by decide +kernel
theorem dX0_enter_10 : decode cX0_enter 10 = .ok (.aload_n 0, 1) := by decide +kernel
theorem dX0_enter_11 : decode cX0_enter 11 = .ok (.getfield 9, 3) := by decide +kernel
theorem dX0_enter_14 : decode cX0_enter 14 = .ok (.iload_n 1, 1) := by decide +kernel
theorem dX0_enter_15 : decode cX0_enter 15 = .ok (.dup2, 1) := by decide +kernel
theorem dX0_enter_16 : decode cX0_enter 16 = .ok (.iaload, 1) := by decide +kernel
theorem dX0_enter_17 : decode cX0_enter 17 = .ok (.iload_n 2, 1) := by decide +kernel
theorem dX0_enter_18 : decode cX0_enter 18 = .ok (.iadd, 1) := by decide +kernel
theorem dX0_enter_19 : decode cX0_enter 19 = .ok (.iastore, 1) := by decide +kernel
theorem dX0_enter_20 : decode cX0_enter 20 = .ok (.aload_n 0, 1) := by decide +kernel
theorem dX0_enter_21 : decode cX0_enter 21 = .ok (.getfield 15, 3) := by decide +kernel
theorem dX0_enter_24 : decode cX0_enter 24 = .ok (.iload_n 1, 1) := by decide +kernel
theorem dX0_enter_25 : decode cX0_enter 25 = .ok (.dup2, 1) := by decide +kernel
theorem dX0_enter_26 : decode cX0_enter 26 = .ok (.iaload, 1) := by decide +kernel
theorem dX0_enter_27 : decode cX0_enter 27 = .ok (.iconst 1, 1) := by decide +kernel
theorem dX0_enter_28 : decode cX0_enter 28 = .ok (.iadd, 1) := by decide +kernel
theorem dX0_enter_29 : decode cX0_enter 29 = .ok (.iastore, 1) := by decide +kernel
theorem dX0_enter_30 : decode cX0_enter 30 = .ok (.return_, 1) := by decide +kernel
theorem dX0_greatest_0 : decode cX0_greatest 0 = .ok (.iconst (-1), 1) := by decide +kernel
theorem dX0_greatest_1 : decode cX0_greatest 1 = .ok (.istore_n 1, 1) := by decide +kernel
theorem dX0_greatest_2 : decode cX0_greatest 2 = .ok (.iconst 0, 1) := by decide +kernel
theorem dX0_greatest_3 : decode cX0_greatest 3 = .ok (.istore_n 2, 1) := by decide +kernel
theorem dX0_greatest_4 : decode cX0_greatest 4 = .ok (.iload_n 2, 1) := by decide +kernel
theorem dX0_greatest_5 : decode cX0_greatest 5 = .ok (.bipush 6, 2) := by decide +kernel
theorem dX0_greatest_7 : decode cX0_greatest 7 = .ok (.if_icmp .ge 34, 3) := by decide +kernel
theorem dX0_greatest_10 : decode cX0_greatest 10 = .ok (.aload_n 0, 1) := by decide +kernel
theorem dX0_greatest_11 : decode cX0_greatest 11 = .ok (.getfield 15, 3) := by decide +kernel
theorem dX0_greatest_14 : decode cX0_greatest 14 = .ok (.iload_n 2, 1) := by decide +kernel
theorem dX0_greatest_15 : decode cX0_greatest 15 = .ok (.iaload, 1) := by decide +kernel
theorem dX0_greatest_16 : decode cX0_greatest 16 = .ok (.ifCond .le 19, 3) := by decide +kernel
theorem dX0_greatest_19 : decode cX0_greatest 19 = .ok (.iload_n 1, 1) := by decide +kernel
theorem dX0_greatest_20 : decode cX0_greatest 20 = .ok (.iconst (-1), 1) := by decide +kernel
theorem dX0_greatest_21 : decode cX0_greatest 21 = .ok (.if_icmp .eq 12, 3) := by decide +kernel
theorem dX0_greatest_24 : decode cX0_greatest 24 = .ok (.aload_n 0, 1) := by decide +kernel
theorem dX0_greatest_25 : decode cX0_greatest 25 = .ok (.iload_n 2, 1) := by decide +kernel
theorem dX0_greatest_26 : decode cX0_greatest 26 = .ok (.iload_n 1, 1) := by decide +kernel
theorem dX0_greatest_27 : decode cX0_greatest 27 = .ok (.invokevirtual 18, 3) := by decide +kernel
theorem dX0_greatest_30 : decode cX0_greatest 30 = .ok (.ifCond .eq 5, 3) := by decide +kernel
theorem dX0_greatest_33 : decode cX0_greatest 33 = .ok (.iload_n 2, 1) := by decide +kernel
theorem dX0_greatest_34 : decode cX0_greatest 34 = .ok (.istore_n 1, 1) := by decide +kernel
theorem dX0_greatest_35 : decode cX0_greatest 35 = .ok (.iinc 2 1, 3) := by decide +kernel
theorem dX0_greatest_38 : decode cX0_greatest 38 = .ok (.goto (-34), 3) := by decide +kernel
theorem dX0_greatest_41 : decode cX0_greatest 41 = .ok (.iload_n 1, 1) := by decide +kernel
theorem dX0_greatest_42 : decode cX0_greatest 42 = .ok (.ireturn, 1) := by decide +kernel
theorem dX0_isGreater_0 : decode cX0_isGreater 0 = .ok (.aload_n 0, 1) := by decide +kernel
theorem dX0_isGreater_1 : decode cX0_isGreater 1 = .ok (.getfield 9, 3) := by decide +kernel
theorem dX0_isGreater_4 : decode cX0_isGreater 4 = .ok (.iload_n 1, 1) := by decide +kernel
theorem dX0_isGreater_5 : decode cX0_isGreater 5 = .ok (.iaload, 1) := by decide +kernel
theorem dX0_isGreater_6 : decode cX0_isGreater 6 = .ok (.aload_n 0, 1) := by decide +kernel
theorem dX0_isGreater_7 : decode cX0_isGreater 7 = .ok (.getfield 15, 3) := by decide +kernel
theorem dX0_isGreater_10 : decode cX0_isGreater 10 = .ok (.iload_n 2, 1) := by decide +kernel
theorem dX0_isGreater_11 : decode cX0_isGreater 11 = .ok (.iaload, 1) := by decide +kernel
theorem dX0_isGreater_12 : decode cX0_isGreater 12 = .ok (.imul, 1) := by decide +kernel
theorem dX0_isGreater_13 : decode cX0_isGreater 13 = .ok (.aload_n 0, 1) := by decide +kernel
theorem dX0_isGreater_14 : decode cX0_isGreater 14 = .ok (.getfield 9, 3) := by decide +kernel
theorem dX0_isGreater_17 : decode cX0_isGreater 17 = .ok (.iload_n 2, 1) := by decide +kernel
theorem dX0_isGreater_18 : decode cX0_isGreater 18 = .ok (.iaload, 1) := by decide +kernel
theorem dX0_isGreater_19 : decode cX0_isGreater 19 = .ok (.aload_n 0, 1) := by decide +kernel
theorem dX0_isGreater_20 : decode cX0_isGreater 20 = .ok (.getfield 15, 3) := by decide +kernel
theorem dX0_isGreater_23 : decode cX0_isGreater 23 = .ok (.iload_n 1, 1) := by decide +kernel
theorem dX0_isGreater_24 : decode cX0_isGreater 24 = .ok (.iaload, 1) := by decide +kernel
theorem dX0_isGreater_25 : decode cX0_isGreater 25 = .ok (.imul, 1) := by decide +kernel
theorem dX0_isGreater_26 : decode cX0_isGreater 26 = .ok (.if_icmp .le 7, 3) := by decide +kernel
theorem dX0_isGreater_29 : decode cX0_isGreater 29 = .ok (.iconst 1, 1) := by decide +kernel
theorem dX0_isGreater_30 : decode cX0_isGreater 30 = .ok (.goto 4, 3) := by decide +kernel
theorem dX0_isGreater_33 : decode cX0_isGreater 33 = .ok (.iconst 0, 1) := by decide +kernel
theorem dX0_isGreater_34 : decode cX0_isGreater 34 = .ok (.ireturn, 1) := by decide +kernel
theorem dX1_init_0 : decode cX1_init 0 = .ok (.aload_n 0, 1) := by decide +kernel
theorem dX1_init_1 : decode cX1_init 1 = .ok (.invokespecial 3, 3) := by decide +kernel
theorem dX1_init_4 : decode cX1_init 4 = .ok (.aload_n 0, 1) := by decide +kernel
theorem dX1_init_5 : decode cX1_init 5 = .ok (.bipush 36, 2) := by decide +kernel
theorem dX1_init_7 : decode cX1_init 7 = .ok (.newarray .int, 2) := by decide +kernel
theorem dX1_init_9 : decode cX1_init 9 = .ok (.putfield 9, 3) := by decide +kernel
theorem dX1_init_12 : decode cX1_init 12 = .ok (.aload_n 0, 1) := by decide +kernel
theorem dX1_init_13 : decode cX1_init 13 = .ok (.bipush 36, 2) := by decide +kernel
theorem dX1_init_15 : decode cX1_init 15 = .ok (.anewarray 15, 3) := by decide +kernel
theorem dX1_init_18 : decode cX1_init 18 = .ok (.putfield 17, 3) := by decide +kernel
theorem dX1_init_21 : decode cX1_init 21 = .ok (.aload_n 0, 1) := by decide +kernel
theorem dX1_init_22 : decode cX1_init 22 = .ok (.bipush 36, 2) := by decide +kernel
theorem dX1_init_24 : decode cX1_init 24 = .ok (.newarray .int, 2) := by decide +kernel
theorem dX1_init_26 : decode cX1_init 26 = .ok (.putfield 21, 3) := by decide +kernel
theorem dX1_init_29 : decode cX1_init 29 = .ok (.aload_n 0, 1) := by decide +kernel
theorem dX1_init_30 : decode cX1_init 30 = .ok (.bipush 36, 2) := by decide +kernel
theorem dX1_init_32 : decode cX1_init 32 = .ok (.newarray .boolean, 2) := by decide +kernel
theorem dX1_init_34 : decode cX1_init 34 = .ok (.putfield 24, 3) := by decide +kernel
theorem dX1_init_37 : decode cX1_init 37 = .ok (.aload_n 0, 1) := by decide +kernel
theorem dX1_init_38 : decode cX1_init 38 = .ok (.bipush 36, 2) := by decide +kernel
theorem dX1_init_40 : decode cX1_init 40 = .ok (.newarray .boolean, 2) := by decide +kernel
theorem dX1_init_42 : decode cX1_init 42 = .ok (.putfield 28, 3) := by decide +kernel
theorem dX1_init_45 : decode cX1_init 45 = .ok (.aload_n 0, 1) := by decide +kernel
theorem dX1_init_46 : decode cX1_init 46 = .ok (.iconst 4, 1) := by decide +kernel
theorem dX1_init_47 : decode cX1_init 47 = .ok (.bipush 36, 2) := by decide +kernel
theorem dX1_init_49 : decode cX1_init 49 = .ok (.multianewarray 31 2, 4) := by decide +kernel
theorem dX1_init_53 : decode cX1_init 53 = .ok (.putfield 33, 3) := by decide +kernel
theorem dX1_init_56 : decode cX1_init 56 = .ok (.iconst 0, 1) := by decide +kernel
theorem dX1_init_57 : decode cX1_init 57 = .ok (.istore_n 1, 1) := by decide +kernel
theorem dX1_init_58 : decode cX1_init 58 = .ok (.iload_n 1, 1) := by decide +kernel
theorem dX1_init_59 : decode cX1_init 59 = .ok (.bipush 36, 2) := by decide +kernel
theorem dX1_init_61 : decode cX1_init 61 = .ok (.if_icmp .ge 22, 3) := by decide +kernel
theorem dX1_init_64 : decode cX1_init 64 = .ok (.aload_n 0, 1) := by decide +kernel
theorem dX1_init_65 : decode cX1_init 65 = .ok (.getfield 17, 3) := by decide +kernel
theorem dX1_init_68 : decode cX1_init 68 = .ok (.iload_n 1, 1) := by decide +kernel
theorem dX1_init_69 : decode cX1_init 69 = .ok (.new 15, 3) := by decide +kernel
theorem dX1_init_72 : decode cX1_init 72 = .ok (.dup, 1) := by decide +kernel
theorem dX1_init_73 : decode cX1_init 73 = .ok (.invokespecial 36, 3) := by decide +kernel
theorem dX1_init_76 : decode cX1_init 76 = .ok (.aastore, 1) := by decide +kernel
theorem dX1_init_77 : decode cX1_init 77 = .ok (.iinc 1 1, 3) := by decide +kernel
theorem dX1_init_80 : decode cX1_init 80 = .ok (.goto (-22), 3) := by decide +kernel
theorem dX1_init_83 : decode cX1_init 83 = .ok (.return_, 1) := by decide +kernel
theorem dX1_isBegun_0 : decode cX1_isBegun 0 = .ok (.aload_n 0, 1) := by decide +kernel
theorem dX1_isBegun_1 : decode cX1_isBegun 1 = .ok (.getfield 37, 3) := by decide +kernel
theorem dX1_isBegun_4 : decode cX1_isBegun 4 = .ok (.ifCond .le 7, 3) := by decide +kernel
theorem dX1_isBegun_7 : decode cX1_isBegun 7 = .ok (.iconst 1, 1) := by decide +kernel
theorem dX1_isBegun_8 : decode cX1_isBegun 8 = .ok (.goto 4, 3) := by decide +kernel
theorem dX1_isBegun_11 : decode cX1_isBegun 11 = .ok (.iconst 0, 1) := by decide +kernel
theorem dX1_isBegun_12 : decode cX1_isBegun 12 = .ok (.ireturn, 1) := by decide +kernel
theorem dX1_isOpen_0 : decode cX1_isOpen 0 = .ok (.aload_n 0, 1) := by decide +kernel
theorem dX1_isOpen_1 : decode cX1_isOpen 1 = .ok (.getfield 41, 3) := by decide +kernel
theorem dX1_isOpen_4 : decode cX1_isOpen 4 = .ok (.aload_n 0, 1) := by decide +kernel
theorem dX1_isOpen_5 : decode cX1_isOpen 5 = .ok (.getfield 37, 3) := by decide +kernel
theorem dX1_isOpen_8 : decode cX1_isOpen 8 = .ok (.if_icmp .ge 7, 3) := by decide +kernel
theorem dX1_isOpen_11 : decode cX1_isOpen 11 = .ok (.iconst 1, 1) := by decide +kernel
theorem dX1_isOpen_12 : decode cX1_isOpen 12 = .ok (.goto 4, 3) := by decide +kernel
theorem dX1_isOpen_15 : decode cX1_isOpen 15 = .ok (.iconst 0, 1) := by decide +kernel
theorem dX1_isOpen_16 : decode cX1_isOpen 16 = .ok (.ireturn, 1) := by decide +kernel
theorem dX1_has_0 : decode cX1_has 0 = .ok (.iload_n 1, 1) := by decide +kernel
theorem dX1_has_1 : decode cX1_has 1 = .ok (.ifCond .lt 15, 3) := by decide +kernel
theorem dX1_has_4 : decode cX1_has 4 = .ok (.iload_n 1, 1) := by decide +kernel
theorem dX1_has_5 : decode cX1_has 5 = .ok (.aload_n 0, 1) := by decide +kernel
theorem dX1_has_6 : decode cX1_has 6 = .ok (.getfield 41, 3) := by decide +kernel
theorem dX1_has_9 : decode cX1_has 9 = .ok (.if_icmp .ge 7, 3) := by decide +kernel
theorem dX1_has_12 : decode cX1_has 12 = .ok (.iconst 1, 1) := by decide +kernel
theorem dX1_has_13 : decode cX1_has 13 = .ok (.goto 4, 3) := by decide +kernel
theorem dX1_has_16 : decode cX1_has 16 = .ok (.iconst 0, 1) := by decide +kernel
theorem dX1_has_17 : decode cX1_has 17 = .ok (.ireturn, 1) := by decide +kernel
theorem dX1_restart_0 : decode cX1_restart 0 = .ok (.aload_n 0, 1) := by decide +kernel
theorem dX1_restart_1 : decode cX1_restart 1 = .ok (.iload_n 1, 1) := by decide +kernel
theorem dX1_restart_2 : decode cX1_restart 2 = .ok (.putfield 37, 3) := by decide +kernel
theorem dX1_restart_5 : decode cX1_restart 5 = .ok (.aload_n 0, 1) := by decide +kernel
theorem dX1_restart_6 : decode cX1_restart 6 = .ok (.iload_n 2, 1) := by decide +kernel
theorem dX1_restart_7 : decode cX1_restart 7 = .ok (.putfield 44, 3) := by decide +kernel
theorem dX1_restart_10 : decode cX1_restart 10 = .ok (.aload_n 0, 1) := by decide +kernel
theorem dX1_restart_11 : decode cX1_restart 11 = .ok (.iload_n 3, 1) := by decide +kernel
theorem dX1_restart_12 : decode cX1_restart 12 = .ok (.putfield 47, 3) := by decide +kernel
theorem dX1_restart_15 : decode cX1_restart 15 = .ok (.aload_n 0, 1) := by decide +kernel
theorem dX1_restart_16 : decode cX1_restart 16 = .ok (.iload 4, 2) := by decide +kernel
theorem dX1_restart_18 : decode cX1_restart 18 = .ok (.putfield 50, 3) := by decide +kernel
theorem dX1_restart_21 : decode cX1_restart 21 = .ok (.aload_n 0, 1) := by decide +kernel
theorem dX1_restart_22 : decode cX1_restart 22 = .ok (.iconst 0, 1) := by decide +kernel
theorem dX1_restart_23 : decode cX1_restart 23 = .ok (.putfield 41, 3) := by decide +kernel
theorem dX1_restart_26 : decode cX1_restart 26 = .ok (.iconst 0, 1) := by decide +kernel
theorem dX1_restart_27 : decode cX1_restart 27 = .ok (.istore 5, 2) := by decide +kernel
theorem dX1_restart_29 : decode cX1_restart 29 = .ok (.iload 5, 2) := by decide +kernel
theorem dX1_restart_31 : decode cX1_restart 31 = .ok (.bipush 36, 2) := by decide +kernel
theorem dX1_restart_33 : decode cX1_restart 33 = .ok (.if_icmp .ge 17, 3) := by decide +kernel
theorem dX1_restart_36 : decode cX1_restart 36 = .ok (.aload_n 0, 1) := by decide +kernel
theorem dX1_restart_37 : decode cX1_restart 37 = .ok (.getfield 9, 3) := by decide +kernel
theorem dX1_restart_40 : decode cX1_restart 40 = .ok (.iload 5, 2) := by decide +kernel
theorem dX1_restart_42 : decode cX1_restart 42 = .ok (.iconst 0, 1) := by decide +kernel
theorem dX1_restart_43 : decode cX1_restart 43 = .ok (.iastore, 1) := by decide +kernel
theorem dX1_restart_44 : decode cX1_restart 44 = .ok (.iinc 5 1, 3) := by decide +kernel
theorem dX1_restart_47 : decode cX1_restart 47 = .ok (.goto (-18), 3) := by decide +kernel
theorem dX1_restart_50 : decode cX1_restart 50 = .ok (.return_, 1) := by decide +kernel
theorem dX1_extend_0 : decode cX1_extend 0 = .ok (.aload_n 0, 1) := by decide +kernel
theorem dX1_extend_1 : decode cX1_extend 1 = .ok (.getfield 41, 3) := by decide +kernel
theorem dX1_extend_4 : decode cX1_extend 4 = .ok (.bipush 36, 2) := by decide +kernel
theorem dX1_extend_6 : decode cX1_extend 6 = .ok (.if_icmp .lt 4, 3) := by decide +kernel
theorem dX1_extend_9 : decode cX1_extend 9 = .ok (.return_, 1) := by decide +kernel
theorem dX1_extend_10 : decode cX1_extend 10 = .ok (.aload_n 0, 1) := by decide +kernel
theorem dX1_extend_11 : decode cX1_extend 11 = .ok (.getfield 17, 3) := by decide +kernel
theorem dX1_extend_14 : decode cX1_extend 14 = .ok (.aload_n 0, 1) := by decide +kernel
theorem dX1_extend_15 : decode cX1_extend 15 = .ok (.getfield 41, 3) := by decide +kernel
theorem dX1_extend_18 : decode cX1_extend 18 = .ok (.aaload, 1) := by decide +kernel
theorem dX1_extend_19 : decode cX1_extend 19 = .ok (.aload_n 1, 1) := by decide +kernel
theorem dX1_extend_20 : decode cX1_extend 20 = .ok (.aload_n 3, 1) := by decide +kernel
theorem dX1_extend_21 : decode cX1_extend 21 = .ok (.invokevirtual 53, 3) := by decide +kernel
theorem dX1_extend_24 : decode cX1_extend 24 = .ok (.aload_n 0, 1) := by decide +kernel
theorem dX1_extend_25 : decode cX1_extend 25 = .ok (.getfield 21, 3) := by decide +kernel
theorem dX1_extend_28 : decode cX1_extend 28 = .ok (.aload_n 0, 1) := by decide +kernel
theorem dX1_extend_29 : decode cX1_extend 29 = .ok (.getfield 41, 3) := by decide +kernel
theorem dX1_extend_32 : decode cX1_extend 32 = .ok (.iload_n 2, 1) := by decide +kernel
theorem dX1_extend_33 : decode cX1_extend 33 = .ok (.iastore, 1) := by decide +kernel
theorem dX1_extend_34 : decode cX1_extend 34 = .ok (.aload_n 0, 1) := by decide +kernel
theorem dX1_extend_35 : decode cX1_extend 35 = .ok (.getfield 24, 3) := by decide +kernel
theorem dX1_extend_38 : decode cX1_extend 38 = .ok (.aload_n 0, 1) := by decide +kernel
theorem dX1_extend_39 : decode cX1_extend 39 = .ok (.getfield 41, 3) := by decide +kernel
theorem dX1_extend_42 : decode cX1_extend 42 = .ok (.iconst 0, 1) := by decide +kernel
theorem dX1_extend_43 : decode cX1_extend 43 = .ok (.bastore, 1) := by decide +kernel
theorem dX1_extend_44 : decode cX1_extend 44 = .ok (.aload_n 0, 1) := by decide +kernel
theorem dX1_extend_45 : decode cX1_extend 45 = .ok (.getfield 28, 3) := by decide +kernel
theorem dX1_extend_48 : decode cX1_extend 48 = .ok (.aload_n 0, 1) := by decide +kernel
theorem dX1_extend_49 : decode cX1_extend 49 = .ok (.getfield 41, 3) := by decide +kernel
theorem dX1_extend_52 : decode cX1_extend 52 = .ok (.iconst 0, 1) := by decide +kernel
theorem dX1_extend_53 : decode cX1_extend 53 = .ok (.bastore, 1) := by decide +kernel
theorem dX1_extend_54 : decode cX1_extend 54 = .ok (.iconst 0, 1) := by decide +kernel
theorem dX1_extend_55 : decode cX1_extend 55 = .ok (.istore 4, 2) := by decide +kernel
theorem dX1_extend_57 : decode cX1_extend 57 = .ok (.iload 4, 2) := by decide +kernel
theorem dX1_extend_59 : decode cX1_extend 59 = .ok (.iconst 4, 1) := by decide +kernel
theorem dX1_extend_60 : decode cX1_extend 60 = .ok (.if_icmp .ge 22, 3) := by decide +kernel
theorem dX1_extend_63 : decode cX1_extend 63 = .ok (.aload_n 0, 1) := by decide +kernel
theorem dX1_extend_64 : decode cX1_extend 64 = .ok (.getfield 33, 3) := by decide +kernel
theorem dX1_extend_67 : decode cX1_extend 67 = .ok (.iload 4, 2) := by decide +kernel
theorem dX1_extend_69 : decode cX1_extend 69 = .ok (.aaload, 1) := by decide +kernel
theorem dX1_extend_70 : decode cX1_extend 70 = .ok (.aload_n 0, 1) := by decide +kernel
theorem dX1_extend_71 : decode cX1_extend 71 = .ok (.getfield 41, 3) := by decide +kernel
theorem dX1_extend_74 : decode cX1_extend 74 = .ok (.iconst (-1), 1) := by decide +kernel
theorem dX1_extend_75 : decode cX1_extend 75 = .ok (.iastore, 1) := by decide +kernel
theorem dX1_extend_76 : decode cX1_extend 76 = .ok (.iinc 4 1, 3) := by decide +kernel
theorem dX1_extend_79 : decode cX1_extend 79 = .ok (.goto (-22), 3) := by decide +kernel
theorem dX1_extend_82 : decode cX1_extend 82 = .ok (.aload_n 0, 1) := by decide +kernel
theorem dX1_extend_83 : decode cX1_extend 83 = .ok (.dup, 1) := by decide +kernel
theorem dX1_extend_84 : decode cX1_extend 84 = .ok (.getfield 41, 3) := by decide +kernel
theorem dX1_extend_87 : decode cX1_extend 87 = .ok (.iconst 1, 1) := by decide +kernel
theorem dX1_extend_88 : decode cX1_extend 88 = .ok (.iadd, 1) := by decide +kernel
theorem dX1_extend_89 : decode cX1_extend 89 = .ok (.putfield 41, 3) := by decide +kernel
theorem dX1_extend_92 : decode cX1_extend 92 = .ok (.return_, 1) := by decide +kernel
theorem dX1_mendLatest_0 : decode cX1_mendLatest 0 = .ok (.aload_n 0, 1) := by decide +kernel
theorem dX1_mendLatest_1 : decode cX1_mendLatest 1 = .ok (.aload_n 0, 1) := by decide +kernel
theorem dX1_mendLatest_2 : decode cX1_mendLatest 2 = .ok (.getfield 41, 3) := by decide +kernel
theorem dX1_mendLatest_5 : decode cX1_mendLatest 5 = .ok (.iconst 1, 1) := by decide +kernel
theorem dX1_mendLatest_6 : decode cX1_mendLatest 6 = .ok (.isub, 1) := by decide +kernel
theorem dX1_mendLatest_7 : decode cX1_mendLatest 7 = .ok (.invokevirtual 57, 3) := by decide +kernel
theorem dX1_mendLatest_10 : decode cX1_mendLatest 10 = .ok (.ifCond .ne 4, 3) := by decide +kernel
theorem dX1_mendLatest_13 : decode cX1_mendLatest 13 = .ok (.return_, 1) := by decide +kernel
theorem dX1_mendLatest_14 : decode cX1_mendLatest 14 = .ok (.aload_n 0, 1) := by decide +kernel
theorem dX1_mendLatest_15 : decode cX1_mendLatest 15 = .ok (.getfield 17, 3) := by decide +kernel
theorem dX1_mendLatest_18 : decode cX1_mendLatest 18 = .ok (.aload_n 0, 1) := by decide +kernel
theorem dX1_mendLatest_19 : decode cX1_mendLatest 19 = .ok (.getfield 41, 3) := by decide +kernel
theorem dX1_mendLatest_22 : decode cX1_mendLatest 22 = .ok (.iconst 1, 1) := by decide +kernel
theorem dX1_mendLatest_23 : decode cX1_mendLatest 23 = .ok (.isub, 1) := by decide +kernel
theorem dX1_mendLatest_24 : decode cX1_mendLatest 24 = .ok (.aaload, 1) := by decide +kernel
theorem dX1_mendLatest_25 : decode cX1_mendLatest 25 = .ok (.aload_n 1, 1) := by decide +kernel
theorem dX1_mendLatest_26 : decode cX1_mendLatest 26 = .ok (.aload_n 2, 1) := by decide +kernel
theorem dX1_mendLatest_27 : decode cX1_mendLatest 27 = .ok (.invokevirtual 53, 3) := by decide +kernel
theorem dX1_mendLatest_30 : decode cX1_mendLatest 30 = .ok (.aload_n 0, 1) := by decide +kernel
theorem dX1_mendLatest_31 : decode cX1_mendLatest 31 = .ok (.getfield 28, 3) := by decide +kernel
theorem dX1_mendLatest_34 : decode cX1_mendLatest 34 = .ok (.aload_n 0, 1) := by decide +kernel
theorem dX1_mendLatest_35 : decode cX1_mendLatest 35 = .ok (.getfield 41, 3) := by decide +kernel
theorem dX1_mendLatest_38 : decode cX1_mendLatest 38 = .ok (.iconst 1, 1) := by decide +kernel
theorem dX1_mendLatest_39 : decode cX1_mendLatest 39 = .ok (.isub, 1) := by decide +kernel
theorem dX1_mendLatest_40 : decode cX1_mendLatest 40 = .ok (.iconst 1, 1) := by decide +kernel
theorem dX1_mendLatest_41 : decode cX1_mendLatest 41 = .ok (.bastore, 1) := by decide +kernel
theorem dX1_mendLatest_42 : decode cX1_mendLatest 42 = .ok (.return_, 1) := by decide +kernel
theorem dX1_setSeat_0 : decode cX1_setSeat 0 = .ok (.iload_n 1, 1) := by decide +kernel
theorem dX1_setSeat_1 : decode cX1_setSeat 1 = .ok (.ifCond .lt 16, 3) := by decide +kernel
theorem dX1_setSeat_4 : decode cX1_setSeat 4 = .ok (.iload_n 1, 1) := by decide +kernel
theorem dX1_setSeat_5 : decode cX1_setSeat 5 = .ok (.bipush 36, 2) := by decide +kernel
theorem dX1_setSeat_7 : decode cX1_setSeat 7 = .ok (.if_icmp .ge 10, 3) := by decide +kernel
theorem dX1_setSeat_10 : decode cX1_setSeat 10 = .ok (.aload_n 0, 1) := by decide +kernel
theorem dX1_setSeat_11 : decode cX1_setSeat 11 = .ok (.getfield 9, 3) := by decide +kernel
theorem dX1_setSeat_14 : decode cX1_setSeat 14 = .ok (.iload_n 1, 1) := by decide +kernel
theorem dX1_setSeat_15 : decode cX1_setSeat 15 = .ok (.iload_n 2, 1) := by decide +kernel
theorem dX1_setSeat_16 : decode cX1_setSeat 16 = .ok (.iastore, 1) := by decide +kernel
theorem dX1_setSeat_17 : decode cX1_setSeat 17 = .ok (.return_, 1) := by decide +kernel
theorem dX1_seatAt_0 : decode cX1_seatAt 0 = .ok (.iload_n 1, 1) := by decide +kernel
theorem dX1_seatAt_1 : decode cX1_seatAt 1 = .ok (.ifCond .lt 18, 3) := by decide +kernel
theorem dX1_seatAt_4 : decode cX1_seatAt 4 = .ok (.iload_n 1, 1) := by decide +kernel
theorem dX1_seatAt_5 : decode cX1_seatAt 5 = .ok (.bipush 36, 2) := by decide +kernel
theorem dX1_seatAt_7 : decode cX1_seatAt 7 = .ok (.if_icmp .ge 12, 3) := by decide +kernel
theorem dX1_seatAt_10 : decode cX1_seatAt 10 = .ok (.aload_n 0, 1) := by decide +kernel
theorem dX1_seatAt_11 : decode cX1_seatAt 11 = .ok (.getfield 9, 3) := by decide +kernel
theorem dX1_seatAt_14 : decode cX1_seatAt 14 = .ok (.iload_n 1, 1) := by decide +kernel
theorem dX1_seatAt_15 : decode cX1_seatAt 15 = .ok (.iaload, 1) := by decide +kernel
theorem dX1_seatAt_16 : decode cX1_seatAt 16 = .ok (.goto 4, 3) := by decide +kernel
theorem dX1_seatAt_19 : decode cX1_seatAt 19 = .ok (.iconst 0, 1) := by decide +kernel
theorem dX1_seatAt_20 : decode cX1_seatAt 20 = .ok (.ireturn, 1) := by decide +kernel
theorem dX1_soundsAt_0 : decode cX1_soundsAt 0 = .ok (.iload_n 1, 1) := by decide +kernel
theorem dX1_soundsAt_1 : decode cX1_soundsAt 1 = .ok (.iconst 1, 1) := by decide +kernel
theorem dX1_soundsAt_2 : decode cX1_soundsAt 2 = .ok (.iand, 1) := by decide +kernel
theorem dX1_soundsAt_3 : decode cX1_soundsAt 3 = .ok (.ifCond .ne 10, 3) := by decide +kernel
theorem dX1_soundsAt_6 : decode cX1_soundsAt 6 = .ok (.aload_n 0, 1) := by decide +kernel
theorem dX1_soundsAt_7 : decode cX1_soundsAt 7 = .ok (.getfield 47, 3) := by decide +kernel
theorem dX1_soundsAt_10 : decode cX1_soundsAt 10 = .ok (.goto 7, 3) := by decide +kernel
theorem dX1_soundsAt_13 : decode cX1_soundsAt 13 = .ok (.aload_n 0, 1) := by decide +kernel
theorem dX1_soundsAt_14 : decode cX1_soundsAt 14 = .ok (.getfield 50, 3) := by decide +kernel
theorem dX1_soundsAt_17 : decode cX1_soundsAt 17 = .ok (.ireturn, 1) := by decide +kernel
theorem dX1_makerAt_0 : decode cX1_makerAt 0 = .ok (.aload_n 0, 1) := by decide +kernel
theorem dX1_makerAt_1 : decode cX1_makerAt 1 = .ok (.iload_n 1, 1) := by decide +kernel
theorem dX1_makerAt_2 : decode cX1_makerAt 2 = .ok (.invokevirtual 57, 3) := by decide +kernel
theorem dX1_makerAt_5 : decode cX1_makerAt 5 = .ok (.ifCond .eq 12, 3) := by decide +kernel
theorem dX1_makerAt_8 : decode cX1_makerAt 8 = .ok (.aload_n 0, 1) := by decide +kernel
theorem dX1_makerAt_9 : decode cX1_makerAt 9 = .ok (.getfield 21, 3) := by decide +kernel
theorem dX1_makerAt_12 : decode cX1_makerAt 12 = .ok (.iload_n 1, 1) := by decide +kernel
theorem dX1_makerAt_13 : decode cX1_makerAt 13 = .ok (.iaload, 1) := by decide +kernel
theorem dX1_makerAt_14 : decode cX1_makerAt 14 = .ok (.goto 4, 3) := by decide +kernel
theorem dX1_makerAt_17 : decode cX1_makerAt 17 = .ok (.iconst (-1), 1) := by decide +kernel
theorem dX1_makerAt_18 : decode cX1_makerAt 18 = .ok (.ireturn, 1) := by decide +kernel
theorem dX1_seasonAt_0 : decode cX1_seasonAt 0 = .ok (.aload_n 0, 1) := by decide +kernel
theorem dX1_seasonAt_1 : decode cX1_seasonAt 1 = .ok (.iload_n 1, 1) := by decide +kernel
theorem dX1_seasonAt_2 : decode cX1_seasonAt 2 = .ok (.invokevirtual 57, 3) := by decide +kernel
theorem dX1_seasonAt_5 : decode cX1_seasonAt 5 = .ok (.ifCond .eq 15, 3) := by decide +kernel
theorem dX1_seasonAt_8 : decode cX1_seasonAt 8 = .ok (.aload_n 0, 1) := by decide +kernel
theorem dX1_seasonAt_9 : decode cX1_seasonAt 9 = .ok (.getfield 17, 3) := by decide +kernel
theorem dX1_seasonAt_12 : decode cX1_seasonAt 12 = .ok (.iload_n 1, 1) := by decide +kernel
theorem dX1_seasonAt_13 : decode cX1_seasonAt 13 = .ok (.aaload, 1) := by decide +kernel
theorem dX1_seasonAt_14 : decode cX1_seasonAt 14 = .ok (.getfield 61, 3) := by decide +kernel
theorem dX1_seasonAt_17 : decode cX1_seasonAt 17 = .ok (.goto 4, 3) := by decide +kernel
theorem dX1_seasonAt_20 : decode cX1_seasonAt 20 = .ok (.iconst (-1), 1) := by decide +kernel
theorem dX1_seasonAt_21 : decode cX1_seasonAt 21 = .ok (.ireturn, 1) := by decide +kernel
theorem dX1_signsAt_0 : decode cX1_signsAt 0 = .ok (.aload_n 0, 1) := by decide +kernel
theorem dX1_signsAt_1 : decode cX1_signsAt 1 = .ok (.iload_n 1, 1) := by decide +kernel
theorem dX1_signsAt_2 : decode cX1_signsAt 2 = .ok (.invokevirtual 57, 3) := by decide +kernel
theorem dX1_signsAt_5 : decode cX1_signsAt 5 = .ok (.ifCond .eq 15, 3) := by decide +kernel
theorem dX1_signsAt_8 : decode cX1_signsAt 8 = .ok (.aload_n 0, 1) := by decide +kernel
theorem dX1_signsAt_9 : decode cX1_signsAt 9 = .ok (.getfield 17, 3) := by decide +kernel
theorem dX1_signsAt_12 : decode cX1_signsAt 12 = .ok (.iload_n 1, 1) := by decide +kernel
theorem dX1_signsAt_13 : decode cX1_signsAt 13 = .ok (.aaload, 1) := by decide +kernel
theorem dX1_signsAt_14 : decode cX1_signsAt 14 = .ok (.getfield 64, 3) := by decide +kernel
theorem dX1_signsAt_17 : decode cX1_signsAt 17 = .ok (.goto 4, 3) := by decide +kernel
theorem dX1_signsAt_20 : decode cX1_signsAt 20 = .ok (.iconst 0, 1) := by decide +kernel
theorem dX1_signsAt_21 : decode cX1_signsAt 21 = .ok (.ireturn, 1) := by decide +kernel
theorem dX1_wordSetAt_0 : decode cX1_wordSetAt 0 = .ok (.aload_n 0, 1) := by decide +kernel
theorem dX1_wordSetAt_1 : decode cX1_wordSetAt 1 = .ok (.iload_n 1, 1) := by decide +kernel
theorem dX1_wordSetAt_2 : decode cX1_wordSetAt 2 = .ok (.invokevirtual 57, 3) := by decide +kernel
theorem dX1_wordSetAt_5 : decode cX1_wordSetAt 5 = .ok (.ifCond .eq 15, 3) := by decide +kernel
theorem dX1_wordSetAt_8 : decode cX1_wordSetAt 8 = .ok (.aload_n 0, 1) := by decide +kernel
theorem dX1_wordSetAt_9 : decode cX1_wordSetAt 9 = .ok (.getfield 17, 3) := by decide +kernel
theorem dX1_wordSetAt_12 : decode cX1_wordSetAt 12 = .ok (.iload_n 1, 1) := by decide +kernel
theorem dX1_wordSetAt_13 : decode cX1_wordSetAt 13 = .ok (.aaload, 1) := by decide +kernel
theorem dX1_wordSetAt_14 : decode cX1_wordSetAt 14 = .ok (.getfield 67, 3) := by decide +kernel
theorem dX1_wordSetAt_17 : decode cX1_wordSetAt 17 = .ok (.goto 4, 3) := by decide +kernel
theorem dX1_wordSetAt_20 : decode cX1_wordSetAt 20 = .ok (.lconst 0, 1) := by decide +kernel
theorem dX1_wordSetAt_21 : decode cX1_wordSetAt 21 = .ok (.lreturn, 1) := by decide +kernel
theorem dX1_wordOrNone_0 : decode cX1_wordOrNone 0 = .ok (.aload_n 0, 1) := by decide +kernel
theorem dX1_wordOrNone_1 : decode cX1_wordOrNone 1 = .ok (.iload_n 1, 1) := by decide +kernel
theorem dX1_wordOrNone_2 : decode cX1_wordOrNone 2 = .ok (.invokevirtual 57, 3) := by decide +kernel
theorem dX1_wordOrNone_5 : decode cX1_wordOrNone 5 = .ok (.ifCond .eq 16, 3) := by decide +kernel
theorem dX1_wordOrNone_8 : decode cX1_wordOrNone 8 = .ok (.aload_n 0, 1) := by decide +kernel
theorem dX1_wordOrNone_9 : decode cX1_wordOrNone 9 = .ok (.getfield 17, 3) := by decide +kernel
theorem dX1_wordOrNone_12 : decode cX1_wordOrNone 12 = .ok (.iload_n 1, 1) := by decide +kernel
theorem dX1_wordOrNone_13 : decode cX1_wordOrNone 13 = .ok (.aaload, 1) := by decide +kernel
theorem dX1_wordOrNone_14 : decode cX1_wordOrNone 14 = .ok (.iload_n 2, 1) := by decide +kernel
theorem dX1_wordOrNone_15 : decode cX1_wordOrNone 15 = .ok (.invokevirtual 71, 3) := by decide +kernel
theorem dX1_wordOrNone_18 : decode cX1_wordOrNone 18 = .ok (.goto 4, 3) := by decide +kernel
theorem dX1_wordOrNone_21 : decode cX1_wordOrNone 21 = .ok (.iconst (-1), 1) := by decide +kernel
theorem dX1_wordOrNone_22 : decode cX1_wordOrNone 22 = .ok (.ireturn, 1) := by decide +kernel
theorem dX1_pointsOf_0 : decode cX1_pointsOf 0 = .ok (.iload_n 1, 1) := by decide +kernel
theorem dX1_pointsOf_1 : decode cX1_pointsOf 1 = .ok (.ifCond .lt 20, 3) := by decide +kernel
theorem dX1_pointsOf_4 : decode cX1_pointsOf 4 = .ok (.iload_n 1, 1) := by decide +kernel
theorem dX1_pointsOf_5 : decode cX1_pointsOf 5 = .ok (.iconst 4, 1) := by decide +kernel
theorem dX1_pointsOf_6 : decode cX1_pointsOf 6 = .ok (.if_icmp .ge 15, 3) := by decide +kernel
theorem dX1_pointsOf_9 : decode cX1_pointsOf 9 = .ok (.aload_n 0, 1) := by decide +kernel
theorem dX1_pointsOf_10 : decode cX1_pointsOf 10 = .ok (.iload_n 2, 1) := by decide +kernel
theorem dX1_pointsOf_11 : decode cX1_pointsOf 11 = .ok (.invokevirtual 57, 3) := by decide +kernel
theorem dX1_pointsOf_14 : decode cX1_pointsOf 14 = .ok (.ifCond .eq 7, 3) := by decide +kernel
theorem dX1_pointsOf_17 : decode cX1_pointsOf 17 = .ok (.iconst 1, 1) := by decide +kernel
theorem dX1_pointsOf_18 : decode cX1_pointsOf 18 = .ok (.goto 4, 3) := by decide +kernel
theorem dX1_pointsOf_21 : decode cX1_pointsOf 21 = .ok (.iconst 0, 1) := by decide +kernel
theorem dX1_pointsOf_22 : decode cX1_pointsOf 22 = .ok (.istore_n 3, 1) := by decide +kernel
theorem dX1_pointsOf_23 : decode cX1_pointsOf 23 = .ok (.iload_n 3, 1) := by decide +kernel
theorem dX1_pointsOf_24 : decode cX1_pointsOf 24 = .ok (.ifCond .eq 14, 3) := by decide +kernel
theorem dX1_pointsOf_27 : decode cX1_pointsOf 27 = .ok (.aload_n 0, 1) := by decide +kernel
theorem dX1_pointsOf_28 : decode cX1_pointsOf 28 = .ok (.getfield 33, 3) := by decide +kernel
theorem dX1_pointsOf_31 : decode cX1_pointsOf 31 = .ok (.iload_n 1, 1) := by decide +kernel
theorem dX1_pointsOf_32 : decode cX1_pointsOf 32 = .ok (.aaload, 1) := by decide +kernel
theorem dX1_pointsOf_33 : decode cX1_pointsOf 33 = .ok (.iload_n 2, 1) := by decide +kernel
theorem dX1_pointsOf_34 : decode cX1_pointsOf 34 = .ok (.iaload, 1) := by decide +kernel
theorem dX1_pointsOf_35 : decode cX1_pointsOf 35 = .ok (.goto 4, 3) := by decide +kernel
theorem dX1_pointsOf_38 : decode cX1_pointsOf 38 = .ok (.iconst (-1), 1) := by decide +kernel
theorem dX1_pointsOf_39 : decode cX1_pointsOf 39 = .ok (.ireturn, 1) := by decide +kernel
theorem dX1_runAt_0 : decode cX1_runAt 0 = .ok (.aload_n 0, 1) := by decide +kernel
theorem dX1_runAt_1 : decode cX1_runAt 1 = .ok (.iload_n 1, 1) := by decide +kernel
theorem dX1_runAt_2 : decode cX1_runAt 2 = .ok (.invokevirtual 75, 3) := by decide +kernel
theorem dX1_runAt_5 : decode cX1_runAt 5 = .ok (.istore_n 2, 1) := by decide +kernel
theorem dX1_runAt_6 : decode cX1_runAt 6 = .ok (.iload_n 2, 1) := by decide +kernel
theorem dX1_runAt_7 : decode cX1_runAt 7 = .ok (.iconst (-1), 1) := by decide +kernel
theorem dX1_runAt_8 : decode cX1_runAt 8 = .ok (.if_icmp .ne 5, 3) := by decide +kernel
theorem dX1_runAt_11 : decode cX1_runAt 11 = .ok (.iconst 0, 1) := by decide +kernel
theorem dX1_runAt_12 : decode cX1_runAt 12 = .ok (.ireturn, 1) := by decide +kernel
theorem dX1_runAt_13 : decode cX1_runAt 13 = .ok (.iconst 0, 1) := by decide +kernel
theorem dX1_runAt_14 : decode cX1_runAt 14 = .ok (.istore_n 3, 1) := by decide +kernel
theorem dX1_runAt_15 : decode cX1_runAt 15 = .ok (.iload_n 1, 1) := by decide +kernel
theorem dX1_runAt_16 : decode cX1_runAt 16 = .ok (.istore 4, 2) := by decide +kernel
theorem dX1_runAt_18 : decode cX1_runAt 18 = .ok (.iload 4, 2) := by decide +kernel
theorem dX1_runAt_20 : decode cX1_runAt 20 = .ok (.ifCond .lt 22, 3) := by decide +kernel
theorem dX1_runAt_23 : decode cX1_runAt 23 = .ok (.aload_n 0, 1) := by decide +kernel
theorem dX1_runAt_24 : decode cX1_runAt 24 = .ok (.iload 4, 2) := by decide +kernel
theorem dX1_runAt_26 : decode cX1_runAt 26 = .ok (.invokevirtual 75, 3) := by decide +kernel
theorem dX1_runAt_29 : decode cX1_runAt 29 = .ok (.iload_n 2, 1) := by decide +kernel
theorem dX1_runAt_30 : decode cX1_runAt 30 = .ok (.if_icmp .ne 12, 3) := by decide +kernel
theorem dX1_runAt_33 : decode cX1_runAt 33 = .ok (.iinc 3 1, 3) := by decide +kernel
theorem dX1_runAt_36 : decode cX1_runAt 36 = .ok (.iinc 4 (-1), 3) := by decide +kernel
theorem dX1_runAt_39 : decode cX1_runAt 39 = .ok (.goto (-21), 3) := by decide +kernel
theorem dX1_runAt_42 : decode cX1_runAt 42 = .ok (.iload_n 3, 1) := by decide +kernel
theorem dX1_runAt_43 : decode cX1_runAt 43 = .ok (.ireturn, 1) := by decide +kernel
theorem dX2_init_0 : decode cX2_init 0 = .ok (.aload_n 0, 1) := by decide +kernel
theorem dX2_init_1 : decode cX2_init 1 = .ok (.invokespecial 3, 3) := by decide +kernel
theorem dX2_init_4 : decode cX2_init 4 = .ok (.aload_n 0, 1) := by decide +kernel
theorem dX2_init_5 : decode cX2_init 5 = .ok (.aload_n 1, 1) := by decide +kernel
theorem dX2_init_6 : decode cX2_init 6 = .ok (.putfield 9, 3) := by decide +kernel
theorem dX2_init_9 : decode cX2_init 9 = .ok (.aload_n 0, 1) := by decide +kernel
theorem dX2_init_10 : decode cX2_init 10 = .ok (.aload_n 2, 1) := by decide +kernel
theorem dX2_init_11 : decode cX2_init 11 = .ok (.putfield 15, 3) := by decide +kernel
theorem dX2_init_14 : decode cX2_init 14 = .ok (.return_, 1) := by decide +kernel
theorem dX2_firstFault_0 : decode cX2_firstFault 0 = .ok (.iconst 1, 1) := by decide +kernel
theorem dX2_firstFault_1 : decode cX2_firstFault 1 = .ok (.istore 4, 2) := by decide +kernel
theorem dX2_firstFault_3 : decode cX2_firstFault 3 = .ok (.iload 4, 2) := by decide +kernel
theorem dX2_firstFault_5 : decode cX2_firstFault 5 = .ok (.bipush 8, 2) := by decide +kernel
theorem dX2_firstFault_7 : decode cX2_firstFault 7 = .ok (.if_icmp .gt 25, 3) := by decide +kernel
theorem dX2_firstFault_10 : decode cX2_firstFault 10 = .ok (.aload_n 0, 1) := by decide +kernel
theorem dX2_firstFault_11 : decode cX2_firstFault 11 = .ok (.iload 4, 2) := by decide +kernel
theorem dX2_firstFault_13 : decode cX2_firstFault 13 = .ok (.aload_n 1, 1) := by decide +kernel
theorem dX2_firstFault_14 : decode cX2_firstFault 14 = .ok (.iload_n 2, 1) := by decide +kernel
theorem dX2_firstFault_15 : decode cX2_firstFault 15 = .ok (.iload_n 3, 1) := by decide +kernel
theorem dX2_firstFault_16 : decode cX2_firstFault 16 = .ok (.invokevirtual 19, 3) := by decide +kernel
theorem dX2_firstFault_19 : decode cX2_firstFault 19 = .ok (.iconst (-1), 1) := by decide +kernel
theorem dX2_firstFault_20 : decode cX2_firstFault 20 = .ok (.if_icmp .eq 6, 3) := by decide +kernel
theorem dX2_firstFault_23 : decode cX2_firstFault 23 = .ok (.iload 4, 2) := by decide +kernel
theorem dX2_firstFault_25 : decode cX2_firstFault 25 = .ok (.ireturn, 1) := by decide +kernel
theorem dX2_firstFault_26 : decode cX2_firstFault 26 = .ok (.iinc 4 1, 3) := by decide +kernel
theorem dX2_firstFault_29 : decode cX2_firstFault 29 = .ok (.goto (-26), 3) := by decide +kernel
theorem dX2_firstFault_32 : decode cX2_firstFault 32 = .ok (.iconst 0, 1) := by decide +kernel
theorem dX2_firstFault_33 : decode cX2_firstFault 33 = .ok (.ireturn, 1) := by decide +kernel
theorem dX2_causeOf_0 : decode cX2_causeOf 0 = .ok (.iload_n 1, 1) := by decide +kernel
theorem dX2_causeOf_1 : decode cX2_causeOf 1 = .ok (.tableswitch 155 1 7 #[43, 67, 73, 80, 102, 125, 145], 43) := by decide +kernel
theorem dX2_causeOf_44 : decode cX2_causeOf 44 = .ok (.aload_n 2, 1) := by decide +kernel
theorem dX2_causeOf_45 : decode cX2_causeOf 45 = .ok (.getfield 23, 3) := by decide +kernel
theorem dX2_causeOf_48 : decode cX2_causeOf 48 = .ok (.aload_n 0, 1) := by decide +kernel
theorem dX2_causeOf_49 : decode cX2_causeOf 49 = .ok (.getfield 15, 3) := by decide +kernel
theorem dX2_causeOf_52 : decode cX2_causeOf 52 = .ok (.iload_n 3, 1) := by decide +kernel
theorem dX2_causeOf_53 : decode cX2_causeOf 53 = .ok (.invokevirtual 29, 3) := by decide +kernel
theorem dX2_causeOf_56 : decode cX2_causeOf 56 = .ok (.if_icmp .ne 7, 3) := by decide +kernel
theorem dX2_causeOf_59 : decode cX2_causeOf 59 = .ok (.iconst (-1), 1) := by decide +kernel
theorem dX2_causeOf_60 : decode cX2_causeOf 60 = .ok (.goto 7, 3) := by decide +kernel
theorem dX2_causeOf_63 : decode cX2_causeOf 63 = .ok (.aload_n 2, 1) := by decide +kernel
theorem dX2_causeOf_64 : decode cX2_causeOf 64 = .ok (.getfield 23, 3) := by decide +kernel
theorem dX2_causeOf_67 : decode cX2_causeOf 67 = .ok (.ireturn, 1) := by decide +kernel
theorem dX2_causeOf_68 : decode cX2_causeOf 68 = .ok (.aload_n 0, 1) := by decide +kernel
theorem dX2_causeOf_69 : decode cX2_causeOf 69 = .ok (.aload_n 2, 1) := by decide +kernel
theorem dX2_causeOf_70 : decode cX2_causeOf 70 = .ok (.invokevirtual 35, 3) := by decide +kernel
theorem dX2_causeOf_73 : decode cX2_causeOf 73 = .ok (.ireturn, 1) := by decide +kernel
theorem dX2_causeOf_74 : decode cX2_causeOf 74 = .ok (.aload_n 0, 1) := by decide +kernel
theorem dX2_causeOf_75 : decode cX2_causeOf 75 = .ok (.aload_n 2, 1) := by decide +kernel
theorem dX2_causeOf_76 : decode cX2_causeOf 76 = .ok (.iload_n 3, 1) := by decide +kernel
theorem dX2_causeOf_77 : decode cX2_causeOf 77 = .ok (.invokevirtual 39, 3) := by decide +kernel
theorem dX2_causeOf_80 : decode cX2_causeOf 80 = .ok (.ireturn, 1) := by decide +kernel
theorem dX2_causeOf_81 : decode cX2_causeOf 81 = .ok (.iload 4, 2) := by decide +kernel
theorem dX2_causeOf_83 : decode cX2_causeOf 83 = .ok (.aload_n 0, 1) := by decide +kernel
theorem dX2_causeOf_84 : decode cX2_causeOf 84 = .ok (.getfield 15, 3) := by decide +kernel
theorem dX2_causeOf_87 : decode cX2_causeOf 87 = .ok (.iload_n 3, 1) := by decide +kernel
theorem dX2_causeOf_88 : decode cX2_causeOf 88 = .ok (.iconst 1, 1) := by decide +kernel
theorem dX2_causeOf_89 : decode cX2_causeOf 89 = .ok (.isub, 1) := by decide +kernel
theorem dX2_causeOf_90 : decode cX2_causeOf 90 = .ok (.invokevirtual 43, 3) := by decide +kernel
theorem dX2_causeOf_93 : decode cX2_causeOf 93 = .ok (.if_icmp .ne 8, 3) := by decide +kernel
theorem dX2_causeOf_96 : decode cX2_causeOf 96 = .ok (.iload 4, 2) := by decide +kernel
theorem dX2_causeOf_98 : decode cX2_causeOf 98 = .ok (.goto 4, 3) := by decide +kernel
theorem dX2_causeOf_101 : decode cX2_causeOf 101 = .ok (.iconst (-1), 1) := by decide +kernel
theorem dX2_causeOf_102 : decode cX2_causeOf 102 = .ok (.ireturn, 1) := by decide +kernel
theorem dX2_causeOf_103 : decode cX2_causeOf 103 = .ok (.iload_n 3, 1) := by decide +kernel
theorem dX2_causeOf_104 : decode cX2_causeOf 104 = .ok (.ifCond .eq 14, 3) := by decide +kernel
theorem dX2_causeOf_107 : decode cX2_causeOf 107 = .ok (.aload_n 0, 1) := by decide +kernel
theorem dX2_causeOf_108 : decode cX2_causeOf 108 = .ok (.aload_n 2, 1) := by decide +kernel
theorem dX2_causeOf_109 : decode cX2_causeOf 109 = .ok (.iload_n 3, 1) := by decide +kernel
theorem dX2_causeOf_110 : decode cX2_causeOf 110 = .ok (.iconst 1, 1) := by decide +kernel
theorem dX2_causeOf_111 : decode cX2_causeOf 111 = .ok (.isub, 1) := by decide +kernel
theorem dX2_causeOf_112 : decode cX2_causeOf 112 = .ok (.invokevirtual 46, 3) := by decide +kernel
theorem dX2_causeOf_115 : decode cX2_causeOf 115 = .ok (.ifCond .eq 7, 3) := by decide +kernel
theorem dX2_causeOf_118 : decode cX2_causeOf 118 = .ok (.iconst (-1), 1) := by decide +kernel
theorem dX2_causeOf_119 : decode cX2_causeOf 119 = .ok (.goto 6, 3) := by decide +kernel
theorem dX2_causeOf_122 : decode cX2_causeOf 122 = .ok (.iload_n 3, 1) := by decide +kernel
theorem dX2_causeOf_123 : decode cX2_causeOf 123 = .ok (.iconst 1, 1) := by decide +kernel
theorem dX2_causeOf_124 : decode cX2_causeOf 124 = .ok (.isub, 1) := by decide +kernel
theorem dX2_causeOf_125 : decode cX2_causeOf 125 = .ok (.ireturn, 1) := by decide +kernel
theorem dX2_causeOf_126 : decode cX2_causeOf 126 = .ok (.aload_n 0, 1) := by decide +kernel
theorem dX2_causeOf_127 : decode cX2_causeOf 127 = .ok (.aload_n 2, 1) := by decide +kernel
theorem dX2_causeOf_128 : decode cX2_causeOf 128 = .ok (.getfield 50, 3) := by decide +kernel
theorem dX2_causeOf_131 : decode cX2_causeOf 131 = .ok (.aload_n 0, 1) := by decide +kernel
theorem dX2_causeOf_132 : decode cX2_causeOf 132 = .ok (.getfield 15, 3) := by decide +kernel
theorem dX2_causeOf_135 : decode cX2_causeOf 135 = .ok (.iload_n 3, 1) := by decide +kernel
theorem dX2_causeOf_136 : decode cX2_causeOf 136 = .ok (.iconst 2, 1) := by decide +kernel
theorem dX2_causeOf_137 : decode cX2_causeOf 137 = .ok (.isub, 1) := by decide +kernel
theorem dX2_causeOf_138 : decode cX2_causeOf 138 = .ok (.invokevirtual 53, 3) := by decide +kernel
theorem dX2_causeOf_141 : decode cX2_causeOf 141 = .ok (.iand, 1) := by decide +kernel
theorem dX2_causeOf_142 : decode cX2_causeOf 142 = .ok (.invokevirtual 56, 3) := by decide +kernel
theorem dX2_causeOf_145 : decode cX2_causeOf 145 = .ok (.ireturn, 1) := by decide +kernel
theorem dX2_causeOf_146 : decode cX2_causeOf 146 = .ok (.aload_n 0, 1) := by decide +kernel
theorem dX2_causeOf_147 : decode cX2_causeOf 147 = .ok (.aload_n 2, 1) := by decide +kernel
theorem dX2_causeOf_148 : decode cX2_causeOf 148 = .ok (.getfield 59, 3) := by decide +kernel
theorem dX2_causeOf_151 : decode cX2_causeOf 151 = .ok (.iload_n 3, 1) := by decide +kernel
theorem dX2_causeOf_152 : decode cX2_causeOf 152 = .ok (.invokevirtual 62, 3) := by decide +kernel
theorem dX2_causeOf_155 : decode cX2_causeOf 155 = .ok (.ireturn, 1) := by decide +kernel
theorem dX2_causeOf_156 : decode cX2_causeOf 156 = .ok (.aload_n 0, 1) := by decide +kernel
theorem dX2_causeOf_157 : decode cX2_causeOf 157 = .ok (.aload_n 2, 1) := by decide +kernel
theorem dX2_causeOf_158 : decode cX2_causeOf 158 = .ok (.getfield 50, 3) := by decide +kernel
theorem dX2_causeOf_161 : decode cX2_causeOf 161 = .ok (.aload_n 0, 1) := by decide +kernel
theorem dX2_causeOf_162 : decode cX2_causeOf 162 = .ok (.getfield 15, 3) := by decide +kernel
theorem dX2_causeOf_165 : decode cX2_causeOf 165 = .ok (.iload_n 3, 1) := by decide +kernel
theorem dX2_causeOf_166 : decode cX2_causeOf 166 = .ok (.invokevirtual 66, 3) := by decide +kernel
theorem dX2_causeOf_169 : decode cX2_causeOf 169 = .ok (.invokevirtual 69, 3) := by decide +kernel
theorem dX2_causeOf_172 : decode cX2_causeOf 172 = .ok (.ireturn, 1) := by decide +kernel
theorem dX2_unlikeSeasonPlace_0 : decode cX2_unlikeSeasonPlace 0 = .ok (.iconst 0, 1) := by decide +kernel
theorem dX2_unlikeSeasonPlace_1 : decode cX2_unlikeSeasonPlace 1 = .ok (.istore_n 2, 1) := by decide +kernel
theorem dX2_unlikeSeasonPlace_2 : decode cX2_unlikeSeasonPlace 2 = .ok (.iload_n 2, 1) := by decide +kernel
theorem dX2_unlikeSeasonPlace_3 : decode cX2_unlikeSeasonPlace 3 = .ok (.aload_n 1, 1) := by decide +kernel
theorem dX2_unlikeSeasonPlace_4 : decode cX2_unlikeSeasonPlace 4 = .ok (.getfield 72, 3) := by decide +kernel
theorem dX2_unlikeSeasonPlace_7 : decode cX2_unlikeSeasonPlace 7 = .ok (.if_icmp .ge 37, 3) := by decide +kernel
theorem dX2_unlikeSeasonPlace_10 : decode cX2_unlikeSeasonPlace 10 = .ok (.aload_n 0, 1) := by decide +kernel
theorem dX2_unlikeSeasonPlace_11 : decode cX2_unlikeSeasonPlace 11 = .ok (.getfield 9, 3) := by decide +kernel
theorem dX2_unlikeSeasonPlace_14 : decode cX2_unlikeSeasonPlace 14 = .ok (.aload_n 1, 1) := by decide +kernel
theorem dX2_unlikeSeasonPlace_15 : decode cX2_unlikeSeasonPlace 15 = .ok (.iload_n 2, 1) := by decide +kernel
theorem dX2_unlikeSeasonPlace_16 : decode cX2_unlikeSeasonPlace 16 = .ok (.invokevirtual 75, 3) := by decide +kernel
theorem dX2_unlikeSeasonPlace_19 : decode cX2_unlikeSeasonPlace 19 = .ok (.invokevirtual 78, 3) := by decide +kernel
theorem dX2_unlikeSeasonPlace_22 : decode cX2_unlikeSeasonPlace 22 = .ok (.istore_n 3, 1) := by decide +kernel
theorem dX2_unlikeSeasonPlace_23 : decode cX2_unlikeSeasonPlace 23 = .ok (.iload_n 3, 1) := by decide +kernel
theorem dX2_unlikeSeasonPlace_24 : decode cX2_unlikeSeasonPlace 24 = .ok (.iconst (-1), 1) := by decide +kernel
theorem dX2_unlikeSeasonPlace_25 : decode cX2_unlikeSeasonPlace 25 = .ok (.if_icmp .eq 13, 3) := by decide +kernel
theorem dX2_unlikeSeasonPlace_28 : decode cX2_unlikeSeasonPlace 28 = .ok (.iload_n 3, 1) := by decide +kernel
theorem dX2_unlikeSeasonPlace_29 : decode cX2_unlikeSeasonPlace 29 = .ok (.aload_n 1, 1) := by decide +kernel
theorem dX2_unlikeSeasonPlace_30 : decode cX2_unlikeSeasonPlace 30 = .ok (.getfield 59, 3) := by decide +kernel
theorem dX2_unlikeSeasonPlace_33 : decode cX2_unlikeSeasonPlace 33 = .ok (.if_icmp .eq 5, 3) := by decide +kernel
theorem dX2_unlikeSeasonPlace_36 : decode cX2_unlikeSeasonPlace 36 = .ok (.iload_n 2, 1) := by decide +kernel
theorem dX2_unlikeSeasonPlace_37 : decode cX2_unlikeSeasonPlace 37 = .ok (.ireturn, 1) := by decide +kernel
theorem dX2_unlikeSeasonPlace_38 : decode cX2_unlikeSeasonPlace 38 = .ok (.iinc 2 1, 3) := by decide +kernel
theorem dX2_unlikeSeasonPlace_41 : decode cX2_unlikeSeasonPlace 41 = .ok (.goto (-39), 3) := by decide +kernel
theorem dX2_unlikeSeasonPlace_44 : decode cX2_unlikeSeasonPlace 44 = .ok (.iconst (-1), 1) := by decide +kernel
theorem dX2_unlikeSeasonPlace_45 : decode cX2_unlikeSeasonPlace 45 = .ok (.ireturn, 1) := by decide +kernel
theorem dX2_wordAgainPlace_0 : decode cX2_wordAgainPlace 0 = .ok (.lconst 0, 1) := by decide +kernel
theorem dX2_wordAgainPlace_1 : decode cX2_wordAgainPlace 1 = .ok (.lstore_n 3, 1) := by decide +kernel
theorem dX2_wordAgainPlace_2 : decode cX2_wordAgainPlace 2 = .ok (.iload_n 2, 1) := by decide +kernel
theorem dX2_wordAgainPlace_3 : decode cX2_wordAgainPlace 3 = .ok (.aload_n 0, 1) := by decide +kernel
theorem dX2_wordAgainPlace_4 : decode cX2_wordAgainPlace 4 = .ok (.getfield 15, 3) := by decide +kernel
theorem dX2_wordAgainPlace_7 : decode cX2_wordAgainPlace 7 = .ok (.getfield 83, 3) := by decide +kernel
theorem dX2_wordAgainPlace_10 : decode cX2_wordAgainPlace 10 = .ok (.isub, 1) := by decide +kernel
theorem dX2_wordAgainPlace_11 : decode cX2_wordAgainPlace 11 = .ok (.istore 5, 2) := by decide +kernel
theorem dX2_wordAgainPlace_13 : decode cX2_wordAgainPlace 13 = .ok (.iload 5, 2) := by decide +kernel
theorem dX2_wordAgainPlace_15 : decode cX2_wordAgainPlace 15 = .ok (.iload_n 2, 1) := by decide +kernel
theorem dX2_wordAgainPlace_16 : decode cX2_wordAgainPlace 16 = .ok (.if_icmp .ge 21, 3) := by decide +kernel
theorem dX2_wordAgainPlace_19 : decode cX2_wordAgainPlace 19 = .ok (.lload_n 3, 1) := by decide +kernel
theorem dX2_wordAgainPlace_20 : decode cX2_wordAgainPlace 20 = .ok (.aload_n 0, 1) := by decide +kernel
theorem dX2_wordAgainPlace_21 : decode cX2_wordAgainPlace 21 = .ok (.getfield 15, 3) := by decide +kernel
theorem dX2_wordAgainPlace_24 : decode cX2_wordAgainPlace 24 = .ok (.iload 5, 2) := by decide +kernel
theorem dX2_wordAgainPlace_26 : decode cX2_wordAgainPlace 26 = .ok (.invokevirtual 86, 3) := by decide +kernel
theorem dX2_wordAgainPlace_29 : decode cX2_wordAgainPlace 29 = .ok (.lor, 1) := by decide +kernel
theorem dX2_wordAgainPlace_30 : decode cX2_wordAgainPlace 30 = .ok (.lstore_n 3, 1) := by decide +kernel
theorem dX2_wordAgainPlace_31 : decode cX2_wordAgainPlace 31 = .ok (.iinc 5 1, 3) := by decide +kernel
theorem dX2_wordAgainPlace_34 : decode cX2_wordAgainPlace 34 = .ok (.goto (-21), 3) := by decide +kernel
theorem dX2_wordAgainPlace_37 : decode cX2_wordAgainPlace 37 = .ok (.iconst 0, 1) := by decide +kernel
theorem dX2_wordAgainPlace_38 : decode cX2_wordAgainPlace 38 = .ok (.istore 5, 2) := by decide +kernel
theorem dX2_wordAgainPlace_40 : decode cX2_wordAgainPlace 40 = .ok (.iload 5, 2) := by decide +kernel
theorem dX2_wordAgainPlace_42 : decode cX2_wordAgainPlace 42 = .ok (.aload_n 1, 1) := by decide +kernel
theorem dX2_wordAgainPlace_43 : decode cX2_wordAgainPlace 43 = .ok (.getfield 72, 3) := by decide +kernel
theorem dX2_wordAgainPlace_46 : decode cX2_wordAgainPlace 46 = .ok (.if_icmp .ge 36, 3) := by decide +kernel
theorem dX2_wordAgainPlace_49 : decode cX2_wordAgainPlace 49 = .ok (.lconst 1, 1) := by decide +kernel
theorem dX2_wordAgainPlace_50 : decode cX2_wordAgainPlace 50 = .ok (.aload_n 1, 1) := by decide +kernel
theorem dX2_wordAgainPlace_51 : decode cX2_wordAgainPlace 51 = .ok (.iload 5, 2) := by decide +kernel
theorem dX2_wordAgainPlace_53 : decode cX2_wordAgainPlace 53 = .ok (.invokevirtual 75, 3) := by decide +kernel
theorem dX2_wordAgainPlace_56 : decode cX2_wordAgainPlace 56 = .ok (.lshl, 1) := by decide +kernel
theorem dX2_wordAgainPlace_57 : decode cX2_wordAgainPlace 57 = .ok (.lstore 6, 2) := by decide +kernel
theorem dX2_wordAgainPlace_59 : decode cX2_wordAgainPlace 59 = .ok (.lload_n 3, 1) := by decide +kernel
theorem dX2_wordAgainPlace_60 : decode cX2_wordAgainPlace 60 = .ok (.lload 6, 2) := by decide +kernel
theorem dX2_wordAgainPlace_62 : decode cX2_wordAgainPlace 62 = .ok (.land, 1) := by decide +kernel
theorem dX2_wordAgainPlace_63 : decode cX2_wordAgainPlace 63 = .ok (.lconst 0, 1) := by decide +kernel
theorem dX2_wordAgainPlace_64 : decode cX2_wordAgainPlace 64 = .ok (.lcmp, 1) := by decide +kernel
theorem dX2_wordAgainPlace_65 : decode cX2_wordAgainPlace 65 = .ok (.ifCond .eq 6, 3) := by decide +kernel
theorem dX2_wordAgainPlace_68 : decode cX2_wordAgainPlace 68 = .ok (.iload 5, 2) := by decide +kernel
theorem dX2_wordAgainPlace_70 : decode cX2_wordAgainPlace 70 = .ok (.ireturn, 1) := by decide +kernel
theorem dX2_wordAgainPlace_71 : decode cX2_wordAgainPlace 71 = .ok (.lload_n 3, 1) := by decide +kernel
theorem dX2_wordAgainPlace_72 : decode cX2_wordAgainPlace 72 = .ok (.lload 6, 2) := by decide +kernel
theorem dX2_wordAgainPlace_74 : decode cX2_wordAgainPlace 74 = .ok (.lor, 1) := by decide +kernel
theorem dX2_wordAgainPlace_75 : decode cX2_wordAgainPlace 75 = .ok (.lstore_n 3, 1) := by decide +kernel
theorem dX2_wordAgainPlace_76 : decode cX2_wordAgainPlace 76 = .ok (.iinc 5 1, 3) := by decide +kernel
theorem dX2_wordAgainPlace_79 : decode cX2_wordAgainPlace 79 = .ok (.goto (-39), 3) := by decide +kernel
theorem dX2_wordAgainPlace_82 : decode cX2_wordAgainPlace 82 = .ok (.iconst (-1), 1) := by decide +kernel
theorem dX2_wordAgainPlace_83 : decode cX2_wordAgainPlace 83 = .ok (.ireturn, 1) := by decide +kernel
theorem dX2_joins_0 : decode cX2_joins 0 = .ok (.aload_n 1, 1) := by decide +kernel
theorem dX2_joins_1 : decode cX2_joins 1 = .ok (.getfield 50, 3) := by decide +kernel
theorem dX2_joins_4 : decode cX2_joins 4 = .ok (.aload_n 0, 1) := by decide +kernel
theorem dX2_joins_5 : decode cX2_joins 5 = .ok (.getfield 15, 3) := by decide +kernel
theorem dX2_joins_8 : decode cX2_joins 8 = .ok (.iload_n 2, 1) := by decide +kernel
theorem dX2_joins_9 : decode cX2_joins 9 = .ok (.invokevirtual 53, 3) := by decide +kernel
theorem dX2_joins_12 : decode cX2_joins 12 = .ok (.iand, 1) := by decide +kernel
theorem dX2_joins_13 : decode cX2_joins 13 = .ok (.sipush 255, 3) := by decide +kernel
theorem dX2_joins_16 : decode cX2_joins 16 = .ok (.iand, 1) := by decide +kernel
theorem dX2_joins_17 : decode cX2_joins 17 = .ok (.ifCond .eq 5, 3) := by decide +kernel
theorem dX2_joins_20 : decode cX2_joins 20 = .ok (.iconst 1, 1) := by decide +kernel
theorem dX2_joins_21 : decode cX2_joins 21 = .ok (.ireturn, 1) := by decide +kernel
theorem dX2_joins_22 : decode cX2_joins 22 = .ok (.aload_n 0, 1) := by decide +kernel
theorem dX2_joins_23 : decode cX2_joins 23 = .ok (.getfield 15, 3) := by decide +kernel
theorem dX2_joins_26 : decode cX2_joins 26 = .ok (.iload_n 2, 1) := by decide +kernel
theorem dX2_joins_27 : decode cX2_joins 27 = .ok (.invokevirtual 86, 3) := by decide +kernel
theorem dX2_joins_30 : decode cX2_joins 30 = .ok (.lstore_n 3, 1) := by decide +kernel
theorem dX2_joins_31 : decode cX2_joins 31 = .ok (.iconst 0, 1) := by decide +kernel
theorem dX2_joins_32 : decode cX2_joins 32 = .ok (.istore 5, 2) := by decide +kernel
theorem dX2_joins_34 : decode cX2_joins 34 = .ok (.iload 5, 2) := by decide +kernel
theorem dX2_joins_36 : decode cX2_joins 36 = .ok (.aload_n 1, 1) := by decide +kernel
theorem dX2_joins_37 : decode cX2_joins 37 = .ok (.getfield 72, 3) := by decide +kernel
theorem dX2_joins_40 : decode cX2_joins 40 = .ok (.if_icmp .ge 31, 3) := by decide +kernel
theorem dX2_joins_43 : decode cX2_joins 43 = .ok (.aload_n 0, 1) := by decide +kernel
theorem dX2_joins_44 : decode cX2_joins 44 = .ok (.getfield 9, 3) := by decide +kernel
theorem dX2_joins_47 : decode cX2_joins 47 = .ok (.aload_n 1, 1) := by decide +kernel
theorem dX2_joins_48 : decode cX2_joins 48 = .ok (.iload 5, 2) := by decide +kernel
theorem dX2_joins_50 : decode cX2_joins 50 = .ok (.invokevirtual 75, 3) := by decide +kernel
theorem dX2_joins_53 : decode cX2_joins 53 = .ok (.invokevirtual 90, 3) := by decide +kernel
theorem dX2_joins_56 : decode cX2_joins 56 = .ok (.lload_n 3, 1) := by decide +kernel
theorem dX2_joins_57 : decode cX2_joins 57 = .ok (.land, 1) := by decide +kernel
theorem dX2_joins_58 : decode cX2_joins 58 = .ok (.lconst 0, 1) := by decide +kernel
theorem dX2_joins_59 : decode cX2_joins 59 = .ok (.lcmp, 1) := by decide +kernel
theorem dX2_joins_60 : decode cX2_joins 60 = .ok (.ifCond .eq 5, 3) := by decide +kernel
theorem dX2_joins_63 : decode cX2_joins 63 = .ok (.iconst 1, 1) := by decide +kernel
theorem dX2_joins_64 : decode cX2_joins 64 = .ok (.ireturn, 1) := by decide +kernel
theorem dX2_joins_65 : decode cX2_joins 65 = .ok (.iinc 5 1, 3) := by decide +kernel
theorem dX2_joins_68 : decode cX2_joins 68 = .ok (.goto (-34), 3) := by decide +kernel
theorem dX2_joins_71 : decode cX2_joins 71 = .ok (.iconst 0, 1) := by decide +kernel
theorem dX2_joins_72 : decode cX2_joins 72 = .ok (.ireturn, 1) := by decide +kernel
theorem dX2_lowestSubject_0 : decode cX2_lowestSubject 0 = .ok (.iconst 0, 1) := by decide +kernel
theorem dX2_lowestSubject_1 : decode cX2_lowestSubject 1 = .ok (.istore_n 2, 1) := by decide +kernel
theorem dX2_lowestSubject_2 : decode cX2_lowestSubject 2 = .ok (.iload_n 2, 1) := by decide +kernel
theorem dX2_lowestSubject_3 : decode cX2_lowestSubject 3 = .ok (.bipush 8, 2) := by decide +kernel
theorem dX2_lowestSubject_5 : decode cX2_lowestSubject 5 = .ok (.if_icmp .ge 19, 3) := by decide +kernel
theorem dX2_lowestSubject_8 : decode cX2_lowestSubject 8 = .ok (.iload_n 1, 1) := by decide +kernel
theorem dX2_lowestSubject_9 : decode cX2_lowestSubject 9 = .ok (.iload_n 2, 1) := by decide +kernel
theorem dX2_lowestSubject_10 : decode cX2_lowestSubject 10 = .ok (.ishr, 1) := by decide +kernel
theorem dX2_lowestSubject_11 : decode cX2_lowestSubject 11 = .ok (.iconst 1, 1) := by decide +kernel
theorem dX2_lowestSubject_12 : decode cX2_lowestSubject 12 = .ok (.iand, 1) := by decide +kernel
theorem dX2_lowestSubject_13 : decode cX2_lowestSubject 13 = .ok (.ifCond .eq 5, 3) := by decide +kernel
theorem dX2_lowestSubject_16 : decode cX2_lowestSubject 16 = .ok (.iload_n 2, 1) := by decide +kernel
theorem dX2_lowestSubject_17 : decode cX2_lowestSubject 17 = .ok (.ireturn, 1) := by decide +kernel
theorem dX2_lowestSubject_18 : decode cX2_lowestSubject 18 = .ok (.iinc 2 1, 3) := by decide +kernel
theorem dX2_lowestSubject_21 : decode cX2_lowestSubject 21 = .ok (.goto (-19), 3) := by decide +kernel
theorem dX2_lowestSubject_24 : decode cX2_lowestSubject 24 = .ok (.iconst (-1), 1) := by decide +kernel
theorem dX2_lowestSubject_25 : decode cX2_lowestSubject 25 = .ok (.ireturn, 1) := by decide +kernel
theorem dX2_wrongSeason_0 : decode cX2_wrongSeason 0 = .ok (.aload_n 0, 1) := by decide +kernel
theorem dX2_wrongSeason_1 : decode cX2_wrongSeason 1 = .ok (.getfield 15, 3) := by decide +kernel
theorem dX2_wrongSeason_4 : decode cX2_wrongSeason 4 = .ok (.iload_n 2, 1) := by decide +kernel
theorem dX2_wrongSeason_5 : decode cX2_wrongSeason 5 = .ok (.iconst 1, 1) := by decide +kernel
theorem dX2_wrongSeason_6 : decode cX2_wrongSeason 6 = .ok (.isub, 1) := by decide +kernel
theorem dX2_wrongSeason_7 : decode cX2_wrongSeason 7 = .ok (.invokevirtual 93, 3) := by decide +kernel
theorem dX2_wrongSeason_10 : decode cX2_wrongSeason 10 = .ok (.istore_n 3, 1) := by decide +kernel
theorem dX2_wrongSeason_11 : decode cX2_wrongSeason 11 = .ok (.aload_n 0, 1) := by decide +kernel
theorem dX2_wrongSeason_12 : decode cX2_wrongSeason 12 = .ok (.getfield 15, 3) := by decide +kernel
theorem dX2_wrongSeason_15 : decode cX2_wrongSeason 15 = .ok (.iload_n 2, 1) := by decide +kernel
theorem dX2_wrongSeason_16 : decode cX2_wrongSeason 16 = .ok (.iconst 1, 1) := by decide +kernel
theorem dX2_wrongSeason_17 : decode cX2_wrongSeason 17 = .ok (.isub, 1) := by decide +kernel
theorem dX2_wrongSeason_18 : decode cX2_wrongSeason 18 = .ok (.invokevirtual 96, 3) := by decide +kernel
theorem dX2_wrongSeason_21 : decode cX2_wrongSeason 21 = .ok (.istore 4, 2) := by decide +kernel
theorem dX2_wrongSeason_23 : decode cX2_wrongSeason 23 = .ok (.iload_n 3, 1) := by decide +kernel
theorem dX2_wrongSeason_24 : decode cX2_wrongSeason 24 = .ok (.iconst (-1), 1) := by decide +kernel
theorem dX2_wrongSeason_25 : decode cX2_wrongSeason 25 = .ok (.if_icmp .eq 20, 3) := by decide +kernel
theorem dX2_wrongSeason_28 : decode cX2_wrongSeason 28 = .ok (.iload_n 1, 1) := by decide +kernel
theorem dX2_wrongSeason_29 : decode cX2_wrongSeason 29 = .ok (.iload_n 3, 1) := by decide +kernel
theorem dX2_wrongSeason_30 : decode cX2_wrongSeason 30 = .ok (.if_icmp .eq 15, 3) := by decide +kernel
theorem dX2_wrongSeason_33 : decode cX2_wrongSeason 33 = .ok (.iload 4, 2) := by decide +kernel
theorem dX2_wrongSeason_35 : decode cX2_wrongSeason 35 = .ok (.aload_n 0, 1) := by decide +kernel
theorem dX2_wrongSeason_36 : decode cX2_wrongSeason 36 = .ok (.iload_n 3, 1) := by decide +kernel
theorem dX2_wrongSeason_37 : decode cX2_wrongSeason 37 = .ok (.invokevirtual 99, 3) := by decide +kernel
theorem dX2_wrongSeason_40 : decode cX2_wrongSeason 40 = .ok (.if_icmp .ge 5, 3) := by decide +kernel
theorem dX2_wrongSeason_43 : decode cX2_wrongSeason 43 = .ok (.iload_n 3, 1) := by decide +kernel
theorem dX2_wrongSeason_44 : decode cX2_wrongSeason 44 = .ok (.ireturn, 1) := by decide +kernel
theorem dX2_wrongSeason_45 : decode cX2_wrongSeason 45 = .ok (.iload_n 3, 1) := by decide +kernel
theorem dX2_wrongSeason_46 : decode cX2_wrongSeason 46 = .ok (.iconst (-1), 1) := by decide +kernel
theorem dX2_wrongSeason_47 : decode cX2_wrongSeason 47 = .ok (.if_icmp .eq 20, 3) := by decide +kernel
theorem dX2_wrongSeason_50 : decode cX2_wrongSeason 50 = .ok (.iload_n 1, 1) := by decide +kernel
theorem dX2_wrongSeason_51 : decode cX2_wrongSeason 51 = .ok (.iload_n 3, 1) := by decide +kernel
theorem dX2_wrongSeason_52 : decode cX2_wrongSeason 52 = .ok (.if_icmp .ne 15, 3) := by decide +kernel
theorem dX2_wrongSeason_55 : decode cX2_wrongSeason 55 = .ok (.iload 4, 2) := by decide +kernel
theorem dX2_wrongSeason_57 : decode cX2_wrongSeason 57 = .ok (.aload_n 0, 1) := by decide +kernel
theorem dX2_wrongSeason_58 : decode cX2_wrongSeason 58 = .ok (.iload_n 3, 1) := by decide +kernel
theorem dX2_wrongSeason_59 : decode cX2_wrongSeason 59 = .ok (.invokevirtual 102, 3) := by decide +kernel
theorem dX2_wrongSeason_62 : decode cX2_wrongSeason 62 = .ok (.if_icmp .lt 5, 3) := by decide +kernel
theorem dX2_wrongSeason_65 : decode cX2_wrongSeason 65 = .ok (.iload_n 3, 1) := by decide +kernel
theorem dX2_wrongSeason_66 : decode cX2_wrongSeason 66 = .ok (.ireturn, 1) := by decide +kernel
theorem dX2_wrongSeason_67 : decode cX2_wrongSeason 67 = .ok (.iload_n 1, 1) := by decide +kernel
theorem dX2_wrongSeason_68 : decode cX2_wrongSeason 68 = .ok (.iconst (-1), 1) := by decide +kernel
theorem dX2_wrongSeason_69 : decode cX2_wrongSeason 69 = .ok (.if_icmp .eq 19, 3) := by decide +kernel
theorem dX2_wrongSeason_72 : decode cX2_wrongSeason 72 = .ok (.iload_n 1, 1) := by decide +kernel
theorem dX2_wrongSeason_73 : decode cX2_wrongSeason 73 = .ok (.iload_n 3, 1) := by decide +kernel
theorem dX2_wrongSeason_74 : decode cX2_wrongSeason 74 = .ok (.if_icmp .eq 14, 3) := by decide +kernel
theorem dX2_wrongSeason_77 : decode cX2_wrongSeason 77 = .ok (.aload_n 0, 1) := by decide +kernel
theorem dX2_wrongSeason_78 : decode cX2_wrongSeason 78 = .ok (.iload_n 1, 1) := by decide +kernel
theorem dX2_wrongSeason_79 : decode cX2_wrongSeason 79 = .ok (.iload_n 2, 1) := by decide +kernel
theorem dX2_wrongSeason_80 : decode cX2_wrongSeason 80 = .ok (.invokevirtual 105, 3) := by decide +kernel
theorem dX2_wrongSeason_83 : decode cX2_wrongSeason 83 = .ok (.ifCond .eq 5, 3) := by decide +kernel
theorem dX2_wrongSeason_86 : decode cX2_wrongSeason 86 = .ok (.iload_n 1, 1) := by decide +kernel
theorem dX2_wrongSeason_87 : decode cX2_wrongSeason 87 = .ok (.ireturn, 1) := by decide +kernel
theorem dX2_wrongSeason_88 : decode cX2_wrongSeason 88 = .ok (.iconst (-1), 1) := by decide +kernel
theorem dX2_wrongSeason_89 : decode cX2_wrongSeason 89 = .ok (.ireturn, 1) := by decide +kernel
theorem dX2_isLately_0 : decode cX2_isLately 0 = .ok (.iload_n 2, 1) := by decide +kernel
theorem dX2_isLately_1 : decode cX2_isLately 1 = .ok (.iconst 4, 1) := by decide +kernel
theorem dX2_isLately_2 : decode cX2_isLately 2 = .ok (.isub, 1) := by decide +kernel
theorem dX2_isLately_3 : decode cX2_isLately 3 = .ok (.istore_n 3, 1) := by decide +kernel
theorem dX2_isLately_4 : decode cX2_isLately 4 = .ok (.iload_n 3, 1) := by decide +kernel
theorem dX2_isLately_5 : decode cX2_isLately 5 = .ok (.iload_n 2, 1) := by decide +kernel
theorem dX2_isLately_6 : decode cX2_isLately 6 = .ok (.if_icmp .ge 23, 3) := by decide +kernel
theorem dX2_isLately_9 : decode cX2_isLately 9 = .ok (.aload_n 0, 1) := by decide +kernel
theorem dX2_isLately_10 : decode cX2_isLately 10 = .ok (.getfield 15, 3) := by decide +kernel
theorem dX2_isLately_13 : decode cX2_isLately 13 = .ok (.iload_n 3, 1) := by decide +kernel
theorem dX2_isLately_14 : decode cX2_isLately 14 = .ok (.invokevirtual 93, 3) := by decide +kernel
theorem dX2_isLately_17 : decode cX2_isLately 17 = .ok (.iload_n 1, 1) := by decide +kernel
theorem dX2_isLately_18 : decode cX2_isLately 18 = .ok (.if_icmp .ne 5, 3) := by decide +kernel
theorem dX2_isLately_21 : decode cX2_isLately 21 = .ok (.iconst 1, 1) := by decide +kernel
theorem dX2_isLately_22 : decode cX2_isLately 22 = .ok (.ireturn, 1) := by decide +kernel
theorem dX2_isLately_23 : decode cX2_isLately 23 = .ok (.iinc 3 1, 3) := by decide +kernel
theorem dX2_isLately_26 : decode cX2_isLately 26 = .ok (.goto (-22), 3) := by decide +kernel
theorem dX2_isLately_29 : decode cX2_isLately 29 = .ok (.iconst 0, 1) := by decide +kernel
theorem dX2_isLately_30 : decode cX2_isLately 30 = .ok (.ireturn, 1) := by decide +kernel
theorem dX2_isLong_0 : decode cX2_isLong 0 = .ok (.iload_n 1, 1) := by decide +kernel
theorem dX2_isLong_1 : decode cX2_isLong 1 = .ok (.ifCond .eq 8, 3) := by decide +kernel
theorem dX2_isLong_4 : decode cX2_isLong 4 = .ok (.iload_n 1, 1) := by decide +kernel
theorem dX2_isLong_5 : decode cX2_isLong 5 = .ok (.iconst 2, 1) := by decide +kernel
theorem dX2_isLong_6 : decode cX2_isLong 6 = .ok (.if_icmp .ne 7, 3) := by decide +kernel
theorem dX2_isLong_9 : decode cX2_isLong 9 = .ok (.iconst 1, 1) := by decide +kernel
theorem dX2_isLong_10 : decode cX2_isLong 10 = .ok (.goto 4, 3) := by decide +kernel
theorem dX2_isLong_13 : decode cX2_isLong 13 = .ok (.iconst 0, 1) := by decide +kernel
theorem dX2_isLong_14 : decode cX2_isLong 14 = .ok (.ireturn, 1) := by decide +kernel
theorem dX2_leastRun_0 : decode cX2_leastRun 0 = .ok (.aload_n 0, 1) := by decide +kernel
theorem dX2_leastRun_1 : decode cX2_leastRun 1 = .ok (.iload_n 1, 1) := by decide +kernel
theorem dX2_leastRun_2 : decode cX2_leastRun 2 = .ok (.invokevirtual 109, 3) := by decide +kernel
theorem dX2_leastRun_5 : decode cX2_leastRun 5 = .ok (.ifCond .eq 7, 3) := by decide +kernel
theorem dX2_leastRun_8 : decode cX2_leastRun 8 = .ok (.iconst 3, 1) := by decide +kernel
theorem dX2_leastRun_9 : decode cX2_leastRun 9 = .ok (.goto 4, 3) := by decide +kernel
theorem dX2_leastRun_12 : decode cX2_leastRun 12 = .ok (.iconst 1, 1) := by decide +kernel
theorem dX2_leastRun_13 : decode cX2_leastRun 13 = .ok (.ireturn, 1) := by decide +kernel
theorem dX2_mostRun_0 : decode cX2_mostRun 0 = .ok (.aload_n 0, 1) := by decide +kernel
theorem dX2_mostRun_1 : decode cX2_mostRun 1 = .ok (.iload_n 1, 1) := by decide +kernel
theorem dX2_mostRun_2 : decode cX2_mostRun 2 = .ok (.invokevirtual 109, 3) := by decide +kernel
theorem dX2_mostRun_5 : decode cX2_mostRun 5 = .ok (.ifCond .eq 7, 3) := by decide +kernel
theorem dX2_mostRun_8 : decode cX2_mostRun 8 = .ok (.iconst 5, 1) := by decide +kernel
theorem dX2_mostRun_9 : decode cX2_mostRun 9 = .ok (.goto 4, 3) := by decide +kernel
theorem dX2_mostRun_12 : decode cX2_mostRun 12 = .ok (.iconst 3, 1) := by decide +kernel
theorem dX2_mostRun_13 : decode cX2_mostRun 13 = .ok (.ireturn, 1) := by decide +kernel
theorem dX2_wrongSeat_0 : decode cX2_wrongSeat 0 = .ok (.iload_n 1, 1) := by decide +kernel
theorem dX2_wrongSeat_1 : decode cX2_wrongSeat 1 = .ok (.bipush 8, 2) := by decide +kernel
theorem dX2_wrongSeat_3 : decode cX2_wrongSeat 3 = .ok (.ishr, 1) := by decide +kernel
theorem dX2_wrongSeat_4 : decode cX2_wrongSeat 4 = .ok (.iconst 1, 1) := by decide +kernel
theorem dX2_wrongSeat_5 : decode cX2_wrongSeat 5 = .ok (.iand, 1) := by decide +kernel
theorem dX2_wrongSeat_6 : decode cX2_wrongSeat 6 = .ok (.ifCond .eq 7, 3) := by decide +kernel
theorem dX2_wrongSeat_9 : decode cX2_wrongSeat 9 = .ok (.iconst 1, 1) := by decide +kernel
theorem dX2_wrongSeat_10 : decode cX2_wrongSeat 10 = .ok (.goto 4, 3) := by decide +kernel
theorem dX2_wrongSeat_13 : decode cX2_wrongSeat 13 = .ok (.iconst 0, 1) := by decide +kernel
theorem dX2_wrongSeat_14 : decode cX2_wrongSeat 14 = .ok (.istore_n 3, 1) := by decide +kernel
theorem dX2_wrongSeat_15 : decode cX2_wrongSeat 15 = .ok (.iload_n 1, 1) := by decide +kernel
theorem dX2_wrongSeat_16 : decode cX2_wrongSeat 16 = .ok (.bipush 9, 2) := by decide +kernel
theorem dX2_wrongSeat_18 : decode cX2_wrongSeat 18 = .ok (.ishr, 1) := by decide +kernel
theorem dX2_wrongSeat_19 : decode cX2_wrongSeat 19 = .ok (.iconst 1, 1) := by decide +kernel
theorem dX2_wrongSeat_20 : decode cX2_wrongSeat 20 = .ok (.iand, 1) := by decide +kernel
theorem dX2_wrongSeat_21 : decode cX2_wrongSeat 21 = .ok (.ifCond .eq 7, 3) := by decide +kernel
theorem dX2_wrongSeat_24 : decode cX2_wrongSeat 24 = .ok (.iconst 1, 1) := by decide +kernel
theorem dX2_wrongSeat_25 : decode cX2_wrongSeat 25 = .ok (.goto 4, 3) := by decide +kernel
theorem dX2_wrongSeat_28 : decode cX2_wrongSeat 28 = .ok (.iconst 0, 1) := by decide +kernel
theorem dX2_wrongSeat_29 : decode cX2_wrongSeat 29 = .ok (.istore 4, 2) := by decide +kernel
theorem dX2_wrongSeat_31 : decode cX2_wrongSeat 31 = .ok (.iload_n 3, 1) := by decide +kernel
theorem dX2_wrongSeat_32 : decode cX2_wrongSeat 32 = .ok (.iload_n 2, 1) := by decide +kernel
theorem dX2_wrongSeat_33 : decode cX2_wrongSeat 33 = .ok (.iconst 1, 1) := by decide +kernel
theorem dX2_wrongSeat_34 : decode cX2_wrongSeat 34 = .ok (.if_icmp .ne 7, 3) := by decide +kernel
theorem dX2_wrongSeat_37 : decode cX2_wrongSeat 37 = .ok (.iconst 1, 1) := by decide +kernel
theorem dX2_wrongSeat_38 : decode cX2_wrongSeat 38 = .ok (.goto 4, 3) := by decide +kernel
theorem dX2_wrongSeat_41 : decode cX2_wrongSeat 41 = .ok (.iconst 0, 1) := by decide +kernel
theorem dX2_wrongSeat_42 : decode cX2_wrongSeat 42 = .ok (.if_icmp .eq 5, 3) := by decide +kernel
theorem dX2_wrongSeat_45 : decode cX2_wrongSeat 45 = .ok (.iconst 1, 1) := by decide +kernel
theorem dX2_wrongSeat_46 : decode cX2_wrongSeat 46 = .ok (.ireturn, 1) := by decide +kernel
theorem dX2_wrongSeat_47 : decode cX2_wrongSeat 47 = .ok (.iload 4, 2) := by decide +kernel
theorem dX2_wrongSeat_49 : decode cX2_wrongSeat 49 = .ok (.iload_n 2, 1) := by decide +kernel
theorem dX2_wrongSeat_50 : decode cX2_wrongSeat 50 = .ok (.iconst 2, 1) := by decide +kernel
theorem dX2_wrongSeat_51 : decode cX2_wrongSeat 51 = .ok (.if_icmp .ne 7, 3) := by decide +kernel
theorem dX2_wrongSeat_54 : decode cX2_wrongSeat 54 = .ok (.iconst 1, 1) := by decide +kernel
theorem dX2_wrongSeat_55 : decode cX2_wrongSeat 55 = .ok (.goto 4, 3) := by decide +kernel
theorem dX2_wrongSeat_58 : decode cX2_wrongSeat 58 = .ok (.iconst 0, 1) := by decide +kernel
theorem dX2_wrongSeat_59 : decode cX2_wrongSeat 59 = .ok (.if_icmp .eq 7, 3) := by decide +kernel
theorem dX2_wrongSeat_62 : decode cX2_wrongSeat 62 = .ok (.iconst 2, 1) := by decide +kernel
theorem dX2_wrongSeat_63 : decode cX2_wrongSeat 63 = .ok (.goto 4, 3) := by decide +kernel
theorem dX2_wrongSeat_66 : decode cX2_wrongSeat 66 = .ok (.iconst (-1), 1) := by decide +kernel
theorem dX2_wrongSeat_67 : decode cX2_wrongSeat 67 = .ok (.ireturn, 1) := by decide +kernel
theorem dX3_init_0 : decode cX3_init 0 = .ok (.aload_n 0, 1) := by decide +kernel
theorem dX3_init_1 : decode cX3_init 1 = .ok (.invokespecial 3, 3) := by decide +kernel
theorem dX3_init_4 : decode cX3_init 4 = .ok (.aload_n 0, 1) := by decide +kernel
theorem dX3_init_5 : decode cX3_init 5 = .ok (.bipush 36, 2) := by decide +kernel
theorem dX3_init_7 : decode cX3_init 7 = .ok (.bipush 6, 2) := by decide +kernel
theorem dX3_init_9 : decode cX3_init 9 = .ok (.multianewarray 9 2, 4) := by decide +kernel
theorem dX3_init_13 : decode cX3_init 13 = .ok (.putfield 11, 3) := by decide +kernel
theorem dX3_init_16 : decode cX3_init 16 = .ok (.return_, 1) := by decide +kernel
theorem dX3_put_0 : decode cX3_put 0 = .ok (.aload_n 0, 1) := by decide +kernel
theorem dX3_put_1 : decode cX3_put 1 = .ok (.iload_n 1, 1) := by decide +kernel
theorem dX3_put_2 : decode cX3_put 2 = .ok (.iload_n 2, 1) := by decide +kernel
theorem dX3_put_3 : decode cX3_put 3 = .ok (.invokevirtual 16, 3) := by decide +kernel
theorem dX3_put_6 : decode cX3_put 6 = .ok (.ifCond .eq 12, 3) := by decide +kernel
theorem dX3_put_9 : decode cX3_put 9 = .ok (.aload_n 0, 1) := by decide +kernel
theorem dX3_put_10 : decode cX3_put 10 = .ok (.getfield 11, 3) := by decide +kernel
theorem dX3_put_13 : decode cX3_put 13 = .ok (.iload_n 1, 1) := by decide +kernel
theorem dX3_put_14 : decode cX3_put 14 = .ok (.aaload, 1) := by decide +kernel
theorem dX3_put_15 : decode cX3_put 15 = .ok (.iload_n 2, 1) := by decide +kernel
theorem dX3_put_16 : decode cX3_put 16 = .ok (.iload_n 3, 1) := by decide +kernel
theorem dX3_put_17 : decode cX3_put 17 = .ok (.iastore, 1) := by decide +kernel
theorem dX3_put_18 : decode cX3_put 18 = .ok (.return_, 1) := by decide +kernel
theorem dX3_wordOrNone_0 : decode cX3_wordOrNone 0 = .ok (.aload_n 0, 1) := by decide +kernel
theorem dX3_wordOrNone_1 : decode cX3_wordOrNone 1 = .ok (.iload_n 1, 1) := by decide +kernel
theorem dX3_wordOrNone_2 : decode cX3_wordOrNone 2 = .ok (.iload_n 2, 1) := by decide +kernel
theorem dX3_wordOrNone_3 : decode cX3_wordOrNone 3 = .ok (.invokevirtual 16, 3) := by decide +kernel
theorem dX3_wordOrNone_6 : decode cX3_wordOrNone 6 = .ok (.ifCond .eq 14, 3) := by decide +kernel
theorem dX3_wordOrNone_9 : decode cX3_wordOrNone 9 = .ok (.aload_n 0, 1) := by decide +kernel
theorem dX3_wordOrNone_10 : decode cX3_wordOrNone 10 = .ok (.getfield 11, 3) := by decide +kernel
theorem dX3_wordOrNone_13 : decode cX3_wordOrNone 13 = .ok (.iload_n 1, 1) := by decide +kernel
theorem dX3_wordOrNone_14 : decode cX3_wordOrNone 14 = .ok (.aaload, 1) := by decide +kernel
theorem dX3_wordOrNone_15 : decode cX3_wordOrNone 15 = .ok (.iload_n 2, 1) := by decide +kernel
theorem dX3_wordOrNone_16 : decode cX3_wordOrNone 16 = .ok (.iaload, 1) := by decide +kernel
theorem dX3_wordOrNone_17 : decode cX3_wordOrNone 17 = .ok (.goto 4, 3) := by decide +kernel
theorem dX3_wordOrNone_20 : decode cX3_wordOrNone 20 = .ok (.iconst (-1), 1) := by decide +kernel
theorem dX3_wordOrNone_21 : decode cX3_wordOrNone 21 = .ok (.ireturn, 1) := by decide +kernel
theorem dX3_isOnSheet_0 : decode cX3_isOnSheet 0 = .ok (.iload_n 1, 1) := by decide +kernel
theorem dX3_isOnSheet_1 : decode cX3_isOnSheet 1 = .ok (.ifCond .lt 23, 3) := by decide +kernel
theorem dX3_isOnSheet_4 : decode cX3_isOnSheet 4 = .ok (.iload_n 1, 1) := by decide +kernel
theorem dX3_isOnSheet_5 : decode cX3_isOnSheet 5 = .ok (.bipush 36, 2) := by decide +kernel
theorem dX3_isOnSheet_7 : decode cX3_isOnSheet 7 = .ok (.if_icmp .ge 17, 3) := by decide +kernel
theorem dX3_isOnSheet_10 : decode cX3_isOnSheet 10 = .ok (.iload_n 2, 1) := by decide +kernel
theorem dX3_isOnSheet_11 : decode cX3_isOnSheet 11 = .ok (.ifCond .lt 13, 3) := by decide +kernel
theorem dX3_isOnSheet_14 : decode cX3_isOnSheet 14 = .ok (.iload_n 2, 1) := by decide +kernel
theorem dX3_isOnSheet_15 : decode cX3_isOnSheet 15 = .ok (.bipush 6, 2) := by decide +kernel
theorem dX3_isOnSheet_17 : decode cX3_isOnSheet 17 = .ok (.if_icmp .ge 7, 3) := by decide +kernel
theorem dX3_isOnSheet_20 : decode cX3_isOnSheet 20 = .ok (.iconst 1, 1) := by decide +kernel
theorem dX3_isOnSheet_21 : decode cX3_isOnSheet 21 = .ok (.goto 4, 3) := by decide +kernel
theorem dX3_isOnSheet_24 : decode cX3_isOnSheet 24 = .ok (.iconst 0, 1) := by decide +kernel
theorem dX3_isOnSheet_25 : decode cX3_isOnSheet 25 = .ok (.ireturn, 1) := by decide +kernel
theorem dX4_init_0 : decode cX4_init 0 = .ok (.aload_n 0, 1) := by decide +kernel
theorem dX4_init_1 : decode cX4_init 1 = .ok (.invokespecial 3, 3) := by decide +kernel
theorem dX4_init_4 : decode cX4_init 4 = .ok (.aload_n 0, 1) := by decide +kernel
theorem dX4_init_5 : decode cX4_init 5 = .ok (.bipush 40, 2) := by decide +kernel
theorem dX4_init_7 : decode cX4_init 7 = .ok (.newarray .int, 2) := by decide +kernel
theorem dX4_init_9 : decode cX4_init 9 = .ok (.putfield 9, 3) := by decide +kernel
theorem dX4_init_12 : decode cX4_init 12 = .ok (.aload_n 0, 1) := by decide +kernel
theorem dX4_init_13 : decode cX4_init 13 = .ok (.bipush 40, 2) := by decide +kernel
theorem dX4_init_15 : decode cX4_init 15 = .ok (.newarray .int, 2) := by decide +kernel
theorem dX4_init_17 : decode cX4_init 17 = .ok (.putfield 15, 3) := by decide +kernel
theorem dX4_init_20 : decode cX4_init 20 = .ok (.aload_n 0, 1) := by decide +kernel
theorem dX4_init_21 : decode cX4_init 21 = .ok (.bipush 40, 2) := by decide +kernel
theorem dX4_init_23 : decode cX4_init 23 = .ok (.newarray .int, 2) := by decide +kernel
theorem dX4_init_25 : decode cX4_init 25 = .ok (.putfield 18, 3) := by decide +kernel
theorem dX4_init_28 : decode cX4_init 28 = .ok (.aload_n 0, 1) := by decide +kernel
theorem dX4_init_29 : decode cX4_init 29 = .ok (.bipush 40, 2) := by decide +kernel
theorem dX4_init_31 : decode cX4_init 31 = .ok (.newarray .long, 2) := by decide +kernel
theorem dX4_init_33 : decode cX4_init 33 = .ok (.putfield 21, 3) := by decide +kernel
theorem dX4_init_36 : decode cX4_init 36 = .ok (.return_, 1) := by decide +kernel
theorem dX4_has_0 : decode cX4_has 0 = .ok (.iload_n 1, 1) := by decide +kernel
theorem dX4_has_1 : decode cX4_has 1 = .ok (.ifCond .lt 15, 3) := by decide +kernel
theorem dX4_has_4 : decode cX4_has 4 = .ok (.iload_n 1, 1) := by decide +kernel
theorem dX4_has_5 : decode cX4_has 5 = .ok (.aload_n 0, 1) := by decide +kernel
theorem dX4_has_6 : decode cX4_has 6 = .ok (.getfield 25, 3) := by decide +kernel
theorem dX4_has_9 : decode cX4_has 9 = .ok (.if_icmp .ge 7, 3) := by decide +kernel
theorem dX4_has_12 : decode cX4_has 12 = .ok (.iconst 1, 1) := by decide +kernel
theorem dX4_has_13 : decode cX4_has 13 = .ok (.goto 4, 3) := by decide +kernel
theorem dX4_has_16 : decode cX4_has 16 = .ok (.iconst 0, 1) := by decide +kernel
theorem dX4_has_17 : decode cX4_has 17 = .ok (.ireturn, 1) := by decide +kernel
theorem dX4_isFull_0 : decode cX4_isFull 0 = .ok (.aload_n 0, 1) := by decide +kernel
theorem dX4_isFull_1 : decode cX4_isFull 1 = .ok (.getfield 25, 3) := by decide +kernel
theorem dX4_isFull_4 : decode cX4_isFull 4 = .ok (.bipush 40, 2) := by decide +kernel
theorem dX4_isFull_6 : decode cX4_isFull 6 = .ok (.if_icmp .lt 7, 3) := by decide +kernel
theorem dX4_isFull_9 : decode cX4_isFull 9 = .ok (.iconst 1, 1) := by decide +kernel
theorem dX4_isFull_10 : decode cX4_isFull 10 = .ok (.goto 4, 3) := by decide +kernel
theorem dX4_isFull_13 : decode cX4_isFull 13 = .ok (.iconst 0, 1) := by decide +kernel
theorem dX4_isFull_14 : decode cX4_isFull 14 = .ok (.ireturn, 1) := by decide +kernel
theorem dX4_put_0 : decode cX4_put 0 = .ok (.aload_n 0, 1) := by decide +kernel
theorem dX4_put_1 : decode cX4_put 1 = .ok (.invokevirtual 29, 3) := by decide +kernel
theorem dX4_put_4 : decode cX4_put 4 = .ok (.ifCond .eq 5, 3) := by decide +kernel
theorem dX4_put_7 : decode cX4_put 7 = .ok (.iconst (-1), 1) := by decide +kernel
theorem dX4_put_8 : decode cX4_put 8 = .ok (.ireturn, 1) := by decide +kernel
theorem dX4_put_9 : decode cX4_put 9 = .ok (.aload_n 0, 1) := by decide +kernel
theorem dX4_put_10 : decode cX4_put 10 = .ok (.getfield 9, 3) := by decide +kernel
theorem dX4_put_13 : decode cX4_put 13 = .ok (.aload_n 0, 1) := by decide +kernel
theorem dX4_put_14 : decode cX4_put 14 = .ok (.getfield 25, 3) := by decide +kernel
theorem dX4_put_17 : decode cX4_put 17 = .ok (.iload_n 1, 1) := by decide +kernel
theorem dX4_put_18 : decode cX4_put 18 = .ok (.iastore, 1) := by decide +kernel
theorem dX4_put_19 : decode cX4_put 19 = .ok (.aload_n 0, 1) := by decide +kernel
theorem dX4_put_20 : decode cX4_put 20 = .ok (.getfield 15, 3) := by decide +kernel
theorem dX4_put_23 : decode cX4_put 23 = .ok (.aload_n 0, 1) := by decide +kernel
theorem dX4_put_24 : decode cX4_put 24 = .ok (.getfield 25, 3) := by decide +kernel
theorem dX4_put_27 : decode cX4_put 27 = .ok (.iload_n 2, 1) := by decide +kernel
theorem dX4_put_28 : decode cX4_put 28 = .ok (.iastore, 1) := by decide +kernel
theorem dX4_put_29 : decode cX4_put 29 = .ok (.aload_n 0, 1) := by decide +kernel
theorem dX4_put_30 : decode cX4_put 30 = .ok (.getfield 18, 3) := by decide +kernel
theorem dX4_put_33 : decode cX4_put 33 = .ok (.aload_n 0, 1) := by decide +kernel
theorem dX4_put_34 : decode cX4_put 34 = .ok (.getfield 25, 3) := by decide +kernel
theorem dX4_put_37 : decode cX4_put 37 = .ok (.iload_n 3, 1) := by decide +kernel
theorem dX4_put_38 : decode cX4_put 38 = .ok (.iastore, 1) := by decide +kernel
theorem dX4_put_39 : decode cX4_put 39 = .ok (.aload_n 0, 1) := by decide +kernel
theorem dX4_put_40 : decode cX4_put 40 = .ok (.dup, 1) := by decide +kernel
theorem dX4_put_41 : decode cX4_put 41 = .ok (.getfield 25, 3) := by decide +kernel
theorem dX4_put_44 : decode cX4_put 44 = .ok (.iconst 1, 1) := by decide +kernel
theorem dX4_put_45 : decode cX4_put 45 = .ok (.iadd, 1) := by decide +kernel
theorem dX4_put_46 : decode cX4_put 46 = .ok (.putfield 25, 3) := by decide +kernel
theorem dX4_put_49 : decode cX4_put 49 = .ok (.aload_n 0, 1) := by decide +kernel
theorem dX4_put_50 : decode cX4_put 50 = .ok (.getfield 25, 3) := by decide +kernel
theorem dX4_put_53 : decode cX4_put 53 = .ok (.iconst 1, 1) := by decide +kernel
theorem dX4_put_54 : decode cX4_put 54 = .ok (.isub, 1) := by decide +kernel
theorem dX4_put_55 : decode cX4_put 55 = .ok (.ireturn, 1) := by decide +kernel
theorem dX4_bind_0 : decode cX4_bind 0 = .ok (.aload_n 0, 1) := by decide +kernel
theorem dX4_bind_1 : decode cX4_bind 1 = .ok (.iload_n 1, 1) := by decide +kernel
theorem dX4_bind_2 : decode cX4_bind 2 = .ok (.invokevirtual 33, 3) := by decide +kernel
theorem dX4_bind_5 : decode cX4_bind 5 = .ok (.ifCond .eq 11, 3) := by decide +kernel
theorem dX4_bind_8 : decode cX4_bind 8 = .ok (.aload_n 0, 1) := by decide +kernel
theorem dX4_bind_9 : decode cX4_bind 9 = .ok (.iload_n 2, 1) := by decide +kernel
theorem dX4_bind_10 : decode cX4_bind 10 = .ok (.invokevirtual 33, 3) := by decide +kernel
theorem dX4_bind_13 : decode cX4_bind 13 = .ok (.ifCond .ne 5, 3) := by decide +kernel
theorem dX4_bind_16 : decode cX4_bind 16 = .ok (.iconst 0, 1) := by decide +kernel
theorem dX4_bind_17 : decode cX4_bind 17 = .ok (.ireturn, 1) := by decide +kernel
theorem dX4_bind_18 : decode cX4_bind 18 = .ok (.aload_n 0, 1) := by decide +kernel
theorem dX4_bind_19 : decode cX4_bind 19 = .ok (.getfield 21, 3) := by decide +kernel
theorem dX4_bind_22 : decode cX4_bind 22 = .ok (.iload_n 1, 1) := by decide +kernel
theorem dX4_bind_23 : decode cX4_bind 23 = .ok (.laload, 1) := by decide +kernel
theorem dX4_bind_24 : decode cX4_bind 24 = .ok (.iload_n 2, 1) := by decide +kernel
theorem dX4_bind_25 : decode cX4_bind 25 = .ok (.lshr, 1) := by decide +kernel
theorem dX4_bind_26 : decode cX4_bind 26 = .ok (.lconst 1, 1) := by decide +kernel
theorem dX4_bind_27 : decode cX4_bind 27 = .ok (.land, 1) := by decide +kernel
theorem dX4_bind_28 : decode cX4_bind 28 = .ok (.lconst 0, 1) := by decide +kernel
theorem dX4_bind_29 : decode cX4_bind 29 = .ok (.lcmp, 1) := by decide +kernel
theorem dX4_bind_30 : decode cX4_bind 30 = .ok (.ifCond .eq 7, 3) := by decide +kernel
theorem dX4_bind_33 : decode cX4_bind 33 = .ok (.iconst 1, 1) := by decide +kernel
theorem dX4_bind_34 : decode cX4_bind 34 = .ok (.goto 4, 3) := by decide +kernel
theorem dX4_bind_37 : decode cX4_bind 37 = .ok (.iconst 0, 1) := by decide +kernel
theorem dX4_bind_38 : decode cX4_bind 38 = .ok (.istore_n 3, 1) := by decide +kernel
theorem dX4_bind_39 : decode cX4_bind 39 = .ok (.aload_n 0, 1) := by decide +kernel
theorem dX4_bind_40 : decode cX4_bind 40 = .ok (.getfield 21, 3) := by decide +kernel
theorem dX4_bind_43 : decode cX4_bind 43 = .ok (.iload_n 1, 1) := by decide +kernel
theorem dX4_bind_44 : decode cX4_bind 44 = .ok (.dup2, 1) := by decide +kernel
theorem dX4_bind_45 : decode cX4_bind 45 = .ok (.laload, 1) := by decide +kernel
theorem dX4_bind_46 : decode cX4_bind 46 = .ok (.lconst 1, 1) := by decide +kernel
theorem dX4_bind_47 : decode cX4_bind 47 = .ok (.iload_n 2, 1) := by decide +kernel
theorem dX4_bind_48 : decode cX4_bind 48 = .ok (.lshl, 1) := by decide +kernel
theorem dX4_bind_49 : decode cX4_bind 49 = .ok (.lor, 1) := by decide +kernel
theorem dX4_bind_50 : decode cX4_bind 50 = .ok (.lastore, 1) := by decide +kernel
theorem dX4_bind_51 : decode cX4_bind 51 = .ok (.aload_n 0, 1) := by decide +kernel
theorem dX4_bind_52 : decode cX4_bind 52 = .ok (.getfield 21, 3) := by decide +kernel
theorem dX4_bind_55 : decode cX4_bind 55 = .ok (.iload_n 2, 1) := by decide +kernel
theorem dX4_bind_56 : decode cX4_bind 56 = .ok (.dup2, 1) := by decide +kernel
theorem dX4_bind_57 : decode cX4_bind 57 = .ok (.laload, 1) := by decide +kernel
theorem dX4_bind_58 : decode cX4_bind 58 = .ok (.lconst 1, 1) := by decide +kernel
theorem dX4_bind_59 : decode cX4_bind 59 = .ok (.iload_n 1, 1) := by decide +kernel
theorem dX4_bind_60 : decode cX4_bind 60 = .ok (.lshl, 1) := by decide +kernel
theorem dX4_bind_61 : decode cX4_bind 61 = .ok (.lor, 1) := by decide +kernel
theorem dX4_bind_62 : decode cX4_bind 62 = .ok (.lastore, 1) := by decide +kernel
theorem dX4_bind_63 : decode cX4_bind 63 = .ok (.iload_n 3, 1) := by decide +kernel
theorem dX4_bind_64 : decode cX4_bind 64 = .ok (.ireturn, 1) := by decide +kernel
theorem dX4_soundsOf_0 : decode cX4_soundsOf 0 = .ok (.aload_n 0, 1) := by decide +kernel
theorem dX4_soundsOf_1 : decode cX4_soundsOf 1 = .ok (.iload_n 1, 1) := by decide +kernel
theorem dX4_soundsOf_2 : decode cX4_soundsOf 2 = .ok (.invokevirtual 33, 3) := by decide +kernel
theorem dX4_soundsOf_5 : decode cX4_soundsOf 5 = .ok (.ifCond .eq 12, 3) := by decide +kernel
theorem dX4_soundsOf_8 : decode cX4_soundsOf 8 = .ok (.aload_n 0, 1) := by decide +kernel
theorem dX4_soundsOf_9 : decode cX4_soundsOf 9 = .ok (.getfield 9, 3) := by decide +kernel
theorem dX4_soundsOf_12 : decode cX4_soundsOf 12 = .ok (.iload_n 1, 1) := by decide +kernel
theorem dX4_soundsOf_13 : decode cX4_soundsOf 13 = .ok (.iaload, 1) := by decide +kernel
theorem dX4_soundsOf_14 : decode cX4_soundsOf 14 = .ok (.goto 4, 3) := by decide +kernel
theorem dX4_soundsOf_17 : decode cX4_soundsOf 17 = .ok (.iconst 0, 1) := by decide +kernel
theorem dX4_soundsOf_18 : decode cX4_soundsOf 18 = .ok (.ireturn, 1) := by decide +kernel
theorem dX4_seasonOf_0 : decode cX4_seasonOf 0 = .ok (.aload_n 0, 1) := by decide +kernel
theorem dX4_seasonOf_1 : decode cX4_seasonOf 1 = .ok (.iload_n 1, 1) := by decide +kernel
theorem dX4_seasonOf_2 : decode cX4_seasonOf 2 = .ok (.invokevirtual 33, 3) := by decide +kernel
theorem dX4_seasonOf_5 : decode cX4_seasonOf 5 = .ok (.ifCond .eq 12, 3) := by decide +kernel
theorem dX4_seasonOf_8 : decode cX4_seasonOf 8 = .ok (.aload_n 0, 1) := by decide +kernel
theorem dX4_seasonOf_9 : decode cX4_seasonOf 9 = .ok (.getfield 15, 3) := by decide +kernel
theorem dX4_seasonOf_12 : decode cX4_seasonOf 12 = .ok (.iload_n 1, 1) := by decide +kernel
theorem dX4_seasonOf_13 : decode cX4_seasonOf 13 = .ok (.iaload, 1) := by decide +kernel
theorem dX4_seasonOf_14 : decode cX4_seasonOf 14 = .ok (.goto 4, 3) := by decide +kernel
theorem dX4_seasonOf_17 : decode cX4_seasonOf 17 = .ok (.iconst (-1), 1) := by decide +kernel
theorem dX4_seasonOf_18 : decode cX4_seasonOf 18 = .ok (.ireturn, 1) := by decide +kernel
theorem dX4_signsOf_0 : decode cX4_signsOf 0 = .ok (.aload_n 0, 1) := by decide +kernel
theorem dX4_signsOf_1 : decode cX4_signsOf 1 = .ok (.iload_n 1, 1) := by decide +kernel
theorem dX4_signsOf_2 : decode cX4_signsOf 2 = .ok (.invokevirtual 33, 3) := by decide +kernel
theorem dX4_signsOf_5 : decode cX4_signsOf 5 = .ok (.ifCond .eq 12, 3) := by decide +kernel
theorem dX4_signsOf_8 : decode cX4_signsOf 8 = .ok (.aload_n 0, 1) := by decide +kernel
theorem dX4_signsOf_9 : decode cX4_signsOf 9 = .ok (.getfield 18, 3) := by decide +kernel
theorem dX4_signsOf_12 : decode cX4_signsOf 12 = .ok (.iload_n 1, 1) := by decide +kernel
theorem dX4_signsOf_13 : decode cX4_signsOf 13 = .ok (.iaload, 1) := by decide +kernel
theorem dX4_signsOf_14 : decode cX4_signsOf 14 = .ok (.goto 4, 3) := by decide +kernel
theorem dX4_signsOf_17 : decode cX4_signsOf 17 = .ok (.iconst 0, 1) := by decide +kernel
theorem dX4_signsOf_18 : decode cX4_signsOf 18 = .ok (.ireturn, 1) := by decide +kernel
theorem dX4_calledBy_0 : decode cX4_calledBy 0 = .ok (.aload_n 0, 1) := by decide +kernel
theorem dX4_calledBy_1 : decode cX4_calledBy 1 = .ok (.iload_n 1, 1) := by decide +kernel
theorem dX4_calledBy_2 : decode cX4_calledBy 2 = .ok (.invokevirtual 33, 3) := by decide +kernel
theorem dX4_calledBy_5 : decode cX4_calledBy 5 = .ok (.ifCond .eq 12, 3) := by decide +kernel
theorem dX4_calledBy_8 : decode cX4_calledBy 8 = .ok (.aload_n 0, 1) := by decide +kernel
theorem dX4_calledBy_9 : decode cX4_calledBy 9 = .ok (.getfield 21, 3) := by decide +kernel
theorem dX4_calledBy_12 : decode cX4_calledBy 12 = .ok (.iload_n 1, 1) := by decide +kernel
theorem dX4_calledBy_13 : decode cX4_calledBy 13 = .ok (.laload, 1) := by decide +kernel
theorem dX4_calledBy_14 : decode cX4_calledBy 14 = .ok (.goto 4, 3) := by decide +kernel
theorem dX4_calledBy_17 : decode cX4_calledBy 17 = .ok (.lconst 0, 1) := by decide +kernel
theorem dX4_calledBy_18 : decode cX4_calledBy 18 = .ok (.lreturn, 1) := by decide +kernel
theorem dX5_init_0 : decode cX5_init 0 = .ok (.aload_n 0, 1) := by decide +kernel
theorem dX5_init_1 : decode cX5_init 1 = .ok (.invokespecial 3, 3) := by decide +kernel
theorem dX5_init_4 : decode cX5_init 4 = .ok (.aload_n 0, 1) := by decide +kernel
theorem dX5_init_5 : decode cX5_init 5 = .ok (.bipush 6, 2) := by decide +kernel
theorem dX5_init_7 : decode cX5_init 7 = .ok (.newarray .int, 2) := by decide +kernel
theorem dX5_init_9 : decode cX5_init 9 = .ok (.putfield 9, 3) := by decide +kernel
theorem dX5_init_12 : decode cX5_init 12 = .ok (.aload_n 0, 1) := by decide +kernel
theorem dX5_init_13 : decode cX5_init 13 = .ok (.iconst (-1), 1) := by decide +kernel
theorem dX5_init_14 : decode cX5_init 14 = .ok (.putfield 15, 3) := by decide +kernel
theorem dX5_init_17 : decode cX5_init 17 = .ok (.return_, 1) := by decide +kernel
theorem dX5_empty_0 : decode cX5_empty 0 = .ok (.aload_n 0, 1) := by decide +kernel
theorem dX5_empty_1 : decode cX5_empty 1 = .ok (.iconst 0, 1) := by decide +kernel
theorem dX5_empty_2 : decode cX5_empty 2 = .ok (.putfield 19, 3) := by decide +kernel
theorem dX5_empty_5 : decode cX5_empty 5 = .ok (.aload_n 0, 1) := by decide +kernel
theorem dX5_empty_6 : decode cX5_empty 6 = .ok (.iconst 0, 1) := by decide +kernel
theorem dX5_empty_7 : decode cX5_empty 7 = .ok (.putfield 22, 3) := by decide +kernel
theorem dX5_empty_10 : decode cX5_empty 10 = .ok (.aload_n 0, 1) := by decide +kernel
theorem dX5_empty_11 : decode cX5_empty 11 = .ok (.iconst (-1), 1) := by decide +kernel
theorem dX5_empty_12 : decode cX5_empty 12 = .ok (.putfield 15, 3) := by decide +kernel
theorem dX5_empty_15 : decode cX5_empty 15 = .ok (.aload_n 0, 1) := by decide +kernel
theorem dX5_empty_16 : decode cX5_empty 16 = .ok (.iconst 0, 1) := by decide +kernel
theorem dX5_empty_17 : decode cX5_empty 17 = .ok (.putfield 25, 3) := by decide +kernel
theorem dX5_empty_20 : decode cX5_empty 20 = .ok (.aload_n 0, 1) := by decide +kernel
theorem dX5_empty_21 : decode cX5_empty 21 = .ok (.lconst 0, 1) := by decide +kernel
theorem dX5_empty_22 : decode cX5_empty 22 = .ok (.putfield 28, 3) := by decide +kernel
theorem dX5_empty_25 : decode cX5_empty 25 = .ok (.return_, 1) := by decide +kernel
theorem dX5_append_0 : decode cX5_append 0 = .ok (.aload_n 0, 1) := by decide +kernel
theorem dX5_append_1 : decode cX5_append 1 = .ok (.getfield 19, 3) := by decide +kernel
theorem dX5_append_4 : decode cX5_append 4 = .ok (.bipush 6, 2) := by decide +kernel
theorem dX5_append_6 : decode cX5_append 6 = .ok (.if_icmp .ge 11, 3) := by decide +kernel
theorem dX5_append_9 : decode cX5_append 9 = .ok (.aload_n 2, 1) := by decide +kernel
theorem dX5_append_10 : decode cX5_append 10 = .ok (.iload_n 1, 1) := by decide +kernel
theorem dX5_append_11 : decode cX5_append 11 = .ok (.invokevirtual 32, 3) := by decide +kernel
theorem dX5_append_14 : decode cX5_append 14 = .ok (.ifCond .ne 4, 3) := by decide +kernel
theorem dX5_append_17 : decode cX5_append 17 = .ok (.return_, 1) := by decide +kernel
theorem dX5_append_18 : decode cX5_append 18 = .ok (.aload_n 0, 1) := by decide +kernel
theorem dX5_append_19 : decode cX5_append 19 = .ok (.getfield 9, 3) := by decide +kernel
theorem dX5_append_22 : decode cX5_append 22 = .ok (.aload_n 0, 1) := by decide +kernel
theorem dX5_append_23 : decode cX5_append 23 = .ok (.getfield 19, 3) := by decide +kernel
theorem dX5_append_26 : decode cX5_append 26 = .ok (.iload_n 1, 1) := by decide +kernel
theorem dX5_append_27 : decode cX5_append 27 = .ok (.iastore, 1) := by decide +kernel
theorem dX5_append_28 : decode cX5_append 28 = .ok (.aload_n 0, 1) := by decide +kernel
theorem dX5_append_29 : decode cX5_append 29 = .ok (.dup, 1) := by decide +kernel
theorem dX5_append_30 : decode cX5_append 30 = .ok (.getfield 19, 3) := by decide +kernel
theorem dX5_append_33 : decode cX5_append 33 = .ok (.iconst 1, 1) := by decide +kernel
theorem dX5_append_34 : decode cX5_append 34 = .ok (.iadd, 1) := by decide +kernel
theorem dX5_append_35 : decode cX5_append 35 = .ok (.putfield 19, 3) := by decide +kernel
theorem dX5_append_38 : decode cX5_append 38 = .ok (.aload_n 0, 1) := by decide +kernel
theorem dX5_append_39 : decode cX5_append 39 = .ok (.dup, 1) := by decide +kernel
theorem dX5_append_40 : decode cX5_append 40 = .ok (.getfield 22, 3) := by decide +kernel
theorem dX5_append_43 : decode cX5_append 43 = .ok (.aload_n 2, 1) := by decide +kernel
theorem dX5_append_44 : decode cX5_append 44 = .ok (.iload_n 1, 1) := by decide +kernel
theorem dX5_append_45 : decode cX5_append 45 = .ok (.invokevirtual 38, 3) := by decide +kernel
theorem dX5_append_48 : decode cX5_append 48 = .ok (.iadd, 1) := by decide +kernel
theorem dX5_append_49 : decode cX5_append 49 = .ok (.putfield 22, 3) := by decide +kernel
theorem dX5_append_52 : decode cX5_append 52 = .ok (.aload_n 0, 1) := by decide +kernel
theorem dX5_append_53 : decode cX5_append 53 = .ok (.getfield 15, 3) := by decide +kernel
theorem dX5_append_56 : decode cX5_append 56 = .ok (.iconst (-1), 1) := by decide +kernel
theorem dX5_append_57 : decode cX5_append 57 = .ok (.if_icmp .ne 12, 3) := by decide +kernel
theorem dX5_append_60 : decode cX5_append 60 = .ok (.aload_n 0, 1) := by decide +kernel
theorem dX5_append_61 : decode cX5_append 61 = .ok (.aload_n 2, 1) := by decide +kernel
theorem dX5_append_62 : decode cX5_append 62 = .ok (.iload_n 1, 1) := by decide +kernel
theorem dX5_append_63 : decode cX5_append 63 = .ok (.invokevirtual 42, 3) := by decide +kernel
theorem dX5_append_66 : decode cX5_append 66 = .ok (.putfield 15, 3) := by decide +kernel
theorem dX5_append_69 : decode cX5_append 69 = .ok (.aload_n 0, 1) := by decide +kernel
theorem dX5_append_70 : decode cX5_append 70 = .ok (.dup, 1) := by decide +kernel
theorem dX5_append_71 : decode cX5_append 71 = .ok (.getfield 25, 3) := by decide +kernel
theorem dX5_append_74 : decode cX5_append 74 = .ok (.aload_n 2, 1) := by decide +kernel
theorem dX5_append_75 : decode cX5_append 75 = .ok (.iload_n 1, 1) := by decide +kernel
theorem dX5_append_76 : decode cX5_append 76 = .ok (.invokevirtual 45, 3) := by decide +kernel
theorem dX5_append_79 : decode cX5_append 79 = .ok (.ior, 1) := by decide +kernel
theorem dX5_append_80 : decode cX5_append 80 = .ok (.putfield 25, 3) := by decide +kernel
theorem dX5_append_83 : decode cX5_append 83 = .ok (.aload_n 0, 1) := by decide +kernel
theorem dX5_append_84 : decode cX5_append 84 = .ok (.dup, 1) := by decide +kernel
theorem dX5_append_85 : decode cX5_append 85 = .ok (.getfield 28, 3) := by decide +kernel
theorem dX5_append_88 : decode cX5_append 88 = .ok (.lconst 1, 1) := by decide +kernel
theorem dX5_append_89 : decode cX5_append 89 = .ok (.iload_n 1, 1) := by decide +kernel
theorem dX5_append_90 : decode cX5_append 90 = .ok (.lshl, 1) := by decide +kernel
theorem dX5_append_91 : decode cX5_append 91 = .ok (.lor, 1) := by decide +kernel
theorem dX5_append_92 : decode cX5_append 92 = .ok (.putfield 28, 3) := by decide +kernel
theorem dX5_append_95 : decode cX5_append 95 = .ok (.return_, 1) := by decide +kernel
theorem dX5_take_0 : decode cX5_take 0 = .ok (.aload_n 0, 1) := by decide +kernel
theorem dX5_take_1 : decode cX5_take 1 = .ok (.aload_n 1, 1) := by decide +kernel
theorem dX5_take_2 : decode cX5_take 2 = .ok (.iconst (-1), 1) := by decide +kernel
theorem dX5_take_3 : decode cX5_take 3 = .ok (.iconst (-1), 1) := by decide +kernel
theorem dX5_take_4 : decode cX5_take 4 = .ok (.aload_n 2, 1) := by decide +kernel
theorem dX5_take_5 : decode cX5_take 5 = .ok (.invokevirtual 48, 3) := by decide +kernel
theorem dX5_take_8 : decode cX5_take 8 = .ok (.return_, 1) := by decide +kernel
theorem dX5_takeMended_0 : decode cX5_takeMended 0 = .ok (.aload_n 0, 1) := by decide +kernel
theorem dX5_takeMended_1 : decode cX5_takeMended 1 = .ok (.invokevirtual 52, 3) := by decide +kernel
theorem dX5_takeMended_4 : decode cX5_takeMended 4 = .ok (.iconst 0, 1) := by decide +kernel
theorem dX5_takeMended_5 : decode cX5_takeMended 5 = .ok (.istore 5, 2) := by decide +kernel
theorem dX5_takeMended_7 : decode cX5_takeMended 7 = .ok (.iload 5, 2) := by decide +kernel
theorem dX5_takeMended_9 : decode cX5_takeMended 9 = .ok (.aload_n 1, 1) := by decide +kernel
theorem dX5_takeMended_10 : decode cX5_takeMended 10 = .ok (.getfield 19, 3) := by decide +kernel
theorem dX5_takeMended_13 : decode cX5_takeMended 13 = .ok (.if_icmp .ge 31, 3) := by decide +kernel
theorem dX5_takeMended_16 : decode cX5_takeMended 16 = .ok (.aload_n 0, 1) := by decide +kernel
theorem dX5_takeMended_17 : decode cX5_takeMended 17 = .ok (.iload 5, 2) := by decide +kernel
theorem dX5_takeMended_19 : decode cX5_takeMended 19 = .ok (.iload_n 2, 1) := by decide +kernel
theorem dX5_takeMended_20 : decode cX5_takeMended 20 = .ok (.if_icmp .ne 7, 3) := by decide +kernel
theorem dX5_takeMended_23 : decode cX5_takeMended 23 = .ok (.iload_n 3, 1) := by decide +kernel
theorem dX5_takeMended_24 : decode cX5_takeMended 24 = .ok (.goto 9, 3) := by decide +kernel
theorem dX5_takeMended_27 : decode cX5_takeMended 27 = .ok (.aload_n 1, 1) := by decide +kernel
theorem dX5_takeMended_28 : decode cX5_takeMended 28 = .ok (.iload 5, 2) := by decide +kernel
theorem dX5_takeMended_30 : decode cX5_takeMended 30 = .ok (.invokevirtual 55, 3) := by decide +kernel
theorem dX5_takeMended_33 : decode cX5_takeMended 33 = .ok (.aload 4, 2) := by decide +kernel
theorem dX5_takeMended_35 : decode cX5_takeMended 35 = .ok (.invokevirtual 58, 3) := by decide +kernel
theorem dX5_takeMended_38 : decode cX5_takeMended 38 = .ok (.iinc 5 1, 3) := by decide +kernel
theorem dX5_takeMended_41 : decode cX5_takeMended 41 = .ok (.goto (-34), 3) := by decide +kernel
theorem dX5_takeMended_44 : decode cX5_takeMended 44 = .ok (.return_, 1) := by decide +kernel
theorem dX5_wordOrNone_0 : decode cX5_wordOrNone 0 = .ok (.iload_n 1, 1) := by decide +kernel
theorem dX5_wordOrNone_1 : decode cX5_wordOrNone 1 = .ok (.ifCond .lt 26, 3) := by decide +kernel
theorem dX5_wordOrNone_4 : decode cX5_wordOrNone 4 = .ok (.iload_n 1, 1) := by decide +kernel
theorem dX5_wordOrNone_5 : decode cX5_wordOrNone 5 = .ok (.aload_n 0, 1) := by decide +kernel
theorem dX5_wordOrNone_6 : decode cX5_wordOrNone 6 = .ok (.getfield 19, 3) := by decide +kernel
theorem dX5_wordOrNone_9 : decode cX5_wordOrNone 9 = .ok (.if_icmp .ge 18, 3) := by decide +kernel
theorem dX5_wordOrNone_12 : decode cX5_wordOrNone 12 = .ok (.iload_n 1, 1) := by decide +kernel
theorem dX5_wordOrNone_13 : decode cX5_wordOrNone 13 = .ok (.bipush 6, 2) := by decide +kernel
theorem dX5_wordOrNone_15 : decode cX5_wordOrNone 15 = .ok (.if_icmp .ge 12, 3) := by decide +kernel
theorem dX5_wordOrNone_18 : decode cX5_wordOrNone 18 = .ok (.aload_n 0, 1) := by decide +kernel
theorem dX5_wordOrNone_19 : decode cX5_wordOrNone 19 = .ok (.getfield 9, 3) := by decide +kernel
theorem dX5_wordOrNone_22 : decode cX5_wordOrNone 22 = .ok (.iload_n 1, 1) := by decide +kernel
theorem dX5_wordOrNone_23 : decode cX5_wordOrNone 23 = .ok (.iaload, 1) := by decide +kernel
theorem dX5_wordOrNone_24 : decode cX5_wordOrNone 24 = .ok (.goto 4, 3) := by decide +kernel
theorem dX5_wordOrNone_27 : decode cX5_wordOrNone 27 = .ok (.iconst (-1), 1) := by decide +kernel
theorem dX5_wordOrNone_28 : decode cX5_wordOrNone 28 = .ok (.ireturn, 1) := by decide +kernel
theorem dX6_init_0 : decode cX6_init 0 = .ok (.aload_n 0, 1) := by decide +kernel
theorem dX6_init_1 : decode cX6_init 1 = .ok (.invokespecial 1, 3) := by decide +kernel
theorem dX6_init_4 : decode cX6_init 4 = .ok (.new 7, 3) := by decide +kernel
theorem dX6_init_7 : decode cX6_init 7 = .ok (.dup, 1) := by decide +kernel
theorem dX6_init_8 : decode cX6_init 8 = .ok (.invokespecial 9, 3) := by decide +kernel
theorem dX6_init_11 : decode cX6_init 11 = .ok (.astore_n 1, 1) := by decide +kernel
theorem dX6_init_12 : decode cX6_init 12 = .ok (.new 10, 3) := by decide +kernel
theorem dX6_init_15 : decode cX6_init 15 = .ok (.dup, 1) := by decide +kernel
theorem dX6_init_16 : decode cX6_init 16 = .ok (.invokespecial 12, 3) := by decide +kernel
theorem dX6_init_19 : decode cX6_init 19 = .ok (.astore_n 2, 1) := by decide +kernel
theorem dX6_init_20 : decode cX6_init 20 = .ok (.aload_n 0, 1) := by decide +kernel
theorem dX6_init_21 : decode cX6_init 21 = .ok (.aload_n 1, 1) := by decide +kernel
theorem dX6_init_22 : decode cX6_init 22 = .ok (.putfield 13, 3) := by decide +kernel
theorem dX6_init_25 : decode cX6_init 25 = .ok (.aload_n 0, 1) := by decide +kernel
theorem dX6_init_26 : decode cX6_init 26 = .ok (.aload_n 2, 1) := by decide +kernel
theorem dX6_init_27 : decode cX6_init 27 = .ok (.putfield 19, 3) := by decide +kernel
theorem dX6_init_30 : decode cX6_init 30 = .ok (.aload_n 0, 1) := by decide +kernel
theorem dX6_init_31 : decode cX6_init 31 = .ok (.new 23, 3) := by decide +kernel
theorem dX6_init_34 : decode cX6_init 34 = .ok (.dup, 1) := by decide +kernel
theorem dX6_init_35 : decode cX6_init 35 = .ok (.aload_n 1, 1) := by decide +kernel
theorem dX6_init_36 : decode cX6_init 36 = .ok (.aload_n 2, 1) := by decide +kernel
theorem dX6_init_37 : decode cX6_init 37 = .ok (.invokespecial 25, 3) := by decide +kernel
theorem dX6_init_40 : decode cX6_init 40 = .ok (.putfield 28, 3) := by decide +kernel
theorem dX6_init_43 : decode cX6_init 43 = .ok (.aload_n 0, 1) := by decide +kernel
theorem dX6_init_44 : decode cX6_init 44 = .ok (.new 32, 3) := by decide +kernel
theorem dX6_init_47 : decode cX6_init 47 = .ok (.dup, 1) := by decide +kernel
theorem dX6_init_48 : decode cX6_init 48 = .ok (.invokespecial 34, 3) := by decide +kernel
theorem dX6_init_51 : decode cX6_init 51 = .ok (.putfield 35, 3) := by decide +kernel
theorem dX6_init_54 : decode cX6_init 54 = .ok (.aload_n 0, 1) := by decide +kernel
theorem dX6_init_55 : decode cX6_init 55 = .ok (.new 32, 3) := by decide +kernel
theorem dX6_init_58 : decode cX6_init 58 = .ok (.dup, 1) := by decide +kernel
theorem dX6_init_59 : decode cX6_init 59 = .ok (.invokespecial 34, 3) := by decide +kernel
theorem dX6_init_62 : decode cX6_init 62 = .ok (.putfield 39, 3) := by decide +kernel
theorem dX6_init_65 : decode cX6_init 65 = .ok (.aload_n 0, 1) := by decide +kernel
theorem dX6_init_66 : decode cX6_init 66 = .ok (.new 42, 3) := by decide +kernel
theorem dX6_init_69 : decode cX6_init 69 = .ok (.dup, 1) := by decide +kernel
theorem dX6_init_70 : decode cX6_init 70 = .ok (.invokespecial 44, 3) := by decide +kernel
theorem dX6_init_73 : decode cX6_init 73 = .ok (.putfield 45, 3) := by decide +kernel
theorem dX6_init_76 : decode cX6_init 76 = .ok (.aload_n 0, 1) := by decide +kernel
theorem dX6_init_77 : decode cX6_init 77 = .ok (.iconst 4, 1) := by decide +kernel
theorem dX6_init_78 : decode cX6_init 78 = .ok (.newarray .int, 2) := by decide +kernel
theorem dX6_init_80 : decode cX6_init 80 = .ok (.putfield 49, 3) := by decide +kernel
theorem dX6_init_83 : decode cX6_init 83 = .ok (.aload_n 0, 1) := by decide +kernel
theorem dX6_init_84 : decode cX6_init 84 = .ok (.iconst 4, 1) := by decide +kernel
theorem dX6_init_85 : decode cX6_init 85 = .ok (.anewarray 32, 3) := by decide +kernel
theorem dX6_init_88 : decode cX6_init 88 = .ok (.putfield 53, 3) := by decide +kernel
theorem dX6_init_91 : decode cX6_init 91 = .ok (.iconst 0, 1) := by decide +kernel
theorem dX6_init_92 : decode cX6_init 92 = .ok (.istore_n 3, 1) := by decide +kernel
theorem dX6_init_93 : decode cX6_init 93 = .ok (.iload_n 3, 1) := by decide +kernel
theorem dX6_init_94 : decode cX6_init 94 = .ok (.iconst 4, 1) := by decide +kernel
theorem dX6_init_95 : decode cX6_init 95 = .ok (.if_icmp .ge 22, 3) := by decide +kernel
theorem dX6_init_98 : decode cX6_init 98 = .ok (.aload_n 0, 1) := by decide +kernel
theorem dX6_init_99 : decode cX6_init 99 = .ok (.getfield 53, 3) := by decide +kernel
theorem dX6_init_102 : decode cX6_init 102 = .ok (.iload_n 3, 1) := by decide +kernel
theorem dX6_init_103 : decode cX6_init 103 = .ok (.new 32, 3) := by decide +kernel
theorem dX6_init_106 : decode cX6_init 106 = .ok (.dup, 1) := by decide +kernel
theorem dX6_init_107 : decode cX6_init 107 = .ok (.invokespecial 34, 3) := by decide +kernel
theorem dX6_init_110 : decode cX6_init 110 = .ok (.aastore, 1) := by decide +kernel
theorem dX6_init_111 : decode cX6_init 111 = .ok (.iinc 3 1, 3) := by decide +kernel
theorem dX6_init_114 : decode cX6_init 114 = .ok (.goto (-21), 3) := by decide +kernel
theorem dX6_init_117 : decode cX6_init 117 = .ok (.aload_n 0, 1) := by decide +kernel
theorem dX6_init_118 : decode cX6_init 118 = .ok (.bipush 8, 2) := by decide +kernel
theorem dX6_init_120 : decode cX6_init 120 = .ok (.anewarray 57, 3) := by decide +kernel
theorem dX6_init_123 : decode cX6_init 123 = .ok (.putfield 59, 3) := by decide +kernel
theorem dX6_init_126 : decode cX6_init 126 = .ok (.iconst 0, 1) := by decide +kernel
theorem dX6_init_127 : decode cX6_init 127 = .ok (.istore_n 3, 1) := by decide +kernel
theorem dX6_init_128 : decode cX6_init 128 = .ok (.iload_n 3, 1) := by decide +kernel
theorem dX6_init_129 : decode cX6_init 129 = .ok (.bipush 8, 2) := by decide +kernel
theorem dX6_init_131 : decode cX6_init 131 = .ok (.if_icmp .ge 22, 3) := by decide +kernel
theorem dX6_init_134 : decode cX6_init 134 = .ok (.aload_n 0, 1) := by decide +kernel
theorem dX6_init_135 : decode cX6_init 135 = .ok (.getfield 59, 3) := by decide +kernel
theorem dX6_init_138 : decode cX6_init 138 = .ok (.iload_n 3, 1) := by decide +kernel
theorem dX6_init_139 : decode cX6_init 139 = .ok (.new 57, 3) := by decide +kernel
theorem dX6_init_142 : decode cX6_init 142 = .ok (.dup, 1) := by decide +kernel
theorem dX6_init_143 : decode cX6_init 143 = .ok (.invokespecial 63, 3) := by decide +kernel
theorem dX6_init_146 : decode cX6_init 146 = .ok (.aastore, 1) := by decide +kernel
theorem dX6_init_147 : decode cX6_init 147 = .ok (.iinc 3 1, 3) := by decide +kernel
theorem dX6_init_150 : decode cX6_init 150 = .ok (.goto (-22), 3) := by decide +kernel
theorem dX6_init_153 : decode cX6_init 153 = .ok (.aload_n 0, 1) := by decide +kernel
theorem dX6_init_154 : decode cX6_init 154 = .ok (.iconst (-1), 1) := by decide +kernel
theorem dX6_init_155 : decode cX6_init 155 = .ok (.putfield 64, 3) := by decide +kernel
theorem dX6_init_158 : decode cX6_init 158 = .ok (.return_, 1) := by decide +kernel
theorem dX6_word_0 : decode cX6_word 0 = .ok (.aload_n 0, 1) := by decide +kernel
theorem dX6_word_1 : decode cX6_word 1 = .ok (.iload_n 1, 1) := by decide +kernel
theorem dX6_word_2 : decode cX6_word 2 = .ok (.iconst 1, 1) := by decide +kernel
theorem dX6_word_3 : decode cX6_word 3 = .ok (.bipush 12, 2) := by decide +kernel
theorem dX6_word_5 : decode cX6_word 5 = .ok (.invokevirtual 68, 3) := by decide +kernel
theorem dX6_word_8 : decode cX6_word 8 = .ok (.aload_n 0, 1) := by decide +kernel
theorem dX6_word_9 : decode cX6_word 9 = .ok (.iload_n 2, 1) := by decide +kernel
theorem dX6_word_10 : decode cX6_word 10 = .ok (.iconst (-1), 1) := by decide +kernel
theorem dX6_word_11 : decode cX6_word 11 = .ok (.iconst 3, 1) := by decide +kernel
theorem dX6_word_12 : decode cX6_word 12 = .ok (.invokevirtual 68, 3) := by decide +kernel
theorem dX6_word_15 : decode cX6_word 15 = .ok (.aload_n 0, 1) := by decide +kernel
theorem dX6_word_16 : decode cX6_word 16 = .ok (.iload_n 3, 1) := by decide +kernel
theorem dX6_word_17 : decode cX6_word 17 = .ok (.iconst 0, 1) := by decide +kernel
theorem dX6_word_18 : decode cX6_word 18 = .ok (.sipush 1023, 3) := by decide +kernel
theorem dX6_word_21 : decode cX6_word 21 = .ok (.invokevirtual 68, 3) := by decide +kernel
theorem dX6_word_24 : decode cX6_word 24 = .ok (.aload_n 0, 1) := by decide +kernel
theorem dX6_word_25 : decode cX6_word 25 = .ok (.getfield 13, 3) := by decide +kernel
theorem dX6_word_28 : decode cX6_word 28 = .ok (.invokevirtual 72, 3) := by decide +kernel
theorem dX6_word_31 : decode cX6_word 31 = .ok (.ifCond .eq 13, 3) := by decide +kernel
theorem dX6_word_34 : decode cX6_word 34 = .ok (.new 76, 3) := by decide +kernel
theorem dX6_word_37 : decode cX6_word 37 = .ok (.dup, 1) := by decide +kernel
theorem dX6_word_38 : decode cX6_word 38 = .ok (.ldc 78, 2) := by decide +kernel
theorem dX6_word_40 : decode cX6_word 40 = .ok (.invokespecial 80, 3) := by decide +kernel
theorem dX6_word_43 : decode cX6_word 43 = .ok (.athrow, 1) := by decide +kernel
theorem dX6_word_44 : decode cX6_word 44 = .ok (.aload_n 0, 1) := by decide +kernel
theorem dX6_word_45 : decode cX6_word 45 = .ok (.getfield 13, 3) := by decide +kernel
theorem dX6_word_48 : decode cX6_word 48 = .ok (.iload_n 1, 1) := by decide +kernel
theorem dX6_word_49 : decode cX6_word 49 = .ok (.iload_n 2, 1) := by decide +kernel
theorem dX6_word_50 : decode cX6_word 50 = .ok (.iload_n 3, 1) := by decide +kernel
theorem dX6_word_51 : decode cX6_word 51 = .ok (.invokevirtual 83, 3) := by decide +kernel
theorem dX6_word_54 : decode cX6_word 54 = .ok (.ireturn, 1) := by decide +kernel
theorem dX6_call_0 : decode cX6_call 0 = .ok (.aload_n 0, 1) := by decide +kernel
theorem dX6_call_1 : decode cX6_call 1 = .ok (.iload_n 1, 1) := by decide +kernel
theorem dX6_call_2 : decode cX6_call 2 = .ok (.invokevirtual 87, 3) := by decide +kernel
theorem dX6_call_5 : decode cX6_call 5 = .ok (.aload_n 0, 1) := by decide +kernel
theorem dX6_call_6 : decode cX6_call 6 = .ok (.iload_n 2, 1) := by decide +kernel
theorem dX6_call_7 : decode cX6_call 7 = .ok (.invokevirtual 87, 3) := by decide +kernel
theorem dX6_call_10 : decode cX6_call 10 = .ok (.iload_n 1, 1) := by decide +kernel
theorem dX6_call_11 : decode cX6_call 11 = .ok (.iload_n 2, 1) := by decide +kernel
theorem dX6_call_12 : decode cX6_call 12 = .ok (.if_icmp .ne 13, 3) := by decide +kernel
theorem dX6_call_15 : decode cX6_call 15 = .ok (.new 91, 3) := by decide +kernel
theorem dX6_call_18 : decode cX6_call 18 = .ok (.dup, 1) := by decide +kernel
theorem dX6_call_19 : decode cX6_call 19 = .ok (.ldc 93, 2) := by decide +kernel
theorem dX6_call_21 : decode cX6_call 21 = .ok (.invokespecial 95, 3) := by decide +kernel
theorem dX6_call_24 : decode cX6_call 24 = .ok (.athrow, 1) := by decide +kernel
theorem dX6_call_25 : decode cX6_call 25 = .ok (.aload_n 0, 1) := by decide +kernel
theorem dX6_call_26 : decode cX6_call 26 = .ok (.getfield 13, 3) := by decide +kernel
theorem dX6_call_29 : decode cX6_call 29 = .ok (.iload_n 1, 1) := by decide +kernel
theorem dX6_call_30 : decode cX6_call 30 = .ok (.iload_n 2, 1) := by decide +kernel
theorem dX6_call_31 : decode cX6_call 31 = .ok (.invokevirtual 96, 3) := by decide +kernel
theorem dX6_call_34 : decode cX6_call 34 = .ok (.ireturn, 1) := by decide +kernel
theorem dX6_poet_0 : decode cX6_poet 0 = .ok (.aload_n 0, 1) := by decide +kernel
theorem dX6_poet_1 : decode cX6_poet 1 = .ok (.getfield 100, 3) := by decide +kernel
theorem dX6_poet_4 : decode cX6_poet 4 = .ok (.bipush 6, 2) := by decide +kernel
theorem dX6_poet_6 : decode cX6_poet 6 = .ok (.if_icmp .lt 13, 3) := by decide +kernel
theorem dX6_poet_9 : decode cX6_poet 9 = .ok (.new 76, 3) := by decide +kernel
theorem dX6_poet_12 : decode cX6_poet 12 = .ok (.dup, 1) := by decide +kernel
theorem dX6_poet_13 : decode cX6_poet 13 = .ok (.ldc 103, 2) := by decide +kernel
theorem dX6_poet_15 : decode cX6_poet 15 = .ok (.invokespecial 80, 3) := by decide +kernel
theorem dX6_poet_18 : decode cX6_poet 18 = .ok (.athrow, 1) := by decide +kernel
theorem dX6_poet_19 : decode cX6_poet 19 = .ok (.aload_n 0, 1) := by decide +kernel
theorem dX6_poet_20 : decode cX6_poet 20 = .ok (.dup, 1) := by decide +kernel
theorem dX6_poet_21 : decode cX6_poet 21 = .ok (.getfield 100, 3) := by decide +kernel
theorem dX6_poet_24 : decode cX6_poet 24 = .ok (.iconst 1, 1) := by decide +kernel
theorem dX6_poet_25 : decode cX6_poet 25 = .ok (.iadd, 1) := by decide +kernel
theorem dX6_poet_26 : decode cX6_poet 26 = .ok (.putfield 100, 3) := by decide +kernel
theorem dX6_poet_29 : decode cX6_poet 29 = .ok (.aload_n 0, 1) := by decide +kernel
theorem dX6_poet_30 : decode cX6_poet 30 = .ok (.getfield 100, 3) := by decide +kernel
theorem dX6_poet_33 : decode cX6_poet 33 = .ok (.iconst 1, 1) := by decide +kernel
theorem dX6_poet_34 : decode cX6_poet 34 = .ok (.isub, 1) := by decide +kernel
theorem dX6_poet_35 : decode cX6_poet 35 = .ok (.ireturn, 1) := by decide +kernel
theorem dX6_begin_0 : decode cX6_begin 0 = .ok (.aload_n 0, 1) := by decide +kernel
theorem dX6_begin_1 : decode cX6_begin 1 = .ok (.iload_n 1, 1) := by decide +kernel
theorem dX6_begin_2 : decode cX6_begin 2 = .ok (.iconst 2, 1) := by decide +kernel
theorem dX6_begin_3 : decode cX6_begin 3 = .ok (.bipush 36, 2) := by decide +kernel
theorem dX6_begin_5 : decode cX6_begin 5 = .ok (.invokevirtual 68, 3) := by decide +kernel
theorem dX6_begin_8 : decode cX6_begin 8 = .ok (.aload_n 0, 1) := by decide +kernel
theorem dX6_begin_9 : decode cX6_begin 9 = .ok (.iload_n 2, 1) := by decide +kernel
theorem dX6_begin_10 : decode cX6_begin 10 = .ok (.iconst 0, 1) := by decide +kernel
theorem dX6_begin_11 : decode cX6_begin 11 = .ok (.bipush 10, 2) := by decide +kernel
theorem dX6_begin_13 : decode cX6_begin 13 = .ok (.invokevirtual 68, 3) := by decide +kernel
theorem dX6_begin_16 : decode cX6_begin 16 = .ok (.aload_n 0, 1) := by decide +kernel
theorem dX6_begin_17 : decode cX6_begin 17 = .ok (.iload_n 3, 1) := by decide +kernel
theorem dX6_begin_18 : decode cX6_begin 18 = .ok (.iconst 2, 1) := by decide +kernel
theorem dX6_begin_19 : decode cX6_begin 19 = .ok (.bipush 40, 2) := by decide +kernel
theorem dX6_begin_21 : decode cX6_begin 21 = .ok (.invokevirtual 68, 3) := by decide +kernel
theorem dX6_begin_24 : decode cX6_begin 24 = .ok (.aload_n 0, 1) := by decide +kernel
theorem dX6_begin_25 : decode cX6_begin 25 = .ok (.iload 4, 2) := by decide +kernel
theorem dX6_begin_27 : decode cX6_begin 27 = .ok (.iconst 2, 1) := by decide +kernel
theorem dX6_begin_28 : decode cX6_begin 28 = .ok (.bipush 40, 2) := by decide +kernel
theorem dX6_begin_30 : decode cX6_begin 30 = .ok (.invokevirtual 68, 3) := by decide +kernel
theorem dX6_begin_33 : decode cX6_begin 33 = .ok (.aload_n 0, 1) := by decide +kernel
theorem dX6_begin_34 : decode cX6_begin 34 = .ok (.getfield 19, 3) := by decide +kernel
theorem dX6_begin_37 : decode cX6_begin 37 = .ok (.invokevirtual 105, 3) := by decide +kernel
theorem dX6_begin_40 : decode cX6_begin 40 = .ok (.ifCond .eq 23, 3) := by decide +kernel
theorem dX6_begin_43 : decode cX6_begin 43 = .ok (.aload_n 0, 1) := by decide +kernel
theorem dX6_begin_44 : decode cX6_begin 44 = .ok (.getfield 19, 3) := by decide +kernel
theorem dX6_begin_47 : decode cX6_begin 47 = .ok (.getfield 108, 3) := by decide +kernel
theorem dX6_begin_50 : decode cX6_begin 50 = .ok (.ifCond .le 13, 3) := by decide +kernel
theorem dX6_begin_53 : decode cX6_begin 53 = .ok (.new 76, 3) := by decide +kernel
theorem dX6_begin_56 : decode cX6_begin 56 = .ok (.dup, 1) := by decide +kernel
theorem dX6_begin_57 : decode cX6_begin 57 = .ok (.ldc 111, 2) := by decide +kernel
theorem dX6_begin_59 : decode cX6_begin 59 = .ok (.invokespecial 80, 3) := by decide +kernel
theorem dX6_begin_62 : decode cX6_begin 62 = .ok (.athrow, 1) := by decide +kernel
theorem dX6_begin_63 : decode cX6_begin 63 = .ok (.aload_n 0, 1) := by decide +kernel
theorem dX6_begin_64 : decode cX6_begin 64 = .ok (.getfield 19, 3) := by decide +kernel
theorem dX6_begin_67 : decode cX6_begin 67 = .ok (.iload_n 1, 1) := by decide +kernel
theorem dX6_begin_68 : decode cX6_begin 68 = .ok (.iload_n 2, 1) := by decide +kernel
theorem dX6_begin_69 : decode cX6_begin 69 = .ok (.iload_n 3, 1) := by decide +kernel
theorem dX6_begin_70 : decode cX6_begin 70 = .ok (.iload 4, 2) := by decide +kernel
theorem dX6_begin_72 : decode cX6_begin 72 = .ok (.invokevirtual 113, 3) := by decide +kernel
theorem dX6_begin_75 : decode cX6_begin 75 = .ok (.aload_n 0, 1) := by decide +kernel
theorem dX6_begin_76 : decode cX6_begin 76 = .ok (.iconst 0, 1) := by decide +kernel
theorem dX6_begin_77 : decode cX6_begin 77 = .ok (.putfield 117, 3) := by decide +kernel
theorem dX6_begin_80 : decode cX6_begin 80 = .ok (.aload_n 0, 1) := by decide +kernel
theorem dX6_begin_81 : decode cX6_begin 81 = .ok (.iconst 0, 1) := by decide +kernel
theorem dX6_begin_82 : decode cX6_begin 82 = .ok (.putfield 120, 3) := by decide +kernel
theorem dX6_begin_85 : decode cX6_begin 85 = .ok (.return_, 1) := by decide +kernel
theorem dX6_seat_0 : decode cX6_seat 0 = .ok (.iload_n 1, 1) := by decide +kernel
theorem dX6_seat_1 : decode cX6_seat 1 = .ok (.aload_n 0, 1) := by decide +kernel
theorem dX6_seat_2 : decode cX6_seat 2 = .ok (.getfield 19, 3) := by decide +kernel
theorem dX6_seat_5 : decode cX6_seat 5 = .ok (.getfield 108, 3) := by decide +kernel
theorem dX6_seat_8 : decode cX6_seat 8 = .ok (.if_icmp .lt 14, 3) := by decide +kernel
theorem dX6_seat_11 : decode cX6_seat 11 = .ok (.iload_n 1, 1) := by decide +kernel
theorem dX6_seat_12 : decode cX6_seat 12 = .ok (.aload_n 0, 1) := by decide +kernel
theorem dX6_seat_13 : decode cX6_seat 13 = .ok (.getfield 19, 3) := by decide +kernel
theorem dX6_seat_16 : decode cX6_seat 16 = .ok (.getfield 123, 3) := by decide +kernel
theorem dX6_seat_19 : decode cX6_seat 19 = .ok (.if_icmp .lt 13, 3) := by decide +kernel
theorem dX6_seat_22 : decode cX6_seat 22 = .ok (.new 126, 3) := by decide +kernel
theorem dX6_seat_25 : decode cX6_seat 25 = .ok (.dup, 1) := by decide +kernel
theorem dX6_seat_26 : decode cX6_seat 26 = .ok (.ldc 128, 2) := by decide +kernel
theorem dX6_seat_28 : decode cX6_seat 28 = .ok (.invokespecial 130, 3) := by decide +kernel
theorem dX6_seat_31 : decode cX6_seat 31 = .ok (.athrow, 1) := by decide +kernel
theorem dX6_seat_32 : decode cX6_seat 32 = .ok (.aload_n 0, 1) := by decide +kernel
theorem dX6_seat_33 : decode cX6_seat 33 = .ok (.iload_n 2, 1) := by decide +kernel
theorem dX6_seat_34 : decode cX6_seat 34 = .ok (.iconst 0, 1) := by decide +kernel
theorem dX6_seat_35 : decode cX6_seat 35 = .ok (.iconst 2, 1) := by decide +kernel
theorem dX6_seat_36 : decode cX6_seat 36 = .ok (.invokevirtual 68, 3) := by decide +kernel
theorem dX6_seat_39 : decode cX6_seat 39 = .ok (.aload_n 0, 1) := by decide +kernel
theorem dX6_seat_40 : decode cX6_seat 40 = .ok (.invokevirtual 131, 3) := by decide +kernel
theorem dX6_seat_43 : decode cX6_seat 43 = .ok (.aload_n 0, 1) := by decide +kernel
theorem dX6_seat_44 : decode cX6_seat 44 = .ok (.getfield 19, 3) := by decide +kernel
theorem dX6_seat_47 : decode cX6_seat 47 = .ok (.iload_n 1, 1) := by decide +kernel
theorem dX6_seat_48 : decode cX6_seat 48 = .ok (.invokevirtual 134, 3) := by decide +kernel
theorem dX6_seat_51 : decode cX6_seat 51 = .ok (.istore_n 3, 1) := by decide +kernel
theorem dX6_seat_52 : decode cX6_seat 52 = .ok (.aload_n 0, 1) := by decide +kernel
theorem dX6_seat_53 : decode cX6_seat 53 = .ok (.getfield 19, 3) := by decide +kernel
theorem dX6_seat_56 : decode cX6_seat 56 = .ok (.iload_n 1, 1) := by decide +kernel
theorem dX6_seat_57 : decode cX6_seat 57 = .ok (.iload_n 2, 1) := by decide +kernel
theorem dX6_seat_58 : decode cX6_seat 58 = .ok (.invokevirtual 138, 3) := by decide +kernel
theorem dX6_seat_61 : decode cX6_seat 61 = .ok (.iload_n 3, 1) := by decide +kernel
theorem dX6_seat_62 : decode cX6_seat 62 = .ok (.ireturn, 1) := by decide +kernel
theorem dX6_add_0 : decode cX6_add 0 = .ok (.aload_n 0, 1) := by decide +kernel
theorem dX6_add_1 : decode cX6_add 1 = .ok (.iload_n 1, 1) := by decide +kernel
theorem dX6_add_2 : decode cX6_add 2 = .ok (.invokevirtual 87, 3) := by decide +kernel
theorem dX6_add_5 : decode cX6_add 5 = .ok (.aload_n 0, 1) := by decide +kernel
theorem dX6_add_6 : decode cX6_add 6 = .ok (.getfield 35, 3) := by decide +kernel
theorem dX6_add_9 : decode cX6_add 9 = .ok (.getfield 142, 3) := by decide +kernel
theorem dX6_add_12 : decode cX6_add 12 = .ok (.bipush 6, 2) := by decide +kernel
theorem dX6_add_14 : decode cX6_add 14 = .ok (.if_icmp .lt 13, 3) := by decide +kernel
theorem dX6_add_17 : decode cX6_add 17 = .ok (.new 76, 3) := by decide +kernel
theorem dX6_add_20 : decode cX6_add 20 = .ok (.dup, 1) := by decide +kernel
theorem dX6_add_21 : decode cX6_add 21 = .ok (.ldc 145, 2) := by decide +kernel
theorem dX6_add_23 : decode cX6_add 23 = .ok (.invokespecial 80, 3) := by decide +kernel
theorem dX6_add_26 : decode cX6_add 26 = .ok (.athrow, 1) := by decide +kernel
theorem dX6_add_27 : decode cX6_add 27 = .ok (.aload_n 0, 1) := by decide +kernel
theorem dX6_add_28 : decode cX6_add 28 = .ok (.getfield 35, 3) := by decide +kernel
theorem dX6_add_31 : decode cX6_add 31 = .ok (.iload_n 1, 1) := by decide +kernel
theorem dX6_add_32 : decode cX6_add 32 = .ok (.aload_n 0, 1) := by decide +kernel
theorem dX6_add_33 : decode cX6_add 33 = .ok (.getfield 13, 3) := by decide +kernel
theorem dX6_add_36 : decode cX6_add 36 = .ok (.invokevirtual 147, 3) := by decide +kernel
theorem dX6_add_39 : decode cX6_add 39 = .ok (.aload_n 0, 1) := by decide +kernel
theorem dX6_add_40 : decode cX6_add 40 = .ok (.getfield 35, 3) := by decide +kernel
theorem dX6_add_43 : decode cX6_add 43 = .ok (.getfield 142, 3) := by decide +kernel
theorem dX6_add_46 : decode cX6_add 46 = .ok (.ireturn, 1) := by decide +kernel
theorem dX6_clear_0 : decode cX6_clear 0 = .ok (.aload_n 0, 1) := by decide +kernel
theorem dX6_clear_1 : decode cX6_clear 1 = .ok (.getfield 35, 3) := by decide +kernel
theorem dX6_clear_4 : decode cX6_clear 4 = .ok (.getfield 142, 3) := by decide +kernel
theorem dX6_clear_7 : decode cX6_clear 7 = .ok (.istore_n 1, 1) := by decide +kernel
theorem dX6_clear_8 : decode cX6_clear 8 = .ok (.aload_n 0, 1) := by decide +kernel
theorem dX6_clear_9 : decode cX6_clear 9 = .ok (.getfield 35, 3) := by decide +kernel
theorem dX6_clear_12 : decode cX6_clear 12 = .ok (.invokevirtual 151, 3) := by decide +kernel
theorem dX6_clear_15 : decode cX6_clear 15 = .ok (.iload_n 1, 1) := by decide +kernel
theorem dX6_clear_16 : decode cX6_clear 16 = .ok (.ireturn, 1) := by decide +kernel
theorem dX6_offer_0 : decode cX6_offer 0 = .ok (.aload_n 0, 1) := by decide +kernel
theorem dX6_offer_1 : decode cX6_offer 1 = .ok (.iload_n 1, 1) := by decide +kernel
theorem dX6_offer_2 : decode cX6_offer 2 = .ok (.invokevirtual 154, 3) := by decide +kernel
theorem dX6_offer_5 : decode cX6_offer 5 = .ok (.aload_n 0, 1) := by decide +kernel
theorem dX6_offer_6 : decode cX6_offer 6 = .ok (.getfield 19, 3) := by decide +kernel
theorem dX6_offer_9 : decode cX6_offer 9 = .ok (.invokevirtual 105, 3) := by decide +kernel
theorem dX6_offer_12 : decode cX6_offer 12 = .ok (.ifCond .ne 13, 3) := by decide +kernel
theorem dX6_offer_15 : decode cX6_offer 15 = .ok (.new 76, 3) := by decide +kernel
theorem dX6_offer_18 : decode cX6_offer 18 = .ok (.dup, 1) := by decide +kernel
theorem dX6_offer_19 : decode cX6_offer 19 = .ok (.ldc 157, 2) := by decide +kernel
theorem dX6_offer_21 : decode cX6_offer 21 = .ok (.invokespecial 80, 3) := by decide +kernel
theorem dX6_offer_24 : decode cX6_offer 24 = .ok (.athrow, 1) := by decide +kernel
theorem dX6_offer_25 : decode cX6_offer 25 = .ok (.aload_n 0, 1) := by decide +kernel
theorem dX6_offer_26 : decode cX6_offer 26 = .ok (.getfield 117, 3) := by decide +kernel
theorem dX6_offer_29 : decode cX6_offer 29 = .ok (.iconst 4, 1) := by decide +kernel
theorem dX6_offer_30 : decode cX6_offer 30 = .ok (.if_icmp .lt 13, 3) := by decide +kernel
theorem dX6_offer_33 : decode cX6_offer 33 = .ok (.new 76, 3) := by decide +kernel
theorem dX6_offer_36 : decode cX6_offer 36 = .ok (.dup, 1) := by decide +kernel
theorem dX6_offer_37 : decode cX6_offer 37 = .ok (.ldc 159, 2) := by decide +kernel
theorem dX6_offer_39 : decode cX6_offer 39 = .ok (.invokespecial 80, 3) := by decide +kernel
theorem dX6_offer_42 : decode cX6_offer 42 = .ok (.athrow, 1) := by decide +kernel
theorem dX6_offer_43 : decode cX6_offer 43 = .ok (.aload_n 0, 1) := by decide +kernel
theorem dX6_offer_44 : decode cX6_offer 44 = .ok (.getfield 28, 3) := by decide +kernel
theorem dX6_offer_47 : decode cX6_offer 47 = .ok (.aload_n 0, 1) := by decide +kernel
theorem dX6_offer_48 : decode cX6_offer 48 = .ok (.getfield 35, 3) := by decide +kernel
theorem dX6_offer_51 : decode cX6_offer 51 = .ok (.aload_n 0, 1) := by decide +kernel
theorem dX6_offer_52 : decode cX6_offer 52 = .ok (.getfield 19, 3) := by decide +kernel
theorem dX6_offer_55 : decode cX6_offer 55 = .ok (.getfield 108, 3) := by decide +kernel
theorem dX6_offer_58 : decode cX6_offer 58 = .ok (.iload_n 1, 1) := by decide +kernel
theorem dX6_offer_59 : decode cX6_offer 59 = .ok (.invokevirtual 161, 3) := by decide +kernel
theorem dX6_offer_62 : decode cX6_offer 62 = .ok (.istore_n 2, 1) := by decide +kernel
theorem dX6_offer_63 : decode cX6_offer 63 = .ok (.iload_n 2, 1) := by decide +kernel
theorem dX6_offer_64 : decode cX6_offer 64 = .ok (.ifCond .eq 30, 3) := by decide +kernel
theorem dX6_offer_67 : decode cX6_offer 67 = .ok (.aload_n 0, 1) := by decide +kernel
theorem dX6_offer_68 : decode cX6_offer 68 = .ok (.aload_n 0, 1) := by decide +kernel
theorem dX6_offer_69 : decode cX6_offer 69 = .ok (.getfield 28, 3) := by decide +kernel
theorem dX6_offer_72 : decode cX6_offer 72 = .ok (.iload_n 2, 1) := by decide +kernel
theorem dX6_offer_73 : decode cX6_offer 73 = .ok (.aload_n 0, 1) := by decide +kernel
theorem dX6_offer_74 : decode cX6_offer 74 = .ok (.getfield 35, 3) := by decide +kernel
theorem dX6_offer_77 : decode cX6_offer 77 = .ok (.aload_n 0, 1) := by decide +kernel
theorem dX6_offer_78 : decode cX6_offer 78 = .ok (.getfield 19, 3) := by decide +kernel
theorem dX6_offer_81 : decode cX6_offer 81 = .ok (.getfield 108, 3) := by decide +kernel
theorem dX6_offer_84 : decode cX6_offer 84 = .ok (.iload_n 1, 1) := by decide +kernel
theorem dX6_offer_85 : decode cX6_offer 85 = .ok (.invokevirtual 165, 3) := by decide +kernel
theorem dX6_offer_88 : decode cX6_offer 88 = .ok (.putfield 64, 3) := by decide +kernel
theorem dX6_offer_91 : decode cX6_offer 91 = .ok (.iload_n 2, 1) := by decide +kernel
theorem dX6_offer_92 : decode cX6_offer 92 = .ok (.ineg, 1) := by decide +kernel
theorem dX6_offer_93 : decode cX6_offer 93 = .ok (.ireturn, 1) := by decide +kernel
theorem dX6_offer_94 : decode cX6_offer 94 = .ok (.aload_n 0, 1) := by decide +kernel
theorem dX6_offer_95 : decode cX6_offer 95 = .ok (.getfield 53, 3) := by decide +kernel
theorem dX6_offer_98 : decode cX6_offer 98 = .ok (.aload_n 0, 1) := by decide +kernel
theorem dX6_offer_99 : decode cX6_offer 99 = .ok (.getfield 117, 3) := by decide +kernel
theorem dX6_offer_102 : decode cX6_offer 102 = .ok (.aaload, 1) := by decide +kernel
theorem dX6_offer_103 : decode cX6_offer 103 = .ok (.aload_n 0, 1) := by decide +kernel
theorem dX6_offer_104 : decode cX6_offer 104 = .ok (.getfield 35, 3) := by decide +kernel
theorem dX6_offer_107 : decode cX6_offer 107 = .ok (.aload_n 0, 1) := by decide +kernel
theorem dX6_offer_108 : decode cX6_offer 108 = .ok (.getfield 13, 3) := by decide +kernel
theorem dX6_offer_111 : decode cX6_offer 111 = .ok (.invokevirtual 169, 3) := by decide +kernel
theorem dX6_offer_114 : decode cX6_offer 114 = .ok (.aload_n 0, 1) := by decide +kernel
theorem dX6_offer_115 : decode cX6_offer 115 = .ok (.getfield 49, 3) := by decide +kernel
theorem dX6_offer_118 : decode cX6_offer 118 = .ok (.aload_n 0, 1) := by decide +kernel
theorem dX6_offer_119 : decode cX6_offer 119 = .ok (.getfield 117, 3) := by decide +kernel
theorem dX6_offer_122 : decode cX6_offer 122 = .ok (.iload_n 1, 1) := by decide +kernel
theorem dX6_offer_123 : decode cX6_offer 123 = .ok (.iastore, 1) := by decide +kernel
theorem dX6_offer_124 : decode cX6_offer 124 = .ok (.aload_n 0, 1) := by decide +kernel
theorem dX6_offer_125 : decode cX6_offer 125 = .ok (.dup, 1) := by decide +kernel
theorem dX6_offer_126 : decode cX6_offer 126 = .ok (.getfield 117, 3) := by decide +kernel
theorem dX6_offer_129 : decode cX6_offer 129 = .ok (.iconst 1, 1) := by decide +kernel
theorem dX6_offer_130 : decode cX6_offer 130 = .ok (.iadd, 1) := by decide +kernel
theorem dX6_offer_131 : decode cX6_offer 131 = .ok (.putfield 117, 3) := by decide +kernel
theorem dX6_offer_134 : decode cX6_offer 134 = .ok (.aload_n 0, 1) := by decide +kernel
theorem dX6_offer_135 : decode cX6_offer 135 = .ok (.getfield 35, 3) := by decide +kernel
theorem dX6_offer_138 : decode cX6_offer 138 = .ok (.invokevirtual 151, 3) := by decide +kernel
theorem dX6_offer_141 : decode cX6_offer 141 = .ok (.aload_n 0, 1) := by decide +kernel
theorem dX6_offer_142 : decode cX6_offer 142 = .ok (.getfield 117, 3) := by decide +kernel
theorem dX6_offer_145 : decode cX6_offer 145 = .ok (.iconst 1, 1) := by decide +kernel
theorem dX6_offer_146 : decode cX6_offer 146 = .ok (.isub, 1) := by decide +kernel
theorem dX6_offer_147 : decode cX6_offer 147 = .ok (.ireturn, 1) := by decide +kernel
theorem dX6_why_0 : decode cX6_why 0 = .ok (.aload_n 0, 1) := by decide +kernel
theorem dX6_why_1 : decode cX6_why 1 = .ok (.getfield 64, 3) := by decide +kernel
theorem dX6_why_4 : decode cX6_why 4 = .ok (.ireturn, 1) := by decide +kernel
theorem dX6_choose_0 : decode cX6_choose 0 = .ok (.iload_n 1, 1) := by decide +kernel
theorem dX6_choose_1 : decode cX6_choose 1 = .ok (.ifCond .lt 11, 3) := by decide +kernel
theorem dX6_choose_4 : decode cX6_choose 4 = .ok (.iload_n 1, 1) := by decide +kernel
theorem dX6_choose_5 : decode cX6_choose 5 = .ok (.aload_n 0, 1) := by decide +kernel
theorem dX6_choose_6 : decode cX6_choose 6 = .ok (.getfield 117, 3) := by decide +kernel
theorem dX6_choose_9 : decode cX6_choose 9 = .ok (.if_icmp .lt 13, 3) := by decide +kernel
theorem dX6_choose_12 : decode cX6_choose 12 = .ok (.new 126, 3) := by decide +kernel
theorem dX6_choose_15 : decode cX6_choose 15 = .ok (.dup, 1) := by decide +kernel
theorem dX6_choose_16 : decode cX6_choose 16 = .ok (.ldc 173, 2) := by decide +kernel
theorem dX6_choose_18 : decode cX6_choose 18 = .ok (.invokespecial 130, 3) := by decide +kernel
theorem dX6_choose_21 : decode cX6_choose 21 = .ok (.athrow, 1) := by decide +kernel
theorem dX6_choose_22 : decode cX6_choose 22 = .ok (.aload_n 0, 1) := by decide +kernel
theorem dX6_choose_23 : decode cX6_choose 23 = .ok (.getfield 19, 3) := by decide +kernel
theorem dX6_choose_26 : decode cX6_choose 26 = .ok (.aload_n 0, 1) := by decide +kernel
theorem dX6_choose_27 : decode cX6_choose 27 = .ok (.getfield 53, 3) := by decide +kernel
theorem dX6_choose_30 : decode cX6_choose 30 = .ok (.iload_n 1, 1) := by decide +kernel
theorem dX6_choose_31 : decode cX6_choose 31 = .ok (.aaload, 1) := by decide +kernel
theorem dX6_choose_32 : decode cX6_choose 32 = .ok (.aload_n 0, 1) := by decide +kernel
theorem dX6_choose_33 : decode cX6_choose 33 = .ok (.getfield 49, 3) := by decide +kernel
theorem dX6_choose_36 : decode cX6_choose 36 = .ok (.iload_n 1, 1) := by decide +kernel
theorem dX6_choose_37 : decode cX6_choose 37 = .ok (.iaload, 1) := by decide +kernel
theorem dX6_choose_38 : decode cX6_choose 38 = .ok (.aload_n 0, 1) := by decide +kernel
theorem dX6_choose_39 : decode cX6_choose 39 = .ok (.getfield 13, 3) := by decide +kernel
theorem dX6_choose_42 : decode cX6_choose 42 = .ok (.invokevirtual 175, 3) := by decide +kernel
theorem dX6_choose_45 : decode cX6_choose 45 = .ok (.aload_n 0, 1) := by decide +kernel
theorem dX6_choose_46 : decode cX6_choose 46 = .ok (.iconst 0, 1) := by decide +kernel
theorem dX6_choose_47 : decode cX6_choose 47 = .ok (.putfield 117, 3) := by decide +kernel
theorem dX6_choose_50 : decode cX6_choose 50 = .ok (.aload_n 0, 1) := by decide +kernel
theorem dX6_choose_51 : decode cX6_choose 51 = .ok (.getfield 19, 3) := by decide +kernel
theorem dX6_choose_54 : decode cX6_choose 54 = .ok (.getfield 108, 3) := by decide +kernel
theorem dX6_choose_57 : decode cX6_choose 57 = .ok (.iconst 1, 1) := by decide +kernel
theorem dX6_choose_58 : decode cX6_choose 58 = .ok (.isub, 1) := by decide +kernel
theorem dX6_choose_59 : decode cX6_choose 59 = .ok (.ireturn, 1) := by decide +kernel
theorem dX6_mend_0 : decode cX6_mend 0 = .ok (.aload_n 0, 1) := by decide +kernel
theorem dX6_mend_1 : decode cX6_mend 1 = .ok (.getfield 19, 3) := by decide +kernel
theorem dX6_mend_4 : decode cX6_mend 4 = .ok (.getfield 108, 3) := by decide +kernel
theorem dX6_mend_7 : decode cX6_mend 7 = .ok (.iconst 1, 1) := by decide +kernel
theorem dX6_mend_8 : decode cX6_mend 8 = .ok (.isub, 1) := by decide +kernel
theorem dX6_mend_9 : decode cX6_mend 9 = .ok (.istore_n 3, 1) := by decide +kernel
theorem dX6_mend_10 : decode cX6_mend 10 = .ok (.aload_n 0, 1) := by decide +kernel
theorem dX6_mend_11 : decode cX6_mend 11 = .ok (.iload_n 3, 1) := by decide +kernel
theorem dX6_mend_12 : decode cX6_mend 12 = .ok (.invokevirtual 179, 3) := by decide +kernel
theorem dX6_mend_15 : decode cX6_mend 15 = .ok (.aload_n 0, 1) := by decide +kernel
theorem dX6_mend_16 : decode cX6_mend 16 = .ok (.iload_n 3, 1) := by decide +kernel
theorem dX6_mend_17 : decode cX6_mend 17 = .ok (.iload_n 1, 1) := by decide +kernel
theorem dX6_mend_18 : decode cX6_mend 18 = .ok (.invokevirtual 182, 3) := by decide +kernel
theorem dX6_mend_21 : decode cX6_mend 21 = .ok (.aload_n 0, 1) := by decide +kernel
theorem dX6_mend_22 : decode cX6_mend 22 = .ok (.iload_n 2, 1) := by decide +kernel
theorem dX6_mend_23 : decode cX6_mend 23 = .ok (.invokevirtual 87, 3) := by decide +kernel
theorem dX6_mend_26 : decode cX6_mend 26 = .ok (.aload_n 0, 1) := by decide +kernel
theorem dX6_mend_27 : decode cX6_mend 27 = .ok (.invokevirtual 131, 3) := by decide +kernel
theorem dX6_mend_30 : decode cX6_mend 30 = .ok (.aload_n 0, 1) := by decide +kernel
theorem dX6_mend_31 : decode cX6_mend 31 = .ok (.getfield 39, 3) := by decide +kernel
theorem dX6_mend_34 : decode cX6_mend 34 = .ok (.aload_n 0, 1) := by decide +kernel
theorem dX6_mend_35 : decode cX6_mend 35 = .ok (.getfield 19, 3) := by decide +kernel
theorem dX6_mend_38 : decode cX6_mend 38 = .ok (.getfield 185, 3) := by decide +kernel
theorem dX6_mend_41 : decode cX6_mend 41 = .ok (.iload_n 3, 1) := by decide +kernel
theorem dX6_mend_42 : decode cX6_mend 42 = .ok (.aaload, 1) := by decide +kernel
theorem dX6_mend_43 : decode cX6_mend 43 = .ok (.iload_n 1, 1) := by decide +kernel
theorem dX6_mend_44 : decode cX6_mend 44 = .ok (.iload_n 2, 1) := by decide +kernel
theorem dX6_mend_45 : decode cX6_mend 45 = .ok (.aload_n 0, 1) := by decide +kernel
theorem dX6_mend_46 : decode cX6_mend 46 = .ok (.getfield 13, 3) := by decide +kernel
theorem dX6_mend_49 : decode cX6_mend 49 = .ok (.invokevirtual 188, 3) := by decide +kernel
theorem dX6_mend_52 : decode cX6_mend 52 = .ok (.aload_n 0, 1) := by decide +kernel
theorem dX6_mend_53 : decode cX6_mend 53 = .ok (.getfield 28, 3) := by decide +kernel
theorem dX6_mend_56 : decode cX6_mend 56 = .ok (.aload_n 0, 1) := by decide +kernel
theorem dX6_mend_57 : decode cX6_mend 57 = .ok (.getfield 39, 3) := by decide +kernel
theorem dX6_mend_60 : decode cX6_mend 60 = .ok (.iload_n 3, 1) := by decide +kernel
theorem dX6_mend_61 : decode cX6_mend 61 = .ok (.iconst (-1), 1) := by decide +kernel
theorem dX6_mend_62 : decode cX6_mend 62 = .ok (.invokevirtual 161, 3) := by decide +kernel
theorem dX6_mend_65 : decode cX6_mend 65 = .ok (.istore 4, 2) := by decide +kernel
theorem dX6_mend_67 : decode cX6_mend 67 = .ok (.iload 4, 2) := by decide +kernel
theorem dX6_mend_69 : decode cX6_mend 69 = .ok (.ifCond .eq 26, 3) := by decide +kernel
theorem dX6_mend_72 : decode cX6_mend 72 = .ok (.aload_n 0, 1) := by decide +kernel
theorem dX6_mend_73 : decode cX6_mend 73 = .ok (.aload_n 0, 1) := by decide +kernel
theorem dX6_mend_74 : decode cX6_mend 74 = .ok (.getfield 28, 3) := by decide +kernel
theorem dX6_mend_77 : decode cX6_mend 77 = .ok (.iload 4, 2) := by decide +kernel
theorem dX6_mend_79 : decode cX6_mend 79 = .ok (.aload_n 0, 1) := by decide +kernel
theorem dX6_mend_80 : decode cX6_mend 80 = .ok (.getfield 39, 3) := by decide +kernel
theorem dX6_mend_83 : decode cX6_mend 83 = .ok (.iload_n 3, 1) := by decide +kernel
theorem dX6_mend_84 : decode cX6_mend 84 = .ok (.iconst (-1), 1) := by decide +kernel
theorem dX6_mend_85 : decode cX6_mend 85 = .ok (.invokevirtual 165, 3) := by decide +kernel
theorem dX6_mend_88 : decode cX6_mend 88 = .ok (.putfield 64, 3) := by decide +kernel
theorem dX6_mend_91 : decode cX6_mend 91 = .ok (.iload 4, 2) := by decide +kernel
theorem dX6_mend_93 : decode cX6_mend 93 = .ok (.ineg, 1) := by decide +kernel
theorem dX6_mend_94 : decode cX6_mend 94 = .ok (.ireturn, 1) := by decide +kernel
theorem dX6_mend_95 : decode cX6_mend 95 = .ok (.aload_n 0, 1) := by decide +kernel
theorem dX6_mend_96 : decode cX6_mend 96 = .ok (.getfield 19, 3) := by decide +kernel
theorem dX6_mend_99 : decode cX6_mend 99 = .ok (.aload_n 0, 1) := by decide +kernel
theorem dX6_mend_100 : decode cX6_mend 100 = .ok (.getfield 39, 3) := by decide +kernel
theorem dX6_mend_103 : decode cX6_mend 103 = .ok (.aload_n 0, 1) := by decide +kernel
theorem dX6_mend_104 : decode cX6_mend 104 = .ok (.getfield 13, 3) := by decide +kernel
theorem dX6_mend_107 : decode cX6_mend 107 = .ok (.invokevirtual 192, 3) := by decide +kernel
theorem dX6_mend_110 : decode cX6_mend 110 = .ok (.iconst 0, 1) := by decide +kernel
theorem dX6_mend_111 : decode cX6_mend 111 = .ok (.ireturn, 1) := by decide +kernel
theorem dX6_give_0 : decode cX6_give 0 = .ok (.iload_n 1, 1) := by decide +kernel
theorem dX6_give_1 : decode cX6_give 1 = .ok (.ifCond .lt 8, 3) := by decide +kernel
theorem dX6_give_4 : decode cX6_give 4 = .ok (.iload_n 1, 1) := by decide +kernel
theorem dX6_give_5 : decode cX6_give 5 = .ok (.iconst 4, 1) := by decide +kernel
theorem dX6_give_6 : decode cX6_give 6 = .ok (.if_icmp .lt 13, 3) := by decide +kernel
theorem dX6_give_9 : decode cX6_give 9 = .ok (.new 126, 3) := by decide +kernel
theorem dX6_give_12 : decode cX6_give 12 = .ok (.dup, 1) := by decide +kernel
theorem dX6_give_13 : decode cX6_give 13 = .ok (.ldc 195, 2) := by decide +kernel
theorem dX6_give_15 : decode cX6_give 15 = .ok (.invokespecial 130, 3) := by decide +kernel
theorem dX6_give_18 : decode cX6_give 18 = .ok (.athrow, 1) := by decide +kernel
theorem dX6_give_19 : decode cX6_give 19 = .ok (.aload_n 0, 1) := by decide +kernel
theorem dX6_give_20 : decode cX6_give 20 = .ok (.iload_n 2, 1) := by decide +kernel
theorem dX6_give_21 : decode cX6_give 21 = .ok (.invokevirtual 179, 3) := by decide +kernel
theorem dX6_give_24 : decode cX6_give 24 = .ok (.aload_n 0, 1) := by decide +kernel
theorem dX6_give_25 : decode cX6_give 25 = .ok (.iload_n 3, 1) := by decide +kernel
theorem dX6_give_26 : decode cX6_give 26 = .ok (.iconst 0, 1) := by decide +kernel
theorem dX6_give_27 : decode cX6_give 27 = .ok (.bipush 10, 2) := by decide +kernel
theorem dX6_give_29 : decode cX6_give 29 = .ok (.invokevirtual 68, 3) := by decide +kernel
theorem dX6_give_32 : decode cX6_give 32 = .ok (.aload_n 0, 1) := by decide +kernel
theorem dX6_give_33 : decode cX6_give 33 = .ok (.getfield 19, 3) := by decide +kernel
theorem dX6_give_36 : decode cX6_give 36 = .ok (.getfield 197, 3) := by decide +kernel
theorem dX6_give_39 : decode cX6_give 39 = .ok (.iload_n 1, 1) := by decide +kernel
theorem dX6_give_40 : decode cX6_give 40 = .ok (.aaload, 1) := by decide +kernel
theorem dX6_give_41 : decode cX6_give 41 = .ok (.iload_n 2, 1) := by decide +kernel
theorem dX6_give_42 : decode cX6_give 42 = .ok (.iaload, 1) := by decide +kernel
theorem dX6_give_43 : decode cX6_give 43 = .ok (.istore 4, 2) := by decide +kernel
theorem dX6_give_45 : decode cX6_give 45 = .ok (.aload_n 0, 1) := by decide +kernel
theorem dX6_give_46 : decode cX6_give 46 = .ok (.getfield 19, 3) := by decide +kernel
theorem dX6_give_49 : decode cX6_give 49 = .ok (.getfield 197, 3) := by decide +kernel
theorem dX6_give_52 : decode cX6_give 52 = .ok (.iload_n 1, 1) := by decide +kernel
theorem dX6_give_53 : decode cX6_give 53 = .ok (.aaload, 1) := by decide +kernel
theorem dX6_give_54 : decode cX6_give 54 = .ok (.iload_n 2, 1) := by decide +kernel
theorem dX6_give_55 : decode cX6_give 55 = .ok (.iload_n 3, 1) := by decide +kernel
theorem dX6_give_56 : decode cX6_give 56 = .ok (.iastore, 1) := by decide +kernel
theorem dX6_give_57 : decode cX6_give 57 = .ok (.iload 4, 2) := by decide +kernel
theorem dX6_give_59 : decode cX6_give 59 = .ok (.ireturn, 1) := by decide +kernel
theorem dX6_copy_0 : decode cX6_copy 0 = .ok (.aload_n 0, 1) := by decide +kernel
theorem dX6_copy_1 : decode cX6_copy 1 = .ok (.iload_n 1, 1) := by decide +kernel
theorem dX6_copy_2 : decode cX6_copy 2 = .ok (.invokevirtual 201, 3) := by decide +kernel
theorem dX6_copy_5 : decode cX6_copy 5 = .ok (.aload_n 0, 1) := by decide +kernel
theorem dX6_copy_6 : decode cX6_copy 6 = .ok (.invokevirtual 204, 3) := by decide +kernel
theorem dX6_copy_9 : decode cX6_copy 9 = .ok (.aload_n 0, 1) := by decide +kernel
theorem dX6_copy_10 : decode cX6_copy 10 = .ok (.getfield 120, 3) := by decide +kernel
theorem dX6_copy_13 : decode cX6_copy 13 = .ok (.bipush 8, 2) := by decide +kernel
theorem dX6_copy_15 : decode cX6_copy 15 = .ok (.if_icmp .lt 13, 3) := by decide +kernel
theorem dX6_copy_18 : decode cX6_copy 18 = .ok (.new 76, 3) := by decide +kernel
theorem dX6_copy_21 : decode cX6_copy 21 = .ok (.dup, 1) := by decide +kernel
theorem dX6_copy_22 : decode cX6_copy 22 = .ok (.ldc 207, 2) := by decide +kernel
theorem dX6_copy_24 : decode cX6_copy 24 = .ok (.invokespecial 80, 3) := by decide +kernel
theorem dX6_copy_27 : decode cX6_copy 27 = .ok (.athrow, 1) := by decide +kernel
theorem dX6_copy_28 : decode cX6_copy 28 = .ok (.aload_n 0, 1) := by decide +kernel
theorem dX6_copy_29 : decode cX6_copy 29 = .ok (.aload_n 0, 1) := by decide +kernel
theorem dX6_copy_30 : decode cX6_copy 30 = .ok (.getfield 59, 3) := by decide +kernel
theorem dX6_copy_33 : decode cX6_copy 33 = .ok (.aload_n 0, 1) := by decide +kernel
theorem dX6_copy_34 : decode cX6_copy 34 = .ok (.getfield 120, 3) := by decide +kernel
theorem dX6_copy_37 : decode cX6_copy 37 = .ok (.aaload, 1) := by decide +kernel
theorem dX6_copy_38 : decode cX6_copy 38 = .ok (.iload_n 1, 1) := by decide +kernel
theorem dX6_copy_39 : decode cX6_copy 39 = .ok (.invokevirtual 209, 3) := by decide +kernel
theorem dX6_copy_42 : decode cX6_copy 42 = .ok (.aload_n 0, 1) := by decide +kernel
theorem dX6_copy_43 : decode cX6_copy 43 = .ok (.dup, 1) := by decide +kernel
theorem dX6_copy_44 : decode cX6_copy 44 = .ok (.getfield 120, 3) := by decide +kernel
theorem dX6_copy_47 : decode cX6_copy 47 = .ok (.iconst 1, 1) := by decide +kernel
theorem dX6_copy_48 : decode cX6_copy 48 = .ok (.iadd, 1) := by decide +kernel
theorem dX6_copy_49 : decode cX6_copy 49 = .ok (.putfield 120, 3) := by decide +kernel
theorem dX6_copy_52 : decode cX6_copy 52 = .ok (.aload_n 0, 1) := by decide +kernel
theorem dX6_copy_53 : decode cX6_copy 53 = .ok (.getfield 120, 3) := by decide +kernel
theorem dX6_copy_56 : decode cX6_copy 56 = .ok (.iconst 1, 1) := by decide +kernel
theorem dX6_copy_57 : decode cX6_copy 57 = .ok (.isub, 1) := by decide +kernel
theorem dX6_copy_58 : decode cX6_copy 58 = .ok (.ireturn, 1) := by decide +kernel
theorem dX6_write_0 : decode cX6_write 0 = .ok (.aload_n 0, 1) := by decide +kernel
theorem dX6_write_1 : decode cX6_write 1 = .ok (.iload_n 1, 1) := by decide +kernel
theorem dX6_write_2 : decode cX6_write 2 = .ok (.invokevirtual 213, 3) := by decide +kernel
theorem dX6_write_5 : decode cX6_write 5 = .ok (.aload_n 0, 1) := by decide +kernel
theorem dX6_write_6 : decode cX6_write 6 = .ok (.iload 4, 2) := by decide +kernel
theorem dX6_write_8 : decode cX6_write 8 = .ok (.invokevirtual 87, 3) := by decide +kernel
theorem dX6_write_11 : decode cX6_write 11 = .ok (.aload_n 0, 1) := by decide +kernel
theorem dX6_write_12 : decode cX6_write 12 = .ok (.iload_n 1, 1) := by decide +kernel
theorem dX6_write_13 : decode cX6_write 13 = .ok (.iload_n 2, 1) := by decide +kernel
theorem dX6_write_14 : decode cX6_write 14 = .ok (.iload_n 3, 1) := by decide +kernel
theorem dX6_write_15 : decode cX6_write 15 = .ok (.invokevirtual 216, 3) := by decide +kernel
theorem dX6_write_18 : decode cX6_write 18 = .ok (.istore 5, 2) := by decide +kernel
theorem dX6_write_20 : decode cX6_write 20 = .ok (.iload 5, 2) := by decide +kernel
theorem dX6_write_22 : decode cX6_write 22 = .ok (.iconst (-1), 1) := by decide +kernel
theorem dX6_write_23 : decode cX6_write 23 = .ok (.if_icmp .ne 13, 3) := by decide +kernel
theorem dX6_write_26 : decode cX6_write 26 = .ok (.new 126, 3) := by decide +kernel
theorem dX6_write_29 : decode cX6_write 29 = .ok (.dup, 1) := by decide +kernel
theorem dX6_write_30 : decode cX6_write 30 = .ok (.ldc 219, 2) := by decide +kernel
theorem dX6_write_32 : decode cX6_write 32 = .ok (.invokespecial 130, 3) := by decide +kernel
theorem dX6_write_35 : decode cX6_write 35 = .ok (.athrow, 1) := by decide +kernel
theorem dX6_write_36 : decode cX6_write 36 = .ok (.aload_n 0, 1) := by decide +kernel
theorem dX6_write_37 : decode cX6_write 37 = .ok (.getfield 59, 3) := by decide +kernel
theorem dX6_write_40 : decode cX6_write 40 = .ok (.iload_n 1, 1) := by decide +kernel
theorem dX6_write_41 : decode cX6_write 41 = .ok (.aaload, 1) := by decide +kernel
theorem dX6_write_42 : decode cX6_write 42 = .ok (.iload_n 2, 1) := by decide +kernel
theorem dX6_write_43 : decode cX6_write 43 = .ok (.iload_n 3, 1) := by decide +kernel
theorem dX6_write_44 : decode cX6_write 44 = .ok (.iload 4, 2) := by decide +kernel
theorem dX6_write_46 : decode cX6_write 46 = .ok (.invokevirtual 221, 3) := by decide +kernel
theorem dX6_write_49 : decode cX6_write 49 = .ok (.iload 5, 2) := by decide +kernel
theorem dX6_write_51 : decode cX6_write 51 = .ok (.ireturn, 1) := by decide +kernel
theorem dX6_hide_0 : decode cX6_hide 0 = .ok (.aload_n 0, 1) := by decide +kernel
theorem dX6_hide_1 : decode cX6_hide 1 = .ok (.iload_n 1, 1) := by decide +kernel
theorem dX6_hide_2 : decode cX6_hide 2 = .ok (.invokevirtual 179, 3) := by decide +kernel
theorem dX6_hide_5 : decode cX6_hide 5 = .ok (.aload_n 0, 1) := by decide +kernel
theorem dX6_hide_6 : decode cX6_hide 6 = .ok (.getfield 19, 3) := by decide +kernel
theorem dX6_hide_9 : decode cX6_hide 9 = .ok (.getfield 223, 3) := by decide +kernel
theorem dX6_hide_12 : decode cX6_hide 12 = .ok (.iload_n 1, 1) := by decide +kernel
theorem dX6_hide_13 : decode cX6_hide 13 = .ok (.baload, 1) := by decide +kernel
theorem dX6_hide_14 : decode cX6_hide 14 = .ok (.istore_n 3, 1) := by decide +kernel
theorem dX6_hide_15 : decode cX6_hide 15 = .ok (.aload_n 0, 1) := by decide +kernel
theorem dX6_hide_16 : decode cX6_hide 16 = .ok (.getfield 19, 3) := by decide +kernel
theorem dX6_hide_19 : decode cX6_hide 19 = .ok (.getfield 223, 3) := by decide +kernel
theorem dX6_hide_22 : decode cX6_hide 22 = .ok (.iload_n 1, 1) := by decide +kernel
theorem dX6_hide_23 : decode cX6_hide 23 = .ok (.iload_n 2, 1) := by decide +kernel
theorem dX6_hide_24 : decode cX6_hide 24 = .ok (.bastore, 1) := by decide +kernel
theorem dX6_hide_25 : decode cX6_hide 25 = .ok (.iload_n 3, 1) := by decide +kernel
theorem dX6_hide_26 : decode cX6_hide 26 = .ok (.ireturn, 1) := by decide +kernel
theorem dX6_links_0 : decode cX6_links 0 = .ok (.aload_n 0, 1) := by decide +kernel
theorem dX6_links_1 : decode cX6_links 1 = .ok (.getfield 19, 3) := by decide +kernel
theorem dX6_links_4 : decode cX6_links 4 = .ok (.getfield 108, 3) := by decide +kernel
theorem dX6_links_7 : decode cX6_links 7 = .ok (.ireturn, 1) := by decide +kernel
theorem dX6_offers_0 : decode cX6_offers 0 = .ok (.aload_n 0, 1) := by decide +kernel
theorem dX6_offers_1 : decode cX6_offers 1 = .ok (.getfield 117, 3) := by decide +kernel
theorem dX6_offers_4 : decode cX6_offers 4 = .ok (.ireturn, 1) := by decide +kernel
theorem dX6_ofLink_0 : decode cX6_ofLink 0 = .ok (.aload_n 0, 1) := by decide +kernel
theorem dX6_ofLink_1 : decode cX6_ofLink 1 = .ok (.iload_n 1, 1) := by decide +kernel
theorem dX6_ofLink_2 : decode cX6_ofLink 2 = .ok (.invokevirtual 179, 3) := by decide +kernel
theorem dX6_ofLink_5 : decode cX6_ofLink 5 = .ok (.aload_n 0, 1) := by decide +kernel
theorem dX6_ofLink_6 : decode cX6_ofLink 6 = .ok (.iload_n 2, 1) := by decide +kernel
theorem dX6_ofLink_7 : decode cX6_ofLink 7 = .ok (.iconst 0, 1) := by decide +kernel
theorem dX6_ofLink_8 : decode cX6_ofLink 8 = .ok (.iconst 5, 1) := by decide +kernel
theorem dX6_ofLink_9 : decode cX6_ofLink 9 = .ok (.invokevirtual 68, 3) := by decide +kernel
theorem dX6_ofLink_12 : decode cX6_ofLink 12 = .ok (.iload_n 2, 1) := by decide +kernel
theorem dX6_ofLink_13 : decode cX6_ofLink 13 = .ok (.tableswitch 100 0 4 #[35, 60, 69, 78, 91], 35) := by decide +kernel
theorem dX6_ofLink_48 : decode cX6_ofLink 48 = .ok (.aload_n 0, 1) := by decide +kernel
theorem dX6_ofLink_49 : decode cX6_ofLink 49 = .ok (.getfield 19, 3) := by decide +kernel
theorem dX6_ofLink_52 : decode cX6_ofLink 52 = .ok (.getfield 223, 3) := by decide +kernel
theorem dX6_ofLink_55 : decode cX6_ofLink 55 = .ok (.iload_n 1, 1) := by decide +kernel
theorem dX6_ofLink_56 : decode cX6_ofLink 56 = .ok (.baload, 1) := by decide +kernel
theorem dX6_ofLink_57 : decode cX6_ofLink 57 = .ok (.ifCond .eq 7, 3) := by decide +kernel
theorem dX6_ofLink_60 : decode cX6_ofLink 60 = .ok (.iconst (-1), 1) := by decide +kernel
theorem dX6_ofLink_61 : decode cX6_ofLink 61 = .ok (.goto 11, 3) := by decide +kernel
theorem dX6_ofLink_64 : decode cX6_ofLink 64 = .ok (.aload_n 0, 1) := by decide +kernel
theorem dX6_ofLink_65 : decode cX6_ofLink 65 = .ok (.getfield 19, 3) := by decide +kernel
theorem dX6_ofLink_68 : decode cX6_ofLink 68 = .ok (.iload_n 1, 1) := by decide +kernel
theorem dX6_ofLink_69 : decode cX6_ofLink 69 = .ok (.invokevirtual 227, 3) := by decide +kernel
theorem dX6_ofLink_72 : decode cX6_ofLink 72 = .ok (.ireturn, 1) := by decide +kernel
theorem dX6_ofLink_73 : decode cX6_ofLink 73 = .ok (.aload_n 0, 1) := by decide +kernel
theorem dX6_ofLink_74 : decode cX6_ofLink 74 = .ok (.getfield 19, 3) := by decide +kernel
theorem dX6_ofLink_77 : decode cX6_ofLink 77 = .ok (.iload_n 1, 1) := by decide +kernel
theorem dX6_ofLink_78 : decode cX6_ofLink 78 = .ok (.invokevirtual 230, 3) := by decide +kernel
theorem dX6_ofLink_81 : decode cX6_ofLink 81 = .ok (.ireturn, 1) := by decide +kernel
theorem dX6_ofLink_82 : decode cX6_ofLink 82 = .ok (.aload_n 0, 1) := by decide +kernel
theorem dX6_ofLink_83 : decode cX6_ofLink 83 = .ok (.getfield 19, 3) := by decide +kernel
theorem dX6_ofLink_86 : decode cX6_ofLink 86 = .ok (.iload_n 1, 1) := by decide +kernel
theorem dX6_ofLink_87 : decode cX6_ofLink 87 = .ok (.invokevirtual 233, 3) := by decide +kernel
theorem dX6_ofLink_90 : decode cX6_ofLink 90 = .ok (.ireturn, 1) := by decide +kernel
theorem dX6_ofLink_91 : decode cX6_ofLink 91 = .ok (.aload_n 0, 1) := by decide +kernel
theorem dX6_ofLink_92 : decode cX6_ofLink 92 = .ok (.getfield 19, 3) := by decide +kernel
theorem dX6_ofLink_95 : decode cX6_ofLink 95 = .ok (.getfield 185, 3) := by decide +kernel
theorem dX6_ofLink_98 : decode cX6_ofLink 98 = .ok (.iload_n 1, 1) := by decide +kernel
theorem dX6_ofLink_99 : decode cX6_ofLink 99 = .ok (.aaload, 1) := by decide +kernel
theorem dX6_ofLink_100 : decode cX6_ofLink 100 = .ok (.getfield 142, 3) := by decide +kernel
theorem dX6_ofLink_103 : decode cX6_ofLink 103 = .ok (.ireturn, 1) := by decide +kernel
theorem dX6_ofLink_104 : decode cX6_ofLink 104 = .ok (.aload_n 0, 1) := by decide +kernel
theorem dX6_ofLink_105 : decode cX6_ofLink 105 = .ok (.getfield 19, 3) := by decide +kernel
theorem dX6_ofLink_108 : decode cX6_ofLink 108 = .ok (.iload_n 1, 1) := by decide +kernel
theorem dX6_ofLink_109 : decode cX6_ofLink 109 = .ok (.invokevirtual 236, 3) := by decide +kernel
theorem dX6_ofLink_112 : decode cX6_ofLink 112 = .ok (.ireturn, 1) := by decide +kernel
theorem dX6_ofLink_113 : decode cX6_ofLink 113 = .ok (.aload_n 0, 1) := by decide +kernel
theorem dX6_ofLink_114 : decode cX6_ofLink 114 = .ok (.getfield 19, 3) := by decide +kernel
theorem dX6_ofLink_117 : decode cX6_ofLink 117 = .ok (.getfield 239, 3) := by decide +kernel
theorem dX6_ofLink_120 : decode cX6_ofLink 120 = .ok (.iload_n 1, 1) := by decide +kernel
theorem dX6_ofLink_121 : decode cX6_ofLink 121 = .ok (.baload, 1) := by decide +kernel
theorem dX6_ofLink_122 : decode cX6_ofLink 122 = .ok (.ifCond .eq 7, 3) := by decide +kernel
theorem dX6_ofLink_125 : decode cX6_ofLink 125 = .ok (.iconst 1, 1) := by decide +kernel
theorem dX6_ofLink_126 : decode cX6_ofLink 126 = .ok (.goto 4, 3) := by decide +kernel
theorem dX6_ofLink_129 : decode cX6_ofLink 129 = .ok (.iconst 0, 1) := by decide +kernel
theorem dX6_ofLink_130 : decode cX6_ofLink 130 = .ok (.ireturn, 1) := by decide +kernel
theorem dX6_wordAt_0 : decode cX6_wordAt 0 = .ok (.aload_n 0, 1) := by decide +kernel
theorem dX6_wordAt_1 : decode cX6_wordAt 1 = .ok (.iload_n 1, 1) := by decide +kernel
theorem dX6_wordAt_2 : decode cX6_wordAt 2 = .ok (.invokevirtual 179, 3) := by decide +kernel
theorem dX6_wordAt_5 : decode cX6_wordAt 5 = .ok (.aload_n 0, 1) := by decide +kernel
theorem dX6_wordAt_6 : decode cX6_wordAt 6 = .ok (.iload_n 1, 1) := by decide +kernel
theorem dX6_wordAt_7 : decode cX6_wordAt 7 = .ok (.iload_n 2, 1) := by decide +kernel
theorem dX6_wordAt_8 : decode cX6_wordAt 8 = .ok (.invokevirtual 182, 3) := by decide +kernel
theorem dX6_wordAt_11 : decode cX6_wordAt 11 = .ok (.aload_n 0, 1) := by decide +kernel
theorem dX6_wordAt_12 : decode cX6_wordAt 12 = .ok (.getfield 19, 3) := by decide +kernel
theorem dX6_wordAt_15 : decode cX6_wordAt 15 = .ok (.iload_n 1, 1) := by decide +kernel
theorem dX6_wordAt_16 : decode cX6_wordAt 16 = .ok (.iload_n 2, 1) := by decide +kernel
theorem dX6_wordAt_17 : decode cX6_wordAt 17 = .ok (.invokevirtual 242, 3) := by decide +kernel
theorem dX6_wordAt_20 : decode cX6_wordAt 20 = .ok (.ireturn, 1) := by decide +kernel
theorem dX6_faultAnew_0 : decode cX6_faultAnew 0 = .ok (.aload_n 0, 1) := by decide +kernel
theorem dX6_faultAnew_1 : decode cX6_faultAnew 1 = .ok (.iload_n 1, 1) := by decide +kernel
theorem dX6_faultAnew_2 : decode cX6_faultAnew 2 = .ok (.invokevirtual 179, 3) := by decide +kernel
theorem dX6_faultAnew_5 : decode cX6_faultAnew 5 = .ok (.aload_n 0, 1) := by decide +kernel
theorem dX6_faultAnew_6 : decode cX6_faultAnew 6 = .ok (.getfield 28, 3) := by decide +kernel
theorem dX6_faultAnew_9 : decode cX6_faultAnew 9 = .ok (.aload_n 0, 1) := by decide +kernel
theorem dX6_faultAnew_10 : decode cX6_faultAnew 10 = .ok (.getfield 19, 3) := by decide +kernel
theorem dX6_faultAnew_13 : decode cX6_faultAnew 13 = .ok (.getfield 185, 3) := by decide +kernel
theorem dX6_faultAnew_16 : decode cX6_faultAnew 16 = .ok (.iload_n 1, 1) := by decide +kernel
theorem dX6_faultAnew_17 : decode cX6_faultAnew 17 = .ok (.aaload, 1) := by decide +kernel
theorem dX6_faultAnew_18 : decode cX6_faultAnew 18 = .ok (.iload_n 1, 1) := by decide +kernel
theorem dX6_faultAnew_19 : decode cX6_faultAnew 19 = .ok (.aload_n 0, 1) := by decide +kernel
theorem dX6_faultAnew_20 : decode cX6_faultAnew 20 = .ok (.getfield 19, 3) := by decide +kernel
theorem dX6_faultAnew_23 : decode cX6_faultAnew 23 = .ok (.iload_n 1, 1) := by decide +kernel
theorem dX6_faultAnew_24 : decode cX6_faultAnew 24 = .ok (.invokevirtual 227, 3) := by decide +kernel
theorem dX6_faultAnew_27 : decode cX6_faultAnew 27 = .ok (.invokevirtual 161, 3) := by decide +kernel
theorem dX6_faultAnew_30 : decode cX6_faultAnew 30 = .ok (.ireturn, 1) := by decide +kernel
theorem dX6_chances_0 : decode cX6_chances 0 = .ok (.aload_n 0, 1) := by decide +kernel
theorem dX6_chances_1 : decode cX6_chances 1 = .ok (.iload_n 1, 1) := by decide +kernel
theorem dX6_chances_2 : decode cX6_chances 2 = .ok (.invokevirtual 154, 3) := by decide +kernel
theorem dX6_chances_5 : decode cX6_chances 5 = .ok (.aload_n 0, 1) := by decide +kernel
theorem dX6_chances_6 : decode cX6_chances 6 = .ok (.getfield 19, 3) := by decide +kernel
theorem dX6_chances_9 : decode cX6_chances 9 = .ok (.invokevirtual 105, 3) := by decide +kernel
theorem dX6_chances_12 : decode cX6_chances 12 = .ok (.ifCond .ne 5, 3) := by decide +kernel
theorem dX6_chances_15 : decode cX6_chances 15 = .ok (.iconst 0, 1) := by decide +kernel
theorem dX6_chances_16 : decode cX6_chances 16 = .ok (.ireturn, 1) := by decide +kernel
theorem dX6_chances_17 : decode cX6_chances 17 = .ok (.iconst 0, 1) := by decide +kernel
theorem dX6_chances_18 : decode cX6_chances 18 = .ok (.istore_n 2, 1) := by decide +kernel
theorem dX6_chances_19 : decode cX6_chances 19 = .ok (.iconst 0, 1) := by decide +kernel
theorem dX6_chances_20 : decode cX6_chances 20 = .ok (.istore_n 3, 1) := by decide +kernel
theorem dX6_chances_21 : decode cX6_chances 21 = .ok (.iload_n 3, 1) := by decide +kernel
theorem dX6_chances_22 : decode cX6_chances 22 = .ok (.aload_n 0, 1) := by decide +kernel
theorem dX6_chances_23 : decode cX6_chances 23 = .ok (.getfield 13, 3) := by decide +kernel
theorem dX6_chances_26 : decode cX6_chances 26 = .ok (.getfield 246, 3) := by decide +kernel
theorem dX6_chances_29 : decode cX6_chances 29 = .ok (.if_icmp .ge 51, 3) := by decide +kernel
theorem dX6_chances_32 : decode cX6_chances 32 = .ok (.iload_n 2, 1) := by decide +kernel
theorem dX6_chances_33 : decode cX6_chances 33 = .ok (.aload_n 0, 1) := by decide +kernel
theorem dX6_chances_34 : decode cX6_chances 34 = .ok (.iload_n 3, 1) := by decide +kernel
theorem dX6_chances_35 : decode cX6_chances 35 = .ok (.iconst (-1), 1) := by decide +kernel
theorem dX6_chances_36 : decode cX6_chances 36 = .ok (.iload_n 1, 1) := by decide +kernel
theorem dX6_chances_37 : decode cX6_chances 37 = .ok (.invokevirtual 249, 3) := by decide +kernel
theorem dX6_chances_40 : decode cX6_chances 40 = .ok (.iadd, 1) := by decide +kernel
theorem dX6_chances_41 : decode cX6_chances 41 = .ok (.istore_n 2, 1) := by decide +kernel
theorem dX6_chances_42 : decode cX6_chances 42 = .ok (.iconst 0, 1) := by decide +kernel
theorem dX6_chances_43 : decode cX6_chances 43 = .ok (.istore 4, 2) := by decide +kernel
theorem dX6_chances_45 : decode cX6_chances 45 = .ok (.iload 4, 2) := by decide +kernel
theorem dX6_chances_47 : decode cX6_chances 47 = .ok (.aload_n 0, 1) := by decide +kernel
theorem dX6_chances_48 : decode cX6_chances 48 = .ok (.getfield 13, 3) := by decide +kernel
theorem dX6_chances_51 : decode cX6_chances 51 = .ok (.getfield 246, 3) := by decide +kernel
theorem dX6_chances_54 : decode cX6_chances 54 = .ok (.if_icmp .ge 20, 3) := by decide +kernel
theorem dX6_chances_57 : decode cX6_chances 57 = .ok (.iload_n 2, 1) := by decide +kernel
theorem dX6_chances_58 : decode cX6_chances 58 = .ok (.aload_n 0, 1) := by decide +kernel
theorem dX6_chances_59 : decode cX6_chances 59 = .ok (.iload_n 3, 1) := by decide +kernel
theorem dX6_chances_60 : decode cX6_chances 60 = .ok (.iload 4, 2) := by decide +kernel
theorem dX6_chances_62 : decode cX6_chances 62 = .ok (.iload_n 1, 1) := by decide +kernel
theorem dX6_chances_63 : decode cX6_chances 63 = .ok (.invokevirtual 249, 3) := by decide +kernel
theorem dX6_chances_66 : decode cX6_chances 66 = .ok (.iadd, 1) := by decide +kernel
theorem dX6_chances_67 : decode cX6_chances 67 = .ok (.istore_n 2, 1) := by decide +kernel
theorem dX6_chances_68 : decode cX6_chances 68 = .ok (.iinc 4 1, 3) := by decide +kernel
theorem dX6_chances_71 : decode cX6_chances 71 = .ok (.goto (-26), 3) := by decide +kernel
theorem dX6_chances_74 : decode cX6_chances 74 = .ok (.iinc 3 1, 3) := by decide +kernel
theorem dX6_chances_77 : decode cX6_chances 77 = .ok (.goto (-56), 3) := by decide +kernel
theorem dX6_chances_80 : decode cX6_chances 80 = .ok (.iload_n 2, 1) := by decide +kernel
theorem dX6_chances_81 : decode cX6_chances 81 = .ok (.ireturn, 1) := by decide +kernel
theorem dX6_prize_0 : decode cX6_prize 0 = .ok (.aload_n 0, 1) := by decide +kernel
theorem dX6_prize_1 : decode cX6_prize 1 = .ok (.getfield 45, 3) := by decide +kernel
theorem dX6_prize_4 : decode cX6_prize 4 = .ok (.invokevirtual 252, 3) := by decide +kernel
theorem dX6_prize_7 : decode cX6_prize 7 = .ok (.iconst 0, 1) := by decide +kernel
theorem dX6_prize_8 : decode cX6_prize 8 = .ok (.istore_n 1, 1) := by decide +kernel
theorem dX6_prize_9 : decode cX6_prize 9 = .ok (.iload_n 1, 1) := by decide +kernel
theorem dX6_prize_10 : decode cX6_prize 10 = .ok (.aload_n 0, 1) := by decide +kernel
theorem dX6_prize_11 : decode cX6_prize 11 = .ok (.getfield 19, 3) := by decide +kernel
theorem dX6_prize_14 : decode cX6_prize 14 = .ok (.getfield 108, 3) := by decide +kernel
theorem dX6_prize_17 : decode cX6_prize 17 = .ok (.if_icmp .ge 53, 3) := by decide +kernel
theorem dX6_prize_20 : decode cX6_prize 20 = .ok (.iconst 0, 1) := by decide +kernel
theorem dX6_prize_21 : decode cX6_prize 21 = .ok (.istore_n 2, 1) := by decide +kernel
theorem dX6_prize_22 : decode cX6_prize 22 = .ok (.iload_n 2, 1) := by decide +kernel
theorem dX6_prize_23 : decode cX6_prize 23 = .ok (.iconst 4, 1) := by decide +kernel
theorem dX6_prize_24 : decode cX6_prize 24 = .ok (.if_icmp .ge 40, 3) := by decide +kernel
theorem dX6_prize_27 : decode cX6_prize 27 = .ok (.aload_n 0, 1) := by decide +kernel
theorem dX6_prize_28 : decode cX6_prize 28 = .ok (.getfield 19, 3) := by decide +kernel
theorem dX6_prize_31 : decode cX6_prize 31 = .ok (.iload_n 2, 1) := by decide +kernel
theorem dX6_prize_32 : decode cX6_prize 32 = .ok (.iload_n 1, 1) := by decide +kernel
theorem dX6_prize_33 : decode cX6_prize 33 = .ok (.invokevirtual 255, 3) := by decide +kernel
theorem dX6_prize_36 : decode cX6_prize 36 = .ok (.istore_n 3, 1) := by decide +kernel
theorem dX6_prize_37 : decode cX6_prize 37 = .ok (.iload_n 3, 1) := by decide +kernel
theorem dX6_prize_38 : decode cX6_prize 38 = .ok (.iconst (-1), 1) := by decide +kernel
theorem dX6_prize_39 : decode cX6_prize 39 = .ok (.if_icmp .eq 19, 3) := by decide +kernel
theorem dX6_prize_42 : decode cX6_prize 42 = .ok (.aload_n 0, 1) := by decide +kernel
theorem dX6_prize_43 : decode cX6_prize 43 = .ok (.getfield 45, 3) := by decide +kernel
theorem dX6_prize_46 : decode cX6_prize 46 = .ok (.aload_n 0, 1) := by decide +kernel
theorem dX6_prize_47 : decode cX6_prize 47 = .ok (.getfield 19, 3) := by decide +kernel
theorem dX6_prize_50 : decode cX6_prize 50 = .ok (.iload_n 1, 1) := by decide +kernel
theorem dX6_prize_51 : decode cX6_prize 51 = .ok (.invokevirtual 227, 3) := by decide +kernel
theorem dX6_prize_54 : decode cX6_prize 54 = .ok (.iload_n 3, 1) := by decide +kernel
theorem dX6_prize_55 : decode cX6_prize 55 = .ok (.invokevirtual 258, 3) := by decide +kernel
theorem dX6_prize_58 : decode cX6_prize 58 = .ok (.iinc 2 1, 3) := by decide +kernel
theorem dX6_prize_61 : decode cX6_prize 61 = .ok (.goto (-39), 3) := by decide +kernel
theorem dX6_prize_64 : decode cX6_prize 64 = .ok (.iinc 1 1, 3) := by decide +kernel
theorem dX6_prize_67 : decode cX6_prize 67 = .ok (.goto (-58), 3) := by decide +kernel
theorem dX6_prize_70 : decode cX6_prize 70 = .ok (.aload_n 0, 1) := by decide +kernel
theorem dX6_prize_71 : decode cX6_prize 71 = .ok (.getfield 45, 3) := by decide +kernel
theorem dX6_prize_74 : decode cX6_prize 74 = .ok (.invokevirtual 261, 3) := by decide +kernel
theorem dX6_prize_77 : decode cX6_prize 77 = .ok (.ireturn, 1) := by decide +kernel
theorem dX6_far_0 : decode cX6_far 0 = .ok (.aload_n 0, 1) := by decide +kernel
theorem dX6_far_1 : decode cX6_far 1 = .ok (.iload_n 1, 1) := by decide +kernel
theorem dX6_far_2 : decode cX6_far 2 = .ok (.invokevirtual 201, 3) := by decide +kernel
theorem dX6_far_5 : decode cX6_far 5 = .ok (.aload_n 0, 1) := by decide +kernel
theorem dX6_far_6 : decode cX6_far 6 = .ok (.iload_n 2, 1) := by decide +kernel
theorem dX6_far_7 : decode cX6_far 7 = .ok (.invokevirtual 201, 3) := by decide +kernel
theorem dX6_far_10 : decode cX6_far 10 = .ok (.aload_n 0, 1) := by decide +kernel
theorem dX6_far_11 : decode cX6_far 11 = .ok (.invokevirtual 204, 3) := by decide +kernel
theorem dX6_far_14 : decode cX6_far 14 = .ok (.aload_n 0, 1) := by decide +kernel
theorem dX6_far_15 : decode cX6_far 15 = .ok (.iload_n 1, 1) := by decide +kernel
theorem dX6_far_16 : decode cX6_far 16 = .ok (.iload_n 2, 1) := by decide +kernel
theorem dX6_far_17 : decode cX6_far 17 = .ok (.invokevirtual 265, 3) := by decide +kernel
theorem dX6_far_20 : decode cX6_far 20 = .ok (.ireturn, 1) := by decide +kernel
theorem dX6_source_0 : decode cX6_source 0 = .ok (.aload_n 0, 1) := by decide +kernel
theorem dX6_source_1 : decode cX6_source 1 = .ok (.iload_n 1, 1) := by decide +kernel
theorem dX6_source_2 : decode cX6_source 2 = .ok (.invokevirtual 213, 3) := by decide +kernel
theorem dX6_source_5 : decode cX6_source 5 = .ok (.iconst (-1), 1) := by decide +kernel
theorem dX6_source_6 : decode cX6_source 6 = .ok (.istore_n 2, 1) := by decide +kernel
theorem dX6_source_7 : decode cX6_source 7 = .ok (.aload_n 0, 1) := by decide +kernel
theorem dX6_source_8 : decode cX6_source 8 = .ok (.iload_n 1, 1) := by decide +kernel
theorem dX6_source_9 : decode cX6_source 9 = .ok (.iconst (-1), 1) := by decide +kernel
theorem dX6_source_10 : decode cX6_source 10 = .ok (.invokevirtual 265, 3) := by decide +kernel
theorem dX6_source_13 : decode cX6_source 13 = .ok (.istore_n 3, 1) := by decide +kernel
theorem dX6_source_14 : decode cX6_source 14 = .ok (.iconst 0, 1) := by decide +kernel
theorem dX6_source_15 : decode cX6_source 15 = .ok (.istore 4, 2) := by decide +kernel
theorem dX6_source_17 : decode cX6_source 17 = .ok (.iload 4, 2) := by decide +kernel
theorem dX6_source_19 : decode cX6_source 19 = .ok (.aload_n 0, 1) := by decide +kernel
theorem dX6_source_20 : decode cX6_source 20 = .ok (.getfield 120, 3) := by decide +kernel
theorem dX6_source_23 : decode cX6_source 23 = .ok (.if_icmp .ge 36, 3) := by decide +kernel
theorem dX6_source_26 : decode cX6_source 26 = .ok (.aload_n 0, 1) := by decide +kernel
theorem dX6_source_27 : decode cX6_source 27 = .ok (.iload_n 1, 1) := by decide +kernel
theorem dX6_source_28 : decode cX6_source 28 = .ok (.iload 4, 2) := by decide +kernel
theorem dX6_source_30 : decode cX6_source 30 = .ok (.invokevirtual 265, 3) := by decide +kernel
theorem dX6_source_33 : decode cX6_source 33 = .ok (.istore 5, 2) := by decide +kernel
theorem dX6_source_35 : decode cX6_source 35 = .ok (.iload 4, 2) := by decide +kernel
theorem dX6_source_37 : decode cX6_source 37 = .ok (.iload_n 1, 1) := by decide +kernel
theorem dX6_source_38 : decode cX6_source 38 = .ok (.if_icmp .eq 15, 3) := by decide +kernel
theorem dX6_source_41 : decode cX6_source 41 = .ok (.iload 5, 2) := by decide +kernel
theorem dX6_source_43 : decode cX6_source 43 = .ok (.iload_n 3, 1) := by decide +kernel
theorem dX6_source_44 : decode cX6_source 44 = .ok (.if_icmp .ge 9, 3) := by decide +kernel
theorem dX6_source_47 : decode cX6_source 47 = .ok (.iload 4, 2) := by decide +kernel
theorem dX6_source_49 : decode cX6_source 49 = .ok (.istore_n 2, 1) := by decide +kernel
theorem dX6_source_50 : decode cX6_source 50 = .ok (.iload 5, 2) := by decide +kernel
theorem dX6_source_52 : decode cX6_source 52 = .ok (.istore_n 3, 1) := by decide +kernel
theorem dX6_source_53 : decode cX6_source 53 = .ok (.iinc 4 1, 3) := by decide +kernel
theorem dX6_source_56 : decode cX6_source 56 = .ok (.goto (-39), 3) := by decide +kernel
theorem dX6_source_59 : decode cX6_source 59 = .ok (.iload_n 2, 1) := by decide +kernel
theorem dX6_source_60 : decode cX6_source 60 = .ok (.ireturn, 1) := by decide +kernel
theorem dX6_hand_0 : decode cX6_hand 0 = .ok (.aload_n 0, 1) := by decide +kernel
theorem dX6_hand_1 : decode cX6_hand 1 = .ok (.iload_n 1, 1) := by decide +kernel
theorem dX6_hand_2 : decode cX6_hand 2 = .ok (.invokevirtual 179, 3) := by decide +kernel
theorem dX6_hand_5 : decode cX6_hand 5 = .ok (.aload_n 0, 1) := by decide +kernel
theorem dX6_hand_6 : decode cX6_hand 6 = .ok (.getfield 45, 3) := by decide +kernel
theorem dX6_hand_9 : decode cX6_hand 9 = .ok (.invokevirtual 252, 3) := by decide +kernel
theorem dX6_hand_12 : decode cX6_hand 12 = .ok (.iconst 0, 1) := by decide +kernel
theorem dX6_hand_13 : decode cX6_hand 13 = .ok (.istore_n 2, 1) := by decide +kernel
theorem dX6_hand_14 : decode cX6_hand 14 = .ok (.iload_n 2, 1) := by decide +kernel
theorem dX6_hand_15 : decode cX6_hand 15 = .ok (.aload_n 0, 1) := by decide +kernel
theorem dX6_hand_16 : decode cX6_hand 16 = .ok (.getfield 19, 3) := by decide +kernel
theorem dX6_hand_19 : decode cX6_hand 19 = .ok (.getfield 108, 3) := by decide +kernel
theorem dX6_hand_22 : decode cX6_hand 22 = .ok (.if_icmp .ge 47, 3) := by decide +kernel
theorem dX6_hand_25 : decode cX6_hand 25 = .ok (.iload_n 2, 1) := by decide +kernel
theorem dX6_hand_26 : decode cX6_hand 26 = .ok (.iload_n 1, 1) := by decide +kernel
theorem dX6_hand_27 : decode cX6_hand 27 = .ok (.if_icmp .eq 36, 3) := by decide +kernel
theorem dX6_hand_30 : decode cX6_hand 30 = .ok (.aload_n 0, 1) := by decide +kernel
theorem dX6_hand_31 : decode cX6_hand 31 = .ok (.getfield 19, 3) := by decide +kernel
theorem dX6_hand_34 : decode cX6_hand 34 = .ok (.getfield 223, 3) := by decide +kernel
theorem dX6_hand_37 : decode cX6_hand 37 = .ok (.iload_n 2, 1) := by decide +kernel
theorem dX6_hand_38 : decode cX6_hand 38 = .ok (.baload, 1) := by decide +kernel
theorem dX6_hand_39 : decode cX6_hand 39 = .ok (.ifCond .ne 24, 3) := by decide +kernel
theorem dX6_hand_42 : decode cX6_hand 42 = .ok (.aload_n 0, 1) := by decide +kernel
theorem dX6_hand_43 : decode cX6_hand 43 = .ok (.getfield 45, 3) := by decide +kernel
theorem dX6_hand_46 : decode cX6_hand 46 = .ok (.aload_n 0, 1) := by decide +kernel
theorem dX6_hand_47 : decode cX6_hand 47 = .ok (.getfield 19, 3) := by decide +kernel
theorem dX6_hand_50 : decode cX6_hand 50 = .ok (.iload_n 2, 1) := by decide +kernel
theorem dX6_hand_51 : decode cX6_hand 51 = .ok (.invokevirtual 227, 3) := by decide +kernel
theorem dX6_hand_54 : decode cX6_hand 54 = .ok (.aload_n 0, 1) := by decide +kernel
theorem dX6_hand_55 : decode cX6_hand 55 = .ok (.iload_n 1, 1) := by decide +kernel
theorem dX6_hand_56 : decode cX6_hand 56 = .ok (.iload_n 2, 1) := by decide +kernel
theorem dX6_hand_57 : decode cX6_hand 57 = .ok (.invokevirtual 268, 3) := by decide +kernel
theorem dX6_hand_60 : decode cX6_hand 60 = .ok (.invokevirtual 258, 3) := by decide +kernel
theorem dX6_hand_63 : decode cX6_hand 63 = .ok (.iinc 2 1, 3) := by decide +kernel
theorem dX6_hand_66 : decode cX6_hand 66 = .ok (.goto (-52), 3) := by decide +kernel
theorem dX6_hand_69 : decode cX6_hand 69 = .ok (.aload_n 0, 1) := by decide +kernel
theorem dX6_hand_70 : decode cX6_hand 70 = .ok (.getfield 45, 3) := by decide +kernel
theorem dX6_hand_73 : decode cX6_hand 73 = .ok (.invokevirtual 261, 3) := by decide +kernel
theorem dX6_hand_76 : decode cX6_hand 76 = .ok (.ireturn, 1) := by decide +kernel
theorem dX6_needRange_0 : decode cX6_needRange 0 = .ok (.iload_n 1, 1) := by decide +kernel
theorem dX6_needRange_1 : decode cX6_needRange 1 = .ok (.iload_n 2, 1) := by decide +kernel
theorem dX6_needRange_2 : decode cX6_needRange 2 = .ok (.if_icmp .lt 8, 3) := by decide +kernel
theorem dX6_needRange_5 : decode cX6_needRange 5 = .ok (.iload_n 1, 1) := by decide +kernel
theorem dX6_needRange_6 : decode cX6_needRange 6 = .ok (.iload_n 3, 1) := by decide +kernel
theorem dX6_needRange_7 : decode cX6_needRange 7 = .ok (.if_icmp .le 14, 3) := by decide +kernel
theorem dX6_needRange_10 : decode cX6_needRange 10 = .ok (.new 91, 3) := by decide +kernel
theorem dX6_needRange_13 : decode cX6_needRange 13 = .ok (.dup, 1) := by decide +kernel
theorem dX6_needRange_14 : decode cX6_needRange 14 = .ok (.ldc_w 271, 3) := by decide +kernel
theorem dX6_needRange_17 : decode cX6_needRange 17 = .ok (.invokespecial 95, 3) := by decide +kernel
theorem dX6_needRange_20 : decode cX6_needRange 20 = .ok (.athrow, 1) := by decide +kernel
theorem dX6_needRange_21 : decode cX6_needRange 21 = .ok (.return_, 1) := by decide +kernel
theorem dX6_needWord_0 : decode cX6_needWord 0 = .ok (.aload_n 0, 1) := by decide +kernel
theorem dX6_needWord_1 : decode cX6_needWord 1 = .ok (.getfield 13, 3) := by decide +kernel
theorem dX6_needWord_4 : decode cX6_needWord 4 = .ok (.iload_n 1, 1) := by decide +kernel
theorem dX6_needWord_5 : decode cX6_needWord 5 = .ok (.invokevirtual 273, 3) := by decide +kernel
theorem dX6_needWord_8 : decode cX6_needWord 8 = .ok (.ifCond .ne 14, 3) := by decide +kernel
theorem dX6_needWord_11 : decode cX6_needWord 11 = .ok (.new 126, 3) := by decide +kernel
theorem dX6_needWord_14 : decode cX6_needWord 14 = .ok (.dup, 1) := by decide +kernel
theorem dX6_needWord_15 : decode cX6_needWord 15 = .ok (.ldc_w 277, 3) := by decide +kernel
theorem dX6_needWord_18 : decode cX6_needWord 18 = .ok (.invokespecial 130, 3) := by decide +kernel
theorem dX6_needWord_21 : decode cX6_needWord 21 = .ok (.athrow, 1) := by decide +kernel
theorem dX6_needWord_22 : decode cX6_needWord 22 = .ok (.return_, 1) := by decide +kernel
theorem dX6_needPoet_0 : decode cX6_needPoet 0 = .ok (.iload_n 1, 1) := by decide +kernel
theorem dX6_needPoet_1 : decode cX6_needPoet 1 = .ok (.ifCond .lt 11, 3) := by decide +kernel
theorem dX6_needPoet_4 : decode cX6_needPoet 4 = .ok (.iload_n 1, 1) := by decide +kernel
theorem dX6_needPoet_5 : decode cX6_needPoet 5 = .ok (.aload_n 0, 1) := by decide +kernel
theorem dX6_needPoet_6 : decode cX6_needPoet 6 = .ok (.getfield 100, 3) := by decide +kernel
theorem dX6_needPoet_9 : decode cX6_needPoet 9 = .ok (.if_icmp .lt 14, 3) := by decide +kernel
theorem dX6_needPoet_12 : decode cX6_needPoet 12 = .ok (.new 126, 3) := by decide +kernel
theorem dX6_needPoet_15 : decode cX6_needPoet 15 = .ok (.dup, 1) := by decide +kernel
theorem dX6_needPoet_16 : decode cX6_needPoet 16 = .ok (.ldc_w 279, 3) := by decide +kernel
theorem dX6_needPoet_19 : decode cX6_needPoet 19 = .ok (.invokespecial 130, 3) := by decide +kernel
theorem dX6_needPoet_22 : decode cX6_needPoet 22 = .ok (.athrow, 1) := by decide +kernel
theorem dX6_needPoet_23 : decode cX6_needPoet 23 = .ok (.return_, 1) := by decide +kernel
theorem dX6_needLink_0 : decode cX6_needLink 0 = .ok (.aload_n 0, 1) := by decide +kernel
theorem dX6_needLink_1 : decode cX6_needLink 1 = .ok (.getfield 19, 3) := by decide +kernel
theorem dX6_needLink_4 : decode cX6_needLink 4 = .ok (.iload_n 1, 1) := by decide +kernel
theorem dX6_needLink_5 : decode cX6_needLink 5 = .ok (.invokevirtual 281, 3) := by decide +kernel
theorem dX6_needLink_8 : decode cX6_needLink 8 = .ok (.ifCond .ne 14, 3) := by decide +kernel
theorem dX6_needLink_11 : decode cX6_needLink 11 = .ok (.new 126, 3) := by decide +kernel
theorem dX6_needLink_14 : decode cX6_needLink 14 = .ok (.dup, 1) := by decide +kernel
theorem dX6_needLink_15 : decode cX6_needLink 15 = .ok (.ldc_w 282, 3) := by decide +kernel
theorem dX6_needLink_18 : decode cX6_needLink 18 = .ok (.invokespecial 130, 3) := by decide +kernel
theorem dX6_needLink_21 : decode cX6_needLink 21 = .ok (.athrow, 1) := by decide +kernel
theorem dX6_needLink_22 : decode cX6_needLink 22 = .ok (.return_, 1) := by decide +kernel
theorem dX6_needPlace_0 : decode cX6_needPlace 0 = .ok (.aload_n 0, 1) := by decide +kernel
theorem dX6_needPlace_1 : decode cX6_needPlace 1 = .ok (.getfield 19, 3) := by decide +kernel
theorem dX6_needPlace_4 : decode cX6_needPlace 4 = .ok (.iload_n 1, 1) := by decide +kernel
theorem dX6_needPlace_5 : decode cX6_needPlace 5 = .ok (.iload_n 2, 1) := by decide +kernel
theorem dX6_needPlace_6 : decode cX6_needPlace 6 = .ok (.invokevirtual 242, 3) := by decide +kernel
theorem dX6_needPlace_9 : decode cX6_needPlace 9 = .ok (.iconst (-1), 1) := by decide +kernel
theorem dX6_needPlace_10 : decode cX6_needPlace 10 = .ok (.if_icmp .ne 14, 3) := by decide +kernel
theorem dX6_needPlace_13 : decode cX6_needPlace 13 = .ok (.new 126, 3) := by decide +kernel
theorem dX6_needPlace_16 : decode cX6_needPlace 16 = .ok (.dup, 1) := by decide +kernel
theorem dX6_needPlace_17 : decode cX6_needPlace 17 = .ok (.ldc_w 284, 3) := by decide +kernel
theorem dX6_needPlace_20 : decode cX6_needPlace 20 = .ok (.invokespecial 130, 3) := by decide +kernel
theorem dX6_needPlace_23 : decode cX6_needPlace 23 = .ok (.athrow, 1) := by decide +kernel
theorem dX6_needPlace_24 : decode cX6_needPlace 24 = .ok (.return_, 1) := by decide +kernel
theorem dX6_needCopy_0 : decode cX6_needCopy 0 = .ok (.iload_n 1, 1) := by decide +kernel
theorem dX6_needCopy_1 : decode cX6_needCopy 1 = .ok (.ifCond .lt 11, 3) := by decide +kernel
theorem dX6_needCopy_4 : decode cX6_needCopy 4 = .ok (.iload_n 1, 1) := by decide +kernel
theorem dX6_needCopy_5 : decode cX6_needCopy 5 = .ok (.aload_n 0, 1) := by decide +kernel
theorem dX6_needCopy_6 : decode cX6_needCopy 6 = .ok (.getfield 120, 3) := by decide +kernel
theorem dX6_needCopy_9 : decode cX6_needCopy 9 = .ok (.if_icmp .lt 14, 3) := by decide +kernel
theorem dX6_needCopy_12 : decode cX6_needCopy 12 = .ok (.new 126, 3) := by decide +kernel
theorem dX6_needCopy_15 : decode cX6_needCopy 15 = .ok (.dup, 1) := by decide +kernel
theorem dX6_needCopy_16 : decode cX6_needCopy 16 = .ok (.ldc_w 286, 3) := by decide +kernel
theorem dX6_needCopy_19 : decode cX6_needCopy 19 = .ok (.invokespecial 130, 3) := by decide +kernel
theorem dX6_needCopy_22 : decode cX6_needCopy 22 = .ok (.athrow, 1) := by decide +kernel
theorem dX6_needCopy_23 : decode cX6_needCopy 23 = .ok (.return_, 1) := by decide +kernel
theorem dX6_needText_0 : decode cX6_needText 0 = .ok (.iload_n 1, 1) := by decide +kernel
theorem dX6_needText_1 : decode cX6_needText 1 = .ok (.iconst (-1), 1) := by decide +kernel
theorem dX6_needText_2 : decode cX6_needText 2 = .ok (.if_icmp .eq 8, 3) := by decide +kernel
theorem dX6_needText_5 : decode cX6_needText 5 = .ok (.aload_n 0, 1) := by decide +kernel
theorem dX6_needText_6 : decode cX6_needText 6 = .ok (.iload_n 1, 1) := by decide +kernel
theorem dX6_needText_7 : decode cX6_needText 7 = .ok (.invokevirtual 213, 3) := by decide +kernel
theorem dX6_needText_10 : decode cX6_needText 10 = .ok (.return_, 1) := by decide +kernel
theorem dX6_needPoem_0 : decode cX6_needPoem 0 = .ok (.aload_n 0, 1) := by decide +kernel
theorem dX6_needPoem_1 : decode cX6_needPoem 1 = .ok (.getfield 19, 3) := by decide +kernel
theorem dX6_needPoem_4 : decode cX6_needPoem 4 = .ok (.invokevirtual 288, 3) := by decide +kernel
theorem dX6_needPoem_7 : decode cX6_needPoem 7 = .ok (.ifCond .ne 14, 3) := by decide +kernel
theorem dX6_needPoem_10 : decode cX6_needPoem 10 = .ok (.new 76, 3) := by decide +kernel
theorem dX6_needPoem_13 : decode cX6_needPoem 13 = .ok (.dup, 1) := by decide +kernel
theorem dX6_needPoem_14 : decode cX6_needPoem 14 = .ok (.ldc_w 291, 3) := by decide +kernel
theorem dX6_needPoem_17 : decode cX6_needPoem 17 = .ok (.invokespecial 80, 3) := by decide +kernel
theorem dX6_needPoem_20 : decode cX6_needPoem 20 = .ok (.athrow, 1) := by decide +kernel
theorem dX6_needPoem_21 : decode cX6_needPoem 21 = .ok (.return_, 1) := by decide +kernel
theorem dX6_needNoOffers_0 : decode cX6_needNoOffers 0 = .ok (.aload_n 0, 1) := by decide +kernel
theorem dX6_needNoOffers_1 : decode cX6_needNoOffers 1 = .ok (.getfield 117, 3) := by decide +kernel
theorem dX6_needNoOffers_4 : decode cX6_needNoOffers 4 = .ok (.ifCond .le 14, 3) := by decide +kernel
theorem dX6_needNoOffers_7 : decode cX6_needNoOffers 7 = .ok (.new 76, 3) := by decide +kernel
theorem dX6_needNoOffers_10 : decode cX6_needNoOffers 10 = .ok (.dup, 1) := by decide +kernel
theorem dX6_needNoOffers_11 : decode cX6_needNoOffers 11 = .ok (.ldc_w 293, 3) := by decide +kernel
theorem dX6_needNoOffers_14 : decode cX6_needNoOffers 14 = .ok (.invokespecial 80, 3) := by decide +kernel
theorem dX6_needNoOffers_17 : decode cX6_needNoOffers 17 = .ok (.athrow, 1) := by decide +kernel
theorem dX6_needNoOffers_18 : decode cX6_needNoOffers 18 = .ok (.return_, 1) := by decide +kernel
theorem dX6_chanceOf_0 : decode cX6_chanceOf 0 = .ok (.aload_n 0, 1) := by decide +kernel
theorem dX6_chanceOf_1 : decode cX6_chanceOf 1 = .ok (.getfield 39, 3) := by decide +kernel
theorem dX6_chanceOf_4 : decode cX6_chanceOf 4 = .ok (.invokevirtual 151, 3) := by decide +kernel
theorem dX6_chanceOf_7 : decode cX6_chanceOf 7 = .ok (.aload_n 0, 1) := by decide +kernel
theorem dX6_chanceOf_8 : decode cX6_chanceOf 8 = .ok (.getfield 39, 3) := by decide +kernel
theorem dX6_chanceOf_11 : decode cX6_chanceOf 11 = .ok (.iload_n 1, 1) := by decide +kernel
theorem dX6_chanceOf_12 : decode cX6_chanceOf 12 = .ok (.aload_n 0, 1) := by decide +kernel
theorem dX6_chanceOf_13 : decode cX6_chanceOf 13 = .ok (.getfield 13, 3) := by decide +kernel
theorem dX6_chanceOf_16 : decode cX6_chanceOf 16 = .ok (.invokevirtual 147, 3) := by decide +kernel
theorem dX6_chanceOf_19 : decode cX6_chanceOf 19 = .ok (.iload_n 2, 1) := by decide +kernel
theorem dX6_chanceOf_20 : decode cX6_chanceOf 20 = .ok (.iconst (-1), 1) := by decide +kernel
theorem dX6_chanceOf_21 : decode cX6_chanceOf 21 = .ok (.if_icmp .eq 15, 3) := by decide +kernel
theorem dX6_chanceOf_24 : decode cX6_chanceOf 24 = .ok (.aload_n 0, 1) := by decide +kernel
theorem dX6_chanceOf_25 : decode cX6_chanceOf 25 = .ok (.getfield 39, 3) := by decide +kernel
theorem dX6_chanceOf_28 : decode cX6_chanceOf 28 = .ok (.iload_n 2, 1) := by decide +kernel
theorem dX6_chanceOf_29 : decode cX6_chanceOf 29 = .ok (.aload_n 0, 1) := by decide +kernel
theorem dX6_chanceOf_30 : decode cX6_chanceOf 30 = .ok (.getfield 13, 3) := by decide +kernel
theorem dX6_chanceOf_33 : decode cX6_chanceOf 33 = .ok (.invokevirtual 147, 3) := by decide +kernel
theorem dX6_chanceOf_36 : decode cX6_chanceOf 36 = .ok (.aload_n 0, 1) := by decide +kernel
theorem dX6_chanceOf_37 : decode cX6_chanceOf 37 = .ok (.getfield 28, 3) := by decide +kernel
theorem dX6_chanceOf_40 : decode cX6_chanceOf 40 = .ok (.aload_n 0, 1) := by decide +kernel
theorem dX6_chanceOf_41 : decode cX6_chanceOf 41 = .ok (.getfield 39, 3) := by decide +kernel
theorem dX6_chanceOf_44 : decode cX6_chanceOf 44 = .ok (.aload_n 0, 1) := by decide +kernel
theorem dX6_chanceOf_45 : decode cX6_chanceOf 45 = .ok (.getfield 19, 3) := by decide +kernel
theorem dX6_chanceOf_48 : decode cX6_chanceOf 48 = .ok (.getfield 108, 3) := by decide +kernel
theorem dX6_chanceOf_51 : decode cX6_chanceOf 51 = .ok (.iload_n 3, 1) := by decide +kernel
theorem dX6_chanceOf_52 : decode cX6_chanceOf 52 = .ok (.invokevirtual 161, 3) := by decide +kernel
theorem dX6_chanceOf_55 : decode cX6_chanceOf 55 = .ok (.ifCond .ne 7, 3) := by decide +kernel
theorem dX6_chanceOf_58 : decode cX6_chanceOf 58 = .ok (.iconst 1, 1) := by decide +kernel
theorem dX6_chanceOf_59 : decode cX6_chanceOf 59 = .ok (.goto 4, 3) := by decide +kernel
theorem dX6_chanceOf_62 : decode cX6_chanceOf 62 = .ok (.iconst 0, 1) := by decide +kernel
theorem dX6_chanceOf_63 : decode cX6_chanceOf 63 = .ok (.ireturn, 1) := by decide +kernel
theorem dX6_likeness_0 : decode cX6_likeness 0 = .ok (.aload_n 0, 1) := by decide +kernel
theorem dX6_likeness_1 : decode cX6_likeness 1 = .ok (.getfield 19, 3) := by decide +kernel
theorem dX6_likeness_4 : decode cX6_likeness 4 = .ok (.iload_n 1, 1) := by decide +kernel
theorem dX6_likeness_5 : decode cX6_likeness 5 = .ok (.invokevirtual 295, 3) := by decide +kernel
theorem dX6_likeness_8 : decode cX6_likeness 8 = .ok (.aload_n 0, 1) := by decide +kernel
theorem dX6_likeness_9 : decode cX6_likeness 9 = .ok (.getfield 19, 3) := by decide +kernel
theorem dX6_likeness_12 : decode cX6_likeness 12 = .ok (.iload_n 2, 1) := by decide +kernel
theorem dX6_likeness_13 : decode cX6_likeness 13 = .ok (.invokevirtual 295, 3) := by decide +kernel
theorem dX6_likeness_16 : decode cX6_likeness 16 = .ok (.land, 1) := by decide +kernel
theorem dX6_likeness_17 : decode cX6_likeness 17 = .ok (.invokestatic 299, 3) := by decide +kernel
theorem dX6_likeness_20 : decode cX6_likeness 20 = .ok (.istore_n 3, 1) := by decide +kernel
theorem dX6_likeness_21 : decode cX6_likeness 21 = .ok (.aload_n 0, 1) := by decide +kernel
theorem dX6_likeness_22 : decode cX6_likeness 22 = .ok (.getfield 19, 3) := by decide +kernel
theorem dX6_likeness_25 : decode cX6_likeness 25 = .ok (.iload_n 1, 1) := by decide +kernel
theorem dX6_likeness_26 : decode cX6_likeness 26 = .ok (.invokevirtual 233, 3) := by decide +kernel
theorem dX6_likeness_29 : decode cX6_likeness 29 = .ok (.aload_n 0, 1) := by decide +kernel
theorem dX6_likeness_30 : decode cX6_likeness 30 = .ok (.getfield 19, 3) := by decide +kernel
theorem dX6_likeness_33 : decode cX6_likeness 33 = .ok (.iload_n 2, 1) := by decide +kernel
theorem dX6_likeness_34 : decode cX6_likeness 34 = .ok (.invokevirtual 233, 3) := by decide +kernel
theorem dX6_likeness_37 : decode cX6_likeness 37 = .ok (.iand, 1) := by decide +kernel
theorem dX6_likeness_38 : decode cX6_likeness 38 = .ok (.invokestatic 305, 3) := by decide +kernel
theorem dX6_likeness_41 : decode cX6_likeness 41 = .ok (.istore 4, 2) := by decide +kernel
theorem dX6_likeness_43 : decode cX6_likeness 43 = .ok (.iconst 3, 1) := by decide +kernel
theorem dX6_likeness_44 : decode cX6_likeness 44 = .ok (.iload_n 3, 1) := by decide +kernel
theorem dX6_likeness_45 : decode cX6_likeness 45 = .ok (.imul, 1) := by decide +kernel
theorem dX6_likeness_46 : decode cX6_likeness 46 = .ok (.iload 4, 2) := by decide +kernel
theorem dX6_likeness_48 : decode cX6_likeness 48 = .ok (.iadd, 1) := by decide +kernel
theorem dX6_likeness_49 : decode cX6_likeness 49 = .ok (.ireturn, 1) := by decide +kernel
theorem dX6_textWord_0 : decode cX6_textWord 0 = .ok (.iload_n 1, 1) := by decide +kernel
theorem dX6_textWord_1 : decode cX6_textWord 1 = .ok (.iconst (-1), 1) := by decide +kernel
theorem dX6_textWord_2 : decode cX6_textWord 2 = .ok (.if_icmp .ne 13, 3) := by decide +kernel
theorem dX6_textWord_5 : decode cX6_textWord 5 = .ok (.aload_n 0, 1) := by decide +kernel
theorem dX6_textWord_6 : decode cX6_textWord 6 = .ok (.getfield 19, 3) := by decide +kernel
theorem dX6_textWord_9 : decode cX6_textWord 9 = .ok (.iload_n 2, 1) := by decide +kernel
theorem dX6_textWord_10 : decode cX6_textWord 10 = .ok (.iload_n 3, 1) := by decide +kernel
theorem dX6_textWord_11 : decode cX6_textWord 11 = .ok (.invokevirtual 242, 3) := by decide +kernel
theorem dX6_textWord_14 : decode cX6_textWord 14 = .ok (.ireturn, 1) := by decide +kernel
theorem dX6_textWord_15 : decode cX6_textWord 15 = .ok (.iload_n 1, 1) := by decide +kernel
theorem dX6_textWord_16 : decode cX6_textWord 16 = .ok (.ifCond .lt 15, 3) := by decide +kernel
theorem dX6_textWord_19 : decode cX6_textWord 19 = .ok (.iload_n 1, 1) := by decide +kernel
theorem dX6_textWord_20 : decode cX6_textWord 20 = .ok (.aload_n 0, 1) := by decide +kernel
theorem dX6_textWord_21 : decode cX6_textWord 21 = .ok (.getfield 120, 3) := by decide +kernel
theorem dX6_textWord_24 : decode cX6_textWord 24 = .ok (.if_icmp .ge 7, 3) := by decide +kernel
theorem dX6_textWord_27 : decode cX6_textWord 27 = .ok (.iconst 1, 1) := by decide +kernel
theorem dX6_textWord_28 : decode cX6_textWord 28 = .ok (.goto 4, 3) := by decide +kernel
theorem dX6_textWord_31 : decode cX6_textWord 31 = .ok (.iconst 0, 1) := by decide +kernel
theorem dX6_textWord_32 : decode cX6_textWord 32 = .ok (.istore 4, 2) := by decide +kernel
theorem dX6_textWord_34 : decode cX6_textWord 34 = .ok (.iload 4, 2) := by decide +kernel
theorem dX6_textWord_36 : decode cX6_textWord 36 = .ok (.ifCond .eq 17, 3) := by decide +kernel
theorem dX6_textWord_39 : decode cX6_textWord 39 = .ok (.aload_n 0, 1) := by decide +kernel
theorem dX6_textWord_40 : decode cX6_textWord 40 = .ok (.getfield 59, 3) := by decide +kernel
theorem dX6_textWord_43 : decode cX6_textWord 43 = .ok (.iload_n 1, 1) := by decide +kernel
theorem dX6_textWord_44 : decode cX6_textWord 44 = .ok (.aaload, 1) := by decide +kernel
theorem dX6_textWord_45 : decode cX6_textWord 45 = .ok (.iload_n 2, 1) := by decide +kernel
theorem dX6_textWord_46 : decode cX6_textWord 46 = .ok (.iload_n 3, 1) := by decide +kernel
theorem dX6_textWord_47 : decode cX6_textWord 47 = .ok (.invokevirtual 309, 3) := by decide +kernel
theorem dX6_textWord_50 : decode cX6_textWord 50 = .ok (.goto 4, 3) := by decide +kernel
theorem dX6_textWord_53 : decode cX6_textWord 53 = .ok (.iconst (-1), 1) := by decide +kernel
theorem dX6_textWord_54 : decode cX6_textWord 54 = .ok (.ireturn, 1) := by decide +kernel
theorem dX6_fillSheet_0 : decode cX6_fillSheet 0 = .ok (.iconst 0, 1) := by decide +kernel
theorem dX6_fillSheet_1 : decode cX6_fillSheet 1 = .ok (.istore_n 3, 1) := by decide +kernel
theorem dX6_fillSheet_2 : decode cX6_fillSheet 2 = .ok (.iload_n 3, 1) := by decide +kernel
theorem dX6_fillSheet_3 : decode cX6_fillSheet 3 = .ok (.bipush 36, 2) := by decide +kernel
theorem dX6_fillSheet_5 : decode cX6_fillSheet 5 = .ok (.if_icmp .ge 40, 3) := by decide +kernel
theorem dX6_fillSheet_8 : decode cX6_fillSheet 8 = .ok (.iconst 0, 1) := by decide +kernel
theorem dX6_fillSheet_9 : decode cX6_fillSheet 9 = .ok (.istore 4, 2) := by decide +kernel
theorem dX6_fillSheet_11 : decode cX6_fillSheet 11 = .ok (.iload 4, 2) := by decide +kernel
theorem dX6_fillSheet_13 : decode cX6_fillSheet 13 = .ok (.bipush 6, 2) := by decide +kernel
theorem dX6_fillSheet_15 : decode cX6_fillSheet 15 = .ok (.if_icmp .ge 24, 3) := by decide +kernel
theorem dX6_fillSheet_18 : decode cX6_fillSheet 18 = .ok (.aload_n 1, 1) := by decide +kernel
theorem dX6_fillSheet_19 : decode cX6_fillSheet 19 = .ok (.iload_n 3, 1) := by decide +kernel
theorem dX6_fillSheet_20 : decode cX6_fillSheet 20 = .ok (.iload 4, 2) := by decide +kernel
theorem dX6_fillSheet_22 : decode cX6_fillSheet 22 = .ok (.aload_n 0, 1) := by decide +kernel
theorem dX6_fillSheet_23 : decode cX6_fillSheet 23 = .ok (.iload_n 2, 1) := by decide +kernel
theorem dX6_fillSheet_24 : decode cX6_fillSheet 24 = .ok (.iload_n 3, 1) := by decide +kernel
theorem dX6_fillSheet_25 : decode cX6_fillSheet 25 = .ok (.iload 4, 2) := by decide +kernel
theorem dX6_fillSheet_27 : decode cX6_fillSheet 27 = .ok (.invokevirtual 216, 3) := by decide +kernel
theorem dX6_fillSheet_30 : decode cX6_fillSheet 30 = .ok (.invokevirtual 221, 3) := by decide +kernel
theorem dX6_fillSheet_33 : decode cX6_fillSheet 33 = .ok (.iinc 4 1, 3) := by decide +kernel
theorem dX6_fillSheet_36 : decode cX6_fillSheet 36 = .ok (.goto (-25), 3) := by decide +kernel
theorem dX6_fillSheet_39 : decode cX6_fillSheet 39 = .ok (.iinc 3 1, 3) := by decide +kernel
theorem dX6_fillSheet_42 : decode cX6_fillSheet 42 = .ok (.goto (-40), 3) := by decide +kernel
theorem dX6_fillSheet_45 : decode cX6_fillSheet 45 = .ok (.return_, 1) := by decide +kernel
theorem dX6_distance_0 : decode cX6_distance 0 = .ok (.iconst 0, 1) := by decide +kernel
theorem dX6_distance_1 : decode cX6_distance 1 = .ok (.istore_n 3, 1) := by decide +kernel
theorem dX6_distance_2 : decode cX6_distance 2 = .ok (.iconst 0, 1) := by decide +kernel
theorem dX6_distance_3 : decode cX6_distance 3 = .ok (.istore 4, 2) := by decide +kernel
theorem dX6_distance_5 : decode cX6_distance 5 = .ok (.iload 4, 2) := by decide +kernel
theorem dX6_distance_7 : decode cX6_distance 7 = .ok (.bipush 36, 2) := by decide +kernel
theorem dX6_distance_9 : decode cX6_distance 9 = .ok (.if_icmp .ge 49, 3) := by decide +kernel
theorem dX6_distance_12 : decode cX6_distance 12 = .ok (.iconst 0, 1) := by decide +kernel
theorem dX6_distance_13 : decode cX6_distance 13 = .ok (.istore 5, 2) := by decide +kernel
theorem dX6_distance_15 : decode cX6_distance 15 = .ok (.iload 5, 2) := by decide +kernel
theorem dX6_distance_17 : decode cX6_distance 17 = .ok (.bipush 6, 2) := by decide +kernel
theorem dX6_distance_19 : decode cX6_distance 19 = .ok (.if_icmp .ge 33, 3) := by decide +kernel
theorem dX6_distance_22 : decode cX6_distance 22 = .ok (.aload_n 0, 1) := by decide +kernel
theorem dX6_distance_23 : decode cX6_distance 23 = .ok (.iload_n 1, 1) := by decide +kernel
theorem dX6_distance_24 : decode cX6_distance 24 = .ok (.iload 4, 2) := by decide +kernel
theorem dX6_distance_26 : decode cX6_distance 26 = .ok (.iload 5, 2) := by decide +kernel
theorem dX6_distance_28 : decode cX6_distance 28 = .ok (.invokevirtual 216, 3) := by decide +kernel
theorem dX6_distance_31 : decode cX6_distance 31 = .ok (.aload_n 0, 1) := by decide +kernel
theorem dX6_distance_32 : decode cX6_distance 32 = .ok (.iload_n 2, 1) := by decide +kernel
theorem dX6_distance_33 : decode cX6_distance 33 = .ok (.iload 4, 2) := by decide +kernel
theorem dX6_distance_35 : decode cX6_distance 35 = .ok (.iload 5, 2) := by decide +kernel
theorem dX6_distance_37 : decode cX6_distance 37 = .ok (.invokevirtual 216, 3) := by decide +kernel
theorem dX6_distance_40 : decode cX6_distance 40 = .ok (.if_icmp .eq 6, 3) := by decide +kernel
theorem dX6_distance_43 : decode cX6_distance 43 = .ok (.iinc 3 1, 3) := by decide +kernel
theorem dX6_distance_46 : decode cX6_distance 46 = .ok (.iinc 5 1, 3) := by decide +kernel
theorem dX6_distance_49 : decode cX6_distance 49 = .ok (.goto (-34), 3) := by decide +kernel
theorem dX6_distance_52 : decode cX6_distance 52 = .ok (.iinc 4 1, 3) := by decide +kernel
theorem dX6_distance_55 : decode cX6_distance 55 = .ok (.goto (-50), 3) := by decide +kernel
theorem dX6_distance_58 : decode cX6_distance 58 = .ok (.iload_n 3, 1) := by decide +kernel
theorem dX6_distance_59 : decode cX6_distance 59 = .ok (.ireturn, 1) := by decide +kernel
end
section
theorem dX7_init_0 : decode cX7_init 0 = .ok (.aload_n 0, 1) := by decide +kernel
theorem dX7_init_1 : decode cX7_init 1 = .ok (.invokespecial 1, 3) := by decide +kernel
theorem dX7_init_4 : decode cX7_init 4 = .ok (.aload_n 0, 1) := by decide +kernel
theorem dX7_init_5 : decode cX7_init 5 = .ok (.bipush 40, 2) := by decide +kernel
theorem dX7_init_7 : decode cX7_init 7 = .ok (.newarray .int, 2) := by decide +kernel
theorem dX7_init_9 : decode cX7_init 9 = .ok (.putfield 7, 3) := by decide +kernel
theorem dX7_init_12 : decode cX7_init 12 = .ok (.aload_n 0, 1) := by decide +kernel
theorem dX7_init_13 : decode cX7_init 13 = .ok (.bipush 40, 2) := by decide +kernel
theorem dX7_init_15 : decode cX7_init 15 = .ok (.newarray .int, 2) := by decide +kernel
theorem dX7_init_17 : decode cX7_init 17 = .ok (.putfield 13, 3) := by decide +kernel
theorem dX7_init_20 : decode cX7_init 20 = .ok (.aload_n 0, 1) := by decide +kernel
theorem dX7_init_21 : decode cX7_init 21 = .ok (.bipush 40, 2) := by decide +kernel
theorem dX7_init_23 : decode cX7_init 23 = .ok (.newarray .int, 2) := by decide +kernel
theorem dX7_init_25 : decode cX7_init 25 = .ok (.putfield 16, 3) := by decide +kernel
theorem dX7_init_28 : decode cX7_init 28 = .ok (.aload_n 0, 1) := by decide +kernel
theorem dX7_init_29 : decode cX7_init 29 = .ok (.bipush 40, 2) := by decide +kernel
theorem dX7_init_31 : decode cX7_init 31 = .ok (.newarray .long, 2) := by decide +kernel
theorem dX7_init_33 : decode cX7_init 33 = .ok (.putfield 19, 3) := by decide +kernel
theorem dX7_init_36 : decode cX7_init 36 = .ok (.aload_n 0, 1) := by decide +kernel
theorem dX7_init_37 : decode cX7_init 37 = .ok (.sipush 216, 3) := by decide +kernel
theorem dX7_init_40 : decode cX7_init 40 = .ok (.newarray .int, 2) := by decide +kernel
theorem dX7_init_42 : decode cX7_init 42 = .ok (.putfield 23, 3) := by decide +kernel
theorem dX7_init_45 : decode cX7_init 45 = .ok (.aload_n 0, 1) := by decide +kernel
theorem dX7_init_46 : decode cX7_init 46 = .ok (.bipush 36, 2) := by decide +kernel
theorem dX7_init_48 : decode cX7_init 48 = .ok (.newarray .int, 2) := by decide +kernel
theorem dX7_init_50 : decode cX7_init 50 = .ok (.putfield 26, 3) := by decide +kernel
theorem dX7_init_53 : decode cX7_init 53 = .ok (.aload_n 0, 1) := by decide +kernel
theorem dX7_init_54 : decode cX7_init 54 = .ok (.bipush 36, 2) := by decide +kernel
theorem dX7_init_56 : decode cX7_init 56 = .ok (.newarray .int, 2) := by decide +kernel
theorem dX7_init_58 : decode cX7_init 58 = .ok (.putfield 29, 3) := by decide +kernel
theorem dX7_init_61 : decode cX7_init 61 = .ok (.aload_n 0, 1) := by decide +kernel
theorem dX7_init_62 : decode cX7_init 62 = .ok (.bipush 36, 2) := by decide +kernel
theorem dX7_init_64 : decode cX7_init 64 = .ok (.newarray .int, 2) := by decide +kernel
theorem dX7_init_66 : decode cX7_init 66 = .ok (.putfield 32, 3) := by decide +kernel
theorem dX7_init_69 : decode cX7_init 69 = .ok (.aload_n 0, 1) := by decide +kernel
theorem dX7_init_70 : decode cX7_init 70 = .ok (.bipush 36, 2) := by decide +kernel
theorem dX7_init_72 : decode cX7_init 72 = .ok (.newarray .boolean, 2) := by decide +kernel
theorem dX7_init_74 : decode cX7_init 74 = .ok (.putfield 35, 3) := by decide +kernel
theorem dX7_init_77 : decode cX7_init 77 = .ok (.aload_n 0, 1) := by decide +kernel
theorem dX7_init_78 : decode cX7_init 78 = .ok (.bipush 36, 2) := by decide +kernel
theorem dX7_init_80 : decode cX7_init 80 = .ok (.newarray .boolean, 2) := by decide +kernel
theorem dX7_init_82 : decode cX7_init 82 = .ok (.putfield 39, 3) := by decide +kernel
theorem dX7_init_85 : decode cX7_init 85 = .ok (.aload_n 0, 1) := by decide +kernel
theorem dX7_init_86 : decode cX7_init 86 = .ok (.sipush 144, 3) := by decide +kernel
theorem dX7_init_89 : decode cX7_init 89 = .ok (.newarray .int, 2) := by decide +kernel
theorem dX7_init_91 : decode cX7_init 91 = .ok (.putfield 42, 3) := by decide +kernel
theorem dX7_init_94 : decode cX7_init 94 = .ok (.aload_n 0, 1) := by decide +kernel
theorem dX7_init_95 : decode cX7_init 95 = .ok (.bipush 6, 2) := by decide +kernel
theorem dX7_init_97 : decode cX7_init 97 = .ok (.newarray .int, 2) := by decide +kernel
theorem dX7_init_99 : decode cX7_init 99 = .ok (.putfield 45, 3) := by decide +kernel
theorem dX7_init_102 : decode cX7_init 102 = .ok (.aload_n 0, 1) := by decide +kernel
theorem dX7_init_103 : decode cX7_init 103 = .ok (.bipush 24, 2) := by decide +kernel
theorem dX7_init_105 : decode cX7_init 105 = .ok (.newarray .int, 2) := by decide +kernel
theorem dX7_init_107 : decode cX7_init 107 = .ok (.putfield 48, 3) := by decide +kernel
theorem dX7_init_110 : decode cX7_init 110 = .ok (.aload_n 0, 1) := by decide +kernel
theorem dX7_init_111 : decode cX7_init 111 = .ok (.iconst 4, 1) := by decide +kernel
theorem dX7_init_112 : decode cX7_init 112 = .ok (.newarray .int, 2) := by decide +kernel
theorem dX7_init_114 : decode cX7_init 114 = .ok (.putfield 51, 3) := by decide +kernel
theorem dX7_init_117 : decode cX7_init 117 = .ok (.aload_n 0, 1) := by decide +kernel
theorem dX7_init_118 : decode cX7_init 118 = .ok (.iconst 4, 1) := by decide +kernel
theorem dX7_init_119 : decode cX7_init 119 = .ok (.newarray .int, 2) := by decide +kernel
theorem dX7_init_121 : decode cX7_init 121 = .ok (.putfield 54, 3) := by decide +kernel
theorem dX7_init_124 : decode cX7_init 124 = .ok (.aload_n 0, 1) := by decide +kernel
theorem dX7_init_125 : decode cX7_init 125 = .ok (.iconst (-1), 1) := by decide +kernel
theorem dX7_init_126 : decode cX7_init 126 = .ok (.putfield 57, 3) := by decide +kernel
theorem dX7_init_129 : decode cX7_init 129 = .ok (.aload_n 0, 1) := by decide +kernel
theorem dX7_init_130 : decode cX7_init 130 = .ok (.sipush 1728, 3) := by decide +kernel
theorem dX7_init_133 : decode cX7_init 133 = .ok (.newarray .int, 2) := by decide +kernel
theorem dX7_init_135 : decode cX7_init 135 = .ok (.putfield 61, 3) := by decide +kernel
theorem dX7_init_138 : decode cX7_init 138 = .ok (.aload_n 0, 1) := by decide +kernel
theorem dX7_init_139 : decode cX7_init 139 = .ok (.sipush 288, 3) := by decide +kernel
theorem dX7_init_142 : decode cX7_init 142 = .ok (.newarray .int, 2) := by decide +kernel
theorem dX7_init_144 : decode cX7_init 144 = .ok (.putfield 64, 3) := by decide +kernel
theorem dX7_init_147 : decode cX7_init 147 = .ok (.aload_n 0, 1) := by decide +kernel
theorem dX7_init_148 : decode cX7_init 148 = .ok (.bipush 8, 2) := by decide +kernel
theorem dX7_init_150 : decode cX7_init 150 = .ok (.newarray .int, 2) := by decide +kernel
theorem dX7_init_152 : decode cX7_init 152 = .ok (.putfield 67, 3) := by decide +kernel
theorem dX7_init_155 : decode cX7_init 155 = .ok (.aload_n 0, 1) := by decide +kernel
theorem dX7_init_156 : decode cX7_init 156 = .ok (.bipush 6, 2) := by decide +kernel
theorem dX7_init_158 : decode cX7_init 158 = .ok (.newarray .int, 2) := by decide +kernel
theorem dX7_init_160 : decode cX7_init 160 = .ok (.putfield 70, 3) := by decide +kernel
theorem dX7_init_163 : decode cX7_init 163 = .ok (.return_, 1) := by decide +kernel
theorem dX7_thrown_0 : decode cX7_thrown 0 = .ok (.aload_n 0, 1) := by decide +kernel
theorem dX7_thrown_1 : decode cX7_thrown 1 = .ok (.getfield 73, 3) := by decide +kernel
theorem dX7_thrown_4 : decode cX7_thrown 4 = .ok (.ireturn, 1) := by decide +kernel
theorem dX7_in_0 : decode cX7_in 0 = .ok (.iload_n 0, 1) := by decide +kernel
theorem dX7_in_1 : decode cX7_in 1 = .ok (.iload_n 1, 1) := by decide +kernel
theorem dX7_in_2 : decode cX7_in 2 = .ok (.if_icmp .lt 12, 3) := by decide +kernel
theorem dX7_in_5 : decode cX7_in 5 = .ok (.iload_n 0, 1) := by decide +kernel
theorem dX7_in_6 : decode cX7_in 6 = .ok (.iload_n 2, 1) := by decide +kernel
theorem dX7_in_7 : decode cX7_in 7 = .ok (.if_icmp .gt 7, 3) := by decide +kernel
theorem dX7_in_10 : decode cX7_in 10 = .ok (.iconst 1, 1) := by decide +kernel
theorem dX7_in_11 : decode cX7_in 11 = .ok (.goto 4, 3) := by decide +kernel
theorem dX7_in_14 : decode cX7_in 14 = .ok (.iconst 0, 1) := by decide +kernel
theorem dX7_in_15 : decode cX7_in 15 = .ok (.ireturn, 1) := by decide +kernel
theorem dX7_goes_0 : decode cX7_goes 0 = .ok (.aload_n 0, 1) := by decide +kernel
theorem dX7_goes_1 : decode cX7_goes 1 = .ok (.iload_n 1, 1) := by decide +kernel
theorem dX7_goes_2 : decode cX7_goes 2 = .ok (.ifCond .ne 7, 3) := by decide +kernel
theorem dX7_goes_5 : decode cX7_goes 5 = .ok (.iconst 1, 1) := by decide +kernel
theorem dX7_goes_6 : decode cX7_goes 6 = .ok (.goto 20, 3) := by decide +kernel
theorem dX7_goes_9 : decode cX7_goes 9 = .ok (.iload_n 2, 1) := by decide +kernel
theorem dX7_goes_10 : decode cX7_goes 10 = .ok (.ifCond .ne 7, 3) := by decide +kernel
theorem dX7_goes_13 : decode cX7_goes 13 = .ok (.iconst 2, 1) := by decide +kernel
theorem dX7_goes_14 : decode cX7_goes 14 = .ok (.goto 12, 3) := by decide +kernel
theorem dX7_goes_17 : decode cX7_goes 17 = .ok (.iload_n 3, 1) := by decide +kernel
theorem dX7_goes_18 : decode cX7_goes 18 = .ok (.ifCond .eq 7, 3) := by decide +kernel
theorem dX7_goes_21 : decode cX7_goes 21 = .ok (.iconst 0, 1) := by decide +kernel
theorem dX7_goes_22 : decode cX7_goes 22 = .ok (.goto 4, 3) := by decide +kernel
theorem dX7_goes_25 : decode cX7_goes 25 = .ok (.iconst 3, 1) := by decide +kernel
theorem dX7_goes_26 : decode cX7_goes 26 = .ok (.putfield 73, 3) := by decide +kernel
theorem dX7_goes_29 : decode cX7_goes 29 = .ok (.aload_n 0, 1) := by decide +kernel
theorem dX7_goes_30 : decode cX7_goes 30 = .ok (.getfield 73, 3) := by decide +kernel
theorem dX7_goes_33 : decode cX7_goes 33 = .ok (.ifCond .ne 7, 3) := by decide +kernel
theorem dX7_goes_36 : decode cX7_goes 36 = .ok (.iconst 1, 1) := by decide +kernel
theorem dX7_goes_37 : decode cX7_goes 37 = .ok (.goto 4, 3) := by decide +kernel
theorem dX7_goes_40 : decode cX7_goes 40 = .ok (.iconst 0, 1) := by decide +kernel
theorem dX7_goes_41 : decode cX7_goes 41 = .ok (.ireturn, 1) := by decide +kernel
theorem dX7_isWord_0 : decode cX7_isWord 0 = .ok (.iload_n 1, 1) := by decide +kernel
theorem dX7_isWord_1 : decode cX7_isWord 1 = .ok (.iconst 0, 1) := by decide +kernel
theorem dX7_isWord_2 : decode cX7_isWord 2 = .ok (.aload_n 0, 1) := by decide +kernel
theorem dX7_isWord_3 : decode cX7_isWord 3 = .ok (.getfield 76, 3) := by decide +kernel
theorem dX7_isWord_6 : decode cX7_isWord 6 = .ok (.iconst 1, 1) := by decide +kernel
theorem dX7_isWord_7 : decode cX7_isWord 7 = .ok (.isub, 1) := by decide +kernel
theorem dX7_isWord_8 : decode cX7_isWord 8 = .ok (.invokestatic 79, 3) := by decide +kernel
theorem dX7_isWord_11 : decode cX7_isWord 11 = .ok (.ireturn, 1) := by decide +kernel
theorem dX7_isPoet_0 : decode cX7_isPoet 0 = .ok (.iload_n 1, 1) := by decide +kernel
theorem dX7_isPoet_1 : decode cX7_isPoet 1 = .ok (.iconst 0, 1) := by decide +kernel
theorem dX7_isPoet_2 : decode cX7_isPoet 2 = .ok (.aload_n 0, 1) := by decide +kernel
theorem dX7_isPoet_3 : decode cX7_isPoet 3 = .ok (.getfield 83, 3) := by decide +kernel
theorem dX7_isPoet_6 : decode cX7_isPoet 6 = .ok (.iconst 1, 1) := by decide +kernel
theorem dX7_isPoet_7 : decode cX7_isPoet 7 = .ok (.isub, 1) := by decide +kernel
theorem dX7_isPoet_8 : decode cX7_isPoet 8 = .ok (.invokestatic 79, 3) := by decide +kernel
theorem dX7_isPoet_11 : decode cX7_isPoet 11 = .ok (.ireturn, 1) := by decide +kernel
theorem dX7_isLink_0 : decode cX7_isLink 0 = .ok (.iload_n 1, 1) := by decide +kernel
theorem dX7_isLink_1 : decode cX7_isLink 1 = .ok (.iconst 0, 1) := by decide +kernel
theorem dX7_isLink_2 : decode cX7_isLink 2 = .ok (.aload_n 0, 1) := by decide +kernel
theorem dX7_isLink_3 : decode cX7_isLink 3 = .ok (.getfield 86, 3) := by decide +kernel
theorem dX7_isLink_6 : decode cX7_isLink 6 = .ok (.iconst 1, 1) := by decide +kernel
theorem dX7_isLink_7 : decode cX7_isLink 7 = .ok (.isub, 1) := by decide +kernel
theorem dX7_isLink_8 : decode cX7_isLink 8 = .ok (.invokestatic 79, 3) := by decide +kernel
theorem dX7_isLink_11 : decode cX7_isLink 11 = .ok (.ireturn, 1) := by decide +kernel
theorem dX7_isFinished_0 : decode cX7_isFinished 0 = .ok (.aload_n 0, 1) := by decide +kernel
theorem dX7_isFinished_1 : decode cX7_isFinished 1 = .ok (.getfield 86, 3) := by decide +kernel
theorem dX7_isFinished_4 : decode cX7_isFinished 4 = .ok (.aload_n 0, 1) := by decide +kernel
theorem dX7_isFinished_5 : decode cX7_isFinished 5 = .ok (.getfield 89, 3) := by decide +kernel
theorem dX7_isFinished_8 : decode cX7_isFinished 8 = .ok (.if_icmp .ne 7, 3) := by decide +kernel
theorem dX7_isFinished_11 : decode cX7_isFinished 11 = .ok (.iconst 1, 1) := by decide +kernel
theorem dX7_isFinished_12 : decode cX7_isFinished 12 = .ok (.goto 4, 3) := by decide +kernel
theorem dX7_isFinished_15 : decode cX7_isFinished 15 = .ok (.iconst 0, 1) := by decide +kernel
theorem dX7_isFinished_16 : decode cX7_isFinished 16 = .ok (.ireturn, 1) := by decide +kernel
theorem dX7_word_0 : decode cX7_word 0 = .ok (.aload_n 0, 1) := by decide +kernel
theorem dX7_word_1 : decode cX7_word 1 = .ok (.iload_n 1, 1) := by decide +kernel
theorem dX7_word_2 : decode cX7_word 2 = .ok (.iconst 1, 1) := by decide +kernel
theorem dX7_word_3 : decode cX7_word 3 = .ok (.bipush 12, 2) := by decide +kernel
theorem dX7_word_5 : decode cX7_word 5 = .ok (.invokestatic 79, 3) := by decide +kernel
theorem dX7_word_8 : decode cX7_word 8 = .ok (.ifCond .eq 27, 3) := by decide +kernel
theorem dX7_word_11 : decode cX7_word 11 = .ok (.iload_n 2, 1) := by decide +kernel
theorem dX7_word_12 : decode cX7_word 12 = .ok (.iconst (-1), 1) := by decide +kernel
theorem dX7_word_13 : decode cX7_word 13 = .ok (.iconst 3, 1) := by decide +kernel
theorem dX7_word_14 : decode cX7_word 14 = .ok (.invokestatic 79, 3) := by decide +kernel
theorem dX7_word_17 : decode cX7_word 17 = .ok (.ifCond .eq 18, 3) := by decide +kernel
theorem dX7_word_20 : decode cX7_word 20 = .ok (.iload_n 3, 1) := by decide +kernel
theorem dX7_word_21 : decode cX7_word 21 = .ok (.iconst 0, 1) := by decide +kernel
theorem dX7_word_22 : decode cX7_word 22 = .ok (.sipush 1023, 3) := by decide +kernel
theorem dX7_word_25 : decode cX7_word 25 = .ok (.invokestatic 79, 3) := by decide +kernel
theorem dX7_word_28 : decode cX7_word 28 = .ok (.ifCond .eq 7, 3) := by decide +kernel
theorem dX7_word_31 : decode cX7_word 31 = .ok (.iconst 1, 1) := by decide +kernel
theorem dX7_word_32 : decode cX7_word 32 = .ok (.goto 4, 3) := by decide +kernel
theorem dX7_word_35 : decode cX7_word 35 = .ok (.iconst 0, 1) := by decide +kernel
theorem dX7_word_36 : decode cX7_word 36 = .ok (.aload_n 0, 1) := by decide +kernel
theorem dX7_word_37 : decode cX7_word 37 = .ok (.getfield 76, 3) := by decide +kernel
theorem dX7_word_40 : decode cX7_word 40 = .ok (.bipush 40, 2) := by decide +kernel
theorem dX7_word_42 : decode cX7_word 42 = .ok (.if_icmp .ge 7, 3) := by decide +kernel
theorem dX7_word_45 : decode cX7_word 45 = .ok (.iconst 1, 1) := by decide +kernel
theorem dX7_word_46 : decode cX7_word 46 = .ok (.goto 4, 3) := by decide +kernel
theorem dX7_word_49 : decode cX7_word 49 = .ok (.iconst 0, 1) := by decide +kernel
theorem dX7_word_50 : decode cX7_word 50 = .ok (.iconst 1, 1) := by decide +kernel
theorem dX7_word_51 : decode cX7_word 51 = .ok (.invokevirtual 92, 3) := by decide +kernel
theorem dX7_word_54 : decode cX7_word 54 = .ok (.ifCond .ne 5, 3) := by decide +kernel
theorem dX7_word_57 : decode cX7_word 57 = .ok (.iconst 0, 1) := by decide +kernel
theorem dX7_word_58 : decode cX7_word 58 = .ok (.ireturn, 1) := by decide +kernel
theorem dX7_word_59 : decode cX7_word 59 = .ok (.aload_n 0, 1) := by decide +kernel
theorem dX7_word_60 : decode cX7_word 60 = .ok (.getfield 7, 3) := by decide +kernel
theorem dX7_word_63 : decode cX7_word 63 = .ok (.aload_n 0, 1) := by decide +kernel
theorem dX7_word_64 : decode cX7_word 64 = .ok (.getfield 76, 3) := by decide +kernel
theorem dX7_word_67 : decode cX7_word 67 = .ok (.iload_n 1, 1) := by decide +kernel
theorem dX7_word_68 : decode cX7_word 68 = .ok (.iastore, 1) := by decide +kernel
theorem dX7_word_69 : decode cX7_word 69 = .ok (.aload_n 0, 1) := by decide +kernel
theorem dX7_word_70 : decode cX7_word 70 = .ok (.getfield 13, 3) := by decide +kernel
theorem dX7_word_73 : decode cX7_word 73 = .ok (.aload_n 0, 1) := by decide +kernel
theorem dX7_word_74 : decode cX7_word 74 = .ok (.getfield 76, 3) := by decide +kernel
theorem dX7_word_77 : decode cX7_word 77 = .ok (.iload_n 2, 1) := by decide +kernel
theorem dX7_word_78 : decode cX7_word 78 = .ok (.iastore, 1) := by decide +kernel
theorem dX7_word_79 : decode cX7_word 79 = .ok (.aload_n 0, 1) := by decide +kernel
theorem dX7_word_80 : decode cX7_word 80 = .ok (.getfield 16, 3) := by decide +kernel
theorem dX7_word_83 : decode cX7_word 83 = .ok (.aload_n 0, 1) := by decide +kernel
theorem dX7_word_84 : decode cX7_word 84 = .ok (.getfield 76, 3) := by decide +kernel
theorem dX7_word_87 : decode cX7_word 87 = .ok (.iload_n 3, 1) := by decide +kernel
theorem dX7_word_88 : decode cX7_word 88 = .ok (.iastore, 1) := by decide +kernel
theorem dX7_word_89 : decode cX7_word 89 = .ok (.aload_n 0, 1) := by decide +kernel
theorem dX7_word_90 : decode cX7_word 90 = .ok (.dup, 1) := by decide +kernel
theorem dX7_word_91 : decode cX7_word 91 = .ok (.getfield 76, 3) := by decide +kernel
theorem dX7_word_94 : decode cX7_word 94 = .ok (.iconst 1, 1) := by decide +kernel
theorem dX7_word_95 : decode cX7_word 95 = .ok (.iadd, 1) := by decide +kernel
theorem dX7_word_96 : decode cX7_word 96 = .ok (.putfield 76, 3) := by decide +kernel
theorem dX7_word_99 : decode cX7_word 99 = .ok (.aload_n 0, 1) := by decide +kernel
theorem dX7_word_100 : decode cX7_word 100 = .ok (.getfield 76, 3) := by decide +kernel
theorem dX7_word_103 : decode cX7_word 103 = .ok (.iconst 1, 1) := by decide +kernel
theorem dX7_word_104 : decode cX7_word 104 = .ok (.isub, 1) := by decide +kernel
theorem dX7_word_105 : decode cX7_word 105 = .ok (.ireturn, 1) := by decide +kernel
theorem dX7_calls_0 : decode cX7_calls 0 = .ok (.aload_n 0, 1) := by decide +kernel
theorem dX7_calls_1 : decode cX7_calls 1 = .ok (.getfield 19, 3) := by decide +kernel
theorem dX7_calls_4 : decode cX7_calls 4 = .ok (.iload_n 1, 1) := by decide +kernel
theorem dX7_calls_5 : decode cX7_calls 5 = .ok (.laload, 1) := by decide +kernel
theorem dX7_calls_6 : decode cX7_calls 6 = .ok (.iload_n 2, 1) := by decide +kernel
theorem dX7_calls_7 : decode cX7_calls 7 = .ok (.lshr, 1) := by decide +kernel
theorem dX7_calls_8 : decode cX7_calls 8 = .ok (.lconst 1, 1) := by decide +kernel
theorem dX7_calls_9 : decode cX7_calls 9 = .ok (.land, 1) := by decide +kernel
theorem dX7_calls_10 : decode cX7_calls 10 = .ok (.lconst 1, 1) := by decide +kernel
theorem dX7_calls_11 : decode cX7_calls 11 = .ok (.lcmp, 1) := by decide +kernel
theorem dX7_calls_12 : decode cX7_calls 12 = .ok (.ifCond .ne 7, 3) := by decide +kernel
theorem dX7_calls_15 : decode cX7_calls 15 = .ok (.iconst 1, 1) := by decide +kernel
theorem dX7_calls_16 : decode cX7_calls 16 = .ok (.goto 4, 3) := by decide +kernel
theorem dX7_calls_19 : decode cX7_calls 19 = .ok (.iconst 0, 1) := by decide +kernel
theorem dX7_calls_20 : decode cX7_calls 20 = .ok (.ireturn, 1) := by decide +kernel
theorem dX7_call_0 : decode cX7_call 0 = .ok (.aload_n 0, 1) := by decide +kernel
theorem dX7_call_1 : decode cX7_call 1 = .ok (.aload_n 0, 1) := by decide +kernel
theorem dX7_call_2 : decode cX7_call 2 = .ok (.iload_n 1, 1) := by decide +kernel
theorem dX7_call_3 : decode cX7_call 3 = .ok (.invokevirtual 96, 3) := by decide +kernel
theorem dX7_call_6 : decode cX7_call 6 = .ok (.ifCond .eq 15, 3) := by decide +kernel
theorem dX7_call_9 : decode cX7_call 9 = .ok (.aload_n 0, 1) := by decide +kernel
theorem dX7_call_10 : decode cX7_call 10 = .ok (.iload_n 2, 1) := by decide +kernel
theorem dX7_call_11 : decode cX7_call 11 = .ok (.invokevirtual 96, 3) := by decide +kernel
theorem dX7_call_14 : decode cX7_call 14 = .ok (.ifCond .eq 7, 3) := by decide +kernel
theorem dX7_call_17 : decode cX7_call 17 = .ok (.iconst 1, 1) := by decide +kernel
theorem dX7_call_18 : decode cX7_call 18 = .ok (.goto 4, 3) := by decide +kernel
theorem dX7_call_21 : decode cX7_call 21 = .ok (.iconst 0, 1) := by decide +kernel
theorem dX7_call_22 : decode cX7_call 22 = .ok (.iload_n 1, 1) := by decide +kernel
theorem dX7_call_23 : decode cX7_call 23 = .ok (.iload_n 2, 1) := by decide +kernel
theorem dX7_call_24 : decode cX7_call 24 = .ok (.if_icmp .eq 7, 3) := by decide +kernel
theorem dX7_call_27 : decode cX7_call 27 = .ok (.iconst 1, 1) := by decide +kernel
theorem dX7_call_28 : decode cX7_call 28 = .ok (.goto 4, 3) := by decide +kernel
theorem dX7_call_31 : decode cX7_call 31 = .ok (.iconst 0, 1) := by decide +kernel
theorem dX7_call_32 : decode cX7_call 32 = .ok (.iconst 1, 1) := by decide +kernel
theorem dX7_call_33 : decode cX7_call 33 = .ok (.invokevirtual 92, 3) := by decide +kernel
theorem dX7_call_36 : decode cX7_call 36 = .ok (.ifCond .ne 5, 3) := by decide +kernel
theorem dX7_call_39 : decode cX7_call 39 = .ok (.iconst 0, 1) := by decide +kernel
theorem dX7_call_40 : decode cX7_call 40 = .ok (.ireturn, 1) := by decide +kernel
theorem dX7_call_41 : decode cX7_call 41 = .ok (.aload_n 0, 1) := by decide +kernel
theorem dX7_call_42 : decode cX7_call 42 = .ok (.iload_n 1, 1) := by decide +kernel
theorem dX7_call_43 : decode cX7_call 43 = .ok (.iload_n 2, 1) := by decide +kernel
theorem dX7_call_44 : decode cX7_call 44 = .ok (.invokevirtual 100, 3) := by decide +kernel
theorem dX7_call_47 : decode cX7_call 47 = .ok (.istore_n 3, 1) := by decide +kernel
theorem dX7_call_48 : decode cX7_call 48 = .ok (.aload_n 0, 1) := by decide +kernel
theorem dX7_call_49 : decode cX7_call 49 = .ok (.getfield 19, 3) := by decide +kernel
theorem dX7_call_52 : decode cX7_call 52 = .ok (.iload_n 1, 1) := by decide +kernel
theorem dX7_call_53 : decode cX7_call 53 = .ok (.dup2, 1) := by decide +kernel
theorem dX7_call_54 : decode cX7_call 54 = .ok (.laload, 1) := by decide +kernel
theorem dX7_call_55 : decode cX7_call 55 = .ok (.lconst 1, 1) := by decide +kernel
theorem dX7_call_56 : decode cX7_call 56 = .ok (.iload_n 2, 1) := by decide +kernel
theorem dX7_call_57 : decode cX7_call 57 = .ok (.lshl, 1) := by decide +kernel
theorem dX7_call_58 : decode cX7_call 58 = .ok (.lor, 1) := by decide +kernel
theorem dX7_call_59 : decode cX7_call 59 = .ok (.lastore, 1) := by decide +kernel
theorem dX7_call_60 : decode cX7_call 60 = .ok (.aload_n 0, 1) := by decide +kernel
theorem dX7_call_61 : decode cX7_call 61 = .ok (.getfield 19, 3) := by decide +kernel
theorem dX7_call_64 : decode cX7_call 64 = .ok (.iload_n 2, 1) := by decide +kernel
theorem dX7_call_65 : decode cX7_call 65 = .ok (.dup2, 1) := by decide +kernel
theorem dX7_call_66 : decode cX7_call 66 = .ok (.laload, 1) := by decide +kernel
theorem dX7_call_67 : decode cX7_call 67 = .ok (.lconst 1, 1) := by decide +kernel
theorem dX7_call_68 : decode cX7_call 68 = .ok (.iload_n 1, 1) := by decide +kernel
theorem dX7_call_69 : decode cX7_call 69 = .ok (.lshl, 1) := by decide +kernel
theorem dX7_call_70 : decode cX7_call 70 = .ok (.lor, 1) := by decide +kernel
theorem dX7_call_71 : decode cX7_call 71 = .ok (.lastore, 1) := by decide +kernel
theorem dX7_call_72 : decode cX7_call 72 = .ok (.iload_n 3, 1) := by decide +kernel
theorem dX7_call_73 : decode cX7_call 73 = .ok (.ireturn, 1) := by decide +kernel
theorem dX7_poet_0 : decode cX7_poet 0 = .ok (.aload_n 0, 1) := by decide +kernel
theorem dX7_poet_1 : decode cX7_poet 1 = .ok (.aload_n 0, 1) := by decide +kernel
theorem dX7_poet_2 : decode cX7_poet 2 = .ok (.getfield 83, 3) := by decide +kernel
theorem dX7_poet_5 : decode cX7_poet 5 = .ok (.bipush 6, 2) := by decide +kernel
theorem dX7_poet_7 : decode cX7_poet 7 = .ok (.if_icmp .ge 7, 3) := by decide +kernel
theorem dX7_poet_10 : decode cX7_poet 10 = .ok (.iconst 1, 1) := by decide +kernel
theorem dX7_poet_11 : decode cX7_poet 11 = .ok (.goto 4, 3) := by decide +kernel
theorem dX7_poet_14 : decode cX7_poet 14 = .ok (.iconst 0, 1) := by decide +kernel
theorem dX7_poet_15 : decode cX7_poet 15 = .ok (.iconst 1, 1) := by decide +kernel
theorem dX7_poet_16 : decode cX7_poet 16 = .ok (.iconst 1, 1) := by decide +kernel
theorem dX7_poet_17 : decode cX7_poet 17 = .ok (.invokevirtual 92, 3) := by decide +kernel
theorem dX7_poet_20 : decode cX7_poet 20 = .ok (.ifCond .ne 5, 3) := by decide +kernel
theorem dX7_poet_23 : decode cX7_poet 23 = .ok (.iconst 0, 1) := by decide +kernel
theorem dX7_poet_24 : decode cX7_poet 24 = .ok (.ireturn, 1) := by decide +kernel
theorem dX7_poet_25 : decode cX7_poet 25 = .ok (.aload_n 0, 1) := by decide +kernel
theorem dX7_poet_26 : decode cX7_poet 26 = .ok (.dup, 1) := by decide +kernel
theorem dX7_poet_27 : decode cX7_poet 27 = .ok (.getfield 83, 3) := by decide +kernel
theorem dX7_poet_30 : decode cX7_poet 30 = .ok (.iconst 1, 1) := by decide +kernel
theorem dX7_poet_31 : decode cX7_poet 31 = .ok (.iadd, 1) := by decide +kernel
theorem dX7_poet_32 : decode cX7_poet 32 = .ok (.putfield 83, 3) := by decide +kernel
theorem dX7_poet_35 : decode cX7_poet 35 = .ok (.aload_n 0, 1) := by decide +kernel
theorem dX7_poet_36 : decode cX7_poet 36 = .ok (.getfield 83, 3) := by decide +kernel
theorem dX7_poet_39 : decode cX7_poet 39 = .ok (.iconst 1, 1) := by decide +kernel
theorem dX7_poet_40 : decode cX7_poet 40 = .ok (.isub, 1) := by decide +kernel
theorem dX7_poet_41 : decode cX7_poet 41 = .ok (.ireturn, 1) := by decide +kernel
theorem dX7_begin_0 : decode cX7_begin 0 = .ok (.iload_n 1, 1) := by decide +kernel
theorem dX7_begin_1 : decode cX7_begin 1 = .ok (.iconst 2, 1) := by decide +kernel
theorem dX7_begin_2 : decode cX7_begin 2 = .ok (.bipush 36, 2) := by decide +kernel
theorem dX7_begin_4 : decode cX7_begin 4 = .ok (.invokestatic 79, 3) := by decide +kernel
theorem dX7_begin_7 : decode cX7_begin 7 = .ok (.ifCond .eq 38, 3) := by decide +kernel
theorem dX7_begin_10 : decode cX7_begin 10 = .ok (.iload_n 2, 1) := by decide +kernel
theorem dX7_begin_11 : decode cX7_begin 11 = .ok (.iconst 0, 1) := by decide +kernel
theorem dX7_begin_12 : decode cX7_begin 12 = .ok (.bipush 10, 2) := by decide +kernel
theorem dX7_begin_14 : decode cX7_begin 14 = .ok (.invokestatic 79, 3) := by decide +kernel
theorem dX7_begin_17 : decode cX7_begin 17 = .ok (.ifCond .eq 28, 3) := by decide +kernel
theorem dX7_begin_20 : decode cX7_begin 20 = .ok (.iload_n 3, 1) := by decide +kernel
theorem dX7_begin_21 : decode cX7_begin 21 = .ok (.iconst 2, 1) := by decide +kernel
theorem dX7_begin_22 : decode cX7_begin 22 = .ok (.bipush 40, 2) := by decide +kernel
theorem dX7_begin_24 : decode cX7_begin 24 = .ok (.invokestatic 79, 3) := by decide +kernel
theorem dX7_begin_27 : decode cX7_begin 27 = .ok (.ifCond .eq 18, 3) := by decide +kernel
theorem dX7_begin_30 : decode cX7_begin 30 = .ok (.iload 4, 2) := by decide +kernel
theorem dX7_begin_32 : decode cX7_begin 32 = .ok (.iconst 2, 1) := by decide +kernel
theorem dX7_begin_33 : decode cX7_begin 33 = .ok (.bipush 40, 2) := by decide +kernel
theorem dX7_begin_35 : decode cX7_begin 35 = .ok (.invokestatic 79, 3) := by decide +kernel
theorem dX7_begin_38 : decode cX7_begin 38 = .ok (.ifCond .eq 7, 3) := by decide +kernel
theorem dX7_begin_41 : decode cX7_begin 41 = .ok (.iconst 1, 1) := by decide +kernel
theorem dX7_begin_42 : decode cX7_begin 42 = .ok (.goto 4, 3) := by decide +kernel
theorem dX7_begin_45 : decode cX7_begin 45 = .ok (.iconst 0, 1) := by decide +kernel
theorem dX7_begin_46 : decode cX7_begin 46 = .ok (.istore 5, 2) := by decide +kernel
theorem dX7_begin_48 : decode cX7_begin 48 = .ok (.aload_n 0, 1) := by decide +kernel
theorem dX7_begin_49 : decode cX7_begin 49 = .ok (.iload 5, 2) := by decide +kernel
theorem dX7_begin_51 : decode cX7_begin 51 = .ok (.aload_n 0, 1) := by decide +kernel
theorem dX7_begin_52 : decode cX7_begin 52 = .ok (.getfield 103, 3) := by decide +kernel
theorem dX7_begin_55 : decode cX7_begin 55 = .ok (.ifCond .eq 17, 3) := by decide +kernel
theorem dX7_begin_58 : decode cX7_begin 58 = .ok (.aload_n 0, 1) := by decide +kernel
theorem dX7_begin_59 : decode cX7_begin 59 = .ok (.getfield 86, 3) := by decide +kernel
theorem dX7_begin_62 : decode cX7_begin 62 = .ok (.ifCond .eq 10, 3) := by decide +kernel
theorem dX7_begin_65 : decode cX7_begin 65 = .ok (.aload_n 0, 1) := by decide +kernel
theorem dX7_begin_66 : decode cX7_begin 66 = .ok (.invokevirtual 107, 3) := by decide +kernel
theorem dX7_begin_69 : decode cX7_begin 69 = .ok (.ifCond .eq 7, 3) := by decide +kernel
theorem dX7_begin_72 : decode cX7_begin 72 = .ok (.iconst 1, 1) := by decide +kernel
theorem dX7_begin_73 : decode cX7_begin 73 = .ok (.goto 4, 3) := by decide +kernel
theorem dX7_begin_76 : decode cX7_begin 76 = .ok (.iconst 0, 1) := by decide +kernel
theorem dX7_begin_77 : decode cX7_begin 77 = .ok (.iconst 1, 1) := by decide +kernel
theorem dX7_begin_78 : decode cX7_begin 78 = .ok (.invokevirtual 92, 3) := by decide +kernel
theorem dX7_begin_81 : decode cX7_begin 81 = .ok (.ifCond .eq 109, 3) := by decide +kernel
theorem dX7_begin_84 : decode cX7_begin 84 = .ok (.aload_n 0, 1) := by decide +kernel
theorem dX7_begin_85 : decode cX7_begin 85 = .ok (.iconst 1, 1) := by decide +kernel
theorem dX7_begin_86 : decode cX7_begin 86 = .ok (.putfield 103, 3) := by decide +kernel
theorem dX7_begin_89 : decode cX7_begin 89 = .ok (.aload_n 0, 1) := by decide +kernel
theorem dX7_begin_90 : decode cX7_begin 90 = .ok (.iload_n 1, 1) := by decide +kernel
theorem dX7_begin_91 : decode cX7_begin 91 = .ok (.putfield 89, 3) := by decide +kernel
theorem dX7_begin_94 : decode cX7_begin 94 = .ok (.aload_n 0, 1) := by decide +kernel
theorem dX7_begin_95 : decode cX7_begin 95 = .ok (.iload_n 2, 1) := by decide +kernel
theorem dX7_begin_96 : decode cX7_begin 96 = .ok (.putfield 111, 3) := by decide +kernel
theorem dX7_begin_99 : decode cX7_begin 99 = .ok (.aload_n 0, 1) := by decide +kernel
theorem dX7_begin_100 : decode cX7_begin 100 = .ok (.iload_n 3, 1) := by decide +kernel
theorem dX7_begin_101 : decode cX7_begin 101 = .ok (.putfield 114, 3) := by decide +kernel
theorem dX7_begin_104 : decode cX7_begin 104 = .ok (.aload_n 0, 1) := by decide +kernel
theorem dX7_begin_105 : decode cX7_begin 105 = .ok (.iload 4, 2) := by decide +kernel
theorem dX7_begin_107 : decode cX7_begin 107 = .ok (.putfield 117, 3) := by decide +kernel
theorem dX7_begin_110 : decode cX7_begin 110 = .ok (.aload_n 0, 1) := by decide +kernel
theorem dX7_begin_111 : decode cX7_begin 111 = .ok (.iconst 0, 1) := by decide +kernel
theorem dX7_begin_112 : decode cX7_begin 112 = .ok (.putfield 86, 3) := by decide +kernel
theorem dX7_begin_115 : decode cX7_begin 115 = .ok (.aload_n 0, 1) := by decide +kernel
theorem dX7_begin_116 : decode cX7_begin 116 = .ok (.iconst 0, 1) := by decide +kernel
theorem dX7_begin_117 : decode cX7_begin 117 = .ok (.putfield 120, 3) := by decide +kernel
theorem dX7_begin_120 : decode cX7_begin 120 = .ok (.aload_n 0, 1) := by decide +kernel
theorem dX7_begin_121 : decode cX7_begin 121 = .ok (.iconst 0, 1) := by decide +kernel
theorem dX7_begin_122 : decode cX7_begin 122 = .ok (.putfield 123, 3) := by decide +kernel
theorem dX7_begin_125 : decode cX7_begin 125 = .ok (.iconst 0, 1) := by decide +kernel
theorem dX7_begin_126 : decode cX7_begin 126 = .ok (.istore 6, 2) := by decide +kernel
theorem dX7_begin_128 : decode cX7_begin 128 = .ok (.iload 6, 2) := by decide +kernel
theorem dX7_begin_130 : decode cX7_begin 130 = .ok (.bipush 36, 2) := by decide +kernel
theorem dX7_begin_132 : decode cX7_begin 132 = .ok (.if_icmp .ge 33, 3) := by decide +kernel
theorem dX7_begin_135 : decode cX7_begin 135 = .ok (.aload_n 0, 1) := by decide +kernel
theorem dX7_begin_136 : decode cX7_begin 136 = .ok (.getfield 32, 3) := by decide +kernel
theorem dX7_begin_139 : decode cX7_begin 139 = .ok (.iload 6, 2) := by decide +kernel
theorem dX7_begin_141 : decode cX7_begin 141 = .ok (.iconst 0, 1) := by decide +kernel
theorem dX7_begin_142 : decode cX7_begin 142 = .ok (.iastore, 1) := by decide +kernel
theorem dX7_begin_143 : decode cX7_begin 143 = .ok (.aload_n 0, 1) := by decide +kernel
theorem dX7_begin_144 : decode cX7_begin 144 = .ok (.getfield 35, 3) := by decide +kernel
theorem dX7_begin_147 : decode cX7_begin 147 = .ok (.iload 6, 2) := by decide +kernel
theorem dX7_begin_149 : decode cX7_begin 149 = .ok (.iconst 0, 1) := by decide +kernel
theorem dX7_begin_150 : decode cX7_begin 150 = .ok (.bastore, 1) := by decide +kernel
theorem dX7_begin_151 : decode cX7_begin 151 = .ok (.aload_n 0, 1) := by decide +kernel
theorem dX7_begin_152 : decode cX7_begin 152 = .ok (.getfield 39, 3) := by decide +kernel
theorem dX7_begin_155 : decode cX7_begin 155 = .ok (.iload 6, 2) := by decide +kernel
theorem dX7_begin_157 : decode cX7_begin 157 = .ok (.iconst 0, 1) := by decide +kernel
theorem dX7_begin_158 : decode cX7_begin 158 = .ok (.bastore, 1) := by decide +kernel
theorem dX7_begin_159 : decode cX7_begin 159 = .ok (.iinc 6 1, 3) := by decide +kernel
theorem dX7_begin_162 : decode cX7_begin 162 = .ok (.goto (-34), 3) := by decide +kernel
theorem dX7_begin_165 : decode cX7_begin 165 = .ok (.iconst 0, 1) := by decide +kernel
theorem dX7_begin_166 : decode cX7_begin 166 = .ok (.istore 6, 2) := by decide +kernel
theorem dX7_begin_168 : decode cX7_begin 168 = .ok (.iload 6, 2) := by decide +kernel
theorem dX7_begin_170 : decode cX7_begin 170 = .ok (.sipush 144, 3) := by decide +kernel
theorem dX7_begin_173 : decode cX7_begin 173 = .ok (.if_icmp .ge 17, 3) := by decide +kernel
theorem dX7_begin_176 : decode cX7_begin 176 = .ok (.aload_n 0, 1) := by decide +kernel
theorem dX7_begin_177 : decode cX7_begin 177 = .ok (.getfield 42, 3) := by decide +kernel
theorem dX7_begin_180 : decode cX7_begin 180 = .ok (.iload 6, 2) := by decide +kernel
theorem dX7_begin_182 : decode cX7_begin 182 = .ok (.iconst 0, 1) := by decide +kernel
theorem dX7_begin_183 : decode cX7_begin 183 = .ok (.iastore, 1) := by decide +kernel
theorem dX7_begin_184 : decode cX7_begin 184 = .ok (.iinc 6 1, 3) := by decide +kernel
theorem dX7_begin_187 : decode cX7_begin 187 = .ok (.goto (-19), 3) := by decide +kernel
theorem dX7_begin_190 : decode cX7_begin 190 = .ok (.return_, 1) := by decide +kernel
theorem dX7_seat_0 : decode cX7_seat 0 = .ok (.aload_n 0, 1) := by decide +kernel
theorem dX7_seat_1 : decode cX7_seat 1 = .ok (.aload_n 0, 1) := by decide +kernel
theorem dX7_seat_2 : decode cX7_seat 2 = .ok (.getfield 103, 3) := by decide +kernel
theorem dX7_seat_5 : decode cX7_seat 5 = .ok (.ifCond .eq 24, 3) := by decide +kernel
theorem dX7_seat_8 : decode cX7_seat 8 = .ok (.iload_n 1, 1) := by decide +kernel
theorem dX7_seat_9 : decode cX7_seat 9 = .ok (.aload_n 0, 1) := by decide +kernel
theorem dX7_seat_10 : decode cX7_seat 10 = .ok (.getfield 86, 3) := by decide +kernel
theorem dX7_seat_13 : decode cX7_seat 13 = .ok (.aload_n 0, 1) := by decide +kernel
theorem dX7_seat_14 : decode cX7_seat 14 = .ok (.getfield 89, 3) := by decide +kernel
theorem dX7_seat_17 : decode cX7_seat 17 = .ok (.iconst 1, 1) := by decide +kernel
theorem dX7_seat_18 : decode cX7_seat 18 = .ok (.isub, 1) := by decide +kernel
theorem dX7_seat_19 : decode cX7_seat 19 = .ok (.invokestatic 79, 3) := by decide +kernel
theorem dX7_seat_22 : decode cX7_seat 22 = .ok (.ifCond .eq 7, 3) := by decide +kernel
theorem dX7_seat_25 : decode cX7_seat 25 = .ok (.iconst 1, 1) := by decide +kernel
theorem dX7_seat_26 : decode cX7_seat 26 = .ok (.goto 4, 3) := by decide +kernel
theorem dX7_seat_29 : decode cX7_seat 29 = .ok (.iconst 0, 1) := by decide +kernel
theorem dX7_seat_30 : decode cX7_seat 30 = .ok (.iload_n 2, 1) := by decide +kernel
theorem dX7_seat_31 : decode cX7_seat 31 = .ok (.iconst 0, 1) := by decide +kernel
theorem dX7_seat_32 : decode cX7_seat 32 = .ok (.iconst 2, 1) := by decide +kernel
theorem dX7_seat_33 : decode cX7_seat 33 = .ok (.invokestatic 79, 3) := by decide +kernel
theorem dX7_seat_36 : decode cX7_seat 36 = .ok (.aload_n 0, 1) := by decide +kernel
theorem dX7_seat_37 : decode cX7_seat 37 = .ok (.getfield 120, 3) := by decide +kernel
theorem dX7_seat_40 : decode cX7_seat 40 = .ok (.ifCond .ne 7, 3) := by decide +kernel
theorem dX7_seat_43 : decode cX7_seat 43 = .ok (.iconst 1, 1) := by decide +kernel
theorem dX7_seat_44 : decode cX7_seat 44 = .ok (.goto 4, 3) := by decide +kernel
theorem dX7_seat_47 : decode cX7_seat 47 = .ok (.iconst 0, 1) := by decide +kernel
theorem dX7_seat_48 : decode cX7_seat 48 = .ok (.invokevirtual 92, 3) := by decide +kernel
theorem dX7_seat_51 : decode cX7_seat 51 = .ok (.ifCond .ne 5, 3) := by decide +kernel
theorem dX7_seat_54 : decode cX7_seat 54 = .ok (.iconst 0, 1) := by decide +kernel
theorem dX7_seat_55 : decode cX7_seat 55 = .ok (.ireturn, 1) := by decide +kernel
theorem dX7_seat_56 : decode cX7_seat 56 = .ok (.aload_n 0, 1) := by decide +kernel
theorem dX7_seat_57 : decode cX7_seat 57 = .ok (.getfield 32, 3) := by decide +kernel
theorem dX7_seat_60 : decode cX7_seat 60 = .ok (.iload_n 1, 1) := by decide +kernel
theorem dX7_seat_61 : decode cX7_seat 61 = .ok (.iaload, 1) := by decide +kernel
theorem dX7_seat_62 : decode cX7_seat 62 = .ok (.istore_n 3, 1) := by decide +kernel
theorem dX7_seat_63 : decode cX7_seat 63 = .ok (.aload_n 0, 1) := by decide +kernel
theorem dX7_seat_64 : decode cX7_seat 64 = .ok (.getfield 32, 3) := by decide +kernel
theorem dX7_seat_67 : decode cX7_seat 67 = .ok (.iload_n 1, 1) := by decide +kernel
theorem dX7_seat_68 : decode cX7_seat 68 = .ok (.iload_n 2, 1) := by decide +kernel
theorem dX7_seat_69 : decode cX7_seat 69 = .ok (.iastore, 1) := by decide +kernel
theorem dX7_seat_70 : decode cX7_seat 70 = .ok (.iload_n 3, 1) := by decide +kernel
theorem dX7_seat_71 : decode cX7_seat 71 = .ok (.ireturn, 1) := by decide +kernel
theorem dX7_add_0 : decode cX7_add 0 = .ok (.aload_n 0, 1) := by decide +kernel
theorem dX7_add_1 : decode cX7_add 1 = .ok (.aload_n 0, 1) := by decide +kernel
theorem dX7_add_2 : decode cX7_add 2 = .ok (.iload_n 1, 1) := by decide +kernel
theorem dX7_add_3 : decode cX7_add 3 = .ok (.invokevirtual 96, 3) := by decide +kernel
theorem dX7_add_6 : decode cX7_add 6 = .ok (.aload_n 0, 1) := by decide +kernel
theorem dX7_add_7 : decode cX7_add 7 = .ok (.getfield 126, 3) := by decide +kernel
theorem dX7_add_10 : decode cX7_add 10 = .ok (.bipush 6, 2) := by decide +kernel
theorem dX7_add_12 : decode cX7_add 12 = .ok (.if_icmp .ge 7, 3) := by decide +kernel
theorem dX7_add_15 : decode cX7_add 15 = .ok (.iconst 1, 1) := by decide +kernel
theorem dX7_add_16 : decode cX7_add 16 = .ok (.goto 4, 3) := by decide +kernel
theorem dX7_add_19 : decode cX7_add 19 = .ok (.iconst 0, 1) := by decide +kernel
theorem dX7_add_20 : decode cX7_add 20 = .ok (.iconst 1, 1) := by decide +kernel
theorem dX7_add_21 : decode cX7_add 21 = .ok (.invokevirtual 92, 3) := by decide +kernel
theorem dX7_add_24 : decode cX7_add 24 = .ok (.ifCond .ne 5, 3) := by decide +kernel
theorem dX7_add_27 : decode cX7_add 27 = .ok (.iconst 0, 1) := by decide +kernel
theorem dX7_add_28 : decode cX7_add 28 = .ok (.ireturn, 1) := by decide +kernel
theorem dX7_add_29 : decode cX7_add 29 = .ok (.aload_n 0, 1) := by decide +kernel
theorem dX7_add_30 : decode cX7_add 30 = .ok (.getfield 45, 3) := by decide +kernel
theorem dX7_add_33 : decode cX7_add 33 = .ok (.aload_n 0, 1) := by decide +kernel
theorem dX7_add_34 : decode cX7_add 34 = .ok (.getfield 126, 3) := by decide +kernel
theorem dX7_add_37 : decode cX7_add 37 = .ok (.iload_n 1, 1) := by decide +kernel
theorem dX7_add_38 : decode cX7_add 38 = .ok (.iastore, 1) := by decide +kernel
theorem dX7_add_39 : decode cX7_add 39 = .ok (.aload_n 0, 1) := by decide +kernel
theorem dX7_add_40 : decode cX7_add 40 = .ok (.dup, 1) := by decide +kernel
theorem dX7_add_41 : decode cX7_add 41 = .ok (.getfield 126, 3) := by decide +kernel
theorem dX7_add_44 : decode cX7_add 44 = .ok (.iconst 1, 1) := by decide +kernel
theorem dX7_add_45 : decode cX7_add 45 = .ok (.iadd, 1) := by decide +kernel
theorem dX7_add_46 : decode cX7_add 46 = .ok (.putfield 126, 3) := by decide +kernel
theorem dX7_add_49 : decode cX7_add 49 = .ok (.aload_n 0, 1) := by decide +kernel
theorem dX7_add_50 : decode cX7_add 50 = .ok (.getfield 126, 3) := by decide +kernel
theorem dX7_add_53 : decode cX7_add 53 = .ok (.ireturn, 1) := by decide +kernel
theorem dX7_clear_0 : decode cX7_clear 0 = .ok (.aload_n 0, 1) := by decide +kernel
theorem dX7_clear_1 : decode cX7_clear 1 = .ok (.iconst 0, 1) := by decide +kernel
theorem dX7_clear_2 : decode cX7_clear 2 = .ok (.putfield 73, 3) := by decide +kernel
theorem dX7_clear_5 : decode cX7_clear 5 = .ok (.aload_n 0, 1) := by decide +kernel
theorem dX7_clear_6 : decode cX7_clear 6 = .ok (.getfield 126, 3) := by decide +kernel
theorem dX7_clear_9 : decode cX7_clear 9 = .ok (.istore_n 1, 1) := by decide +kernel
theorem dX7_clear_10 : decode cX7_clear 10 = .ok (.aload_n 0, 1) := by decide +kernel
theorem dX7_clear_11 : decode cX7_clear 11 = .ok (.iconst 0, 1) := by decide +kernel
theorem dX7_clear_12 : decode cX7_clear 12 = .ok (.putfield 126, 3) := by decide +kernel
theorem dX7_clear_15 : decode cX7_clear 15 = .ok (.iload_n 1, 1) := by decide +kernel
theorem dX7_clear_16 : decode cX7_clear 16 = .ok (.ireturn, 1) := by decide +kernel
theorem dX7_seasonOf_0 : decode cX7_seasonOf 0 = .ok (.iconst 0, 1) := by decide +kernel
theorem dX7_seasonOf_1 : decode cX7_seasonOf 1 = .ok (.istore_n 2, 1) := by decide +kernel
theorem dX7_seasonOf_2 : decode cX7_seasonOf 2 = .ok (.iload_n 2, 1) := by decide +kernel
theorem dX7_seasonOf_3 : decode cX7_seasonOf 3 = .ok (.aload_n 0, 1) := by decide +kernel
theorem dX7_seasonOf_4 : decode cX7_seasonOf 4 = .ok (.getfield 26, 3) := by decide +kernel
theorem dX7_seasonOf_7 : decode cX7_seasonOf 7 = .ok (.iload_n 1, 1) := by decide +kernel
theorem dX7_seasonOf_8 : decode cX7_seasonOf 8 = .ok (.iaload, 1) := by decide +kernel
theorem dX7_seasonOf_9 : decode cX7_seasonOf 9 = .ok (.if_icmp .ge 46, 3) := by decide +kernel
theorem dX7_seasonOf_12 : decode cX7_seasonOf 12 = .ok (.aload_n 0, 1) := by decide +kernel
theorem dX7_seasonOf_13 : decode cX7_seasonOf 13 = .ok (.getfield 13, 3) := by decide +kernel
theorem dX7_seasonOf_16 : decode cX7_seasonOf 16 = .ok (.aload_n 0, 1) := by decide +kernel
theorem dX7_seasonOf_17 : decode cX7_seasonOf 17 = .ok (.getfield 23, 3) := by decide +kernel
theorem dX7_seasonOf_20 : decode cX7_seasonOf 20 = .ok (.bipush 6, 2) := by decide +kernel
theorem dX7_seasonOf_22 : decode cX7_seasonOf 22 = .ok (.iload_n 1, 1) := by decide +kernel
theorem dX7_seasonOf_23 : decode cX7_seasonOf 23 = .ok (.imul, 1) := by decide +kernel
theorem dX7_seasonOf_24 : decode cX7_seasonOf 24 = .ok (.iload_n 2, 1) := by decide +kernel
theorem dX7_seasonOf_25 : decode cX7_seasonOf 25 = .ok (.iadd, 1) := by decide +kernel
theorem dX7_seasonOf_26 : decode cX7_seasonOf 26 = .ok (.iaload, 1) := by decide +kernel
theorem dX7_seasonOf_27 : decode cX7_seasonOf 27 = .ok (.iaload, 1) := by decide +kernel
theorem dX7_seasonOf_28 : decode cX7_seasonOf 28 = .ok (.iconst (-1), 1) := by decide +kernel
theorem dX7_seasonOf_29 : decode cX7_seasonOf 29 = .ok (.if_icmp .eq 20, 3) := by decide +kernel
theorem dX7_seasonOf_32 : decode cX7_seasonOf 32 = .ok (.aload_n 0, 1) := by decide +kernel
theorem dX7_seasonOf_33 : decode cX7_seasonOf 33 = .ok (.getfield 13, 3) := by decide +kernel
theorem dX7_seasonOf_36 : decode cX7_seasonOf 36 = .ok (.aload_n 0, 1) := by decide +kernel
theorem dX7_seasonOf_37 : decode cX7_seasonOf 37 = .ok (.getfield 23, 3) := by decide +kernel
theorem dX7_seasonOf_40 : decode cX7_seasonOf 40 = .ok (.bipush 6, 2) := by decide +kernel
theorem dX7_seasonOf_42 : decode cX7_seasonOf 42 = .ok (.iload_n 1, 1) := by decide +kernel
theorem dX7_seasonOf_43 : decode cX7_seasonOf 43 = .ok (.imul, 1) := by decide +kernel
theorem dX7_seasonOf_44 : decode cX7_seasonOf 44 = .ok (.iload_n 2, 1) := by decide +kernel
theorem dX7_seasonOf_45 : decode cX7_seasonOf 45 = .ok (.iadd, 1) := by decide +kernel
theorem dX7_seasonOf_46 : decode cX7_seasonOf 46 = .ok (.iaload, 1) := by decide +kernel
theorem dX7_seasonOf_47 : decode cX7_seasonOf 47 = .ok (.iaload, 1) := by decide +kernel
theorem dX7_seasonOf_48 : decode cX7_seasonOf 48 = .ok (.ireturn, 1) := by decide +kernel
theorem dX7_seasonOf_49 : decode cX7_seasonOf 49 = .ok (.iinc 2 1, 3) := by decide +kernel
theorem dX7_seasonOf_52 : decode cX7_seasonOf 52 = .ok (.goto (-50), 3) := by decide +kernel
theorem dX7_seasonOf_55 : decode cX7_seasonOf 55 = .ok (.iconst (-1), 1) := by decide +kernel
theorem dX7_seasonOf_56 : decode cX7_seasonOf 56 = .ok (.ireturn, 1) := by decide +kernel
theorem dX7_signsOf_0 : decode cX7_signsOf 0 = .ok (.iconst 0, 1) := by decide +kernel
theorem dX7_signsOf_1 : decode cX7_signsOf 1 = .ok (.istore_n 2, 1) := by decide +kernel
theorem dX7_signsOf_2 : decode cX7_signsOf 2 = .ok (.iconst 0, 1) := by decide +kernel
theorem dX7_signsOf_3 : decode cX7_signsOf 3 = .ok (.istore_n 3, 1) := by decide +kernel
theorem dX7_signsOf_4 : decode cX7_signsOf 4 = .ok (.iload_n 3, 1) := by decide +kernel
theorem dX7_signsOf_5 : decode cX7_signsOf 5 = .ok (.aload_n 0, 1) := by decide +kernel
theorem dX7_signsOf_6 : decode cX7_signsOf 6 = .ok (.getfield 26, 3) := by decide +kernel
theorem dX7_signsOf_9 : decode cX7_signsOf 9 = .ok (.iload_n 1, 1) := by decide +kernel
theorem dX7_signsOf_10 : decode cX7_signsOf 10 = .ok (.iaload, 1) := by decide +kernel
theorem dX7_signsOf_11 : decode cX7_signsOf 11 = .ok (.if_icmp .ge 28, 3) := by decide +kernel
theorem dX7_signsOf_14 : decode cX7_signsOf 14 = .ok (.iload_n 2, 1) := by decide +kernel
theorem dX7_signsOf_15 : decode cX7_signsOf 15 = .ok (.aload_n 0, 1) := by decide +kernel
theorem dX7_signsOf_16 : decode cX7_signsOf 16 = .ok (.getfield 16, 3) := by decide +kernel
theorem dX7_signsOf_19 : decode cX7_signsOf 19 = .ok (.aload_n 0, 1) := by decide +kernel
theorem dX7_signsOf_20 : decode cX7_signsOf 20 = .ok (.getfield 23, 3) := by decide +kernel
theorem dX7_signsOf_23 : decode cX7_signsOf 23 = .ok (.bipush 6, 2) := by decide +kernel
theorem dX7_signsOf_25 : decode cX7_signsOf 25 = .ok (.iload_n 1, 1) := by decide +kernel
theorem dX7_signsOf_26 : decode cX7_signsOf 26 = .ok (.imul, 1) := by decide +kernel
theorem dX7_signsOf_27 : decode cX7_signsOf 27 = .ok (.iload_n 3, 1) := by decide +kernel
theorem dX7_signsOf_28 : decode cX7_signsOf 28 = .ok (.iadd, 1) := by decide +kernel
theorem dX7_signsOf_29 : decode cX7_signsOf 29 = .ok (.iaload, 1) := by decide +kernel
theorem dX7_signsOf_30 : decode cX7_signsOf 30 = .ok (.iaload, 1) := by decide +kernel
theorem dX7_signsOf_31 : decode cX7_signsOf 31 = .ok (.ior, 1) := by decide +kernel
theorem dX7_signsOf_32 : decode cX7_signsOf 32 = .ok (.istore_n 2, 1) := by decide +kernel
theorem dX7_signsOf_33 : decode cX7_signsOf 33 = .ok (.iinc 3 1, 3) := by decide +kernel
theorem dX7_signsOf_36 : decode cX7_signsOf 36 = .ok (.goto (-32), 3) := by decide +kernel
theorem dX7_signsOf_39 : decode cX7_signsOf 39 = .ok (.iload_n 2, 1) := by decide +kernel
theorem dX7_signsOf_40 : decode cX7_signsOf 40 = .ok (.ireturn, 1) := by decide +kernel
theorem dX7_runAt_0 : decode cX7_runAt 0 = .ok (.aload_n 0, 1) := by decide +kernel
theorem dX7_runAt_1 : decode cX7_runAt 1 = .ok (.iload_n 1, 1) := by decide +kernel
theorem dX7_runAt_2 : decode cX7_runAt 2 = .ok (.invokevirtual 129, 3) := by decide +kernel
theorem dX7_runAt_5 : decode cX7_runAt 5 = .ok (.istore_n 2, 1) := by decide +kernel
theorem dX7_runAt_6 : decode cX7_runAt 6 = .ok (.iconst 0, 1) := by decide +kernel
theorem dX7_runAt_7 : decode cX7_runAt 7 = .ok (.istore_n 3, 1) := by decide +kernel
theorem dX7_runAt_8 : decode cX7_runAt 8 = .ok (.iload_n 1, 1) := by decide +kernel
theorem dX7_runAt_9 : decode cX7_runAt 9 = .ok (.istore 4, 2) := by decide +kernel
theorem dX7_runAt_11 : decode cX7_runAt 11 = .ok (.iload 4, 2) := by decide +kernel
theorem dX7_runAt_13 : decode cX7_runAt 13 = .ok (.ifCond .lt 27, 3) := by decide +kernel
theorem dX7_runAt_16 : decode cX7_runAt 16 = .ok (.iload_n 2, 1) := by decide +kernel
theorem dX7_runAt_17 : decode cX7_runAt 17 = .ok (.iconst (-1), 1) := by decide +kernel
theorem dX7_runAt_18 : decode cX7_runAt 18 = .ok (.if_icmp .eq 22, 3) := by decide +kernel
theorem dX7_runAt_21 : decode cX7_runAt 21 = .ok (.aload_n 0, 1) := by decide +kernel
theorem dX7_runAt_22 : decode cX7_runAt 22 = .ok (.iload 4, 2) := by decide +kernel
theorem dX7_runAt_24 : decode cX7_runAt 24 = .ok (.invokevirtual 129, 3) := by decide +kernel
theorem dX7_runAt_27 : decode cX7_runAt 27 = .ok (.iload_n 2, 1) := by decide +kernel
theorem dX7_runAt_28 : decode cX7_runAt 28 = .ok (.if_icmp .ne 12, 3) := by decide +kernel
theorem dX7_runAt_31 : decode cX7_runAt 31 = .ok (.iinc 3 1, 3) := by decide +kernel
theorem dX7_runAt_34 : decode cX7_runAt 34 = .ok (.iinc 4 (-1), 3) := by decide +kernel
theorem dX7_runAt_37 : decode cX7_runAt 37 = .ok (.goto (-26), 3) := by decide +kernel
theorem dX7_runAt_40 : decode cX7_runAt 40 = .ok (.iload_n 3, 1) := by decide +kernel
theorem dX7_runAt_41 : decode cX7_runAt 41 = .ok (.ireturn, 1) := by decide +kernel
theorem dX7_soundsOfRow_0 : decode cX7_soundsOfRow 0 = .ok (.iconst 0, 1) := by decide +kernel
theorem dX7_soundsOfRow_1 : decode cX7_soundsOfRow 1 = .ok (.istore_n 1, 1) := by decide +kernel
theorem dX7_soundsOfRow_2 : decode cX7_soundsOfRow 2 = .ok (.iconst 0, 1) := by decide +kernel
theorem dX7_soundsOfRow_3 : decode cX7_soundsOfRow 3 = .ok (.istore_n 2, 1) := by decide +kernel
theorem dX7_soundsOfRow_4 : decode cX7_soundsOfRow 4 = .ok (.iload_n 2, 1) := by decide +kernel
theorem dX7_soundsOfRow_5 : decode cX7_soundsOfRow 5 = .ok (.aload_n 0, 1) := by decide +kernel
theorem dX7_soundsOfRow_6 : decode cX7_soundsOfRow 6 = .ok (.getfield 133, 3) := by decide +kernel
theorem dX7_soundsOfRow_9 : decode cX7_soundsOfRow 9 = .ok (.if_icmp .ge 23, 3) := by decide +kernel
theorem dX7_soundsOfRow_12 : decode cX7_soundsOfRow 12 = .ok (.iload_n 1, 1) := by decide +kernel
theorem dX7_soundsOfRow_13 : decode cX7_soundsOfRow 13 = .ok (.aload_n 0, 1) := by decide +kernel
theorem dX7_soundsOfRow_14 : decode cX7_soundsOfRow 14 = .ok (.getfield 7, 3) := by decide +kernel
theorem dX7_soundsOfRow_17 : decode cX7_soundsOfRow 17 = .ok (.aload_n 0, 1) := by decide +kernel
theorem dX7_soundsOfRow_18 : decode cX7_soundsOfRow 18 = .ok (.getfield 70, 3) := by decide +kernel
theorem dX7_soundsOfRow_21 : decode cX7_soundsOfRow 21 = .ok (.iload_n 2, 1) := by decide +kernel
theorem dX7_soundsOfRow_22 : decode cX7_soundsOfRow 22 = .ok (.iaload, 1) := by decide +kernel
theorem dX7_soundsOfRow_23 : decode cX7_soundsOfRow 23 = .ok (.iaload, 1) := by decide +kernel
theorem dX7_soundsOfRow_24 : decode cX7_soundsOfRow 24 = .ok (.iadd, 1) := by decide +kernel
theorem dX7_soundsOfRow_25 : decode cX7_soundsOfRow 25 = .ok (.istore_n 1, 1) := by decide +kernel
theorem dX7_soundsOfRow_26 : decode cX7_soundsOfRow 26 = .ok (.iinc 2 1, 3) := by decide +kernel
theorem dX7_soundsOfRow_29 : decode cX7_soundsOfRow 29 = .ok (.goto (-25), 3) := by decide +kernel
theorem dX7_soundsOfRow_32 : decode cX7_soundsOfRow 32 = .ok (.iload_n 1, 1) := by decide +kernel
theorem dX7_soundsOfRow_33 : decode cX7_soundsOfRow 33 = .ok (.ireturn, 1) := by decide +kernel
theorem dX7_seasonOfRow_0 : decode cX7_seasonOfRow 0 = .ok (.iconst (-1), 1) := by decide +kernel
theorem dX7_seasonOfRow_1 : decode cX7_seasonOfRow 1 = .ok (.istore_n 1, 1) := by decide +kernel
theorem dX7_seasonOfRow_2 : decode cX7_seasonOfRow 2 = .ok (.aload_n 0, 1) := by decide +kernel
theorem dX7_seasonOfRow_3 : decode cX7_seasonOfRow 3 = .ok (.getfield 133, 3) := by decide +kernel
theorem dX7_seasonOfRow_6 : decode cX7_seasonOfRow 6 = .ok (.iconst 1, 1) := by decide +kernel
theorem dX7_seasonOfRow_7 : decode cX7_seasonOfRow 7 = .ok (.isub, 1) := by decide +kernel
theorem dX7_seasonOfRow_8 : decode cX7_seasonOfRow 8 = .ok (.istore_n 2, 1) := by decide +kernel
theorem dX7_seasonOfRow_9 : decode cX7_seasonOfRow 9 = .ok (.iload_n 2, 1) := by decide +kernel
theorem dX7_seasonOfRow_10 : decode cX7_seasonOfRow 10 = .ok (.ifCond .lt 40, 3) := by decide +kernel
theorem dX7_seasonOfRow_13 : decode cX7_seasonOfRow 13 = .ok (.aload_n 0, 1) := by decide +kernel
theorem dX7_seasonOfRow_14 : decode cX7_seasonOfRow 14 = .ok (.getfield 13, 3) := by decide +kernel
theorem dX7_seasonOfRow_17 : decode cX7_seasonOfRow 17 = .ok (.aload_n 0, 1) := by decide +kernel
theorem dX7_seasonOfRow_18 : decode cX7_seasonOfRow 18 = .ok (.getfield 70, 3) := by decide +kernel
theorem dX7_seasonOfRow_21 : decode cX7_seasonOfRow 21 = .ok (.iload_n 2, 1) := by decide +kernel
theorem dX7_seasonOfRow_22 : decode cX7_seasonOfRow 22 = .ok (.iaload, 1) := by decide +kernel
theorem dX7_seasonOfRow_23 : decode cX7_seasonOfRow 23 = .ok (.iaload, 1) := by decide +kernel
theorem dX7_seasonOfRow_24 : decode cX7_seasonOfRow 24 = .ok (.iconst (-1), 1) := by decide +kernel
theorem dX7_seasonOfRow_25 : decode cX7_seasonOfRow 25 = .ok (.if_icmp .ne 7, 3) := by decide +kernel
theorem dX7_seasonOfRow_28 : decode cX7_seasonOfRow 28 = .ok (.iload_n 1, 1) := by decide +kernel
theorem dX7_seasonOfRow_29 : decode cX7_seasonOfRow 29 = .ok (.goto 14, 3) := by decide +kernel
theorem dX7_seasonOfRow_32 : decode cX7_seasonOfRow 32 = .ok (.aload_n 0, 1) := by decide +kernel
theorem dX7_seasonOfRow_33 : decode cX7_seasonOfRow 33 = .ok (.getfield 13, 3) := by decide +kernel
theorem dX7_seasonOfRow_36 : decode cX7_seasonOfRow 36 = .ok (.aload_n 0, 1) := by decide +kernel
theorem dX7_seasonOfRow_37 : decode cX7_seasonOfRow 37 = .ok (.getfield 70, 3) := by decide +kernel
theorem dX7_seasonOfRow_40 : decode cX7_seasonOfRow 40 = .ok (.iload_n 2, 1) := by decide +kernel
theorem dX7_seasonOfRow_41 : decode cX7_seasonOfRow 41 = .ok (.iaload, 1) := by decide +kernel
theorem dX7_seasonOfRow_42 : decode cX7_seasonOfRow 42 = .ok (.iaload, 1) := by decide +kernel
theorem dX7_seasonOfRow_43 : decode cX7_seasonOfRow 43 = .ok (.istore_n 1, 1) := by decide +kernel
theorem dX7_seasonOfRow_44 : decode cX7_seasonOfRow 44 = .ok (.iinc 2 (-1), 3) := by decide +kernel
theorem dX7_seasonOfRow_47 : decode cX7_seasonOfRow 47 = .ok (.goto (-38), 3) := by decide +kernel
theorem dX7_seasonOfRow_50 : decode cX7_seasonOfRow 50 = .ok (.iload_n 1, 1) := by decide +kernel
theorem dX7_seasonOfRow_51 : decode cX7_seasonOfRow 51 = .ok (.ireturn, 1) := by decide +kernel
theorem dX7_signsOfRow_0 : decode cX7_signsOfRow 0 = .ok (.iconst 0, 1) := by decide +kernel
theorem dX7_signsOfRow_1 : decode cX7_signsOfRow 1 = .ok (.istore_n 1, 1) := by decide +kernel
theorem dX7_signsOfRow_2 : decode cX7_signsOfRow 2 = .ok (.iconst 0, 1) := by decide +kernel
theorem dX7_signsOfRow_3 : decode cX7_signsOfRow 3 = .ok (.istore_n 2, 1) := by decide +kernel
theorem dX7_signsOfRow_4 : decode cX7_signsOfRow 4 = .ok (.iload_n 2, 1) := by decide +kernel
theorem dX7_signsOfRow_5 : decode cX7_signsOfRow 5 = .ok (.aload_n 0, 1) := by decide +kernel
theorem dX7_signsOfRow_6 : decode cX7_signsOfRow 6 = .ok (.getfield 133, 3) := by decide +kernel
theorem dX7_signsOfRow_9 : decode cX7_signsOfRow 9 = .ok (.if_icmp .ge 23, 3) := by decide +kernel
theorem dX7_signsOfRow_12 : decode cX7_signsOfRow 12 = .ok (.iload_n 1, 1) := by decide +kernel
theorem dX7_signsOfRow_13 : decode cX7_signsOfRow 13 = .ok (.aload_n 0, 1) := by decide +kernel
theorem dX7_signsOfRow_14 : decode cX7_signsOfRow 14 = .ok (.getfield 16, 3) := by decide +kernel
theorem dX7_signsOfRow_17 : decode cX7_signsOfRow 17 = .ok (.aload_n 0, 1) := by decide +kernel
theorem dX7_signsOfRow_18 : decode cX7_signsOfRow 18 = .ok (.getfield 70, 3) := by decide +kernel
theorem dX7_signsOfRow_21 : decode cX7_signsOfRow 21 = .ok (.iload_n 2, 1) := by decide +kernel
theorem dX7_signsOfRow_22 : decode cX7_signsOfRow 22 = .ok (.iaload, 1) := by decide +kernel
theorem dX7_signsOfRow_23 : decode cX7_signsOfRow 23 = .ok (.iaload, 1) := by decide +kernel
theorem dX7_signsOfRow_24 : decode cX7_signsOfRow 24 = .ok (.ior, 1) := by decide +kernel
theorem dX7_signsOfRow_25 : decode cX7_signsOfRow 25 = .ok (.istore_n 1, 1) := by decide +kernel
theorem dX7_signsOfRow_26 : decode cX7_signsOfRow 26 = .ok (.iinc 2 1, 3) := by decide +kernel
theorem dX7_signsOfRow_29 : decode cX7_signsOfRow 29 = .ok (.goto (-25), 3) := by decide +kernel
theorem dX7_signsOfRow_32 : decode cX7_signsOfRow 32 = .ok (.iload_n 1, 1) := by decide +kernel
theorem dX7_signsOfRow_33 : decode cX7_signsOfRow 33 = .ok (.ireturn, 1) := by decide +kernel
theorem dX7_mixes_0 : decode cX7_mixes 0 = .ok (.aload_n 0, 1) := by decide +kernel
theorem dX7_mixes_1 : decode cX7_mixes 1 = .ok (.invokevirtual 136, 3) := by decide +kernel
theorem dX7_mixes_4 : decode cX7_mixes 4 = .ok (.istore_n 1, 1) := by decide +kernel
theorem dX7_mixes_5 : decode cX7_mixes 5 = .ok (.iconst 0, 1) := by decide +kernel
theorem dX7_mixes_6 : decode cX7_mixes 6 = .ok (.istore_n 2, 1) := by decide +kernel
theorem dX7_mixes_7 : decode cX7_mixes 7 = .ok (.iload_n 2, 1) := by decide +kernel
theorem dX7_mixes_8 : decode cX7_mixes 8 = .ok (.aload_n 0, 1) := by decide +kernel
theorem dX7_mixes_9 : decode cX7_mixes 9 = .ok (.getfield 133, 3) := by decide +kernel
theorem dX7_mixes_12 : decode cX7_mixes 12 = .ok (.if_icmp .ge 41, 3) := by decide +kernel
theorem dX7_mixes_15 : decode cX7_mixes 15 = .ok (.aload_n 0, 1) := by decide +kernel
theorem dX7_mixes_16 : decode cX7_mixes 16 = .ok (.getfield 13, 3) := by decide +kernel
theorem dX7_mixes_19 : decode cX7_mixes 19 = .ok (.aload_n 0, 1) := by decide +kernel
theorem dX7_mixes_20 : decode cX7_mixes 20 = .ok (.getfield 70, 3) := by decide +kernel
theorem dX7_mixes_23 : decode cX7_mixes 23 = .ok (.iload_n 2, 1) := by decide +kernel
theorem dX7_mixes_24 : decode cX7_mixes 24 = .ok (.iaload, 1) := by decide +kernel
theorem dX7_mixes_25 : decode cX7_mixes 25 = .ok (.iaload, 1) := by decide +kernel
theorem dX7_mixes_26 : decode cX7_mixes 26 = .ok (.iconst (-1), 1) := by decide +kernel
theorem dX7_mixes_27 : decode cX7_mixes 27 = .ok (.if_icmp .eq 20, 3) := by decide +kernel
theorem dX7_mixes_30 : decode cX7_mixes 30 = .ok (.aload_n 0, 1) := by decide +kernel
theorem dX7_mixes_31 : decode cX7_mixes 31 = .ok (.getfield 13, 3) := by decide +kernel
theorem dX7_mixes_34 : decode cX7_mixes 34 = .ok (.aload_n 0, 1) := by decide +kernel
theorem dX7_mixes_35 : decode cX7_mixes 35 = .ok (.getfield 70, 3) := by decide +kernel
theorem dX7_mixes_38 : decode cX7_mixes 38 = .ok (.iload_n 2, 1) := by decide +kernel
theorem dX7_mixes_39 : decode cX7_mixes 39 = .ok (.iaload, 1) := by decide +kernel
theorem dX7_mixes_40 : decode cX7_mixes 40 = .ok (.iaload, 1) := by decide +kernel
theorem dX7_mixes_41 : decode cX7_mixes 41 = .ok (.iload_n 1, 1) := by decide +kernel
theorem dX7_mixes_42 : decode cX7_mixes 42 = .ok (.if_icmp .eq 5, 3) := by decide +kernel
theorem dX7_mixes_45 : decode cX7_mixes 45 = .ok (.iload_n 2, 1) := by decide +kernel
theorem dX7_mixes_46 : decode cX7_mixes 46 = .ok (.ireturn, 1) := by decide +kernel
theorem dX7_mixes_47 : decode cX7_mixes 47 = .ok (.iinc 2 1, 3) := by decide +kernel
theorem dX7_mixes_50 : decode cX7_mixes 50 = .ok (.goto (-43), 3) := by decide +kernel
theorem dX7_mixes_53 : decode cX7_mixes 53 = .ok (.iconst (-1), 1) := by decide +kernel
theorem dX7_mixes_54 : decode cX7_mixes 54 = .ok (.ireturn, 1) := by decide +kernel
theorem dX7_comesAgain_0 : decode cX7_comesAgain 0 = .ok (.iconst 0, 1) := by decide +kernel
theorem dX7_comesAgain_1 : decode cX7_comesAgain 1 = .ok (.istore_n 2, 1) := by decide +kernel
theorem dX7_comesAgain_2 : decode cX7_comesAgain 2 = .ok (.iload_n 2, 1) := by decide +kernel
theorem dX7_comesAgain_3 : decode cX7_comesAgain 3 = .ok (.aload_n 0, 1) := by decide +kernel
theorem dX7_comesAgain_4 : decode cX7_comesAgain 4 = .ok (.getfield 133, 3) := by decide +kernel
theorem dX7_comesAgain_7 : decode cX7_comesAgain 7 = .ok (.if_icmp .ge 106, 3) := by decide +kernel
theorem dX7_comesAgain_10 : decode cX7_comesAgain 10 = .ok (.iconst 0, 1) := by decide +kernel
theorem dX7_comesAgain_11 : decode cX7_comesAgain 11 = .ok (.istore_n 3, 1) := by decide +kernel
theorem dX7_comesAgain_12 : decode cX7_comesAgain 12 = .ok (.iload_n 3, 1) := by decide +kernel
theorem dX7_comesAgain_13 : decode cX7_comesAgain 13 = .ok (.iload_n 2, 1) := by decide +kernel
theorem dX7_comesAgain_14 : decode cX7_comesAgain 14 = .ok (.if_icmp .ge 26, 3) := by decide +kernel
theorem dX7_comesAgain_17 : decode cX7_comesAgain 17 = .ok (.aload_n 0, 1) := by decide +kernel
theorem dX7_comesAgain_18 : decode cX7_comesAgain 18 = .ok (.getfield 70, 3) := by decide +kernel
theorem dX7_comesAgain_21 : decode cX7_comesAgain 21 = .ok (.iload_n 3, 1) := by decide +kernel
theorem dX7_comesAgain_22 : decode cX7_comesAgain 22 = .ok (.iaload, 1) := by decide +kernel
theorem dX7_comesAgain_23 : decode cX7_comesAgain 23 = .ok (.aload_n 0, 1) := by decide +kernel
theorem dX7_comesAgain_24 : decode cX7_comesAgain 24 = .ok (.getfield 70, 3) := by decide +kernel
theorem dX7_comesAgain_27 : decode cX7_comesAgain 27 = .ok (.iload_n 2, 1) := by decide +kernel
theorem dX7_comesAgain_28 : decode cX7_comesAgain 28 = .ok (.iaload, 1) := by decide +kernel
theorem dX7_comesAgain_29 : decode cX7_comesAgain 29 = .ok (.if_icmp .ne 5, 3) := by decide +kernel
theorem dX7_comesAgain_32 : decode cX7_comesAgain 32 = .ok (.iload_n 2, 1) := by decide +kernel
theorem dX7_comesAgain_33 : decode cX7_comesAgain 33 = .ok (.ireturn, 1) := by decide +kernel
theorem dX7_comesAgain_34 : decode cX7_comesAgain 34 = .ok (.iinc 3 1, 3) := by decide +kernel
theorem dX7_comesAgain_37 : decode cX7_comesAgain 37 = .ok (.goto (-25), 3) := by decide +kernel
theorem dX7_comesAgain_40 : decode cX7_comesAgain 40 = .ok (.iload_n 1, 1) := by decide +kernel
theorem dX7_comesAgain_41 : decode cX7_comesAgain 41 = .ok (.iconst 1, 1) := by decide +kernel
theorem dX7_comesAgain_42 : decode cX7_comesAgain 42 = .ok (.isub, 1) := by decide +kernel
theorem dX7_comesAgain_43 : decode cX7_comesAgain 43 = .ok (.istore_n 3, 1) := by decide +kernel
theorem dX7_comesAgain_44 : decode cX7_comesAgain 44 = .ok (.iload_n 3, 1) := by decide +kernel
theorem dX7_comesAgain_45 : decode cX7_comesAgain 45 = .ok (.ifCond .lt 62, 3) := by decide +kernel
theorem dX7_comesAgain_48 : decode cX7_comesAgain 48 = .ok (.iload_n 3, 1) := by decide +kernel
theorem dX7_comesAgain_49 : decode cX7_comesAgain 49 = .ok (.iload_n 1, 1) := by decide +kernel
theorem dX7_comesAgain_50 : decode cX7_comesAgain 50 = .ok (.aload_n 0, 1) := by decide +kernel
theorem dX7_comesAgain_51 : decode cX7_comesAgain 51 = .ok (.getfield 111, 3) := by decide +kernel
theorem dX7_comesAgain_54 : decode cX7_comesAgain 54 = .ok (.isub, 1) := by decide +kernel
theorem dX7_comesAgain_55 : decode cX7_comesAgain 55 = .ok (.if_icmp .lt 52, 3) := by decide +kernel
theorem dX7_comesAgain_58 : decode cX7_comesAgain 58 = .ok (.iconst 0, 1) := by decide +kernel
theorem dX7_comesAgain_59 : decode cX7_comesAgain 59 = .ok (.istore 4, 2) := by decide +kernel
theorem dX7_comesAgain_61 : decode cX7_comesAgain 61 = .ok (.iload 4, 2) := by decide +kernel
theorem dX7_comesAgain_63 : decode cX7_comesAgain 63 = .ok (.aload_n 0, 1) := by decide +kernel
theorem dX7_comesAgain_64 : decode cX7_comesAgain 64 = .ok (.getfield 26, 3) := by decide +kernel
theorem dX7_comesAgain_67 : decode cX7_comesAgain 67 = .ok (.iload_n 3, 1) := by decide +kernel
theorem dX7_comesAgain_68 : decode cX7_comesAgain 68 = .ok (.iaload, 1) := by decide +kernel
theorem dX7_comesAgain_69 : decode cX7_comesAgain 69 = .ok (.if_icmp .ge 32, 3) := by decide +kernel
theorem dX7_comesAgain_72 : decode cX7_comesAgain 72 = .ok (.aload_n 0, 1) := by decide +kernel
theorem dX7_comesAgain_73 : decode cX7_comesAgain 73 = .ok (.getfield 23, 3) := by decide +kernel
theorem dX7_comesAgain_76 : decode cX7_comesAgain 76 = .ok (.bipush 6, 2) := by decide +kernel
theorem dX7_comesAgain_78 : decode cX7_comesAgain 78 = .ok (.iload_n 3, 1) := by decide +kernel
theorem dX7_comesAgain_79 : decode cX7_comesAgain 79 = .ok (.imul, 1) := by decide +kernel
theorem dX7_comesAgain_80 : decode cX7_comesAgain 80 = .ok (.iload 4, 2) := by decide +kernel
theorem dX7_comesAgain_82 : decode cX7_comesAgain 82 = .ok (.iadd, 1) := by decide +kernel
theorem dX7_comesAgain_83 : decode cX7_comesAgain 83 = .ok (.iaload, 1) := by decide +kernel
theorem dX7_comesAgain_84 : decode cX7_comesAgain 84 = .ok (.aload_n 0, 1) := by decide +kernel
theorem dX7_comesAgain_85 : decode cX7_comesAgain 85 = .ok (.getfield 70, 3) := by decide +kernel
theorem dX7_comesAgain_88 : decode cX7_comesAgain 88 = .ok (.iload_n 2, 1) := by decide +kernel
theorem dX7_comesAgain_89 : decode cX7_comesAgain 89 = .ok (.iaload, 1) := by decide +kernel
theorem dX7_comesAgain_90 : decode cX7_comesAgain 90 = .ok (.if_icmp .ne 5, 3) := by decide +kernel
theorem dX7_comesAgain_93 : decode cX7_comesAgain 93 = .ok (.iload_n 2, 1) := by decide +kernel
theorem dX7_comesAgain_94 : decode cX7_comesAgain 94 = .ok (.ireturn, 1) := by decide +kernel
theorem dX7_comesAgain_95 : decode cX7_comesAgain 95 = .ok (.iinc 4 1, 3) := by decide +kernel
theorem dX7_comesAgain_98 : decode cX7_comesAgain 98 = .ok (.goto (-37), 3) := by decide +kernel
theorem dX7_comesAgain_101 : decode cX7_comesAgain 101 = .ok (.iinc 3 (-1), 3) := by decide +kernel
theorem dX7_comesAgain_104 : decode cX7_comesAgain 104 = .ok (.goto (-60), 3) := by decide +kernel
theorem dX7_comesAgain_107 : decode cX7_comesAgain 107 = .ok (.iinc 2 1, 3) := by decide +kernel
theorem dX7_comesAgain_110 : decode cX7_comesAgain 110 = .ok (.goto (-108), 3) := by decide +kernel
theorem dX7_comesAgain_113 : decode cX7_comesAgain 113 = .ok (.iconst (-1), 1) := by decide +kernel
theorem dX7_comesAgain_114 : decode cX7_comesAgain 114 = .ok (.ireturn, 1) := by decide +kernel
theorem dX7_joins_0 : decode cX7_joins 0 = .ok (.aload_n 0, 1) := by decide +kernel
theorem dX7_joins_1 : decode cX7_joins 1 = .ok (.invokevirtual 140, 3) := by decide +kernel
theorem dX7_joins_4 : decode cX7_joins 4 = .ok (.aload_n 0, 1) := by decide +kernel
theorem dX7_joins_5 : decode cX7_joins 5 = .ok (.iload_n 1, 1) := by decide +kernel
theorem dX7_joins_6 : decode cX7_joins 6 = .ok (.iconst 1, 1) := by decide +kernel
theorem dX7_joins_7 : decode cX7_joins 7 = .ok (.isub, 1) := by decide +kernel
theorem dX7_joins_8 : decode cX7_joins 8 = .ok (.invokevirtual 143, 3) := by decide +kernel
theorem dX7_joins_11 : decode cX7_joins 11 = .ok (.iand, 1) := by decide +kernel
theorem dX7_joins_12 : decode cX7_joins 12 = .ok (.sipush 255, 3) := by decide +kernel
theorem dX7_joins_15 : decode cX7_joins 15 = .ok (.iand, 1) := by decide +kernel
theorem dX7_joins_16 : decode cX7_joins 16 = .ok (.ifCond .eq 7, 3) := by decide +kernel
theorem dX7_joins_19 : decode cX7_joins 19 = .ok (.iconst 1, 1) := by decide +kernel
theorem dX7_joins_20 : decode cX7_joins 20 = .ok (.goto 4, 3) := by decide +kernel
theorem dX7_joins_23 : decode cX7_joins 23 = .ok (.iconst 0, 1) := by decide +kernel
theorem dX7_joins_24 : decode cX7_joins 24 = .ok (.istore_n 2, 1) := by decide +kernel
theorem dX7_joins_25 : decode cX7_joins 25 = .ok (.iconst 0, 1) := by decide +kernel
theorem dX7_joins_26 : decode cX7_joins 26 = .ok (.istore_n 3, 1) := by decide +kernel
theorem dX7_joins_27 : decode cX7_joins 27 = .ok (.iload_n 3, 1) := by decide +kernel
theorem dX7_joins_28 : decode cX7_joins 28 = .ok (.aload_n 0, 1) := by decide +kernel
theorem dX7_joins_29 : decode cX7_joins 29 = .ok (.getfield 133, 3) := by decide +kernel
theorem dX7_joins_32 : decode cX7_joins 32 = .ok (.if_icmp .ge 68, 3) := by decide +kernel
theorem dX7_joins_35 : decode cX7_joins 35 = .ok (.iconst 0, 1) := by decide +kernel
theorem dX7_joins_36 : decode cX7_joins 36 = .ok (.istore 4, 2) := by decide +kernel
theorem dX7_joins_38 : decode cX7_joins 38 = .ok (.iload 4, 2) := by decide +kernel
theorem dX7_joins_40 : decode cX7_joins 40 = .ok (.aload_n 0, 1) := by decide +kernel
theorem dX7_joins_41 : decode cX7_joins 41 = .ok (.getfield 26, 3) := by decide +kernel
theorem dX7_joins_44 : decode cX7_joins 44 = .ok (.iload_n 1, 1) := by decide +kernel
theorem dX7_joins_45 : decode cX7_joins 45 = .ok (.iconst 1, 1) := by decide +kernel
theorem dX7_joins_46 : decode cX7_joins 46 = .ok (.isub, 1) := by decide +kernel
theorem dX7_joins_47 : decode cX7_joins 47 = .ok (.iaload, 1) := by decide +kernel
theorem dX7_joins_48 : decode cX7_joins 48 = .ok (.if_icmp .ge 46, 3) := by decide +kernel
theorem dX7_joins_51 : decode cX7_joins 51 = .ok (.iload_n 2, 1) := by decide +kernel
theorem dX7_joins_52 : decode cX7_joins 52 = .ok (.ifCond .ne 30, 3) := by decide +kernel
theorem dX7_joins_55 : decode cX7_joins 55 = .ok (.aload_n 0, 1) := by decide +kernel
theorem dX7_joins_56 : decode cX7_joins 56 = .ok (.aload_n 0, 1) := by decide +kernel
theorem dX7_joins_57 : decode cX7_joins 57 = .ok (.getfield 70, 3) := by decide +kernel
theorem dX7_joins_60 : decode cX7_joins 60 = .ok (.iload_n 3, 1) := by decide +kernel
theorem dX7_joins_61 : decode cX7_joins 61 = .ok (.iaload, 1) := by decide +kernel
theorem dX7_joins_62 : decode cX7_joins 62 = .ok (.aload_n 0, 1) := by decide +kernel
theorem dX7_joins_63 : decode cX7_joins 63 = .ok (.getfield 23, 3) := by decide +kernel
theorem dX7_joins_66 : decode cX7_joins 66 = .ok (.bipush 6, 2) := by decide +kernel
theorem dX7_joins_68 : decode cX7_joins 68 = .ok (.iload_n 1, 1) := by decide +kernel
theorem dX7_joins_69 : decode cX7_joins 69 = .ok (.iconst 1, 1) := by decide +kernel
theorem dX7_joins_70 : decode cX7_joins 70 = .ok (.isub, 1) := by decide +kernel
theorem dX7_joins_71 : decode cX7_joins 71 = .ok (.imul, 1) := by decide +kernel
theorem dX7_joins_72 : decode cX7_joins 72 = .ok (.iload 4, 2) := by decide +kernel
theorem dX7_joins_74 : decode cX7_joins 74 = .ok (.iadd, 1) := by decide +kernel
theorem dX7_joins_75 : decode cX7_joins 75 = .ok (.iaload, 1) := by decide +kernel
theorem dX7_joins_76 : decode cX7_joins 76 = .ok (.invokevirtual 100, 3) := by decide +kernel
theorem dX7_joins_79 : decode cX7_joins 79 = .ok (.ifCond .eq 7, 3) := by decide +kernel
theorem dX7_joins_82 : decode cX7_joins 82 = .ok (.iconst 1, 1) := by decide +kernel
theorem dX7_joins_83 : decode cX7_joins 83 = .ok (.goto 4, 3) := by decide +kernel
theorem dX7_joins_86 : decode cX7_joins 86 = .ok (.iconst 0, 1) := by decide +kernel
theorem dX7_joins_87 : decode cX7_joins 87 = .ok (.istore_n 2, 1) := by decide +kernel
theorem dX7_joins_88 : decode cX7_joins 88 = .ok (.iinc 4 1, 3) := by decide +kernel
theorem dX7_joins_91 : decode cX7_joins 91 = .ok (.goto (-53), 3) := by decide +kernel
theorem dX7_joins_94 : decode cX7_joins 94 = .ok (.iinc 3 1, 3) := by decide +kernel
theorem dX7_joins_97 : decode cX7_joins 97 = .ok (.goto (-70), 3) := by decide +kernel
theorem dX7_joins_100 : decode cX7_joins 100 = .ok (.iload_n 2, 1) := by decide +kernel
theorem dX7_joins_101 : decode cX7_joins 101 = .ok (.ireturn, 1) := by decide +kernel
theorem dX7_lowest_0 : decode cX7_lowest 0 = .ok (.iconst 0, 1) := by decide +kernel
theorem dX7_lowest_1 : decode cX7_lowest 1 = .ok (.istore_n 1, 1) := by decide +kernel
theorem dX7_lowest_2 : decode cX7_lowest 2 = .ok (.iload_n 0, 1) := by decide +kernel
theorem dX7_lowest_3 : decode cX7_lowest 3 = .ok (.iload_n 1, 1) := by decide +kernel
theorem dX7_lowest_4 : decode cX7_lowest 4 = .ok (.ishr, 1) := by decide +kernel
theorem dX7_lowest_5 : decode cX7_lowest 5 = .ok (.iconst 1, 1) := by decide +kernel
theorem dX7_lowest_6 : decode cX7_lowest 6 = .ok (.iand, 1) := by decide +kernel
theorem dX7_lowest_7 : decode cX7_lowest 7 = .ok (.ifCond .ne 9, 3) := by decide +kernel
theorem dX7_lowest_10 : decode cX7_lowest 10 = .ok (.iinc 1 1, 3) := by decide +kernel
theorem dX7_lowest_13 : decode cX7_lowest 13 = .ok (.goto (-11), 3) := by decide +kernel
theorem dX7_lowest_16 : decode cX7_lowest 16 = .ok (.iload_n 1, 1) := by decide +kernel
theorem dX7_lowest_17 : decode cX7_lowest 17 = .ok (.ireturn, 1) := by decide +kernel
theorem dX7_isLong_0 : decode cX7_isLong 0 = .ok (.iload_n 0, 1) := by decide +kernel
theorem dX7_isLong_1 : decode cX7_isLong 1 = .ok (.ifCond .eq 8, 3) := by decide +kernel
theorem dX7_isLong_4 : decode cX7_isLong 4 = .ok (.iload_n 0, 1) := by decide +kernel
theorem dX7_isLong_5 : decode cX7_isLong 5 = .ok (.iconst 2, 1) := by decide +kernel
theorem dX7_isLong_6 : decode cX7_isLong 6 = .ok (.if_icmp .ne 7, 3) := by decide +kernel
theorem dX7_isLong_9 : decode cX7_isLong 9 = .ok (.iconst 1, 1) := by decide +kernel
theorem dX7_isLong_10 : decode cX7_isLong 10 = .ok (.goto 4, 3) := by decide +kernel
theorem dX7_isLong_13 : decode cX7_isLong 13 = .ok (.iconst 0, 1) := by decide +kernel
theorem dX7_isLong_14 : decode cX7_isLong 14 = .ok (.ireturn, 1) := by decide +kernel
theorem dX7_lengthFault_0 : decode cX7_lengthFault 0 = .ok (.iload_n 1, 1) := by decide +kernel
theorem dX7_lengthFault_1 : decode cX7_lengthFault 1 = .ok (.ifCond .ne 5, 3) := by decide +kernel
theorem dX7_lengthFault_4 : decode cX7_lengthFault 4 = .ok (.iconst (-1), 1) := by decide +kernel
theorem dX7_lengthFault_5 : decode cX7_lengthFault 5 = .ok (.ireturn, 1) := by decide +kernel
theorem dX7_lengthFault_6 : decode cX7_lengthFault 6 = .ok (.aload_n 0, 1) := by decide +kernel
theorem dX7_lengthFault_7 : decode cX7_lengthFault 7 = .ok (.iload_n 1, 1) := by decide +kernel
theorem dX7_lengthFault_8 : decode cX7_lengthFault 8 = .ok (.iconst 1, 1) := by decide +kernel
theorem dX7_lengthFault_9 : decode cX7_lengthFault 9 = .ok (.isub, 1) := by decide +kernel
theorem dX7_lengthFault_10 : decode cX7_lengthFault 10 = .ok (.invokevirtual 129, 3) := by decide +kernel
theorem dX7_lengthFault_13 : decode cX7_lengthFault 13 = .ok (.istore_n 2, 1) := by decide +kernel
theorem dX7_lengthFault_14 : decode cX7_lengthFault 14 = .ok (.aload_n 0, 1) := by decide +kernel
theorem dX7_lengthFault_15 : decode cX7_lengthFault 15 = .ok (.iload_n 1, 1) := by decide +kernel
theorem dX7_lengthFault_16 : decode cX7_lengthFault 16 = .ok (.iconst 1, 1) := by decide +kernel
theorem dX7_lengthFault_17 : decode cX7_lengthFault 17 = .ok (.isub, 1) := by decide +kernel
theorem dX7_lengthFault_18 : decode cX7_lengthFault 18 = .ok (.invokevirtual 146, 3) := by decide +kernel
theorem dX7_lengthFault_21 : decode cX7_lengthFault 21 = .ok (.istore_n 3, 1) := by decide +kernel
theorem dX7_lengthFault_22 : decode cX7_lengthFault 22 = .ok (.aload_n 0, 1) := by decide +kernel
theorem dX7_lengthFault_23 : decode cX7_lengthFault 23 = .ok (.invokevirtual 136, 3) := by decide +kernel
theorem dX7_lengthFault_26 : decode cX7_lengthFault 26 = .ok (.istore 4, 2) := by decide +kernel
theorem dX7_lengthFault_28 : decode cX7_lengthFault 28 = .ok (.iload_n 2, 1) := by decide +kernel
theorem dX7_lengthFault_29 : decode cX7_lengthFault 29 = .ok (.iconst (-1), 1) := by decide +kernel
theorem dX7_lengthFault_30 : decode cX7_lengthFault 30 = .ok (.if_icmp .eq 23, 3) := by decide +kernel
theorem dX7_lengthFault_33 : decode cX7_lengthFault 33 = .ok (.iload_n 2, 1) := by decide +kernel
theorem dX7_lengthFault_34 : decode cX7_lengthFault 34 = .ok (.invokestatic 149, 3) := by decide +kernel
theorem dX7_lengthFault_37 : decode cX7_lengthFault 37 = .ok (.ifCond .eq 16, 3) := by decide +kernel
theorem dX7_lengthFault_40 : decode cX7_lengthFault 40 = .ok (.iload_n 3, 1) := by decide +kernel
theorem dX7_lengthFault_41 : decode cX7_lengthFault 41 = .ok (.iconst 3, 1) := by decide +kernel
theorem dX7_lengthFault_42 : decode cX7_lengthFault 42 = .ok (.if_icmp .ge 11, 3) := by decide +kernel
theorem dX7_lengthFault_45 : decode cX7_lengthFault 45 = .ok (.iload 4, 2) := by decide +kernel
theorem dX7_lengthFault_47 : decode cX7_lengthFault 47 = .ok (.iload_n 2, 1) := by decide +kernel
theorem dX7_lengthFault_48 : decode cX7_lengthFault 48 = .ok (.if_icmp .eq 5, 3) := by decide +kernel
theorem dX7_lengthFault_51 : decode cX7_lengthFault 51 = .ok (.iload_n 2, 1) := by decide +kernel
theorem dX7_lengthFault_52 : decode cX7_lengthFault 52 = .ok (.ireturn, 1) := by decide +kernel
theorem dX7_lengthFault_53 : decode cX7_lengthFault 53 = .ok (.iload 4, 2) := by decide +kernel
theorem dX7_lengthFault_55 : decode cX7_lengthFault 55 = .ok (.iconst (-1), 1) := by decide +kernel
theorem dX7_lengthFault_56 : decode cX7_lengthFault 56 = .ok (.if_icmp .ne 5, 3) := by decide +kernel
theorem dX7_lengthFault_59 : decode cX7_lengthFault 59 = .ok (.iconst (-1), 1) := by decide +kernel
theorem dX7_lengthFault_60 : decode cX7_lengthFault 60 = .ok (.ireturn, 1) := by decide +kernel
theorem dX7_lengthFault_61 : decode cX7_lengthFault 61 = .ok (.iload 4, 2) := by decide +kernel
theorem dX7_lengthFault_63 : decode cX7_lengthFault 63 = .ok (.iload_n 2, 1) := by decide +kernel
theorem dX7_lengthFault_64 : decode cX7_lengthFault 64 = .ok (.if_icmp .ne 27, 3) := by decide +kernel
theorem dX7_lengthFault_67 : decode cX7_lengthFault 67 = .ok (.iload_n 3, 1) := by decide +kernel
theorem dX7_lengthFault_68 : decode cX7_lengthFault 68 = .ok (.iload 4, 2) := by decide +kernel
theorem dX7_lengthFault_70 : decode cX7_lengthFault 70 = .ok (.invokestatic 149, 3) := by decide +kernel
theorem dX7_lengthFault_73 : decode cX7_lengthFault 73 = .ok (.ifCond .eq 7, 3) := by decide +kernel
theorem dX7_lengthFault_76 : decode cX7_lengthFault 76 = .ok (.iconst 5, 1) := by decide +kernel
theorem dX7_lengthFault_77 : decode cX7_lengthFault 77 = .ok (.goto 4, 3) := by decide +kernel
theorem dX7_lengthFault_80 : decode cX7_lengthFault 80 = .ok (.iconst 3, 1) := by decide +kernel
theorem dX7_lengthFault_81 : decode cX7_lengthFault 81 = .ok (.if_icmp .lt 8, 3) := by decide +kernel
theorem dX7_lengthFault_84 : decode cX7_lengthFault 84 = .ok (.iload 4, 2) := by decide +kernel
theorem dX7_lengthFault_86 : decode cX7_lengthFault 86 = .ok (.goto 4, 3) := by decide +kernel
theorem dX7_lengthFault_89 : decode cX7_lengthFault 89 = .ok (.iconst (-1), 1) := by decide +kernel
theorem dX7_lengthFault_90 : decode cX7_lengthFault 90 = .ok (.ireturn, 1) := by decide +kernel
theorem dX7_lengthFault_91 : decode cX7_lengthFault 91 = .ok (.iload_n 1, 1) := by decide +kernel
theorem dX7_lengthFault_92 : decode cX7_lengthFault 92 = .ok (.iconst 1, 1) := by decide +kernel
theorem dX7_lengthFault_93 : decode cX7_lengthFault 93 = .ok (.isub, 1) := by decide +kernel
theorem dX7_lengthFault_94 : decode cX7_lengthFault 94 = .ok (.istore 5, 2) := by decide +kernel
theorem dX7_lengthFault_96 : decode cX7_lengthFault 96 = .ok (.iload 5, 2) := by decide +kernel
theorem dX7_lengthFault_98 : decode cX7_lengthFault 98 = .ok (.ifCond .lt 31, 3) := by decide +kernel
theorem dX7_lengthFault_101 : decode cX7_lengthFault 101 = .ok (.iload 5, 2) := by decide +kernel
theorem dX7_lengthFault_103 : decode cX7_lengthFault 103 = .ok (.iload_n 1, 1) := by decide +kernel
theorem dX7_lengthFault_104 : decode cX7_lengthFault 104 = .ok (.iconst 4, 1) := by decide +kernel
theorem dX7_lengthFault_105 : decode cX7_lengthFault 105 = .ok (.isub, 1) := by decide +kernel
theorem dX7_lengthFault_106 : decode cX7_lengthFault 106 = .ok (.if_icmp .lt 23, 3) := by decide +kernel
theorem dX7_lengthFault_109 : decode cX7_lengthFault 109 = .ok (.aload_n 0, 1) := by decide +kernel
theorem dX7_lengthFault_110 : decode cX7_lengthFault 110 = .ok (.iload 5, 2) := by decide +kernel
theorem dX7_lengthFault_112 : decode cX7_lengthFault 112 = .ok (.invokevirtual 129, 3) := by decide +kernel
theorem dX7_lengthFault_115 : decode cX7_lengthFault 115 = .ok (.iload 4, 2) := by decide +kernel
theorem dX7_lengthFault_117 : decode cX7_lengthFault 117 = .ok (.if_icmp .ne 6, 3) := by decide +kernel
theorem dX7_lengthFault_120 : decode cX7_lengthFault 120 = .ok (.iload 4, 2) := by decide +kernel
theorem dX7_lengthFault_122 : decode cX7_lengthFault 122 = .ok (.ireturn, 1) := by decide +kernel
theorem dX7_lengthFault_123 : decode cX7_lengthFault 123 = .ok (.iinc 5 (-1), 3) := by decide +kernel
theorem dX7_lengthFault_126 : decode cX7_lengthFault 126 = .ok (.goto (-30), 3) := by decide +kernel
theorem dX7_lengthFault_129 : decode cX7_lengthFault 129 = .ok (.iconst (-1), 1) := by decide +kernel
theorem dX7_lengthFault_130 : decode cX7_lengthFault 130 = .ok (.ireturn, 1) := by decide +kernel
theorem dX7_seatFault_0 : decode cX7_seatFault 0 = .ok (.aload_n 0, 1) := by decide +kernel
theorem dX7_seatFault_1 : decode cX7_seatFault 1 = .ok (.invokevirtual 140, 3) := by decide +kernel
theorem dX7_seatFault_4 : decode cX7_seatFault 4 = .ok (.istore_n 2, 1) := by decide +kernel
theorem dX7_seatFault_5 : decode cX7_seatFault 5 = .ok (.iload_n 2, 1) := by decide +kernel
theorem dX7_seatFault_6 : decode cX7_seatFault 6 = .ok (.bipush 8, 2) := by decide +kernel
theorem dX7_seatFault_8 : decode cX7_seatFault 8 = .ok (.ishr, 1) := by decide +kernel
theorem dX7_seatFault_9 : decode cX7_seatFault 9 = .ok (.iconst 1, 1) := by decide +kernel
theorem dX7_seatFault_10 : decode cX7_seatFault 10 = .ok (.iand, 1) := by decide +kernel
theorem dX7_seatFault_11 : decode cX7_seatFault 11 = .ok (.iconst 1, 1) := by decide +kernel
theorem dX7_seatFault_12 : decode cX7_seatFault 12 = .ok (.if_icmp .ne 7, 3) := by decide +kernel
theorem dX7_seatFault_15 : decode cX7_seatFault 15 = .ok (.iconst 1, 1) := by decide +kernel
theorem dX7_seatFault_16 : decode cX7_seatFault 16 = .ok (.goto 4, 3) := by decide +kernel
theorem dX7_seatFault_19 : decode cX7_seatFault 19 = .ok (.iconst 0, 1) := by decide +kernel
theorem dX7_seatFault_20 : decode cX7_seatFault 20 = .ok (.istore_n 3, 1) := by decide +kernel
theorem dX7_seatFault_21 : decode cX7_seatFault 21 = .ok (.iload_n 2, 1) := by decide +kernel
theorem dX7_seatFault_22 : decode cX7_seatFault 22 = .ok (.bipush 9, 2) := by decide +kernel
theorem dX7_seatFault_24 : decode cX7_seatFault 24 = .ok (.ishr, 1) := by decide +kernel
theorem dX7_seatFault_25 : decode cX7_seatFault 25 = .ok (.iconst 1, 1) := by decide +kernel
theorem dX7_seatFault_26 : decode cX7_seatFault 26 = .ok (.iand, 1) := by decide +kernel
theorem dX7_seatFault_27 : decode cX7_seatFault 27 = .ok (.iconst 1, 1) := by decide +kernel
theorem dX7_seatFault_28 : decode cX7_seatFault 28 = .ok (.if_icmp .ne 7, 3) := by decide +kernel
theorem dX7_seatFault_31 : decode cX7_seatFault 31 = .ok (.iconst 1, 1) := by decide +kernel
theorem dX7_seatFault_32 : decode cX7_seatFault 32 = .ok (.goto 4, 3) := by decide +kernel
theorem dX7_seatFault_35 : decode cX7_seatFault 35 = .ok (.iconst 0, 1) := by decide +kernel
theorem dX7_seatFault_36 : decode cX7_seatFault 36 = .ok (.istore 4, 2) := by decide +kernel
theorem dX7_seatFault_38 : decode cX7_seatFault 38 = .ok (.iload_n 3, 1) := by decide +kernel
theorem dX7_seatFault_39 : decode cX7_seatFault 39 = .ok (.aload_n 0, 1) := by decide +kernel
theorem dX7_seatFault_40 : decode cX7_seatFault 40 = .ok (.getfield 32, 3) := by decide +kernel
theorem dX7_seatFault_43 : decode cX7_seatFault 43 = .ok (.iload_n 1, 1) := by decide +kernel
theorem dX7_seatFault_44 : decode cX7_seatFault 44 = .ok (.iaload, 1) := by decide +kernel
theorem dX7_seatFault_45 : decode cX7_seatFault 45 = .ok (.iconst 1, 1) := by decide +kernel
theorem dX7_seatFault_46 : decode cX7_seatFault 46 = .ok (.if_icmp .ne 7, 3) := by decide +kernel
theorem dX7_seatFault_49 : decode cX7_seatFault 49 = .ok (.iconst 1, 1) := by decide +kernel
theorem dX7_seatFault_50 : decode cX7_seatFault 50 = .ok (.goto 4, 3) := by decide +kernel
theorem dX7_seatFault_53 : decode cX7_seatFault 53 = .ok (.iconst 0, 1) := by decide +kernel
theorem dX7_seatFault_54 : decode cX7_seatFault 54 = .ok (.if_icmp .eq 7, 3) := by decide +kernel
theorem dX7_seatFault_57 : decode cX7_seatFault 57 = .ok (.iconst 1, 1) := by decide +kernel
theorem dX7_seatFault_58 : decode cX7_seatFault 58 = .ok (.goto 28, 3) := by decide +kernel
theorem dX7_seatFault_61 : decode cX7_seatFault 61 = .ok (.iload 4, 2) := by decide +kernel
theorem dX7_seatFault_63 : decode cX7_seatFault 63 = .ok (.aload_n 0, 1) := by decide +kernel
theorem dX7_seatFault_64 : decode cX7_seatFault 64 = .ok (.getfield 32, 3) := by decide +kernel
theorem dX7_seatFault_67 : decode cX7_seatFault 67 = .ok (.iload_n 1, 1) := by decide +kernel
theorem dX7_seatFault_68 : decode cX7_seatFault 68 = .ok (.iaload, 1) := by decide +kernel
theorem dX7_seatFault_69 : decode cX7_seatFault 69 = .ok (.iconst 2, 1) := by decide +kernel
theorem dX7_seatFault_70 : decode cX7_seatFault 70 = .ok (.if_icmp .ne 7, 3) := by decide +kernel
theorem dX7_seatFault_73 : decode cX7_seatFault 73 = .ok (.iconst 1, 1) := by decide +kernel
theorem dX7_seatFault_74 : decode cX7_seatFault 74 = .ok (.goto 4, 3) := by decide +kernel
theorem dX7_seatFault_77 : decode cX7_seatFault 77 = .ok (.iconst 0, 1) := by decide +kernel
theorem dX7_seatFault_78 : decode cX7_seatFault 78 = .ok (.if_icmp .eq 7, 3) := by decide +kernel
theorem dX7_seatFault_81 : decode cX7_seatFault 81 = .ok (.iconst 2, 1) := by decide +kernel
theorem dX7_seatFault_82 : decode cX7_seatFault 82 = .ok (.goto 4, 3) := by decide +kernel
theorem dX7_seatFault_85 : decode cX7_seatFault 85 = .ok (.iconst (-1), 1) := by decide +kernel
theorem dX7_seatFault_86 : decode cX7_seatFault 86 = .ok (.ireturn, 1) := by decide +kernel
theorem dX7_faultOf_0 : decode cX7_faultOf 0 = .ok (.iload_n 1, 1) := by decide +kernel
theorem dX7_faultOf_1 : decode cX7_faultOf 1 = .ok (.iconst 2, 1) := by decide +kernel
theorem dX7_faultOf_2 : decode cX7_faultOf 2 = .ok (.irem, 1) := by decide +kernel
theorem dX7_faultOf_3 : decode cX7_faultOf 3 = .ok (.ifCond .ne 10, 3) := by decide +kernel
theorem dX7_faultOf_6 : decode cX7_faultOf 6 = .ok (.aload_n 0, 1) := by decide +kernel
theorem dX7_faultOf_7 : decode cX7_faultOf 7 = .ok (.getfield 114, 3) := by decide +kernel
theorem dX7_faultOf_10 : decode cX7_faultOf 10 = .ok (.goto 7, 3) := by decide +kernel
theorem dX7_faultOf_13 : decode cX7_faultOf 13 = .ok (.aload_n 0, 1) := by decide +kernel
theorem dX7_faultOf_14 : decode cX7_faultOf 14 = .ok (.getfield 117, 3) := by decide +kernel
theorem dX7_faultOf_17 : decode cX7_faultOf 17 = .ok (.istore_n 3, 1) := by decide +kernel
theorem dX7_faultOf_18 : decode cX7_faultOf 18 = .ok (.aload_n 0, 1) := by decide +kernel
theorem dX7_faultOf_19 : decode cX7_faultOf 19 = .ok (.aload_n 0, 1) := by decide +kernel
theorem dX7_faultOf_20 : decode cX7_faultOf 20 = .ok (.invokevirtual 152, 3) := by decide +kernel
theorem dX7_faultOf_23 : decode cX7_faultOf 23 = .ok (.putfield 155, 3) := by decide +kernel
theorem dX7_faultOf_26 : decode cX7_faultOf 26 = .ok (.aload_n 0, 1) := by decide +kernel
theorem dX7_faultOf_27 : decode cX7_faultOf 27 = .ok (.getfield 155, 3) := by decide +kernel
theorem dX7_faultOf_30 : decode cX7_faultOf 30 = .ok (.iload_n 3, 1) := by decide +kernel
theorem dX7_faultOf_31 : decode cX7_faultOf 31 = .ok (.if_icmp .eq 5, 3) := by decide +kernel
theorem dX7_faultOf_34 : decode cX7_faultOf 34 = .ok (.iconst 1, 1) := by decide +kernel
theorem dX7_faultOf_35 : decode cX7_faultOf 35 = .ok (.ireturn, 1) := by decide +kernel
theorem dX7_faultOf_36 : decode cX7_faultOf 36 = .ok (.aload_n 0, 1) := by decide +kernel
theorem dX7_faultOf_37 : decode cX7_faultOf 37 = .ok (.aload_n 0, 1) := by decide +kernel
theorem dX7_faultOf_38 : decode cX7_faultOf 38 = .ok (.invokevirtual 158, 3) := by decide +kernel
theorem dX7_faultOf_41 : decode cX7_faultOf 41 = .ok (.putfield 155, 3) := by decide +kernel
theorem dX7_faultOf_44 : decode cX7_faultOf 44 = .ok (.aload_n 0, 1) := by decide +kernel
theorem dX7_faultOf_45 : decode cX7_faultOf 45 = .ok (.getfield 155, 3) := by decide +kernel
theorem dX7_faultOf_48 : decode cX7_faultOf 48 = .ok (.iconst (-1), 1) := by decide +kernel
theorem dX7_faultOf_49 : decode cX7_faultOf 49 = .ok (.if_icmp .eq 5, 3) := by decide +kernel
theorem dX7_faultOf_52 : decode cX7_faultOf 52 = .ok (.iconst 2, 1) := by decide +kernel
theorem dX7_faultOf_53 : decode cX7_faultOf 53 = .ok (.ireturn, 1) := by decide +kernel
theorem dX7_faultOf_54 : decode cX7_faultOf 54 = .ok (.aload_n 0, 1) := by decide +kernel
theorem dX7_faultOf_55 : decode cX7_faultOf 55 = .ok (.aload_n 0, 1) := by decide +kernel
theorem dX7_faultOf_56 : decode cX7_faultOf 56 = .ok (.iload_n 1, 1) := by decide +kernel
theorem dX7_faultOf_57 : decode cX7_faultOf 57 = .ok (.invokevirtual 161, 3) := by decide +kernel
theorem dX7_faultOf_60 : decode cX7_faultOf 60 = .ok (.putfield 155, 3) := by decide +kernel
theorem dX7_faultOf_63 : decode cX7_faultOf 63 = .ok (.aload_n 0, 1) := by decide +kernel
theorem dX7_faultOf_64 : decode cX7_faultOf 64 = .ok (.getfield 155, 3) := by decide +kernel
theorem dX7_faultOf_67 : decode cX7_faultOf 67 = .ok (.iconst (-1), 1) := by decide +kernel
theorem dX7_faultOf_68 : decode cX7_faultOf 68 = .ok (.if_icmp .eq 5, 3) := by decide +kernel
theorem dX7_faultOf_71 : decode cX7_faultOf 71 = .ok (.iconst 3, 1) := by decide +kernel
theorem dX7_faultOf_72 : decode cX7_faultOf 72 = .ok (.ireturn, 1) := by decide +kernel
theorem dX7_faultOf_73 : decode cX7_faultOf 73 = .ok (.aload_n 0, 1) := by decide +kernel
theorem dX7_faultOf_74 : decode cX7_faultOf 74 = .ok (.iload_n 2, 1) := by decide +kernel
theorem dX7_faultOf_75 : decode cX7_faultOf 75 = .ok (.putfield 155, 3) := by decide +kernel
theorem dX7_faultOf_78 : decode cX7_faultOf 78 = .ok (.iload_n 1, 1) := by decide +kernel
theorem dX7_faultOf_79 : decode cX7_faultOf 79 = .ok (.ifCond .le 22, 3) := by decide +kernel
theorem dX7_faultOf_82 : decode cX7_faultOf 82 = .ok (.iload_n 2, 1) := by decide +kernel
theorem dX7_faultOf_83 : decode cX7_faultOf 83 = .ok (.iconst (-1), 1) := by decide +kernel
theorem dX7_faultOf_84 : decode cX7_faultOf 84 = .ok (.if_icmp .eq 17, 3) := by decide +kernel
theorem dX7_faultOf_87 : decode cX7_faultOf 87 = .ok (.aload_n 0, 1) := by decide +kernel
theorem dX7_faultOf_88 : decode cX7_faultOf 88 = .ok (.getfield 29, 3) := by decide +kernel
theorem dX7_faultOf_91 : decode cX7_faultOf 91 = .ok (.iload_n 1, 1) := by decide +kernel
theorem dX7_faultOf_92 : decode cX7_faultOf 92 = .ok (.iconst 1, 1) := by decide +kernel
theorem dX7_faultOf_93 : decode cX7_faultOf 93 = .ok (.isub, 1) := by decide +kernel
theorem dX7_faultOf_94 : decode cX7_faultOf 94 = .ok (.iaload, 1) := by decide +kernel
theorem dX7_faultOf_95 : decode cX7_faultOf 95 = .ok (.iload_n 2, 1) := by decide +kernel
theorem dX7_faultOf_96 : decode cX7_faultOf 96 = .ok (.if_icmp .ne 5, 3) := by decide +kernel
theorem dX7_faultOf_99 : decode cX7_faultOf 99 = .ok (.iconst 4, 1) := by decide +kernel
theorem dX7_faultOf_100 : decode cX7_faultOf 100 = .ok (.ireturn, 1) := by decide +kernel
theorem dX7_faultOf_101 : decode cX7_faultOf 101 = .ok (.aload_n 0, 1) := by decide +kernel
theorem dX7_faultOf_102 : decode cX7_faultOf 102 = .ok (.iload_n 1, 1) := by decide +kernel
theorem dX7_faultOf_103 : decode cX7_faultOf 103 = .ok (.iconst 1, 1) := by decide +kernel
theorem dX7_faultOf_104 : decode cX7_faultOf 104 = .ok (.isub, 1) := by decide +kernel
theorem dX7_faultOf_105 : decode cX7_faultOf 105 = .ok (.putfield 155, 3) := by decide +kernel
theorem dX7_faultOf_108 : decode cX7_faultOf 108 = .ok (.iload_n 1, 1) := by decide +kernel
theorem dX7_faultOf_109 : decode cX7_faultOf 109 = .ok (.ifCond .le 13, 3) := by decide +kernel
theorem dX7_faultOf_112 : decode cX7_faultOf 112 = .ok (.aload_n 0, 1) := by decide +kernel
theorem dX7_faultOf_113 : decode cX7_faultOf 113 = .ok (.iload_n 1, 1) := by decide +kernel
theorem dX7_faultOf_114 : decode cX7_faultOf 114 = .ok (.invokevirtual 164, 3) := by decide +kernel
theorem dX7_faultOf_117 : decode cX7_faultOf 117 = .ok (.ifCond .ne 5, 3) := by decide +kernel
theorem dX7_faultOf_120 : decode cX7_faultOf 120 = .ok (.iconst 5, 1) := by decide +kernel
theorem dX7_faultOf_121 : decode cX7_faultOf 121 = .ok (.ireturn, 1) := by decide +kernel
theorem dX7_faultOf_122 : decode cX7_faultOf 122 = .ok (.iload_n 1, 1) := by decide +kernel
theorem dX7_faultOf_123 : decode cX7_faultOf 123 = .ok (.iconst 1, 1) := by decide +kernel
theorem dX7_faultOf_124 : decode cX7_faultOf 124 = .ok (.if_icmp .le 22, 3) := by decide +kernel
theorem dX7_faultOf_127 : decode cX7_faultOf 127 = .ok (.aload_n 0, 1) := by decide +kernel
theorem dX7_faultOf_128 : decode cX7_faultOf 128 = .ok (.invokevirtual 140, 3) := by decide +kernel
theorem dX7_faultOf_131 : decode cX7_faultOf 131 = .ok (.aload_n 0, 1) := by decide +kernel
theorem dX7_faultOf_132 : decode cX7_faultOf 132 = .ok (.iload_n 1, 1) := by decide +kernel
theorem dX7_faultOf_133 : decode cX7_faultOf 133 = .ok (.iconst 2, 1) := by decide +kernel
theorem dX7_faultOf_134 : decode cX7_faultOf 134 = .ok (.isub, 1) := by decide +kernel
theorem dX7_faultOf_135 : decode cX7_faultOf 135 = .ok (.invokevirtual 143, 3) := by decide +kernel
theorem dX7_faultOf_138 : decode cX7_faultOf 138 = .ok (.iand, 1) := by decide +kernel
theorem dX7_faultOf_139 : decode cX7_faultOf 139 = .ok (.sipush 255, 3) := by decide +kernel
theorem dX7_faultOf_142 : decode cX7_faultOf 142 = .ok (.iand, 1) := by decide +kernel
theorem dX7_faultOf_143 : decode cX7_faultOf 143 = .ok (.goto 4, 3) := by decide +kernel
theorem dX7_faultOf_146 : decode cX7_faultOf 146 = .ok (.iconst 0, 1) := by decide +kernel
theorem dX7_faultOf_147 : decode cX7_faultOf 147 = .ok (.istore 4, 2) := by decide +kernel
theorem dX7_faultOf_149 : decode cX7_faultOf 149 = .ok (.aload_n 0, 1) := by decide +kernel
theorem dX7_faultOf_150 : decode cX7_faultOf 150 = .ok (.iload 4, 2) := by decide +kernel
theorem dX7_faultOf_152 : decode cX7_faultOf 152 = .ok (.ifCond .ne 7, 3) := by decide +kernel
theorem dX7_faultOf_155 : decode cX7_faultOf 155 = .ok (.iconst (-1), 1) := by decide +kernel
theorem dX7_faultOf_156 : decode cX7_faultOf 156 = .ok (.goto 8, 3) := by decide +kernel
theorem dX7_faultOf_159 : decode cX7_faultOf 159 = .ok (.iload 4, 2) := by decide +kernel
theorem dX7_faultOf_161 : decode cX7_faultOf 161 = .ok (.invokestatic 167, 3) := by decide +kernel
theorem dX7_faultOf_164 : decode cX7_faultOf 164 = .ok (.putfield 155, 3) := by decide +kernel
theorem dX7_faultOf_167 : decode cX7_faultOf 167 = .ok (.iload 4, 2) := by decide +kernel
theorem dX7_faultOf_169 : decode cX7_faultOf 169 = .ok (.ifCond .eq 6, 3) := by decide +kernel
theorem dX7_faultOf_172 : decode cX7_faultOf 172 = .ok (.bipush 6, 2) := by decide +kernel
theorem dX7_faultOf_174 : decode cX7_faultOf 174 = .ok (.ireturn, 1) := by decide +kernel
theorem dX7_faultOf_175 : decode cX7_faultOf 175 = .ok (.aload_n 0, 1) := by decide +kernel
theorem dX7_faultOf_176 : decode cX7_faultOf 176 = .ok (.aload_n 0, 1) := by decide +kernel
theorem dX7_faultOf_177 : decode cX7_faultOf 177 = .ok (.iload_n 1, 1) := by decide +kernel
theorem dX7_faultOf_178 : decode cX7_faultOf 178 = .ok (.invokevirtual 170, 3) := by decide +kernel
theorem dX7_faultOf_181 : decode cX7_faultOf 181 = .ok (.putfield 155, 3) := by decide +kernel
theorem dX7_faultOf_184 : decode cX7_faultOf 184 = .ok (.aload_n 0, 1) := by decide +kernel
theorem dX7_faultOf_185 : decode cX7_faultOf 185 = .ok (.getfield 155, 3) := by decide +kernel
theorem dX7_faultOf_188 : decode cX7_faultOf 188 = .ok (.iconst (-1), 1) := by decide +kernel
theorem dX7_faultOf_189 : decode cX7_faultOf 189 = .ok (.if_icmp .eq 6, 3) := by decide +kernel
theorem dX7_faultOf_192 : decode cX7_faultOf 192 = .ok (.bipush 7, 2) := by decide +kernel
theorem dX7_faultOf_194 : decode cX7_faultOf 194 = .ok (.ireturn, 1) := by decide +kernel
theorem dX7_faultOf_195 : decode cX7_faultOf 195 = .ok (.aload_n 0, 1) := by decide +kernel
theorem dX7_faultOf_196 : decode cX7_faultOf 196 = .ok (.aload_n 0, 1) := by decide +kernel
theorem dX7_faultOf_197 : decode cX7_faultOf 197 = .ok (.iload_n 1, 1) := by decide +kernel
theorem dX7_faultOf_198 : decode cX7_faultOf 198 = .ok (.invokevirtual 173, 3) := by decide +kernel
theorem dX7_faultOf_201 : decode cX7_faultOf 201 = .ok (.putfield 155, 3) := by decide +kernel
theorem dX7_faultOf_204 : decode cX7_faultOf 204 = .ok (.aload_n 0, 1) := by decide +kernel
theorem dX7_faultOf_205 : decode cX7_faultOf 205 = .ok (.getfield 155, 3) := by decide +kernel
theorem dX7_faultOf_208 : decode cX7_faultOf 208 = .ok (.iconst (-1), 1) := by decide +kernel
theorem dX7_faultOf_209 : decode cX7_faultOf 209 = .ok (.if_icmp .eq 8, 3) := by decide +kernel
theorem dX7_faultOf_212 : decode cX7_faultOf 212 = .ok (.bipush 8, 2) := by decide +kernel
theorem dX7_faultOf_214 : decode cX7_faultOf 214 = .ok (.goto 4, 3) := by decide +kernel
theorem dX7_faultOf_217 : decode cX7_faultOf 217 = .ok (.iconst 0, 1) := by decide +kernel
theorem dX7_faultOf_218 : decode cX7_faultOf 218 = .ok (.ireturn, 1) := by decide +kernel
theorem dX7_laysLink_0 : decode cX7_laysLink 0 = .ok (.aload_n 0, 1) := by decide +kernel
theorem dX7_laysLink_1 : decode cX7_laysLink 1 = .ok (.aload_n 0, 1) := by decide +kernel
theorem dX7_laysLink_2 : decode cX7_laysLink 2 = .ok (.getfield 26, 3) := by decide +kernel
theorem dX7_laysLink_5 : decode cX7_laysLink 5 = .ok (.iload_n 1, 1) := by decide +kernel
theorem dX7_laysLink_6 : decode cX7_laysLink 6 = .ok (.iaload, 1) := by decide +kernel
theorem dX7_laysLink_7 : decode cX7_laysLink 7 = .ok (.putfield 133, 3) := by decide +kernel
theorem dX7_laysLink_10 : decode cX7_laysLink 10 = .ok (.iconst 0, 1) := by decide +kernel
theorem dX7_laysLink_11 : decode cX7_laysLink 11 = .ok (.istore_n 2, 1) := by decide +kernel
theorem dX7_laysLink_12 : decode cX7_laysLink 12 = .ok (.iload_n 2, 1) := by decide +kernel
theorem dX7_laysLink_13 : decode cX7_laysLink 13 = .ok (.aload_n 0, 1) := by decide +kernel
theorem dX7_laysLink_14 : decode cX7_laysLink 14 = .ok (.getfield 133, 3) := by decide +kernel
theorem dX7_laysLink_17 : decode cX7_laysLink 17 = .ok (.if_icmp .ge 26, 3) := by decide +kernel
theorem dX7_laysLink_20 : decode cX7_laysLink 20 = .ok (.aload_n 0, 1) := by decide +kernel
theorem dX7_laysLink_21 : decode cX7_laysLink 21 = .ok (.getfield 70, 3) := by decide +kernel
theorem dX7_laysLink_24 : decode cX7_laysLink 24 = .ok (.iload_n 2, 1) := by decide +kernel
theorem dX7_laysLink_25 : decode cX7_laysLink 25 = .ok (.aload_n 0, 1) := by decide +kernel
theorem dX7_laysLink_26 : decode cX7_laysLink 26 = .ok (.getfield 23, 3) := by decide +kernel
theorem dX7_laysLink_29 : decode cX7_laysLink 29 = .ok (.bipush 6, 2) := by decide +kernel
theorem dX7_laysLink_31 : decode cX7_laysLink 31 = .ok (.iload_n 1, 1) := by decide +kernel
theorem dX7_laysLink_32 : decode cX7_laysLink 32 = .ok (.imul, 1) := by decide +kernel
theorem dX7_laysLink_33 : decode cX7_laysLink 33 = .ok (.iload_n 2, 1) := by decide +kernel
theorem dX7_laysLink_34 : decode cX7_laysLink 34 = .ok (.iadd, 1) := by decide +kernel
theorem dX7_laysLink_35 : decode cX7_laysLink 35 = .ok (.iaload, 1) := by decide +kernel
theorem dX7_laysLink_36 : decode cX7_laysLink 36 = .ok (.iastore, 1) := by decide +kernel
theorem dX7_laysLink_37 : decode cX7_laysLink 37 = .ok (.iinc 2 1, 3) := by decide +kernel
theorem dX7_laysLink_40 : decode cX7_laysLink 40 = .ok (.goto (-28), 3) := by decide +kernel
theorem dX7_laysLink_43 : decode cX7_laysLink 43 = .ok (.return_, 1) := by decide +kernel
theorem dX7_offer_0 : decode cX7_offer 0 = .ok (.aload_n 0, 1) := by decide +kernel
theorem dX7_offer_1 : decode cX7_offer 1 = .ok (.aload_n 0, 1) := by decide +kernel
theorem dX7_offer_2 : decode cX7_offer 2 = .ok (.iload_n 1, 1) := by decide +kernel
theorem dX7_offer_3 : decode cX7_offer 3 = .ok (.invokevirtual 176, 3) := by decide +kernel
theorem dX7_offer_6 : decode cX7_offer 6 = .ok (.aload_n 0, 1) := by decide +kernel
theorem dX7_offer_7 : decode cX7_offer 7 = .ok (.getfield 103, 3) := by decide +kernel
theorem dX7_offer_10 : decode cX7_offer 10 = .ok (.ifCond .eq 22, 3) := by decide +kernel
theorem dX7_offer_13 : decode cX7_offer 13 = .ok (.aload_n 0, 1) := by decide +kernel
theorem dX7_offer_14 : decode cX7_offer 14 = .ok (.invokevirtual 107, 3) := by decide +kernel
theorem dX7_offer_17 : decode cX7_offer 17 = .ok (.ifCond .ne 15, 3) := by decide +kernel
theorem dX7_offer_20 : decode cX7_offer 20 = .ok (.aload_n 0, 1) := by decide +kernel
theorem dX7_offer_21 : decode cX7_offer 21 = .ok (.getfield 120, 3) := by decide +kernel
theorem dX7_offer_24 : decode cX7_offer 24 = .ok (.iconst 4, 1) := by decide +kernel
theorem dX7_offer_25 : decode cX7_offer 25 = .ok (.if_icmp .ge 7, 3) := by decide +kernel
theorem dX7_offer_28 : decode cX7_offer 28 = .ok (.iconst 1, 1) := by decide +kernel
theorem dX7_offer_29 : decode cX7_offer 29 = .ok (.goto 4, 3) := by decide +kernel
theorem dX7_offer_32 : decode cX7_offer 32 = .ok (.iconst 0, 1) := by decide +kernel
theorem dX7_offer_33 : decode cX7_offer 33 = .ok (.iconst 1, 1) := by decide +kernel
theorem dX7_offer_34 : decode cX7_offer 34 = .ok (.invokevirtual 92, 3) := by decide +kernel
theorem dX7_offer_37 : decode cX7_offer 37 = .ok (.ifCond .ne 5, 3) := by decide +kernel
theorem dX7_offer_40 : decode cX7_offer 40 = .ok (.iconst 0, 1) := by decide +kernel
theorem dX7_offer_41 : decode cX7_offer 41 = .ok (.ireturn, 1) := by decide +kernel
theorem dX7_offer_42 : decode cX7_offer 42 = .ok (.aload_n 0, 1) := by decide +kernel
theorem dX7_offer_43 : decode cX7_offer 43 = .ok (.aload_n 0, 1) := by decide +kernel
theorem dX7_offer_44 : decode cX7_offer 44 = .ok (.getfield 126, 3) := by decide +kernel
theorem dX7_offer_47 : decode cX7_offer 47 = .ok (.putfield 133, 3) := by decide +kernel
theorem dX7_offer_50 : decode cX7_offer 50 = .ok (.iconst 0, 1) := by decide +kernel
theorem dX7_offer_51 : decode cX7_offer 51 = .ok (.istore_n 2, 1) := by decide +kernel
theorem dX7_offer_52 : decode cX7_offer 52 = .ok (.iload_n 2, 1) := by decide +kernel
theorem dX7_offer_53 : decode cX7_offer 53 = .ok (.aload_n 0, 1) := by decide +kernel
theorem dX7_offer_54 : decode cX7_offer 54 = .ok (.getfield 126, 3) := by decide +kernel
theorem dX7_offer_57 : decode cX7_offer 57 = .ok (.if_icmp .ge 21, 3) := by decide +kernel
theorem dX7_offer_60 : decode cX7_offer 60 = .ok (.aload_n 0, 1) := by decide +kernel
theorem dX7_offer_61 : decode cX7_offer 61 = .ok (.getfield 70, 3) := by decide +kernel
theorem dX7_offer_64 : decode cX7_offer 64 = .ok (.iload_n 2, 1) := by decide +kernel
theorem dX7_offer_65 : decode cX7_offer 65 = .ok (.aload_n 0, 1) := by decide +kernel
theorem dX7_offer_66 : decode cX7_offer 66 = .ok (.getfield 45, 3) := by decide +kernel
theorem dX7_offer_69 : decode cX7_offer 69 = .ok (.iload_n 2, 1) := by decide +kernel
theorem dX7_offer_70 : decode cX7_offer 70 = .ok (.iaload, 1) := by decide +kernel
theorem dX7_offer_71 : decode cX7_offer 71 = .ok (.iastore, 1) := by decide +kernel
theorem dX7_offer_72 : decode cX7_offer 72 = .ok (.iinc 2 1, 3) := by decide +kernel
theorem dX7_offer_75 : decode cX7_offer 75 = .ok (.goto (-23), 3) := by decide +kernel
theorem dX7_offer_78 : decode cX7_offer 78 = .ok (.aload_n 0, 1) := by decide +kernel
theorem dX7_offer_79 : decode cX7_offer 79 = .ok (.aload_n 0, 1) := by decide +kernel
theorem dX7_offer_80 : decode cX7_offer 80 = .ok (.getfield 86, 3) := by decide +kernel
theorem dX7_offer_83 : decode cX7_offer 83 = .ok (.iload_n 1, 1) := by decide +kernel
theorem dX7_offer_84 : decode cX7_offer 84 = .ok (.invokevirtual 179, 3) := by decide +kernel
theorem dX7_offer_87 : decode cX7_offer 87 = .ok (.istore_n 2, 1) := by decide +kernel
theorem dX7_offer_88 : decode cX7_offer 88 = .ok (.iload_n 2, 1) := by decide +kernel
theorem dX7_offer_89 : decode cX7_offer 89 = .ok (.ifCond .le 14, 3) := by decide +kernel
theorem dX7_offer_92 : decode cX7_offer 92 = .ok (.aload_n 0, 1) := by decide +kernel
theorem dX7_offer_93 : decode cX7_offer 93 = .ok (.aload_n 0, 1) := by decide +kernel
theorem dX7_offer_94 : decode cX7_offer 94 = .ok (.getfield 155, 3) := by decide +kernel
theorem dX7_offer_97 : decode cX7_offer 97 = .ok (.putfield 57, 3) := by decide +kernel
theorem dX7_offer_100 : decode cX7_offer 100 = .ok (.iload_n 2, 1) := by decide +kernel
theorem dX7_offer_101 : decode cX7_offer 101 = .ok (.ineg, 1) := by decide +kernel
theorem dX7_offer_102 : decode cX7_offer 102 = .ok (.ireturn, 1) := by decide +kernel
theorem dX7_offer_103 : decode cX7_offer 103 = .ok (.iconst 0, 1) := by decide +kernel
theorem dX7_offer_104 : decode cX7_offer 104 = .ok (.istore_n 3, 1) := by decide +kernel
theorem dX7_offer_105 : decode cX7_offer 105 = .ok (.iload_n 3, 1) := by decide +kernel
theorem dX7_offer_106 : decode cX7_offer 106 = .ok (.aload_n 0, 1) := by decide +kernel
theorem dX7_offer_107 : decode cX7_offer 107 = .ok (.getfield 126, 3) := by decide +kernel
theorem dX7_offer_110 : decode cX7_offer 110 = .ok (.if_icmp .ge 29, 3) := by decide +kernel
theorem dX7_offer_113 : decode cX7_offer 113 = .ok (.aload_n 0, 1) := by decide +kernel
theorem dX7_offer_114 : decode cX7_offer 114 = .ok (.getfield 48, 3) := by decide +kernel
theorem dX7_offer_117 : decode cX7_offer 117 = .ok (.bipush 6, 2) := by decide +kernel
theorem dX7_offer_119 : decode cX7_offer 119 = .ok (.aload_n 0, 1) := by decide +kernel
theorem dX7_offer_120 : decode cX7_offer 120 = .ok (.getfield 120, 3) := by decide +kernel
theorem dX7_offer_123 : decode cX7_offer 123 = .ok (.imul, 1) := by decide +kernel
theorem dX7_offer_124 : decode cX7_offer 124 = .ok (.iload_n 3, 1) := by decide +kernel
theorem dX7_offer_125 : decode cX7_offer 125 = .ok (.iadd, 1) := by decide +kernel
theorem dX7_offer_126 : decode cX7_offer 126 = .ok (.aload_n 0, 1) := by decide +kernel
theorem dX7_offer_127 : decode cX7_offer 127 = .ok (.getfield 45, 3) := by decide +kernel
theorem dX7_offer_130 : decode cX7_offer 130 = .ok (.iload_n 3, 1) := by decide +kernel
theorem dX7_offer_131 : decode cX7_offer 131 = .ok (.iaload, 1) := by decide +kernel
theorem dX7_offer_132 : decode cX7_offer 132 = .ok (.iastore, 1) := by decide +kernel
theorem dX7_offer_133 : decode cX7_offer 133 = .ok (.iinc 3 1, 3) := by decide +kernel
theorem dX7_offer_136 : decode cX7_offer 136 = .ok (.goto (-31), 3) := by decide +kernel
theorem dX7_offer_139 : decode cX7_offer 139 = .ok (.aload_n 0, 1) := by decide +kernel
theorem dX7_offer_140 : decode cX7_offer 140 = .ok (.getfield 51, 3) := by decide +kernel
theorem dX7_offer_143 : decode cX7_offer 143 = .ok (.aload_n 0, 1) := by decide +kernel
theorem dX7_offer_144 : decode cX7_offer 144 = .ok (.getfield 120, 3) := by decide +kernel
theorem dX7_offer_147 : decode cX7_offer 147 = .ok (.aload_n 0, 1) := by decide +kernel
theorem dX7_offer_148 : decode cX7_offer 148 = .ok (.getfield 126, 3) := by decide +kernel
theorem dX7_offer_151 : decode cX7_offer 151 = .ok (.iastore, 1) := by decide +kernel
theorem dX7_offer_152 : decode cX7_offer 152 = .ok (.aload_n 0, 1) := by decide +kernel
theorem dX7_offer_153 : decode cX7_offer 153 = .ok (.getfield 54, 3) := by decide +kernel
theorem dX7_offer_156 : decode cX7_offer 156 = .ok (.aload_n 0, 1) := by decide +kernel
theorem dX7_offer_157 : decode cX7_offer 157 = .ok (.getfield 120, 3) := by decide +kernel
theorem dX7_offer_160 : decode cX7_offer 160 = .ok (.iload_n 1, 1) := by decide +kernel
theorem dX7_offer_161 : decode cX7_offer 161 = .ok (.iastore, 1) := by decide +kernel
theorem dX7_offer_162 : decode cX7_offer 162 = .ok (.aload_n 0, 1) := by decide +kernel
theorem dX7_offer_163 : decode cX7_offer 163 = .ok (.iconst 0, 1) := by decide +kernel
theorem dX7_offer_164 : decode cX7_offer 164 = .ok (.putfield 126, 3) := by decide +kernel
theorem dX7_offer_167 : decode cX7_offer 167 = .ok (.aload_n 0, 1) := by decide +kernel
theorem dX7_offer_168 : decode cX7_offer 168 = .ok (.dup, 1) := by decide +kernel
theorem dX7_offer_169 : decode cX7_offer 169 = .ok (.getfield 120, 3) := by decide +kernel
theorem dX7_offer_172 : decode cX7_offer 172 = .ok (.iconst 1, 1) := by decide +kernel
theorem dX7_offer_173 : decode cX7_offer 173 = .ok (.iadd, 1) := by decide +kernel
theorem dX7_offer_174 : decode cX7_offer 174 = .ok (.putfield 120, 3) := by decide +kernel
theorem dX7_offer_177 : decode cX7_offer 177 = .ok (.aload_n 0, 1) := by decide +kernel
theorem dX7_offer_178 : decode cX7_offer 178 = .ok (.getfield 120, 3) := by decide +kernel
theorem dX7_offer_181 : decode cX7_offer 181 = .ok (.iconst 1, 1) := by decide +kernel
theorem dX7_offer_182 : decode cX7_offer 182 = .ok (.isub, 1) := by decide +kernel
theorem dX7_offer_183 : decode cX7_offer 183 = .ok (.ireturn, 1) := by decide +kernel
theorem dX7_why_0 : decode cX7_why 0 = .ok (.aload_n 0, 1) := by decide +kernel
theorem dX7_why_1 : decode cX7_why 1 = .ok (.iconst 0, 1) := by decide +kernel
theorem dX7_why_2 : decode cX7_why 2 = .ok (.putfield 73, 3) := by decide +kernel
theorem dX7_why_5 : decode cX7_why 5 = .ok (.aload_n 0, 1) := by decide +kernel
theorem dX7_why_6 : decode cX7_why 6 = .ok (.getfield 57, 3) := by decide +kernel
theorem dX7_why_9 : decode cX7_why 9 = .ok (.ireturn, 1) := by decide +kernel
theorem dX7_choose_0 : decode cX7_choose 0 = .ok (.aload_n 0, 1) := by decide +kernel
theorem dX7_choose_1 : decode cX7_choose 1 = .ok (.iload_n 1, 1) := by decide +kernel
theorem dX7_choose_2 : decode cX7_choose 2 = .ok (.iconst 0, 1) := by decide +kernel
theorem dX7_choose_3 : decode cX7_choose 3 = .ok (.aload_n 0, 1) := by decide +kernel
theorem dX7_choose_4 : decode cX7_choose 4 = .ok (.getfield 120, 3) := by decide +kernel
theorem dX7_choose_7 : decode cX7_choose 7 = .ok (.iconst 1, 1) := by decide +kernel
theorem dX7_choose_8 : decode cX7_choose 8 = .ok (.isub, 1) := by decide +kernel
theorem dX7_choose_9 : decode cX7_choose 9 = .ok (.invokestatic 79, 3) := by decide +kernel
theorem dX7_choose_12 : decode cX7_choose 12 = .ok (.iconst 1, 1) := by decide +kernel
theorem dX7_choose_13 : decode cX7_choose 13 = .ok (.iconst 1, 1) := by decide +kernel
theorem dX7_choose_14 : decode cX7_choose 14 = .ok (.invokevirtual 92, 3) := by decide +kernel
theorem dX7_choose_17 : decode cX7_choose 17 = .ok (.ifCond .ne 5, 3) := by decide +kernel
theorem dX7_choose_20 : decode cX7_choose 20 = .ok (.iconst 0, 1) := by decide +kernel
theorem dX7_choose_21 : decode cX7_choose 21 = .ok (.ireturn, 1) := by decide +kernel
theorem dX7_choose_22 : decode cX7_choose 22 = .ok (.iconst 0, 1) := by decide +kernel
theorem dX7_choose_23 : decode cX7_choose 23 = .ok (.istore_n 2, 1) := by decide +kernel
theorem dX7_choose_24 : decode cX7_choose 24 = .ok (.iload_n 2, 1) := by decide +kernel
theorem dX7_choose_25 : decode cX7_choose 25 = .ok (.aload_n 0, 1) := by decide +kernel
theorem dX7_choose_26 : decode cX7_choose 26 = .ok (.getfield 51, 3) := by decide +kernel
theorem dX7_choose_29 : decode cX7_choose 29 = .ok (.iload_n 1, 1) := by decide +kernel
theorem dX7_choose_30 : decode cX7_choose 30 = .ok (.iaload, 1) := by decide +kernel
theorem dX7_choose_31 : decode cX7_choose 31 = .ok (.if_icmp .ge 34, 3) := by decide +kernel
theorem dX7_choose_34 : decode cX7_choose 34 = .ok (.aload_n 0, 1) := by decide +kernel
theorem dX7_choose_35 : decode cX7_choose 35 = .ok (.getfield 23, 3) := by decide +kernel
theorem dX7_choose_38 : decode cX7_choose 38 = .ok (.bipush 6, 2) := by decide +kernel
theorem dX7_choose_40 : decode cX7_choose 40 = .ok (.aload_n 0, 1) := by decide +kernel
theorem dX7_choose_41 : decode cX7_choose 41 = .ok (.getfield 86, 3) := by decide +kernel
theorem dX7_choose_44 : decode cX7_choose 44 = .ok (.imul, 1) := by decide +kernel
theorem dX7_choose_45 : decode cX7_choose 45 = .ok (.iload_n 2, 1) := by decide +kernel
theorem dX7_choose_46 : decode cX7_choose 46 = .ok (.iadd, 1) := by decide +kernel
theorem dX7_choose_47 : decode cX7_choose 47 = .ok (.aload_n 0, 1) := by decide +kernel
theorem dX7_choose_48 : decode cX7_choose 48 = .ok (.getfield 48, 3) := by decide +kernel
theorem dX7_choose_51 : decode cX7_choose 51 = .ok (.bipush 6, 2) := by decide +kernel
theorem dX7_choose_53 : decode cX7_choose 53 = .ok (.iload_n 1, 1) := by decide +kernel
theorem dX7_choose_54 : decode cX7_choose 54 = .ok (.imul, 1) := by decide +kernel
theorem dX7_choose_55 : decode cX7_choose 55 = .ok (.iload_n 2, 1) := by decide +kernel
theorem dX7_choose_56 : decode cX7_choose 56 = .ok (.iadd, 1) := by decide +kernel
theorem dX7_choose_57 : decode cX7_choose 57 = .ok (.iaload, 1) := by decide +kernel
theorem dX7_choose_58 : decode cX7_choose 58 = .ok (.iastore, 1) := by decide +kernel
theorem dX7_choose_59 : decode cX7_choose 59 = .ok (.iinc 2 1, 3) := by decide +kernel
theorem dX7_choose_62 : decode cX7_choose 62 = .ok (.goto (-38), 3) := by decide +kernel
theorem dX7_choose_65 : decode cX7_choose 65 = .ok (.aload_n 0, 1) := by decide +kernel
theorem dX7_choose_66 : decode cX7_choose 66 = .ok (.getfield 26, 3) := by decide +kernel
theorem dX7_choose_69 : decode cX7_choose 69 = .ok (.aload_n 0, 1) := by decide +kernel
theorem dX7_choose_70 : decode cX7_choose 70 = .ok (.getfield 86, 3) := by decide +kernel
theorem dX7_choose_73 : decode cX7_choose 73 = .ok (.aload_n 0, 1) := by decide +kernel
theorem dX7_choose_74 : decode cX7_choose 74 = .ok (.getfield 51, 3) := by decide +kernel
theorem dX7_choose_77 : decode cX7_choose 77 = .ok (.iload_n 1, 1) := by decide +kernel
theorem dX7_choose_78 : decode cX7_choose 78 = .ok (.iaload, 1) := by decide +kernel
theorem dX7_choose_79 : decode cX7_choose 79 = .ok (.iastore, 1) := by decide +kernel
theorem dX7_choose_80 : decode cX7_choose 80 = .ok (.aload_n 0, 1) := by decide +kernel
theorem dX7_choose_81 : decode cX7_choose 81 = .ok (.getfield 29, 3) := by decide +kernel
theorem dX7_choose_84 : decode cX7_choose 84 = .ok (.aload_n 0, 1) := by decide +kernel
theorem dX7_choose_85 : decode cX7_choose 85 = .ok (.getfield 86, 3) := by decide +kernel
theorem dX7_choose_88 : decode cX7_choose 88 = .ok (.aload_n 0, 1) := by decide +kernel
theorem dX7_choose_89 : decode cX7_choose 89 = .ok (.getfield 54, 3) := by decide +kernel
theorem dX7_choose_92 : decode cX7_choose 92 = .ok (.iload_n 1, 1) := by decide +kernel
theorem dX7_choose_93 : decode cX7_choose 93 = .ok (.iaload, 1) := by decide +kernel
theorem dX7_choose_94 : decode cX7_choose 94 = .ok (.iastore, 1) := by decide +kernel
theorem dX7_choose_95 : decode cX7_choose 95 = .ok (.aload_n 0, 1) := by decide +kernel
theorem dX7_choose_96 : decode cX7_choose 96 = .ok (.getfield 35, 3) := by decide +kernel
theorem dX7_choose_99 : decode cX7_choose 99 = .ok (.aload_n 0, 1) := by decide +kernel
theorem dX7_choose_100 : decode cX7_choose 100 = .ok (.getfield 86, 3) := by decide +kernel
theorem dX7_choose_103 : decode cX7_choose 103 = .ok (.iconst 0, 1) := by decide +kernel
theorem dX7_choose_104 : decode cX7_choose 104 = .ok (.bastore, 1) := by decide +kernel
theorem dX7_choose_105 : decode cX7_choose 105 = .ok (.aload_n 0, 1) := by decide +kernel
theorem dX7_choose_106 : decode cX7_choose 106 = .ok (.getfield 39, 3) := by decide +kernel
theorem dX7_choose_109 : decode cX7_choose 109 = .ok (.aload_n 0, 1) := by decide +kernel
theorem dX7_choose_110 : decode cX7_choose 110 = .ok (.getfield 86, 3) := by decide +kernel
theorem dX7_choose_113 : decode cX7_choose 113 = .ok (.iconst 0, 1) := by decide +kernel
theorem dX7_choose_114 : decode cX7_choose 114 = .ok (.bastore, 1) := by decide +kernel
theorem dX7_choose_115 : decode cX7_choose 115 = .ok (.aload_n 0, 1) := by decide +kernel
theorem dX7_choose_116 : decode cX7_choose 116 = .ok (.iconst 0, 1) := by decide +kernel
theorem dX7_choose_117 : decode cX7_choose 117 = .ok (.putfield 120, 3) := by decide +kernel
theorem dX7_choose_120 : decode cX7_choose 120 = .ok (.aload_n 0, 1) := by decide +kernel
theorem dX7_choose_121 : decode cX7_choose 121 = .ok (.dup, 1) := by decide +kernel
theorem dX7_choose_122 : decode cX7_choose 122 = .ok (.getfield 86, 3) := by decide +kernel
theorem dX7_choose_125 : decode cX7_choose 125 = .ok (.iconst 1, 1) := by decide +kernel
theorem dX7_choose_126 : decode cX7_choose 126 = .ok (.iadd, 1) := by decide +kernel
theorem dX7_choose_127 : decode cX7_choose 127 = .ok (.putfield 86, 3) := by decide +kernel
theorem dX7_choose_130 : decode cX7_choose 130 = .ok (.aload_n 0, 1) := by decide +kernel
theorem dX7_choose_131 : decode cX7_choose 131 = .ok (.getfield 86, 3) := by decide +kernel
theorem dX7_choose_134 : decode cX7_choose 134 = .ok (.iconst 1, 1) := by decide +kernel
theorem dX7_choose_135 : decode cX7_choose 135 = .ok (.isub, 1) := by decide +kernel
theorem dX7_choose_136 : decode cX7_choose 136 = .ok (.ireturn, 1) := by decide +kernel
theorem dX7_mend_0 : decode cX7_mend 0 = .ok (.aload_n 0, 1) := by decide +kernel
theorem dX7_mend_1 : decode cX7_mend 1 = .ok (.getfield 86, 3) := by decide +kernel
theorem dX7_mend_4 : decode cX7_mend 4 = .ok (.ifCond .le 47, 3) := by decide +kernel
theorem dX7_mend_7 : decode cX7_mend 7 = .ok (.aload_n 0, 1) := by decide +kernel
theorem dX7_mend_8 : decode cX7_mend 8 = .ok (.iload_n 2, 1) := by decide +kernel
theorem dX7_mend_9 : decode cX7_mend 9 = .ok (.invokevirtual 96, 3) := by decide +kernel
theorem dX7_mend_12 : decode cX7_mend 12 = .ok (.ifCond .eq 39, 3) := by decide +kernel
theorem dX7_mend_15 : decode cX7_mend 15 = .ok (.iload_n 1, 1) := by decide +kernel
theorem dX7_mend_16 : decode cX7_mend 16 = .ok (.iconst 0, 1) := by decide +kernel
theorem dX7_mend_17 : decode cX7_mend 17 = .ok (.aload_n 0, 1) := by decide +kernel
theorem dX7_mend_18 : decode cX7_mend 18 = .ok (.getfield 26, 3) := by decide +kernel
theorem dX7_mend_21 : decode cX7_mend 21 = .ok (.aload_n 0, 1) := by decide +kernel
theorem dX7_mend_22 : decode cX7_mend 22 = .ok (.getfield 86, 3) := by decide +kernel
theorem dX7_mend_25 : decode cX7_mend 25 = .ok (.ifCond .le 12, 3) := by decide +kernel
theorem dX7_mend_28 : decode cX7_mend 28 = .ok (.aload_n 0, 1) := by decide +kernel
theorem dX7_mend_29 : decode cX7_mend 29 = .ok (.getfield 86, 3) := by decide +kernel
theorem dX7_mend_32 : decode cX7_mend 32 = .ok (.iconst 1, 1) := by decide +kernel
theorem dX7_mend_33 : decode cX7_mend 33 = .ok (.isub, 1) := by decide +kernel
theorem dX7_mend_34 : decode cX7_mend 34 = .ok (.goto 4, 3) := by decide +kernel
theorem dX7_mend_37 : decode cX7_mend 37 = .ok (.iconst 0, 1) := by decide +kernel
theorem dX7_mend_38 : decode cX7_mend 38 = .ok (.iaload, 1) := by decide +kernel
theorem dX7_mend_39 : decode cX7_mend 39 = .ok (.iconst 1, 1) := by decide +kernel
theorem dX7_mend_40 : decode cX7_mend 40 = .ok (.isub, 1) := by decide +kernel
theorem dX7_mend_41 : decode cX7_mend 41 = .ok (.invokestatic 79, 3) := by decide +kernel
theorem dX7_mend_44 : decode cX7_mend 44 = .ok (.ifCond .eq 7, 3) := by decide +kernel
theorem dX7_mend_47 : decode cX7_mend 47 = .ok (.iconst 1, 1) := by decide +kernel
theorem dX7_mend_48 : decode cX7_mend 48 = .ok (.goto 4, 3) := by decide +kernel
theorem dX7_mend_51 : decode cX7_mend 51 = .ok (.iconst 0, 1) := by decide +kernel
theorem dX7_mend_52 : decode cX7_mend 52 = .ok (.istore_n 3, 1) := by decide +kernel
theorem dX7_mend_53 : decode cX7_mend 53 = .ok (.aload_n 0, 1) := by decide +kernel
theorem dX7_mend_54 : decode cX7_mend 54 = .ok (.iload_n 3, 1) := by decide +kernel
theorem dX7_mend_55 : decode cX7_mend 55 = .ok (.aload_n 0, 1) := by decide +kernel
theorem dX7_mend_56 : decode cX7_mend 56 = .ok (.getfield 120, 3) := by decide +kernel
theorem dX7_mend_59 : decode cX7_mend 59 = .ok (.ifCond .ne 7, 3) := by decide +kernel
theorem dX7_mend_62 : decode cX7_mend 62 = .ok (.iconst 1, 1) := by decide +kernel
theorem dX7_mend_63 : decode cX7_mend 63 = .ok (.goto 4, 3) := by decide +kernel
theorem dX7_mend_66 : decode cX7_mend 66 = .ok (.iconst 0, 1) := by decide +kernel
theorem dX7_mend_67 : decode cX7_mend 67 = .ok (.iconst 1, 1) := by decide +kernel
theorem dX7_mend_68 : decode cX7_mend 68 = .ok (.invokevirtual 92, 3) := by decide +kernel
theorem dX7_mend_71 : decode cX7_mend 71 = .ok (.ifCond .ne 5, 3) := by decide +kernel
theorem dX7_mend_74 : decode cX7_mend 74 = .ok (.iconst 0, 1) := by decide +kernel
theorem dX7_mend_75 : decode cX7_mend 75 = .ok (.ireturn, 1) := by decide +kernel
theorem dX7_mend_76 : decode cX7_mend 76 = .ok (.aload_n 0, 1) := by decide +kernel
theorem dX7_mend_77 : decode cX7_mend 77 = .ok (.aload_n 0, 1) := by decide +kernel
theorem dX7_mend_78 : decode cX7_mend 78 = .ok (.getfield 86, 3) := by decide +kernel
theorem dX7_mend_81 : decode cX7_mend 81 = .ok (.iconst 1, 1) := by decide +kernel
theorem dX7_mend_82 : decode cX7_mend 82 = .ok (.isub, 1) := by decide +kernel
theorem dX7_mend_83 : decode cX7_mend 83 = .ok (.invokevirtual 183, 3) := by decide +kernel
theorem dX7_mend_86 : decode cX7_mend 86 = .ok (.aload_n 0, 1) := by decide +kernel
theorem dX7_mend_87 : decode cX7_mend 87 = .ok (.getfield 70, 3) := by decide +kernel
theorem dX7_mend_90 : decode cX7_mend 90 = .ok (.iload_n 1, 1) := by decide +kernel
theorem dX7_mend_91 : decode cX7_mend 91 = .ok (.iload_n 2, 1) := by decide +kernel
theorem dX7_mend_92 : decode cX7_mend 92 = .ok (.iastore, 1) := by decide +kernel
theorem dX7_mend_93 : decode cX7_mend 93 = .ok (.aload_n 0, 1) := by decide +kernel
theorem dX7_mend_94 : decode cX7_mend 94 = .ok (.aload_n 0, 1) := by decide +kernel
theorem dX7_mend_95 : decode cX7_mend 95 = .ok (.getfield 86, 3) := by decide +kernel
theorem dX7_mend_98 : decode cX7_mend 98 = .ok (.iconst 1, 1) := by decide +kernel
theorem dX7_mend_99 : decode cX7_mend 99 = .ok (.isub, 1) := by decide +kernel
theorem dX7_mend_100 : decode cX7_mend 100 = .ok (.iconst (-1), 1) := by decide +kernel
theorem dX7_mend_101 : decode cX7_mend 101 = .ok (.invokevirtual 179, 3) := by decide +kernel
theorem dX7_mend_104 : decode cX7_mend 104 = .ok (.istore 4, 2) := by decide +kernel
theorem dX7_mend_106 : decode cX7_mend 106 = .ok (.iload 4, 2) := by decide +kernel
theorem dX7_mend_108 : decode cX7_mend 108 = .ok (.ifCond .le 15, 3) := by decide +kernel
theorem dX7_mend_111 : decode cX7_mend 111 = .ok (.aload_n 0, 1) := by decide +kernel
theorem dX7_mend_112 : decode cX7_mend 112 = .ok (.aload_n 0, 1) := by decide +kernel
theorem dX7_mend_113 : decode cX7_mend 113 = .ok (.getfield 155, 3) := by decide +kernel
theorem dX7_mend_116 : decode cX7_mend 116 = .ok (.putfield 57, 3) := by decide +kernel
theorem dX7_mend_119 : decode cX7_mend 119 = .ok (.iload 4, 2) := by decide +kernel
theorem dX7_mend_121 : decode cX7_mend 121 = .ok (.ineg, 1) := by decide +kernel
theorem dX7_mend_122 : decode cX7_mend 122 = .ok (.ireturn, 1) := by decide +kernel
theorem dX7_mend_123 : decode cX7_mend 123 = .ok (.aload_n 0, 1) := by decide +kernel
theorem dX7_mend_124 : decode cX7_mend 124 = .ok (.getfield 23, 3) := by decide +kernel
theorem dX7_mend_127 : decode cX7_mend 127 = .ok (.bipush 6, 2) := by decide +kernel
theorem dX7_mend_129 : decode cX7_mend 129 = .ok (.aload_n 0, 1) := by decide +kernel
theorem dX7_mend_130 : decode cX7_mend 130 = .ok (.getfield 86, 3) := by decide +kernel
theorem dX7_mend_133 : decode cX7_mend 133 = .ok (.iconst 1, 1) := by decide +kernel
theorem dX7_mend_134 : decode cX7_mend 134 = .ok (.isub, 1) := by decide +kernel
theorem dX7_mend_135 : decode cX7_mend 135 = .ok (.imul, 1) := by decide +kernel
theorem dX7_mend_136 : decode cX7_mend 136 = .ok (.iload_n 1, 1) := by decide +kernel
theorem dX7_mend_137 : decode cX7_mend 137 = .ok (.iadd, 1) := by decide +kernel
theorem dX7_mend_138 : decode cX7_mend 138 = .ok (.iload_n 2, 1) := by decide +kernel
theorem dX7_mend_139 : decode cX7_mend 139 = .ok (.iastore, 1) := by decide +kernel
theorem dX7_mend_140 : decode cX7_mend 140 = .ok (.aload_n 0, 1) := by decide +kernel
theorem dX7_mend_141 : decode cX7_mend 141 = .ok (.getfield 39, 3) := by decide +kernel
theorem dX7_mend_144 : decode cX7_mend 144 = .ok (.aload_n 0, 1) := by decide +kernel
theorem dX7_mend_145 : decode cX7_mend 145 = .ok (.getfield 86, 3) := by decide +kernel
theorem dX7_mend_148 : decode cX7_mend 148 = .ok (.iconst 1, 1) := by decide +kernel
theorem dX7_mend_149 : decode cX7_mend 149 = .ok (.isub, 1) := by decide +kernel
theorem dX7_mend_150 : decode cX7_mend 150 = .ok (.iconst 1, 1) := by decide +kernel
theorem dX7_mend_151 : decode cX7_mend 151 = .ok (.bastore, 1) := by decide +kernel
theorem dX7_mend_152 : decode cX7_mend 152 = .ok (.iconst 0, 1) := by decide +kernel
theorem dX7_mend_153 : decode cX7_mend 153 = .ok (.ireturn, 1) := by decide +kernel
theorem dX7_give_0 : decode cX7_give 0 = .ok (.aload_n 0, 1) := by decide +kernel
theorem dX7_give_1 : decode cX7_give 1 = .ok (.iload_n 1, 1) := by decide +kernel
theorem dX7_give_2 : decode cX7_give 2 = .ok (.iconst 0, 1) := by decide +kernel
theorem dX7_give_3 : decode cX7_give 3 = .ok (.iconst 3, 1) := by decide +kernel
theorem dX7_give_4 : decode cX7_give 4 = .ok (.invokestatic 79, 3) := by decide +kernel
theorem dX7_give_7 : decode cX7_give 7 = .ok (.ifCond .eq 15, 3) := by decide +kernel
theorem dX7_give_10 : decode cX7_give 10 = .ok (.aload_n 0, 1) := by decide +kernel
theorem dX7_give_11 : decode cX7_give 11 = .ok (.iload_n 2, 1) := by decide +kernel
theorem dX7_give_12 : decode cX7_give 12 = .ok (.invokevirtual 187, 3) := by decide +kernel
theorem dX7_give_15 : decode cX7_give 15 = .ok (.ifCond .eq 7, 3) := by decide +kernel
theorem dX7_give_18 : decode cX7_give 18 = .ok (.iconst 1, 1) := by decide +kernel
theorem dX7_give_19 : decode cX7_give 19 = .ok (.goto 4, 3) := by decide +kernel
theorem dX7_give_22 : decode cX7_give 22 = .ok (.iconst 0, 1) := by decide +kernel
theorem dX7_give_23 : decode cX7_give 23 = .ok (.iload_n 3, 1) := by decide +kernel
theorem dX7_give_24 : decode cX7_give 24 = .ok (.iconst 0, 1) := by decide +kernel
theorem dX7_give_25 : decode cX7_give 25 = .ok (.bipush 10, 2) := by decide +kernel
theorem dX7_give_27 : decode cX7_give 27 = .ok (.invokestatic 79, 3) := by decide +kernel
theorem dX7_give_30 : decode cX7_give 30 = .ok (.iconst 1, 1) := by decide +kernel
theorem dX7_give_31 : decode cX7_give 31 = .ok (.invokevirtual 92, 3) := by decide +kernel
theorem dX7_give_34 : decode cX7_give 34 = .ok (.ifCond .ne 5, 3) := by decide +kernel
theorem dX7_give_37 : decode cX7_give 37 = .ok (.iconst 0, 1) := by decide +kernel
theorem dX7_give_38 : decode cX7_give 38 = .ok (.ireturn, 1) := by decide +kernel
theorem dX7_give_39 : decode cX7_give 39 = .ok (.aload_n 0, 1) := by decide +kernel
theorem dX7_give_40 : decode cX7_give 40 = .ok (.getfield 42, 3) := by decide +kernel
theorem dX7_give_43 : decode cX7_give 43 = .ok (.bipush 36, 2) := by decide +kernel
theorem dX7_give_45 : decode cX7_give 45 = .ok (.iload_n 1, 1) := by decide +kernel
theorem dX7_give_46 : decode cX7_give 46 = .ok (.imul, 1) := by decide +kernel
theorem dX7_give_47 : decode cX7_give 47 = .ok (.iload_n 2, 1) := by decide +kernel
theorem dX7_give_48 : decode cX7_give 48 = .ok (.iadd, 1) := by decide +kernel
theorem dX7_give_49 : decode cX7_give 49 = .ok (.iaload, 1) := by decide +kernel
theorem dX7_give_50 : decode cX7_give 50 = .ok (.iconst 1, 1) := by decide +kernel
theorem dX7_give_51 : decode cX7_give 51 = .ok (.isub, 1) := by decide +kernel
theorem dX7_give_52 : decode cX7_give 52 = .ok (.istore 4, 2) := by decide +kernel
theorem dX7_give_54 : decode cX7_give 54 = .ok (.aload_n 0, 1) := by decide +kernel
theorem dX7_give_55 : decode cX7_give 55 = .ok (.getfield 42, 3) := by decide +kernel
theorem dX7_give_58 : decode cX7_give 58 = .ok (.bipush 36, 2) := by decide +kernel
theorem dX7_give_60 : decode cX7_give 60 = .ok (.iload_n 1, 1) := by decide +kernel
theorem dX7_give_61 : decode cX7_give 61 = .ok (.imul, 1) := by decide +kernel
theorem dX7_give_62 : decode cX7_give 62 = .ok (.iload_n 2, 1) := by decide +kernel
theorem dX7_give_63 : decode cX7_give 63 = .ok (.iadd, 1) := by decide +kernel
theorem dX7_give_64 : decode cX7_give 64 = .ok (.iload_n 3, 1) := by decide +kernel
theorem dX7_give_65 : decode cX7_give 65 = .ok (.iconst 1, 1) := by decide +kernel
theorem dX7_give_66 : decode cX7_give 66 = .ok (.iadd, 1) := by decide +kernel
theorem dX7_give_67 : decode cX7_give 67 = .ok (.iastore, 1) := by decide +kernel
theorem dX7_give_68 : decode cX7_give 68 = .ok (.iload 4, 2) := by decide +kernel
theorem dX7_give_70 : decode cX7_give 70 = .ok (.ireturn, 1) := by decide +kernel
theorem dX7_copy_0 : decode cX7_copy 0 = .ok (.aload_n 0, 1) := by decide +kernel
theorem dX7_copy_1 : decode cX7_copy 1 = .ok (.iload_n 1, 1) := by decide +kernel
theorem dX7_copy_2 : decode cX7_copy 2 = .ok (.iconst (-1), 1) := by decide +kernel
theorem dX7_copy_3 : decode cX7_copy 3 = .ok (.if_icmp .eq 17, 3) := by decide +kernel
theorem dX7_copy_6 : decode cX7_copy 6 = .ok (.iload_n 1, 1) := by decide +kernel
theorem dX7_copy_7 : decode cX7_copy 7 = .ok (.iconst 0, 1) := by decide +kernel
theorem dX7_copy_8 : decode cX7_copy 8 = .ok (.aload_n 0, 1) := by decide +kernel
theorem dX7_copy_9 : decode cX7_copy 9 = .ok (.getfield 123, 3) := by decide +kernel
theorem dX7_copy_12 : decode cX7_copy 12 = .ok (.iconst 1, 1) := by decide +kernel
theorem dX7_copy_13 : decode cX7_copy 13 = .ok (.isub, 1) := by decide +kernel
theorem dX7_copy_14 : decode cX7_copy 14 = .ok (.invokestatic 79, 3) := by decide +kernel
theorem dX7_copy_17 : decode cX7_copy 17 = .ok (.ifCond .eq 7, 3) := by decide +kernel
theorem dX7_copy_20 : decode cX7_copy 20 = .ok (.iconst 1, 1) := by decide +kernel
theorem dX7_copy_21 : decode cX7_copy 21 = .ok (.goto 4, 3) := by decide +kernel
theorem dX7_copy_24 : decode cX7_copy 24 = .ok (.iconst 0, 1) := by decide +kernel
theorem dX7_copy_25 : decode cX7_copy 25 = .ok (.aload_n 0, 1) := by decide +kernel
theorem dX7_copy_26 : decode cX7_copy 26 = .ok (.getfield 103, 3) := by decide +kernel
theorem dX7_copy_29 : decode cX7_copy 29 = .ok (.ifCond .eq 16, 3) := by decide +kernel
theorem dX7_copy_32 : decode cX7_copy 32 = .ok (.aload_n 0, 1) := by decide +kernel
theorem dX7_copy_33 : decode cX7_copy 33 = .ok (.getfield 123, 3) := by decide +kernel
theorem dX7_copy_36 : decode cX7_copy 36 = .ok (.bipush 8, 2) := by decide +kernel
theorem dX7_copy_38 : decode cX7_copy 38 = .ok (.if_icmp .ge 7, 3) := by decide +kernel
theorem dX7_copy_41 : decode cX7_copy 41 = .ok (.iconst 1, 1) := by decide +kernel
theorem dX7_copy_42 : decode cX7_copy 42 = .ok (.goto 4, 3) := by decide +kernel
theorem dX7_copy_45 : decode cX7_copy 45 = .ok (.iconst 0, 1) := by decide +kernel
theorem dX7_copy_46 : decode cX7_copy 46 = .ok (.iconst 1, 1) := by decide +kernel
theorem dX7_copy_47 : decode cX7_copy 47 = .ok (.invokevirtual 92, 3) := by decide +kernel
theorem dX7_copy_50 : decode cX7_copy 50 = .ok (.ifCond .ne 5, 3) := by decide +kernel
theorem dX7_copy_53 : decode cX7_copy 53 = .ok (.iconst 0, 1) := by decide +kernel
theorem dX7_copy_54 : decode cX7_copy 54 = .ok (.ireturn, 1) := by decide +kernel
theorem dX7_copy_55 : decode cX7_copy 55 = .ok (.aload_n 0, 1) := by decide +kernel
theorem dX7_copy_56 : decode cX7_copy 56 = .ok (.getfield 67, 3) := by decide +kernel
theorem dX7_copy_59 : decode cX7_copy 59 = .ok (.aload_n 0, 1) := by decide +kernel
theorem dX7_copy_60 : decode cX7_copy 60 = .ok (.getfield 123, 3) := by decide +kernel
theorem dX7_copy_63 : decode cX7_copy 63 = .ok (.aload_n 0, 1) := by decide +kernel
theorem dX7_copy_64 : decode cX7_copy 64 = .ok (.iload_n 1, 1) := by decide +kernel
theorem dX7_copy_65 : decode cX7_copy 65 = .ok (.invokevirtual 190, 3) := by decide +kernel
theorem dX7_copy_68 : decode cX7_copy 68 = .ok (.iastore, 1) := by decide +kernel
theorem dX7_copy_69 : decode cX7_copy 69 = .ok (.iconst 0, 1) := by decide +kernel
theorem dX7_copy_70 : decode cX7_copy 70 = .ok (.istore_n 2, 1) := by decide +kernel
theorem dX7_copy_71 : decode cX7_copy 71 = .ok (.iload_n 2, 1) := by decide +kernel
theorem dX7_copy_72 : decode cX7_copy 72 = .ok (.aload_n 0, 1) := by decide +kernel
theorem dX7_copy_73 : decode cX7_copy 73 = .ok (.iload_n 1, 1) := by decide +kernel
theorem dX7_copy_74 : decode cX7_copy 74 = .ok (.invokevirtual 190, 3) := by decide +kernel
theorem dX7_copy_77 : decode cX7_copy 77 = .ok (.if_icmp .ge 74, 3) := by decide +kernel
theorem dX7_copy_80 : decode cX7_copy 80 = .ok (.aload_n 0, 1) := by decide +kernel
theorem dX7_copy_81 : decode cX7_copy 81 = .ok (.getfield 64, 3) := by decide +kernel
theorem dX7_copy_84 : decode cX7_copy 84 = .ok (.bipush 36, 2) := by decide +kernel
theorem dX7_copy_86 : decode cX7_copy 86 = .ok (.aload_n 0, 1) := by decide +kernel
theorem dX7_copy_87 : decode cX7_copy 87 = .ok (.getfield 123, 3) := by decide +kernel
theorem dX7_copy_90 : decode cX7_copy 90 = .ok (.imul, 1) := by decide +kernel
theorem dX7_copy_91 : decode cX7_copy 91 = .ok (.iload_n 2, 1) := by decide +kernel
theorem dX7_copy_92 : decode cX7_copy 92 = .ok (.iadd, 1) := by decide +kernel
theorem dX7_copy_93 : decode cX7_copy 93 = .ok (.aload_n 0, 1) := by decide +kernel
theorem dX7_copy_94 : decode cX7_copy 94 = .ok (.iload_n 1, 1) := by decide +kernel
theorem dX7_copy_95 : decode cX7_copy 95 = .ok (.iload_n 2, 1) := by decide +kernel
theorem dX7_copy_96 : decode cX7_copy 96 = .ok (.invokevirtual 193, 3) := by decide +kernel
theorem dX7_copy_99 : decode cX7_copy 99 = .ok (.iastore, 1) := by decide +kernel
theorem dX7_copy_100 : decode cX7_copy 100 = .ok (.iconst 0, 1) := by decide +kernel
theorem dX7_copy_101 : decode cX7_copy 101 = .ok (.istore_n 3, 1) := by decide +kernel
theorem dX7_copy_102 : decode cX7_copy 102 = .ok (.iload_n 3, 1) := by decide +kernel
theorem dX7_copy_103 : decode cX7_copy 103 = .ok (.aload_n 0, 1) := by decide +kernel
theorem dX7_copy_104 : decode cX7_copy 104 = .ok (.iload_n 1, 1) := by decide +kernel
theorem dX7_copy_105 : decode cX7_copy 105 = .ok (.iload_n 2, 1) := by decide +kernel
theorem dX7_copy_106 : decode cX7_copy 106 = .ok (.invokevirtual 193, 3) := by decide +kernel
theorem dX7_copy_109 : decode cX7_copy 109 = .ok (.if_icmp .ge 36, 3) := by decide +kernel
theorem dX7_copy_112 : decode cX7_copy 112 = .ok (.aload_n 0, 1) := by decide +kernel
theorem dX7_copy_113 : decode cX7_copy 113 = .ok (.getfield 61, 3) := by decide +kernel
theorem dX7_copy_116 : decode cX7_copy 116 = .ok (.sipush 216, 3) := by decide +kernel
theorem dX7_copy_119 : decode cX7_copy 119 = .ok (.aload_n 0, 1) := by decide +kernel
theorem dX7_copy_120 : decode cX7_copy 120 = .ok (.getfield 123, 3) := by decide +kernel
theorem dX7_copy_123 : decode cX7_copy 123 = .ok (.imul, 1) := by decide +kernel
theorem dX7_copy_124 : decode cX7_copy 124 = .ok (.bipush 6, 2) := by decide +kernel
theorem dX7_copy_126 : decode cX7_copy 126 = .ok (.iload_n 2, 1) := by decide +kernel
theorem dX7_copy_127 : decode cX7_copy 127 = .ok (.imul, 1) := by decide +kernel
theorem dX7_copy_128 : decode cX7_copy 128 = .ok (.iadd, 1) := by decide +kernel
theorem dX7_copy_129 : decode cX7_copy 129 = .ok (.iload_n 3, 1) := by decide +kernel
theorem dX7_copy_130 : decode cX7_copy 130 = .ok (.iadd, 1) := by decide +kernel
theorem dX7_copy_131 : decode cX7_copy 131 = .ok (.aload_n 0, 1) := by decide +kernel
theorem dX7_copy_132 : decode cX7_copy 132 = .ok (.iload_n 1, 1) := by decide +kernel
theorem dX7_copy_133 : decode cX7_copy 133 = .ok (.iload_n 2, 1) := by decide +kernel
theorem dX7_copy_134 : decode cX7_copy 134 = .ok (.iload_n 3, 1) := by decide +kernel
theorem dX7_copy_135 : decode cX7_copy 135 = .ok (.invokevirtual 196, 3) := by decide +kernel
theorem dX7_copy_138 : decode cX7_copy 138 = .ok (.iastore, 1) := by decide +kernel
theorem dX7_copy_139 : decode cX7_copy 139 = .ok (.iinc 3 1, 3) := by decide +kernel
theorem dX7_copy_142 : decode cX7_copy 142 = .ok (.goto (-40), 3) := by decide +kernel
theorem dX7_copy_145 : decode cX7_copy 145 = .ok (.iinc 2 1, 3) := by decide +kernel
theorem dX7_copy_148 : decode cX7_copy 148 = .ok (.goto (-77), 3) := by decide +kernel
theorem dX7_copy_151 : decode cX7_copy 151 = .ok (.aload_n 0, 1) := by decide +kernel
theorem dX7_copy_152 : decode cX7_copy 152 = .ok (.dup, 1) := by decide +kernel
theorem dX7_copy_153 : decode cX7_copy 153 = .ok (.getfield 123, 3) := by decide +kernel
theorem dX7_copy_156 : decode cX7_copy 156 = .ok (.iconst 1, 1) := by decide +kernel
theorem dX7_copy_157 : decode cX7_copy 157 = .ok (.iadd, 1) := by decide +kernel
theorem dX7_copy_158 : decode cX7_copy 158 = .ok (.putfield 123, 3) := by decide +kernel
theorem dX7_copy_161 : decode cX7_copy 161 = .ok (.aload_n 0, 1) := by decide +kernel
theorem dX7_copy_162 : decode cX7_copy 162 = .ok (.getfield 123, 3) := by decide +kernel
theorem dX7_copy_165 : decode cX7_copy 165 = .ok (.iconst 1, 1) := by decide +kernel
theorem dX7_copy_166 : decode cX7_copy 166 = .ok (.isub, 1) := by decide +kernel
theorem dX7_copy_167 : decode cX7_copy 167 = .ok (.ireturn, 1) := by decide +kernel
theorem dX7_linksOf_0 : decode cX7_linksOf 0 = .ok (.iload_n 1, 1) := by decide +kernel
theorem dX7_linksOf_1 : decode cX7_linksOf 1 = .ok (.iconst (-1), 1) := by decide +kernel
theorem dX7_linksOf_2 : decode cX7_linksOf 2 = .ok (.if_icmp .ne 10, 3) := by decide +kernel
theorem dX7_linksOf_5 : decode cX7_linksOf 5 = .ok (.aload_n 0, 1) := by decide +kernel
theorem dX7_linksOf_6 : decode cX7_linksOf 6 = .ok (.getfield 86, 3) := by decide +kernel
theorem dX7_linksOf_9 : decode cX7_linksOf 9 = .ok (.goto 9, 3) := by decide +kernel
theorem dX7_linksOf_12 : decode cX7_linksOf 12 = .ok (.aload_n 0, 1) := by decide +kernel
theorem dX7_linksOf_13 : decode cX7_linksOf 13 = .ok (.getfield 67, 3) := by decide +kernel
theorem dX7_linksOf_16 : decode cX7_linksOf 16 = .ok (.iload_n 1, 1) := by decide +kernel
theorem dX7_linksOf_17 : decode cX7_linksOf 17 = .ok (.iaload, 1) := by decide +kernel
theorem dX7_linksOf_18 : decode cX7_linksOf 18 = .ok (.ireturn, 1) := by decide +kernel
theorem dX7_sizeOf_0 : decode cX7_sizeOf 0 = .ok (.iload_n 2, 1) := by decide +kernel
theorem dX7_sizeOf_1 : decode cX7_sizeOf 1 = .ok (.aload_n 0, 1) := by decide +kernel
theorem dX7_sizeOf_2 : decode cX7_sizeOf 2 = .ok (.iload_n 1, 1) := by decide +kernel
theorem dX7_sizeOf_3 : decode cX7_sizeOf 3 = .ok (.invokevirtual 190, 3) := by decide +kernel
theorem dX7_sizeOf_6 : decode cX7_sizeOf 6 = .ok (.if_icmp .lt 7, 3) := by decide +kernel
theorem dX7_sizeOf_9 : decode cX7_sizeOf 9 = .ok (.iconst 0, 1) := by decide +kernel
theorem dX7_sizeOf_10 : decode cX7_sizeOf 10 = .ok (.goto 28, 3) := by decide +kernel
theorem dX7_sizeOf_13 : decode cX7_sizeOf 13 = .ok (.iload_n 1, 1) := by decide +kernel
theorem dX7_sizeOf_14 : decode cX7_sizeOf 14 = .ok (.iconst (-1), 1) := by decide +kernel
theorem dX7_sizeOf_15 : decode cX7_sizeOf 15 = .ok (.if_icmp .ne 12, 3) := by decide +kernel
theorem dX7_sizeOf_18 : decode cX7_sizeOf 18 = .ok (.aload_n 0, 1) := by decide +kernel
theorem dX7_sizeOf_19 : decode cX7_sizeOf 19 = .ok (.getfield 26, 3) := by decide +kernel
theorem dX7_sizeOf_22 : decode cX7_sizeOf 22 = .ok (.iload_n 2, 1) := by decide +kernel
theorem dX7_sizeOf_23 : decode cX7_sizeOf 23 = .ok (.iaload, 1) := by decide +kernel
theorem dX7_sizeOf_24 : decode cX7_sizeOf 24 = .ok (.goto 14, 3) := by decide +kernel
theorem dX7_sizeOf_27 : decode cX7_sizeOf 27 = .ok (.aload_n 0, 1) := by decide +kernel
theorem dX7_sizeOf_28 : decode cX7_sizeOf 28 = .ok (.getfield 64, 3) := by decide +kernel
theorem dX7_sizeOf_31 : decode cX7_sizeOf 31 = .ok (.bipush 36, 2) := by decide +kernel
theorem dX7_sizeOf_33 : decode cX7_sizeOf 33 = .ok (.iload_n 1, 1) := by decide +kernel
theorem dX7_sizeOf_34 : decode cX7_sizeOf 34 = .ok (.imul, 1) := by decide +kernel
theorem dX7_sizeOf_35 : decode cX7_sizeOf 35 = .ok (.iload_n 2, 1) := by decide +kernel
theorem dX7_sizeOf_36 : decode cX7_sizeOf 36 = .ok (.iadd, 1) := by decide +kernel
theorem dX7_sizeOf_37 : decode cX7_sizeOf 37 = .ok (.iaload, 1) := by decide +kernel
theorem dX7_sizeOf_38 : decode cX7_sizeOf 38 = .ok (.ireturn, 1) := by decide +kernel
theorem dX7_wordOf_0 : decode cX7_wordOf 0 = .ok (.iload_n 1, 1) := by decide +kernel
theorem dX7_wordOf_1 : decode cX7_wordOf 1 = .ok (.iconst (-1), 1) := by decide +kernel
theorem dX7_wordOf_2 : decode cX7_wordOf 2 = .ok (.if_icmp .ne 17, 3) := by decide +kernel
theorem dX7_wordOf_5 : decode cX7_wordOf 5 = .ok (.aload_n 0, 1) := by decide +kernel
theorem dX7_wordOf_6 : decode cX7_wordOf 6 = .ok (.getfield 23, 3) := by decide +kernel
theorem dX7_wordOf_9 : decode cX7_wordOf 9 = .ok (.bipush 6, 2) := by decide +kernel
theorem dX7_wordOf_11 : decode cX7_wordOf 11 = .ok (.iload_n 2, 1) := by decide +kernel
theorem dX7_wordOf_12 : decode cX7_wordOf 12 = .ok (.imul, 1) := by decide +kernel
theorem dX7_wordOf_13 : decode cX7_wordOf 13 = .ok (.iload_n 3, 1) := by decide +kernel
theorem dX7_wordOf_14 : decode cX7_wordOf 14 = .ok (.iadd, 1) := by decide +kernel
theorem dX7_wordOf_15 : decode cX7_wordOf 15 = .ok (.iaload, 1) := by decide +kernel
theorem dX7_wordOf_16 : decode cX7_wordOf 16 = .ok (.goto 20, 3) := by decide +kernel
theorem dX7_wordOf_19 : decode cX7_wordOf 19 = .ok (.aload_n 0, 1) := by decide +kernel
theorem dX7_wordOf_20 : decode cX7_wordOf 20 = .ok (.getfield 61, 3) := by decide +kernel
theorem dX7_wordOf_23 : decode cX7_wordOf 23 = .ok (.sipush 216, 3) := by decide +kernel
theorem dX7_wordOf_26 : decode cX7_wordOf 26 = .ok (.iload_n 1, 1) := by decide +kernel
theorem dX7_wordOf_27 : decode cX7_wordOf 27 = .ok (.imul, 1) := by decide +kernel
theorem dX7_wordOf_28 : decode cX7_wordOf 28 = .ok (.bipush 6, 2) := by decide +kernel
theorem dX7_wordOf_30 : decode cX7_wordOf 30 = .ok (.iload_n 2, 1) := by decide +kernel
theorem dX7_wordOf_31 : decode cX7_wordOf 31 = .ok (.imul, 1) := by decide +kernel
theorem dX7_wordOf_32 : decode cX7_wordOf 32 = .ok (.iadd, 1) := by decide +kernel
theorem dX7_wordOf_33 : decode cX7_wordOf 33 = .ok (.iload_n 3, 1) := by decide +kernel
theorem dX7_wordOf_34 : decode cX7_wordOf 34 = .ok (.iadd, 1) := by decide +kernel
theorem dX7_wordOf_35 : decode cX7_wordOf 35 = .ok (.iaload, 1) := by decide +kernel
theorem dX7_wordOf_36 : decode cX7_wordOf 36 = .ok (.ireturn, 1) := by decide +kernel
theorem dX7_write_0 : decode cX7_write 0 = .ok (.iload_n 1, 1) := by decide +kernel
theorem dX7_write_1 : decode cX7_write 1 = .ok (.iconst 0, 1) := by decide +kernel
theorem dX7_write_2 : decode cX7_write 2 = .ok (.aload_n 0, 1) := by decide +kernel
theorem dX7_write_3 : decode cX7_write 3 = .ok (.getfield 123, 3) := by decide +kernel
theorem dX7_write_6 : decode cX7_write 6 = .ok (.iconst 1, 1) := by decide +kernel
theorem dX7_write_7 : decode cX7_write 7 = .ok (.isub, 1) := by decide +kernel
theorem dX7_write_8 : decode cX7_write 8 = .ok (.invokestatic 79, 3) := by decide +kernel
theorem dX7_write_11 : decode cX7_write 11 = .ok (.ifCond .eq 50, 3) := by decide +kernel
theorem dX7_write_14 : decode cX7_write 14 = .ok (.iload_n 2, 1) := by decide +kernel
theorem dX7_write_15 : decode cX7_write 15 = .ok (.iconst 0, 1) := by decide +kernel
theorem dX7_write_16 : decode cX7_write 16 = .ok (.aload_n 0, 1) := by decide +kernel
theorem dX7_write_17 : decode cX7_write 17 = .ok (.getfield 67, 3) := by decide +kernel
theorem dX7_write_20 : decode cX7_write 20 = .ok (.iload_n 1, 1) := by decide +kernel
theorem dX7_write_21 : decode cX7_write 21 = .ok (.iconst 0, 1) := by decide +kernel
theorem dX7_write_22 : decode cX7_write 22 = .ok (.aload_n 0, 1) := by decide +kernel
theorem dX7_write_23 : decode cX7_write 23 = .ok (.getfield 123, 3) := by decide +kernel
theorem dX7_write_26 : decode cX7_write 26 = .ok (.iconst 1, 1) := by decide +kernel
theorem dX7_write_27 : decode cX7_write 27 = .ok (.isub, 1) := by decide +kernel
theorem dX7_write_28 : decode cX7_write 28 = .ok (.invokestatic 79, 3) := by decide +kernel
theorem dX7_write_31 : decode cX7_write 31 = .ok (.ifCond .eq 7, 3) := by decide +kernel
theorem dX7_write_34 : decode cX7_write 34 = .ok (.iload_n 1, 1) := by decide +kernel
theorem dX7_write_35 : decode cX7_write 35 = .ok (.goto 4, 3) := by decide +kernel
theorem dX7_write_38 : decode cX7_write 38 = .ok (.iconst 0, 1) := by decide +kernel
theorem dX7_write_39 : decode cX7_write 39 = .ok (.iaload, 1) := by decide +kernel
theorem dX7_write_40 : decode cX7_write 40 = .ok (.iconst 1, 1) := by decide +kernel
theorem dX7_write_41 : decode cX7_write 41 = .ok (.isub, 1) := by decide +kernel
theorem dX7_write_42 : decode cX7_write 42 = .ok (.invokestatic 79, 3) := by decide +kernel
theorem dX7_write_45 : decode cX7_write 45 = .ok (.ifCond .eq 16, 3) := by decide +kernel
theorem dX7_write_48 : decode cX7_write 48 = .ok (.aload_n 0, 1) := by decide +kernel
theorem dX7_write_49 : decode cX7_write 49 = .ok (.iload 4, 2) := by decide +kernel
theorem dX7_write_51 : decode cX7_write 51 = .ok (.invokevirtual 96, 3) := by decide +kernel
theorem dX7_write_54 : decode cX7_write 54 = .ok (.ifCond .eq 7, 3) := by decide +kernel
theorem dX7_write_57 : decode cX7_write 57 = .ok (.iconst 1, 1) := by decide +kernel
theorem dX7_write_58 : decode cX7_write 58 = .ok (.goto 4, 3) := by decide +kernel
theorem dX7_write_61 : decode cX7_write 61 = .ok (.iconst 0, 1) := by decide +kernel
theorem dX7_write_62 : decode cX7_write 62 = .ok (.istore 5, 2) := by decide +kernel
theorem dX7_write_64 : decode cX7_write 64 = .ok (.aload_n 0, 1) := by decide +kernel
theorem dX7_write_65 : decode cX7_write 65 = .ok (.iload 5, 2) := by decide +kernel
theorem dX7_write_67 : decode cX7_write 67 = .ok (.ifCond .eq 23, 3) := by decide +kernel
theorem dX7_write_70 : decode cX7_write 70 = .ok (.iload_n 3, 1) := by decide +kernel
theorem dX7_write_71 : decode cX7_write 71 = .ok (.iconst 0, 1) := by decide +kernel
theorem dX7_write_72 : decode cX7_write 72 = .ok (.aload_n 0, 1) := by decide +kernel
theorem dX7_write_73 : decode cX7_write 73 = .ok (.iload_n 1, 1) := by decide +kernel
theorem dX7_write_74 : decode cX7_write 74 = .ok (.iload_n 2, 1) := by decide +kernel
theorem dX7_write_75 : decode cX7_write 75 = .ok (.invokevirtual 193, 3) := by decide +kernel
theorem dX7_write_78 : decode cX7_write 78 = .ok (.iconst 1, 1) := by decide +kernel
theorem dX7_write_79 : decode cX7_write 79 = .ok (.isub, 1) := by decide +kernel
theorem dX7_write_80 : decode cX7_write 80 = .ok (.invokestatic 79, 3) := by decide +kernel
theorem dX7_write_83 : decode cX7_write 83 = .ok (.ifCond .eq 7, 3) := by decide +kernel
theorem dX7_write_86 : decode cX7_write 86 = .ok (.iconst 1, 1) := by decide +kernel
theorem dX7_write_87 : decode cX7_write 87 = .ok (.goto 4, 3) := by decide +kernel
theorem dX7_write_90 : decode cX7_write 90 = .ok (.iconst 0, 1) := by decide +kernel
theorem dX7_write_91 : decode cX7_write 91 = .ok (.iconst 1, 1) := by decide +kernel
theorem dX7_write_92 : decode cX7_write 92 = .ok (.iconst 1, 1) := by decide +kernel
theorem dX7_write_93 : decode cX7_write 93 = .ok (.invokevirtual 92, 3) := by decide +kernel
theorem dX7_write_96 : decode cX7_write 96 = .ok (.ifCond .ne 5, 3) := by decide +kernel
theorem dX7_write_99 : decode cX7_write 99 = .ok (.iconst 0, 1) := by decide +kernel
theorem dX7_write_100 : decode cX7_write 100 = .ok (.ireturn, 1) := by decide +kernel
theorem dX7_write_101 : decode cX7_write 101 = .ok (.sipush 216, 3) := by decide +kernel
theorem dX7_write_104 : decode cX7_write 104 = .ok (.iload_n 1, 1) := by decide +kernel
theorem dX7_write_105 : decode cX7_write 105 = .ok (.imul, 1) := by decide +kernel
theorem dX7_write_106 : decode cX7_write 106 = .ok (.bipush 6, 2) := by decide +kernel
theorem dX7_write_108 : decode cX7_write 108 = .ok (.iload_n 2, 1) := by decide +kernel
theorem dX7_write_109 : decode cX7_write 109 = .ok (.imul, 1) := by decide +kernel
theorem dX7_write_110 : decode cX7_write 110 = .ok (.iadd, 1) := by decide +kernel
theorem dX7_write_111 : decode cX7_write 111 = .ok (.iload_n 3, 1) := by decide +kernel
theorem dX7_write_112 : decode cX7_write 112 = .ok (.iadd, 1) := by decide +kernel
theorem dX7_write_113 : decode cX7_write 113 = .ok (.istore 6, 2) := by decide +kernel
theorem dX7_write_115 : decode cX7_write 115 = .ok (.aload_n 0, 1) := by decide +kernel
theorem dX7_write_116 : decode cX7_write 116 = .ok (.getfield 61, 3) := by decide +kernel
theorem dX7_write_119 : decode cX7_write 119 = .ok (.iload 6, 2) := by decide +kernel
theorem dX7_write_121 : decode cX7_write 121 = .ok (.iaload, 1) := by decide +kernel
theorem dX7_write_122 : decode cX7_write 122 = .ok (.istore 7, 2) := by decide +kernel
theorem dX7_write_124 : decode cX7_write 124 = .ok (.aload_n 0, 1) := by decide +kernel
theorem dX7_write_125 : decode cX7_write 125 = .ok (.getfield 61, 3) := by decide +kernel
theorem dX7_write_128 : decode cX7_write 128 = .ok (.iload 6, 2) := by decide +kernel
theorem dX7_write_130 : decode cX7_write 130 = .ok (.iload 4, 2) := by decide +kernel
theorem dX7_write_132 : decode cX7_write 132 = .ok (.iastore, 1) := by decide +kernel
theorem dX7_write_133 : decode cX7_write 133 = .ok (.iload 7, 2) := by decide +kernel
theorem dX7_write_135 : decode cX7_write 135 = .ok (.ireturn, 1) := by decide +kernel
theorem dX7_hide_0 : decode cX7_hide 0 = .ok (.aload_n 0, 1) := by decide +kernel
theorem dX7_hide_1 : decode cX7_hide 1 = .ok (.aload_n 0, 1) := by decide +kernel
theorem dX7_hide_2 : decode cX7_hide 2 = .ok (.iload_n 1, 1) := by decide +kernel
theorem dX7_hide_3 : decode cX7_hide 3 = .ok (.invokevirtual 187, 3) := by decide +kernel
theorem dX7_hide_6 : decode cX7_hide 6 = .ok (.iconst 1, 1) := by decide +kernel
theorem dX7_hide_7 : decode cX7_hide 7 = .ok (.iconst 1, 1) := by decide +kernel
theorem dX7_hide_8 : decode cX7_hide 8 = .ok (.invokevirtual 92, 3) := by decide +kernel
theorem dX7_hide_11 : decode cX7_hide 11 = .ok (.ifCond .ne 5, 3) := by decide +kernel
theorem dX7_hide_14 : decode cX7_hide 14 = .ok (.iconst 0, 1) := by decide +kernel
theorem dX7_hide_15 : decode cX7_hide 15 = .ok (.ireturn, 1) := by decide +kernel
theorem dX7_hide_16 : decode cX7_hide 16 = .ok (.aload_n 0, 1) := by decide +kernel
theorem dX7_hide_17 : decode cX7_hide 17 = .ok (.getfield 35, 3) := by decide +kernel
theorem dX7_hide_20 : decode cX7_hide 20 = .ok (.iload_n 1, 1) := by decide +kernel
theorem dX7_hide_21 : decode cX7_hide 21 = .ok (.baload, 1) := by decide +kernel
theorem dX7_hide_22 : decode cX7_hide 22 = .ok (.istore_n 3, 1) := by decide +kernel
theorem dX7_hide_23 : decode cX7_hide 23 = .ok (.aload_n 0, 1) := by decide +kernel
theorem dX7_hide_24 : decode cX7_hide 24 = .ok (.getfield 35, 3) := by decide +kernel
theorem dX7_hide_27 : decode cX7_hide 27 = .ok (.iload_n 1, 1) := by decide +kernel
theorem dX7_hide_28 : decode cX7_hide 28 = .ok (.iload_n 2, 1) := by decide +kernel
theorem dX7_hide_29 : decode cX7_hide 29 = .ok (.bastore, 1) := by decide +kernel
theorem dX7_hide_30 : decode cX7_hide 30 = .ok (.iload_n 3, 1) := by decide +kernel
theorem dX7_hide_31 : decode cX7_hide 31 = .ok (.ireturn, 1) := by decide +kernel
theorem dX7_links_0 : decode cX7_links 0 = .ok (.aload_n 0, 1) := by decide +kernel
theorem dX7_links_1 : decode cX7_links 1 = .ok (.iconst 0, 1) := by decide +kernel
theorem dX7_links_2 : decode cX7_links 2 = .ok (.putfield 73, 3) := by decide +kernel
theorem dX7_links_5 : decode cX7_links 5 = .ok (.aload_n 0, 1) := by decide +kernel
theorem dX7_links_6 : decode cX7_links 6 = .ok (.getfield 103, 3) := by decide +kernel
theorem dX7_links_9 : decode cX7_links 9 = .ok (.ifCond .eq 10, 3) := by decide +kernel
theorem dX7_links_12 : decode cX7_links 12 = .ok (.aload_n 0, 1) := by decide +kernel
theorem dX7_links_13 : decode cX7_links 13 = .ok (.getfield 86, 3) := by decide +kernel
theorem dX7_links_16 : decode cX7_links 16 = .ok (.goto 4, 3) := by decide +kernel
theorem dX7_links_19 : decode cX7_links 19 = .ok (.iconst 0, 1) := by decide +kernel
theorem dX7_links_20 : decode cX7_links 20 = .ok (.ireturn, 1) := by decide +kernel
theorem dX7_offers_0 : decode cX7_offers 0 = .ok (.aload_n 0, 1) := by decide +kernel
theorem dX7_offers_1 : decode cX7_offers 1 = .ok (.iconst 0, 1) := by decide +kernel
theorem dX7_offers_2 : decode cX7_offers 2 = .ok (.putfield 73, 3) := by decide +kernel
theorem dX7_offers_5 : decode cX7_offers 5 = .ok (.aload_n 0, 1) := by decide +kernel
theorem dX7_offers_6 : decode cX7_offers 6 = .ok (.getfield 120, 3) := by decide +kernel
theorem dX7_offers_9 : decode cX7_offers 9 = .ok (.ireturn, 1) := by decide +kernel
theorem dX7_ofLink_0 : decode cX7_ofLink 0 = .ok (.aload_n 0, 1) := by decide +kernel
theorem dX7_ofLink_1 : decode cX7_ofLink 1 = .ok (.aload_n 0, 1) := by decide +kernel
theorem dX7_ofLink_2 : decode cX7_ofLink 2 = .ok (.iload_n 1, 1) := by decide +kernel
theorem dX7_ofLink_3 : decode cX7_ofLink 3 = .ok (.invokevirtual 187, 3) := by decide +kernel
theorem dX7_ofLink_6 : decode cX7_ofLink 6 = .ok (.iload_n 2, 1) := by decide +kernel
theorem dX7_ofLink_7 : decode cX7_ofLink 7 = .ok (.iconst 0, 1) := by decide +kernel
theorem dX7_ofLink_8 : decode cX7_ofLink 8 = .ok (.iconst 5, 1) := by decide +kernel
theorem dX7_ofLink_9 : decode cX7_ofLink 9 = .ok (.invokestatic 79, 3) := by decide +kernel
theorem dX7_ofLink_12 : decode cX7_ofLink 12 = .ok (.iconst 1, 1) := by decide +kernel
theorem dX7_ofLink_13 : decode cX7_ofLink 13 = .ok (.invokevirtual 92, 3) := by decide +kernel
theorem dX7_ofLink_16 : decode cX7_ofLink 16 = .ok (.ifCond .ne 5, 3) := by decide +kernel
theorem dX7_ofLink_19 : decode cX7_ofLink 19 = .ok (.iconst 0, 1) := by decide +kernel
theorem dX7_ofLink_20 : decode cX7_ofLink 20 = .ok (.ireturn, 1) := by decide +kernel
theorem dX7_ofLink_21 : decode cX7_ofLink 21 = .ok (.iload_n 2, 1) := by decide +kernel
theorem dX7_ofLink_22 : decode cX7_ofLink 22 = .ok (.tableswitch 79 0 4 #[34, 54, 60, 66, 73], 34) := by decide +kernel
theorem dX7_ofLink_56 : decode cX7_ofLink 56 = .ok (.aload_n 0, 1) := by decide +kernel
theorem dX7_ofLink_57 : decode cX7_ofLink 57 = .ok (.getfield 35, 3) := by decide +kernel
theorem dX7_ofLink_60 : decode cX7_ofLink 60 = .ok (.iload_n 1, 1) := by decide +kernel
theorem dX7_ofLink_61 : decode cX7_ofLink 61 = .ok (.baload, 1) := by decide +kernel
theorem dX7_ofLink_62 : decode cX7_ofLink 62 = .ok (.ifCond .eq 7, 3) := by decide +kernel
theorem dX7_ofLink_65 : decode cX7_ofLink 65 = .ok (.iconst (-1), 1) := by decide +kernel
theorem dX7_ofLink_66 : decode cX7_ofLink 66 = .ok (.goto 9, 3) := by decide +kernel
theorem dX7_ofLink_69 : decode cX7_ofLink 69 = .ok (.aload_n 0, 1) := by decide +kernel
theorem dX7_ofLink_70 : decode cX7_ofLink 70 = .ok (.getfield 29, 3) := by decide +kernel
theorem dX7_ofLink_73 : decode cX7_ofLink 73 = .ok (.iload_n 1, 1) := by decide +kernel
theorem dX7_ofLink_74 : decode cX7_ofLink 74 = .ok (.iaload, 1) := by decide +kernel
theorem dX7_ofLink_75 : decode cX7_ofLink 75 = .ok (.ireturn, 1) := by decide +kernel
theorem dX7_ofLink_76 : decode cX7_ofLink 76 = .ok (.aload_n 0, 1) := by decide +kernel
theorem dX7_ofLink_77 : decode cX7_ofLink 77 = .ok (.iload_n 1, 1) := by decide +kernel
theorem dX7_ofLink_78 : decode cX7_ofLink 78 = .ok (.invokevirtual 129, 3) := by decide +kernel
theorem dX7_ofLink_81 : decode cX7_ofLink 81 = .ok (.ireturn, 1) := by decide +kernel
theorem dX7_ofLink_82 : decode cX7_ofLink 82 = .ok (.aload_n 0, 1) := by decide +kernel
theorem dX7_ofLink_83 : decode cX7_ofLink 83 = .ok (.iload_n 1, 1) := by decide +kernel
theorem dX7_ofLink_84 : decode cX7_ofLink 84 = .ok (.invokevirtual 143, 3) := by decide +kernel
theorem dX7_ofLink_87 : decode cX7_ofLink 87 = .ok (.ireturn, 1) := by decide +kernel
theorem dX7_ofLink_88 : decode cX7_ofLink 88 = .ok (.aload_n 0, 1) := by decide +kernel
theorem dX7_ofLink_89 : decode cX7_ofLink 89 = .ok (.getfield 26, 3) := by decide +kernel
theorem dX7_ofLink_92 : decode cX7_ofLink 92 = .ok (.iload_n 1, 1) := by decide +kernel
theorem dX7_ofLink_93 : decode cX7_ofLink 93 = .ok (.iaload, 1) := by decide +kernel
theorem dX7_ofLink_94 : decode cX7_ofLink 94 = .ok (.ireturn, 1) := by decide +kernel
theorem dX7_ofLink_95 : decode cX7_ofLink 95 = .ok (.aload_n 0, 1) := by decide +kernel
theorem dX7_ofLink_96 : decode cX7_ofLink 96 = .ok (.iload_n 1, 1) := by decide +kernel
theorem dX7_ofLink_97 : decode cX7_ofLink 97 = .ok (.invokevirtual 146, 3) := by decide +kernel
theorem dX7_ofLink_100 : decode cX7_ofLink 100 = .ok (.ireturn, 1) := by decide +kernel
theorem dX7_ofLink_101 : decode cX7_ofLink 101 = .ok (.aload_n 0, 1) := by decide +kernel
theorem dX7_ofLink_102 : decode cX7_ofLink 102 = .ok (.getfield 39, 3) := by decide +kernel
theorem dX7_ofLink_105 : decode cX7_ofLink 105 = .ok (.iload_n 1, 1) := by decide +kernel
theorem dX7_ofLink_106 : decode cX7_ofLink 106 = .ok (.baload, 1) := by decide +kernel
theorem dX7_ofLink_107 : decode cX7_ofLink 107 = .ok (.ifCond .eq 7, 3) := by decide +kernel
theorem dX7_ofLink_110 : decode cX7_ofLink 110 = .ok (.iconst 1, 1) := by decide +kernel
theorem dX7_ofLink_111 : decode cX7_ofLink 111 = .ok (.goto 4, 3) := by decide +kernel
theorem dX7_ofLink_114 : decode cX7_ofLink 114 = .ok (.iconst 0, 1) := by decide +kernel
theorem dX7_ofLink_115 : decode cX7_ofLink 115 = .ok (.ireturn, 1) := by decide +kernel
theorem dX7_wordAt_0 : decode cX7_wordAt 0 = .ok (.aload_n 0, 1) := by decide +kernel
theorem dX7_wordAt_1 : decode cX7_wordAt 1 = .ok (.iload_n 1, 1) := by decide +kernel
theorem dX7_wordAt_2 : decode cX7_wordAt 2 = .ok (.invokevirtual 187, 3) := by decide +kernel
theorem dX7_wordAt_5 : decode cX7_wordAt 5 = .ok (.ifCond .eq 35, 3) := by decide +kernel
theorem dX7_wordAt_8 : decode cX7_wordAt 8 = .ok (.iload_n 2, 1) := by decide +kernel
theorem dX7_wordAt_9 : decode cX7_wordAt 9 = .ok (.iconst 0, 1) := by decide +kernel
theorem dX7_wordAt_10 : decode cX7_wordAt 10 = .ok (.aload_n 0, 1) := by decide +kernel
theorem dX7_wordAt_11 : decode cX7_wordAt 11 = .ok (.getfield 26, 3) := by decide +kernel
theorem dX7_wordAt_14 : decode cX7_wordAt 14 = .ok (.aload_n 0, 1) := by decide +kernel
theorem dX7_wordAt_15 : decode cX7_wordAt 15 = .ok (.iload_n 1, 1) := by decide +kernel
theorem dX7_wordAt_16 : decode cX7_wordAt 16 = .ok (.invokevirtual 187, 3) := by decide +kernel
theorem dX7_wordAt_19 : decode cX7_wordAt 19 = .ok (.ifCond .eq 7, 3) := by decide +kernel
theorem dX7_wordAt_22 : decode cX7_wordAt 22 = .ok (.iload_n 1, 1) := by decide +kernel
theorem dX7_wordAt_23 : decode cX7_wordAt 23 = .ok (.goto 4, 3) := by decide +kernel
theorem dX7_wordAt_26 : decode cX7_wordAt 26 = .ok (.iconst 0, 1) := by decide +kernel
theorem dX7_wordAt_27 : decode cX7_wordAt 27 = .ok (.iaload, 1) := by decide +kernel
theorem dX7_wordAt_28 : decode cX7_wordAt 28 = .ok (.iconst 1, 1) := by decide +kernel
theorem dX7_wordAt_29 : decode cX7_wordAt 29 = .ok (.isub, 1) := by decide +kernel
theorem dX7_wordAt_30 : decode cX7_wordAt 30 = .ok (.invokestatic 79, 3) := by decide +kernel
theorem dX7_wordAt_33 : decode cX7_wordAt 33 = .ok (.ifCond .eq 7, 3) := by decide +kernel
theorem dX7_wordAt_36 : decode cX7_wordAt 36 = .ok (.iconst 1, 1) := by decide +kernel
theorem dX7_wordAt_37 : decode cX7_wordAt 37 = .ok (.goto 4, 3) := by decide +kernel
theorem dX7_wordAt_40 : decode cX7_wordAt 40 = .ok (.iconst 0, 1) := by decide +kernel
theorem dX7_wordAt_41 : decode cX7_wordAt 41 = .ok (.istore_n 3, 1) := by decide +kernel
theorem dX7_wordAt_42 : decode cX7_wordAt 42 = .ok (.aload_n 0, 1) := by decide +kernel
theorem dX7_wordAt_43 : decode cX7_wordAt 43 = .ok (.iload_n 3, 1) := by decide +kernel
theorem dX7_wordAt_44 : decode cX7_wordAt 44 = .ok (.iconst 1, 1) := by decide +kernel
theorem dX7_wordAt_45 : decode cX7_wordAt 45 = .ok (.iconst 1, 1) := by decide +kernel
theorem dX7_wordAt_46 : decode cX7_wordAt 46 = .ok (.invokevirtual 92, 3) := by decide +kernel
theorem dX7_wordAt_49 : decode cX7_wordAt 49 = .ok (.ifCond .eq 17, 3) := by decide +kernel
theorem dX7_wordAt_52 : decode cX7_wordAt 52 = .ok (.aload_n 0, 1) := by decide +kernel
theorem dX7_wordAt_53 : decode cX7_wordAt 53 = .ok (.getfield 23, 3) := by decide +kernel
theorem dX7_wordAt_56 : decode cX7_wordAt 56 = .ok (.bipush 6, 2) := by decide +kernel
theorem dX7_wordAt_58 : decode cX7_wordAt 58 = .ok (.iload_n 1, 1) := by decide +kernel
theorem dX7_wordAt_59 : decode cX7_wordAt 59 = .ok (.imul, 1) := by decide +kernel
theorem dX7_wordAt_60 : decode cX7_wordAt 60 = .ok (.iload_n 2, 1) := by decide +kernel
theorem dX7_wordAt_61 : decode cX7_wordAt 61 = .ok (.iadd, 1) := by decide +kernel
theorem dX7_wordAt_62 : decode cX7_wordAt 62 = .ok (.iaload, 1) := by decide +kernel
theorem dX7_wordAt_63 : decode cX7_wordAt 63 = .ok (.goto 4, 3) := by decide +kernel
theorem dX7_wordAt_66 : decode cX7_wordAt 66 = .ok (.iconst 0, 1) := by decide +kernel
theorem dX7_wordAt_67 : decode cX7_wordAt 67 = .ok (.ireturn, 1) := by decide +kernel
theorem dX7_faultAnew_0 : decode cX7_faultAnew 0 = .ok (.aload_n 0, 1) := by decide +kernel
theorem dX7_faultAnew_1 : decode cX7_faultAnew 1 = .ok (.aload_n 0, 1) := by decide +kernel
theorem dX7_faultAnew_2 : decode cX7_faultAnew 2 = .ok (.iload_n 1, 1) := by decide +kernel
theorem dX7_faultAnew_3 : decode cX7_faultAnew 3 = .ok (.invokevirtual 187, 3) := by decide +kernel
theorem dX7_faultAnew_6 : decode cX7_faultAnew 6 = .ok (.iconst 1, 1) := by decide +kernel
theorem dX7_faultAnew_7 : decode cX7_faultAnew 7 = .ok (.iconst 1, 1) := by decide +kernel
theorem dX7_faultAnew_8 : decode cX7_faultAnew 8 = .ok (.invokevirtual 92, 3) := by decide +kernel
theorem dX7_faultAnew_11 : decode cX7_faultAnew 11 = .ok (.ifCond .ne 5, 3) := by decide +kernel
theorem dX7_faultAnew_14 : decode cX7_faultAnew 14 = .ok (.iconst 0, 1) := by decide +kernel
theorem dX7_faultAnew_15 : decode cX7_faultAnew 15 = .ok (.ireturn, 1) := by decide +kernel
theorem dX7_faultAnew_16 : decode cX7_faultAnew 16 = .ok (.aload_n 0, 1) := by decide +kernel
theorem dX7_faultAnew_17 : decode cX7_faultAnew 17 = .ok (.iload_n 1, 1) := by decide +kernel
theorem dX7_faultAnew_18 : decode cX7_faultAnew 18 = .ok (.invokevirtual 183, 3) := by decide +kernel
theorem dX7_faultAnew_21 : decode cX7_faultAnew 21 = .ok (.aload_n 0, 1) := by decide +kernel
theorem dX7_faultAnew_22 : decode cX7_faultAnew 22 = .ok (.iload_n 1, 1) := by decide +kernel
theorem dX7_faultAnew_23 : decode cX7_faultAnew 23 = .ok (.aload_n 0, 1) := by decide +kernel
theorem dX7_faultAnew_24 : decode cX7_faultAnew 24 = .ok (.getfield 29, 3) := by decide +kernel
theorem dX7_faultAnew_27 : decode cX7_faultAnew 27 = .ok (.iload_n 1, 1) := by decide +kernel
theorem dX7_faultAnew_28 : decode cX7_faultAnew 28 = .ok (.iaload, 1) := by decide +kernel
theorem dX7_faultAnew_29 : decode cX7_faultAnew 29 = .ok (.invokevirtual 179, 3) := by decide +kernel
theorem dX7_faultAnew_32 : decode cX7_faultAnew 32 = .ok (.ireturn, 1) := by decide +kernel
theorem dX7_chances_0 : decode cX7_chances 0 = .ok (.aload_n 0, 1) := by decide +kernel
theorem dX7_chances_1 : decode cX7_chances 1 = .ok (.aload_n 0, 1) := by decide +kernel
theorem dX7_chances_2 : decode cX7_chances 2 = .ok (.iload_n 1, 1) := by decide +kernel
theorem dX7_chances_3 : decode cX7_chances 3 = .ok (.invokevirtual 176, 3) := by decide +kernel
theorem dX7_chances_6 : decode cX7_chances 6 = .ok (.iconst 1, 1) := by decide +kernel
theorem dX7_chances_7 : decode cX7_chances 7 = .ok (.iconst 1, 1) := by decide +kernel
theorem dX7_chances_8 : decode cX7_chances 8 = .ok (.invokevirtual 92, 3) := by decide +kernel
theorem dX7_chances_11 : decode cX7_chances 11 = .ok (.ifCond .eq 17, 3) := by decide +kernel
theorem dX7_chances_14 : decode cX7_chances 14 = .ok (.aload_n 0, 1) := by decide +kernel
theorem dX7_chances_15 : decode cX7_chances 15 = .ok (.getfield 103, 3) := by decide +kernel
theorem dX7_chances_18 : decode cX7_chances 18 = .ok (.ifCond .eq 10, 3) := by decide +kernel
theorem dX7_chances_21 : decode cX7_chances 21 = .ok (.aload_n 0, 1) := by decide +kernel
theorem dX7_chances_22 : decode cX7_chances 22 = .ok (.invokevirtual 107, 3) := by decide +kernel
theorem dX7_chances_25 : decode cX7_chances 25 = .ok (.ifCond .eq 5, 3) := by decide +kernel
theorem dX7_chances_28 : decode cX7_chances 28 = .ok (.iconst 0, 1) := by decide +kernel
theorem dX7_chances_29 : decode cX7_chances 29 = .ok (.ireturn, 1) := by decide +kernel
theorem dX7_chances_30 : decode cX7_chances 30 = .ok (.iconst 0, 1) := by decide +kernel
theorem dX7_chances_31 : decode cX7_chances 31 = .ok (.istore_n 2, 1) := by decide +kernel
theorem dX7_chances_32 : decode cX7_chances 32 = .ok (.iconst 0, 1) := by decide +kernel
theorem dX7_chances_33 : decode cX7_chances 33 = .ok (.istore_n 3, 1) := by decide +kernel
theorem dX7_chances_34 : decode cX7_chances 34 = .ok (.iload_n 3, 1) := by decide +kernel
theorem dX7_chances_35 : decode cX7_chances 35 = .ok (.aload_n 0, 1) := by decide +kernel
theorem dX7_chances_36 : decode cX7_chances 36 = .ok (.getfield 76, 3) := by decide +kernel
theorem dX7_chances_39 : decode cX7_chances 39 = .ok (.if_icmp .ge 92, 3) := by decide +kernel
theorem dX7_chances_42 : decode cX7_chances 42 = .ok (.aload_n 0, 1) := by decide +kernel
theorem dX7_chances_43 : decode cX7_chances 43 = .ok (.getfield 70, 3) := by decide +kernel
theorem dX7_chances_46 : decode cX7_chances 46 = .ok (.iconst 0, 1) := by decide +kernel
theorem dX7_chances_47 : decode cX7_chances 47 = .ok (.iload_n 3, 1) := by decide +kernel
theorem dX7_chances_48 : decode cX7_chances 48 = .ok (.iastore, 1) := by decide +kernel
theorem dX7_chances_49 : decode cX7_chances 49 = .ok (.aload_n 0, 1) := by decide +kernel
theorem dX7_chances_50 : decode cX7_chances 50 = .ok (.iconst 1, 1) := by decide +kernel
theorem dX7_chances_51 : decode cX7_chances 51 = .ok (.putfield 133, 3) := by decide +kernel
theorem dX7_chances_54 : decode cX7_chances 54 = .ok (.iload_n 2, 1) := by decide +kernel
theorem dX7_chances_55 : decode cX7_chances 55 = .ok (.aload_n 0, 1) := by decide +kernel
theorem dX7_chances_56 : decode cX7_chances 56 = .ok (.aload_n 0, 1) := by decide +kernel
theorem dX7_chances_57 : decode cX7_chances 57 = .ok (.getfield 86, 3) := by decide +kernel
theorem dX7_chances_60 : decode cX7_chances 60 = .ok (.iload_n 1, 1) := by decide +kernel
theorem dX7_chances_61 : decode cX7_chances 61 = .ok (.invokevirtual 179, 3) := by decide +kernel
theorem dX7_chances_64 : decode cX7_chances 64 = .ok (.ifCond .ne 7, 3) := by decide +kernel
theorem dX7_chances_67 : decode cX7_chances 67 = .ok (.iconst 1, 1) := by decide +kernel
theorem dX7_chances_68 : decode cX7_chances 68 = .ok (.goto 4, 3) := by decide +kernel
theorem dX7_chances_71 : decode cX7_chances 71 = .ok (.iconst 0, 1) := by decide +kernel
theorem dX7_chances_72 : decode cX7_chances 72 = .ok (.iadd, 1) := by decide +kernel
theorem dX7_chances_73 : decode cX7_chances 73 = .ok (.istore_n 2, 1) := by decide +kernel
theorem dX7_chances_74 : decode cX7_chances 74 = .ok (.aload_n 0, 1) := by decide +kernel
theorem dX7_chances_75 : decode cX7_chances 75 = .ok (.iconst 2, 1) := by decide +kernel
theorem dX7_chances_76 : decode cX7_chances 76 = .ok (.putfield 133, 3) := by decide +kernel
theorem dX7_chances_79 : decode cX7_chances 79 = .ok (.iconst 0, 1) := by decide +kernel
theorem dX7_chances_80 : decode cX7_chances 80 = .ok (.istore 4, 2) := by decide +kernel
theorem dX7_chances_82 : decode cX7_chances 82 = .ok (.iload 4, 2) := by decide +kernel
theorem dX7_chances_84 : decode cX7_chances 84 = .ok (.aload_n 0, 1) := by decide +kernel
theorem dX7_chances_85 : decode cX7_chances 85 = .ok (.getfield 76, 3) := by decide +kernel
theorem dX7_chances_88 : decode cX7_chances 88 = .ok (.if_icmp .ge 37, 3) := by decide +kernel
theorem dX7_chances_91 : decode cX7_chances 91 = .ok (.aload_n 0, 1) := by decide +kernel
theorem dX7_chances_92 : decode cX7_chances 92 = .ok (.getfield 70, 3) := by decide +kernel
theorem dX7_chances_95 : decode cX7_chances 95 = .ok (.iconst 1, 1) := by decide +kernel
theorem dX7_chances_96 : decode cX7_chances 96 = .ok (.iload 4, 2) := by decide +kernel
theorem dX7_chances_98 : decode cX7_chances 98 = .ok (.iastore, 1) := by decide +kernel
theorem dX7_chances_99 : decode cX7_chances 99 = .ok (.iload_n 2, 1) := by decide +kernel
theorem dX7_chances_100 : decode cX7_chances 100 = .ok (.aload_n 0, 1) := by decide +kernel
theorem dX7_chances_101 : decode cX7_chances 101 = .ok (.aload_n 0, 1) := by decide +kernel
theorem dX7_chances_102 : decode cX7_chances 102 = .ok (.getfield 86, 3) := by decide +kernel
theorem dX7_chances_105 : decode cX7_chances 105 = .ok (.iload_n 1, 1) := by decide +kernel
theorem dX7_chances_106 : decode cX7_chances 106 = .ok (.invokevirtual 179, 3) := by decide +kernel
theorem dX7_chances_109 : decode cX7_chances 109 = .ok (.ifCond .ne 7, 3) := by decide +kernel
theorem dX7_chances_112 : decode cX7_chances 112 = .ok (.iconst 1, 1) := by decide +kernel
theorem dX7_chances_113 : decode cX7_chances 113 = .ok (.goto 4, 3) := by decide +kernel
theorem dX7_chances_116 : decode cX7_chances 116 = .ok (.iconst 0, 1) := by decide +kernel
theorem dX7_chances_117 : decode cX7_chances 117 = .ok (.iadd, 1) := by decide +kernel
theorem dX7_chances_118 : decode cX7_chances 118 = .ok (.istore_n 2, 1) := by decide +kernel
theorem dX7_chances_119 : decode cX7_chances 119 = .ok (.iinc 4 1, 3) := by decide +kernel
theorem dX7_chances_122 : decode cX7_chances 122 = .ok (.goto (-40), 3) := by decide +kernel
theorem dX7_chances_125 : decode cX7_chances 125 = .ok (.iinc 3 1, 3) := by decide +kernel
theorem dX7_chances_128 : decode cX7_chances 128 = .ok (.goto (-94), 3) := by decide +kernel
theorem dX7_chances_131 : decode cX7_chances 131 = .ok (.iload_n 2, 1) := by decide +kernel
theorem dX7_chances_132 : decode cX7_chances 132 = .ok (.ireturn, 1) := by decide +kernel
theorem dX7_prize_0 : decode cX7_prize 0 = .ok (.aload_n 0, 1) := by decide +kernel
theorem dX7_prize_1 : decode cX7_prize 1 = .ok (.iconst 0, 1) := by decide +kernel
theorem dX7_prize_2 : decode cX7_prize 2 = .ok (.putfield 73, 3) := by decide +kernel
theorem dX7_prize_5 : decode cX7_prize 5 = .ok (.iconst (-1), 1) := by decide +kernel
theorem dX7_prize_6 : decode cX7_prize 6 = .ok (.istore_n 1, 1) := by decide +kernel
theorem dX7_prize_7 : decode cX7_prize 7 = .ok (.iconst 0, 1) := by decide +kernel
theorem dX7_prize_8 : decode cX7_prize 8 = .ok (.istore_n 2, 1) := by decide +kernel
theorem dX7_prize_9 : decode cX7_prize 9 = .ok (.iconst 1, 1) := by decide +kernel
theorem dX7_prize_10 : decode cX7_prize 10 = .ok (.istore_n 3, 1) := by decide +kernel
theorem dX7_prize_11 : decode cX7_prize 11 = .ok (.iconst 0, 1) := by decide +kernel
theorem dX7_prize_12 : decode cX7_prize 12 = .ok (.istore 4, 2) := by decide +kernel
theorem dX7_prize_14 : decode cX7_prize 14 = .ok (.iload 4, 2) := by decide +kernel
theorem dX7_prize_16 : decode cX7_prize 16 = .ok (.aload_n 0, 1) := by decide +kernel
theorem dX7_prize_17 : decode cX7_prize 17 = .ok (.getfield 83, 3) := by decide +kernel
theorem dX7_prize_20 : decode cX7_prize 20 = .ok (.if_icmp .ge 132, 3) := by decide +kernel
theorem dX7_prize_23 : decode cX7_prize 23 = .ok (.iconst 0, 1) := by decide +kernel
theorem dX7_prize_24 : decode cX7_prize 24 = .ok (.istore 5, 2) := by decide +kernel
theorem dX7_prize_26 : decode cX7_prize 26 = .ok (.iconst 0, 1) := by decide +kernel
theorem dX7_prize_27 : decode cX7_prize 27 = .ok (.istore 6, 2) := by decide +kernel
theorem dX7_prize_29 : decode cX7_prize 29 = .ok (.iconst 0, 1) := by decide +kernel
theorem dX7_prize_30 : decode cX7_prize 30 = .ok (.istore 7, 2) := by decide +kernel
theorem dX7_prize_32 : decode cX7_prize 32 = .ok (.iload 7, 2) := by decide +kernel
theorem dX7_prize_34 : decode cX7_prize 34 = .ok (.sipush 144, 3) := by decide +kernel
theorem dX7_prize_37 : decode cX7_prize 37 = .ok (.if_icmp .ge 79, 3) := by decide +kernel
theorem dX7_prize_40 : decode cX7_prize 40 = .ok (.aload_n 0, 1) := by decide +kernel
theorem dX7_prize_41 : decode cX7_prize 41 = .ok (.getfield 42, 3) := by decide +kernel
theorem dX7_prize_44 : decode cX7_prize 44 = .ok (.iload 7, 2) := by decide +kernel
theorem dX7_prize_46 : decode cX7_prize 46 = .ok (.iaload, 1) := by decide +kernel
theorem dX7_prize_47 : decode cX7_prize 47 = .ok (.ifCond .le 22, 3) := by decide +kernel
theorem dX7_prize_50 : decode cX7_prize 50 = .ok (.aload_n 0, 1) := by decide +kernel
theorem dX7_prize_51 : decode cX7_prize 51 = .ok (.getfield 29, 3) := by decide +kernel
theorem dX7_prize_54 : decode cX7_prize 54 = .ok (.iload 7, 2) := by decide +kernel
theorem dX7_prize_56 : decode cX7_prize 56 = .ok (.bipush 36, 2) := by decide +kernel
theorem dX7_prize_58 : decode cX7_prize 58 = .ok (.irem, 1) := by decide +kernel
theorem dX7_prize_59 : decode cX7_prize 59 = .ok (.iaload, 1) := by decide +kernel
theorem dX7_prize_60 : decode cX7_prize 60 = .ok (.iload 4, 2) := by decide +kernel
theorem dX7_prize_62 : decode cX7_prize 62 = .ok (.if_icmp .ne 7, 3) := by decide +kernel
theorem dX7_prize_65 : decode cX7_prize 65 = .ok (.iconst 1, 1) := by decide +kernel
theorem dX7_prize_66 : decode cX7_prize 66 = .ok (.goto 4, 3) := by decide +kernel
theorem dX7_prize_69 : decode cX7_prize 69 = .ok (.iconst 0, 1) := by decide +kernel
theorem dX7_prize_70 : decode cX7_prize 70 = .ok (.istore 8, 2) := by decide +kernel
theorem dX7_prize_72 : decode cX7_prize 72 = .ok (.iload 5, 2) := by decide +kernel
theorem dX7_prize_74 : decode cX7_prize 74 = .ok (.iload 8, 2) := by decide +kernel
theorem dX7_prize_76 : decode cX7_prize 76 = .ok (.ifCond .eq 15, 3) := by decide +kernel
theorem dX7_prize_79 : decode cX7_prize 79 = .ok (.aload_n 0, 1) := by decide +kernel
theorem dX7_prize_80 : decode cX7_prize 80 = .ok (.getfield 42, 3) := by decide +kernel
theorem dX7_prize_83 : decode cX7_prize 83 = .ok (.iload 7, 2) := by decide +kernel
theorem dX7_prize_85 : decode cX7_prize 85 = .ok (.iaload, 1) := by decide +kernel
theorem dX7_prize_86 : decode cX7_prize 86 = .ok (.iconst 1, 1) := by decide +kernel
theorem dX7_prize_87 : decode cX7_prize 87 = .ok (.isub, 1) := by decide +kernel
theorem dX7_prize_88 : decode cX7_prize 88 = .ok (.goto 4, 3) := by decide +kernel
theorem dX7_prize_91 : decode cX7_prize 91 = .ok (.iconst 0, 1) := by decide +kernel
theorem dX7_prize_92 : decode cX7_prize 92 = .ok (.iadd, 1) := by decide +kernel
theorem dX7_prize_93 : decode cX7_prize 93 = .ok (.istore 5, 2) := by decide +kernel
theorem dX7_prize_95 : decode cX7_prize 95 = .ok (.iload 6, 2) := by decide +kernel
theorem dX7_prize_97 : decode cX7_prize 97 = .ok (.iload 8, 2) := by decide +kernel
theorem dX7_prize_99 : decode cX7_prize 99 = .ok (.ifCond .eq 7, 3) := by decide +kernel
theorem dX7_prize_102 : decode cX7_prize 102 = .ok (.iconst 1, 1) := by decide +kernel
theorem dX7_prize_103 : decode cX7_prize 103 = .ok (.goto 4, 3) := by decide +kernel
theorem dX7_prize_106 : decode cX7_prize 106 = .ok (.iconst 0, 1) := by decide +kernel
theorem dX7_prize_107 : decode cX7_prize 107 = .ok (.iadd, 1) := by decide +kernel
theorem dX7_prize_108 : decode cX7_prize 108 = .ok (.istore 6, 2) := by decide +kernel
theorem dX7_prize_110 : decode cX7_prize 110 = .ok (.iinc 7 1, 3) := by decide +kernel
theorem dX7_prize_113 : decode cX7_prize 113 = .ok (.goto (-81), 3) := by decide +kernel
theorem dX7_prize_116 : decode cX7_prize 116 = .ok (.iload 6, 2) := by decide +kernel
theorem dX7_prize_118 : decode cX7_prize 118 = .ok (.ifCond .le 28, 3) := by decide +kernel
theorem dX7_prize_121 : decode cX7_prize 121 = .ok (.iload_n 1, 1) := by decide +kernel
theorem dX7_prize_122 : decode cX7_prize 122 = .ok (.iconst (-1), 1) := by decide +kernel
theorem dX7_prize_123 : decode cX7_prize 123 = .ok (.if_icmp .eq 14, 3) := by decide +kernel
theorem dX7_prize_126 : decode cX7_prize 126 = .ok (.iload 5, 2) := by decide +kernel
theorem dX7_prize_128 : decode cX7_prize 128 = .ok (.iload_n 3, 1) := by decide +kernel
theorem dX7_prize_129 : decode cX7_prize 129 = .ok (.imul, 1) := by decide +kernel
theorem dX7_prize_130 : decode cX7_prize 130 = .ok (.iload_n 2, 1) := by decide +kernel
theorem dX7_prize_131 : decode cX7_prize 131 = .ok (.iload 6, 2) := by decide +kernel
theorem dX7_prize_133 : decode cX7_prize 133 = .ok (.imul, 1) := by decide +kernel
theorem dX7_prize_134 : decode cX7_prize 134 = .ok (.if_icmp .le 12, 3) := by decide +kernel
theorem dX7_prize_137 : decode cX7_prize 137 = .ok (.iload 4, 2) := by decide +kernel
theorem dX7_prize_139 : decode cX7_prize 139 = .ok (.istore_n 1, 1) := by decide +kernel
theorem dX7_prize_140 : decode cX7_prize 140 = .ok (.iload 5, 2) := by decide +kernel
theorem dX7_prize_142 : decode cX7_prize 142 = .ok (.istore_n 2, 1) := by decide +kernel
theorem dX7_prize_143 : decode cX7_prize 143 = .ok (.iload 6, 2) := by decide +kernel
theorem dX7_prize_145 : decode cX7_prize 145 = .ok (.istore_n 3, 1) := by decide +kernel
theorem dX7_prize_146 : decode cX7_prize 146 = .ok (.iinc 4 1, 3) := by decide +kernel
theorem dX7_prize_149 : decode cX7_prize 149 = .ok (.goto (-135), 3) := by decide +kernel
theorem dX7_prize_152 : decode cX7_prize 152 = .ok (.iload_n 1, 1) := by decide +kernel
theorem dX7_prize_153 : decode cX7_prize 153 = .ok (.ireturn, 1) := by decide +kernel
theorem dX7_farOf_0 : decode cX7_farOf 0 = .ok (.iconst 0, 1) := by decide +kernel
theorem dX7_farOf_1 : decode cX7_farOf 1 = .ok (.istore_n 3, 1) := by decide +kernel
theorem dX7_farOf_2 : decode cX7_farOf 2 = .ok (.iconst 0, 1) := by decide +kernel
theorem dX7_farOf_3 : decode cX7_farOf 3 = .ok (.istore 4, 2) := by decide +kernel
theorem dX7_farOf_5 : decode cX7_farOf 5 = .ok (.iload 4, 2) := by decide +kernel
theorem dX7_farOf_7 : decode cX7_farOf 7 = .ok (.bipush 36, 2) := by decide +kernel
theorem dX7_farOf_9 : decode cX7_farOf 9 = .ok (.if_icmp .ge 104, 3) := by decide +kernel
theorem dX7_farOf_12 : decode cX7_farOf 12 = .ok (.iconst 0, 1) := by decide +kernel
theorem dX7_farOf_13 : decode cX7_farOf 13 = .ok (.istore 5, 2) := by decide +kernel
theorem dX7_farOf_15 : decode cX7_farOf 15 = .ok (.iload 5, 2) := by decide +kernel
theorem dX7_farOf_17 : decode cX7_farOf 17 = .ok (.bipush 6, 2) := by decide +kernel
theorem dX7_farOf_19 : decode cX7_farOf 19 = .ok (.if_icmp .ge 88, 3) := by decide +kernel
theorem dX7_farOf_22 : decode cX7_farOf 22 = .ok (.iload 5, 2) := by decide +kernel
theorem dX7_farOf_24 : decode cX7_farOf 24 = .ok (.aload_n 0, 1) := by decide +kernel
theorem dX7_farOf_25 : decode cX7_farOf 25 = .ok (.iload_n 1, 1) := by decide +kernel
theorem dX7_farOf_26 : decode cX7_farOf 26 = .ok (.iload 4, 2) := by decide +kernel
theorem dX7_farOf_28 : decode cX7_farOf 28 = .ok (.invokevirtual 193, 3) := by decide +kernel
theorem dX7_farOf_31 : decode cX7_farOf 31 = .ok (.if_icmp .ge 7, 3) := by decide +kernel
theorem dX7_farOf_34 : decode cX7_farOf 34 = .ok (.iconst 1, 1) := by decide +kernel
theorem dX7_farOf_35 : decode cX7_farOf 35 = .ok (.goto 4, 3) := by decide +kernel
theorem dX7_farOf_38 : decode cX7_farOf 38 = .ok (.iconst 0, 1) := by decide +kernel
theorem dX7_farOf_39 : decode cX7_farOf 39 = .ok (.istore 6, 2) := by decide +kernel
theorem dX7_farOf_41 : decode cX7_farOf 41 = .ok (.iload 5, 2) := by decide +kernel
theorem dX7_farOf_43 : decode cX7_farOf 43 = .ok (.aload_n 0, 1) := by decide +kernel
theorem dX7_farOf_44 : decode cX7_farOf 44 = .ok (.iload_n 2, 1) := by decide +kernel
theorem dX7_farOf_45 : decode cX7_farOf 45 = .ok (.iload 4, 2) := by decide +kernel
theorem dX7_farOf_47 : decode cX7_farOf 47 = .ok (.invokevirtual 193, 3) := by decide +kernel
theorem dX7_farOf_50 : decode cX7_farOf 50 = .ok (.if_icmp .ge 7, 3) := by decide +kernel
theorem dX7_farOf_53 : decode cX7_farOf 53 = .ok (.iconst 1, 1) := by decide +kernel
theorem dX7_farOf_54 : decode cX7_farOf 54 = .ok (.goto 4, 3) := by decide +kernel
theorem dX7_farOf_57 : decode cX7_farOf 57 = .ok (.iconst 0, 1) := by decide +kernel
theorem dX7_farOf_58 : decode cX7_farOf 58 = .ok (.istore 7, 2) := by decide +kernel
theorem dX7_farOf_60 : decode cX7_farOf 60 = .ok (.iload_n 3, 1) := by decide +kernel
theorem dX7_farOf_61 : decode cX7_farOf 61 = .ok (.iload 6, 2) := by decide +kernel
theorem dX7_farOf_63 : decode cX7_farOf 63 = .ok (.iload 7, 2) := by decide +kernel
theorem dX7_farOf_65 : decode cX7_farOf 65 = .ok (.if_icmp .ne 29, 3) := by decide +kernel
theorem dX7_farOf_68 : decode cX7_farOf 68 = .ok (.iload 6, 2) := by decide +kernel
theorem dX7_farOf_70 : decode cX7_farOf 70 = .ok (.ifCond .eq 28, 3) := by decide +kernel
theorem dX7_farOf_73 : decode cX7_farOf 73 = .ok (.aload_n 0, 1) := by decide +kernel
theorem dX7_farOf_74 : decode cX7_farOf 74 = .ok (.iload_n 1, 1) := by decide +kernel
theorem dX7_farOf_75 : decode cX7_farOf 75 = .ok (.iload 4, 2) := by decide +kernel
theorem dX7_farOf_77 : decode cX7_farOf 77 = .ok (.iload 5, 2) := by decide +kernel
theorem dX7_farOf_79 : decode cX7_farOf 79 = .ok (.invokevirtual 196, 3) := by decide +kernel
theorem dX7_farOf_82 : decode cX7_farOf 82 = .ok (.aload_n 0, 1) := by decide +kernel
theorem dX7_farOf_83 : decode cX7_farOf 83 = .ok (.iload_n 2, 1) := by decide +kernel
theorem dX7_farOf_84 : decode cX7_farOf 84 = .ok (.iload 4, 2) := by decide +kernel
theorem dX7_farOf_86 : decode cX7_farOf 86 = .ok (.iload 5, 2) := by decide +kernel
theorem dX7_farOf_88 : decode cX7_farOf 88 = .ok (.invokevirtual 196, 3) := by decide +kernel
theorem dX7_farOf_91 : decode cX7_farOf 91 = .ok (.if_icmp .eq 7, 3) := by decide +kernel
theorem dX7_farOf_94 : decode cX7_farOf 94 = .ok (.iconst 1, 1) := by decide +kernel
theorem dX7_farOf_95 : decode cX7_farOf 95 = .ok (.goto 4, 3) := by decide +kernel
theorem dX7_farOf_98 : decode cX7_farOf 98 = .ok (.iconst 0, 1) := by decide +kernel
theorem dX7_farOf_99 : decode cX7_farOf 99 = .ok (.iadd, 1) := by decide +kernel
theorem dX7_farOf_100 : decode cX7_farOf 100 = .ok (.istore_n 3, 1) := by decide +kernel
theorem dX7_farOf_101 : decode cX7_farOf 101 = .ok (.iinc 5 1, 3) := by decide +kernel
theorem dX7_farOf_104 : decode cX7_farOf 104 = .ok (.goto (-89), 3) := by decide +kernel
theorem dX7_farOf_107 : decode cX7_farOf 107 = .ok (.iinc 4 1, 3) := by decide +kernel
theorem dX7_farOf_110 : decode cX7_farOf 110 = .ok (.goto (-105), 3) := by decide +kernel
theorem dX7_farOf_113 : decode cX7_farOf 113 = .ok (.iload_n 3, 1) := by decide +kernel
theorem dX7_farOf_114 : decode cX7_farOf 114 = .ok (.ireturn, 1) := by decide +kernel
theorem dX7_isText_0 : decode cX7_isText 0 = .ok (.iload_n 1, 1) := by decide +kernel
theorem dX7_isText_1 : decode cX7_isText 1 = .ok (.iconst (-1), 1) := by decide +kernel
theorem dX7_isText_2 : decode cX7_isText 2 = .ok (.if_icmp .eq 17, 3) := by decide +kernel
theorem dX7_isText_5 : decode cX7_isText 5 = .ok (.iload_n 1, 1) := by decide +kernel
theorem dX7_isText_6 : decode cX7_isText 6 = .ok (.iconst 0, 1) := by decide +kernel
theorem dX7_isText_7 : decode cX7_isText 7 = .ok (.aload_n 0, 1) := by decide +kernel
theorem dX7_isText_8 : decode cX7_isText 8 = .ok (.getfield 123, 3) := by decide +kernel
theorem dX7_isText_11 : decode cX7_isText 11 = .ok (.iconst 1, 1) := by decide +kernel
theorem dX7_isText_12 : decode cX7_isText 12 = .ok (.isub, 1) := by decide +kernel
theorem dX7_isText_13 : decode cX7_isText 13 = .ok (.invokestatic 79, 3) := by decide +kernel
theorem dX7_isText_16 : decode cX7_isText 16 = .ok (.ifCond .eq 7, 3) := by decide +kernel
theorem dX7_isText_19 : decode cX7_isText 19 = .ok (.iconst 1, 1) := by decide +kernel
theorem dX7_isText_20 : decode cX7_isText 20 = .ok (.goto 4, 3) := by decide +kernel
theorem dX7_isText_23 : decode cX7_isText 23 = .ok (.iconst 0, 1) := by decide +kernel
theorem dX7_isText_24 : decode cX7_isText 24 = .ok (.ireturn, 1) := by decide +kernel
theorem dX7_far_0 : decode cX7_far 0 = .ok (.aload_n 0, 1) := by decide +kernel
theorem dX7_far_1 : decode cX7_far 1 = .ok (.aload_n 0, 1) := by decide +kernel
theorem dX7_far_2 : decode cX7_far 2 = .ok (.iload_n 1, 1) := by decide +kernel
theorem dX7_far_3 : decode cX7_far 3 = .ok (.invokevirtual 200, 3) := by decide +kernel
theorem dX7_far_6 : decode cX7_far 6 = .ok (.ifCond .eq 15, 3) := by decide +kernel
theorem dX7_far_9 : decode cX7_far 9 = .ok (.aload_n 0, 1) := by decide +kernel
theorem dX7_far_10 : decode cX7_far 10 = .ok (.iload_n 2, 1) := by decide +kernel
theorem dX7_far_11 : decode cX7_far 11 = .ok (.invokevirtual 200, 3) := by decide +kernel
theorem dX7_far_14 : decode cX7_far 14 = .ok (.ifCond .eq 7, 3) := by decide +kernel
theorem dX7_far_17 : decode cX7_far 17 = .ok (.iconst 1, 1) := by decide +kernel
theorem dX7_far_18 : decode cX7_far 18 = .ok (.goto 4, 3) := by decide +kernel
theorem dX7_far_21 : decode cX7_far 21 = .ok (.iconst 0, 1) := by decide +kernel
theorem dX7_far_22 : decode cX7_far 22 = .ok (.aload_n 0, 1) := by decide +kernel
theorem dX7_far_23 : decode cX7_far 23 = .ok (.getfield 103, 3) := by decide +kernel
theorem dX7_far_26 : decode cX7_far 26 = .ok (.iconst 1, 1) := by decide +kernel
theorem dX7_far_27 : decode cX7_far 27 = .ok (.invokevirtual 92, 3) := by decide +kernel
theorem dX7_far_30 : decode cX7_far 30 = .ok (.ifCond .eq 12, 3) := by decide +kernel
theorem dX7_far_33 : decode cX7_far 33 = .ok (.aload_n 0, 1) := by decide +kernel
theorem dX7_far_34 : decode cX7_far 34 = .ok (.iload_n 1, 1) := by decide +kernel
theorem dX7_far_35 : decode cX7_far 35 = .ok (.iload_n 2, 1) := by decide +kernel
theorem dX7_far_36 : decode cX7_far 36 = .ok (.invokevirtual 203, 3) := by decide +kernel
theorem dX7_far_39 : decode cX7_far 39 = .ok (.goto 4, 3) := by decide +kernel
theorem dX7_far_42 : decode cX7_far 42 = .ok (.iconst 0, 1) := by decide +kernel
theorem dX7_far_43 : decode cX7_far 43 = .ok (.ireturn, 1) := by decide +kernel
theorem dX7_source_0 : decode cX7_source 0 = .ok (.aload_n 0, 1) := by decide +kernel
theorem dX7_source_1 : decode cX7_source 1 = .ok (.iload_n 1, 1) := by decide +kernel
theorem dX7_source_2 : decode cX7_source 2 = .ok (.iconst 0, 1) := by decide +kernel
theorem dX7_source_3 : decode cX7_source 3 = .ok (.aload_n 0, 1) := by decide +kernel
theorem dX7_source_4 : decode cX7_source 4 = .ok (.getfield 123, 3) := by decide +kernel
theorem dX7_source_7 : decode cX7_source 7 = .ok (.iconst 1, 1) := by decide +kernel
theorem dX7_source_8 : decode cX7_source 8 = .ok (.isub, 1) := by decide +kernel
theorem dX7_source_9 : decode cX7_source 9 = .ok (.invokestatic 79, 3) := by decide +kernel
theorem dX7_source_12 : decode cX7_source 12 = .ok (.iconst 1, 1) := by decide +kernel
theorem dX7_source_13 : decode cX7_source 13 = .ok (.iconst 1, 1) := by decide +kernel
theorem dX7_source_14 : decode cX7_source 14 = .ok (.invokevirtual 92, 3) := by decide +kernel
theorem dX7_source_17 : decode cX7_source 17 = .ok (.ifCond .ne 5, 3) := by decide +kernel
theorem dX7_source_20 : decode cX7_source 20 = .ok (.iconst 0, 1) := by decide +kernel
theorem dX7_source_21 : decode cX7_source 21 = .ok (.ireturn, 1) := by decide +kernel
theorem dX7_source_22 : decode cX7_source 22 = .ok (.iconst (-1), 1) := by decide +kernel
theorem dX7_source_23 : decode cX7_source 23 = .ok (.istore_n 2, 1) := by decide +kernel
theorem dX7_source_24 : decode cX7_source 24 = .ok (.iconst 0, 1) := by decide +kernel
theorem dX7_source_25 : decode cX7_source 25 = .ok (.istore_n 3, 1) := by decide +kernel
theorem dX7_source_26 : decode cX7_source 26 = .ok (.iload_n 3, 1) := by decide +kernel
theorem dX7_source_27 : decode cX7_source 27 = .ok (.aload_n 0, 1) := by decide +kernel
theorem dX7_source_28 : decode cX7_source 28 = .ok (.getfield 123, 3) := by decide +kernel
theorem dX7_source_31 : decode cX7_source 31 = .ok (.if_icmp .ge 35, 3) := by decide +kernel
theorem dX7_source_34 : decode cX7_source 34 = .ok (.iload_n 3, 1) := by decide +kernel
theorem dX7_source_35 : decode cX7_source 35 = .ok (.iload_n 1, 1) := by decide +kernel
theorem dX7_source_36 : decode cX7_source 36 = .ok (.if_icmp .eq 22, 3) := by decide +kernel
theorem dX7_source_39 : decode cX7_source 39 = .ok (.aload_n 0, 1) := by decide +kernel
theorem dX7_source_40 : decode cX7_source 40 = .ok (.iload_n 1, 1) := by decide +kernel
theorem dX7_source_41 : decode cX7_source 41 = .ok (.iload_n 3, 1) := by decide +kernel
theorem dX7_source_42 : decode cX7_source 42 = .ok (.invokevirtual 203, 3) := by decide +kernel
theorem dX7_source_45 : decode cX7_source 45 = .ok (.aload_n 0, 1) := by decide +kernel
theorem dX7_source_46 : decode cX7_source 46 = .ok (.iload_n 1, 1) := by decide +kernel
theorem dX7_source_47 : decode cX7_source 47 = .ok (.iload_n 2, 1) := by decide +kernel
theorem dX7_source_48 : decode cX7_source 48 = .ok (.invokevirtual 203, 3) := by decide +kernel
theorem dX7_source_51 : decode cX7_source 51 = .ok (.if_icmp .ge 7, 3) := by decide +kernel
theorem dX7_source_54 : decode cX7_source 54 = .ok (.iload_n 3, 1) := by decide +kernel
theorem dX7_source_55 : decode cX7_source 55 = .ok (.goto 4, 3) := by decide +kernel
theorem dX7_source_58 : decode cX7_source 58 = .ok (.iload_n 2, 1) := by decide +kernel
theorem dX7_source_59 : decode cX7_source 59 = .ok (.istore_n 2, 1) := by decide +kernel
theorem dX7_source_60 : decode cX7_source 60 = .ok (.iinc 3 1, 3) := by decide +kernel
theorem dX7_source_63 : decode cX7_source 63 = .ok (.goto (-37), 3) := by decide +kernel
theorem dX7_source_66 : decode cX7_source 66 = .ok (.iload_n 2, 1) := by decide +kernel
theorem dX7_source_67 : decode cX7_source 67 = .ok (.ireturn, 1) := by decide +kernel
theorem dX7_likeness_0 : decode cX7_likeness 0 = .ok (.iconst 0, 1) := by decide +kernel
theorem dX7_likeness_1 : decode cX7_likeness 1 = .ok (.istore_n 3, 1) := by decide +kernel
theorem dX7_likeness_2 : decode cX7_likeness 2 = .ok (.aload_n 0, 1) := by decide +kernel
theorem dX7_likeness_3 : decode cX7_likeness 3 = .ok (.iload_n 1, 1) := by decide +kernel
theorem dX7_likeness_4 : decode cX7_likeness 4 = .ok (.invokevirtual 143, 3) := by decide +kernel
theorem dX7_likeness_7 : decode cX7_likeness 7 = .ok (.aload_n 0, 1) := by decide +kernel
theorem dX7_likeness_8 : decode cX7_likeness 8 = .ok (.iload_n 2, 1) := by decide +kernel
theorem dX7_likeness_9 : decode cX7_likeness 9 = .ok (.invokevirtual 143, 3) := by decide +kernel
theorem dX7_likeness_12 : decode cX7_likeness 12 = .ok (.iand, 1) := by decide +kernel
theorem dX7_likeness_13 : decode cX7_likeness 13 = .ok (.istore 4, 2) := by decide +kernel
theorem dX7_likeness_15 : decode cX7_likeness 15 = .ok (.iconst 0, 1) := by decide +kernel
theorem dX7_likeness_16 : decode cX7_likeness 16 = .ok (.istore 5, 2) := by decide +kernel
theorem dX7_likeness_18 : decode cX7_likeness 18 = .ok (.iload 5, 2) := by decide +kernel
theorem dX7_likeness_20 : decode cX7_likeness 20 = .ok (.bipush 10, 2) := by decide +kernel
theorem dX7_likeness_22 : decode cX7_likeness 22 = .ok (.if_icmp .ge 19, 3) := by decide +kernel
theorem dX7_likeness_25 : decode cX7_likeness 25 = .ok (.iload_n 3, 1) := by decide +kernel
theorem dX7_likeness_26 : decode cX7_likeness 26 = .ok (.iload 4, 2) := by decide +kernel
theorem dX7_likeness_28 : decode cX7_likeness 28 = .ok (.iload 5, 2) := by decide +kernel
theorem dX7_likeness_30 : decode cX7_likeness 30 = .ok (.ishr, 1) := by decide +kernel
theorem dX7_likeness_31 : decode cX7_likeness 31 = .ok (.iconst 1, 1) := by decide +kernel
theorem dX7_likeness_32 : decode cX7_likeness 32 = .ok (.iand, 1) := by decide +kernel
theorem dX7_likeness_33 : decode cX7_likeness 33 = .ok (.iadd, 1) := by decide +kernel
theorem dX7_likeness_34 : decode cX7_likeness 34 = .ok (.istore_n 3, 1) := by decide +kernel
theorem dX7_likeness_35 : decode cX7_likeness 35 = .ok (.iinc 5 1, 3) := by decide +kernel
theorem dX7_likeness_38 : decode cX7_likeness 38 = .ok (.goto (-20), 3) := by decide +kernel
theorem dX7_likeness_41 : decode cX7_likeness 41 = .ok (.iconst 0, 1) := by decide +kernel
theorem dX7_likeness_42 : decode cX7_likeness 42 = .ok (.istore 5, 2) := by decide +kernel
theorem dX7_likeness_44 : decode cX7_likeness 44 = .ok (.iload 5, 2) := by decide +kernel
theorem dX7_likeness_46 : decode cX7_likeness 46 = .ok (.aload_n 0, 1) := by decide +kernel
theorem dX7_likeness_47 : decode cX7_likeness 47 = .ok (.getfield 26, 3) := by decide +kernel
theorem dX7_likeness_50 : decode cX7_likeness 50 = .ok (.iload_n 1, 1) := by decide +kernel
theorem dX7_likeness_51 : decode cX7_likeness 51 = .ok (.iaload, 1) := by decide +kernel
theorem dX7_likeness_52 : decode cX7_likeness 52 = .ok (.if_icmp .ge 64, 3) := by decide +kernel
theorem dX7_likeness_55 : decode cX7_likeness 55 = .ok (.iconst 0, 1) := by decide +kernel
theorem dX7_likeness_56 : decode cX7_likeness 56 = .ok (.istore 6, 2) := by decide +kernel
theorem dX7_likeness_58 : decode cX7_likeness 58 = .ok (.iload 6, 2) := by decide +kernel
theorem dX7_likeness_60 : decode cX7_likeness 60 = .ok (.aload_n 0, 1) := by decide +kernel
theorem dX7_likeness_61 : decode cX7_likeness 61 = .ok (.getfield 26, 3) := by decide +kernel
theorem dX7_likeness_64 : decode cX7_likeness 64 = .ok (.iload_n 2, 1) := by decide +kernel
theorem dX7_likeness_65 : decode cX7_likeness 65 = .ok (.iaload, 1) := by decide +kernel
theorem dX7_likeness_66 : decode cX7_likeness 66 = .ok (.if_icmp .ge 44, 3) := by decide +kernel
theorem dX7_likeness_69 : decode cX7_likeness 69 = .ok (.iload_n 3, 1) := by decide +kernel
theorem dX7_likeness_70 : decode cX7_likeness 70 = .ok (.aload_n 0, 1) := by decide +kernel
theorem dX7_likeness_71 : decode cX7_likeness 71 = .ok (.getfield 23, 3) := by decide +kernel
theorem dX7_likeness_74 : decode cX7_likeness 74 = .ok (.bipush 6, 2) := by decide +kernel
theorem dX7_likeness_76 : decode cX7_likeness 76 = .ok (.iload_n 1, 1) := by decide +kernel
theorem dX7_likeness_77 : decode cX7_likeness 77 = .ok (.imul, 1) := by decide +kernel
theorem dX7_likeness_78 : decode cX7_likeness 78 = .ok (.iload 5, 2) := by decide +kernel
theorem dX7_likeness_80 : decode cX7_likeness 80 = .ok (.iadd, 1) := by decide +kernel
theorem dX7_likeness_81 : decode cX7_likeness 81 = .ok (.iaload, 1) := by decide +kernel
theorem dX7_likeness_82 : decode cX7_likeness 82 = .ok (.aload_n 0, 1) := by decide +kernel
theorem dX7_likeness_83 : decode cX7_likeness 83 = .ok (.getfield 23, 3) := by decide +kernel
theorem dX7_likeness_86 : decode cX7_likeness 86 = .ok (.bipush 6, 2) := by decide +kernel
theorem dX7_likeness_88 : decode cX7_likeness 88 = .ok (.iload_n 2, 1) := by decide +kernel
theorem dX7_likeness_89 : decode cX7_likeness 89 = .ok (.imul, 1) := by decide +kernel
theorem dX7_likeness_90 : decode cX7_likeness 90 = .ok (.iload 6, 2) := by decide +kernel
theorem dX7_likeness_92 : decode cX7_likeness 92 = .ok (.iadd, 1) := by decide +kernel
theorem dX7_likeness_93 : decode cX7_likeness 93 = .ok (.iaload, 1) := by decide +kernel
theorem dX7_likeness_94 : decode cX7_likeness 94 = .ok (.if_icmp .ne 7, 3) := by decide +kernel
theorem dX7_likeness_97 : decode cX7_likeness 97 = .ok (.iconst 3, 1) := by decide +kernel
theorem dX7_likeness_98 : decode cX7_likeness 98 = .ok (.goto 4, 3) := by decide +kernel
theorem dX7_likeness_101 : decode cX7_likeness 101 = .ok (.iconst 0, 1) := by decide +kernel
theorem dX7_likeness_102 : decode cX7_likeness 102 = .ok (.iadd, 1) := by decide +kernel
theorem dX7_likeness_103 : decode cX7_likeness 103 = .ok (.istore_n 3, 1) := by decide +kernel
theorem dX7_likeness_104 : decode cX7_likeness 104 = .ok (.iinc 6 1, 3) := by decide +kernel
theorem dX7_likeness_107 : decode cX7_likeness 107 = .ok (.goto (-49), 3) := by decide +kernel
theorem dX7_likeness_110 : decode cX7_likeness 110 = .ok (.iinc 5 1, 3) := by decide +kernel
theorem dX7_likeness_113 : decode cX7_likeness 113 = .ok (.goto (-69), 3) := by decide +kernel
theorem dX7_likeness_116 : decode cX7_likeness 116 = .ok (.iload_n 3, 1) := by decide +kernel
theorem dX7_likeness_117 : decode cX7_likeness 117 = .ok (.ireturn, 1) := by decide +kernel
theorem dX7_hand_0 : decode cX7_hand 0 = .ok (.aload_n 0, 1) := by decide +kernel
theorem dX7_hand_1 : decode cX7_hand 1 = .ok (.aload_n 0, 1) := by decide +kernel
theorem dX7_hand_2 : decode cX7_hand 2 = .ok (.iload_n 1, 1) := by decide +kernel
theorem dX7_hand_3 : decode cX7_hand 3 = .ok (.invokevirtual 187, 3) := by decide +kernel
theorem dX7_hand_6 : decode cX7_hand 6 = .ok (.iconst 1, 1) := by decide +kernel
theorem dX7_hand_7 : decode cX7_hand 7 = .ok (.iconst 1, 1) := by decide +kernel
theorem dX7_hand_8 : decode cX7_hand 8 = .ok (.invokevirtual 92, 3) := by decide +kernel
theorem dX7_hand_11 : decode cX7_hand 11 = .ok (.ifCond .ne 5, 3) := by decide +kernel
theorem dX7_hand_14 : decode cX7_hand 14 = .ok (.iconst 0, 1) := by decide +kernel
theorem dX7_hand_15 : decode cX7_hand 15 = .ok (.ireturn, 1) := by decide +kernel
theorem dX7_hand_16 : decode cX7_hand 16 = .ok (.iconst (-1), 1) := by decide +kernel
theorem dX7_hand_17 : decode cX7_hand 17 = .ok (.istore_n 2, 1) := by decide +kernel
theorem dX7_hand_18 : decode cX7_hand 18 = .ok (.iconst 0, 1) := by decide +kernel
theorem dX7_hand_19 : decode cX7_hand 19 = .ok (.istore_n 3, 1) := by decide +kernel
theorem dX7_hand_20 : decode cX7_hand 20 = .ok (.iconst 1, 1) := by decide +kernel
theorem dX7_hand_21 : decode cX7_hand 21 = .ok (.istore 4, 2) := by decide +kernel
theorem dX7_hand_23 : decode cX7_hand 23 = .ok (.iconst 0, 1) := by decide +kernel
theorem dX7_hand_24 : decode cX7_hand 24 = .ok (.istore 5, 2) := by decide +kernel
theorem dX7_hand_26 : decode cX7_hand 26 = .ok (.iload 5, 2) := by decide +kernel
theorem dX7_hand_28 : decode cX7_hand 28 = .ok (.aload_n 0, 1) := by decide +kernel
theorem dX7_hand_29 : decode cX7_hand 29 = .ok (.getfield 83, 3) := by decide +kernel
theorem dX7_hand_32 : decode cX7_hand 32 = .ok (.if_icmp .ge 136, 3) := by decide +kernel
theorem dX7_hand_35 : decode cX7_hand 35 = .ok (.iconst 0, 1) := by decide +kernel
theorem dX7_hand_36 : decode cX7_hand 36 = .ok (.istore 6, 2) := by decide +kernel
theorem dX7_hand_38 : decode cX7_hand 38 = .ok (.iconst 0, 1) := by decide +kernel
theorem dX7_hand_39 : decode cX7_hand 39 = .ok (.istore 7, 2) := by decide +kernel
theorem dX7_hand_41 : decode cX7_hand 41 = .ok (.iconst 0, 1) := by decide +kernel
theorem dX7_hand_42 : decode cX7_hand 42 = .ok (.istore 8, 2) := by decide +kernel
theorem dX7_hand_44 : decode cX7_hand 44 = .ok (.iload 8, 2) := by decide +kernel
theorem dX7_hand_46 : decode cX7_hand 46 = .ok (.aload_n 0, 1) := by decide +kernel
theorem dX7_hand_47 : decode cX7_hand 47 = .ok (.getfield 86, 3) := by decide +kernel
theorem dX7_hand_50 : decode cX7_hand 50 = .ok (.if_icmp .ge 80, 3) := by decide +kernel
theorem dX7_hand_53 : decode cX7_hand 53 = .ok (.iload 8, 2) := by decide +kernel
theorem dX7_hand_55 : decode cX7_hand 55 = .ok (.iload_n 1, 1) := by decide +kernel
theorem dX7_hand_56 : decode cX7_hand 56 = .ok (.if_icmp .eq 29, 3) := by decide +kernel
theorem dX7_hand_59 : decode cX7_hand 59 = .ok (.aload_n 0, 1) := by decide +kernel
theorem dX7_hand_60 : decode cX7_hand 60 = .ok (.getfield 35, 3) := by decide +kernel
theorem dX7_hand_63 : decode cX7_hand 63 = .ok (.iload 8, 2) := by decide +kernel
theorem dX7_hand_65 : decode cX7_hand 65 = .ok (.baload, 1) := by decide +kernel
theorem dX7_hand_66 : decode cX7_hand 66 = .ok (.ifCond .ne 19, 3) := by decide +kernel
theorem dX7_hand_69 : decode cX7_hand 69 = .ok (.aload_n 0, 1) := by decide +kernel
theorem dX7_hand_70 : decode cX7_hand 70 = .ok (.getfield 29, 3) := by decide +kernel
theorem dX7_hand_73 : decode cX7_hand 73 = .ok (.iload 8, 2) := by decide +kernel
theorem dX7_hand_75 : decode cX7_hand 75 = .ok (.iaload, 1) := by decide +kernel
theorem dX7_hand_76 : decode cX7_hand 76 = .ok (.iload 5, 2) := by decide +kernel
theorem dX7_hand_78 : decode cX7_hand 78 = .ok (.if_icmp .ne 7, 3) := by decide +kernel
theorem dX7_hand_81 : decode cX7_hand 81 = .ok (.iconst 1, 1) := by decide +kernel
theorem dX7_hand_82 : decode cX7_hand 82 = .ok (.goto 4, 3) := by decide +kernel
theorem dX7_hand_85 : decode cX7_hand 85 = .ok (.iconst 0, 1) := by decide +kernel
theorem dX7_hand_86 : decode cX7_hand 86 = .ok (.istore 9, 2) := by decide +kernel
theorem dX7_hand_88 : decode cX7_hand 88 = .ok (.iload 6, 2) := by decide +kernel
theorem dX7_hand_90 : decode cX7_hand 90 = .ok (.iload 9, 2) := by decide +kernel
theorem dX7_hand_92 : decode cX7_hand 92 = .ok (.ifCond .eq 13, 3) := by decide +kernel
theorem dX7_hand_95 : decode cX7_hand 95 = .ok (.aload_n 0, 1) := by decide +kernel
theorem dX7_hand_96 : decode cX7_hand 96 = .ok (.iload_n 1, 1) := by decide +kernel
theorem dX7_hand_97 : decode cX7_hand 97 = .ok (.iload 8, 2) := by decide +kernel
theorem dX7_hand_99 : decode cX7_hand 99 = .ok (.invokevirtual 206, 3) := by decide +kernel
theorem dX7_hand_102 : decode cX7_hand 102 = .ok (.goto 4, 3) := by decide +kernel
theorem dX7_hand_105 : decode cX7_hand 105 = .ok (.iconst 0, 1) := by decide +kernel
theorem dX7_hand_106 : decode cX7_hand 106 = .ok (.iadd, 1) := by decide +kernel
theorem dX7_hand_107 : decode cX7_hand 107 = .ok (.istore 6, 2) := by decide +kernel
theorem dX7_hand_109 : decode cX7_hand 109 = .ok (.iload 7, 2) := by decide +kernel
theorem dX7_hand_111 : decode cX7_hand 111 = .ok (.iload 9, 2) := by decide +kernel
theorem dX7_hand_113 : decode cX7_hand 113 = .ok (.ifCond .eq 7, 3) := by decide +kernel
theorem dX7_hand_116 : decode cX7_hand 116 = .ok (.iconst 1, 1) := by decide +kernel
theorem dX7_hand_117 : decode cX7_hand 117 = .ok (.goto 4, 3) := by decide +kernel
theorem dX7_hand_120 : decode cX7_hand 120 = .ok (.iconst 0, 1) := by decide +kernel
theorem dX7_hand_121 : decode cX7_hand 121 = .ok (.iadd, 1) := by decide +kernel
theorem dX7_hand_122 : decode cX7_hand 122 = .ok (.istore 7, 2) := by decide +kernel
theorem dX7_hand_124 : decode cX7_hand 124 = .ok (.iinc 8 1, 3) := by decide +kernel
theorem dX7_hand_127 : decode cX7_hand 127 = .ok (.goto (-83), 3) := by decide +kernel
theorem dX7_hand_130 : decode cX7_hand 130 = .ok (.iload 7, 2) := by decide +kernel
theorem dX7_hand_132 : decode cX7_hand 132 = .ok (.ifCond .le 30, 3) := by decide +kernel
theorem dX7_hand_135 : decode cX7_hand 135 = .ok (.iload_n 2, 1) := by decide +kernel
theorem dX7_hand_136 : decode cX7_hand 136 = .ok (.iconst (-1), 1) := by decide +kernel
theorem dX7_hand_137 : decode cX7_hand 137 = .ok (.if_icmp .eq 15, 3) := by decide +kernel
theorem dX7_hand_140 : decode cX7_hand 140 = .ok (.iload 6, 2) := by decide +kernel
theorem dX7_hand_142 : decode cX7_hand 142 = .ok (.iload 4, 2) := by decide +kernel
theorem dX7_hand_144 : decode cX7_hand 144 = .ok (.imul, 1) := by decide +kernel
theorem dX7_hand_145 : decode cX7_hand 145 = .ok (.iload_n 3, 1) := by decide +kernel
theorem dX7_hand_146 : decode cX7_hand 146 = .ok (.iload 7, 2) := by decide +kernel
theorem dX7_hand_148 : decode cX7_hand 148 = .ok (.imul, 1) := by decide +kernel
theorem dX7_hand_149 : decode cX7_hand 149 = .ok (.if_icmp .le 13, 3) := by decide +kernel
theorem dX7_hand_152 : decode cX7_hand 152 = .ok (.iload 5, 2) := by decide +kernel
theorem dX7_hand_154 : decode cX7_hand 154 = .ok (.istore_n 2, 1) := by decide +kernel
theorem dX7_hand_155 : decode cX7_hand 155 = .ok (.iload 6, 2) := by decide +kernel
theorem dX7_hand_157 : decode cX7_hand 157 = .ok (.istore_n 3, 1) := by decide +kernel
theorem dX7_hand_158 : decode cX7_hand 158 = .ok (.iload 7, 2) := by decide +kernel
theorem dX7_hand_160 : decode cX7_hand 160 = .ok (.istore 4, 2) := by decide +kernel
theorem dX7_hand_162 : decode cX7_hand 162 = .ok (.iinc 5 1, 3) := by decide +kernel
theorem dX7_hand_165 : decode cX7_hand 165 = .ok (.goto (-139), 3) := by decide +kernel
theorem dX7_hand_168 : decode cX7_hand 168 = .ok (.iload_n 2, 1) := by decide +kernel
theorem dX7_hand_169 : decode cX7_hand 169 = .ok (.ireturn, 1) := by decide +kernel
end
section
theorem dJ6_bitCount_0f7a4_0 : decode cJ6_bitCount_0f7a4 0 = .ok (.iload_n 0, 1) := by decide +kernel
theorem dJ6_bitCount_0f7a4_1 : decode cJ6_bitCount_0f7a4 1 = .ok (.iload_n 0, 1) := by decide +kernel
theorem dJ6_bitCount_0f7a4_2 : decode cJ6_bitCount_0f7a4 2 = .ok (.iconst 1, 1) := by decide +kernel
theorem dJ6_bitCount_0f7a4_3 : decode cJ6_bitCount_0f7a4 3 = .ok (.iushr, 1) := by decide +kernel
theorem dJ6_bitCount_0f7a4_4 : decode cJ6_bitCount_0f7a4 4 = .ok (.ldc_w 265, 3) := by decide +kernel
theorem dJ6_bitCount_0f7a4_7 : decode cJ6_bitCount_0f7a4 7 = .ok (.iand, 1) := by decide +kernel
theorem dJ6_bitCount_0f7a4_8 : decode cJ6_bitCount_0f7a4 8 = .ok (.isub, 1) := by decide +kernel
theorem dJ6_bitCount_0f7a4_9 : decode cJ6_bitCount_0f7a4 9 = .ok (.istore_n 0, 1) := by decide +kernel
theorem dJ6_bitCount_0f7a4_10 : decode cJ6_bitCount_0f7a4 10 = .ok (.iload_n 0, 1) := by decide +kernel
theorem dJ6_bitCount_0f7a4_11 : decode cJ6_bitCount_0f7a4 11 = .ok (.ldc_w 266, 3) := by decide +kernel
theorem dJ6_bitCount_0f7a4_14 : decode cJ6_bitCount_0f7a4 14 = .ok (.iand, 1) := by decide +kernel
theorem dJ6_bitCount_0f7a4_15 : decode cJ6_bitCount_0f7a4 15 = .ok (.iload_n 0, 1) := by decide +kernel
theorem dJ6_bitCount_0f7a4_16 : decode cJ6_bitCount_0f7a4 16 = .ok (.iconst 2, 1) := by decide +kernel
theorem dJ6_bitCount_0f7a4_17 : decode cJ6_bitCount_0f7a4 17 = .ok (.iushr, 1) := by decide +kernel
theorem dJ6_bitCount_0f7a4_18 : decode cJ6_bitCount_0f7a4 18 = .ok (.ldc_w 266, 3) := by decide +kernel
theorem dJ6_bitCount_0f7a4_21 : decode cJ6_bitCount_0f7a4 21 = .ok (.iand, 1) := by decide +kernel
theorem dJ6_bitCount_0f7a4_22 : decode cJ6_bitCount_0f7a4 22 = .ok (.iadd, 1) := by decide +kernel
theorem dJ6_bitCount_0f7a4_23 : decode cJ6_bitCount_0f7a4 23 = .ok (.istore_n 0, 1) := by decide +kernel
theorem dJ6_bitCount_0f7a4_24 : decode cJ6_bitCount_0f7a4 24 = .ok (.iload_n 0, 1) := by decide +kernel
theorem dJ6_bitCount_0f7a4_25 : decode cJ6_bitCount_0f7a4 25 = .ok (.iload_n 0, 1) := by decide +kernel
theorem dJ6_bitCount_0f7a4_26 : decode cJ6_bitCount_0f7a4 26 = .ok (.iconst 4, 1) := by decide +kernel
theorem dJ6_bitCount_0f7a4_27 : decode cJ6_bitCount_0f7a4 27 = .ok (.iushr, 1) := by decide +kernel
theorem dJ6_bitCount_0f7a4_28 : decode cJ6_bitCount_0f7a4 28 = .ok (.iadd, 1) := by decide +kernel
theorem dJ6_bitCount_0f7a4_29 : decode cJ6_bitCount_0f7a4 29 = .ok (.ldc_w 267, 3) := by decide +kernel
theorem dJ6_bitCount_0f7a4_32 : decode cJ6_bitCount_0f7a4 32 = .ok (.iand, 1) := by decide +kernel
theorem dJ6_bitCount_0f7a4_33 : decode cJ6_bitCount_0f7a4 33 = .ok (.istore_n 0, 1) := by decide +kernel
theorem dJ6_bitCount_0f7a4_34 : decode cJ6_bitCount_0f7a4 34 = .ok (.iload_n 0, 1) := by decide +kernel
theorem dJ6_bitCount_0f7a4_35 : decode cJ6_bitCount_0f7a4 35 = .ok (.iload_n 0, 1) := by decide +kernel
theorem dJ6_bitCount_0f7a4_36 : decode cJ6_bitCount_0f7a4 36 = .ok (.bipush 8, 2) := by decide +kernel
theorem dJ6_bitCount_0f7a4_38 : decode cJ6_bitCount_0f7a4 38 = .ok (.iushr, 1) := by decide +kernel
theorem dJ6_bitCount_0f7a4_39 : decode cJ6_bitCount_0f7a4 39 = .ok (.iadd, 1) := by decide +kernel
theorem dJ6_bitCount_0f7a4_40 : decode cJ6_bitCount_0f7a4 40 = .ok (.istore_n 0, 1) := by decide +kernel
theorem dJ6_bitCount_0f7a4_41 : decode cJ6_bitCount_0f7a4 41 = .ok (.iload_n 0, 1) := by decide +kernel
theorem dJ6_bitCount_0f7a4_42 : decode cJ6_bitCount_0f7a4 42 = .ok (.iload_n 0, 1) := by decide +kernel
theorem dJ6_bitCount_0f7a4_43 : decode cJ6_bitCount_0f7a4 43 = .ok (.bipush 16, 2) := by decide +kernel
theorem dJ6_bitCount_0f7a4_45 : decode cJ6_bitCount_0f7a4 45 = .ok (.iushr, 1) := by decide +kernel
theorem dJ6_bitCount_0f7a4_46 : decode cJ6_bitCount_0f7a4 46 = .ok (.iadd, 1) := by decide +kernel
theorem dJ6_bitCount_0f7a4_47 : decode cJ6_bitCount_0f7a4 47 = .ok (.istore_n 0, 1) := by decide +kernel
theorem dJ6_bitCount_0f7a4_48 : decode cJ6_bitCount_0f7a4 48 = .ok (.iload_n 0, 1) := by decide +kernel
theorem dJ6_bitCount_0f7a4_49 : decode cJ6_bitCount_0f7a4 49 = .ok (.bipush 63, 2) := by decide +kernel
theorem dJ6_bitCount_0f7a4_51 : decode cJ6_bitCount_0f7a4 51 = .ok (.iand, 1) := by decide +kernel
theorem dJ6_bitCount_0f7a4_52 : decode cJ6_bitCount_0f7a4 52 = .ok (.ireturn, 1) := by decide +kernel
theorem dJ13_bitCount_95d88_0 : decode cJ13_bitCount_95d88 0 = .ok (.lload_n 0, 1) := by decide +kernel
theorem dJ13_bitCount_95d88_1 : decode cJ13_bitCount_95d88 1 = .ok (.lload_n 0, 1) := by decide +kernel
theorem dJ13_bitCount_95d88_2 : decode cJ13_bitCount_95d88 2 = .ok (.iconst 1, 1) := by decide +kernel
theorem dJ13_bitCount_95d88_3 : decode cJ13_bitCount_95d88 3 = .ok (.lushr, 1) := by decide +kernel
theorem dJ13_bitCount_95d88_4 : decode cJ13_bitCount_95d88 4 = .ok (.ldc2_w 314, 3) := by decide +kernel
theorem dJ13_bitCount_95d88_7 : decode cJ13_bitCount_95d88 7 = .ok (.land, 1) := by decide +kernel
theorem dJ13_bitCount_95d88_8 : decode cJ13_bitCount_95d88 8 = .ok (.lsub, 1) := by decide +kernel
theorem dJ13_bitCount_95d88_9 : decode cJ13_bitCount_95d88 9 = .ok (.lstore_n 0, 1) := by decide +kernel
theorem dJ13_bitCount_95d88_10 : decode cJ13_bitCount_95d88 10 = .ok (.lload_n 0, 1) := by decide +kernel
theorem dJ13_bitCount_95d88_11 : decode cJ13_bitCount_95d88 11 = .ok (.ldc2_w 316, 3) := by decide +kernel
theorem dJ13_bitCount_95d88_14 : decode cJ13_bitCount_95d88 14 = .ok (.land, 1) := by decide +kernel
theorem dJ13_bitCount_95d88_15 : decode cJ13_bitCount_95d88 15 = .ok (.lload_n 0, 1) := by decide +kernel
theorem dJ13_bitCount_95d88_16 : decode cJ13_bitCount_95d88 16 = .ok (.iconst 2, 1) := by decide +kernel
theorem dJ13_bitCount_95d88_17 : decode cJ13_bitCount_95d88 17 = .ok (.lushr, 1) := by decide +kernel
theorem dJ13_bitCount_95d88_18 : decode cJ13_bitCount_95d88 18 = .ok (.ldc2_w 316, 3) := by decide +kernel
theorem dJ13_bitCount_95d88_21 : decode cJ13_bitCount_95d88 21 = .ok (.land, 1) := by decide +kernel
theorem dJ13_bitCount_95d88_22 : decode cJ13_bitCount_95d88 22 = .ok (.ladd, 1) := by decide +kernel
theorem dJ13_bitCount_95d88_23 : decode cJ13_bitCount_95d88 23 = .ok (.lstore_n 0, 1) := by decide +kernel
theorem dJ13_bitCount_95d88_24 : decode cJ13_bitCount_95d88 24 = .ok (.lload_n 0, 1) := by decide +kernel
theorem dJ13_bitCount_95d88_25 : decode cJ13_bitCount_95d88 25 = .ok (.lload_n 0, 1) := by decide +kernel
theorem dJ13_bitCount_95d88_26 : decode cJ13_bitCount_95d88 26 = .ok (.iconst 4, 1) := by decide +kernel
theorem dJ13_bitCount_95d88_27 : decode cJ13_bitCount_95d88 27 = .ok (.lushr, 1) := by decide +kernel
theorem dJ13_bitCount_95d88_28 : decode cJ13_bitCount_95d88 28 = .ok (.ladd, 1) := by decide +kernel
theorem dJ13_bitCount_95d88_29 : decode cJ13_bitCount_95d88 29 = .ok (.ldc2_w 318, 3) := by decide +kernel
theorem dJ13_bitCount_95d88_32 : decode cJ13_bitCount_95d88 32 = .ok (.land, 1) := by decide +kernel
theorem dJ13_bitCount_95d88_33 : decode cJ13_bitCount_95d88 33 = .ok (.lstore_n 0, 1) := by decide +kernel
theorem dJ13_bitCount_95d88_34 : decode cJ13_bitCount_95d88 34 = .ok (.lload_n 0, 1) := by decide +kernel
theorem dJ13_bitCount_95d88_35 : decode cJ13_bitCount_95d88 35 = .ok (.lload_n 0, 1) := by decide +kernel
theorem dJ13_bitCount_95d88_36 : decode cJ13_bitCount_95d88 36 = .ok (.bipush 8, 2) := by decide +kernel
theorem dJ13_bitCount_95d88_38 : decode cJ13_bitCount_95d88 38 = .ok (.lushr, 1) := by decide +kernel
theorem dJ13_bitCount_95d88_39 : decode cJ13_bitCount_95d88 39 = .ok (.ladd, 1) := by decide +kernel
theorem dJ13_bitCount_95d88_40 : decode cJ13_bitCount_95d88 40 = .ok (.lstore_n 0, 1) := by decide +kernel
theorem dJ13_bitCount_95d88_41 : decode cJ13_bitCount_95d88 41 = .ok (.lload_n 0, 1) := by decide +kernel
theorem dJ13_bitCount_95d88_42 : decode cJ13_bitCount_95d88 42 = .ok (.lload_n 0, 1) := by decide +kernel
theorem dJ13_bitCount_95d88_43 : decode cJ13_bitCount_95d88 43 = .ok (.bipush 16, 2) := by decide +kernel
theorem dJ13_bitCount_95d88_45 : decode cJ13_bitCount_95d88 45 = .ok (.lushr, 1) := by decide +kernel
theorem dJ13_bitCount_95d88_46 : decode cJ13_bitCount_95d88 46 = .ok (.ladd, 1) := by decide +kernel
theorem dJ13_bitCount_95d88_47 : decode cJ13_bitCount_95d88 47 = .ok (.lstore_n 0, 1) := by decide +kernel
theorem dJ13_bitCount_95d88_48 : decode cJ13_bitCount_95d88 48 = .ok (.lload_n 0, 1) := by decide +kernel
theorem dJ13_bitCount_95d88_49 : decode cJ13_bitCount_95d88 49 = .ok (.lload_n 0, 1) := by decide +kernel
theorem dJ13_bitCount_95d88_50 : decode cJ13_bitCount_95d88 50 = .ok (.bipush 32, 2) := by decide +kernel
theorem dJ13_bitCount_95d88_52 : decode cJ13_bitCount_95d88 52 = .ok (.lushr, 1) := by decide +kernel
theorem dJ13_bitCount_95d88_53 : decode cJ13_bitCount_95d88 53 = .ok (.ladd, 1) := by decide +kernel
theorem dJ13_bitCount_95d88_54 : decode cJ13_bitCount_95d88 54 = .ok (.lstore_n 0, 1) := by decide +kernel
theorem dJ13_bitCount_95d88_55 : decode cJ13_bitCount_95d88 55 = .ok (.lload_n 0, 1) := by decide +kernel
theorem dJ13_bitCount_95d88_56 : decode cJ13_bitCount_95d88 56 = .ok (.l2i, 1) := by decide +kernel
theorem dJ13_bitCount_95d88_57 : decode cJ13_bitCount_95d88 57 = .ok (.bipush 127, 2) := by decide +kernel
theorem dJ13_bitCount_95d88_59 : decode cJ13_bitCount_95d88 59 = .ok (.iand, 1) := by decide +kernel
theorem dJ13_bitCount_95d88_60 : decode cJ13_bitCount_95d88 60 = .ok (.ireturn, 1) := by decide +kernel
theorem dL_word_0 : decode cL_word 0 = .ok (.aload 4, 2) := by decide +kernel
theorem dL_word_2 : decode cL_word 2 = .ok (.iconst 0, 1) := by decide +kernel
theorem dL_word_3 : decode cL_word 3 = .ok (.aload_n 0, 1) := by decide +kernel
theorem dL_word_4 : decode cL_word 4 = .ok (.iload_n 1, 1) := by decide +kernel
theorem dL_word_5 : decode cL_word 5 = .ok (.iload_n 2, 1) := by decide +kernel
theorem dL_word_6 : decode cL_word 6 = .ok (.iload_n 3, 1) := by decide +kernel
theorem dL_word_7 : decode cL_word 7 = .ok (.invokevirtual 7, 3) := by decide +kernel
theorem dL_word_10 : decode cL_word 10 = .ok (.i2l, 1) := by decide +kernel
theorem dL_word_11 : decode cL_word 11 = .ok (.lastore, 1) := by decide +kernel
theorem dL_word_12 : decode cL_word 12 = .ok (.goto 11, 3) := by decide +kernel
theorem dL_word_15 : decode cL_word 15 = .ok (.astore 5, 2) := by decide +kernel
theorem dL_word_17 : decode cL_word 17 = .ok (.iconst 1, 1) := by decide +kernel
theorem dL_word_18 : decode cL_word 18 = .ok (.ireturn, 1) := by decide +kernel
theorem dL_word_19 : decode cL_word 19 = .ok (.astore 5, 2) := by decide +kernel
theorem dL_word_21 : decode cL_word 21 = .ok (.iconst 2, 1) := by decide +kernel
theorem dL_word_22 : decode cL_word 22 = .ok (.ireturn, 1) := by decide +kernel
theorem dL_word_23 : decode cL_word 23 = .ok (.iconst 0, 1) := by decide +kernel
theorem dL_word_24 : decode cL_word 24 = .ok (.ireturn, 1) := by decide +kernel
theorem dL_call_0 : decode cL_call 0 = .ok (.aload_n 3, 1) := by decide +kernel
theorem dL_call_1 : decode cL_call 1 = .ok (.iconst 0, 1) := by decide +kernel
theorem dL_call_2 : decode cL_call 2 = .ok (.aload_n 0, 1) := by decide +kernel
theorem dL_call_3 : decode cL_call 3 = .ok (.iload_n 1, 1) := by decide +kernel
theorem dL_call_4 : decode cL_call 4 = .ok (.iload_n 2, 1) := by decide +kernel
theorem dL_call_5 : decode cL_call 5 = .ok (.invokevirtual 17, 3) := by decide +kernel
theorem dL_call_8 : decode cL_call 8 = .ok (.ifCond .eq 7, 3) := by decide +kernel
theorem dL_call_11 : decode cL_call 11 = .ok (.lconst 1, 1) := by decide +kernel
theorem dL_call_12 : decode cL_call 12 = .ok (.goto 4, 3) := by decide +kernel
theorem dL_call_15 : decode cL_call 15 = .ok (.lconst 0, 1) := by decide +kernel
theorem dL_call_16 : decode cL_call 16 = .ok (.lastore, 1) := by decide +kernel
theorem dL_call_17 : decode cL_call 17 = .ok (.goto 11, 3) := by decide +kernel
theorem dL_call_20 : decode cL_call 20 = .ok (.astore 4, 2) := by decide +kernel
theorem dL_call_22 : decode cL_call 22 = .ok (.iconst 1, 1) := by decide +kernel
theorem dL_call_23 : decode cL_call 23 = .ok (.ireturn, 1) := by decide +kernel
theorem dL_call_24 : decode cL_call 24 = .ok (.astore 4, 2) := by decide +kernel
theorem dL_call_26 : decode cL_call 26 = .ok (.iconst 2, 1) := by decide +kernel
theorem dL_call_27 : decode cL_call 27 = .ok (.ireturn, 1) := by decide +kernel
theorem dL_call_28 : decode cL_call 28 = .ok (.iconst 0, 1) := by decide +kernel
theorem dL_call_29 : decode cL_call 29 = .ok (.ireturn, 1) := by decide +kernel
theorem dL_poet_0 : decode cL_poet 0 = .ok (.aload_n 1, 1) := by decide +kernel
theorem dL_poet_1 : decode cL_poet 1 = .ok (.iconst 0, 1) := by decide +kernel
theorem dL_poet_2 : decode cL_poet 2 = .ok (.aload_n 0, 1) := by decide +kernel
theorem dL_poet_3 : decode cL_poet 3 = .ok (.invokevirtual 23, 3) := by decide +kernel
theorem dL_poet_6 : decode cL_poet 6 = .ok (.i2l, 1) := by decide +kernel
theorem dL_poet_7 : decode cL_poet 7 = .ok (.lastore, 1) := by decide +kernel
theorem dL_poet_8 : decode cL_poet 8 = .ok (.goto 6, 3) := by decide +kernel
theorem dL_poet_11 : decode cL_poet 11 = .ok (.astore_n 2, 1) := by decide +kernel
theorem dL_poet_12 : decode cL_poet 12 = .ok (.iconst 1, 1) := by decide +kernel
theorem dL_poet_13 : decode cL_poet 13 = .ok (.ireturn, 1) := by decide +kernel
theorem dL_poet_14 : decode cL_poet 14 = .ok (.iconst 0, 1) := by decide +kernel
theorem dL_poet_15 : decode cL_poet 15 = .ok (.ireturn, 1) := by decide +kernel
theorem dL_begin_0 : decode cL_begin 0 = .ok (.aload_n 0, 1) := by decide +kernel
theorem dL_begin_1 : decode cL_begin 1 = .ok (.iload_n 1, 1) := by decide +kernel
theorem dL_begin_2 : decode cL_begin 2 = .ok (.iload_n 2, 1) := by decide +kernel
theorem dL_begin_3 : decode cL_begin 3 = .ok (.iload_n 3, 1) := by decide +kernel
theorem dL_begin_4 : decode cL_begin 4 = .ok (.iload 4, 2) := by decide +kernel
theorem dL_begin_6 : decode cL_begin 6 = .ok (.invokevirtual 27, 3) := by decide +kernel
theorem dL_begin_9 : decode cL_begin 9 = .ok (.goto 11, 3) := by decide +kernel
theorem dL_begin_12 : decode cL_begin 12 = .ok (.astore 5, 2) := by decide +kernel
theorem dL_begin_14 : decode cL_begin 14 = .ok (.iconst 1, 1) := by decide +kernel
theorem dL_begin_15 : decode cL_begin 15 = .ok (.ireturn, 1) := by decide +kernel
theorem dL_begin_16 : decode cL_begin 16 = .ok (.astore 5, 2) := by decide +kernel
theorem dL_begin_18 : decode cL_begin 18 = .ok (.iconst 2, 1) := by decide +kernel
theorem dL_begin_19 : decode cL_begin 19 = .ok (.ireturn, 1) := by decide +kernel
theorem dL_begin_20 : decode cL_begin 20 = .ok (.iconst 0, 1) := by decide +kernel
theorem dL_begin_21 : decode cL_begin 21 = .ok (.ireturn, 1) := by decide +kernel
theorem dL_seat_0 : decode cL_seat 0 = .ok (.aload_n 3, 1) := by decide +kernel
theorem dL_seat_1 : decode cL_seat 1 = .ok (.iconst 0, 1) := by decide +kernel
theorem dL_seat_2 : decode cL_seat 2 = .ok (.aload_n 0, 1) := by decide +kernel
theorem dL_seat_3 : decode cL_seat 3 = .ok (.iload_n 1, 1) := by decide +kernel
theorem dL_seat_4 : decode cL_seat 4 = .ok (.iload_n 2, 1) := by decide +kernel
theorem dL_seat_5 : decode cL_seat 5 = .ok (.invokevirtual 31, 3) := by decide +kernel
theorem dL_seat_8 : decode cL_seat 8 = .ok (.i2l, 1) := by decide +kernel
theorem dL_seat_9 : decode cL_seat 9 = .ok (.lastore, 1) := by decide +kernel
theorem dL_seat_10 : decode cL_seat 10 = .ok (.goto 15, 3) := by decide +kernel
theorem dL_seat_13 : decode cL_seat 13 = .ok (.astore 4, 2) := by decide +kernel
theorem dL_seat_15 : decode cL_seat 15 = .ok (.iconst 1, 1) := by decide +kernel
theorem dL_seat_16 : decode cL_seat 16 = .ok (.ireturn, 1) := by decide +kernel
theorem dL_seat_17 : decode cL_seat 17 = .ok (.astore 4, 2) := by decide +kernel
theorem dL_seat_19 : decode cL_seat 19 = .ok (.iconst 2, 1) := by decide +kernel
theorem dL_seat_20 : decode cL_seat 20 = .ok (.ireturn, 1) := by decide +kernel
theorem dL_seat_21 : decode cL_seat 21 = .ok (.astore 4, 2) := by decide +kernel
theorem dL_seat_23 : decode cL_seat 23 = .ok (.iconst 3, 1) := by decide +kernel
theorem dL_seat_24 : decode cL_seat 24 = .ok (.ireturn, 1) := by decide +kernel
theorem dL_seat_25 : decode cL_seat 25 = .ok (.iconst 0, 1) := by decide +kernel
theorem dL_seat_26 : decode cL_seat 26 = .ok (.ireturn, 1) := by decide +kernel
theorem dL_add_0 : decode cL_add 0 = .ok (.aload_n 2, 1) := by decide +kernel
theorem dL_add_1 : decode cL_add 1 = .ok (.iconst 0, 1) := by decide +kernel
theorem dL_add_2 : decode cL_add 2 = .ok (.aload_n 0, 1) := by decide +kernel
theorem dL_add_3 : decode cL_add 3 = .ok (.iload_n 1, 1) := by decide +kernel
theorem dL_add_4 : decode cL_add 4 = .ok (.invokevirtual 35, 3) := by decide +kernel
theorem dL_add_7 : decode cL_add 7 = .ok (.i2l, 1) := by decide +kernel
theorem dL_add_8 : decode cL_add 8 = .ok (.lastore, 1) := by decide +kernel
theorem dL_add_9 : decode cL_add 9 = .ok (.goto 9, 3) := by decide +kernel
theorem dL_add_12 : decode cL_add 12 = .ok (.astore_n 3, 1) := by decide +kernel
theorem dL_add_13 : decode cL_add 13 = .ok (.iconst 1, 1) := by decide +kernel
theorem dL_add_14 : decode cL_add 14 = .ok (.ireturn, 1) := by decide +kernel
theorem dL_add_15 : decode cL_add 15 = .ok (.astore_n 3, 1) := by decide +kernel
theorem dL_add_16 : decode cL_add 16 = .ok (.iconst 2, 1) := by decide +kernel
theorem dL_add_17 : decode cL_add 17 = .ok (.ireturn, 1) := by decide +kernel
theorem dL_add_18 : decode cL_add 18 = .ok (.iconst 0, 1) := by decide +kernel
theorem dL_add_19 : decode cL_add 19 = .ok (.ireturn, 1) := by decide +kernel
theorem dL_offer_0 : decode cL_offer 0 = .ok (.aload_n 2, 1) := by decide +kernel
theorem dL_offer_1 : decode cL_offer 1 = .ok (.iconst 0, 1) := by decide +kernel
theorem dL_offer_2 : decode cL_offer 2 = .ok (.aload_n 0, 1) := by decide +kernel
theorem dL_offer_3 : decode cL_offer 3 = .ok (.iload_n 1, 1) := by decide +kernel
theorem dL_offer_4 : decode cL_offer 4 = .ok (.invokevirtual 39, 3) := by decide +kernel
theorem dL_offer_7 : decode cL_offer 7 = .ok (.i2l, 1) := by decide +kernel
theorem dL_offer_8 : decode cL_offer 8 = .ok (.lastore, 1) := by decide +kernel
theorem dL_offer_9 : decode cL_offer 9 = .ok (.goto 9, 3) := by decide +kernel
theorem dL_offer_12 : decode cL_offer 12 = .ok (.astore_n 3, 1) := by decide +kernel
theorem dL_offer_13 : decode cL_offer 13 = .ok (.iconst 1, 1) := by decide +kernel
theorem dL_offer_14 : decode cL_offer 14 = .ok (.ireturn, 1) := by decide +kernel
theorem dL_offer_15 : decode cL_offer 15 = .ok (.astore_n 3, 1) := by decide +kernel
theorem dL_offer_16 : decode cL_offer 16 = .ok (.iconst 2, 1) := by decide +kernel
theorem dL_offer_17 : decode cL_offer 17 = .ok (.ireturn, 1) := by decide +kernel
theorem dL_offer_18 : decode cL_offer 18 = .ok (.iconst 0, 1) := by decide +kernel
theorem dL_offer_19 : decode cL_offer 19 = .ok (.ireturn, 1) := by decide +kernel
theorem dL_choose_0 : decode cL_choose 0 = .ok (.aload_n 2, 1) := by decide +kernel
theorem dL_choose_1 : decode cL_choose 1 = .ok (.iconst 0, 1) := by decide +kernel
theorem dL_choose_2 : decode cL_choose 2 = .ok (.aload_n 0, 1) := by decide +kernel
theorem dL_choose_3 : decode cL_choose 3 = .ok (.iload_n 1, 1) := by decide +kernel
theorem dL_choose_4 : decode cL_choose 4 = .ok (.invokevirtual 42, 3) := by decide +kernel
theorem dL_choose_7 : decode cL_choose 7 = .ok (.i2l, 1) := by decide +kernel
theorem dL_choose_8 : decode cL_choose 8 = .ok (.lastore, 1) := by decide +kernel
theorem dL_choose_9 : decode cL_choose 9 = .ok (.goto 6, 3) := by decide +kernel
theorem dL_choose_12 : decode cL_choose 12 = .ok (.astore_n 3, 1) := by decide +kernel
theorem dL_choose_13 : decode cL_choose 13 = .ok (.iconst 1, 1) := by decide +kernel
theorem dL_choose_14 : decode cL_choose 14 = .ok (.ireturn, 1) := by decide +kernel
theorem dL_choose_15 : decode cL_choose 15 = .ok (.iconst 0, 1) := by decide +kernel
theorem dL_choose_16 : decode cL_choose 16 = .ok (.ireturn, 1) := by decide +kernel
theorem dL_mend_0 : decode cL_mend 0 = .ok (.aload_n 3, 1) := by decide +kernel
theorem dL_mend_1 : decode cL_mend 1 = .ok (.iconst 0, 1) := by decide +kernel
theorem dL_mend_2 : decode cL_mend 2 = .ok (.aload_n 0, 1) := by decide +kernel
theorem dL_mend_3 : decode cL_mend 3 = .ok (.iload_n 1, 1) := by decide +kernel
theorem dL_mend_4 : decode cL_mend 4 = .ok (.iload_n 2, 1) := by decide +kernel
theorem dL_mend_5 : decode cL_mend 5 = .ok (.invokevirtual 45, 3) := by decide +kernel
theorem dL_mend_8 : decode cL_mend 8 = .ok (.i2l, 1) := by decide +kernel
theorem dL_mend_9 : decode cL_mend 9 = .ok (.lastore, 1) := by decide +kernel
theorem dL_mend_10 : decode cL_mend 10 = .ok (.goto 11, 3) := by decide +kernel
theorem dL_mend_13 : decode cL_mend 13 = .ok (.astore 4, 2) := by decide +kernel
theorem dL_mend_15 : decode cL_mend 15 = .ok (.iconst 1, 1) := by decide +kernel
theorem dL_mend_16 : decode cL_mend 16 = .ok (.ireturn, 1) := by decide +kernel
theorem dL_mend_17 : decode cL_mend 17 = .ok (.astore 4, 2) := by decide +kernel
theorem dL_mend_19 : decode cL_mend 19 = .ok (.iconst 2, 1) := by decide +kernel
theorem dL_mend_20 : decode cL_mend 20 = .ok (.ireturn, 1) := by decide +kernel
theorem dL_mend_21 : decode cL_mend 21 = .ok (.iconst 0, 1) := by decide +kernel
theorem dL_mend_22 : decode cL_mend 22 = .ok (.ireturn, 1) := by decide +kernel
theorem dL_give_0 : decode cL_give 0 = .ok (.aload 4, 2) := by decide +kernel
theorem dL_give_2 : decode cL_give 2 = .ok (.iconst 0, 1) := by decide +kernel
theorem dL_give_3 : decode cL_give 3 = .ok (.aload_n 0, 1) := by decide +kernel
theorem dL_give_4 : decode cL_give 4 = .ok (.iload_n 1, 1) := by decide +kernel
theorem dL_give_5 : decode cL_give 5 = .ok (.iload_n 2, 1) := by decide +kernel
theorem dL_give_6 : decode cL_give 6 = .ok (.iload_n 3, 1) := by decide +kernel
theorem dL_give_7 : decode cL_give 7 = .ok (.invokevirtual 48, 3) := by decide +kernel
theorem dL_give_10 : decode cL_give 10 = .ok (.i2l, 1) := by decide +kernel
theorem dL_give_11 : decode cL_give 11 = .ok (.lastore, 1) := by decide +kernel
theorem dL_give_12 : decode cL_give 12 = .ok (.goto 11, 3) := by decide +kernel
theorem dL_give_15 : decode cL_give 15 = .ok (.astore 5, 2) := by decide +kernel
theorem dL_give_17 : decode cL_give 17 = .ok (.iconst 1, 1) := by decide +kernel
theorem dL_give_18 : decode cL_give 18 = .ok (.ireturn, 1) := by decide +kernel
theorem dL_give_19 : decode cL_give 19 = .ok (.astore 5, 2) := by decide +kernel
theorem dL_give_21 : decode cL_give 21 = .ok (.iconst 2, 1) := by decide +kernel
theorem dL_give_22 : decode cL_give 22 = .ok (.ireturn, 1) := by decide +kernel
theorem dL_give_23 : decode cL_give 23 = .ok (.iconst 0, 1) := by decide +kernel
theorem dL_give_24 : decode cL_give 24 = .ok (.ireturn, 1) := by decide +kernel
theorem dL_copy_0 : decode cL_copy 0 = .ok (.aload_n 2, 1) := by decide +kernel
theorem dL_copy_1 : decode cL_copy 1 = .ok (.iconst 0, 1) := by decide +kernel
theorem dL_copy_2 : decode cL_copy 2 = .ok (.aload_n 0, 1) := by decide +kernel
theorem dL_copy_3 : decode cL_copy 3 = .ok (.iload_n 1, 1) := by decide +kernel
theorem dL_copy_4 : decode cL_copy 4 = .ok (.invokevirtual 51, 3) := by decide +kernel
theorem dL_copy_7 : decode cL_copy 7 = .ok (.i2l, 1) := by decide +kernel
theorem dL_copy_8 : decode cL_copy 8 = .ok (.lastore, 1) := by decide +kernel
theorem dL_copy_9 : decode cL_copy 9 = .ok (.goto 9, 3) := by decide +kernel
theorem dL_copy_12 : decode cL_copy 12 = .ok (.astore_n 3, 1) := by decide +kernel
theorem dL_copy_13 : decode cL_copy 13 = .ok (.iconst 1, 1) := by decide +kernel
theorem dL_copy_14 : decode cL_copy 14 = .ok (.ireturn, 1) := by decide +kernel
theorem dL_copy_15 : decode cL_copy 15 = .ok (.astore_n 3, 1) := by decide +kernel
theorem dL_copy_16 : decode cL_copy 16 = .ok (.iconst 2, 1) := by decide +kernel
theorem dL_copy_17 : decode cL_copy 17 = .ok (.ireturn, 1) := by decide +kernel
theorem dL_copy_18 : decode cL_copy 18 = .ok (.iconst 0, 1) := by decide +kernel
theorem dL_copy_19 : decode cL_copy 19 = .ok (.ireturn, 1) := by decide +kernel
theorem dL_write_0 : decode cL_write 0 = .ok (.aload 5, 2) := by decide +kernel
theorem dL_write_2 : decode cL_write 2 = .ok (.iconst 0, 1) := by decide +kernel
theorem dL_write_3 : decode cL_write 3 = .ok (.aload_n 0, 1) := by decide +kernel
theorem dL_write_4 : decode cL_write 4 = .ok (.iload_n 1, 1) := by decide +kernel
theorem dL_write_5 : decode cL_write 5 = .ok (.iload_n 2, 1) := by decide +kernel
theorem dL_write_6 : decode cL_write 6 = .ok (.iload_n 3, 1) := by decide +kernel
theorem dL_write_7 : decode cL_write 7 = .ok (.iload 4, 2) := by decide +kernel
theorem dL_write_9 : decode cL_write 9 = .ok (.invokevirtual 54, 3) := by decide +kernel
theorem dL_write_12 : decode cL_write 12 = .ok (.i2l, 1) := by decide +kernel
theorem dL_write_13 : decode cL_write 13 = .ok (.lastore, 1) := by decide +kernel
theorem dL_write_14 : decode cL_write 14 = .ok (.goto 7, 3) := by decide +kernel
theorem dL_write_17 : decode cL_write 17 = .ok (.astore 6, 2) := by decide +kernel
theorem dL_write_19 : decode cL_write 19 = .ok (.iconst 1, 1) := by decide +kernel
theorem dL_write_20 : decode cL_write 20 = .ok (.ireturn, 1) := by decide +kernel
theorem dL_write_21 : decode cL_write 21 = .ok (.iconst 0, 1) := by decide +kernel
theorem dL_write_22 : decode cL_write 22 = .ok (.ireturn, 1) := by decide +kernel
theorem dL_hide_0 : decode cL_hide 0 = .ok (.aload_n 3, 1) := by decide +kernel
theorem dL_hide_1 : decode cL_hide 1 = .ok (.iconst 0, 1) := by decide +kernel
theorem dL_hide_2 : decode cL_hide 2 = .ok (.aload_n 0, 1) := by decide +kernel
theorem dL_hide_3 : decode cL_hide 3 = .ok (.iload_n 1, 1) := by decide +kernel
theorem dL_hide_4 : decode cL_hide 4 = .ok (.iload_n 2, 1) := by decide +kernel
theorem dL_hide_5 : decode cL_hide 5 = .ok (.invokevirtual 58, 3) := by decide +kernel
theorem dL_hide_8 : decode cL_hide 8 = .ok (.ifCond .eq 7, 3) := by decide +kernel
theorem dL_hide_11 : decode cL_hide 11 = .ok (.lconst 1, 1) := by decide +kernel
theorem dL_hide_12 : decode cL_hide 12 = .ok (.goto 4, 3) := by decide +kernel
theorem dL_hide_15 : decode cL_hide 15 = .ok (.lconst 0, 1) := by decide +kernel
theorem dL_hide_16 : decode cL_hide 16 = .ok (.lastore, 1) := by decide +kernel
theorem dL_hide_17 : decode cL_hide 17 = .ok (.goto 7, 3) := by decide +kernel
theorem dL_hide_20 : decode cL_hide 20 = .ok (.astore 4, 2) := by decide +kernel
theorem dL_hide_22 : decode cL_hide 22 = .ok (.iconst 1, 1) := by decide +kernel
theorem dL_hide_23 : decode cL_hide 23 = .ok (.ireturn, 1) := by decide +kernel
theorem dL_hide_24 : decode cL_hide 24 = .ok (.iconst 0, 1) := by decide +kernel
theorem dL_hide_25 : decode cL_hide 25 = .ok (.ireturn, 1) := by decide +kernel
theorem dL_ofLink_0 : decode cL_ofLink 0 = .ok (.aload_n 3, 1) := by decide +kernel
theorem dL_ofLink_1 : decode cL_ofLink 1 = .ok (.iconst 0, 1) := by decide +kernel
theorem dL_ofLink_2 : decode cL_ofLink 2 = .ok (.aload_n 0, 1) := by decide +kernel
theorem dL_ofLink_3 : decode cL_ofLink 3 = .ok (.iload_n 1, 1) := by decide +kernel
theorem dL_ofLink_4 : decode cL_ofLink 4 = .ok (.iload_n 2, 1) := by decide +kernel
theorem dL_ofLink_5 : decode cL_ofLink 5 = .ok (.invokevirtual 62, 3) := by decide +kernel
theorem dL_ofLink_8 : decode cL_ofLink 8 = .ok (.i2l, 1) := by decide +kernel
theorem dL_ofLink_9 : decode cL_ofLink 9 = .ok (.lastore, 1) := by decide +kernel
theorem dL_ofLink_10 : decode cL_ofLink 10 = .ok (.goto 11, 3) := by decide +kernel
theorem dL_ofLink_13 : decode cL_ofLink 13 = .ok (.astore 4, 2) := by decide +kernel
theorem dL_ofLink_15 : decode cL_ofLink 15 = .ok (.iconst 1, 1) := by decide +kernel
theorem dL_ofLink_16 : decode cL_ofLink 16 = .ok (.ireturn, 1) := by decide +kernel
theorem dL_ofLink_17 : decode cL_ofLink 17 = .ok (.astore 4, 2) := by decide +kernel
theorem dL_ofLink_19 : decode cL_ofLink 19 = .ok (.iconst 2, 1) := by decide +kernel
theorem dL_ofLink_20 : decode cL_ofLink 20 = .ok (.ireturn, 1) := by decide +kernel
theorem dL_ofLink_21 : decode cL_ofLink 21 = .ok (.iconst 0, 1) := by decide +kernel
theorem dL_ofLink_22 : decode cL_ofLink 22 = .ok (.ireturn, 1) := by decide +kernel
theorem dL_wordAt_0 : decode cL_wordAt 0 = .ok (.aload_n 3, 1) := by decide +kernel
theorem dL_wordAt_1 : decode cL_wordAt 1 = .ok (.iconst 0, 1) := by decide +kernel
theorem dL_wordAt_2 : decode cL_wordAt 2 = .ok (.aload_n 0, 1) := by decide +kernel
theorem dL_wordAt_3 : decode cL_wordAt 3 = .ok (.iload_n 1, 1) := by decide +kernel
theorem dL_wordAt_4 : decode cL_wordAt 4 = .ok (.iload_n 2, 1) := by decide +kernel
theorem dL_wordAt_5 : decode cL_wordAt 5 = .ok (.invokevirtual 65, 3) := by decide +kernel
theorem dL_wordAt_8 : decode cL_wordAt 8 = .ok (.i2l, 1) := by decide +kernel
theorem dL_wordAt_9 : decode cL_wordAt 9 = .ok (.lastore, 1) := by decide +kernel
theorem dL_wordAt_10 : decode cL_wordAt 10 = .ok (.goto 7, 3) := by decide +kernel
theorem dL_wordAt_13 : decode cL_wordAt 13 = .ok (.astore 4, 2) := by decide +kernel
theorem dL_wordAt_15 : decode cL_wordAt 15 = .ok (.iconst 1, 1) := by decide +kernel
theorem dL_wordAt_16 : decode cL_wordAt 16 = .ok (.ireturn, 1) := by decide +kernel
theorem dL_wordAt_17 : decode cL_wordAt 17 = .ok (.iconst 0, 1) := by decide +kernel
theorem dL_wordAt_18 : decode cL_wordAt 18 = .ok (.ireturn, 1) := by decide +kernel
theorem dL_faultAnew_0 : decode cL_faultAnew 0 = .ok (.aload_n 2, 1) := by decide +kernel
theorem dL_faultAnew_1 : decode cL_faultAnew 1 = .ok (.iconst 0, 1) := by decide +kernel
theorem dL_faultAnew_2 : decode cL_faultAnew 2 = .ok (.aload_n 0, 1) := by decide +kernel
theorem dL_faultAnew_3 : decode cL_faultAnew 3 = .ok (.iload_n 1, 1) := by decide +kernel
theorem dL_faultAnew_4 : decode cL_faultAnew 4 = .ok (.invokevirtual 68, 3) := by decide +kernel
theorem dL_faultAnew_7 : decode cL_faultAnew 7 = .ok (.i2l, 1) := by decide +kernel
theorem dL_faultAnew_8 : decode cL_faultAnew 8 = .ok (.lastore, 1) := by decide +kernel
theorem dL_faultAnew_9 : decode cL_faultAnew 9 = .ok (.goto 6, 3) := by decide +kernel
theorem dL_faultAnew_12 : decode cL_faultAnew 12 = .ok (.astore_n 3, 1) := by decide +kernel
theorem dL_faultAnew_13 : decode cL_faultAnew 13 = .ok (.iconst 1, 1) := by decide +kernel
theorem dL_faultAnew_14 : decode cL_faultAnew 14 = .ok (.ireturn, 1) := by decide +kernel
theorem dL_faultAnew_15 : decode cL_faultAnew 15 = .ok (.iconst 0, 1) := by decide +kernel
theorem dL_faultAnew_16 : decode cL_faultAnew 16 = .ok (.ireturn, 1) := by decide +kernel
theorem dL_chances_0 : decode cL_chances 0 = .ok (.aload_n 2, 1) := by decide +kernel
theorem dL_chances_1 : decode cL_chances 1 = .ok (.iconst 0, 1) := by decide +kernel
theorem dL_chances_2 : decode cL_chances 2 = .ok (.aload_n 0, 1) := by decide +kernel
theorem dL_chances_3 : decode cL_chances 3 = .ok (.iload_n 1, 1) := by decide +kernel
theorem dL_chances_4 : decode cL_chances 4 = .ok (.invokevirtual 71, 3) := by decide +kernel
theorem dL_chances_7 : decode cL_chances 7 = .ok (.i2l, 1) := by decide +kernel
theorem dL_chances_8 : decode cL_chances 8 = .ok (.lastore, 1) := by decide +kernel
theorem dL_chances_9 : decode cL_chances 9 = .ok (.goto 6, 3) := by decide +kernel
theorem dL_chances_12 : decode cL_chances 12 = .ok (.astore_n 3, 1) := by decide +kernel
theorem dL_chances_13 : decode cL_chances 13 = .ok (.iconst 1, 1) := by decide +kernel
theorem dL_chances_14 : decode cL_chances 14 = .ok (.ireturn, 1) := by decide +kernel
theorem dL_chances_15 : decode cL_chances 15 = .ok (.iconst 0, 1) := by decide +kernel
theorem dL_chances_16 : decode cL_chances 16 = .ok (.ireturn, 1) := by decide +kernel
theorem dL_far_0 : decode cL_far 0 = .ok (.aload_n 3, 1) := by decide +kernel
theorem dL_far_1 : decode cL_far 1 = .ok (.iconst 0, 1) := by decide +kernel
theorem dL_far_2 : decode cL_far 2 = .ok (.aload_n 0, 1) := by decide +kernel
theorem dL_far_3 : decode cL_far 3 = .ok (.iload_n 1, 1) := by decide +kernel
theorem dL_far_4 : decode cL_far 4 = .ok (.iload_n 2, 1) := by decide +kernel
theorem dL_far_5 : decode cL_far 5 = .ok (.invokevirtual 74, 3) := by decide +kernel
theorem dL_far_8 : decode cL_far 8 = .ok (.i2l, 1) := by decide +kernel
theorem dL_far_9 : decode cL_far 9 = .ok (.lastore, 1) := by decide +kernel
theorem dL_far_10 : decode cL_far 10 = .ok (.goto 11, 3) := by decide +kernel
theorem dL_far_13 : decode cL_far 13 = .ok (.astore 4, 2) := by decide +kernel
theorem dL_far_15 : decode cL_far 15 = .ok (.iconst 1, 1) := by decide +kernel
theorem dL_far_16 : decode cL_far 16 = .ok (.ireturn, 1) := by decide +kernel
theorem dL_far_17 : decode cL_far 17 = .ok (.astore 4, 2) := by decide +kernel
theorem dL_far_19 : decode cL_far 19 = .ok (.iconst 2, 1) := by decide +kernel
theorem dL_far_20 : decode cL_far 20 = .ok (.ireturn, 1) := by decide +kernel
theorem dL_far_21 : decode cL_far 21 = .ok (.iconst 0, 1) := by decide +kernel
theorem dL_far_22 : decode cL_far 22 = .ok (.ireturn, 1) := by decide +kernel
theorem dL_source_0 : decode cL_source 0 = .ok (.aload_n 2, 1) := by decide +kernel
theorem dL_source_1 : decode cL_source 1 = .ok (.iconst 0, 1) := by decide +kernel
theorem dL_source_2 : decode cL_source 2 = .ok (.aload_n 0, 1) := by decide +kernel
theorem dL_source_3 : decode cL_source 3 = .ok (.iload_n 1, 1) := by decide +kernel
theorem dL_source_4 : decode cL_source 4 = .ok (.invokevirtual 77, 3) := by decide +kernel
theorem dL_source_7 : decode cL_source 7 = .ok (.i2l, 1) := by decide +kernel
theorem dL_source_8 : decode cL_source 8 = .ok (.lastore, 1) := by decide +kernel
theorem dL_source_9 : decode cL_source 9 = .ok (.goto 6, 3) := by decide +kernel
theorem dL_source_12 : decode cL_source 12 = .ok (.astore_n 3, 1) := by decide +kernel
theorem dL_source_13 : decode cL_source 13 = .ok (.iconst 1, 1) := by decide +kernel
theorem dL_source_14 : decode cL_source 14 = .ok (.ireturn, 1) := by decide +kernel
theorem dL_source_15 : decode cL_source 15 = .ok (.iconst 0, 1) := by decide +kernel
theorem dL_source_16 : decode cL_source 16 = .ok (.ireturn, 1) := by decide +kernel
theorem dL_hand_0 : decode cL_hand 0 = .ok (.aload_n 2, 1) := by decide +kernel
theorem dL_hand_1 : decode cL_hand 1 = .ok (.iconst 0, 1) := by decide +kernel
theorem dL_hand_2 : decode cL_hand 2 = .ok (.aload_n 0, 1) := by decide +kernel
theorem dL_hand_3 : decode cL_hand 3 = .ok (.iload_n 1, 1) := by decide +kernel
theorem dL_hand_4 : decode cL_hand 4 = .ok (.invokevirtual 80, 3) := by decide +kernel
theorem dL_hand_7 : decode cL_hand 7 = .ok (.i2l, 1) := by decide +kernel
theorem dL_hand_8 : decode cL_hand 8 = .ok (.lastore, 1) := by decide +kernel
theorem dL_hand_9 : decode cL_hand 9 = .ok (.goto 6, 3) := by decide +kernel
theorem dL_hand_12 : decode cL_hand 12 = .ok (.astore_n 3, 1) := by decide +kernel
theorem dL_hand_13 : decode cL_hand 13 = .ok (.iconst 1, 1) := by decide +kernel
theorem dL_hand_14 : decode cL_hand 14 = .ok (.ireturn, 1) := by decide +kernel
theorem dL_hand_15 : decode cL_hand 15 = .ok (.iconst 0, 1) := by decide +kernel
theorem dL_hand_16 : decode cL_hand 16 = .ok (.ireturn, 1) := by decide +kernel
theorem dL_law_0 : decode cL_law 0 = .ok (.new 8, 3) := by decide +kernel
theorem dL_law_3 : decode cL_law 3 = .ok (.dup, 1) := by decide +kernel
theorem dL_law_4 : decode cL_law 4 = .ok (.invokespecial 83, 3) := by decide +kernel
theorem dL_law_7 : decode cL_law 7 = .ok (.astore_n 1, 1) := by decide +kernel
theorem dL_law_8 : decode cL_law 8 = .ok (.new 84, 3) := by decide +kernel
theorem dL_law_11 : decode cL_law 11 = .ok (.dup, 1) := by decide +kernel
theorem dL_law_12 : decode cL_law 12 = .ok (.invokespecial 86, 3) := by decide +kernel
theorem dL_law_15 : decode cL_law 15 = .ok (.astore_n 2, 1) := by decide +kernel
theorem dL_law_16 : decode cL_law 16 = .ok (.iconst 1, 1) := by decide +kernel
theorem dL_law_17 : decode cL_law 17 = .ok (.newarray .long, 2) := by decide +kernel
theorem dL_law_19 : decode cL_law 19 = .ok (.astore_n 3, 1) := by decide +kernel
theorem dL_law_20 : decode cL_law 20 = .ok (.iconst 0, 1) := by decide +kernel
theorem dL_law_21 : decode cL_law 21 = .ok (.istore 4, 2) := by decide +kernel
theorem dL_law_23 : decode cL_law 23 = .ok (.iload 4, 2) := by decide +kernel
theorem dL_law_25 : decode cL_law 25 = .ok (.aload_n 0, 1) := by decide +kernel
theorem dL_law_26 : decode cL_law 26 = .ok (.arraylength, 1) := by decide +kernel
theorem dL_law_27 : decode cL_law 27 = .ok (.iconst 5, 1) := by decide +kernel
theorem dL_law_28 : decode cL_law 28 = .ok (.isub, 1) := by decide +kernel
theorem dL_law_29 : decode cL_law 29 = .ok (.if_icmp .gt 1516, 3) := by decide +kernel
theorem dL_law_32 : decode cL_law 32 = .ok (.aload_n 0, 1) := by decide +kernel
theorem dL_law_33 : decode cL_law 33 = .ok (.iload 4, 2) := by decide +kernel
theorem dL_law_35 : decode cL_law 35 = .ok (.iaload, 1) := by decide +kernel
theorem dL_law_36 : decode cL_law 36 = .ok (.bipush 31, 2) := by decide +kernel
theorem dL_law_38 : decode cL_law 38 = .ok (.iand, 1) := by decide +kernel
theorem dL_law_39 : decode cL_law 39 = .ok (.tableswitch 1500 0 24 #[113, 193, 268, 312, 384, 452, 508, 521, 577, 590, 646, 714, 794, 850, 942, 1033, 1046, 1059, 1127, 1195, 1251, 1307, 1320, 1388, 1444], 113) := by decide +kernel
theorem dL_law_152 : decode cL_law 152 = .ok (.aload_n 1, 1) := by decide +kernel
theorem dL_law_153 : decode cL_law 153 = .ok (.aload_n 0, 1) := by decide +kernel
theorem dL_law_154 : decode cL_law 154 = .ok (.iload 4, 2) := by decide +kernel
theorem dL_law_156 : decode cL_law 156 = .ok (.iconst 1, 1) := by decide +kernel
theorem dL_law_157 : decode cL_law 157 = .ok (.iadd, 1) := by decide +kernel
theorem dL_law_158 : decode cL_law 158 = .ok (.iaload, 1) := by decide +kernel
theorem dL_law_159 : decode cL_law 159 = .ok (.aload_n 0, 1) := by decide +kernel
theorem dL_law_160 : decode cL_law 160 = .ok (.iload 4, 2) := by decide +kernel
theorem dL_law_162 : decode cL_law 162 = .ok (.iconst 2, 1) := by decide +kernel
theorem dL_law_163 : decode cL_law 163 = .ok (.iadd, 1) := by decide +kernel
theorem dL_law_164 : decode cL_law 164 = .ok (.iaload, 1) := by decide +kernel
theorem dL_law_165 : decode cL_law 165 = .ok (.aload_n 0, 1) := by decide +kernel
theorem dL_law_166 : decode cL_law 166 = .ok (.iload 4, 2) := by decide +kernel
theorem dL_law_168 : decode cL_law 168 = .ok (.iconst 3, 1) := by decide +kernel
theorem dL_law_169 : decode cL_law 169 = .ok (.iadd, 1) := by decide +kernel
theorem dL_law_170 : decode cL_law 170 = .ok (.iaload, 1) := by decide +kernel
theorem dL_law_171 : decode cL_law 171 = .ok (.aload_n 3, 1) := by decide +kernel
theorem dL_law_172 : decode cL_law 172 = .ok (.invokestatic 87, 3) := by decide +kernel
theorem dL_law_175 : decode cL_law 175 = .ok (.istore 5, 2) := by decide +kernel
theorem dL_law_177 : decode cL_law 177 = .ok (.aload_n 2, 1) := by decide +kernel
theorem dL_law_178 : decode cL_law 178 = .ok (.aload_n 0, 1) := by decide +kernel
theorem dL_law_179 : decode cL_law 179 = .ok (.iload 4, 2) := by decide +kernel
theorem dL_law_181 : decode cL_law 181 = .ok (.iconst 1, 1) := by decide +kernel
theorem dL_law_182 : decode cL_law 182 = .ok (.iadd, 1) := by decide +kernel
theorem dL_law_183 : decode cL_law 183 = .ok (.iaload, 1) := by decide +kernel
theorem dL_law_184 : decode cL_law 184 = .ok (.aload_n 0, 1) := by decide +kernel
theorem dL_law_185 : decode cL_law 185 = .ok (.iload 4, 2) := by decide +kernel
theorem dL_law_187 : decode cL_law 187 = .ok (.iconst 2, 1) := by decide +kernel
theorem dL_law_188 : decode cL_law 188 = .ok (.iadd, 1) := by decide +kernel
theorem dL_law_189 : decode cL_law 189 = .ok (.iaload, 1) := by decide +kernel
theorem dL_law_190 : decode cL_law 190 = .ok (.aload_n 0, 1) := by decide +kernel
theorem dL_law_191 : decode cL_law 191 = .ok (.iload 4, 2) := by decide +kernel
theorem dL_law_193 : decode cL_law 193 = .ok (.iconst 3, 1) := by decide +kernel
theorem dL_law_194 : decode cL_law 194 = .ok (.iadd, 1) := by decide +kernel
theorem dL_law_195 : decode cL_law 195 = .ok (.iaload, 1) := by decide +kernel
theorem dL_law_196 : decode cL_law 196 = .ok (.invokevirtual 92, 3) := by decide +kernel
theorem dL_law_199 : decode cL_law 199 = .ok (.istore 6, 2) := by decide +kernel
theorem dL_law_201 : decode cL_law 201 = .ok (.aload_n 2, 1) := by decide +kernel
theorem dL_law_202 : decode cL_law 202 = .ok (.invokevirtual 93, 3) := by decide +kernel
theorem dL_law_205 : decode cL_law 205 = .ok (.iload 5, 2) := by decide +kernel
theorem dL_law_207 : decode cL_law 207 = .ok (.if_icmp .eq 5, 3) := by decide +kernel
theorem dL_law_210 : decode cL_law 210 = .ok (.iconst 0, 1) := by decide +kernel
theorem dL_law_211 : decode cL_law 211 = .ok (.ireturn, 1) := by decide +kernel
theorem dL_law_212 : decode cL_law 212 = .ok (.iload 5, 2) := by decide +kernel
theorem dL_law_214 : decode cL_law 214 = .ok (.ifCond .ne 15, 3) := by decide +kernel
theorem dL_law_217 : decode cL_law 217 = .ok (.aload_n 3, 1) := by decide +kernel
theorem dL_law_218 : decode cL_law 218 = .ok (.iconst 0, 1) := by decide +kernel
theorem dL_law_219 : decode cL_law 219 = .ok (.laload, 1) := by decide +kernel
theorem dL_law_220 : decode cL_law 220 = .ok (.iload 6, 2) := by decide +kernel
theorem dL_law_222 : decode cL_law 222 = .ok (.i2l, 1) := by decide +kernel
theorem dL_law_223 : decode cL_law 223 = .ok (.lcmp, 1) := by decide +kernel
theorem dL_law_224 : decode cL_law 224 = .ok (.ifCond .eq 5, 3) := by decide +kernel
theorem dL_law_227 : decode cL_law 227 = .ok (.iconst 0, 1) := by decide +kernel
theorem dL_law_228 : decode cL_law 228 = .ok (.ireturn, 1) := by decide +kernel
theorem dL_law_229 : decode cL_law 229 = .ok (.goto 1310, 3) := by decide +kernel
theorem dL_law_232 : decode cL_law 232 = .ok (.aload_n 1, 1) := by decide +kernel
theorem dL_law_233 : decode cL_law 233 = .ok (.aload_n 0, 1) := by decide +kernel
theorem dL_law_234 : decode cL_law 234 = .ok (.iload 4, 2) := by decide +kernel
theorem dL_law_236 : decode cL_law 236 = .ok (.iconst 1, 1) := by decide +kernel
theorem dL_law_237 : decode cL_law 237 = .ok (.iadd, 1) := by decide +kernel
theorem dL_law_238 : decode cL_law 238 = .ok (.iaload, 1) := by decide +kernel
theorem dL_law_239 : decode cL_law 239 = .ok (.aload_n 0, 1) := by decide +kernel
theorem dL_law_240 : decode cL_law 240 = .ok (.iload 4, 2) := by decide +kernel
theorem dL_law_242 : decode cL_law 242 = .ok (.iconst 2, 1) := by decide +kernel
theorem dL_law_243 : decode cL_law 243 = .ok (.iadd, 1) := by decide +kernel
theorem dL_law_244 : decode cL_law 244 = .ok (.iaload, 1) := by decide +kernel
theorem dL_law_245 : decode cL_law 245 = .ok (.aload_n 3, 1) := by decide +kernel
theorem dL_law_246 : decode cL_law 246 = .ok (.invokestatic 96, 3) := by decide +kernel
theorem dL_law_249 : decode cL_law 249 = .ok (.istore 5, 2) := by decide +kernel
theorem dL_law_251 : decode cL_law 251 = .ok (.aload_n 2, 1) := by decide +kernel
theorem dL_law_252 : decode cL_law 252 = .ok (.aload_n 0, 1) := by decide +kernel
theorem dL_law_253 : decode cL_law 253 = .ok (.iload 4, 2) := by decide +kernel
theorem dL_law_255 : decode cL_law 255 = .ok (.iconst 1, 1) := by decide +kernel
theorem dL_law_256 : decode cL_law 256 = .ok (.iadd, 1) := by decide +kernel
theorem dL_law_257 : decode cL_law 257 = .ok (.iaload, 1) := by decide +kernel
theorem dL_law_258 : decode cL_law 258 = .ok (.aload_n 0, 1) := by decide +kernel
theorem dL_law_259 : decode cL_law 259 = .ok (.iload 4, 2) := by decide +kernel
theorem dL_law_261 : decode cL_law 261 = .ok (.iconst 2, 1) := by decide +kernel
theorem dL_law_262 : decode cL_law 262 = .ok (.iadd, 1) := by decide +kernel
theorem dL_law_263 : decode cL_law 263 = .ok (.iaload, 1) := by decide +kernel
theorem dL_law_264 : decode cL_law 264 = .ok (.invokevirtual 99, 3) := by decide +kernel
theorem dL_law_267 : decode cL_law 267 = .ok (.istore 6, 2) := by decide +kernel
theorem dL_law_269 : decode cL_law 269 = .ok (.aload_n 2, 1) := by decide +kernel
theorem dL_law_270 : decode cL_law 270 = .ok (.invokevirtual 93, 3) := by decide +kernel
theorem dL_law_273 : decode cL_law 273 = .ok (.iload 5, 2) := by decide +kernel
theorem dL_law_275 : decode cL_law 275 = .ok (.if_icmp .eq 5, 3) := by decide +kernel
theorem dL_law_278 : decode cL_law 278 = .ok (.iconst 0, 1) := by decide +kernel
theorem dL_law_279 : decode cL_law 279 = .ok (.ireturn, 1) := by decide +kernel
theorem dL_law_280 : decode cL_law 280 = .ok (.iload 5, 2) := by decide +kernel
theorem dL_law_282 : decode cL_law 282 = .ok (.ifCond .ne 22, 3) := by decide +kernel
theorem dL_law_285 : decode cL_law 285 = .ok (.aload_n 3, 1) := by decide +kernel
theorem dL_law_286 : decode cL_law 286 = .ok (.iconst 0, 1) := by decide +kernel
theorem dL_law_287 : decode cL_law 287 = .ok (.laload, 1) := by decide +kernel
theorem dL_law_288 : decode cL_law 288 = .ok (.iload 6, 2) := by decide +kernel
theorem dL_law_290 : decode cL_law 290 = .ok (.ifCond .eq 7, 3) := by decide +kernel
theorem dL_law_293 : decode cL_law 293 = .ok (.lconst 1, 1) := by decide +kernel
theorem dL_law_294 : decode cL_law 294 = .ok (.goto 4, 3) := by decide +kernel
theorem dL_law_297 : decode cL_law 297 = .ok (.lconst 0, 1) := by decide +kernel
theorem dL_law_298 : decode cL_law 298 = .ok (.lcmp, 1) := by decide +kernel
theorem dL_law_299 : decode cL_law 299 = .ok (.ifCond .eq 5, 3) := by decide +kernel
theorem dL_law_302 : decode cL_law 302 = .ok (.iconst 0, 1) := by decide +kernel
theorem dL_law_303 : decode cL_law 303 = .ok (.ireturn, 1) := by decide +kernel
theorem dL_law_304 : decode cL_law 304 = .ok (.goto 1235, 3) := by decide +kernel
theorem dL_law_307 : decode cL_law 307 = .ok (.aload_n 1, 1) := by decide +kernel
theorem dL_law_308 : decode cL_law 308 = .ok (.aload_n 3, 1) := by decide +kernel
theorem dL_law_309 : decode cL_law 309 = .ok (.invokestatic 100, 3) := by decide +kernel
theorem dL_law_312 : decode cL_law 312 = .ok (.istore 5, 2) := by decide +kernel
theorem dL_law_314 : decode cL_law 314 = .ok (.aload_n 2, 1) := by decide +kernel
theorem dL_law_315 : decode cL_law 315 = .ok (.invokevirtual 103, 3) := by decide +kernel
theorem dL_law_318 : decode cL_law 318 = .ok (.istore 6, 2) := by decide +kernel
theorem dL_law_320 : decode cL_law 320 = .ok (.aload_n 2, 1) := by decide +kernel
theorem dL_law_321 : decode cL_law 321 = .ok (.invokevirtual 93, 3) := by decide +kernel
theorem dL_law_324 : decode cL_law 324 = .ok (.iload 5, 2) := by decide +kernel
theorem dL_law_326 : decode cL_law 326 = .ok (.if_icmp .eq 5, 3) := by decide +kernel
theorem dL_law_329 : decode cL_law 329 = .ok (.iconst 0, 1) := by decide +kernel
theorem dL_law_330 : decode cL_law 330 = .ok (.ireturn, 1) := by decide +kernel
theorem dL_law_331 : decode cL_law 331 = .ok (.iload 5, 2) := by decide +kernel
theorem dL_law_333 : decode cL_law 333 = .ok (.ifCond .ne 15, 3) := by decide +kernel
theorem dL_law_336 : decode cL_law 336 = .ok (.aload_n 3, 1) := by decide +kernel
theorem dL_law_337 : decode cL_law 337 = .ok (.iconst 0, 1) := by decide +kernel
theorem dL_law_338 : decode cL_law 338 = .ok (.laload, 1) := by decide +kernel
theorem dL_law_339 : decode cL_law 339 = .ok (.iload 6, 2) := by decide +kernel
theorem dL_law_341 : decode cL_law 341 = .ok (.i2l, 1) := by decide +kernel
theorem dL_law_342 : decode cL_law 342 = .ok (.lcmp, 1) := by decide +kernel
theorem dL_law_343 : decode cL_law 343 = .ok (.ifCond .eq 5, 3) := by decide +kernel
theorem dL_law_346 : decode cL_law 346 = .ok (.iconst 0, 1) := by decide +kernel
theorem dL_law_347 : decode cL_law 347 = .ok (.ireturn, 1) := by decide +kernel
theorem dL_law_348 : decode cL_law 348 = .ok (.goto 1191, 3) := by decide +kernel
theorem dL_law_351 : decode cL_law 351 = .ok (.aload_n 1, 1) := by decide +kernel
theorem dL_law_352 : decode cL_law 352 = .ok (.aload_n 0, 1) := by decide +kernel
theorem dL_law_353 : decode cL_law 353 = .ok (.iload 4, 2) := by decide +kernel
theorem dL_law_355 : decode cL_law 355 = .ok (.iconst 1, 1) := by decide +kernel
theorem dL_law_356 : decode cL_law 356 = .ok (.iadd, 1) := by decide +kernel
theorem dL_law_357 : decode cL_law 357 = .ok (.iaload, 1) := by decide +kernel
theorem dL_law_358 : decode cL_law 358 = .ok (.aload_n 0, 1) := by decide +kernel
theorem dL_law_359 : decode cL_law 359 = .ok (.iload 4, 2) := by decide +kernel
theorem dL_law_361 : decode cL_law 361 = .ok (.iconst 2, 1) := by decide +kernel
theorem dL_law_362 : decode cL_law 362 = .ok (.iadd, 1) := by decide +kernel
theorem dL_law_363 : decode cL_law 363 = .ok (.iaload, 1) := by decide +kernel
theorem dL_law_364 : decode cL_law 364 = .ok (.aload_n 0, 1) := by decide +kernel
theorem dL_law_365 : decode cL_law 365 = .ok (.iload 4, 2) := by decide +kernel
theorem dL_law_367 : decode cL_law 367 = .ok (.iconst 3, 1) := by decide +kernel
theorem dL_law_368 : decode cL_law 368 = .ok (.iadd, 1) := by decide +kernel
theorem dL_law_369 : decode cL_law 369 = .ok (.iaload, 1) := by decide +kernel
theorem dL_law_370 : decode cL_law 370 = .ok (.aload_n 0, 1) := by decide +kernel
theorem dL_law_371 : decode cL_law 371 = .ok (.iload 4, 2) := by decide +kernel
theorem dL_law_373 : decode cL_law 373 = .ok (.iconst 4, 1) := by decide +kernel
theorem dL_law_374 : decode cL_law 374 = .ok (.iadd, 1) := by decide +kernel
theorem dL_law_375 : decode cL_law 375 = .ok (.iaload, 1) := by decide +kernel
theorem dL_law_376 : decode cL_law 376 = .ok (.invokestatic 104, 3) := by decide +kernel
theorem dL_law_379 : decode cL_law 379 = .ok (.istore 5, 2) := by decide +kernel
theorem dL_law_381 : decode cL_law 381 = .ok (.aload_n 2, 1) := by decide +kernel
theorem dL_law_382 : decode cL_law 382 = .ok (.aload_n 0, 1) := by decide +kernel
theorem dL_law_383 : decode cL_law 383 = .ok (.iload 4, 2) := by decide +kernel
theorem dL_law_385 : decode cL_law 385 = .ok (.iconst 1, 1) := by decide +kernel
theorem dL_law_386 : decode cL_law 386 = .ok (.iadd, 1) := by decide +kernel
theorem dL_law_387 : decode cL_law 387 = .ok (.iaload, 1) := by decide +kernel
theorem dL_law_388 : decode cL_law 388 = .ok (.aload_n 0, 1) := by decide +kernel
theorem dL_law_389 : decode cL_law 389 = .ok (.iload 4, 2) := by decide +kernel
theorem dL_law_391 : decode cL_law 391 = .ok (.iconst 2, 1) := by decide +kernel
theorem dL_law_392 : decode cL_law 392 = .ok (.iadd, 1) := by decide +kernel
theorem dL_law_393 : decode cL_law 393 = .ok (.iaload, 1) := by decide +kernel
theorem dL_law_394 : decode cL_law 394 = .ok (.aload_n 0, 1) := by decide +kernel
theorem dL_law_395 : decode cL_law 395 = .ok (.iload 4, 2) := by decide +kernel
theorem dL_law_397 : decode cL_law 397 = .ok (.iconst 3, 1) := by decide +kernel
theorem dL_law_398 : decode cL_law 398 = .ok (.iadd, 1) := by decide +kernel
theorem dL_law_399 : decode cL_law 399 = .ok (.iaload, 1) := by decide +kernel
theorem dL_law_400 : decode cL_law 400 = .ok (.aload_n 0, 1) := by decide +kernel
theorem dL_law_401 : decode cL_law 401 = .ok (.iload 4, 2) := by decide +kernel
theorem dL_law_403 : decode cL_law 403 = .ok (.iconst 4, 1) := by decide +kernel
theorem dL_law_404 : decode cL_law 404 = .ok (.iadd, 1) := by decide +kernel
theorem dL_law_405 : decode cL_law 405 = .ok (.iaload, 1) := by decide +kernel
theorem dL_law_406 : decode cL_law 406 = .ok (.invokevirtual 107, 3) := by decide +kernel
theorem dL_law_409 : decode cL_law 409 = .ok (.aload_n 2, 1) := by decide +kernel
theorem dL_law_410 : decode cL_law 410 = .ok (.invokevirtual 93, 3) := by decide +kernel
theorem dL_law_413 : decode cL_law 413 = .ok (.iload 5, 2) := by decide +kernel
theorem dL_law_415 : decode cL_law 415 = .ok (.if_icmp .eq 5, 3) := by decide +kernel
theorem dL_law_418 : decode cL_law 418 = .ok (.iconst 0, 1) := by decide +kernel
theorem dL_law_419 : decode cL_law 419 = .ok (.ireturn, 1) := by decide +kernel
theorem dL_law_420 : decode cL_law 420 = .ok (.goto 1119, 3) := by decide +kernel
theorem dL_law_423 : decode cL_law 423 = .ok (.aload_n 1, 1) := by decide +kernel
theorem dL_law_424 : decode cL_law 424 = .ok (.aload_n 0, 1) := by decide +kernel
theorem dL_law_425 : decode cL_law 425 = .ok (.iload 4, 2) := by decide +kernel
theorem dL_law_427 : decode cL_law 427 = .ok (.iconst 1, 1) := by decide +kernel
theorem dL_law_428 : decode cL_law 428 = .ok (.iadd, 1) := by decide +kernel
theorem dL_law_429 : decode cL_law 429 = .ok (.iaload, 1) := by decide +kernel
theorem dL_law_430 : decode cL_law 430 = .ok (.aload_n 0, 1) := by decide +kernel
theorem dL_law_431 : decode cL_law 431 = .ok (.iload 4, 2) := by decide +kernel
theorem dL_law_433 : decode cL_law 433 = .ok (.iconst 2, 1) := by decide +kernel
theorem dL_law_434 : decode cL_law 434 = .ok (.iadd, 1) := by decide +kernel
theorem dL_law_435 : decode cL_law 435 = .ok (.iaload, 1) := by decide +kernel
theorem dL_law_436 : decode cL_law 436 = .ok (.aload_n 3, 1) := by decide +kernel
theorem dL_law_437 : decode cL_law 437 = .ok (.invokestatic 108, 3) := by decide +kernel
theorem dL_law_440 : decode cL_law 440 = .ok (.istore 5, 2) := by decide +kernel
theorem dL_law_442 : decode cL_law 442 = .ok (.aload_n 2, 1) := by decide +kernel
theorem dL_law_443 : decode cL_law 443 = .ok (.aload_n 0, 1) := by decide +kernel
theorem dL_law_444 : decode cL_law 444 = .ok (.iload 4, 2) := by decide +kernel
theorem dL_law_446 : decode cL_law 446 = .ok (.iconst 1, 1) := by decide +kernel
theorem dL_law_447 : decode cL_law 447 = .ok (.iadd, 1) := by decide +kernel
theorem dL_law_448 : decode cL_law 448 = .ok (.iaload, 1) := by decide +kernel
theorem dL_law_449 : decode cL_law 449 = .ok (.aload_n 0, 1) := by decide +kernel
theorem dL_law_450 : decode cL_law 450 = .ok (.iload 4, 2) := by decide +kernel
theorem dL_law_452 : decode cL_law 452 = .ok (.iconst 2, 1) := by decide +kernel
theorem dL_law_453 : decode cL_law 453 = .ok (.iadd, 1) := by decide +kernel
theorem dL_law_454 : decode cL_law 454 = .ok (.iaload, 1) := by decide +kernel
theorem dL_law_455 : decode cL_law 455 = .ok (.invokevirtual 110, 3) := by decide +kernel
theorem dL_law_458 : decode cL_law 458 = .ok (.istore 6, 2) := by decide +kernel
theorem dL_law_460 : decode cL_law 460 = .ok (.aload_n 2, 1) := by decide +kernel
theorem dL_law_461 : decode cL_law 461 = .ok (.invokevirtual 93, 3) := by decide +kernel
theorem dL_law_464 : decode cL_law 464 = .ok (.iload 5, 2) := by decide +kernel
theorem dL_law_466 : decode cL_law 466 = .ok (.if_icmp .eq 5, 3) := by decide +kernel
theorem dL_law_469 : decode cL_law 469 = .ok (.iconst 0, 1) := by decide +kernel
theorem dL_law_470 : decode cL_law 470 = .ok (.ireturn, 1) := by decide +kernel
theorem dL_law_471 : decode cL_law 471 = .ok (.iload 5, 2) := by decide +kernel
theorem dL_law_473 : decode cL_law 473 = .ok (.ifCond .ne 15, 3) := by decide +kernel
theorem dL_law_476 : decode cL_law 476 = .ok (.aload_n 3, 1) := by decide +kernel
theorem dL_law_477 : decode cL_law 477 = .ok (.iconst 0, 1) := by decide +kernel
theorem dL_law_478 : decode cL_law 478 = .ok (.laload, 1) := by decide +kernel
theorem dL_law_479 : decode cL_law 479 = .ok (.iload 6, 2) := by decide +kernel
theorem dL_law_481 : decode cL_law 481 = .ok (.i2l, 1) := by decide +kernel
theorem dL_law_482 : decode cL_law 482 = .ok (.lcmp, 1) := by decide +kernel
theorem dL_law_483 : decode cL_law 483 = .ok (.ifCond .eq 5, 3) := by decide +kernel
theorem dL_law_486 : decode cL_law 486 = .ok (.iconst 0, 1) := by decide +kernel
theorem dL_law_487 : decode cL_law 487 = .ok (.ireturn, 1) := by decide +kernel
theorem dL_law_488 : decode cL_law 488 = .ok (.goto 1051, 3) := by decide +kernel
theorem dL_law_491 : decode cL_law 491 = .ok (.aload_n 1, 1) := by decide +kernel
theorem dL_law_492 : decode cL_law 492 = .ok (.aload_n 0, 1) := by decide +kernel
theorem dL_law_493 : decode cL_law 493 = .ok (.iload 4, 2) := by decide +kernel
theorem dL_law_495 : decode cL_law 495 = .ok (.iconst 1, 1) := by decide +kernel
theorem dL_law_496 : decode cL_law 496 = .ok (.iadd, 1) := by decide +kernel
theorem dL_law_497 : decode cL_law 497 = .ok (.iaload, 1) := by decide +kernel
theorem dL_law_498 : decode cL_law 498 = .ok (.aload_n 3, 1) := by decide +kernel
theorem dL_law_499 : decode cL_law 499 = .ok (.invokestatic 111, 3) := by decide +kernel
theorem dL_law_502 : decode cL_law 502 = .ok (.istore 5, 2) := by decide +kernel
theorem dL_law_504 : decode cL_law 504 = .ok (.aload_n 2, 1) := by decide +kernel
theorem dL_law_505 : decode cL_law 505 = .ok (.aload_n 0, 1) := by decide +kernel
theorem dL_law_506 : decode cL_law 506 = .ok (.iload 4, 2) := by decide +kernel
theorem dL_law_508 : decode cL_law 508 = .ok (.iconst 1, 1) := by decide +kernel
theorem dL_law_509 : decode cL_law 509 = .ok (.iadd, 1) := by decide +kernel
theorem dL_law_510 : decode cL_law 510 = .ok (.iaload, 1) := by decide +kernel
theorem dL_law_511 : decode cL_law 511 = .ok (.invokevirtual 114, 3) := by decide +kernel
theorem dL_law_514 : decode cL_law 514 = .ok (.istore 6, 2) := by decide +kernel
theorem dL_law_516 : decode cL_law 516 = .ok (.aload_n 2, 1) := by decide +kernel
theorem dL_law_517 : decode cL_law 517 = .ok (.invokevirtual 93, 3) := by decide +kernel
theorem dL_law_520 : decode cL_law 520 = .ok (.iload 5, 2) := by decide +kernel
theorem dL_law_522 : decode cL_law 522 = .ok (.if_icmp .eq 5, 3) := by decide +kernel
theorem dL_law_525 : decode cL_law 525 = .ok (.iconst 0, 1) := by decide +kernel
theorem dL_law_526 : decode cL_law 526 = .ok (.ireturn, 1) := by decide +kernel
theorem dL_law_527 : decode cL_law 527 = .ok (.iload 5, 2) := by decide +kernel
theorem dL_law_529 : decode cL_law 529 = .ok (.ifCond .ne 15, 3) := by decide +kernel
theorem dL_law_532 : decode cL_law 532 = .ok (.aload_n 3, 1) := by decide +kernel
theorem dL_law_533 : decode cL_law 533 = .ok (.iconst 0, 1) := by decide +kernel
theorem dL_law_534 : decode cL_law 534 = .ok (.laload, 1) := by decide +kernel
theorem dL_law_535 : decode cL_law 535 = .ok (.iload 6, 2) := by decide +kernel
theorem dL_law_537 : decode cL_law 537 = .ok (.i2l, 1) := by decide +kernel
theorem dL_law_538 : decode cL_law 538 = .ok (.lcmp, 1) := by decide +kernel
theorem dL_law_539 : decode cL_law 539 = .ok (.ifCond .eq 5, 3) := by decide +kernel
theorem dL_law_542 : decode cL_law 542 = .ok (.iconst 0, 1) := by decide +kernel
theorem dL_law_543 : decode cL_law 543 = .ok (.ireturn, 1) := by decide +kernel
theorem dL_law_544 : decode cL_law 544 = .ok (.goto 995, 3) := by decide +kernel
theorem dL_law_547 : decode cL_law 547 = .ok (.aload_n 1, 1) := by decide +kernel
theorem dL_law_548 : decode cL_law 548 = .ok (.invokevirtual 115, 3) := by decide +kernel
theorem dL_law_551 : decode cL_law 551 = .ok (.aload_n 2, 1) := by decide +kernel
theorem dL_law_552 : decode cL_law 552 = .ok (.invokevirtual 118, 3) := by decide +kernel
theorem dL_law_555 : decode cL_law 555 = .ok (.if_icmp .eq 984, 3) := by decide +kernel
theorem dL_law_558 : decode cL_law 558 = .ok (.iconst 0, 1) := by decide +kernel
theorem dL_law_559 : decode cL_law 559 = .ok (.ireturn, 1) := by decide +kernel
theorem dL_law_560 : decode cL_law 560 = .ok (.aload_n 1, 1) := by decide +kernel
theorem dL_law_561 : decode cL_law 561 = .ok (.aload_n 0, 1) := by decide +kernel
theorem dL_law_562 : decode cL_law 562 = .ok (.iload 4, 2) := by decide +kernel
theorem dL_law_564 : decode cL_law 564 = .ok (.iconst 1, 1) := by decide +kernel
theorem dL_law_565 : decode cL_law 565 = .ok (.iadd, 1) := by decide +kernel
theorem dL_law_566 : decode cL_law 566 = .ok (.iaload, 1) := by decide +kernel
theorem dL_law_567 : decode cL_law 567 = .ok (.aload_n 3, 1) := by decide +kernel
theorem dL_law_568 : decode cL_law 568 = .ok (.invokestatic 119, 3) := by decide +kernel
theorem dL_law_571 : decode cL_law 571 = .ok (.istore 5, 2) := by decide +kernel
theorem dL_law_573 : decode cL_law 573 = .ok (.aload_n 2, 1) := by decide +kernel
theorem dL_law_574 : decode cL_law 574 = .ok (.aload_n 0, 1) := by decide +kernel
theorem dL_law_575 : decode cL_law 575 = .ok (.iload 4, 2) := by decide +kernel
theorem dL_law_577 : decode cL_law 577 = .ok (.iconst 1, 1) := by decide +kernel
theorem dL_law_578 : decode cL_law 578 = .ok (.iadd, 1) := by decide +kernel
theorem dL_law_579 : decode cL_law 579 = .ok (.iaload, 1) := by decide +kernel
theorem dL_law_580 : decode cL_law 580 = .ok (.invokevirtual 121, 3) := by decide +kernel
theorem dL_law_583 : decode cL_law 583 = .ok (.istore 6, 2) := by decide +kernel
theorem dL_law_585 : decode cL_law 585 = .ok (.aload_n 2, 1) := by decide +kernel
theorem dL_law_586 : decode cL_law 586 = .ok (.invokevirtual 93, 3) := by decide +kernel
theorem dL_law_589 : decode cL_law 589 = .ok (.iload 5, 2) := by decide +kernel
theorem dL_law_591 : decode cL_law 591 = .ok (.if_icmp .eq 5, 3) := by decide +kernel
theorem dL_law_594 : decode cL_law 594 = .ok (.iconst 0, 1) := by decide +kernel
theorem dL_law_595 : decode cL_law 595 = .ok (.ireturn, 1) := by decide +kernel
theorem dL_law_596 : decode cL_law 596 = .ok (.iload 5, 2) := by decide +kernel
theorem dL_law_598 : decode cL_law 598 = .ok (.ifCond .ne 15, 3) := by decide +kernel
theorem dL_law_601 : decode cL_law 601 = .ok (.aload_n 3, 1) := by decide +kernel
theorem dL_law_602 : decode cL_law 602 = .ok (.iconst 0, 1) := by decide +kernel
theorem dL_law_603 : decode cL_law 603 = .ok (.laload, 1) := by decide +kernel
theorem dL_law_604 : decode cL_law 604 = .ok (.iload 6, 2) := by decide +kernel
theorem dL_law_606 : decode cL_law 606 = .ok (.i2l, 1) := by decide +kernel
theorem dL_law_607 : decode cL_law 607 = .ok (.lcmp, 1) := by decide +kernel
theorem dL_law_608 : decode cL_law 608 = .ok (.ifCond .eq 5, 3) := by decide +kernel
theorem dL_law_611 : decode cL_law 611 = .ok (.iconst 0, 1) := by decide +kernel
theorem dL_law_612 : decode cL_law 612 = .ok (.ireturn, 1) := by decide +kernel
theorem dL_law_613 : decode cL_law 613 = .ok (.goto 926, 3) := by decide +kernel
theorem dL_law_616 : decode cL_law 616 = .ok (.aload_n 1, 1) := by decide +kernel
theorem dL_law_617 : decode cL_law 617 = .ok (.invokevirtual 122, 3) := by decide +kernel
theorem dL_law_620 : decode cL_law 620 = .ok (.aload_n 2, 1) := by decide +kernel
theorem dL_law_621 : decode cL_law 621 = .ok (.invokevirtual 125, 3) := by decide +kernel
theorem dL_law_624 : decode cL_law 624 = .ok (.if_icmp .eq 915, 3) := by decide +kernel
theorem dL_law_627 : decode cL_law 627 = .ok (.iconst 0, 1) := by decide +kernel
theorem dL_law_628 : decode cL_law 628 = .ok (.ireturn, 1) := by decide +kernel
theorem dL_law_629 : decode cL_law 629 = .ok (.aload_n 1, 1) := by decide +kernel
theorem dL_law_630 : decode cL_law 630 = .ok (.aload_n 0, 1) := by decide +kernel
theorem dL_law_631 : decode cL_law 631 = .ok (.iload 4, 2) := by decide +kernel
theorem dL_law_633 : decode cL_law 633 = .ok (.iconst 1, 1) := by decide +kernel
theorem dL_law_634 : decode cL_law 634 = .ok (.iadd, 1) := by decide +kernel
theorem dL_law_635 : decode cL_law 635 = .ok (.iaload, 1) := by decide +kernel
theorem dL_law_636 : decode cL_law 636 = .ok (.aload_n 3, 1) := by decide +kernel
theorem dL_law_637 : decode cL_law 637 = .ok (.invokestatic 126, 3) := by decide +kernel
theorem dL_law_640 : decode cL_law 640 = .ok (.istore 5, 2) := by decide +kernel
theorem dL_law_642 : decode cL_law 642 = .ok (.aload_n 2, 1) := by decide +kernel
theorem dL_law_643 : decode cL_law 643 = .ok (.aload_n 0, 1) := by decide +kernel
theorem dL_law_644 : decode cL_law 644 = .ok (.iload 4, 2) := by decide +kernel
theorem dL_law_646 : decode cL_law 646 = .ok (.iconst 1, 1) := by decide +kernel
theorem dL_law_647 : decode cL_law 647 = .ok (.iadd, 1) := by decide +kernel
theorem dL_law_648 : decode cL_law 648 = .ok (.iaload, 1) := by decide +kernel
theorem dL_law_649 : decode cL_law 649 = .ok (.invokevirtual 128, 3) := by decide +kernel
theorem dL_law_652 : decode cL_law 652 = .ok (.istore 6, 2) := by decide +kernel
theorem dL_law_654 : decode cL_law 654 = .ok (.aload_n 2, 1) := by decide +kernel
theorem dL_law_655 : decode cL_law 655 = .ok (.invokevirtual 93, 3) := by decide +kernel
theorem dL_law_658 : decode cL_law 658 = .ok (.iload 5, 2) := by decide +kernel
theorem dL_law_660 : decode cL_law 660 = .ok (.if_icmp .eq 5, 3) := by decide +kernel
theorem dL_law_663 : decode cL_law 663 = .ok (.iconst 0, 1) := by decide +kernel
theorem dL_law_664 : decode cL_law 664 = .ok (.ireturn, 1) := by decide +kernel
theorem dL_law_665 : decode cL_law 665 = .ok (.iload 5, 2) := by decide +kernel
theorem dL_law_667 : decode cL_law 667 = .ok (.ifCond .ne 15, 3) := by decide +kernel
theorem dL_law_670 : decode cL_law 670 = .ok (.aload_n 3, 1) := by decide +kernel
theorem dL_law_671 : decode cL_law 671 = .ok (.iconst 0, 1) := by decide +kernel
theorem dL_law_672 : decode cL_law 672 = .ok (.laload, 1) := by decide +kernel
theorem dL_law_673 : decode cL_law 673 = .ok (.iload 6, 2) := by decide +kernel
theorem dL_law_675 : decode cL_law 675 = .ok (.i2l, 1) := by decide +kernel
theorem dL_law_676 : decode cL_law 676 = .ok (.lcmp, 1) := by decide +kernel
theorem dL_law_677 : decode cL_law 677 = .ok (.ifCond .eq 5, 3) := by decide +kernel
theorem dL_law_680 : decode cL_law 680 = .ok (.iconst 0, 1) := by decide +kernel
theorem dL_law_681 : decode cL_law 681 = .ok (.ireturn, 1) := by decide +kernel
theorem dL_law_682 : decode cL_law 682 = .ok (.goto 857, 3) := by decide +kernel
theorem dL_law_685 : decode cL_law 685 = .ok (.aload_n 1, 1) := by decide +kernel
theorem dL_law_686 : decode cL_law 686 = .ok (.aload_n 0, 1) := by decide +kernel
theorem dL_law_687 : decode cL_law 687 = .ok (.iload 4, 2) := by decide +kernel
theorem dL_law_689 : decode cL_law 689 = .ok (.iconst 1, 1) := by decide +kernel
theorem dL_law_690 : decode cL_law 690 = .ok (.iadd, 1) := by decide +kernel
theorem dL_law_691 : decode cL_law 691 = .ok (.iaload, 1) := by decide +kernel
theorem dL_law_692 : decode cL_law 692 = .ok (.aload_n 0, 1) := by decide +kernel
theorem dL_law_693 : decode cL_law 693 = .ok (.iload 4, 2) := by decide +kernel
theorem dL_law_695 : decode cL_law 695 = .ok (.iconst 2, 1) := by decide +kernel
theorem dL_law_696 : decode cL_law 696 = .ok (.iadd, 1) := by decide +kernel
theorem dL_law_697 : decode cL_law 697 = .ok (.iaload, 1) := by decide +kernel
theorem dL_law_698 : decode cL_law 698 = .ok (.aload_n 3, 1) := by decide +kernel
theorem dL_law_699 : decode cL_law 699 = .ok (.invokestatic 129, 3) := by decide +kernel
theorem dL_law_702 : decode cL_law 702 = .ok (.istore 5, 2) := by decide +kernel
theorem dL_law_704 : decode cL_law 704 = .ok (.aload_n 2, 1) := by decide +kernel
theorem dL_law_705 : decode cL_law 705 = .ok (.aload_n 0, 1) := by decide +kernel
theorem dL_law_706 : decode cL_law 706 = .ok (.iload 4, 2) := by decide +kernel
theorem dL_law_708 : decode cL_law 708 = .ok (.iconst 1, 1) := by decide +kernel
theorem dL_law_709 : decode cL_law 709 = .ok (.iadd, 1) := by decide +kernel
theorem dL_law_710 : decode cL_law 710 = .ok (.iaload, 1) := by decide +kernel
theorem dL_law_711 : decode cL_law 711 = .ok (.aload_n 0, 1) := by decide +kernel
theorem dL_law_712 : decode cL_law 712 = .ok (.iload 4, 2) := by decide +kernel
theorem dL_law_714 : decode cL_law 714 = .ok (.iconst 2, 1) := by decide +kernel
theorem dL_law_715 : decode cL_law 715 = .ok (.iadd, 1) := by decide +kernel
theorem dL_law_716 : decode cL_law 716 = .ok (.iaload, 1) := by decide +kernel
theorem dL_law_717 : decode cL_law 717 = .ok (.invokevirtual 131, 3) := by decide +kernel
theorem dL_law_720 : decode cL_law 720 = .ok (.istore 6, 2) := by decide +kernel
theorem dL_law_722 : decode cL_law 722 = .ok (.aload_n 2, 1) := by decide +kernel
theorem dL_law_723 : decode cL_law 723 = .ok (.invokevirtual 93, 3) := by decide +kernel
theorem dL_law_726 : decode cL_law 726 = .ok (.iload 5, 2) := by decide +kernel
theorem dL_law_728 : decode cL_law 728 = .ok (.if_icmp .eq 5, 3) := by decide +kernel
theorem dL_law_731 : decode cL_law 731 = .ok (.iconst 0, 1) := by decide +kernel
theorem dL_law_732 : decode cL_law 732 = .ok (.ireturn, 1) := by decide +kernel
theorem dL_law_733 : decode cL_law 733 = .ok (.iload 5, 2) := by decide +kernel
theorem dL_law_735 : decode cL_law 735 = .ok (.ifCond .ne 15, 3) := by decide +kernel
theorem dL_law_738 : decode cL_law 738 = .ok (.aload_n 3, 1) := by decide +kernel
theorem dL_law_739 : decode cL_law 739 = .ok (.iconst 0, 1) := by decide +kernel
theorem dL_law_740 : decode cL_law 740 = .ok (.laload, 1) := by decide +kernel
theorem dL_law_741 : decode cL_law 741 = .ok (.iload 6, 2) := by decide +kernel
theorem dL_law_743 : decode cL_law 743 = .ok (.i2l, 1) := by decide +kernel
theorem dL_law_744 : decode cL_law 744 = .ok (.lcmp, 1) := by decide +kernel
theorem dL_law_745 : decode cL_law 745 = .ok (.ifCond .eq 5, 3) := by decide +kernel
theorem dL_law_748 : decode cL_law 748 = .ok (.iconst 0, 1) := by decide +kernel
theorem dL_law_749 : decode cL_law 749 = .ok (.ireturn, 1) := by decide +kernel
theorem dL_law_750 : decode cL_law 750 = .ok (.goto 789, 3) := by decide +kernel
theorem dL_law_753 : decode cL_law 753 = .ok (.aload_n 1, 1) := by decide +kernel
theorem dL_law_754 : decode cL_law 754 = .ok (.aload_n 0, 1) := by decide +kernel
theorem dL_law_755 : decode cL_law 755 = .ok (.iload 4, 2) := by decide +kernel
theorem dL_law_757 : decode cL_law 757 = .ok (.iconst 1, 1) := by decide +kernel
theorem dL_law_758 : decode cL_law 758 = .ok (.iadd, 1) := by decide +kernel
theorem dL_law_759 : decode cL_law 759 = .ok (.iaload, 1) := by decide +kernel
theorem dL_law_760 : decode cL_law 760 = .ok (.aload_n 0, 1) := by decide +kernel
theorem dL_law_761 : decode cL_law 761 = .ok (.iload 4, 2) := by decide +kernel
theorem dL_law_763 : decode cL_law 763 = .ok (.iconst 2, 1) := by decide +kernel
theorem dL_law_764 : decode cL_law 764 = .ok (.iadd, 1) := by decide +kernel
theorem dL_law_765 : decode cL_law 765 = .ok (.iaload, 1) := by decide +kernel
theorem dL_law_766 : decode cL_law 766 = .ok (.aload_n 0, 1) := by decide +kernel
theorem dL_law_767 : decode cL_law 767 = .ok (.iload 4, 2) := by decide +kernel
theorem dL_law_769 : decode cL_law 769 = .ok (.iconst 3, 1) := by decide +kernel
theorem dL_law_770 : decode cL_law 770 = .ok (.iadd, 1) := by decide +kernel
theorem dL_law_771 : decode cL_law 771 = .ok (.iaload, 1) := by decide +kernel
theorem dL_law_772 : decode cL_law 772 = .ok (.aload_n 3, 1) := by decide +kernel
theorem dL_law_773 : decode cL_law 773 = .ok (.invokestatic 132, 3) := by decide +kernel
theorem dL_law_776 : decode cL_law 776 = .ok (.istore 5, 2) := by decide +kernel
theorem dL_law_778 : decode cL_law 778 = .ok (.aload_n 2, 1) := by decide +kernel
theorem dL_law_779 : decode cL_law 779 = .ok (.aload_n 0, 1) := by decide +kernel
theorem dL_law_780 : decode cL_law 780 = .ok (.iload 4, 2) := by decide +kernel
theorem dL_law_782 : decode cL_law 782 = .ok (.iconst 1, 1) := by decide +kernel
theorem dL_law_783 : decode cL_law 783 = .ok (.iadd, 1) := by decide +kernel
theorem dL_law_784 : decode cL_law 784 = .ok (.iaload, 1) := by decide +kernel
theorem dL_law_785 : decode cL_law 785 = .ok (.aload_n 0, 1) := by decide +kernel
theorem dL_law_786 : decode cL_law 786 = .ok (.iload 4, 2) := by decide +kernel
theorem dL_law_788 : decode cL_law 788 = .ok (.iconst 2, 1) := by decide +kernel
theorem dL_law_789 : decode cL_law 789 = .ok (.iadd, 1) := by decide +kernel
theorem dL_law_790 : decode cL_law 790 = .ok (.iaload, 1) := by decide +kernel
theorem dL_law_791 : decode cL_law 791 = .ok (.aload_n 0, 1) := by decide +kernel
theorem dL_law_792 : decode cL_law 792 = .ok (.iload 4, 2) := by decide +kernel
theorem dL_law_794 : decode cL_law 794 = .ok (.iconst 3, 1) := by decide +kernel
theorem dL_law_795 : decode cL_law 795 = .ok (.iadd, 1) := by decide +kernel
theorem dL_law_796 : decode cL_law 796 = .ok (.iaload, 1) := by decide +kernel
theorem dL_law_797 : decode cL_law 797 = .ok (.invokevirtual 134, 3) := by decide +kernel
theorem dL_law_800 : decode cL_law 800 = .ok (.istore 6, 2) := by decide +kernel
theorem dL_law_802 : decode cL_law 802 = .ok (.aload_n 2, 1) := by decide +kernel
theorem dL_law_803 : decode cL_law 803 = .ok (.invokevirtual 93, 3) := by decide +kernel
theorem dL_law_806 : decode cL_law 806 = .ok (.iload 5, 2) := by decide +kernel
theorem dL_law_808 : decode cL_law 808 = .ok (.if_icmp .eq 5, 3) := by decide +kernel
theorem dL_law_811 : decode cL_law 811 = .ok (.iconst 0, 1) := by decide +kernel
theorem dL_law_812 : decode cL_law 812 = .ok (.ireturn, 1) := by decide +kernel
theorem dL_law_813 : decode cL_law 813 = .ok (.iload 5, 2) := by decide +kernel
theorem dL_law_815 : decode cL_law 815 = .ok (.ifCond .ne 15, 3) := by decide +kernel
theorem dL_law_818 : decode cL_law 818 = .ok (.aload_n 3, 1) := by decide +kernel
theorem dL_law_819 : decode cL_law 819 = .ok (.iconst 0, 1) := by decide +kernel
theorem dL_law_820 : decode cL_law 820 = .ok (.laload, 1) := by decide +kernel
theorem dL_law_821 : decode cL_law 821 = .ok (.iload 6, 2) := by decide +kernel
theorem dL_law_823 : decode cL_law 823 = .ok (.i2l, 1) := by decide +kernel
theorem dL_law_824 : decode cL_law 824 = .ok (.lcmp, 1) := by decide +kernel
theorem dL_law_825 : decode cL_law 825 = .ok (.ifCond .eq 5, 3) := by decide +kernel
theorem dL_law_828 : decode cL_law 828 = .ok (.iconst 0, 1) := by decide +kernel
theorem dL_law_829 : decode cL_law 829 = .ok (.ireturn, 1) := by decide +kernel
theorem dL_law_830 : decode cL_law 830 = .ok (.goto 709, 3) := by decide +kernel
theorem dL_law_833 : decode cL_law 833 = .ok (.aload_n 1, 1) := by decide +kernel
theorem dL_law_834 : decode cL_law 834 = .ok (.aload_n 0, 1) := by decide +kernel
theorem dL_law_835 : decode cL_law 835 = .ok (.iload 4, 2) := by decide +kernel
theorem dL_law_837 : decode cL_law 837 = .ok (.iconst 1, 1) := by decide +kernel
theorem dL_law_838 : decode cL_law 838 = .ok (.iadd, 1) := by decide +kernel
theorem dL_law_839 : decode cL_law 839 = .ok (.iaload, 1) := by decide +kernel
theorem dL_law_840 : decode cL_law 840 = .ok (.aload_n 3, 1) := by decide +kernel
theorem dL_law_841 : decode cL_law 841 = .ok (.invokestatic 135, 3) := by decide +kernel
theorem dL_law_844 : decode cL_law 844 = .ok (.istore 5, 2) := by decide +kernel
theorem dL_law_846 : decode cL_law 846 = .ok (.aload_n 2, 1) := by decide +kernel
theorem dL_law_847 : decode cL_law 847 = .ok (.aload_n 0, 1) := by decide +kernel
theorem dL_law_848 : decode cL_law 848 = .ok (.iload 4, 2) := by decide +kernel
theorem dL_law_850 : decode cL_law 850 = .ok (.iconst 1, 1) := by decide +kernel
theorem dL_law_851 : decode cL_law 851 = .ok (.iadd, 1) := by decide +kernel
theorem dL_law_852 : decode cL_law 852 = .ok (.iaload, 1) := by decide +kernel
theorem dL_law_853 : decode cL_law 853 = .ok (.invokevirtual 137, 3) := by decide +kernel
theorem dL_law_856 : decode cL_law 856 = .ok (.istore 6, 2) := by decide +kernel
theorem dL_law_858 : decode cL_law 858 = .ok (.aload_n 2, 1) := by decide +kernel
theorem dL_law_859 : decode cL_law 859 = .ok (.invokevirtual 93, 3) := by decide +kernel
theorem dL_law_862 : decode cL_law 862 = .ok (.iload 5, 2) := by decide +kernel
theorem dL_law_864 : decode cL_law 864 = .ok (.if_icmp .eq 5, 3) := by decide +kernel
theorem dL_law_867 : decode cL_law 867 = .ok (.iconst 0, 1) := by decide +kernel
theorem dL_law_868 : decode cL_law 868 = .ok (.ireturn, 1) := by decide +kernel
theorem dL_law_869 : decode cL_law 869 = .ok (.iload 5, 2) := by decide +kernel
theorem dL_law_871 : decode cL_law 871 = .ok (.ifCond .ne 15, 3) := by decide +kernel
theorem dL_law_874 : decode cL_law 874 = .ok (.aload_n 3, 1) := by decide +kernel
theorem dL_law_875 : decode cL_law 875 = .ok (.iconst 0, 1) := by decide +kernel
theorem dL_law_876 : decode cL_law 876 = .ok (.laload, 1) := by decide +kernel
theorem dL_law_877 : decode cL_law 877 = .ok (.iload 6, 2) := by decide +kernel
theorem dL_law_879 : decode cL_law 879 = .ok (.i2l, 1) := by decide +kernel
theorem dL_law_880 : decode cL_law 880 = .ok (.lcmp, 1) := by decide +kernel
theorem dL_law_881 : decode cL_law 881 = .ok (.ifCond .eq 5, 3) := by decide +kernel
theorem dL_law_884 : decode cL_law 884 = .ok (.iconst 0, 1) := by decide +kernel
theorem dL_law_885 : decode cL_law 885 = .ok (.ireturn, 1) := by decide +kernel
theorem dL_law_886 : decode cL_law 886 = .ok (.goto 653, 3) := by decide +kernel
theorem dL_law_889 : decode cL_law 889 = .ok (.aload_n 1, 1) := by decide +kernel
theorem dL_law_890 : decode cL_law 890 = .ok (.aload_n 0, 1) := by decide +kernel
theorem dL_law_891 : decode cL_law 891 = .ok (.iload 4, 2) := by decide +kernel
theorem dL_law_893 : decode cL_law 893 = .ok (.iconst 1, 1) := by decide +kernel
theorem dL_law_894 : decode cL_law 894 = .ok (.iadd, 1) := by decide +kernel
theorem dL_law_895 : decode cL_law 895 = .ok (.iaload, 1) := by decide +kernel
theorem dL_law_896 : decode cL_law 896 = .ok (.aload_n 0, 1) := by decide +kernel
theorem dL_law_897 : decode cL_law 897 = .ok (.iload 4, 2) := by decide +kernel
theorem dL_law_899 : decode cL_law 899 = .ok (.iconst 2, 1) := by decide +kernel
theorem dL_law_900 : decode cL_law 900 = .ok (.iadd, 1) := by decide +kernel
theorem dL_law_901 : decode cL_law 901 = .ok (.iaload, 1) := by decide +kernel
theorem dL_law_902 : decode cL_law 902 = .ok (.aload_n 0, 1) := by decide +kernel
theorem dL_law_903 : decode cL_law 903 = .ok (.iload 4, 2) := by decide +kernel
theorem dL_law_905 : decode cL_law 905 = .ok (.iconst 3, 1) := by decide +kernel
theorem dL_law_906 : decode cL_law 906 = .ok (.iadd, 1) := by decide +kernel
theorem dL_law_907 : decode cL_law 907 = .ok (.iaload, 1) := by decide +kernel
theorem dL_law_908 : decode cL_law 908 = .ok (.aload_n 0, 1) := by decide +kernel
theorem dL_law_909 : decode cL_law 909 = .ok (.iload 4, 2) := by decide +kernel
theorem dL_law_911 : decode cL_law 911 = .ok (.iconst 4, 1) := by decide +kernel
theorem dL_law_912 : decode cL_law 912 = .ok (.iadd, 1) := by decide +kernel
theorem dL_law_913 : decode cL_law 913 = .ok (.iaload, 1) := by decide +kernel
theorem dL_law_914 : decode cL_law 914 = .ok (.aload_n 3, 1) := by decide +kernel
theorem dL_law_915 : decode cL_law 915 = .ok (.invokestatic 138, 3) := by decide +kernel
theorem dL_law_918 : decode cL_law 918 = .ok (.istore 5, 2) := by decide +kernel
theorem dL_law_920 : decode cL_law 920 = .ok (.aload_n 2, 1) := by decide +kernel
theorem dL_law_921 : decode cL_law 921 = .ok (.aload_n 0, 1) := by decide +kernel
theorem dL_law_922 : decode cL_law 922 = .ok (.iload 4, 2) := by decide +kernel
theorem dL_law_924 : decode cL_law 924 = .ok (.iconst 1, 1) := by decide +kernel
theorem dL_law_925 : decode cL_law 925 = .ok (.iadd, 1) := by decide +kernel
theorem dL_law_926 : decode cL_law 926 = .ok (.iaload, 1) := by decide +kernel
theorem dL_law_927 : decode cL_law 927 = .ok (.aload_n 0, 1) := by decide +kernel
theorem dL_law_928 : decode cL_law 928 = .ok (.iload 4, 2) := by decide +kernel
theorem dL_law_930 : decode cL_law 930 = .ok (.iconst 2, 1) := by decide +kernel
theorem dL_law_931 : decode cL_law 931 = .ok (.iadd, 1) := by decide +kernel
theorem dL_law_932 : decode cL_law 932 = .ok (.iaload, 1) := by decide +kernel
theorem dL_law_933 : decode cL_law 933 = .ok (.aload_n 0, 1) := by decide +kernel
theorem dL_law_934 : decode cL_law 934 = .ok (.iload 4, 2) := by decide +kernel
theorem dL_law_936 : decode cL_law 936 = .ok (.iconst 3, 1) := by decide +kernel
theorem dL_law_937 : decode cL_law 937 = .ok (.iadd, 1) := by decide +kernel
theorem dL_law_938 : decode cL_law 938 = .ok (.iaload, 1) := by decide +kernel
theorem dL_law_939 : decode cL_law 939 = .ok (.aload_n 0, 1) := by decide +kernel
theorem dL_law_940 : decode cL_law 940 = .ok (.iload 4, 2) := by decide +kernel
theorem dL_law_942 : decode cL_law 942 = .ok (.iconst 4, 1) := by decide +kernel
theorem dL_law_943 : decode cL_law 943 = .ok (.iadd, 1) := by decide +kernel
theorem dL_law_944 : decode cL_law 944 = .ok (.iaload, 1) := by decide +kernel
theorem dL_law_945 : decode cL_law 945 = .ok (.invokevirtual 141, 3) := by decide +kernel
theorem dL_law_948 : decode cL_law 948 = .ok (.istore 6, 2) := by decide +kernel
theorem dL_law_950 : decode cL_law 950 = .ok (.aload_n 2, 1) := by decide +kernel
theorem dL_law_951 : decode cL_law 951 = .ok (.invokevirtual 93, 3) := by decide +kernel
theorem dL_law_954 : decode cL_law 954 = .ok (.iload 5, 2) := by decide +kernel
theorem dL_law_956 : decode cL_law 956 = .ok (.if_icmp .eq 5, 3) := by decide +kernel
theorem dL_law_959 : decode cL_law 959 = .ok (.iconst 0, 1) := by decide +kernel
theorem dL_law_960 : decode cL_law 960 = .ok (.ireturn, 1) := by decide +kernel
theorem dL_law_961 : decode cL_law 961 = .ok (.iload 5, 2) := by decide +kernel
theorem dL_law_963 : decode cL_law 963 = .ok (.ifCond .ne 15, 3) := by decide +kernel
theorem dL_law_966 : decode cL_law 966 = .ok (.aload_n 3, 1) := by decide +kernel
theorem dL_law_967 : decode cL_law 967 = .ok (.iconst 0, 1) := by decide +kernel
theorem dL_law_968 : decode cL_law 968 = .ok (.laload, 1) := by decide +kernel
theorem dL_law_969 : decode cL_law 969 = .ok (.iload 6, 2) := by decide +kernel
theorem dL_law_971 : decode cL_law 971 = .ok (.i2l, 1) := by decide +kernel
theorem dL_law_972 : decode cL_law 972 = .ok (.lcmp, 1) := by decide +kernel
theorem dL_law_973 : decode cL_law 973 = .ok (.ifCond .eq 5, 3) := by decide +kernel
theorem dL_law_976 : decode cL_law 976 = .ok (.iconst 0, 1) := by decide +kernel
theorem dL_law_977 : decode cL_law 977 = .ok (.ireturn, 1) := by decide +kernel
theorem dL_law_978 : decode cL_law 978 = .ok (.goto 561, 3) := by decide +kernel
theorem dL_law_981 : decode cL_law 981 = .ok (.aload_n 1, 1) := by decide +kernel
theorem dL_law_982 : decode cL_law 982 = .ok (.aload_n 0, 1) := by decide +kernel
theorem dL_law_983 : decode cL_law 983 = .ok (.iload 4, 2) := by decide +kernel
theorem dL_law_985 : decode cL_law 985 = .ok (.iconst 1, 1) := by decide +kernel
theorem dL_law_986 : decode cL_law 986 = .ok (.iadd, 1) := by decide +kernel
theorem dL_law_987 : decode cL_law 987 = .ok (.iaload, 1) := by decide +kernel
theorem dL_law_988 : decode cL_law 988 = .ok (.aload_n 0, 1) := by decide +kernel
theorem dL_law_989 : decode cL_law 989 = .ok (.iload 4, 2) := by decide +kernel
theorem dL_law_991 : decode cL_law 991 = .ok (.iconst 2, 1) := by decide +kernel
theorem dL_law_992 : decode cL_law 992 = .ok (.iadd, 1) := by decide +kernel
theorem dL_law_993 : decode cL_law 993 = .ok (.iaload, 1) := by decide +kernel
theorem dL_law_994 : decode cL_law 994 = .ok (.ifCond .eq 7, 3) := by decide +kernel
theorem dL_law_997 : decode cL_law 997 = .ok (.iconst 1, 1) := by decide +kernel
theorem dL_law_998 : decode cL_law 998 = .ok (.goto 4, 3) := by decide +kernel
theorem dL_law_1001 : decode cL_law 1001 = .ok (.iconst 0, 1) := by decide +kernel
theorem dL_law_1002 : decode cL_law 1002 = .ok (.aload_n 3, 1) := by decide +kernel
theorem dL_law_1003 : decode cL_law 1003 = .ok (.invokestatic 142, 3) := by decide +kernel
theorem dL_law_1006 : decode cL_law 1006 = .ok (.istore 5, 2) := by decide +kernel
theorem dL_law_1008 : decode cL_law 1008 = .ok (.aload_n 2, 1) := by decide +kernel
theorem dL_law_1009 : decode cL_law 1009 = .ok (.aload_n 0, 1) := by decide +kernel
theorem dL_law_1010 : decode cL_law 1010 = .ok (.iload 4, 2) := by decide +kernel
theorem dL_law_1012 : decode cL_law 1012 = .ok (.iconst 1, 1) := by decide +kernel
theorem dL_law_1013 : decode cL_law 1013 = .ok (.iadd, 1) := by decide +kernel
theorem dL_law_1014 : decode cL_law 1014 = .ok (.iaload, 1) := by decide +kernel
theorem dL_law_1015 : decode cL_law 1015 = .ok (.aload_n 0, 1) := by decide +kernel
theorem dL_law_1016 : decode cL_law 1016 = .ok (.iload 4, 2) := by decide +kernel
theorem dL_law_1018 : decode cL_law 1018 = .ok (.iconst 2, 1) := by decide +kernel
theorem dL_law_1019 : decode cL_law 1019 = .ok (.iadd, 1) := by decide +kernel
theorem dL_law_1020 : decode cL_law 1020 = .ok (.iaload, 1) := by decide +kernel
theorem dL_law_1021 : decode cL_law 1021 = .ok (.ifCond .eq 7, 3) := by decide +kernel
theorem dL_law_1024 : decode cL_law 1024 = .ok (.iconst 1, 1) := by decide +kernel
theorem dL_law_1025 : decode cL_law 1025 = .ok (.goto 4, 3) := by decide +kernel
theorem dL_law_1028 : decode cL_law 1028 = .ok (.iconst 0, 1) := by decide +kernel
theorem dL_law_1029 : decode cL_law 1029 = .ok (.invokevirtual 145, 3) := by decide +kernel
theorem dL_law_1032 : decode cL_law 1032 = .ok (.istore 6, 2) := by decide +kernel
theorem dL_law_1034 : decode cL_law 1034 = .ok (.aload_n 2, 1) := by decide +kernel
theorem dL_law_1035 : decode cL_law 1035 = .ok (.invokevirtual 93, 3) := by decide +kernel
theorem dL_law_1038 : decode cL_law 1038 = .ok (.iload 5, 2) := by decide +kernel
theorem dL_law_1040 : decode cL_law 1040 = .ok (.if_icmp .eq 5, 3) := by decide +kernel
theorem dL_law_1043 : decode cL_law 1043 = .ok (.iconst 0, 1) := by decide +kernel
theorem dL_law_1044 : decode cL_law 1044 = .ok (.ireturn, 1) := by decide +kernel
theorem dL_law_1045 : decode cL_law 1045 = .ok (.iload 5, 2) := by decide +kernel
theorem dL_law_1047 : decode cL_law 1047 = .ok (.ifCond .ne 22, 3) := by decide +kernel
theorem dL_law_1050 : decode cL_law 1050 = .ok (.aload_n 3, 1) := by decide +kernel
theorem dL_law_1051 : decode cL_law 1051 = .ok (.iconst 0, 1) := by decide +kernel
theorem dL_law_1052 : decode cL_law 1052 = .ok (.laload, 1) := by decide +kernel
theorem dL_law_1053 : decode cL_law 1053 = .ok (.iload 6, 2) := by decide +kernel
theorem dL_law_1055 : decode cL_law 1055 = .ok (.ifCond .eq 7, 3) := by decide +kernel
theorem dL_law_1058 : decode cL_law 1058 = .ok (.lconst 1, 1) := by decide +kernel
theorem dL_law_1059 : decode cL_law 1059 = .ok (.goto 4, 3) := by decide +kernel
theorem dL_law_1062 : decode cL_law 1062 = .ok (.lconst 0, 1) := by decide +kernel
theorem dL_law_1063 : decode cL_law 1063 = .ok (.lcmp, 1) := by decide +kernel
theorem dL_law_1064 : decode cL_law 1064 = .ok (.ifCond .eq 5, 3) := by decide +kernel
theorem dL_law_1067 : decode cL_law 1067 = .ok (.iconst 0, 1) := by decide +kernel
theorem dL_law_1068 : decode cL_law 1068 = .ok (.ireturn, 1) := by decide +kernel
theorem dL_law_1069 : decode cL_law 1069 = .ok (.goto 470, 3) := by decide +kernel
theorem dL_law_1072 : decode cL_law 1072 = .ok (.aload_n 1, 1) := by decide +kernel
theorem dL_law_1073 : decode cL_law 1073 = .ok (.invokevirtual 146, 3) := by decide +kernel
theorem dL_law_1076 : decode cL_law 1076 = .ok (.aload_n 2, 1) := by decide +kernel
theorem dL_law_1077 : decode cL_law 1077 = .ok (.invokevirtual 149, 3) := by decide +kernel
theorem dL_law_1080 : decode cL_law 1080 = .ok (.if_icmp .eq 459, 3) := by decide +kernel
theorem dL_law_1083 : decode cL_law 1083 = .ok (.iconst 0, 1) := by decide +kernel
theorem dL_law_1084 : decode cL_law 1084 = .ok (.ireturn, 1) := by decide +kernel
theorem dL_law_1085 : decode cL_law 1085 = .ok (.aload_n 1, 1) := by decide +kernel
theorem dL_law_1086 : decode cL_law 1086 = .ok (.invokevirtual 150, 3) := by decide +kernel
theorem dL_law_1089 : decode cL_law 1089 = .ok (.aload_n 2, 1) := by decide +kernel
theorem dL_law_1090 : decode cL_law 1090 = .ok (.invokevirtual 153, 3) := by decide +kernel
theorem dL_law_1093 : decode cL_law 1093 = .ok (.if_icmp .eq 446, 3) := by decide +kernel
theorem dL_law_1096 : decode cL_law 1096 = .ok (.iconst 0, 1) := by decide +kernel
theorem dL_law_1097 : decode cL_law 1097 = .ok (.ireturn, 1) := by decide +kernel
theorem dL_law_1098 : decode cL_law 1098 = .ok (.aload_n 1, 1) := by decide +kernel
theorem dL_law_1099 : decode cL_law 1099 = .ok (.aload_n 0, 1) := by decide +kernel
theorem dL_law_1100 : decode cL_law 1100 = .ok (.iload 4, 2) := by decide +kernel
theorem dL_law_1102 : decode cL_law 1102 = .ok (.iconst 1, 1) := by decide +kernel
theorem dL_law_1103 : decode cL_law 1103 = .ok (.iadd, 1) := by decide +kernel
theorem dL_law_1104 : decode cL_law 1104 = .ok (.iaload, 1) := by decide +kernel
theorem dL_law_1105 : decode cL_law 1105 = .ok (.aload_n 0, 1) := by decide +kernel
theorem dL_law_1106 : decode cL_law 1106 = .ok (.iload 4, 2) := by decide +kernel
theorem dL_law_1108 : decode cL_law 1108 = .ok (.iconst 2, 1) := by decide +kernel
theorem dL_law_1109 : decode cL_law 1109 = .ok (.iadd, 1) := by decide +kernel
theorem dL_law_1110 : decode cL_law 1110 = .ok (.iaload, 1) := by decide +kernel
theorem dL_law_1111 : decode cL_law 1111 = .ok (.aload_n 3, 1) := by decide +kernel
theorem dL_law_1112 : decode cL_law 1112 = .ok (.invokestatic 154, 3) := by decide +kernel
theorem dL_law_1115 : decode cL_law 1115 = .ok (.istore 5, 2) := by decide +kernel
theorem dL_law_1117 : decode cL_law 1117 = .ok (.aload_n 2, 1) := by decide +kernel
theorem dL_law_1118 : decode cL_law 1118 = .ok (.aload_n 0, 1) := by decide +kernel
theorem dL_law_1119 : decode cL_law 1119 = .ok (.iload 4, 2) := by decide +kernel
theorem dL_law_1121 : decode cL_law 1121 = .ok (.iconst 1, 1) := by decide +kernel
theorem dL_law_1122 : decode cL_law 1122 = .ok (.iadd, 1) := by decide +kernel
theorem dL_law_1123 : decode cL_law 1123 = .ok (.iaload, 1) := by decide +kernel
theorem dL_law_1124 : decode cL_law 1124 = .ok (.aload_n 0, 1) := by decide +kernel
theorem dL_law_1125 : decode cL_law 1125 = .ok (.iload 4, 2) := by decide +kernel
theorem dL_law_1127 : decode cL_law 1127 = .ok (.iconst 2, 1) := by decide +kernel
theorem dL_law_1128 : decode cL_law 1128 = .ok (.iadd, 1) := by decide +kernel
theorem dL_law_1129 : decode cL_law 1129 = .ok (.iaload, 1) := by decide +kernel
theorem dL_law_1130 : decode cL_law 1130 = .ok (.invokevirtual 156, 3) := by decide +kernel
theorem dL_law_1133 : decode cL_law 1133 = .ok (.istore 6, 2) := by decide +kernel
theorem dL_law_1135 : decode cL_law 1135 = .ok (.aload_n 2, 1) := by decide +kernel
theorem dL_law_1136 : decode cL_law 1136 = .ok (.invokevirtual 93, 3) := by decide +kernel
theorem dL_law_1139 : decode cL_law 1139 = .ok (.iload 5, 2) := by decide +kernel
theorem dL_law_1141 : decode cL_law 1141 = .ok (.if_icmp .eq 5, 3) := by decide +kernel
theorem dL_law_1144 : decode cL_law 1144 = .ok (.iconst 0, 1) := by decide +kernel
theorem dL_law_1145 : decode cL_law 1145 = .ok (.ireturn, 1) := by decide +kernel
theorem dL_law_1146 : decode cL_law 1146 = .ok (.iload 5, 2) := by decide +kernel
theorem dL_law_1148 : decode cL_law 1148 = .ok (.ifCond .ne 15, 3) := by decide +kernel
theorem dL_law_1151 : decode cL_law 1151 = .ok (.aload_n 3, 1) := by decide +kernel
theorem dL_law_1152 : decode cL_law 1152 = .ok (.iconst 0, 1) := by decide +kernel
theorem dL_law_1153 : decode cL_law 1153 = .ok (.laload, 1) := by decide +kernel
theorem dL_law_1154 : decode cL_law 1154 = .ok (.iload 6, 2) := by decide +kernel
theorem dL_law_1156 : decode cL_law 1156 = .ok (.i2l, 1) := by decide +kernel
theorem dL_law_1157 : decode cL_law 1157 = .ok (.lcmp, 1) := by decide +kernel
theorem dL_law_1158 : decode cL_law 1158 = .ok (.ifCond .eq 5, 3) := by decide +kernel
theorem dL_law_1161 : decode cL_law 1161 = .ok (.iconst 0, 1) := by decide +kernel
theorem dL_law_1162 : decode cL_law 1162 = .ok (.ireturn, 1) := by decide +kernel
theorem dL_law_1163 : decode cL_law 1163 = .ok (.goto 376, 3) := by decide +kernel
theorem dL_law_1166 : decode cL_law 1166 = .ok (.aload_n 1, 1) := by decide +kernel
theorem dL_law_1167 : decode cL_law 1167 = .ok (.aload_n 0, 1) := by decide +kernel
theorem dL_law_1168 : decode cL_law 1168 = .ok (.iload 4, 2) := by decide +kernel
theorem dL_law_1170 : decode cL_law 1170 = .ok (.iconst 1, 1) := by decide +kernel
theorem dL_law_1171 : decode cL_law 1171 = .ok (.iadd, 1) := by decide +kernel
theorem dL_law_1172 : decode cL_law 1172 = .ok (.iaload, 1) := by decide +kernel
theorem dL_law_1173 : decode cL_law 1173 = .ok (.aload_n 0, 1) := by decide +kernel
theorem dL_law_1174 : decode cL_law 1174 = .ok (.iload 4, 2) := by decide +kernel
theorem dL_law_1176 : decode cL_law 1176 = .ok (.iconst 2, 1) := by decide +kernel
theorem dL_law_1177 : decode cL_law 1177 = .ok (.iadd, 1) := by decide +kernel
theorem dL_law_1178 : decode cL_law 1178 = .ok (.iaload, 1) := by decide +kernel
theorem dL_law_1179 : decode cL_law 1179 = .ok (.aload_n 3, 1) := by decide +kernel
theorem dL_law_1180 : decode cL_law 1180 = .ok (.invokestatic 157, 3) := by decide +kernel
theorem dL_law_1183 : decode cL_law 1183 = .ok (.istore 5, 2) := by decide +kernel
theorem dL_law_1185 : decode cL_law 1185 = .ok (.aload_n 2, 1) := by decide +kernel
theorem dL_law_1186 : decode cL_law 1186 = .ok (.aload_n 0, 1) := by decide +kernel
theorem dL_law_1187 : decode cL_law 1187 = .ok (.iload 4, 2) := by decide +kernel
theorem dL_law_1189 : decode cL_law 1189 = .ok (.iconst 1, 1) := by decide +kernel
theorem dL_law_1190 : decode cL_law 1190 = .ok (.iadd, 1) := by decide +kernel
theorem dL_law_1191 : decode cL_law 1191 = .ok (.iaload, 1) := by decide +kernel
theorem dL_law_1192 : decode cL_law 1192 = .ok (.aload_n 0, 1) := by decide +kernel
theorem dL_law_1193 : decode cL_law 1193 = .ok (.iload 4, 2) := by decide +kernel
theorem dL_law_1195 : decode cL_law 1195 = .ok (.iconst 2, 1) := by decide +kernel
theorem dL_law_1196 : decode cL_law 1196 = .ok (.iadd, 1) := by decide +kernel
theorem dL_law_1197 : decode cL_law 1197 = .ok (.iaload, 1) := by decide +kernel
theorem dL_law_1198 : decode cL_law 1198 = .ok (.invokevirtual 159, 3) := by decide +kernel
theorem dL_law_1201 : decode cL_law 1201 = .ok (.istore 6, 2) := by decide +kernel
theorem dL_law_1203 : decode cL_law 1203 = .ok (.aload_n 2, 1) := by decide +kernel
theorem dL_law_1204 : decode cL_law 1204 = .ok (.invokevirtual 93, 3) := by decide +kernel
theorem dL_law_1207 : decode cL_law 1207 = .ok (.iload 5, 2) := by decide +kernel
theorem dL_law_1209 : decode cL_law 1209 = .ok (.if_icmp .eq 5, 3) := by decide +kernel
theorem dL_law_1212 : decode cL_law 1212 = .ok (.iconst 0, 1) := by decide +kernel
theorem dL_law_1213 : decode cL_law 1213 = .ok (.ireturn, 1) := by decide +kernel
theorem dL_law_1214 : decode cL_law 1214 = .ok (.iload 5, 2) := by decide +kernel
theorem dL_law_1216 : decode cL_law 1216 = .ok (.ifCond .ne 15, 3) := by decide +kernel
theorem dL_law_1219 : decode cL_law 1219 = .ok (.aload_n 3, 1) := by decide +kernel
theorem dL_law_1220 : decode cL_law 1220 = .ok (.iconst 0, 1) := by decide +kernel
theorem dL_law_1221 : decode cL_law 1221 = .ok (.laload, 1) := by decide +kernel
theorem dL_law_1222 : decode cL_law 1222 = .ok (.iload 6, 2) := by decide +kernel
theorem dL_law_1224 : decode cL_law 1224 = .ok (.i2l, 1) := by decide +kernel
theorem dL_law_1225 : decode cL_law 1225 = .ok (.lcmp, 1) := by decide +kernel
theorem dL_law_1226 : decode cL_law 1226 = .ok (.ifCond .eq 5, 3) := by decide +kernel
theorem dL_law_1229 : decode cL_law 1229 = .ok (.iconst 0, 1) := by decide +kernel
theorem dL_law_1230 : decode cL_law 1230 = .ok (.ireturn, 1) := by decide +kernel
theorem dL_law_1231 : decode cL_law 1231 = .ok (.goto 308, 3) := by decide +kernel
theorem dL_law_1234 : decode cL_law 1234 = .ok (.aload_n 1, 1) := by decide +kernel
theorem dL_law_1235 : decode cL_law 1235 = .ok (.aload_n 0, 1) := by decide +kernel
theorem dL_law_1236 : decode cL_law 1236 = .ok (.iload 4, 2) := by decide +kernel
theorem dL_law_1238 : decode cL_law 1238 = .ok (.iconst 1, 1) := by decide +kernel
theorem dL_law_1239 : decode cL_law 1239 = .ok (.iadd, 1) := by decide +kernel
theorem dL_law_1240 : decode cL_law 1240 = .ok (.iaload, 1) := by decide +kernel
theorem dL_law_1241 : decode cL_law 1241 = .ok (.aload_n 3, 1) := by decide +kernel
theorem dL_law_1242 : decode cL_law 1242 = .ok (.invokestatic 160, 3) := by decide +kernel
theorem dL_law_1245 : decode cL_law 1245 = .ok (.istore 5, 2) := by decide +kernel
theorem dL_law_1247 : decode cL_law 1247 = .ok (.aload_n 2, 1) := by decide +kernel
theorem dL_law_1248 : decode cL_law 1248 = .ok (.aload_n 0, 1) := by decide +kernel
theorem dL_law_1249 : decode cL_law 1249 = .ok (.iload 4, 2) := by decide +kernel
theorem dL_law_1251 : decode cL_law 1251 = .ok (.iconst 1, 1) := by decide +kernel
theorem dL_law_1252 : decode cL_law 1252 = .ok (.iadd, 1) := by decide +kernel
theorem dL_law_1253 : decode cL_law 1253 = .ok (.iaload, 1) := by decide +kernel
theorem dL_law_1254 : decode cL_law 1254 = .ok (.invokevirtual 162, 3) := by decide +kernel
theorem dL_law_1257 : decode cL_law 1257 = .ok (.istore 6, 2) := by decide +kernel
theorem dL_law_1259 : decode cL_law 1259 = .ok (.aload_n 2, 1) := by decide +kernel
theorem dL_law_1260 : decode cL_law 1260 = .ok (.invokevirtual 93, 3) := by decide +kernel
theorem dL_law_1263 : decode cL_law 1263 = .ok (.iload 5, 2) := by decide +kernel
theorem dL_law_1265 : decode cL_law 1265 = .ok (.if_icmp .eq 5, 3) := by decide +kernel
theorem dL_law_1268 : decode cL_law 1268 = .ok (.iconst 0, 1) := by decide +kernel
theorem dL_law_1269 : decode cL_law 1269 = .ok (.ireturn, 1) := by decide +kernel
theorem dL_law_1270 : decode cL_law 1270 = .ok (.iload 5, 2) := by decide +kernel
theorem dL_law_1272 : decode cL_law 1272 = .ok (.ifCond .ne 15, 3) := by decide +kernel
theorem dL_law_1275 : decode cL_law 1275 = .ok (.aload_n 3, 1) := by decide +kernel
theorem dL_law_1276 : decode cL_law 1276 = .ok (.iconst 0, 1) := by decide +kernel
theorem dL_law_1277 : decode cL_law 1277 = .ok (.laload, 1) := by decide +kernel
theorem dL_law_1278 : decode cL_law 1278 = .ok (.iload 6, 2) := by decide +kernel
theorem dL_law_1280 : decode cL_law 1280 = .ok (.i2l, 1) := by decide +kernel
theorem dL_law_1281 : decode cL_law 1281 = .ok (.lcmp, 1) := by decide +kernel
theorem dL_law_1282 : decode cL_law 1282 = .ok (.ifCond .eq 5, 3) := by decide +kernel
theorem dL_law_1285 : decode cL_law 1285 = .ok (.iconst 0, 1) := by decide +kernel
theorem dL_law_1286 : decode cL_law 1286 = .ok (.ireturn, 1) := by decide +kernel
theorem dL_law_1287 : decode cL_law 1287 = .ok (.goto 252, 3) := by decide +kernel
theorem dL_law_1290 : decode cL_law 1290 = .ok (.aload_n 1, 1) := by decide +kernel
theorem dL_law_1291 : decode cL_law 1291 = .ok (.aload_n 0, 1) := by decide +kernel
theorem dL_law_1292 : decode cL_law 1292 = .ok (.iload 4, 2) := by decide +kernel
theorem dL_law_1294 : decode cL_law 1294 = .ok (.iconst 1, 1) := by decide +kernel
theorem dL_law_1295 : decode cL_law 1295 = .ok (.iadd, 1) := by decide +kernel
theorem dL_law_1296 : decode cL_law 1296 = .ok (.iaload, 1) := by decide +kernel
theorem dL_law_1297 : decode cL_law 1297 = .ok (.aload_n 3, 1) := by decide +kernel
theorem dL_law_1298 : decode cL_law 1298 = .ok (.invokestatic 163, 3) := by decide +kernel
theorem dL_law_1301 : decode cL_law 1301 = .ok (.istore 5, 2) := by decide +kernel
theorem dL_law_1303 : decode cL_law 1303 = .ok (.aload_n 2, 1) := by decide +kernel
theorem dL_law_1304 : decode cL_law 1304 = .ok (.aload_n 0, 1) := by decide +kernel
theorem dL_law_1305 : decode cL_law 1305 = .ok (.iload 4, 2) := by decide +kernel
theorem dL_law_1307 : decode cL_law 1307 = .ok (.iconst 1, 1) := by decide +kernel
theorem dL_law_1308 : decode cL_law 1308 = .ok (.iadd, 1) := by decide +kernel
theorem dL_law_1309 : decode cL_law 1309 = .ok (.iaload, 1) := by decide +kernel
theorem dL_law_1310 : decode cL_law 1310 = .ok (.invokevirtual 165, 3) := by decide +kernel
theorem dL_law_1313 : decode cL_law 1313 = .ok (.istore 6, 2) := by decide +kernel
theorem dL_law_1315 : decode cL_law 1315 = .ok (.aload_n 2, 1) := by decide +kernel
theorem dL_law_1316 : decode cL_law 1316 = .ok (.invokevirtual 93, 3) := by decide +kernel
theorem dL_law_1319 : decode cL_law 1319 = .ok (.iload 5, 2) := by decide +kernel
theorem dL_law_1321 : decode cL_law 1321 = .ok (.if_icmp .eq 5, 3) := by decide +kernel
theorem dL_law_1324 : decode cL_law 1324 = .ok (.iconst 0, 1) := by decide +kernel
theorem dL_law_1325 : decode cL_law 1325 = .ok (.ireturn, 1) := by decide +kernel
theorem dL_law_1326 : decode cL_law 1326 = .ok (.iload 5, 2) := by decide +kernel
theorem dL_law_1328 : decode cL_law 1328 = .ok (.ifCond .ne 15, 3) := by decide +kernel
theorem dL_law_1331 : decode cL_law 1331 = .ok (.aload_n 3, 1) := by decide +kernel
theorem dL_law_1332 : decode cL_law 1332 = .ok (.iconst 0, 1) := by decide +kernel
theorem dL_law_1333 : decode cL_law 1333 = .ok (.laload, 1) := by decide +kernel
theorem dL_law_1334 : decode cL_law 1334 = .ok (.iload 6, 2) := by decide +kernel
theorem dL_law_1336 : decode cL_law 1336 = .ok (.i2l, 1) := by decide +kernel
theorem dL_law_1337 : decode cL_law 1337 = .ok (.lcmp, 1) := by decide +kernel
theorem dL_law_1338 : decode cL_law 1338 = .ok (.ifCond .eq 5, 3) := by decide +kernel
theorem dL_law_1341 : decode cL_law 1341 = .ok (.iconst 0, 1) := by decide +kernel
theorem dL_law_1342 : decode cL_law 1342 = .ok (.ireturn, 1) := by decide +kernel
theorem dL_law_1343 : decode cL_law 1343 = .ok (.goto 196, 3) := by decide +kernel
theorem dL_law_1346 : decode cL_law 1346 = .ok (.aload_n 1, 1) := by decide +kernel
theorem dL_law_1347 : decode cL_law 1347 = .ok (.invokevirtual 166, 3) := by decide +kernel
theorem dL_law_1350 : decode cL_law 1350 = .ok (.aload_n 2, 1) := by decide +kernel
theorem dL_law_1351 : decode cL_law 1351 = .ok (.invokevirtual 169, 3) := by decide +kernel
theorem dL_law_1354 : decode cL_law 1354 = .ok (.if_icmp .eq 185, 3) := by decide +kernel
theorem dL_law_1357 : decode cL_law 1357 = .ok (.iconst 0, 1) := by decide +kernel
theorem dL_law_1358 : decode cL_law 1358 = .ok (.ireturn, 1) := by decide +kernel
theorem dL_law_1359 : decode cL_law 1359 = .ok (.aload_n 1, 1) := by decide +kernel
theorem dL_law_1360 : decode cL_law 1360 = .ok (.aload_n 0, 1) := by decide +kernel
theorem dL_law_1361 : decode cL_law 1361 = .ok (.iload 4, 2) := by decide +kernel
theorem dL_law_1363 : decode cL_law 1363 = .ok (.iconst 1, 1) := by decide +kernel
theorem dL_law_1364 : decode cL_law 1364 = .ok (.iadd, 1) := by decide +kernel
theorem dL_law_1365 : decode cL_law 1365 = .ok (.iaload, 1) := by decide +kernel
theorem dL_law_1366 : decode cL_law 1366 = .ok (.aload_n 0, 1) := by decide +kernel
theorem dL_law_1367 : decode cL_law 1367 = .ok (.iload 4, 2) := by decide +kernel
theorem dL_law_1369 : decode cL_law 1369 = .ok (.iconst 2, 1) := by decide +kernel
theorem dL_law_1370 : decode cL_law 1370 = .ok (.iadd, 1) := by decide +kernel
theorem dL_law_1371 : decode cL_law 1371 = .ok (.iaload, 1) := by decide +kernel
theorem dL_law_1372 : decode cL_law 1372 = .ok (.aload_n 3, 1) := by decide +kernel
theorem dL_law_1373 : decode cL_law 1373 = .ok (.invokestatic 170, 3) := by decide +kernel
theorem dL_law_1376 : decode cL_law 1376 = .ok (.istore 5, 2) := by decide +kernel
theorem dL_law_1378 : decode cL_law 1378 = .ok (.aload_n 2, 1) := by decide +kernel
theorem dL_law_1379 : decode cL_law 1379 = .ok (.aload_n 0, 1) := by decide +kernel
theorem dL_law_1380 : decode cL_law 1380 = .ok (.iload 4, 2) := by decide +kernel
theorem dL_law_1382 : decode cL_law 1382 = .ok (.iconst 1, 1) := by decide +kernel
theorem dL_law_1383 : decode cL_law 1383 = .ok (.iadd, 1) := by decide +kernel
theorem dL_law_1384 : decode cL_law 1384 = .ok (.iaload, 1) := by decide +kernel
theorem dL_law_1385 : decode cL_law 1385 = .ok (.aload_n 0, 1) := by decide +kernel
theorem dL_law_1386 : decode cL_law 1386 = .ok (.iload 4, 2) := by decide +kernel
theorem dL_law_1388 : decode cL_law 1388 = .ok (.iconst 2, 1) := by decide +kernel
theorem dL_law_1389 : decode cL_law 1389 = .ok (.iadd, 1) := by decide +kernel
theorem dL_law_1390 : decode cL_law 1390 = .ok (.iaload, 1) := by decide +kernel
theorem dL_law_1391 : decode cL_law 1391 = .ok (.invokevirtual 172, 3) := by decide +kernel
theorem dL_law_1394 : decode cL_law 1394 = .ok (.istore 6, 2) := by decide +kernel
theorem dL_law_1396 : decode cL_law 1396 = .ok (.aload_n 2, 1) := by decide +kernel
theorem dL_law_1397 : decode cL_law 1397 = .ok (.invokevirtual 93, 3) := by decide +kernel
theorem dL_law_1400 : decode cL_law 1400 = .ok (.iload 5, 2) := by decide +kernel
theorem dL_law_1402 : decode cL_law 1402 = .ok (.if_icmp .eq 5, 3) := by decide +kernel
theorem dL_law_1405 : decode cL_law 1405 = .ok (.iconst 0, 1) := by decide +kernel
theorem dL_law_1406 : decode cL_law 1406 = .ok (.ireturn, 1) := by decide +kernel
theorem dL_law_1407 : decode cL_law 1407 = .ok (.iload 5, 2) := by decide +kernel
theorem dL_law_1409 : decode cL_law 1409 = .ok (.ifCond .ne 15, 3) := by decide +kernel
theorem dL_law_1412 : decode cL_law 1412 = .ok (.aload_n 3, 1) := by decide +kernel
theorem dL_law_1413 : decode cL_law 1413 = .ok (.iconst 0, 1) := by decide +kernel
theorem dL_law_1414 : decode cL_law 1414 = .ok (.laload, 1) := by decide +kernel
theorem dL_law_1415 : decode cL_law 1415 = .ok (.iload 6, 2) := by decide +kernel
theorem dL_law_1417 : decode cL_law 1417 = .ok (.i2l, 1) := by decide +kernel
theorem dL_law_1418 : decode cL_law 1418 = .ok (.lcmp, 1) := by decide +kernel
theorem dL_law_1419 : decode cL_law 1419 = .ok (.ifCond .eq 5, 3) := by decide +kernel
theorem dL_law_1422 : decode cL_law 1422 = .ok (.iconst 0, 1) := by decide +kernel
theorem dL_law_1423 : decode cL_law 1423 = .ok (.ireturn, 1) := by decide +kernel
theorem dL_law_1424 : decode cL_law 1424 = .ok (.goto 115, 3) := by decide +kernel
theorem dL_law_1427 : decode cL_law 1427 = .ok (.aload_n 1, 1) := by decide +kernel
theorem dL_law_1428 : decode cL_law 1428 = .ok (.aload_n 0, 1) := by decide +kernel
theorem dL_law_1429 : decode cL_law 1429 = .ok (.iload 4, 2) := by decide +kernel
theorem dL_law_1431 : decode cL_law 1431 = .ok (.iconst 1, 1) := by decide +kernel
theorem dL_law_1432 : decode cL_law 1432 = .ok (.iadd, 1) := by decide +kernel
theorem dL_law_1433 : decode cL_law 1433 = .ok (.iaload, 1) := by decide +kernel
theorem dL_law_1434 : decode cL_law 1434 = .ok (.aload_n 3, 1) := by decide +kernel
theorem dL_law_1435 : decode cL_law 1435 = .ok (.invokestatic 173, 3) := by decide +kernel
theorem dL_law_1438 : decode cL_law 1438 = .ok (.istore 5, 2) := by decide +kernel
theorem dL_law_1440 : decode cL_law 1440 = .ok (.aload_n 2, 1) := by decide +kernel
theorem dL_law_1441 : decode cL_law 1441 = .ok (.aload_n 0, 1) := by decide +kernel
theorem dL_law_1442 : decode cL_law 1442 = .ok (.iload 4, 2) := by decide +kernel
theorem dL_law_1444 : decode cL_law 1444 = .ok (.iconst 1, 1) := by decide +kernel
theorem dL_law_1445 : decode cL_law 1445 = .ok (.iadd, 1) := by decide +kernel
theorem dL_law_1446 : decode cL_law 1446 = .ok (.iaload, 1) := by decide +kernel
theorem dL_law_1447 : decode cL_law 1447 = .ok (.invokevirtual 175, 3) := by decide +kernel
theorem dL_law_1450 : decode cL_law 1450 = .ok (.istore 6, 2) := by decide +kernel
theorem dL_law_1452 : decode cL_law 1452 = .ok (.aload_n 2, 1) := by decide +kernel
theorem dL_law_1453 : decode cL_law 1453 = .ok (.invokevirtual 93, 3) := by decide +kernel
theorem dL_law_1456 : decode cL_law 1456 = .ok (.iload 5, 2) := by decide +kernel
theorem dL_law_1458 : decode cL_law 1458 = .ok (.if_icmp .eq 5, 3) := by decide +kernel
theorem dL_law_1461 : decode cL_law 1461 = .ok (.iconst 0, 1) := by decide +kernel
theorem dL_law_1462 : decode cL_law 1462 = .ok (.ireturn, 1) := by decide +kernel
theorem dL_law_1463 : decode cL_law 1463 = .ok (.iload 5, 2) := by decide +kernel
theorem dL_law_1465 : decode cL_law 1465 = .ok (.ifCond .ne 15, 3) := by decide +kernel
theorem dL_law_1468 : decode cL_law 1468 = .ok (.aload_n 3, 1) := by decide +kernel
theorem dL_law_1469 : decode cL_law 1469 = .ok (.iconst 0, 1) := by decide +kernel
theorem dL_law_1470 : decode cL_law 1470 = .ok (.laload, 1) := by decide +kernel
theorem dL_law_1471 : decode cL_law 1471 = .ok (.iload 6, 2) := by decide +kernel
theorem dL_law_1473 : decode cL_law 1473 = .ok (.i2l, 1) := by decide +kernel
theorem dL_law_1474 : decode cL_law 1474 = .ok (.lcmp, 1) := by decide +kernel
theorem dL_law_1475 : decode cL_law 1475 = .ok (.ifCond .eq 5, 3) := by decide +kernel
theorem dL_law_1478 : decode cL_law 1478 = .ok (.iconst 0, 1) := by decide +kernel
theorem dL_law_1479 : decode cL_law 1479 = .ok (.ireturn, 1) := by decide +kernel
theorem dL_law_1480 : decode cL_law 1480 = .ok (.goto 59, 3) := by decide +kernel
theorem dL_law_1483 : decode cL_law 1483 = .ok (.aload_n 1, 1) := by decide +kernel
theorem dL_law_1484 : decode cL_law 1484 = .ok (.aload_n 0, 1) := by decide +kernel
theorem dL_law_1485 : decode cL_law 1485 = .ok (.iload 4, 2) := by decide +kernel
theorem dL_law_1487 : decode cL_law 1487 = .ok (.iconst 1, 1) := by decide +kernel
theorem dL_law_1488 : decode cL_law 1488 = .ok (.iadd, 1) := by decide +kernel
theorem dL_law_1489 : decode cL_law 1489 = .ok (.iaload, 1) := by decide +kernel
theorem dL_law_1490 : decode cL_law 1490 = .ok (.aload_n 3, 1) := by decide +kernel
theorem dL_law_1491 : decode cL_law 1491 = .ok (.invokestatic 176, 3) := by decide +kernel
theorem dL_law_1494 : decode cL_law 1494 = .ok (.istore 5, 2) := by decide +kernel
theorem dL_law_1496 : decode cL_law 1496 = .ok (.aload_n 2, 1) := by decide +kernel
theorem dL_law_1497 : decode cL_law 1497 = .ok (.aload_n 0, 1) := by decide +kernel
theorem dL_law_1498 : decode cL_law 1498 = .ok (.iload 4, 2) := by decide +kernel
theorem dL_law_1500 : decode cL_law 1500 = .ok (.iconst 1, 1) := by decide +kernel
theorem dL_law_1501 : decode cL_law 1501 = .ok (.iadd, 1) := by decide +kernel
theorem dL_law_1502 : decode cL_law 1502 = .ok (.iaload, 1) := by decide +kernel
theorem dL_law_1503 : decode cL_law 1503 = .ok (.invokevirtual 178, 3) := by decide +kernel
theorem dL_law_1506 : decode cL_law 1506 = .ok (.istore 6, 2) := by decide +kernel
theorem dL_law_1508 : decode cL_law 1508 = .ok (.aload_n 2, 1) := by decide +kernel
theorem dL_law_1509 : decode cL_law 1509 = .ok (.invokevirtual 93, 3) := by decide +kernel
theorem dL_law_1512 : decode cL_law 1512 = .ok (.iload 5, 2) := by decide +kernel
theorem dL_law_1514 : decode cL_law 1514 = .ok (.if_icmp .eq 5, 3) := by decide +kernel
theorem dL_law_1517 : decode cL_law 1517 = .ok (.iconst 0, 1) := by decide +kernel
theorem dL_law_1518 : decode cL_law 1518 = .ok (.ireturn, 1) := by decide +kernel
theorem dL_law_1519 : decode cL_law 1519 = .ok (.iload 5, 2) := by decide +kernel
theorem dL_law_1521 : decode cL_law 1521 = .ok (.ifCond .ne 15, 3) := by decide +kernel
theorem dL_law_1524 : decode cL_law 1524 = .ok (.aload_n 3, 1) := by decide +kernel
theorem dL_law_1525 : decode cL_law 1525 = .ok (.iconst 0, 1) := by decide +kernel
theorem dL_law_1526 : decode cL_law 1526 = .ok (.laload, 1) := by decide +kernel
theorem dL_law_1527 : decode cL_law 1527 = .ok (.iload 6, 2) := by decide +kernel
theorem dL_law_1529 : decode cL_law 1529 = .ok (.i2l, 1) := by decide +kernel
theorem dL_law_1530 : decode cL_law 1530 = .ok (.lcmp, 1) := by decide +kernel
theorem dL_law_1531 : decode cL_law 1531 = .ok (.ifCond .eq 5, 3) := by decide +kernel
theorem dL_law_1534 : decode cL_law 1534 = .ok (.iconst 0, 1) := by decide +kernel
theorem dL_law_1535 : decode cL_law 1535 = .ok (.ireturn, 1) := by decide +kernel
theorem dL_law_1536 : decode cL_law 1536 = .ok (.goto 3, 3) := by decide +kernel
theorem dL_law_1539 : decode cL_law 1539 = .ok (.iinc 4 5, 3) := by decide +kernel
theorem dL_law_1542 : decode cL_law 1542 = .ok (.goto (-1519), 3) := by decide +kernel
theorem dL_law_1545 : decode cL_law 1545 = .ok (.iconst 1, 1) := by decide +kernel
theorem dL_law_1546 : decode cL_law 1546 = .ok (.ireturn, 1) := by decide +kernel
end
section
theorem hd_X0_init : yX0_init.cls = RX0 ∧ yX0_init.cls ≠ "java/lang/invoke/MethodHandle" ∧ yX0_init.cls ≠ "java/lang/invoke/VarHandle" ∧ (parseMethodDescriptor yX0_init.desc).map (fun d => d.parameters.length) = some 0 := by decide +kernel
theorem hd_X0_reset : yX0_reset.cls = RX0 ∧ yX0_reset.cls ≠ "java/lang/invoke/MethodHandle" ∧ yX0_reset.cls ≠ "java/lang/invoke/VarHandle" ∧ (parseMethodDescriptor yX0_reset.desc).map (fun d => d.parameters.length) = some 0 := by decide +kernel
theorem hd_X0_enter : yX0_enter.cls = RX0 ∧ yX0_enter.cls ≠ "java/lang/invoke/MethodHandle" ∧ yX0_enter.cls ≠ "java/lang/invoke/VarHandle" ∧ (parseMethodDescriptor yX0_enter.desc).map (fun d => d.parameters.length) = some 2 := by decide +kernel
theorem hd_X0_greatest : yX0_greatest.cls = RX0 ∧ yX0_greatest.cls ≠ "java/lang/invoke/MethodHandle" ∧ yX0_greatest.cls ≠ "java/lang/invoke/VarHandle" ∧ (parseMethodDescriptor yX0_greatest.desc).map (fun d => d.parameters.length) = some 0 := by decide +kernel
theorem hd_X0_isGreater : yX0_isGreater.cls = RX0 ∧ yX0_isGreater.cls ≠ "java/lang/invoke/MethodHandle" ∧ yX0_isGreater.cls ≠ "java/lang/invoke/VarHandle" ∧ (parseMethodDescriptor yX0_isGreater.desc).map (fun d => d.parameters.length) = some 2 := by decide +kernel
theorem hd_X1_init : yX1_init.cls = RX1 ∧ yX1_init.cls ≠ "java/lang/invoke/MethodHandle" ∧ yX1_init.cls ≠ "java/lang/invoke/VarHandle" ∧ (parseMethodDescriptor yX1_init.desc).map (fun d => d.parameters.length) = some 0 := by decide +kernel
theorem hd_X1_isBegun : yX1_isBegun.cls = RX1 ∧ yX1_isBegun.cls ≠ "java/lang/invoke/MethodHandle" ∧ yX1_isBegun.cls ≠ "java/lang/invoke/VarHandle" ∧ (parseMethodDescriptor yX1_isBegun.desc).map (fun d => d.parameters.length) = some 0 := by decide +kernel
theorem hd_X1_isOpen : yX1_isOpen.cls = RX1 ∧ yX1_isOpen.cls ≠ "java/lang/invoke/MethodHandle" ∧ yX1_isOpen.cls ≠ "java/lang/invoke/VarHandle" ∧ (parseMethodDescriptor yX1_isOpen.desc).map (fun d => d.parameters.length) = some 0 := by decide +kernel
theorem hd_X1_has : yX1_has.cls = RX1 ∧ yX1_has.cls ≠ "java/lang/invoke/MethodHandle" ∧ yX1_has.cls ≠ "java/lang/invoke/VarHandle" ∧ (parseMethodDescriptor yX1_has.desc).map (fun d => d.parameters.length) = some 1 := by decide +kernel
theorem hd_X1_restart : yX1_restart.cls = RX1 ∧ yX1_restart.cls ≠ "java/lang/invoke/MethodHandle" ∧ yX1_restart.cls ≠ "java/lang/invoke/VarHandle" ∧ (parseMethodDescriptor yX1_restart.desc).map (fun d => d.parameters.length) = some 4 := by decide +kernel
theorem hd_X1_extend : yX1_extend.cls = RX1 ∧ yX1_extend.cls ≠ "java/lang/invoke/MethodHandle" ∧ yX1_extend.cls ≠ "java/lang/invoke/VarHandle" ∧ (parseMethodDescriptor yX1_extend.desc).map (fun d => d.parameters.length) = some 3 := by decide +kernel
theorem hd_X1_mendLatest : yX1_mendLatest.cls = RX1 ∧ yX1_mendLatest.cls ≠ "java/lang/invoke/MethodHandle" ∧ yX1_mendLatest.cls ≠ "java/lang/invoke/VarHandle" ∧ (parseMethodDescriptor yX1_mendLatest.desc).map (fun d => d.parameters.length) = some 2 := by decide +kernel
theorem hd_X1_setSeat : yX1_setSeat.cls = RX1 ∧ yX1_setSeat.cls ≠ "java/lang/invoke/MethodHandle" ∧ yX1_setSeat.cls ≠ "java/lang/invoke/VarHandle" ∧ (parseMethodDescriptor yX1_setSeat.desc).map (fun d => d.parameters.length) = some 2 := by decide +kernel
theorem hd_X1_seatAt : yX1_seatAt.cls = RX1 ∧ yX1_seatAt.cls ≠ "java/lang/invoke/MethodHandle" ∧ yX1_seatAt.cls ≠ "java/lang/invoke/VarHandle" ∧ (parseMethodDescriptor yX1_seatAt.desc).map (fun d => d.parameters.length) = some 1 := by decide +kernel
theorem hd_X1_soundsAt : yX1_soundsAt.cls = RX1 ∧ yX1_soundsAt.cls ≠ "java/lang/invoke/MethodHandle" ∧ yX1_soundsAt.cls ≠ "java/lang/invoke/VarHandle" ∧ (parseMethodDescriptor yX1_soundsAt.desc).map (fun d => d.parameters.length) = some 1 := by decide +kernel
theorem hd_X1_makerAt : yX1_makerAt.cls = RX1 ∧ yX1_makerAt.cls ≠ "java/lang/invoke/MethodHandle" ∧ yX1_makerAt.cls ≠ "java/lang/invoke/VarHandle" ∧ (parseMethodDescriptor yX1_makerAt.desc).map (fun d => d.parameters.length) = some 1 := by decide +kernel
theorem hd_X1_seasonAt : yX1_seasonAt.cls = RX1 ∧ yX1_seasonAt.cls ≠ "java/lang/invoke/MethodHandle" ∧ yX1_seasonAt.cls ≠ "java/lang/invoke/VarHandle" ∧ (parseMethodDescriptor yX1_seasonAt.desc).map (fun d => d.parameters.length) = some 1 := by decide +kernel
theorem hd_X1_signsAt : yX1_signsAt.cls = RX1 ∧ yX1_signsAt.cls ≠ "java/lang/invoke/MethodHandle" ∧ yX1_signsAt.cls ≠ "java/lang/invoke/VarHandle" ∧ (parseMethodDescriptor yX1_signsAt.desc).map (fun d => d.parameters.length) = some 1 := by decide +kernel
theorem hd_X1_wordSetAt : yX1_wordSetAt.cls = RX1 ∧ yX1_wordSetAt.cls ≠ "java/lang/invoke/MethodHandle" ∧ yX1_wordSetAt.cls ≠ "java/lang/invoke/VarHandle" ∧ (parseMethodDescriptor yX1_wordSetAt.desc).map (fun d => d.parameters.length) = some 1 := by decide +kernel
theorem hd_X1_wordOrNone : yX1_wordOrNone.cls = RX1 ∧ yX1_wordOrNone.cls ≠ "java/lang/invoke/MethodHandle" ∧ yX1_wordOrNone.cls ≠ "java/lang/invoke/VarHandle" ∧ (parseMethodDescriptor yX1_wordOrNone.desc).map (fun d => d.parameters.length) = some 2 := by decide +kernel
theorem hd_X1_pointsOf : yX1_pointsOf.cls = RX1 ∧ yX1_pointsOf.cls ≠ "java/lang/invoke/MethodHandle" ∧ yX1_pointsOf.cls ≠ "java/lang/invoke/VarHandle" ∧ (parseMethodDescriptor yX1_pointsOf.desc).map (fun d => d.parameters.length) = some 2 := by decide +kernel
theorem hd_X1_runAt : yX1_runAt.cls = RX1 ∧ yX1_runAt.cls ≠ "java/lang/invoke/MethodHandle" ∧ yX1_runAt.cls ≠ "java/lang/invoke/VarHandle" ∧ (parseMethodDescriptor yX1_runAt.desc).map (fun d => d.parameters.length) = some 1 := by decide +kernel
theorem hd_X2_init : yX2_init.cls = RX2 ∧ yX2_init.cls ≠ "java/lang/invoke/MethodHandle" ∧ yX2_init.cls ≠ "java/lang/invoke/VarHandle" ∧ (parseMethodDescriptor yX2_init.desc).map (fun d => d.parameters.length) = some 2 := by decide +kernel
theorem hd_X2_firstFault : yX2_firstFault.cls = RX2 ∧ yX2_firstFault.cls ≠ "java/lang/invoke/MethodHandle" ∧ yX2_firstFault.cls ≠ "java/lang/invoke/VarHandle" ∧ (parseMethodDescriptor yX2_firstFault.desc).map (fun d => d.parameters.length) = some 3 := by decide +kernel
theorem hd_X2_causeOf : yX2_causeOf.cls = RX2 ∧ yX2_causeOf.cls ≠ "java/lang/invoke/MethodHandle" ∧ yX2_causeOf.cls ≠ "java/lang/invoke/VarHandle" ∧ (parseMethodDescriptor yX2_causeOf.desc).map (fun d => d.parameters.length) = some 4 := by decide +kernel
theorem hd_X2_unlikeSeasonPlace : yX2_unlikeSeasonPlace.cls = RX2 ∧ yX2_unlikeSeasonPlace.cls ≠ "java/lang/invoke/MethodHandle" ∧ yX2_unlikeSeasonPlace.cls ≠ "java/lang/invoke/VarHandle" ∧ (parseMethodDescriptor yX2_unlikeSeasonPlace.desc).map (fun d => d.parameters.length) = some 1 := by decide +kernel
theorem hd_X2_wordAgainPlace : yX2_wordAgainPlace.cls = RX2 ∧ yX2_wordAgainPlace.cls ≠ "java/lang/invoke/MethodHandle" ∧ yX2_wordAgainPlace.cls ≠ "java/lang/invoke/VarHandle" ∧ (parseMethodDescriptor yX2_wordAgainPlace.desc).map (fun d => d.parameters.length) = some 2 := by decide +kernel
theorem hd_X2_joins : yX2_joins.cls = RX2 ∧ yX2_joins.cls ≠ "java/lang/invoke/MethodHandle" ∧ yX2_joins.cls ≠ "java/lang/invoke/VarHandle" ∧ (parseMethodDescriptor yX2_joins.desc).map (fun d => d.parameters.length) = some 2 := by decide +kernel
theorem hd_X2_lowestSubject : yX2_lowestSubject.cls = RX2 ∧ yX2_lowestSubject.cls ≠ "java/lang/invoke/MethodHandle" ∧ yX2_lowestSubject.cls ≠ "java/lang/invoke/VarHandle" ∧ (parseMethodDescriptor yX2_lowestSubject.desc).map (fun d => d.parameters.length) = some 1 := by decide +kernel
theorem hd_X2_wrongSeason : yX2_wrongSeason.cls = RX2 ∧ yX2_wrongSeason.cls ≠ "java/lang/invoke/MethodHandle" ∧ yX2_wrongSeason.cls ≠ "java/lang/invoke/VarHandle" ∧ (parseMethodDescriptor yX2_wrongSeason.desc).map (fun d => d.parameters.length) = some 2 := by decide +kernel
theorem hd_X2_isLately : yX2_isLately.cls = RX2 ∧ yX2_isLately.cls ≠ "java/lang/invoke/MethodHandle" ∧ yX2_isLately.cls ≠ "java/lang/invoke/VarHandle" ∧ (parseMethodDescriptor yX2_isLately.desc).map (fun d => d.parameters.length) = some 2 := by decide +kernel
theorem hd_X2_isLong : yX2_isLong.cls = RX2 ∧ yX2_isLong.cls ≠ "java/lang/invoke/MethodHandle" ∧ yX2_isLong.cls ≠ "java/lang/invoke/VarHandle" ∧ (parseMethodDescriptor yX2_isLong.desc).map (fun d => d.parameters.length) = some 1 := by decide +kernel
theorem hd_X2_leastRun : yX2_leastRun.cls = RX2 ∧ yX2_leastRun.cls ≠ "java/lang/invoke/MethodHandle" ∧ yX2_leastRun.cls ≠ "java/lang/invoke/VarHandle" ∧ (parseMethodDescriptor yX2_leastRun.desc).map (fun d => d.parameters.length) = some 1 := by decide +kernel
theorem hd_X2_mostRun : yX2_mostRun.cls = RX2 ∧ yX2_mostRun.cls ≠ "java/lang/invoke/MethodHandle" ∧ yX2_mostRun.cls ≠ "java/lang/invoke/VarHandle" ∧ (parseMethodDescriptor yX2_mostRun.desc).map (fun d => d.parameters.length) = some 1 := by decide +kernel
theorem hd_X2_wrongSeat : yX2_wrongSeat.cls = RX2 ∧ yX2_wrongSeat.cls ≠ "java/lang/invoke/MethodHandle" ∧ yX2_wrongSeat.cls ≠ "java/lang/invoke/VarHandle" ∧ (parseMethodDescriptor yX2_wrongSeat.desc).map (fun d => d.parameters.length) = some 2 := by decide +kernel
theorem hd_X3_init : yX3_init.cls = RX3 ∧ yX3_init.cls ≠ "java/lang/invoke/MethodHandle" ∧ yX3_init.cls ≠ "java/lang/invoke/VarHandle" ∧ (parseMethodDescriptor yX3_init.desc).map (fun d => d.parameters.length) = some 0 := by decide +kernel
theorem hd_X3_put : yX3_put.cls = RX3 ∧ yX3_put.cls ≠ "java/lang/invoke/MethodHandle" ∧ yX3_put.cls ≠ "java/lang/invoke/VarHandle" ∧ (parseMethodDescriptor yX3_put.desc).map (fun d => d.parameters.length) = some 3 := by decide +kernel
theorem hd_X3_wordOrNone : yX3_wordOrNone.cls = RX3 ∧ yX3_wordOrNone.cls ≠ "java/lang/invoke/MethodHandle" ∧ yX3_wordOrNone.cls ≠ "java/lang/invoke/VarHandle" ∧ (parseMethodDescriptor yX3_wordOrNone.desc).map (fun d => d.parameters.length) = some 2 := by decide +kernel
theorem hd_X3_isOnSheet : yX3_isOnSheet.cls = RX3 ∧ yX3_isOnSheet.cls ≠ "java/lang/invoke/MethodHandle" ∧ yX3_isOnSheet.cls ≠ "java/lang/invoke/VarHandle" ∧ (parseMethodDescriptor yX3_isOnSheet.desc).map (fun d => d.parameters.length) = some 2 := by decide +kernel
theorem hd_X4_init : yX4_init.cls = RX4 ∧ yX4_init.cls ≠ "java/lang/invoke/MethodHandle" ∧ yX4_init.cls ≠ "java/lang/invoke/VarHandle" ∧ (parseMethodDescriptor yX4_init.desc).map (fun d => d.parameters.length) = some 0 := by decide +kernel
theorem hd_X4_has : yX4_has.cls = RX4 ∧ yX4_has.cls ≠ "java/lang/invoke/MethodHandle" ∧ yX4_has.cls ≠ "java/lang/invoke/VarHandle" ∧ (parseMethodDescriptor yX4_has.desc).map (fun d => d.parameters.length) = some 1 := by decide +kernel
theorem hd_X4_isFull : yX4_isFull.cls = RX4 ∧ yX4_isFull.cls ≠ "java/lang/invoke/MethodHandle" ∧ yX4_isFull.cls ≠ "java/lang/invoke/VarHandle" ∧ (parseMethodDescriptor yX4_isFull.desc).map (fun d => d.parameters.length) = some 0 := by decide +kernel
theorem hd_X4_put : yX4_put.cls = RX4 ∧ yX4_put.cls ≠ "java/lang/invoke/MethodHandle" ∧ yX4_put.cls ≠ "java/lang/invoke/VarHandle" ∧ (parseMethodDescriptor yX4_put.desc).map (fun d => d.parameters.length) = some 3 := by decide +kernel
theorem hd_X4_bind : yX4_bind.cls = RX4 ∧ yX4_bind.cls ≠ "java/lang/invoke/MethodHandle" ∧ yX4_bind.cls ≠ "java/lang/invoke/VarHandle" ∧ (parseMethodDescriptor yX4_bind.desc).map (fun d => d.parameters.length) = some 2 := by decide +kernel
theorem hd_X4_soundsOf : yX4_soundsOf.cls = RX4 ∧ yX4_soundsOf.cls ≠ "java/lang/invoke/MethodHandle" ∧ yX4_soundsOf.cls ≠ "java/lang/invoke/VarHandle" ∧ (parseMethodDescriptor yX4_soundsOf.desc).map (fun d => d.parameters.length) = some 1 := by decide +kernel
theorem hd_X4_seasonOf : yX4_seasonOf.cls = RX4 ∧ yX4_seasonOf.cls ≠ "java/lang/invoke/MethodHandle" ∧ yX4_seasonOf.cls ≠ "java/lang/invoke/VarHandle" ∧ (parseMethodDescriptor yX4_seasonOf.desc).map (fun d => d.parameters.length) = some 1 := by decide +kernel
theorem hd_X4_signsOf : yX4_signsOf.cls = RX4 ∧ yX4_signsOf.cls ≠ "java/lang/invoke/MethodHandle" ∧ yX4_signsOf.cls ≠ "java/lang/invoke/VarHandle" ∧ (parseMethodDescriptor yX4_signsOf.desc).map (fun d => d.parameters.length) = some 1 := by decide +kernel
theorem hd_X4_calledBy : yX4_calledBy.cls = RX4 ∧ yX4_calledBy.cls ≠ "java/lang/invoke/MethodHandle" ∧ yX4_calledBy.cls ≠ "java/lang/invoke/VarHandle" ∧ (parseMethodDescriptor yX4_calledBy.desc).map (fun d => d.parameters.length) = some 1 := by decide +kernel
theorem hd_X5_init : yX5_init.cls = RX5 ∧ yX5_init.cls ≠ "java/lang/invoke/MethodHandle" ∧ yX5_init.cls ≠ "java/lang/invoke/VarHandle" ∧ (parseMethodDescriptor yX5_init.desc).map (fun d => d.parameters.length) = some 0 := by decide +kernel
theorem hd_X5_empty : yX5_empty.cls = RX5 ∧ yX5_empty.cls ≠ "java/lang/invoke/MethodHandle" ∧ yX5_empty.cls ≠ "java/lang/invoke/VarHandle" ∧ (parseMethodDescriptor yX5_empty.desc).map (fun d => d.parameters.length) = some 0 := by decide +kernel
theorem hd_X5_append : yX5_append.cls = RX5 ∧ yX5_append.cls ≠ "java/lang/invoke/MethodHandle" ∧ yX5_append.cls ≠ "java/lang/invoke/VarHandle" ∧ (parseMethodDescriptor yX5_append.desc).map (fun d => d.parameters.length) = some 2 := by decide +kernel
theorem hd_X5_take : yX5_take.cls = RX5 ∧ yX5_take.cls ≠ "java/lang/invoke/MethodHandle" ∧ yX5_take.cls ≠ "java/lang/invoke/VarHandle" ∧ (parseMethodDescriptor yX5_take.desc).map (fun d => d.parameters.length) = some 2 := by decide +kernel
theorem hd_X5_takeMended : yX5_takeMended.cls = RX5 ∧ yX5_takeMended.cls ≠ "java/lang/invoke/MethodHandle" ∧ yX5_takeMended.cls ≠ "java/lang/invoke/VarHandle" ∧ (parseMethodDescriptor yX5_takeMended.desc).map (fun d => d.parameters.length) = some 4 := by decide +kernel
theorem hd_X5_wordOrNone : yX5_wordOrNone.cls = RX5 ∧ yX5_wordOrNone.cls ≠ "java/lang/invoke/MethodHandle" ∧ yX5_wordOrNone.cls ≠ "java/lang/invoke/VarHandle" ∧ (parseMethodDescriptor yX5_wordOrNone.desc).map (fun d => d.parameters.length) = some 1 := by decide +kernel
theorem hd_X6_init : yX6_init.cls = RX6 ∧ yX6_init.cls ≠ "java/lang/invoke/MethodHandle" ∧ yX6_init.cls ≠ "java/lang/invoke/VarHandle" ∧ (parseMethodDescriptor yX6_init.desc).map (fun d => d.parameters.length) = some 0 := by decide +kernel
theorem hd_X6_word : yX6_word.cls = RX6 ∧ yX6_word.cls ≠ "java/lang/invoke/MethodHandle" ∧ yX6_word.cls ≠ "java/lang/invoke/VarHandle" ∧ (parseMethodDescriptor yX6_word.desc).map (fun d => d.parameters.length) = some 3 := by decide +kernel
theorem hd_X6_call : yX6_call.cls = RX6 ∧ yX6_call.cls ≠ "java/lang/invoke/MethodHandle" ∧ yX6_call.cls ≠ "java/lang/invoke/VarHandle" ∧ (parseMethodDescriptor yX6_call.desc).map (fun d => d.parameters.length) = some 2 := by decide +kernel
theorem hd_X6_poet : yX6_poet.cls = RX6 ∧ yX6_poet.cls ≠ "java/lang/invoke/MethodHandle" ∧ yX6_poet.cls ≠ "java/lang/invoke/VarHandle" ∧ (parseMethodDescriptor yX6_poet.desc).map (fun d => d.parameters.length) = some 0 := by decide +kernel
theorem hd_X6_begin : yX6_begin.cls = RX6 ∧ yX6_begin.cls ≠ "java/lang/invoke/MethodHandle" ∧ yX6_begin.cls ≠ "java/lang/invoke/VarHandle" ∧ (parseMethodDescriptor yX6_begin.desc).map (fun d => d.parameters.length) = some 4 := by decide +kernel
theorem hd_X6_seat : yX6_seat.cls = RX6 ∧ yX6_seat.cls ≠ "java/lang/invoke/MethodHandle" ∧ yX6_seat.cls ≠ "java/lang/invoke/VarHandle" ∧ (parseMethodDescriptor yX6_seat.desc).map (fun d => d.parameters.length) = some 2 := by decide +kernel
theorem hd_X6_add : yX6_add.cls = RX6 ∧ yX6_add.cls ≠ "java/lang/invoke/MethodHandle" ∧ yX6_add.cls ≠ "java/lang/invoke/VarHandle" ∧ (parseMethodDescriptor yX6_add.desc).map (fun d => d.parameters.length) = some 1 := by decide +kernel
theorem hd_X6_clear : yX6_clear.cls = RX6 ∧ yX6_clear.cls ≠ "java/lang/invoke/MethodHandle" ∧ yX6_clear.cls ≠ "java/lang/invoke/VarHandle" ∧ (parseMethodDescriptor yX6_clear.desc).map (fun d => d.parameters.length) = some 0 := by decide +kernel
theorem hd_X6_offer : yX6_offer.cls = RX6 ∧ yX6_offer.cls ≠ "java/lang/invoke/MethodHandle" ∧ yX6_offer.cls ≠ "java/lang/invoke/VarHandle" ∧ (parseMethodDescriptor yX6_offer.desc).map (fun d => d.parameters.length) = some 1 := by decide +kernel
theorem hd_X6_why : yX6_why.cls = RX6 ∧ yX6_why.cls ≠ "java/lang/invoke/MethodHandle" ∧ yX6_why.cls ≠ "java/lang/invoke/VarHandle" ∧ (parseMethodDescriptor yX6_why.desc).map (fun d => d.parameters.length) = some 0 := by decide +kernel
theorem hd_X6_choose : yX6_choose.cls = RX6 ∧ yX6_choose.cls ≠ "java/lang/invoke/MethodHandle" ∧ yX6_choose.cls ≠ "java/lang/invoke/VarHandle" ∧ (parseMethodDescriptor yX6_choose.desc).map (fun d => d.parameters.length) = some 1 := by decide +kernel
theorem hd_X6_mend : yX6_mend.cls = RX6 ∧ yX6_mend.cls ≠ "java/lang/invoke/MethodHandle" ∧ yX6_mend.cls ≠ "java/lang/invoke/VarHandle" ∧ (parseMethodDescriptor yX6_mend.desc).map (fun d => d.parameters.length) = some 2 := by decide +kernel
theorem hd_X6_give : yX6_give.cls = RX6 ∧ yX6_give.cls ≠ "java/lang/invoke/MethodHandle" ∧ yX6_give.cls ≠ "java/lang/invoke/VarHandle" ∧ (parseMethodDescriptor yX6_give.desc).map (fun d => d.parameters.length) = some 3 := by decide +kernel
theorem hd_X6_copy : yX6_copy.cls = RX6 ∧ yX6_copy.cls ≠ "java/lang/invoke/MethodHandle" ∧ yX6_copy.cls ≠ "java/lang/invoke/VarHandle" ∧ (parseMethodDescriptor yX6_copy.desc).map (fun d => d.parameters.length) = some 1 := by decide +kernel
theorem hd_X6_write : yX6_write.cls = RX6 ∧ yX6_write.cls ≠ "java/lang/invoke/MethodHandle" ∧ yX6_write.cls ≠ "java/lang/invoke/VarHandle" ∧ (parseMethodDescriptor yX6_write.desc).map (fun d => d.parameters.length) = some 4 := by decide +kernel
theorem hd_X6_hide : yX6_hide.cls = RX6 ∧ yX6_hide.cls ≠ "java/lang/invoke/MethodHandle" ∧ yX6_hide.cls ≠ "java/lang/invoke/VarHandle" ∧ (parseMethodDescriptor yX6_hide.desc).map (fun d => d.parameters.length) = some 2 := by decide +kernel
theorem hd_X6_links : yX6_links.cls = RX6 ∧ yX6_links.cls ≠ "java/lang/invoke/MethodHandle" ∧ yX6_links.cls ≠ "java/lang/invoke/VarHandle" ∧ (parseMethodDescriptor yX6_links.desc).map (fun d => d.parameters.length) = some 0 := by decide +kernel
theorem hd_X6_offers : yX6_offers.cls = RX6 ∧ yX6_offers.cls ≠ "java/lang/invoke/MethodHandle" ∧ yX6_offers.cls ≠ "java/lang/invoke/VarHandle" ∧ (parseMethodDescriptor yX6_offers.desc).map (fun d => d.parameters.length) = some 0 := by decide +kernel
theorem hd_X6_ofLink : yX6_ofLink.cls = RX6 ∧ yX6_ofLink.cls ≠ "java/lang/invoke/MethodHandle" ∧ yX6_ofLink.cls ≠ "java/lang/invoke/VarHandle" ∧ (parseMethodDescriptor yX6_ofLink.desc).map (fun d => d.parameters.length) = some 2 := by decide +kernel
theorem hd_X6_wordAt : yX6_wordAt.cls = RX6 ∧ yX6_wordAt.cls ≠ "java/lang/invoke/MethodHandle" ∧ yX6_wordAt.cls ≠ "java/lang/invoke/VarHandle" ∧ (parseMethodDescriptor yX6_wordAt.desc).map (fun d => d.parameters.length) = some 2 := by decide +kernel
theorem hd_X6_faultAnew : yX6_faultAnew.cls = RX6 ∧ yX6_faultAnew.cls ≠ "java/lang/invoke/MethodHandle" ∧ yX6_faultAnew.cls ≠ "java/lang/invoke/VarHandle" ∧ (parseMethodDescriptor yX6_faultAnew.desc).map (fun d => d.parameters.length) = some 1 := by decide +kernel
theorem hd_X6_chances : yX6_chances.cls = RX6 ∧ yX6_chances.cls ≠ "java/lang/invoke/MethodHandle" ∧ yX6_chances.cls ≠ "java/lang/invoke/VarHandle" ∧ (parseMethodDescriptor yX6_chances.desc).map (fun d => d.parameters.length) = some 1 := by decide +kernel
theorem hd_X6_prize : yX6_prize.cls = RX6 ∧ yX6_prize.cls ≠ "java/lang/invoke/MethodHandle" ∧ yX6_prize.cls ≠ "java/lang/invoke/VarHandle" ∧ (parseMethodDescriptor yX6_prize.desc).map (fun d => d.parameters.length) = some 0 := by decide +kernel
theorem hd_X6_far : yX6_far.cls = RX6 ∧ yX6_far.cls ≠ "java/lang/invoke/MethodHandle" ∧ yX6_far.cls ≠ "java/lang/invoke/VarHandle" ∧ (parseMethodDescriptor yX6_far.desc).map (fun d => d.parameters.length) = some 2 := by decide +kernel
theorem hd_X6_source : yX6_source.cls = RX6 ∧ yX6_source.cls ≠ "java/lang/invoke/MethodHandle" ∧ yX6_source.cls ≠ "java/lang/invoke/VarHandle" ∧ (parseMethodDescriptor yX6_source.desc).map (fun d => d.parameters.length) = some 1 := by decide +kernel
theorem hd_X6_hand : yX6_hand.cls = RX6 ∧ yX6_hand.cls ≠ "java/lang/invoke/MethodHandle" ∧ yX6_hand.cls ≠ "java/lang/invoke/VarHandle" ∧ (parseMethodDescriptor yX6_hand.desc).map (fun d => d.parameters.length) = some 1 := by decide +kernel
theorem hd_X6_needRange : yX6_needRange.cls = RX6 ∧ yX6_needRange.cls ≠ "java/lang/invoke/MethodHandle" ∧ yX6_needRange.cls ≠ "java/lang/invoke/VarHandle" ∧ (parseMethodDescriptor yX6_needRange.desc).map (fun d => d.parameters.length) = some 3 := by decide +kernel
theorem hd_X6_needWord : yX6_needWord.cls = RX6 ∧ yX6_needWord.cls ≠ "java/lang/invoke/MethodHandle" ∧ yX6_needWord.cls ≠ "java/lang/invoke/VarHandle" ∧ (parseMethodDescriptor yX6_needWord.desc).map (fun d => d.parameters.length) = some 1 := by decide +kernel
theorem hd_X6_needPoet : yX6_needPoet.cls = RX6 ∧ yX6_needPoet.cls ≠ "java/lang/invoke/MethodHandle" ∧ yX6_needPoet.cls ≠ "java/lang/invoke/VarHandle" ∧ (parseMethodDescriptor yX6_needPoet.desc).map (fun d => d.parameters.length) = some 1 := by decide +kernel
theorem hd_X6_needLink : yX6_needLink.cls = RX6 ∧ yX6_needLink.cls ≠ "java/lang/invoke/MethodHandle" ∧ yX6_needLink.cls ≠ "java/lang/invoke/VarHandle" ∧ (parseMethodDescriptor yX6_needLink.desc).map (fun d => d.parameters.length) = some 1 := by decide +kernel
theorem hd_X6_needPlace : yX6_needPlace.cls = RX6 ∧ yX6_needPlace.cls ≠ "java/lang/invoke/MethodHandle" ∧ yX6_needPlace.cls ≠ "java/lang/invoke/VarHandle" ∧ (parseMethodDescriptor yX6_needPlace.desc).map (fun d => d.parameters.length) = some 2 := by decide +kernel
theorem hd_X6_needCopy : yX6_needCopy.cls = RX6 ∧ yX6_needCopy.cls ≠ "java/lang/invoke/MethodHandle" ∧ yX6_needCopy.cls ≠ "java/lang/invoke/VarHandle" ∧ (parseMethodDescriptor yX6_needCopy.desc).map (fun d => d.parameters.length) = some 1 := by decide +kernel
theorem hd_X6_needText : yX6_needText.cls = RX6 ∧ yX6_needText.cls ≠ "java/lang/invoke/MethodHandle" ∧ yX6_needText.cls ≠ "java/lang/invoke/VarHandle" ∧ (parseMethodDescriptor yX6_needText.desc).map (fun d => d.parameters.length) = some 1 := by decide +kernel
theorem hd_X6_needPoem : yX6_needPoem.cls = RX6 ∧ yX6_needPoem.cls ≠ "java/lang/invoke/MethodHandle" ∧ yX6_needPoem.cls ≠ "java/lang/invoke/VarHandle" ∧ (parseMethodDescriptor yX6_needPoem.desc).map (fun d => d.parameters.length) = some 0 := by decide +kernel
theorem hd_X6_needNoOffers : yX6_needNoOffers.cls = RX6 ∧ yX6_needNoOffers.cls ≠ "java/lang/invoke/MethodHandle" ∧ yX6_needNoOffers.cls ≠ "java/lang/invoke/VarHandle" ∧ (parseMethodDescriptor yX6_needNoOffers.desc).map (fun d => d.parameters.length) = some 0 := by decide +kernel
theorem hd_X6_chanceOf : yX6_chanceOf.cls = RX6 ∧ yX6_chanceOf.cls ≠ "java/lang/invoke/MethodHandle" ∧ yX6_chanceOf.cls ≠ "java/lang/invoke/VarHandle" ∧ (parseMethodDescriptor yX6_chanceOf.desc).map (fun d => d.parameters.length) = some 3 := by decide +kernel
theorem hd_X6_likeness : yX6_likeness.cls = RX6 ∧ yX6_likeness.cls ≠ "java/lang/invoke/MethodHandle" ∧ yX6_likeness.cls ≠ "java/lang/invoke/VarHandle" ∧ (parseMethodDescriptor yX6_likeness.desc).map (fun d => d.parameters.length) = some 2 := by decide +kernel
theorem hd_X6_textWord : yX6_textWord.cls = RX6 ∧ yX6_textWord.cls ≠ "java/lang/invoke/MethodHandle" ∧ yX6_textWord.cls ≠ "java/lang/invoke/VarHandle" ∧ (parseMethodDescriptor yX6_textWord.desc).map (fun d => d.parameters.length) = some 3 := by decide +kernel
theorem hd_X6_fillSheet : yX6_fillSheet.cls = RX6 ∧ yX6_fillSheet.cls ≠ "java/lang/invoke/MethodHandle" ∧ yX6_fillSheet.cls ≠ "java/lang/invoke/VarHandle" ∧ (parseMethodDescriptor yX6_fillSheet.desc).map (fun d => d.parameters.length) = some 2 := by decide +kernel
theorem hd_X6_distance : yX6_distance.cls = RX6 ∧ yX6_distance.cls ≠ "java/lang/invoke/MethodHandle" ∧ yX6_distance.cls ≠ "java/lang/invoke/VarHandle" ∧ (parseMethodDescriptor yX6_distance.desc).map (fun d => d.parameters.length) = some 2 := by decide +kernel
theorem hd_X7_init : yX7_init.cls = RX7 ∧ yX7_init.cls ≠ "java/lang/invoke/MethodHandle" ∧ yX7_init.cls ≠ "java/lang/invoke/VarHandle" ∧ (parseMethodDescriptor yX7_init.desc).map (fun d => d.parameters.length) = some 0 := by decide +kernel
theorem hd_X7_thrown : yX7_thrown.cls = RX7 ∧ yX7_thrown.cls ≠ "java/lang/invoke/MethodHandle" ∧ yX7_thrown.cls ≠ "java/lang/invoke/VarHandle" ∧ (parseMethodDescriptor yX7_thrown.desc).map (fun d => d.parameters.length) = some 0 := by decide +kernel
theorem hd_X7_in : yX7_in.cls = RX7 ∧ yX7_in.cls ≠ "java/lang/invoke/MethodHandle" ∧ yX7_in.cls ≠ "java/lang/invoke/VarHandle" ∧ (parseMethodDescriptor yX7_in.desc).map (fun d => d.parameters.length) = some 3 := by decide +kernel
theorem hd_X7_goes : yX7_goes.cls = RX7 ∧ yX7_goes.cls ≠ "java/lang/invoke/MethodHandle" ∧ yX7_goes.cls ≠ "java/lang/invoke/VarHandle" ∧ (parseMethodDescriptor yX7_goes.desc).map (fun d => d.parameters.length) = some 3 := by decide +kernel
theorem hd_X7_isWord : yX7_isWord.cls = RX7 ∧ yX7_isWord.cls ≠ "java/lang/invoke/MethodHandle" ∧ yX7_isWord.cls ≠ "java/lang/invoke/VarHandle" ∧ (parseMethodDescriptor yX7_isWord.desc).map (fun d => d.parameters.length) = some 1 := by decide +kernel
theorem hd_X7_isPoet : yX7_isPoet.cls = RX7 ∧ yX7_isPoet.cls ≠ "java/lang/invoke/MethodHandle" ∧ yX7_isPoet.cls ≠ "java/lang/invoke/VarHandle" ∧ (parseMethodDescriptor yX7_isPoet.desc).map (fun d => d.parameters.length) = some 1 := by decide +kernel
theorem hd_X7_isLink : yX7_isLink.cls = RX7 ∧ yX7_isLink.cls ≠ "java/lang/invoke/MethodHandle" ∧ yX7_isLink.cls ≠ "java/lang/invoke/VarHandle" ∧ (parseMethodDescriptor yX7_isLink.desc).map (fun d => d.parameters.length) = some 1 := by decide +kernel
theorem hd_X7_isFinished : yX7_isFinished.cls = RX7 ∧ yX7_isFinished.cls ≠ "java/lang/invoke/MethodHandle" ∧ yX7_isFinished.cls ≠ "java/lang/invoke/VarHandle" ∧ (parseMethodDescriptor yX7_isFinished.desc).map (fun d => d.parameters.length) = some 0 := by decide +kernel
theorem hd_X7_word : yX7_word.cls = RX7 ∧ yX7_word.cls ≠ "java/lang/invoke/MethodHandle" ∧ yX7_word.cls ≠ "java/lang/invoke/VarHandle" ∧ (parseMethodDescriptor yX7_word.desc).map (fun d => d.parameters.length) = some 3 := by decide +kernel
theorem hd_X7_calls : yX7_calls.cls = RX7 ∧ yX7_calls.cls ≠ "java/lang/invoke/MethodHandle" ∧ yX7_calls.cls ≠ "java/lang/invoke/VarHandle" ∧ (parseMethodDescriptor yX7_calls.desc).map (fun d => d.parameters.length) = some 2 := by decide +kernel
theorem hd_X7_call : yX7_call.cls = RX7 ∧ yX7_call.cls ≠ "java/lang/invoke/MethodHandle" ∧ yX7_call.cls ≠ "java/lang/invoke/VarHandle" ∧ (parseMethodDescriptor yX7_call.desc).map (fun d => d.parameters.length) = some 2 := by decide +kernel
theorem hd_X7_poet : yX7_poet.cls = RX7 ∧ yX7_poet.cls ≠ "java/lang/invoke/MethodHandle" ∧ yX7_poet.cls ≠ "java/lang/invoke/VarHandle" ∧ (parseMethodDescriptor yX7_poet.desc).map (fun d => d.parameters.length) = some 0 := by decide +kernel
theorem hd_X7_begin : yX7_begin.cls = RX7 ∧ yX7_begin.cls ≠ "java/lang/invoke/MethodHandle" ∧ yX7_begin.cls ≠ "java/lang/invoke/VarHandle" ∧ (parseMethodDescriptor yX7_begin.desc).map (fun d => d.parameters.length) = some 4 := by decide +kernel
theorem hd_X7_seat : yX7_seat.cls = RX7 ∧ yX7_seat.cls ≠ "java/lang/invoke/MethodHandle" ∧ yX7_seat.cls ≠ "java/lang/invoke/VarHandle" ∧ (parseMethodDescriptor yX7_seat.desc).map (fun d => d.parameters.length) = some 2 := by decide +kernel
theorem hd_X7_add : yX7_add.cls = RX7 ∧ yX7_add.cls ≠ "java/lang/invoke/MethodHandle" ∧ yX7_add.cls ≠ "java/lang/invoke/VarHandle" ∧ (parseMethodDescriptor yX7_add.desc).map (fun d => d.parameters.length) = some 1 := by decide +kernel
theorem hd_X7_clear : yX7_clear.cls = RX7 ∧ yX7_clear.cls ≠ "java/lang/invoke/MethodHandle" ∧ yX7_clear.cls ≠ "java/lang/invoke/VarHandle" ∧ (parseMethodDescriptor yX7_clear.desc).map (fun d => d.parameters.length) = some 0 := by decide +kernel
theorem hd_X7_seasonOf : yX7_seasonOf.cls = RX7 ∧ yX7_seasonOf.cls ≠ "java/lang/invoke/MethodHandle" ∧ yX7_seasonOf.cls ≠ "java/lang/invoke/VarHandle" ∧ (parseMethodDescriptor yX7_seasonOf.desc).map (fun d => d.parameters.length) = some 1 := by decide +kernel
theorem hd_X7_signsOf : yX7_signsOf.cls = RX7 ∧ yX7_signsOf.cls ≠ "java/lang/invoke/MethodHandle" ∧ yX7_signsOf.cls ≠ "java/lang/invoke/VarHandle" ∧ (parseMethodDescriptor yX7_signsOf.desc).map (fun d => d.parameters.length) = some 1 := by decide +kernel
theorem hd_X7_runAt : yX7_runAt.cls = RX7 ∧ yX7_runAt.cls ≠ "java/lang/invoke/MethodHandle" ∧ yX7_runAt.cls ≠ "java/lang/invoke/VarHandle" ∧ (parseMethodDescriptor yX7_runAt.desc).map (fun d => d.parameters.length) = some 1 := by decide +kernel
theorem hd_X7_soundsOfRow : yX7_soundsOfRow.cls = RX7 ∧ yX7_soundsOfRow.cls ≠ "java/lang/invoke/MethodHandle" ∧ yX7_soundsOfRow.cls ≠ "java/lang/invoke/VarHandle" ∧ (parseMethodDescriptor yX7_soundsOfRow.desc).map (fun d => d.parameters.length) = some 0 := by decide +kernel
theorem hd_X7_seasonOfRow : yX7_seasonOfRow.cls = RX7 ∧ yX7_seasonOfRow.cls ≠ "java/lang/invoke/MethodHandle" ∧ yX7_seasonOfRow.cls ≠ "java/lang/invoke/VarHandle" ∧ (parseMethodDescriptor yX7_seasonOfRow.desc).map (fun d => d.parameters.length) = some 0 := by decide +kernel
theorem hd_X7_signsOfRow : yX7_signsOfRow.cls = RX7 ∧ yX7_signsOfRow.cls ≠ "java/lang/invoke/MethodHandle" ∧ yX7_signsOfRow.cls ≠ "java/lang/invoke/VarHandle" ∧ (parseMethodDescriptor yX7_signsOfRow.desc).map (fun d => d.parameters.length) = some 0 := by decide +kernel
theorem hd_X7_mixes : yX7_mixes.cls = RX7 ∧ yX7_mixes.cls ≠ "java/lang/invoke/MethodHandle" ∧ yX7_mixes.cls ≠ "java/lang/invoke/VarHandle" ∧ (parseMethodDescriptor yX7_mixes.desc).map (fun d => d.parameters.length) = some 0 := by decide +kernel
theorem hd_X7_comesAgain : yX7_comesAgain.cls = RX7 ∧ yX7_comesAgain.cls ≠ "java/lang/invoke/MethodHandle" ∧ yX7_comesAgain.cls ≠ "java/lang/invoke/VarHandle" ∧ (parseMethodDescriptor yX7_comesAgain.desc).map (fun d => d.parameters.length) = some 1 := by decide +kernel
theorem hd_X7_joins : yX7_joins.cls = RX7 ∧ yX7_joins.cls ≠ "java/lang/invoke/MethodHandle" ∧ yX7_joins.cls ≠ "java/lang/invoke/VarHandle" ∧ (parseMethodDescriptor yX7_joins.desc).map (fun d => d.parameters.length) = some 1 := by decide +kernel
theorem hd_X7_lowest : yX7_lowest.cls = RX7 ∧ yX7_lowest.cls ≠ "java/lang/invoke/MethodHandle" ∧ yX7_lowest.cls ≠ "java/lang/invoke/VarHandle" ∧ (parseMethodDescriptor yX7_lowest.desc).map (fun d => d.parameters.length) = some 1 := by decide +kernel
theorem hd_X7_isLong : yX7_isLong.cls = RX7 ∧ yX7_isLong.cls ≠ "java/lang/invoke/MethodHandle" ∧ yX7_isLong.cls ≠ "java/lang/invoke/VarHandle" ∧ (parseMethodDescriptor yX7_isLong.desc).map (fun d => d.parameters.length) = some 1 := by decide +kernel
theorem hd_X7_lengthFault : yX7_lengthFault.cls = RX7 ∧ yX7_lengthFault.cls ≠ "java/lang/invoke/MethodHandle" ∧ yX7_lengthFault.cls ≠ "java/lang/invoke/VarHandle" ∧ (parseMethodDescriptor yX7_lengthFault.desc).map (fun d => d.parameters.length) = some 1 := by decide +kernel
theorem hd_X7_seatFault : yX7_seatFault.cls = RX7 ∧ yX7_seatFault.cls ≠ "java/lang/invoke/MethodHandle" ∧ yX7_seatFault.cls ≠ "java/lang/invoke/VarHandle" ∧ (parseMethodDescriptor yX7_seatFault.desc).map (fun d => d.parameters.length) = some 1 := by decide +kernel
theorem hd_X7_faultOf : yX7_faultOf.cls = RX7 ∧ yX7_faultOf.cls ≠ "java/lang/invoke/MethodHandle" ∧ yX7_faultOf.cls ≠ "java/lang/invoke/VarHandle" ∧ (parseMethodDescriptor yX7_faultOf.desc).map (fun d => d.parameters.length) = some 2 := by decide +kernel
theorem hd_X7_laysLink : yX7_laysLink.cls = RX7 ∧ yX7_laysLink.cls ≠ "java/lang/invoke/MethodHandle" ∧ yX7_laysLink.cls ≠ "java/lang/invoke/VarHandle" ∧ (parseMethodDescriptor yX7_laysLink.desc).map (fun d => d.parameters.length) = some 1 := by decide +kernel
theorem hd_X7_offer : yX7_offer.cls = RX7 ∧ yX7_offer.cls ≠ "java/lang/invoke/MethodHandle" ∧ yX7_offer.cls ≠ "java/lang/invoke/VarHandle" ∧ (parseMethodDescriptor yX7_offer.desc).map (fun d => d.parameters.length) = some 1 := by decide +kernel
theorem hd_X7_why : yX7_why.cls = RX7 ∧ yX7_why.cls ≠ "java/lang/invoke/MethodHandle" ∧ yX7_why.cls ≠ "java/lang/invoke/VarHandle" ∧ (parseMethodDescriptor yX7_why.desc).map (fun d => d.parameters.length) = some 0 := by decide +kernel
theorem hd_X7_choose : yX7_choose.cls = RX7 ∧ yX7_choose.cls ≠ "java/lang/invoke/MethodHandle" ∧ yX7_choose.cls ≠ "java/lang/invoke/VarHandle" ∧ (parseMethodDescriptor yX7_choose.desc).map (fun d => d.parameters.length) = some 1 := by decide +kernel
theorem hd_X7_mend : yX7_mend.cls = RX7 ∧ yX7_mend.cls ≠ "java/lang/invoke/MethodHandle" ∧ yX7_mend.cls ≠ "java/lang/invoke/VarHandle" ∧ (parseMethodDescriptor yX7_mend.desc).map (fun d => d.parameters.length) = some 2 := by decide +kernel
theorem hd_X7_give : yX7_give.cls = RX7 ∧ yX7_give.cls ≠ "java/lang/invoke/MethodHandle" ∧ yX7_give.cls ≠ "java/lang/invoke/VarHandle" ∧ (parseMethodDescriptor yX7_give.desc).map (fun d => d.parameters.length) = some 3 := by decide +kernel
theorem hd_X7_copy : yX7_copy.cls = RX7 ∧ yX7_copy.cls ≠ "java/lang/invoke/MethodHandle" ∧ yX7_copy.cls ≠ "java/lang/invoke/VarHandle" ∧ (parseMethodDescriptor yX7_copy.desc).map (fun d => d.parameters.length) = some 1 := by decide +kernel
theorem hd_X7_linksOf : yX7_linksOf.cls = RX7 ∧ yX7_linksOf.cls ≠ "java/lang/invoke/MethodHandle" ∧ yX7_linksOf.cls ≠ "java/lang/invoke/VarHandle" ∧ (parseMethodDescriptor yX7_linksOf.desc).map (fun d => d.parameters.length) = some 1 := by decide +kernel
theorem hd_X7_sizeOf : yX7_sizeOf.cls = RX7 ∧ yX7_sizeOf.cls ≠ "java/lang/invoke/MethodHandle" ∧ yX7_sizeOf.cls ≠ "java/lang/invoke/VarHandle" ∧ (parseMethodDescriptor yX7_sizeOf.desc).map (fun d => d.parameters.length) = some 2 := by decide +kernel
theorem hd_X7_wordOf : yX7_wordOf.cls = RX7 ∧ yX7_wordOf.cls ≠ "java/lang/invoke/MethodHandle" ∧ yX7_wordOf.cls ≠ "java/lang/invoke/VarHandle" ∧ (parseMethodDescriptor yX7_wordOf.desc).map (fun d => d.parameters.length) = some 3 := by decide +kernel
theorem hd_X7_write : yX7_write.cls = RX7 ∧ yX7_write.cls ≠ "java/lang/invoke/MethodHandle" ∧ yX7_write.cls ≠ "java/lang/invoke/VarHandle" ∧ (parseMethodDescriptor yX7_write.desc).map (fun d => d.parameters.length) = some 4 := by decide +kernel
theorem hd_X7_hide : yX7_hide.cls = RX7 ∧ yX7_hide.cls ≠ "java/lang/invoke/MethodHandle" ∧ yX7_hide.cls ≠ "java/lang/invoke/VarHandle" ∧ (parseMethodDescriptor yX7_hide.desc).map (fun d => d.parameters.length) = some 2 := by decide +kernel
theorem hd_X7_links : yX7_links.cls = RX7 ∧ yX7_links.cls ≠ "java/lang/invoke/MethodHandle" ∧ yX7_links.cls ≠ "java/lang/invoke/VarHandle" ∧ (parseMethodDescriptor yX7_links.desc).map (fun d => d.parameters.length) = some 0 := by decide +kernel
theorem hd_X7_offers : yX7_offers.cls = RX7 ∧ yX7_offers.cls ≠ "java/lang/invoke/MethodHandle" ∧ yX7_offers.cls ≠ "java/lang/invoke/VarHandle" ∧ (parseMethodDescriptor yX7_offers.desc).map (fun d => d.parameters.length) = some 0 := by decide +kernel
theorem hd_X7_ofLink : yX7_ofLink.cls = RX7 ∧ yX7_ofLink.cls ≠ "java/lang/invoke/MethodHandle" ∧ yX7_ofLink.cls ≠ "java/lang/invoke/VarHandle" ∧ (parseMethodDescriptor yX7_ofLink.desc).map (fun d => d.parameters.length) = some 2 := by decide +kernel
theorem hd_X7_wordAt : yX7_wordAt.cls = RX7 ∧ yX7_wordAt.cls ≠ "java/lang/invoke/MethodHandle" ∧ yX7_wordAt.cls ≠ "java/lang/invoke/VarHandle" ∧ (parseMethodDescriptor yX7_wordAt.desc).map (fun d => d.parameters.length) = some 2 := by decide +kernel
theorem hd_X7_faultAnew : yX7_faultAnew.cls = RX7 ∧ yX7_faultAnew.cls ≠ "java/lang/invoke/MethodHandle" ∧ yX7_faultAnew.cls ≠ "java/lang/invoke/VarHandle" ∧ (parseMethodDescriptor yX7_faultAnew.desc).map (fun d => d.parameters.length) = some 1 := by decide +kernel
theorem hd_X7_chances : yX7_chances.cls = RX7 ∧ yX7_chances.cls ≠ "java/lang/invoke/MethodHandle" ∧ yX7_chances.cls ≠ "java/lang/invoke/VarHandle" ∧ (parseMethodDescriptor yX7_chances.desc).map (fun d => d.parameters.length) = some 1 := by decide +kernel
theorem hd_X7_prize : yX7_prize.cls = RX7 ∧ yX7_prize.cls ≠ "java/lang/invoke/MethodHandle" ∧ yX7_prize.cls ≠ "java/lang/invoke/VarHandle" ∧ (parseMethodDescriptor yX7_prize.desc).map (fun d => d.parameters.length) = some 0 := by decide +kernel
theorem hd_X7_farOf : yX7_farOf.cls = RX7 ∧ yX7_farOf.cls ≠ "java/lang/invoke/MethodHandle" ∧ yX7_farOf.cls ≠ "java/lang/invoke/VarHandle" ∧ (parseMethodDescriptor yX7_farOf.desc).map (fun d => d.parameters.length) = some 2 := by decide +kernel
theorem hd_X7_isText : yX7_isText.cls = RX7 ∧ yX7_isText.cls ≠ "java/lang/invoke/MethodHandle" ∧ yX7_isText.cls ≠ "java/lang/invoke/VarHandle" ∧ (parseMethodDescriptor yX7_isText.desc).map (fun d => d.parameters.length) = some 1 := by decide +kernel
theorem hd_X7_far : yX7_far.cls = RX7 ∧ yX7_far.cls ≠ "java/lang/invoke/MethodHandle" ∧ yX7_far.cls ≠ "java/lang/invoke/VarHandle" ∧ (parseMethodDescriptor yX7_far.desc).map (fun d => d.parameters.length) = some 2 := by decide +kernel
theorem hd_X7_source : yX7_source.cls = RX7 ∧ yX7_source.cls ≠ "java/lang/invoke/MethodHandle" ∧ yX7_source.cls ≠ "java/lang/invoke/VarHandle" ∧ (parseMethodDescriptor yX7_source.desc).map (fun d => d.parameters.length) = some 1 := by decide +kernel
theorem hd_X7_likeness : yX7_likeness.cls = RX7 ∧ yX7_likeness.cls ≠ "java/lang/invoke/MethodHandle" ∧ yX7_likeness.cls ≠ "java/lang/invoke/VarHandle" ∧ (parseMethodDescriptor yX7_likeness.desc).map (fun d => d.parameters.length) = some 2 := by decide +kernel
theorem hd_X7_hand : yX7_hand.cls = RX7 ∧ yX7_hand.cls ≠ "java/lang/invoke/MethodHandle" ∧ yX7_hand.cls ≠ "java/lang/invoke/VarHandle" ∧ (parseMethodDescriptor yX7_hand.desc).map (fun d => d.parameters.length) = some 1 := by decide +kernel
theorem hd_J6_bitCount_0f7a4 : yJ6_bitCount_0f7a4.cls = RJ6 ∧ yJ6_bitCount_0f7a4.cls ≠ "java/lang/invoke/MethodHandle" ∧ yJ6_bitCount_0f7a4.cls ≠ "java/lang/invoke/VarHandle" ∧ (parseMethodDescriptor yJ6_bitCount_0f7a4.desc).map (fun d => d.parameters.length) = some 1 := by decide +kernel
theorem hd_J13_bitCount_95d88 : yJ13_bitCount_95d88.cls = RJ13 ∧ yJ13_bitCount_95d88.cls ≠ "java/lang/invoke/MethodHandle" ∧ yJ13_bitCount_95d88.cls ≠ "java/lang/invoke/VarHandle" ∧ (parseMethodDescriptor yJ13_bitCount_95d88.desc).map (fun d => d.parameters.length) = some 1 := by decide +kernel
theorem hd_L_word : yL_word.cls = RL ∧ yL_word.cls ≠ "java/lang/invoke/MethodHandle" ∧ yL_word.cls ≠ "java/lang/invoke/VarHandle" ∧ (parseMethodDescriptor yL_word.desc).map (fun d => d.parameters.length) = some 5 := by decide +kernel
theorem hd_L_call : yL_call.cls = RL ∧ yL_call.cls ≠ "java/lang/invoke/MethodHandle" ∧ yL_call.cls ≠ "java/lang/invoke/VarHandle" ∧ (parseMethodDescriptor yL_call.desc).map (fun d => d.parameters.length) = some 4 := by decide +kernel
theorem hd_L_poet : yL_poet.cls = RL ∧ yL_poet.cls ≠ "java/lang/invoke/MethodHandle" ∧ yL_poet.cls ≠ "java/lang/invoke/VarHandle" ∧ (parseMethodDescriptor yL_poet.desc).map (fun d => d.parameters.length) = some 2 := by decide +kernel
theorem hd_L_begin : yL_begin.cls = RL ∧ yL_begin.cls ≠ "java/lang/invoke/MethodHandle" ∧ yL_begin.cls ≠ "java/lang/invoke/VarHandle" ∧ (parseMethodDescriptor yL_begin.desc).map (fun d => d.parameters.length) = some 5 := by decide +kernel
theorem hd_L_seat : yL_seat.cls = RL ∧ yL_seat.cls ≠ "java/lang/invoke/MethodHandle" ∧ yL_seat.cls ≠ "java/lang/invoke/VarHandle" ∧ (parseMethodDescriptor yL_seat.desc).map (fun d => d.parameters.length) = some 4 := by decide +kernel
theorem hd_L_add : yL_add.cls = RL ∧ yL_add.cls ≠ "java/lang/invoke/MethodHandle" ∧ yL_add.cls ≠ "java/lang/invoke/VarHandle" ∧ (parseMethodDescriptor yL_add.desc).map (fun d => d.parameters.length) = some 3 := by decide +kernel
theorem hd_L_offer : yL_offer.cls = RL ∧ yL_offer.cls ≠ "java/lang/invoke/MethodHandle" ∧ yL_offer.cls ≠ "java/lang/invoke/VarHandle" ∧ (parseMethodDescriptor yL_offer.desc).map (fun d => d.parameters.length) = some 3 := by decide +kernel
theorem hd_L_choose : yL_choose.cls = RL ∧ yL_choose.cls ≠ "java/lang/invoke/MethodHandle" ∧ yL_choose.cls ≠ "java/lang/invoke/VarHandle" ∧ (parseMethodDescriptor yL_choose.desc).map (fun d => d.parameters.length) = some 3 := by decide +kernel
theorem hd_L_mend : yL_mend.cls = RL ∧ yL_mend.cls ≠ "java/lang/invoke/MethodHandle" ∧ yL_mend.cls ≠ "java/lang/invoke/VarHandle" ∧ (parseMethodDescriptor yL_mend.desc).map (fun d => d.parameters.length) = some 4 := by decide +kernel
theorem hd_L_give : yL_give.cls = RL ∧ yL_give.cls ≠ "java/lang/invoke/MethodHandle" ∧ yL_give.cls ≠ "java/lang/invoke/VarHandle" ∧ (parseMethodDescriptor yL_give.desc).map (fun d => d.parameters.length) = some 5 := by decide +kernel
theorem hd_L_copy : yL_copy.cls = RL ∧ yL_copy.cls ≠ "java/lang/invoke/MethodHandle" ∧ yL_copy.cls ≠ "java/lang/invoke/VarHandle" ∧ (parseMethodDescriptor yL_copy.desc).map (fun d => d.parameters.length) = some 3 := by decide +kernel
theorem hd_L_write : yL_write.cls = RL ∧ yL_write.cls ≠ "java/lang/invoke/MethodHandle" ∧ yL_write.cls ≠ "java/lang/invoke/VarHandle" ∧ (parseMethodDescriptor yL_write.desc).map (fun d => d.parameters.length) = some 6 := by decide +kernel
theorem hd_L_hide : yL_hide.cls = RL ∧ yL_hide.cls ≠ "java/lang/invoke/MethodHandle" ∧ yL_hide.cls ≠ "java/lang/invoke/VarHandle" ∧ (parseMethodDescriptor yL_hide.desc).map (fun d => d.parameters.length) = some 4 := by decide +kernel
theorem hd_L_ofLink : yL_ofLink.cls = RL ∧ yL_ofLink.cls ≠ "java/lang/invoke/MethodHandle" ∧ yL_ofLink.cls ≠ "java/lang/invoke/VarHandle" ∧ (parseMethodDescriptor yL_ofLink.desc).map (fun d => d.parameters.length) = some 4 := by decide +kernel
theorem hd_L_wordAt : yL_wordAt.cls = RL ∧ yL_wordAt.cls ≠ "java/lang/invoke/MethodHandle" ∧ yL_wordAt.cls ≠ "java/lang/invoke/VarHandle" ∧ (parseMethodDescriptor yL_wordAt.desc).map (fun d => d.parameters.length) = some 4 := by decide +kernel
theorem hd_L_faultAnew : yL_faultAnew.cls = RL ∧ yL_faultAnew.cls ≠ "java/lang/invoke/MethodHandle" ∧ yL_faultAnew.cls ≠ "java/lang/invoke/VarHandle" ∧ (parseMethodDescriptor yL_faultAnew.desc).map (fun d => d.parameters.length) = some 3 := by decide +kernel
theorem hd_L_chances : yL_chances.cls = RL ∧ yL_chances.cls ≠ "java/lang/invoke/MethodHandle" ∧ yL_chances.cls ≠ "java/lang/invoke/VarHandle" ∧ (parseMethodDescriptor yL_chances.desc).map (fun d => d.parameters.length) = some 3 := by decide +kernel
theorem hd_L_far : yL_far.cls = RL ∧ yL_far.cls ≠ "java/lang/invoke/MethodHandle" ∧ yL_far.cls ≠ "java/lang/invoke/VarHandle" ∧ (parseMethodDescriptor yL_far.desc).map (fun d => d.parameters.length) = some 4 := by decide +kernel
theorem hd_L_source : yL_source.cls = RL ∧ yL_source.cls ≠ "java/lang/invoke/MethodHandle" ∧ yL_source.cls ≠ "java/lang/invoke/VarHandle" ∧ (parseMethodDescriptor yL_source.desc).map (fun d => d.parameters.length) = some 3 := by decide +kernel
theorem hd_L_hand : yL_hand.cls = RL ∧ yL_hand.cls ≠ "java/lang/invoke/MethodHandle" ∧ yL_hand.cls ≠ "java/lang/invoke/VarHandle" ∧ (parseMethodDescriptor yL_hand.desc).map (fun d => d.parameters.length) = some 3 := by decide +kernel
theorem hd_L_law : yL_law.cls = RL ∧ yL_law.cls ≠ "java/lang/invoke/MethodHandle" ∧ yL_law.cls ≠ "java/lang/invoke/VarHandle" ∧ (parseMethodDescriptor yL_law.desc).map (fun d => d.parameters.length) = some 1 := by decide +kernel
end
section
/-! the world: one memory of ints and longs by cell number, cell c at address B + c -/
abbrev rg_Mem : Type := (Nat → Nat → Int32) × (Nat → Nat → Int64)
abbrev rg_Rfs : Type := Nat → Nat → Option Nat
abbrev rg_Env : Type := va_G × (Nat → ClassId)
def rg_I (M : rg_Mem) (o k : Nat) (v : Int32) : rg_Mem := (fun c j => if c = o ∧ j = k then v else M.1 c j, M.2)
def rg_J (M : rg_Mem) (o k : Nat) (v : Int64) : rg_Mem := (M.1, fun c j => if c = o ∧ j = k then v else M.2 c j)
def rg_R (R : rg_Rfs) (o k : Nat) (v : Option Nat) : rg_Rfs := fun c j => if c = o ∧ j = k then v else R c j
/-- the kind of a cell: 0..7 objects of vwCl, 8 int[], 9 long[], 10 boolean[], 11 Sheet[], 12 Verse[], 13 int[][] -/
def rg_kd (c : Nat) : Nat :=
  if c < 17 then [6, 4, 8, 8, 8, 9, 1, 8, 12, 8, 10, 10, 13, 8, 8, 8, 8].getD c 99
  else if c < 89 then (if c % 2 = 1 then 5 else 8)
  else if c < 99 then [2, 5, 8, 5, 8, 0, 8, 8, 8, 12].getD (c - 89) 99
  else if c < 107 then (if c % 2 = 1 then 5 else 8)
  else if c = 107 then 11
  else if c < 412 then (if (c - 108) % 38 = 0 then 3 else if (c - 108) % 38 = 1 then 13 else 8)
  else if c = 412 then 7
  else [8, 8, 8, 9, 8, 8, 8, 8, 10, 10, 8, 8, 8, 8, 8, 8, 8, 8, 8, 9].getD (c - 413) 99
def rg_ln (c : Nat) : Nat :=
  if c < 17 then [0, 0, 40, 40, 40, 40, 0, 36, 36, 36, 36, 36, 4, 36, 36, 36, 36].getD c 0
  else if c < 89 then 6
  else if c < 99 then [0, 0, 6, 0, 6, 0, 6, 6, 4, 4].getD (c - 89) 0
  else if c < 107 then 6
  else if c = 107 then 8
  else if c < 412 then (if (c - 108) % 38 = 1 then 36 else 6)
  else if c = 412 then 0
  else [40, 40, 40, 40, 216, 36, 36, 36, 36, 36, 144, 6, 24, 4, 4, 1728, 288, 8, 6, 1].getD (c - 413) 0
def rg_R0 (c k : Nat) : Option Nat :=
  if c = 0 then [some 1, some 6, some 89, some 90, some 98, some 97, some 107, some 92, some 94].getD k none
  else if c = 1 then [some 2, some 3, some 4, some 5].getD k none
  else if c = 6 then [none, none, none, none, none, some 7, some 8, some 9, some 10, some 11, some 12].getD k none
  else if c = 8 then (if k < 36 then some (17 + 2 * k) else none)
  else if c = 12 then (if k < 4 then some (13 + k) else none)
  else if rg_kd c = 5 then (if k = 0 then some (c + 1) else none)
  else if c = 89 then [some 1, some 6].getD k none
  else if c = 94 then [some 95, some 96].getD k none
  else if c = 98 then (if k < 4 then some (99 + 2 * k) else none)
  else if c = 107 then (if k < 8 then some (108 + 38 * k) else none)
  else if rg_kd c = 3 then (if k = 0 then some (c + 1) else none)
  else if rg_kd c = 13 then (if k < 36 then some (c + 1 + k) else none)
  else if c = 412 then [some 413, some 414, some 415, some 416, none, none, none, none, none, none, none, none, some 417, some 418, some 419, some 420, some 421, some 422, some 423, some 424, none, some 425, some 426, some 427, none, none, some 428, some 429, some 430, none, some 431].getD k none
  else none
/-- the kinds of the fields: 0 int, 1 long, 2 reference -/
def rg_ft (k : Nat) : List Nat := [[2, 2], [0, 0, 0, 0, 0, 2, 2, 2, 2, 2, 2], [2, 2], [2], [2, 2, 2, 2, 0], [2, 0, 0, 0, 0, 1], [2, 2, 2, 2, 2, 2, 2, 2, 2, 0, 0, 0, 0], [2, 2, 2, 2, 0, 0, 0, 0, 0, 0, 0, 0, 2, 2, 2, 2, 2, 2, 2, 2, 0, 2, 2, 2, 0, 0, 2, 2, 2, 0, 2, 0, 0, 0]].getD k []
def rg_B (B : Nat) (o : Option Nat) : Value := va_rf (o.map (fun x => B + x))
def rg_fv (B : Nat) (R : rg_Rfs) (M : rg_Mem) (c k t : Nat) : Value := if t = 0 then .int (M.1 c k) else if t = 1 then .long (M.2 c k) else rg_B B (R c k)
def rg_fs (B : Nat) (R : rg_Rfs) (M : rg_Mem) (c : Nat) : List Value := (rg_ft (rg_kd c)).zipIdx.map (fun q => rg_fv B R M c q.2 q.1)
theorem rg_fs_get {B : Nat} {R : rg_Rfs} {M : rg_Mem} {c k t : Nat} (h : (rg_ft (rg_kd c))[k]? = some t) : (rg_fs B R M c)[k]? = some (rg_fv B R M c k t) := by
  unfold rg_fs
  rw [List.getElem?_map, List.getElem?_zipIdx, h]
  simp
theorem rg_fs_len {B : Nat} {R : rg_Rfs} {M : rg_Mem} {c : Nat} : (rg_fs B R M c).length = (rg_ft (rg_kd c)).length := by
  unfold rg_fs
  simp
theorem rg_fs_set {B : Nat} {R R' : rg_Rfs} {M M' : rg_Mem} {c k t : Nat} (h : (rg_ft (rg_kd c))[k]? = some t) (ho : ∀ j, j ≠ k → M'.1 c j = M.1 c j ∧ M'.2 c j = M.2 c j ∧ R' c j = R c j) : (rg_fs B R M c).set k (rg_fv B R' M' c k t) = rg_fs B R' M' c := by
  apply List.ext_getElem?
  intro i
  have hl := (List.getElem?_eq_some_iff.mp h).1
  rw [List.getElem?_set]
  by_cases hi : k = i
  · subst hi
    rw [if_pos rfl, if_pos (by rw [rg_fs_len]; exact hl), rg_fs_get h]
  · rw [if_neg hi]
    cases hq : (rg_ft (rg_kd c))[i]? with
    | none =>
      have h1 : (rg_ft (rg_kd c)).length ≤ i := List.getElem?_eq_none_iff.mp hq
      rw [List.getElem?_eq_none (by rw [rg_fs_len]; exact h1), List.getElem?_eq_none (by rw [rg_fs_len]; exact h1)]
    | some t2 =>
      rw [rg_fs_get hq, rg_fs_get hq]
      obtain ⟨h1, h2, h3⟩ := ho i (fun e => hi e.symm)
      unfold rg_fv
      rw [h1, h2, h3]
def rg_ent (cy : Nat → ClassId) (B : Nat) (R : rg_Rfs) (M : rg_Mem) (c : Nat) : va_E :=
  if rg_kd c < 8 then .inr (rg_kd c, rg_fs B R M c)
  else if rg_kd c = 9 then .inl (cy 9, rg_ln c, .inr (.inl (M.2 c)))
  else if rg_kd c ≤ 10 then .inl (cy (rg_kd c), rg_ln c, .inl (M.1 c))
  else .inl (cy (rg_kd c), rg_ln c, .inr (.inr (.inr (.inr (fun j => (R c j).map (fun x => B + x))))))
theorem rg_ent_o {cy : Nat → ClassId} {B : Nat} {R : rg_Rfs} {M : rg_Mem} {c ci : Nat} (h : rg_kd c = ci) (h8 : ci < 8) : rg_ent cy B R M c = .inr (ci, rg_fs B R M c) := by
  unfold rg_ent
  rw [h, if_pos h8]
theorem rg_ent_i {cy : Nat → ClassId} {B : Nat} {R : rg_Rfs} {M : rg_Mem} {c : Nat} (h : rg_kd c = 8) : rg_ent cy B R M c = .inl (cy 8, rg_ln c, .inl (M.1 c)) := by simp [rg_ent, h]
theorem rg_ent_j {cy : Nat → ClassId} {B : Nat} {R : rg_Rfs} {M : rg_Mem} {c : Nat} (h : rg_kd c = 9) : rg_ent cy B R M c = .inl (cy 9, rg_ln c, .inr (.inl (M.2 c))) := by simp [rg_ent, h]
theorem rg_ent_z {cy : Nat → ClassId} {B : Nat} {R : rg_Rfs} {M : rg_Mem} {c : Nat} (h : rg_kd c = 10) : rg_ent cy B R M c = .inl (cy 10, rg_ln c, .inl (M.1 c)) := by simp [rg_ent, h]
theorem rg_ent_q {cy : Nat → ClassId} {B : Nat} {R : rg_Rfs} {M : rg_Mem} {c k : Nat} (h : rg_kd c = k) (hk : 10 < k) : rg_ent cy B R M c = .inl (cy k, rg_ln c, .inr (.inr (.inr (.inr (fun j => (R c j).map (fun x => B + x)))))) := by
  unfold rg_ent
  rw [h, if_neg (by omega), if_neg (by omega), if_neg (by omega)]
theorem rg_ent_c {cy : Nat → ClassId} {B : Nat} {R R' : rg_Rfs} {M M' : rg_Mem} {c : Nat} (h1 : M'.1 c = M.1 c) (h2 : M'.2 c = M.2 c) (h3 : R' c = R c) : rg_ent cy B R' M' c = rg_ent cy B R M c := by
  unfold rg_ent rg_fs rg_fv
  rw [h1, h2, h3]
def rg_WS (cy : Nat → ClassId) (B n : Nat) (R : rg_Rfs) (M : rg_Mem) : va_W := (List.range n).map (fun c => (B + c, rg_ent cy B R M c))
theorem rg_WS_get {cy : Nat → ClassId} {B n : Nat} {R : rg_Rfs} {M : rg_Mem} {c : Nat} (h : c < n) : (rg_WS cy B n R M)[c]? = some (B + c, rg_ent cy B R M c) := by
  unfold rg_WS
  rw [List.getElem?_map, List.getElem?_range h]
  rfl
theorem rg_WS_none {cy : Nat → ClassId} {B n : Nat} {R : rg_Rfs} {M : rg_Mem} {c : Nat} (h : ¬ c < n) : (rg_WS cy B n R M)[c]? = none := List.getElem?_eq_none (by simp [rg_WS]; omega)
theorem rg_WS_set {cy : Nat → ClassId} {B n : Nat} {R R' : rg_Rfs} {M M' : rg_Mem} {c : Nat} {e : va_E} (hn : c < n) (he : e = rg_ent cy B R' M' c) (ho : ∀ d, d ≠ c → rg_ent cy B R' M' d = rg_ent cy B R M d) : (rg_WS cy B n R M).set c (B + c, e) = rg_WS cy B n R' M' := by
  apply List.ext_getElem?
  intro i
  rw [List.getElem?_set]
  by_cases hi : c = i
  · subst hi
    rw [if_pos rfl, if_pos (by simp [rg_WS]; exact hn), rg_WS_get hn, he]
  · rw [if_neg hi]
    by_cases h : i < n
    · rw [rg_WS_get h, rg_WS_get h, ho i (fun e => hi e.symm)]
    · rw [rg_WS_none h, rg_WS_none h]
def rg_A (B : Nat) : Nat → Prop := fun q => B ≤ q
theorem rg_D {cy : Nat → ClassId} {B n : Nat} {R : rg_Rfs} {M : rg_Mem} : va_D (rg_A B) (rg_WS cy B n R M) := by
  have key : ∀ (i : Nat) (p : Nat × va_E), (rg_WS cy B n R M)[i]? = some p → p.1 = B + i := by
    intro i p h
    by_cases hi : i < n
    · rw [rg_WS_get hi] at h
      cases h
      rfl
    · rw [rg_WS_none hi] at h
      cases h
  exact ⟨fun i j p q hi hj e => by
    have h1 := key i p hi
    have h2 := key j q hj
    omega, fun k q h => by
    show B ≤ q.1
    rw [key k q h]
    exact Nat.le_add_right _ _⟩
def rg_ty (cy : Nat → ClassId) : List (ClassId × FieldType) := [(cy 8, .int), (cy 9, .long), (cy 10, .boolean), (cy 11, .object "RengaHall$Sheet"), (cy 12, .object "RengaHall$Verse"), (cy 13, .array .int)]
/-- the texts of the throws -/
def rg_strs : List (Nat × String) := [(78, "there are 40 words already"), (93, "a word does not call itself to mind"), (103, "there are 6 poets already"), (111, "the poem is not finished"), (128, "there is no such link to come"), (145, "the draft has 6 words already"), (157, "there is no poem with a link to come"), (159, "4 offers are kept already"), (173, "there is no such offer"), (195, "there is no such judge"), (207, "there are 8 copies already"), (219, "the copy has no such link or place"), (271, "an argument is out of its range"), (277, "there is no such word"), (279, "there is no such poet"), (282, "there is no such link"), (284, "the link has no such place"), (286, "there is no such copy"), (291, "there is no poem"), (293, "offers are kept")]
/-- nest mates' fields and constructors, by their places in the class files -/
def rg_nf : List (String × Nat × String × String × String) := [("RengaHall", 246, "RengaHall$Stock", "count", "I"), ("RengaHall$Scribe", 72, "RengaHall$Verse", "size", "I"), ("RengaHall", 142, "RengaHall$Verse", "size", "I"), ("RengaHall$Scribe", 23, "RengaHall$Verse", "sounds", "I"), ("RengaHall$Scribe", 59, "RengaHall$Verse", "season", "I"), ("RengaHall$Poem", 61, "RengaHall$Verse", "season", "I"), ("RengaHall$Scribe", 50, "RengaHall$Verse", "signs", "I"), ("RengaHall$Poem", 64, "RengaHall$Verse", "signs", "I"), ("RengaHall$Poem", 67, "RengaHall$Verse", "wordSet", "J"), ("RengaHall", 123, "RengaHall$Poem", "length", "I"), ("RengaHall$Scribe", 83, "RengaHall$Poem", "span", "I"), ("RengaHall", 108, "RengaHall$Poem", "made", "I"), ("RengaHall", 185, "RengaHall$Poem", "verses", "[LRengaHall$Verse;"), ("RengaHall", 223, "RengaHall$Poem", "hidden", "[Z"), ("RengaHall", 239, "RengaHall$Poem", "mended", "[Z"), ("RengaHall", 197, "RengaHall$Poem", "points", "[[I")]
def rg_nm : List (String × Nat × MethodName) := [("RengaHall", 9, yX4_init), ("RengaHall$Poem", 36, yX5_init), ("RengaHall", 34, yX5_init), ("RengaHall", 44, yX0_init), ("RengaHall", 63, yX3_init)]
def rg_xs : List String := ["java/lang/IllegalArgumentException", "java/lang/IllegalStateException", "java/lang/IndexOutOfBoundsException"]
def rg_ds : List MethodName := [⟨"java/lang/RuntimeException", "<init>", "(Ljava/lang/String;)V"⟩, ⟨"java/lang/Exception", "<init>", "(Ljava/lang/String;)V"⟩, ⟨"java/lang/Throwable", "<init>", "(Ljava/lang/String;)V"⟩]
def rg_Sw (U : State) : Prop := (∀ q ∈ rg_strs, ∃ a, vk_R "RengaHall" q.1 q.2 a U) ∧ (∀ q ∈ rg_nf, va_Nw (.fieldLinkNest q.1 q.2.1 q.2.2.1 q.2.2.2.1 q.2.2.2.2 "RengaHall") U) ∧ (∀ q ∈ rg_nm, va_Nw (.methodLinkNest q.1 q.2.1 q.2.2 "RengaHall") U) ∧ (∀ X ∈ rg_xs, va_Nw (.castable X X) U) ∧ (∀ y ∈ rg_ds, va_Nw (.declares y) U) ∧ ∀ X ∈ rg_xs, ∀ Y ∈ rg_xs, X ≠ Y → va_Nc X Y U
theorem rg_Sw_warm {s U : State} (hW : s.WarmedH U.vm) (h : rg_Sw s) : rg_Sw U := by
  obtain ⟨h1, h2, h3, h4, h6, h5⟩ := h
  exact ⟨fun q hq => by
    obtain ⟨a, ha⟩ := h1 q hq
    exact ⟨a, vk_R.warm hW ha⟩, fun q hq => va_Nw.warmF hW (h2 q hq), fun q hq => va_Nw.warmM hW (h3 q hq), fun q hq => va_Nw.warmC hW (h4 q hq), fun q hq => va_Nw.warmD hW (h6 q hq), fun X hX Y hY hn => va_Nc.moved hW.alike (h5 X hX Y hY hn)⟩
theorem rg_Sw_same {u U : State} (hv : U.vm = u.vm) (h : rg_Sw u) : rg_Sw U := by
  obtain ⟨h1, h2, h3, h4, h6, h5⟩ := h
  exact ⟨fun q hq => by
    obtain ⟨a, ha⟩ := h1 q hq
    exact ⟨a, vk_R.same hv ha⟩, fun q hq => va_Nw.same rfl hv.symm (h2 q hq), fun q hq => va_Nw.same rfl hv.symm (h3 q hq), fun q hq => va_Nw.same rfl hv.symm (h4 q hq), fun q hq => va_Nw.same rfl hv.symm (h6 q hq), fun X hX Y hY hn => va_Nc.moved (by rw [hv]; exact Vm.Alike.refl _) (h5 X hX Y hY hn)⟩
def rg_St (B : Nat) (U : State) (H : Heap) : Prop := vx_Zq Bundle.tN "UNASSIGNED_STACK" Bundle.steD (rg_A B) U H ∧ vx_Zq Bundle.tN "SUPPRESSED_SENTINEL" Bundle.listD (rg_A B) U H ∧ rg_Sw U
def rg_Pre (E : rg_Env) (B n : Nat) (R : rg_Rfs) (M : rg_Mem) (U : State) : Prop := va_P E.1 vwCl (rg_WS E.2 B n R M) U.heap ∧ va_K E.1 vwCl (rg_ty E.2) U ∧ rg_St B U U.heap
def rg_Po (E : rg_Env) (B n : Nat) (R : rg_Rfs) (M : rg_Mem) (t : State) : Prop := va_P E.1 vwCl (rg_WS E.2 B n R M) t.heap
def rg_Cx (p : Program) (m : MethodId) (c : Code) (cc : ByteArray) (nL : Nat) (s : State) (args : Array Value) (own : String) (E : rg_Env) (B : Nat) : Prop := CallFix p m c cc nL s args rg_T own ∧ va_K E.1 vwCl (rg_ty E.2) s ∧ rg_St B s s.heap
def rg_H (E : rg_Env) (B n : Nat) (R : rg_Rfs) (M : rg_Mem) (s : State) (H : Heap) (locs : List Loc) : Prop := va_P E.1 vwCl (rg_WS E.2 B n R M) H ∧ va_S (rg_A B) s.heap H locs
theorem rg_St_kept {B : Nat} {s U : State} {H : Heap} {locs : List Loc} (h : rg_St B s s.heap) (hS : va_S (rg_A B) s.heap H locs) (hU : U.heap = H) (hW : s.WarmedH U.vm) : rg_St B U U.heap := by
  obtain ⟨h1, h2, h3⟩ := h
  rw [hU]
  exact ⟨(h1.kept hS.2.1).moved hW.alike, (h2.kept hS.2.1).moved hW.alike, rg_Sw_warm hW h3⟩
theorem rg_blind {av : List Value} {E : rg_Env} {B n : Nat} {R : rg_Rfs} {M : rg_Mem} : FrameBlind (va_Pc av (rg_Pre E B n R M)) := by
  intro a U g mk q
  obtain ⟨q1, q2, q3, q4, q5, q6⟩ := q
  exact ⟨q1, q2, va_K.moved (u := U) (U := U.calling g mk a) (Vm.Alike.refl U.vm) q3, vx_Zq.moved (u := U) (U := U.calling g mk a) (Vm.Alike.refl U.vm) q4, vx_Zq.moved (u := U) (U := U.calling g mk a) (Vm.Alike.refl U.vm) q5, rg_Sw_same (u := U) (U := U.calling g mk a) rfl q6⟩
theorem rg_pre {E : rg_Env} {B n : Nat} {R : rg_Rfs} {M : rg_Mem} {s : State} {H : Heap} {locs : List Loc} {av : List Value} (hK : va_K E.1 vwCl (rg_ty E.2) s) (hSt : rg_St B s s.heap) (hH : rg_H E B n R M s H locs) : ∀ U : State, U.heap = H → s.WarmedH U.vm → va_Pc av (rg_Pre E B n R M) av.toArray U := fun U hU hW => ⟨rfl, by rw [hU]; exact hH.1, va_K.moved hW.alike hK, rg_St_kept hSt hH.2 hU hW⟩
end
section
/-! rows over the one memory -/
theorem rg_I_same {M : rg_Mem} {o k : Nat} {v : Int32} : (rg_I M o k v).1 o k = v := by simp [rg_I]
theorem rg_I_cell {M : rg_Mem} {o k : Nat} {v : Int32} {c : Nat} (h : c ≠ o) : (rg_I M o k v).1 c = M.1 c := by
  funext j
  simp [rg_I, h]
theorem rg_I_slot {M : rg_Mem} {o k : Nat} {v : Int32} {c j : Nat} (h : j ≠ k) : (rg_I M o k v).1 c j = M.1 c j := by simp [rg_I, h]
theorem rg_I_2 {M : rg_Mem} {o k : Nat} {v : Int32} : (rg_I M o k v).2 = M.2 := rfl
theorem rg_J_same {M : rg_Mem} {o k : Nat} {v : Int64} : (rg_J M o k v).2 o k = v := by simp [rg_J]
theorem rg_J_cell {M : rg_Mem} {o k : Nat} {v : Int64} {c : Nat} (h : c ≠ o) : (rg_J M o k v).2 c = M.2 c := by
  funext j
  simp [rg_J, h]
theorem rg_J_slot {M : rg_Mem} {o k : Nat} {v : Int64} {c j : Nat} (h : j ≠ k) : (rg_J M o k v).2 c j = M.2 c j := by simp [rg_J, h]
theorem rg_J_1 {M : rg_Mem} {o k : Nat} {v : Int64} : (rg_J M o k v).1 = M.1 := rfl
theorem rg_R_cell {R : rg_Rfs} {o k : Nat} {v : Option Nat} {c : Nat} (h : c ≠ o) : rg_R R o k v c = R c := by
  funext j
  simp [rg_R, h]
section RGR
variable {p : Program} {l : Launch} {e : Env} {Rm : Room} {s : State} {m : MethodId} {args : Array Value} {below : List Frame} {meth : Method} {c : Code} {H : Heap} {locs : List Loc} {cells slots : Nat} {Q : State → Prop}
variable {cc : ByteArray} {pc nL : Nat} {ls : Array Slot} {rest : List Value} {own : String} {E : rg_Env} {B n : Nat} {R : rg_Rfs} {M : rg_Mem}
theorem rg_get (C0 : rg_Cx p m c cc nL s args own E B) (hH : rg_H E B n R M s H locs) {C : String} {T : u_T} {N ci index o k t : Nat} (hc : vwCl[ci]? = some (C, T, N)) (hin : ∀ w ∈ u_ws C T N, w ∈ rg_T) (hkN : k < N) (hlink : Cond.fieldLink own index (T k).1 (T k).2.1 (T k).2.2.1 ∈ rg_T) (ho : o < n) (hk : rg_kd o = ci) (hci : ci < 8) (hf : (rg_ft ci)[k]? = some t) (hdg : decode cc pc = .ok (.getfield index, 3))
    (kk : W p l e Rm s m args below meth c H locs cells slots Q (F0 m (pc + 3) ls (rg_fv B R M o k t :: rest))) : W p l e Rm s m args below meth c H locs cells slots Q (F0 m pc ls (.ref (B + o) :: rest)) := by
  obtain ⟨⟨hx, hb, -, hown, hts⟩, hK, -⟩ := C0
  have he : (rg_WS E.2 B n R M)[o]? = some (B + o, .inr (ci, rg_fs B R M o)) := by rw [rg_WS_get ho, rg_ent_o hk hci]
  exact va_get (ci := ci) hx hb hts hin hown hK hH.1 o he hc k hkN (hts _ hlink) (fun _ h => h) (rg_fs_get (by rw [hk]; exact hf)) hdg kk
theorem rg_gI (C0 : rg_Cx p m c cc nL s args own E B) (hH : rg_H E B n R M s H locs) {C : String} {T : u_T} {N ci index o k : Nat} (hc : vwCl[ci]? = some (C, T, N)) (hin : ∀ w ∈ u_ws C T N, w ∈ rg_T) (hkN : k < N) (hlink : Cond.fieldLink own index (T k).1 (T k).2.1 (T k).2.2.1 ∈ rg_T) (ho : o < n) (hk : rg_kd o = ci) (hci : ci < 8) (hf : (rg_ft ci)[k]? = some 0) (hdg : decode cc pc = .ok (.getfield index, 3))
    (kk : W p l e Rm s m args below meth c H locs cells slots Q (F0 m (pc + 3) ls (.int (M.1 o k) :: rest))) : W p l e Rm s m args below meth c H locs cells slots Q (F0 m pc ls (.ref (B + o) :: rest)) := rg_get C0 hH hc hin hkN hlink ho hk hci hf hdg kk
theorem rg_gJ (C0 : rg_Cx p m c cc nL s args own E B) (hH : rg_H E B n R M s H locs) {C : String} {T : u_T} {N ci index o k : Nat} (hc : vwCl[ci]? = some (C, T, N)) (hin : ∀ w ∈ u_ws C T N, w ∈ rg_T) (hkN : k < N) (hlink : Cond.fieldLink own index (T k).1 (T k).2.1 (T k).2.2.1 ∈ rg_T) (ho : o < n) (hk : rg_kd o = ci) (hci : ci < 8) (hf : (rg_ft ci)[k]? = some 1) (hdg : decode cc pc = .ok (.getfield index, 3))
    (kk : W p l e Rm s m args below meth c H locs cells slots Q (F0 m (pc + 3) ls (.long (M.2 o k) :: rest))) : W p l e Rm s m args below meth c H locs cells slots Q (F0 m pc ls (.ref (B + o) :: rest)) := rg_get C0 hH hc hin hkN hlink ho hk hci hf hdg kk
theorem rg_gR (C0 : rg_Cx p m c cc nL s args own E B) (hH : rg_H E B n R M s H locs) {C : String} {T : u_T} {N ci index o k o2 : Nat} (hR : R o k = some o2) (hc : vwCl[ci]? = some (C, T, N)) (hin : ∀ w ∈ u_ws C T N, w ∈ rg_T) (hkN : k < N) (hlink : Cond.fieldLink own index (T k).1 (T k).2.1 (T k).2.2.1 ∈ rg_T) (ho : o < n) (hk : rg_kd o = ci) (hci : ci < 8) (hf : (rg_ft ci)[k]? = some 2) (hdg : decode cc pc = .ok (.getfield index, 3))
    (kk : W p l e Rm s m args below meth c H locs cells slots Q (F0 m (pc + 3) ls (.ref (B + o2) :: rest))) : W p l e Rm s m args below meth c H locs cells slots Q (F0 m pc ls (.ref (B + o) :: rest)) := by
  refine rg_get C0 hH hc hin hkN hlink ho hk hci hf hdg ?_
  have h1 : rg_fv B R M o k 2 = .ref (B + o2) := by simp [rg_fv, rg_B, hR, va_rf]
  rw [h1]
  exact kk
theorem rg_getN (C0 : rg_Cx p m c cc nL s args own E B) (hH : rg_H E B n R M s H locs) {C : String} {T : u_T} {N ci index o k t : Nat} (hc : vwCl[ci]? = some (C, T, N)) (hin : ∀ w ∈ u_ws C T N, w ∈ rg_T) (hkN : k < N) (hlink : (own, index, (T k).1, (T k).2.1, (T k).2.2.1) ∈ rg_nf) (ho : o < n) (hk : rg_kd o = ci) (hci : ci < 8) (hf : (rg_ft ci)[k]? = some t) (hdg : decode cc pc = .ok (.getfield index, 3))
    (kk : W p l e Rm s m args below meth c H locs cells slots Q (F0 m (pc + 3) ls (rg_fv B R M o k t :: rest))) : W p l e Rm s m args below meth c H locs cells slots Q (F0 m pc ls (.ref (B + o) :: rest)) := by
  obtain ⟨⟨hx, hb, -, hown, hts⟩, hK, hSt⟩ := C0
  have he : (rg_WS E.2 B n R M)[o]? = some (B + o, .inr (ci, rg_fs B R M o)) := by rw [rg_WS_get ho, rg_ent_o hk hci]
  exact va_getN (ci := ci) (host := "RengaHall") hx hb hts hin hown hK hH.1 o he hc k hkN (va_Nw.use rfl (hSt.2.2.2.1 _ hlink)) (fun _ h => h) (rg_fs_get (by rw [hk]; exact hf)) hdg kk
theorem rg_nI (C0 : rg_Cx p m c cc nL s args own E B) (hH : rg_H E B n R M s H locs) {C : String} {T : u_T} {N ci index o k : Nat} (hc : vwCl[ci]? = some (C, T, N)) (hin : ∀ w ∈ u_ws C T N, w ∈ rg_T) (hkN : k < N) (hlink : (own, index, (T k).1, (T k).2.1, (T k).2.2.1) ∈ rg_nf) (ho : o < n) (hk : rg_kd o = ci) (hci : ci < 8) (hf : (rg_ft ci)[k]? = some 0) (hdg : decode cc pc = .ok (.getfield index, 3))
    (kk : W p l e Rm s m args below meth c H locs cells slots Q (F0 m (pc + 3) ls (.int (M.1 o k) :: rest))) : W p l e Rm s m args below meth c H locs cells slots Q (F0 m pc ls (.ref (B + o) :: rest)) := rg_getN C0 hH hc hin hkN hlink ho hk hci hf hdg kk
theorem rg_nJ (C0 : rg_Cx p m c cc nL s args own E B) (hH : rg_H E B n R M s H locs) {C : String} {T : u_T} {N ci index o k : Nat} (hc : vwCl[ci]? = some (C, T, N)) (hin : ∀ w ∈ u_ws C T N, w ∈ rg_T) (hkN : k < N) (hlink : (own, index, (T k).1, (T k).2.1, (T k).2.2.1) ∈ rg_nf) (ho : o < n) (hk : rg_kd o = ci) (hci : ci < 8) (hf : (rg_ft ci)[k]? = some 1) (hdg : decode cc pc = .ok (.getfield index, 3))
    (kk : W p l e Rm s m args below meth c H locs cells slots Q (F0 m (pc + 3) ls (.long (M.2 o k) :: rest))) : W p l e Rm s m args below meth c H locs cells slots Q (F0 m pc ls (.ref (B + o) :: rest)) := rg_getN C0 hH hc hin hkN hlink ho hk hci hf hdg kk
theorem rg_nR (C0 : rg_Cx p m c cc nL s args own E B) (hH : rg_H E B n R M s H locs) {C : String} {T : u_T} {N ci index o k o2 : Nat} (hR : R o k = some o2) (hc : vwCl[ci]? = some (C, T, N)) (hin : ∀ w ∈ u_ws C T N, w ∈ rg_T) (hkN : k < N) (hlink : (own, index, (T k).1, (T k).2.1, (T k).2.2.1) ∈ rg_nf) (ho : o < n) (hk : rg_kd o = ci) (hci : ci < 8) (hf : (rg_ft ci)[k]? = some 2) (hdg : decode cc pc = .ok (.getfield index, 3))
    (kk : W p l e Rm s m args below meth c H locs cells slots Q (F0 m (pc + 3) ls (.ref (B + o2) :: rest))) : W p l e Rm s m args below meth c H locs cells slots Q (F0 m pc ls (.ref (B + o) :: rest)) := by
  refine rg_getN C0 hH hc hin hkN hlink ho hk hci hf hdg ?_
  have h1 : rg_fv B R M o k 2 = .ref (B + o2) := by simp [rg_fv, rg_B, hR, va_rf]
  rw [h1]
  exact kk
theorem rg_put (C0 : rg_Cx p m c cc nL s args own E B) (hH : rg_H E B n R M s H locs) {C : String} {T : u_T} {N ci index o k t : Nat} {R' : rg_Rfs} {M' : rg_Mem} {v : Value} (ty0 : Nat → FieldType) (hty : ∀ k, k < N → parseFieldDescriptor (T k).2.2.1 = some (ty0 k)) (hnm : ∀ a, a < N → ∀ b, b < N → a ≠ b → (T a).2.1 ≠ (T b).2.1) (hc : vwCl[ci]? = some (C, T, N)) (hin : ∀ w ∈ u_ws C T N, w ∈ rg_T) (hkN : k < N) (hlink : Cond.fieldLink own index (T k).1 (T k).2.1 (T k).2.2.1 ∈ rg_T) (ho : o < n) (hk : rg_kd o = ci) (hci : ci < 8) (hf : (rg_ft ci)[k]? = some t)
    (hfin : (T k).2.2.2 = false ∨ ((T k).2.2.2 = true ∧ meth.name = "<init>" ∧ (T k).1 = own)) (hn : narrow (ty0 k) v = v) (hfit : fits (ty0 k) v = true) (hv : v = rg_fv B R' M' o k t) (hs : ∀ j, j ≠ k → M'.1 o j = M.1 o j ∧ M'.2 o j = M.2 o j ∧ R' o j = R o j) (hd : ∀ d, d ≠ o → M'.1 d = M.1 d ∧ M'.2 d = M.2 d ∧ R' d = R d) (hdg : decode cc pc = .ok (.putfield index, 3))
    (kk : ∀ (H1 : Heap) (locs1 : List Loc), rg_H E B n R' M' s H1 locs1 → W p l e Rm s m args below meth c H1 locs1 cells slots Q (F0 m (pc + 3) ls rest)) : W p l e Rm s m args below meth c H locs cells slots Q (F0 m pc ls (v :: .ref (B + o) :: rest)) := by
  obtain ⟨⟨hx, hb, -, hown, hts⟩, hK, -⟩ := C0
  have he : (rg_WS E.2 B n R M)[o]? = some (B + o, .inr (ci, rg_fs B R M o)) := by rw [rg_WS_get ho, rg_ent_o hk hci]
  have hl : k < (rg_fs B R M o).length := by rw [rg_fs_len, hk]; exact (List.getElem?_eq_some_iff.mp hf).1
  have hw : (rg_WS E.2 B n R M).set o (B + o, .inr (ci, (rg_fs B R M o).set k v)) = rg_WS E.2 B n R' M' := by
    refine rg_WS_set ho ?_ (fun d hd2 => rg_ent_c (hd d hd2).1 (hd d hd2).2.1 (hd d hd2).2.2)
    rw [rg_ent_o hk hci, hv, rg_fs_set (by rw [hk]; exact hf) hs]
  rcases hfin with hfin | ⟨hfin, hini, hdecl⟩
  · refine va_put (ci := ci) hx hb hts hin ty0 hty hnm hown hK hH.1 rg_D hH.2 o he hc k hkN (hts _ hlink) (fun _ h => h) hfin (hty k hkN) hn hfit hl hdg (fun H1 locs1 a1 _ a3 => ?_)
    rw [hw] at a1
    exact kk H1 locs1 ⟨a1, a3⟩
  · refine va_putF (ci := ci) hx hb hts hin ty0 hty hnm hown hK hH.1 rg_D hH.2 o he hc k hkN (hts _ hlink) (fun _ h => h) hfin hini hdecl (hty k hkN) hn hfit hl hdg (fun H1 locs1 a1 _ a3 => ?_)
    rw [hw] at a1
    exact kk H1 locs1 ⟨a1, a3⟩
theorem rg_pI (C0 : rg_Cx p m c cc nL s args own E B) (hH : rg_H E B n R M s H locs) {C : String} {T : u_T} {N ci index o k : Nat} {v : Int32} (ty0 : Nat → FieldType) (hty : ∀ k, k < N → parseFieldDescriptor (T k).2.2.1 = some (ty0 k)) (hnm : ∀ a, a < N → ∀ b, b < N → a ≠ b → (T a).2.1 ≠ (T b).2.1) (hc : vwCl[ci]? = some (C, T, N)) (hin : ∀ w ∈ u_ws C T N, w ∈ rg_T) (hkN : k < N) (hlink : Cond.fieldLink own index (T k).1 (T k).2.1 (T k).2.2.1 ∈ rg_T) (ho : o < n) (hk : rg_kd o = ci) (hci : ci < 8) (hf : (rg_ft ci)[k]? = some 0)
    (hfin : (T k).2.2.2 = false) (hn : narrow (ty0 k) (.int v) = .int v) (hfit : fits (ty0 k) (.int v) = true) (hdg : decode cc pc = .ok (.putfield index, 3))
    (kk : ∀ (H1 : Heap) (locs1 : List Loc), rg_H E B n R (rg_I M o k v) s H1 locs1 → W p l e Rm s m args below meth c H1 locs1 cells slots Q (F0 m (pc + 3) ls rest)) : W p l e Rm s m args below meth c H locs cells slots Q (F0 m pc ls (.int v :: .ref (B + o) :: rest)) :=
  rg_put (R' := R) (M' := rg_I M o k v) C0 hH ty0 hty hnm hc hin hkN hlink ho hk hci hf (Or.inl hfin) hn hfit (by simp [rg_fv, rg_I]) (fun j hj => ⟨rg_I_slot hj, rfl, rfl⟩) (fun d hd => ⟨rg_I_cell hd, rfl, rfl⟩) hdg kk
theorem rg_pJ (C0 : rg_Cx p m c cc nL s args own E B) (hH : rg_H E B n R M s H locs) {C : String} {T : u_T} {N ci index o k : Nat} {v : Int64} (ty0 : Nat → FieldType) (hty : ∀ k, k < N → parseFieldDescriptor (T k).2.2.1 = some (ty0 k)) (hnm : ∀ a, a < N → ∀ b, b < N → a ≠ b → (T a).2.1 ≠ (T b).2.1) (hc : vwCl[ci]? = some (C, T, N)) (hin : ∀ w ∈ u_ws C T N, w ∈ rg_T) (hkN : k < N) (hlink : Cond.fieldLink own index (T k).1 (T k).2.1 (T k).2.2.1 ∈ rg_T) (ho : o < n) (hk : rg_kd o = ci) (hci : ci < 8) (hf : (rg_ft ci)[k]? = some 1)
    (hfin : (T k).2.2.2 = false) (hn : narrow (ty0 k) (.long v) = .long v) (hfit : fits (ty0 k) (.long v) = true) (hdg : decode cc pc = .ok (.putfield index, 3))
    (kk : ∀ (H1 : Heap) (locs1 : List Loc), rg_H E B n R (rg_J M o k v) s H1 locs1 → W p l e Rm s m args below meth c H1 locs1 cells slots Q (F0 m (pc + 3) ls rest)) : W p l e Rm s m args below meth c H locs cells slots Q (F0 m pc ls (.long v :: .ref (B + o) :: rest)) :=
  rg_put (R' := R) (M' := rg_J M o k v) C0 hH ty0 hty hnm hc hin hkN hlink ho hk hci hf (Or.inl hfin) hn hfit (by simp [rg_fv, rg_J]) (fun j hj => ⟨rfl, rg_J_slot hj, rfl⟩) (fun d hd => ⟨rfl, rg_J_cell hd, rfl⟩) hdg kk
theorem rg_pR (C0 : rg_Cx p m c cc nL s args own E B) (hH : rg_H E B n R M s H locs) {C : String} {T : u_T} {N ci index o k o2 : Nat} (ty0 : Nat → FieldType) (hty : ∀ k, k < N → parseFieldDescriptor (T k).2.2.1 = some (ty0 k)) (hnm : ∀ a, a < N → ∀ b, b < N → a ≠ b → (T a).2.1 ≠ (T b).2.1) (hc : vwCl[ci]? = some (C, T, N)) (hin : ∀ w ∈ u_ws C T N, w ∈ rg_T) (hkN : k < N) (hlink : Cond.fieldLink own index (T k).1 (T k).2.1 (T k).2.2.1 ∈ rg_T) (ho : o < n) (hk : rg_kd o = ci) (hci : ci < 8) (hf : (rg_ft ci)[k]? = some 2)
    (hfin : (T k).2.2.2 = true) (hini : meth.name = "<init>") (hdecl : (T k).1 = own) (hn : narrow (ty0 k) (.ref (B + o2)) = .ref (B + o2)) (hfit : fits (ty0 k) (.ref (B + o2)) = true) (hdg : decode cc pc = .ok (.putfield index, 3))
    (kk : ∀ (H1 : Heap) (locs1 : List Loc), rg_H E B n (rg_R R o k (some o2)) M s H1 locs1 → W p l e Rm s m args below meth c H1 locs1 cells slots Q (F0 m (pc + 3) ls rest)) : W p l e Rm s m args below meth c H locs cells slots Q (F0 m pc ls (.ref (B + o2) :: .ref (B + o) :: rest)) :=
  rg_put (R' := rg_R R o k (some o2)) (M' := M) C0 hH ty0 hty hnm hc hin hkN hlink ho hk hci hf (Or.inr ⟨hfin, hini, hdecl⟩) hn hfit (by simp [rg_fv, rg_B, rg_R, va_rf]) (fun j hj => ⟨rfl, rfl, by simp [rg_R, hj]⟩) (fun d hd => ⟨rfl, rfl, rg_R_cell hd⟩) hdg kk
theorem rg_iald (C0 : rg_Cx p m c cc nL s args own E B) (hH : rg_H E B n R M s H locs) {o : Nat} {i : Int32} (ho : o < n) (hk : rg_kd o = 8) (hin : vp_in i (rg_ln o)) (hdg : decode cc pc = .ok (.iaload, 1))
    (kk : W p l e Rm s m args below meth c H locs cells slots Q (F0 m (pc + 1) ls (.int (M.1 o i.toNatClampNeg) :: rest))) : W p l e Rm s m args below meth c H locs cells slots Q (F0 m pc ls (.int i :: .ref (B + o) :: rest)) := by
  obtain ⟨⟨hx, hb, -, hown, hts⟩, hK, -⟩ := C0
  exact va_iald hx hb hK hH.1 o 0 (by rw [rg_WS_get ho, rg_ent_i hk]) rfl hin hdg kk
theorem rg_zald (C0 : rg_Cx p m c cc nL s args own E B) (hH : rg_H E B n R M s H locs) {o : Nat} {i : Int32} (ho : o < n) (hk : rg_kd o = 10) (hin : vp_in i (rg_ln o)) (hdg : decode cc pc = .ok (.baload, 1))
    (kk : W p l e Rm s m args below meth c H locs cells slots Q (F0 m (pc + 1) ls (.int (M.1 o i.toNatClampNeg) :: rest))) : W p l e Rm s m args below meth c H locs cells slots Q (F0 m pc ls (.int i :: .ref (B + o) :: rest)) := by
  obtain ⟨⟨hx, hb, -, hown, hts⟩, hK, -⟩ := C0
  exact va_zald hx hb hK hH.1 o 2 (by rw [rg_WS_get ho, rg_ent_z hk]) rfl hin hdg kk
theorem rg_lald (C0 : rg_Cx p m c cc nL s args own E B) (hH : rg_H E B n R M s H locs) {o : Nat} {i : Int32} (ho : o < n) (hk : rg_kd o = 9) (hin : vp_in i (rg_ln o)) (hdg : decode cc pc = .ok (.laload, 1))
    (kk : W p l e Rm s m args below meth c H locs cells slots Q (F0 m (pc + 1) ls (.long (M.2 o i.toNatClampNeg) :: rest))) : W p l e Rm s m args below meth c H locs cells slots Q (F0 m pc ls (.int i :: .ref (B + o) :: rest)) := by
  obtain ⟨⟨hx, hb, -, hown, hts⟩, hK, -⟩ := C0
  exact va_lald hx hb hK hH.1 o 1 (by rw [rg_WS_get ho, rg_ent_j hk]) rfl hin hdg kk
theorem rg_aald (C0 : rg_Cx p m c cc nL s args own E B) (hH : rg_H E B n R M s H locs) {o o2 k : Nat} {i : Int32} (hR : R o i.toNatClampNeg = some o2) (ho : o < n) (hk : rg_kd o = k) (hk2 : 10 < k ∧ k < 14) (hin : vp_in i (rg_ln o)) (hdg : decode cc pc = .ok (.aaload, 1))
    (kk : W p l e Rm s m args below meth c H locs cells slots Q (F0 m (pc + 1) ls (.ref (B + o2) :: rest))) : W p l e Rm s m args below meth c H locs cells slots Q (F0 m pc ls (.int i :: .ref (B + o) :: rest)) := by
  obtain ⟨⟨hx, hb, -, hown, hts⟩, hK, -⟩ := C0
  have hlt : i.toNatClampNeg < rg_ln o := Nat.not_le.mp fun q => hin (Or.inr q)
  have he := hH.1 o _ (rg_WS_get ho)
  rw [rg_ent_q hk hk2.1] at he
  have hc : H[B + o]? = some (vp_cell (E.2 k) (rg_ln o, .inr (.inr (.inr (.inr (fun j => (R o j).map (fun x => B + x))))))) := he
  have ht : ∃ (t0 : Nat) (ty : FieldType), (rg_ty E.2)[t0]? = some (E.2 k, ty) ∧ ty.isReference = true := by
    rcases (show k = 11 ∨ k = 12 ∨ k = 13 by omega) with rfl | rfl | rfl
    · exact ⟨3, _, rfl, rfl⟩
    · exact ⟨4, _, rfl, rfl⟩
    · exact ⟨5, _, rfl, rfl⟩
  obtain ⟨t0, ty, ht1, ht2⟩ := ht
  refine W.aald (v := .ref (B + o2)) (ty := ty) hx hb hc ((hK.2 t0 _ ht1).1 (rg_ln o) (fun j => va_rf ((R o j).map (fun x => B + x)))) ht2 (fun q => by cases q) (by show ¬ (i < 0 ∨ (arrV _ _ _).slots.size ≤ _); rw [arrV_size]; exact hin) (by show (arrV _ _ _).slots[_]? = _; rw [arrV_read _ _ hlt]; show some (va_rf ((R o i.toNatClampNeg).map (fun x => B + x))) = _; rw [hR]; rfl) rfl rfl hdg kk
theorem rg_iast (C0 : rg_Cx p m c cc nL s args own E B) (hH : rg_H E B n R M s H locs) {o : Nat} {i x : Int32} (ho : o < n) (hk : rg_kd o = 8) (hin : vp_in i (rg_ln o)) (hdg : decode cc pc = .ok (.iastore, 1))
    (kk : ∀ (H1 : Heap) (locs1 : List Loc), rg_H E B n R (rg_I M o i.toNatClampNeg x) s H1 locs1 → W p l e Rm s m args below meth c H1 locs1 cells slots Q (F0 m (pc + 1) ls rest)) : W p l e Rm s m args below meth c H locs cells slots Q (F0 m pc ls (.int x :: .int i :: .ref (B + o) :: rest)) := by
  obtain ⟨⟨hx, hb, -, hown, hts⟩, hK, -⟩ := C0
  refine va_iast hx hb hK hH.1 rg_D hH.2 o 0 (by rw [rg_WS_get ho, rg_ent_i hk]) rfl hin hdg (fun H1 locs1 a1 _ a3 => ?_)
  rw [rg_WS_set (M := M) (R := R) (M' := rg_I M o i.toNatClampNeg x) (R' := R) ho (by rw [rg_ent_i hk]; congr; funext j; simp [upd, rg_I]) (fun d hd => rg_ent_c (rg_I_cell hd) rfl rfl)] at a1
  exact kk H1 locs1 ⟨a1, a3⟩
theorem rg_zast (C0 : rg_Cx p m c cc nL s args own E B) (hH : rg_H E B n R M s H locs) {o : Nat} {i x : Int32} (ho : o < n) (hk : rg_kd o = 10) (hx1 : x = 0 ∨ x = 1) (hin : vp_in i (rg_ln o)) (hdg : decode cc pc = .ok (.bastore, 1))
    (kk : ∀ (H1 : Heap) (locs1 : List Loc), rg_H E B n R (rg_I M o i.toNatClampNeg x) s H1 locs1 → W p l e Rm s m args below meth c H1 locs1 cells slots Q (F0 m (pc + 1) ls rest)) : W p l e Rm s m args below meth c H locs cells slots Q (F0 m pc ls (.int x :: .int i :: .ref (B + o) :: rest)) := by
  obtain ⟨⟨hx, hb, -, hown, hts⟩, hK, -⟩ := C0
  have hb1 : vp_nar .boolean x = x := by rcases hx1 with rfl | rfl <;> rfl
  refine va_zast hx hb hK hH.1 rg_D hH.2 o 2 (by rw [rg_WS_get ho, rg_ent_z hk]) rfl hin hdg (fun H1 locs1 a1 _ a3 => ?_)
  rw [rg_WS_set (M := M) (R := R) (M' := rg_I M o i.toNatClampNeg x) (R' := R) ho (by rw [rg_ent_z hk, hb1]; congr; funext j; simp [upd, rg_I]) (fun d hd => rg_ent_c (rg_I_cell hd) rfl rfl)] at a1
  exact kk H1 locs1 ⟨a1, a3⟩
theorem rg_last (C0 : rg_Cx p m c cc nL s args own E B) (hH : rg_H E B n R M s H locs) {o : Nat} {i : Int32} {x : Int64} (ho : o < n) (hk : rg_kd o = 9) (hin : vp_in i (rg_ln o)) (hdg : decode cc pc = .ok (.lastore, 1))
    (kk : ∀ (H1 : Heap) (locs1 : List Loc), rg_H E B n R (rg_J M o i.toNatClampNeg x) s H1 locs1 → W p l e Rm s m args below meth c H1 locs1 cells slots Q (F0 m (pc + 1) ls rest)) : W p l e Rm s m args below meth c H locs cells slots Q (F0 m pc ls (.long x :: .int i :: .ref (B + o) :: rest)) := by
  obtain ⟨⟨hx, hb, -, hown, hts⟩, hK, -⟩ := C0
  refine va_last hx hb hK hH.1 rg_D hH.2 o 1 (by rw [rg_WS_get ho, rg_ent_j hk]) rfl hin hdg (fun H1 locs1 a1 _ a3 => ?_)
  rw [rg_WS_set (M := M) (R := R) (M' := rg_J M o i.toNatClampNeg x) (R' := R) ho (by rw [rg_ent_j hk]; congr; funext j; simp [vp_updL, rg_J]) (fun d hd => rg_ent_c rfl (rg_J_cell hd) rfl)] at a1
  exact kk H1 locs1 ⟨a1, a3⟩
theorem rg_vin {o n0 : Nat} {i : Int32} (hln : rg_ln o = n0) (h : vp_in i n0) : vp_in i (rg_ln o) := by rw [hln]; exact h
theorem rg_vinN {o n0 j : Nat} (hln : rg_ln o = n0) (hj : j < n0 ∧ n0 ≤ 100000) : vp_in (nI j) (rg_ln o) ∧ (nI j).toNatClampNeg = j := ⟨by rw [hln]; exact vp_in_nI hj.1 (by omega), nI_clamp (by omega)⟩
theorem rg_ialdN (C0 : rg_Cx p m c cc nL s args own E B) (hH : rg_H E B n R M s H locs) {o j n0 : Nat} (ho : o < n) (hk : rg_kd o = 8) (hln : rg_ln o = n0) (hj : j < n0 ∧ n0 ≤ 100000) (hdg : decode cc pc = .ok (.iaload, 1))
    (kk : W p l e Rm s m args below meth c H locs cells slots Q (F0 m (pc + 1) ls (.int (M.1 o j) :: rest))) : W p l e Rm s m args below meth c H locs cells slots Q (F0 m pc ls (.int (nI j) :: .ref (B + o) :: rest)) :=
  rg_iald C0 hH ho hk (rg_vinN hln hj).1 hdg (by rw [(rg_vinN hln hj).2]; exact kk)
theorem rg_zaldN (C0 : rg_Cx p m c cc nL s args own E B) (hH : rg_H E B n R M s H locs) {o j n0 : Nat} (ho : o < n) (hk : rg_kd o = 10) (hln : rg_ln o = n0) (hj : j < n0 ∧ n0 ≤ 100000) (hdg : decode cc pc = .ok (.baload, 1))
    (kk : W p l e Rm s m args below meth c H locs cells slots Q (F0 m (pc + 1) ls (.int (M.1 o j) :: rest))) : W p l e Rm s m args below meth c H locs cells slots Q (F0 m pc ls (.int (nI j) :: .ref (B + o) :: rest)) :=
  rg_zald C0 hH ho hk (rg_vinN hln hj).1 hdg (by rw [(rg_vinN hln hj).2]; exact kk)
theorem rg_laldN (C0 : rg_Cx p m c cc nL s args own E B) (hH : rg_H E B n R M s H locs) {o j n0 : Nat} (ho : o < n) (hk : rg_kd o = 9) (hln : rg_ln o = n0) (hj : j < n0 ∧ n0 ≤ 100000) (hdg : decode cc pc = .ok (.laload, 1))
    (kk : W p l e Rm s m args below meth c H locs cells slots Q (F0 m (pc + 1) ls (.long (M.2 o j) :: rest))) : W p l e Rm s m args below meth c H locs cells slots Q (F0 m pc ls (.int (nI j) :: .ref (B + o) :: rest)) :=
  rg_lald C0 hH ho hk (rg_vinN hln hj).1 hdg (by rw [(rg_vinN hln hj).2]; exact kk)
theorem rg_aaldN (C0 : rg_Cx p m c cc nL s args own E B) (hH : rg_H E B n R M s H locs) {o o2 k j n0 : Nat} (hR : R o j = some o2) (ho : o < n) (hk : rg_kd o = k) (hk2 : 10 < k ∧ k < 14) (hln : rg_ln o = n0) (hj : j < n0 ∧ n0 ≤ 100000) (hdg : decode cc pc = .ok (.aaload, 1))
    (kk : W p l e Rm s m args below meth c H locs cells slots Q (F0 m (pc + 1) ls (.ref (B + o2) :: rest))) : W p l e Rm s m args below meth c H locs cells slots Q (F0 m pc ls (.int (nI j) :: .ref (B + o) :: rest)) :=
  rg_aald C0 hH (by rw [(rg_vinN hln hj).2]; exact hR) ho hk hk2 (rg_vinN hln hj).1 hdg kk
theorem rg_iastN (C0 : rg_Cx p m c cc nL s args own E B) (hH : rg_H E B n R M s H locs) {o j n0 : Nat} {x : Int32} (ho : o < n) (hk : rg_kd o = 8) (hln : rg_ln o = n0) (hj : j < n0 ∧ n0 ≤ 100000) (hdg : decode cc pc = .ok (.iastore, 1))
    (kk : ∀ (H1 : Heap) (locs1 : List Loc), rg_H E B n R (rg_I M o j x) s H1 locs1 → W p l e Rm s m args below meth c H1 locs1 cells slots Q (F0 m (pc + 1) ls rest)) : W p l e Rm s m args below meth c H locs cells slots Q (F0 m pc ls (.int x :: .int (nI j) :: .ref (B + o) :: rest)) :=
  rg_iast C0 hH ho hk (rg_vinN hln hj).1 hdg (by rw [(rg_vinN hln hj).2]; exact kk)
theorem rg_zastN (C0 : rg_Cx p m c cc nL s args own E B) (hH : rg_H E B n R M s H locs) {o j n0 : Nat} {x : Int32} (ho : o < n) (hk : rg_kd o = 10) (hx1 : x = 0 ∨ x = 1) (hln : rg_ln o = n0) (hj : j < n0 ∧ n0 ≤ 100000) (hdg : decode cc pc = .ok (.bastore, 1))
    (kk : ∀ (H1 : Heap) (locs1 : List Loc), rg_H E B n R (rg_I M o j x) s H1 locs1 → W p l e Rm s m args below meth c H1 locs1 cells slots Q (F0 m (pc + 1) ls rest)) : W p l e Rm s m args below meth c H locs cells slots Q (F0 m pc ls (.int x :: .int (nI j) :: .ref (B + o) :: rest)) :=
  rg_zast C0 hH ho hk hx1 (rg_vinN hln hj).1 hdg (by rw [(rg_vinN hln hj).2]; exact kk)
theorem rg_lastN (C0 : rg_Cx p m c cc nL s args own E B) (hH : rg_H E B n R M s H locs) {o j n0 : Nat} {x : Int64} (ho : o < n) (hk : rg_kd o = 9) (hln : rg_ln o = n0) (hj : j < n0 ∧ n0 ≤ 100000) (hdg : decode cc pc = .ok (.lastore, 1))
    (kk : ∀ (H1 : Heap) (locs1 : List Loc), rg_H E B n R (rg_J M o j x) s H1 locs1 → W p l e Rm s m args below meth c H1 locs1 cells slots Q (F0 m (pc + 1) ls rest)) : W p l e Rm s m args below meth c H locs cells slots Q (F0 m pc ls (.long x :: .int (nI j) :: .ref (B + o) :: rest)) :=
  rg_last C0 hH ho hk (rg_vinN hln hj).1 hdg (by rw [(rg_vinN hln hj).2]; exact kk)
end RGR
end
section
/-! calls and ends over the one memory -/
def rg_X (E : rg_Env) (B n : Nat) (R : rg_Rfs) (M : rg_Mem) (xp : String → Prop) : String → State → State → Prop := vx_X (fun _ : Unit => True) (fun X _ t => xp X ∧ rg_Po E B n R M t) (rg_A B)
/-- ends: W.. with any memory that 'post' bears out, R.. with the memory g -/
abbrev rg_Wi (E : rg_Env) (B n : Nat) (R : rg_Rfs) (post : Int32 → rg_Mem → Prop) : Array Value → State → Outcome → State → Prop := va_Qi (S := rg_Mem) post (rg_Po E B n R) (rg_A B)
abbrev rg_Wl (E : rg_Env) (B n : Nat) (R : rg_Rfs) (post : Int64 → rg_Mem → Prop) : Array Value → State → Outcome → State → Prop := va_Ql (S := rg_Mem) post (rg_Po E B n R) (rg_A B)
abbrev rg_Wv (E : rg_Env) (B n : Nat) (R : rg_Rfs) (post : rg_Mem → Prop) : Array Value → State → Outcome → State → Prop := va_Qv (S := rg_Mem) post (rg_Po E B n R) (rg_A B)
abbrev rg_Ri (E : rg_Env) (B n : Nat) (R : rg_Rfs) (g : rg_Mem) (post : Int32 → Prop) : Array Value → State → Outcome → State → Prop := va_Qi (S := Unit) (fun r _ => post r) (fun _ t => rg_Po E B n R g t) (rg_A B)
abbrev rg_Rl (E : rg_Env) (B n : Nat) (R : rg_Rfs) (g : rg_Mem) (post : Int64 → Prop) : Array Value → State → Outcome → State → Prop := va_Ql (S := Unit) (fun r _ => post r) (fun _ t => rg_Po E B n R g t) (rg_A B)
abbrev rg_Rv (E : rg_Env) (B n : Nat) (R : rg_Rfs) (g : rg_Mem) (post : Prop) : Array Value → State → Outcome → State → Prop := va_Qv (S := Unit) (fun _ => post) (fun _ t => rg_Po E B n R g t) (rg_A B)
def rg_w (y : MethodName) (bytes : ByteArray) (maxL : Nat) (ret : Option FieldType) : List Cond := Cond.code y bytes maxL ret :: rg_T
theorem rg_good {own C : String} {idx maxL : Nat} {y : MethodName} {bytes : ByteArray} {ret : Option FieldType} (hm : Cond.methodLink own idx y ∈ rg_T) (hi : Cond.instanceMethod y ∈ rg_T) (hv : Cond.selects C y y ∈ rg_T) (hn : Cond.initialized C ∈ rg_T) (hcode : Cond.code y bytes maxL ret ∈ rg_T) : GoodIn rg_T (wsV own idx C y (rg_w y bytes maxL ret)) := by
  intro w hw
  have h1 : w ∈ rg_T := by
    simp only [wsV, rg_w, List.cons_append, List.nil_append, List.mem_cons] at hw
    rcases hw with rfl | rfl | rfl | rfl | rfl | hw
    · exact hm
    · exact hi
    · exact hv
    · exact hn
    · exact hcode
    · exact hw
  exact ⟨h1, good_of_word (List.mem_filter.mp h1).2⟩
theorem rg_goodS {own : String} {idx maxL : Nat} {y : MethodName} {bytes : ByteArray} {ret : Option FieldType} (hm : Cond.methodLink own idx y ∈ rg_T) (hi : Cond.static y ∈ rg_T) (hn : Cond.initialized own ∈ rg_T) (hcode : Cond.code y bytes maxL ret ∈ rg_T) : GoodIn rg_T (wsS own idx y (rg_w y bytes maxL ret)) := by
  intro w hw
  have h1 : w ∈ rg_T := by
    simp only [wsS, rg_w, List.cons_append, List.nil_append, List.mem_cons] at hw
    rcases hw with rfl | rfl | rfl | rfl | hw
    · exact hm
    · exact hi
    · exact hn
    · exact hcode
    · exact hw
  exact ⟨h1, good_of_word (List.mem_filter.mp h1).2⟩
theorem rg_cw {Rm : Room} {s : State} {args : Array Value} {own C : String} {idx maxL mc ms : Nat} {y : MethodName} {bytes : ByteArray} {ret : Option FieldType} {rm : Room} (na : Nat) (hts : ∀ w ∈ rg_T, w.before args s = true) (hm : Cond.methodLink own idx y ∈ rg_T) (hi : Cond.instanceMethod y ∈ rg_T) (hv : Cond.selects C y y ∈ rg_T) (hn : Cond.initialized C ∈ rg_T) (hcode : Cond.code y bytes maxL ret ∈ rg_T) (hrc : rm.cells = mc) (hrs : rm.slots = ms)
    (hd : y.cls = C ∧ y.cls ≠ "java/lang/invoke/MethodHandle" ∧ y.cls ≠ "java/lang/invoke/VarHandle" ∧ (parseMethodDescriptor y.desc).map (fun d => d.parameters.length) = some na) (hR : rm.frames + 1 ≤ Rm.frames ∧ 8 + (maxL + 11) + rm.locals ≤ Rm.locals) : CallW Rm s args own C idx y bytes maxL ret (rg_w y bytes maxL ret) rm mc ms na := cwV na hts (rg_good hm hi hv hn hcode) rfl hrc hrs hd hR
theorem rg_cwS {Rm : Room} {s : State} {args : Array Value} {own : String} {idx maxL mc ms : Nat} {y : MethodName} {bytes : ByteArray} {ret : Option FieldType} {rm : Room} (na : Nat) (hts : ∀ w ∈ rg_T, w.before args s = true) (hm : Cond.methodLink own idx y ∈ rg_T) (hi : Cond.static y ∈ rg_T) (hn : Cond.initialized own ∈ rg_T) (hcode : Cond.code y bytes maxL ret ∈ rg_T) (hrc : rm.cells = mc) (hrs : rm.slots = ms)
    (hd : y.cls = own ∧ y.cls ≠ "java/lang/invoke/MethodHandle" ∧ y.cls ≠ "java/lang/invoke/VarHandle" ∧ (parseMethodDescriptor y.desc).map (fun d => d.parameters.length) = some na) (hR : rm.frames + 1 ≤ Rm.frames ∧ 8 + (maxL + 11) + rm.locals ≤ Rm.locals) : CallB Rm s args own idx y bytes maxL ret (rg_w y bytes maxL ret) rm mc ms na ∧ (Cond.static y).before args s = true := cwS na hts (rg_goodS hm hi hn hcode) rfl hrc hrs hd hR
/-- the words of the three throws -/
def rg_bad (X : String) : List Cond := [.castable X X, .declares ⟨"java/lang/RuntimeException", "<init>", "(Ljava/lang/String;)V"⟩, .declares ⟨"java/lang/Exception", "<init>", "(Ljava/lang/String;)V"⟩, .declares ⟨"java/lang/Throwable", "<init>", "(Ljava/lang/String;)V"⟩]
theorem rg_at_ise : ∀ w ∈ (vx_atS "RengaHall" 80 "java/lang/IllegalStateException" ["java/lang/RuntimeException", "java/lang/Exception"]).filter goodWord, w ∈ lw_tbl := by decide +kernel
theorem rg_at_iae : ∀ w ∈ (vx_atS "RengaHall" 95 "java/lang/IllegalArgumentException" ["java/lang/RuntimeException", "java/lang/Exception"]).filter goodWord, w ∈ lw_tbl := by decide +kernel
theorem rg_at_ioob : ∀ w ∈ (vx_atS "RengaHall" 130 "java/lang/IndexOutOfBoundsException" ["java/lang/RuntimeException", "java/lang/Exception"]).filter goodWord, w ∈ lw_tbl := by decide +kernel
theorem rg_ab_ise : ∀ w ∈ (vx_atS "RengaHall" 80 "java/lang/IllegalStateException" ["java/lang/RuntimeException", "java/lang/Exception"]).filter (fun w => !goodWord w), w ∈ rg_bad "java/lang/IllegalStateException" := by decide +kernel
theorem rg_ab_iae : ∀ w ∈ (vx_atS "RengaHall" 95 "java/lang/IllegalArgumentException" ["java/lang/RuntimeException", "java/lang/Exception"]).filter (fun w => !goodWord w), w ∈ rg_bad "java/lang/IllegalArgumentException" := by decide +kernel
theorem rg_ab_ioob : ∀ w ∈ (vx_atS "RengaHall" 130 "java/lang/IndexOutOfBoundsException" ["java/lang/RuntimeException", "java/lang/Exception"]).filter (fun w => !goodWord w), w ∈ rg_bad "java/lang/IndexOutOfBoundsException" := by decide +kernel
theorem rg_ag_ise : ∀ w ∈ Cond.classLink "RengaHall" 76 "java/lang/IllegalStateException" :: Cond.initialized "java/lang/IllegalStateException" :: vx_atS "RengaHall" 80 "java/lang/IllegalStateException" ["java/lang/RuntimeException", "java/lang/Exception"], vx_ot w = true := by decide +kernel
theorem rg_ag_iae : ∀ w ∈ Cond.classLink "RengaHall" 91 "java/lang/IllegalArgumentException" :: Cond.initialized "java/lang/IllegalArgumentException" :: vx_atS "RengaHall" 95 "java/lang/IllegalArgumentException" ["java/lang/RuntimeException", "java/lang/Exception"], vx_ot w = true := by decide +kernel
theorem rg_ag_ioob : ∀ w ∈ Cond.classLink "RengaHall" 126 "java/lang/IndexOutOfBoundsException" :: Cond.initialized "java/lang/IndexOutOfBoundsException" :: vx_atS "RengaHall" 130 "java/lang/IndexOutOfBoundsException" ["java/lang/RuntimeException", "java/lang/Exception"], vx_ot w = true := by decide +kernel
theorem rg_hat {args : Array Value} {s : State} {L : List Cond} {X : String} (hts : ∀ w ∈ rg_T, w.before args s = true) (hX : va_Nw (.castable X X) s) (hY : ∀ y ∈ rg_ds, va_Nw (.declares y) s) (h0 : ∀ w ∈ L.filter goodWord, w ∈ lw_tbl) (h1 : ∀ w ∈ L.filter (fun w => !goodWord w), w ∈ rg_bad X) : ∀ w ∈ L, w.before args s = true :=
  vx_hat (fun w hw => hts w (List.mem_filter.mpr ⟨h0 w hw, (List.mem_filter.mp hw).2⟩)) h1 (vx_c (va_Nw.use rfl hX) (vx_c (va_Nw.use rfl (hY _ (by simp [rg_ds]))) (vx_c (va_Nw.use rfl (hY _ (by simp [rg_ds]))) (vx_c (va_Nw.use rfl (hY _ (by simp [rg_ds]))) vx_n))))
section RGC
variable {p : Program} {l : Launch} {e : Env} {Rm : Room} {s : State} {m : MethodId} {args : Array Value} {below : List Frame} {meth : Method} {c : Code} {H : Heap} {locs : List Loc} {cells slots : Nat} {Q : State → Prop}
variable {cc : ByteArray} {pc nL : Nat} {ls : Array Slot} {st rest : List Value} {own : String} {E : rg_Env} {B n : Nat} {R : rg_Rfs} {M : rg_Mem}
variable {C : String} {T : u_T} {N ci o : Nat} {As : List Value} {y : MethodName} {bytes : ByteArray} {maxL index na mc ms : Nat} {ret : Option FieldType} {ws : List Cond} {rm : Room}
theorem rg_callWi (C0 : rg_Cx p m c cc nL s args own E B) (hH : rg_H E B n R M s H locs) {post : Int32 → rg_Mem → Prop} (hM : Met l y ws rm (va_Pc (.ref (B + o) :: As) (rg_Pre E B n R M)) (rg_Wi E B n R post) mc ms (rg_A B)) (cw : CallW Rm s args own C index y bytes maxL ret ws rm mc ms na) (hc : vwCl[ci]? = some (C, T, N)) (ho : o < n) (hk : rg_kd o = ci) (hci : ci < 8) (hn : As.length = na) (hsize : ls.size = nL) (hst : st = As.reverse ++ .ref (B + o) :: rest) (hW : (rest.map fun v => v.category).sum ≤ 8) (hdg : decode cc pc = .ok (.invokevirtual index, 3)) (hf : cells + mc ≤ Rm.cells ∧ slots + ms ≤ Rm.slots)
    (kk : ∀ (r : Int32) (M1 : rg_Mem) (H1 : Heap) (locs1 : List Loc), post r M1 → rg_H E B n R M1 s H1 locs1 → W p l e Rm s m args below meth c H1 locs1 (cells + mc) (slots + ms) Q (F0 m (pc + 3) ls (.int r :: rest))) : W p l e Rm s m args below meth c H locs cells slots Q (F0 m pc ls st) := by
  obtain ⟨S, hK, hSt⟩ := C0
  have he : (rg_WS E.2 B n R M)[o]? = some (B + o, .inr (ci, rg_fs B R M o)) := by rw [rg_WS_get ho, rg_ent_o hk hci]
  exact va_calli (va_runV (As := As) (rest := rest) S hM cw ⟨rg_blind, va_recv hK hH.1 hc he, rg_pre hK hSt hH⟩ rfl hn hsize hst (lv_room hW) hdg hf) hH.2 (fun q _ h => h) (fun q h => h) (fun r u t H1 locs1 ht _ hp hB _ _ hS => kk r u H1 locs1 hp ⟨by rw [← ht]; exact hB, hS⟩)
theorem rg_xcallWi (C0 : rg_Cx p m c cc nL s args own E B) (hH : rg_H E B n R M s H locs) {post : Int32 → rg_Mem → Prop} {xp xq : String → Prop} {Qc : Array Value → State → Outcome → State → Prop} {kc ks : Nat} (hne : ∀ x ∈ c.exceptionTable.toList, False) (hlocks : meth.locks = false) (hxp : ∀ X, xp X → xq X) (hM : vx_Met l y ws rm (va_Pc (.ref (B + o) :: As) (rg_Pre E B n R M)) (rg_Wi E B n R post) (rg_X E B n R M xp) mc ms (rg_A B)) (cw : CallW Rm s args own C index y bytes maxL ret ws rm mc ms na) (hc : vwCl[ci]? = some (C, T, N)) (ho : o < n) (hk : rg_kd o = ci) (hci : ci < 8) (hn : As.length = na) (hsize : ls.size = nL) (hst : st = As.reverse ++ .ref (B + o) :: rest) (hW : (rest.map fun v => v.category).sum ≤ 8) (hdg : decode cc pc = .ok (.invokevirtual index, 3)) (hf : cells + mc ≤ Rm.cells ∧ slots + ms ≤ Rm.slots) (hq : cells + mc ≤ kc ∧ slots + ms ≤ ks)
    (kk : ∀ (r : Int32) (M1 : rg_Mem) (H1 : Heap) (locs1 : List Loc), post r M1 → rg_H E B n R M1 s H1 locs1 → W p l e Rm s m args below meth c H1 locs1 (cells + mc) (slots + ms) (vx_MQ below Qc (rg_X E B n R M xq) args s kc ks (rg_A B)) (F0 m (pc + 3) ls (.int r :: rest))) : W p l e Rm s m args below meth c H locs cells slots (vx_MQ below Qc (rg_X E B n R M xq) args s kc ks (rg_A B)) (F0 m pc ls st) := by
  obtain ⟨S, hK, hSt⟩ := C0
  have he : (rg_WS E.2 B n R M)[o]? = some (B + o, .inr (ci, rg_fs B R M o)) := by rw [rg_WS_get ho, rg_ent_o hk hci]
  exact vx_calli (vx_runV (As := As) (rest := rest) S hM cw ⟨rg_blind, va_recv hK hH.1 hc he, rg_pre hK hSt hH⟩ rfl hn hsize hst (lv_room hW) hdg hf) hH.2 (fun q _ h => h) (fun q h => h) (fun q _ h => h) (fun X ce q9 u t H1 locs1 ht _ hpx hbx _ _ hS hcell hv hcl => vx_out (fun x hx => (hne x hx).elim) hlocks hcell hv hcl (fun t2 ht2 _ => ⟨(), trivial, ⟨hxp X hbx.1, by show va_P _ _ _ _; rw [ht2, ← ht]; exact hbx.2⟩, hS.F ht2⟩) hS.2.2 hq.1 hq.2) (fun r u t H1 locs1 ht _ hp hB _ _ hS => kk r u H1 locs1 hp ⟨by rw [← ht]; exact hB, hS⟩)
theorem rg_callRi (C0 : rg_Cx p m c cc nL s args own E B) (hH : rg_H E B n R M s H locs) {g : rg_Mem} {post : Int32 → Prop} (hM : Met l y ws rm (va_Pc (.ref (B + o) :: As) (rg_Pre E B n R M)) (rg_Ri E B n R g post) mc ms (rg_A B)) (cw : CallW Rm s args own C index y bytes maxL ret ws rm mc ms na) (hc : vwCl[ci]? = some (C, T, N)) (ho : o < n) (hk : rg_kd o = ci) (hci : ci < 8) (hn : As.length = na) (hsize : ls.size = nL) (hst : st = As.reverse ++ .ref (B + o) :: rest) (hW : (rest.map fun v => v.category).sum ≤ 8) (hdg : decode cc pc = .ok (.invokevirtual index, 3)) (hf : cells + mc ≤ Rm.cells ∧ slots + ms ≤ Rm.slots)
    (kk : ∀ (r : Int32) (H1 : Heap) (locs1 : List Loc), post r → rg_H E B n R g s H1 locs1 → W p l e Rm s m args below meth c H1 locs1 (cells + mc) (slots + ms) Q (F0 m (pc + 3) ls (.int r :: rest))) : W p l e Rm s m args below meth c H locs cells slots Q (F0 m pc ls st) := by
  obtain ⟨S, hK, hSt⟩ := C0
  have he : (rg_WS E.2 B n R M)[o]? = some (B + o, .inr (ci, rg_fs B R M o)) := by rw [rg_WS_get ho, rg_ent_o hk hci]
  exact va_calli (va_runV (As := As) (rest := rest) S hM cw ⟨rg_blind, va_recv hK hH.1 hc he, rg_pre hK hSt hH⟩ rfl hn hsize hst (lv_room hW) hdg hf) hH.2 (fun q _ h => h) (fun q h => h) (fun r u t H1 locs1 ht _ hp hB _ _ hS => kk r H1 locs1 hp ⟨by rw [← ht]; exact hB, hS⟩)
theorem rg_xcallRi (C0 : rg_Cx p m c cc nL s args own E B) (hH : rg_H E B n R M s H locs) {g : rg_Mem} {post : Int32 → Prop} {xp xq : String → Prop} {Qc : Array Value → State → Outcome → State → Prop} {kc ks : Nat} (hne : ∀ x ∈ c.exceptionTable.toList, False) (hlocks : meth.locks = false) (hxp : ∀ X, xp X → xq X) (hM : vx_Met l y ws rm (va_Pc (.ref (B + o) :: As) (rg_Pre E B n R M)) (rg_Ri E B n R g post) (rg_X E B n R M xp) mc ms (rg_A B)) (cw : CallW Rm s args own C index y bytes maxL ret ws rm mc ms na) (hc : vwCl[ci]? = some (C, T, N)) (ho : o < n) (hk : rg_kd o = ci) (hci : ci < 8) (hn : As.length = na) (hsize : ls.size = nL) (hst : st = As.reverse ++ .ref (B + o) :: rest) (hW : (rest.map fun v => v.category).sum ≤ 8) (hdg : decode cc pc = .ok (.invokevirtual index, 3)) (hf : cells + mc ≤ Rm.cells ∧ slots + ms ≤ Rm.slots) (hq : cells + mc ≤ kc ∧ slots + ms ≤ ks)
    (kk : ∀ (r : Int32) (H1 : Heap) (locs1 : List Loc), post r → rg_H E B n R g s H1 locs1 → W p l e Rm s m args below meth c H1 locs1 (cells + mc) (slots + ms) (vx_MQ below Qc (rg_X E B n R M xq) args s kc ks (rg_A B)) (F0 m (pc + 3) ls (.int r :: rest))) : W p l e Rm s m args below meth c H locs cells slots (vx_MQ below Qc (rg_X E B n R M xq) args s kc ks (rg_A B)) (F0 m pc ls st) := by
  obtain ⟨S, hK, hSt⟩ := C0
  have he : (rg_WS E.2 B n R M)[o]? = some (B + o, .inr (ci, rg_fs B R M o)) := by rw [rg_WS_get ho, rg_ent_o hk hci]
  exact vx_calli (vx_runV (As := As) (rest := rest) S hM cw ⟨rg_blind, va_recv hK hH.1 hc he, rg_pre hK hSt hH⟩ rfl hn hsize hst (lv_room hW) hdg hf) hH.2 (fun q _ h => h) (fun q h => h) (fun q _ h => h) (fun X ce q9 u t H1 locs1 ht _ hpx hbx _ _ hS hcell hv hcl => vx_out (fun x hx => (hne x hx).elim) hlocks hcell hv hcl (fun t2 ht2 _ => ⟨(), trivial, ⟨hxp X hbx.1, by show va_P _ _ _ _; rw [ht2, ← ht]; exact hbx.2⟩, hS.F ht2⟩) hS.2.2 hq.1 hq.2) (fun r u t H1 locs1 ht _ hp hB _ _ hS => kk r H1 locs1 hp ⟨by rw [← ht]; exact hB, hS⟩)
theorem rg_callGi (C0 : rg_Cx p m c cc nL s args own E B) (hH : rg_H E B n R M s H locs) {g : rg_Mem} {f : Int32} (hM : Met l y ws rm (va_Pc (.ref (B + o) :: As) (rg_Pre E B n R M)) (rg_Ri E B n R g (fun r => r = f)) mc ms (rg_A B)) (cw : CallW Rm s args own C index y bytes maxL ret ws rm mc ms na) (hc : vwCl[ci]? = some (C, T, N)) (ho : o < n) (hk : rg_kd o = ci) (hci : ci < 8) (hn : As.length = na) (hsize : ls.size = nL) (hst : st = As.reverse ++ .ref (B + o) :: rest) (hW : (rest.map fun v => v.category).sum ≤ 8) (hdg : decode cc pc = .ok (.invokevirtual index, 3)) (hf : cells + mc ≤ Rm.cells ∧ slots + ms ≤ Rm.slots)
    (kk : ∀ (H1 : Heap) (locs1 : List Loc), rg_H E B n R g s H1 locs1 → W p l e Rm s m args below meth c H1 locs1 (cells + mc) (slots + ms) Q (F0 m (pc + 3) ls (.int f :: rest))) : W p l e Rm s m args below meth c H locs cells slots Q (F0 m pc ls st) := by
  obtain ⟨S, hK, hSt⟩ := C0
  have he : (rg_WS E.2 B n R M)[o]? = some (B + o, .inr (ci, rg_fs B R M o)) := by rw [rg_WS_get ho, rg_ent_o hk hci]
  exact va_calli (va_runV (As := As) (rest := rest) S hM cw ⟨rg_blind, va_recv hK hH.1 hc he, rg_pre hK hSt hH⟩ rfl hn hsize hst (lv_room hW) hdg hf) hH.2 (fun q _ h => h) (fun q h => h) (fun r u t H1 locs1 ht _ hp hB _ _ hS => by subst hp; exact kk H1 locs1 ⟨by rw [← ht]; exact hB, hS⟩)
theorem rg_xcallGi (C0 : rg_Cx p m c cc nL s args own E B) (hH : rg_H E B n R M s H locs) {g : rg_Mem} {f : Int32} {xp xq : String → Prop} {Qc : Array Value → State → Outcome → State → Prop} {kc ks : Nat} (hne : ∀ x ∈ c.exceptionTable.toList, False) (hlocks : meth.locks = false) (hxp : ∀ X, xp X → xq X) (hM : vx_Met l y ws rm (va_Pc (.ref (B + o) :: As) (rg_Pre E B n R M)) (rg_Ri E B n R g (fun r => r = f)) (rg_X E B n R M xp) mc ms (rg_A B)) (cw : CallW Rm s args own C index y bytes maxL ret ws rm mc ms na) (hc : vwCl[ci]? = some (C, T, N)) (ho : o < n) (hk : rg_kd o = ci) (hci : ci < 8) (hn : As.length = na) (hsize : ls.size = nL) (hst : st = As.reverse ++ .ref (B + o) :: rest) (hW : (rest.map fun v => v.category).sum ≤ 8) (hdg : decode cc pc = .ok (.invokevirtual index, 3)) (hf : cells + mc ≤ Rm.cells ∧ slots + ms ≤ Rm.slots) (hq : cells + mc ≤ kc ∧ slots + ms ≤ ks)
    (kk : ∀ (H1 : Heap) (locs1 : List Loc), rg_H E B n R g s H1 locs1 → W p l e Rm s m args below meth c H1 locs1 (cells + mc) (slots + ms) (vx_MQ below Qc (rg_X E B n R M xq) args s kc ks (rg_A B)) (F0 m (pc + 3) ls (.int f :: rest))) : W p l e Rm s m args below meth c H locs cells slots (vx_MQ below Qc (rg_X E B n R M xq) args s kc ks (rg_A B)) (F0 m pc ls st) := by
  obtain ⟨S, hK, hSt⟩ := C0
  have he : (rg_WS E.2 B n R M)[o]? = some (B + o, .inr (ci, rg_fs B R M o)) := by rw [rg_WS_get ho, rg_ent_o hk hci]
  exact vx_calli (vx_runV (As := As) (rest := rest) S hM cw ⟨rg_blind, va_recv hK hH.1 hc he, rg_pre hK hSt hH⟩ rfl hn hsize hst (lv_room hW) hdg hf) hH.2 (fun q _ h => h) (fun q h => h) (fun q _ h => h) (fun X ce q9 u t H1 locs1 ht _ hpx hbx _ _ hS hcell hv hcl => vx_out (fun x hx => (hne x hx).elim) hlocks hcell hv hcl (fun t2 ht2 _ => ⟨(), trivial, ⟨hxp X hbx.1, by show va_P _ _ _ _; rw [ht2, ← ht]; exact hbx.2⟩, hS.F ht2⟩) hS.2.2 hq.1 hq.2) (fun r u t H1 locs1 ht _ hp hB _ _ hS => by subst hp; exact kk H1 locs1 ⟨by rw [← ht]; exact hB, hS⟩)
theorem rg_callWl (C0 : rg_Cx p m c cc nL s args own E B) (hH : rg_H E B n R M s H locs) {post : Int64 → rg_Mem → Prop} (hM : Met l y ws rm (va_Pc (.ref (B + o) :: As) (rg_Pre E B n R M)) (rg_Wl E B n R post) mc ms (rg_A B)) (cw : CallW Rm s args own C index y bytes maxL ret ws rm mc ms na) (hc : vwCl[ci]? = some (C, T, N)) (ho : o < n) (hk : rg_kd o = ci) (hci : ci < 8) (hn : As.length = na) (hsize : ls.size = nL) (hst : st = As.reverse ++ .ref (B + o) :: rest) (hW : (rest.map fun v => v.category).sum ≤ 8) (hdg : decode cc pc = .ok (.invokevirtual index, 3)) (hf : cells + mc ≤ Rm.cells ∧ slots + ms ≤ Rm.slots)
    (kk : ∀ (r : Int64) (M1 : rg_Mem) (H1 : Heap) (locs1 : List Loc), post r M1 → rg_H E B n R M1 s H1 locs1 → W p l e Rm s m args below meth c H1 locs1 (cells + mc) (slots + ms) Q (F0 m (pc + 3) ls (.long r :: rest))) : W p l e Rm s m args below meth c H locs cells slots Q (F0 m pc ls st) := by
  obtain ⟨S, hK, hSt⟩ := C0
  have he : (rg_WS E.2 B n R M)[o]? = some (B + o, .inr (ci, rg_fs B R M o)) := by rw [rg_WS_get ho, rg_ent_o hk hci]
  exact va_calll (va_runV (As := As) (rest := rest) S hM cw ⟨rg_blind, va_recv hK hH.1 hc he, rg_pre hK hSt hH⟩ rfl hn hsize hst (lv_room hW) hdg hf) hH.2 (fun q _ h => h) (fun q h => h) (fun r u t H1 locs1 ht _ hp hB _ _ hS => kk r u H1 locs1 hp ⟨by rw [← ht]; exact hB, hS⟩)
theorem rg_callRl (C0 : rg_Cx p m c cc nL s args own E B) (hH : rg_H E B n R M s H locs) {g : rg_Mem} {post : Int64 → Prop} (hM : Met l y ws rm (va_Pc (.ref (B + o) :: As) (rg_Pre E B n R M)) (rg_Rl E B n R g post) mc ms (rg_A B)) (cw : CallW Rm s args own C index y bytes maxL ret ws rm mc ms na) (hc : vwCl[ci]? = some (C, T, N)) (ho : o < n) (hk : rg_kd o = ci) (hci : ci < 8) (hn : As.length = na) (hsize : ls.size = nL) (hst : st = As.reverse ++ .ref (B + o) :: rest) (hW : (rest.map fun v => v.category).sum ≤ 8) (hdg : decode cc pc = .ok (.invokevirtual index, 3)) (hf : cells + mc ≤ Rm.cells ∧ slots + ms ≤ Rm.slots)
    (kk : ∀ (r : Int64) (H1 : Heap) (locs1 : List Loc), post r → rg_H E B n R g s H1 locs1 → W p l e Rm s m args below meth c H1 locs1 (cells + mc) (slots + ms) Q (F0 m (pc + 3) ls (.long r :: rest))) : W p l e Rm s m args below meth c H locs cells slots Q (F0 m pc ls st) := by
  obtain ⟨S, hK, hSt⟩ := C0
  have he : (rg_WS E.2 B n R M)[o]? = some (B + o, .inr (ci, rg_fs B R M o)) := by rw [rg_WS_get ho, rg_ent_o hk hci]
  exact va_calll (va_runV (As := As) (rest := rest) S hM cw ⟨rg_blind, va_recv hK hH.1 hc he, rg_pre hK hSt hH⟩ rfl hn hsize hst (lv_room hW) hdg hf) hH.2 (fun q _ h => h) (fun q h => h) (fun r u t H1 locs1 ht _ hp hB _ _ hS => kk r H1 locs1 hp ⟨by rw [← ht]; exact hB, hS⟩)
theorem rg_callGl (C0 : rg_Cx p m c cc nL s args own E B) (hH : rg_H E B n R M s H locs) {g : rg_Mem} {f : Int64} (hM : Met l y ws rm (va_Pc (.ref (B + o) :: As) (rg_Pre E B n R M)) (rg_Rl E B n R g (fun r => r = f)) mc ms (rg_A B)) (cw : CallW Rm s args own C index y bytes maxL ret ws rm mc ms na) (hc : vwCl[ci]? = some (C, T, N)) (ho : o < n) (hk : rg_kd o = ci) (hci : ci < 8) (hn : As.length = na) (hsize : ls.size = nL) (hst : st = As.reverse ++ .ref (B + o) :: rest) (hW : (rest.map fun v => v.category).sum ≤ 8) (hdg : decode cc pc = .ok (.invokevirtual index, 3)) (hf : cells + mc ≤ Rm.cells ∧ slots + ms ≤ Rm.slots)
    (kk : ∀ (H1 : Heap) (locs1 : List Loc), rg_H E B n R g s H1 locs1 → W p l e Rm s m args below meth c H1 locs1 (cells + mc) (slots + ms) Q (F0 m (pc + 3) ls (.long f :: rest))) : W p l e Rm s m args below meth c H locs cells slots Q (F0 m pc ls st) := by
  obtain ⟨S, hK, hSt⟩ := C0
  have he : (rg_WS E.2 B n R M)[o]? = some (B + o, .inr (ci, rg_fs B R M o)) := by rw [rg_WS_get ho, rg_ent_o hk hci]
  exact va_calll (va_runV (As := As) (rest := rest) S hM cw ⟨rg_blind, va_recv hK hH.1 hc he, rg_pre hK hSt hH⟩ rfl hn hsize hst (lv_room hW) hdg hf) hH.2 (fun q _ h => h) (fun q h => h) (fun r u t H1 locs1 ht _ hp hB _ _ hS => by subst hp; exact kk H1 locs1 ⟨by rw [← ht]; exact hB, hS⟩)
theorem rg_callWv (C0 : rg_Cx p m c cc nL s args own E B) (hH : rg_H E B n R M s H locs) {post : rg_Mem → Prop} (hM : Met l y ws rm (va_Pc (.ref (B + o) :: As) (rg_Pre E B n R M)) (rg_Wv E B n R post) mc ms (rg_A B)) (cw : CallW Rm s args own C index y bytes maxL ret ws rm mc ms na) (hc : vwCl[ci]? = some (C, T, N)) (ho : o < n) (hk : rg_kd o = ci) (hci : ci < 8) (hn : As.length = na) (hsize : ls.size = nL) (hst : st = As.reverse ++ .ref (B + o) :: rest) (hW : (rest.map fun v => v.category).sum ≤ 8) (hdg : decode cc pc = .ok (.invokevirtual index, 3)) (hf : cells + mc ≤ Rm.cells ∧ slots + ms ≤ Rm.slots)
    (kk : ∀ (M1 : rg_Mem) (H1 : Heap) (locs1 : List Loc), post M1 → rg_H E B n R M1 s H1 locs1 → W p l e Rm s m args below meth c H1 locs1 (cells + mc) (slots + ms) Q (F0 m (pc + 3) ls (rest))) : W p l e Rm s m args below meth c H locs cells slots Q (F0 m pc ls st) := by
  obtain ⟨S, hK, hSt⟩ := C0
  have he : (rg_WS E.2 B n R M)[o]? = some (B + o, .inr (ci, rg_fs B R M o)) := by rw [rg_WS_get ho, rg_ent_o hk hci]
  exact va_callv (va_runV (As := As) (rest := rest) S hM cw ⟨rg_blind, va_recv hK hH.1 hc he, rg_pre hK hSt hH⟩ rfl hn hsize hst (lv_room hW) hdg hf) hH.2 (fun q _ h => h) (fun q h => h) (fun u t H1 locs1 ht _ hp hB _ _ hS => kk u H1 locs1 hp ⟨by rw [← ht]; exact hB, hS⟩)
theorem rg_xcallWv (C0 : rg_Cx p m c cc nL s args own E B) (hH : rg_H E B n R M s H locs) {post : rg_Mem → Prop} {xp xq : String → Prop} {Qc : Array Value → State → Outcome → State → Prop} {kc ks : Nat} (hne : ∀ x ∈ c.exceptionTable.toList, False) (hlocks : meth.locks = false) (hxp : ∀ X, xp X → xq X) (hM : vx_Met l y ws rm (va_Pc (.ref (B + o) :: As) (rg_Pre E B n R M)) (rg_Wv E B n R post) (rg_X E B n R M xp) mc ms (rg_A B)) (cw : CallW Rm s args own C index y bytes maxL ret ws rm mc ms na) (hc : vwCl[ci]? = some (C, T, N)) (ho : o < n) (hk : rg_kd o = ci) (hci : ci < 8) (hn : As.length = na) (hsize : ls.size = nL) (hst : st = As.reverse ++ .ref (B + o) :: rest) (hW : (rest.map fun v => v.category).sum ≤ 8) (hdg : decode cc pc = .ok (.invokevirtual index, 3)) (hf : cells + mc ≤ Rm.cells ∧ slots + ms ≤ Rm.slots) (hq : cells + mc ≤ kc ∧ slots + ms ≤ ks)
    (kk : ∀ (M1 : rg_Mem) (H1 : Heap) (locs1 : List Loc), post M1 → rg_H E B n R M1 s H1 locs1 → W p l e Rm s m args below meth c H1 locs1 (cells + mc) (slots + ms) (vx_MQ below Qc (rg_X E B n R M xq) args s kc ks (rg_A B)) (F0 m (pc + 3) ls (rest))) : W p l e Rm s m args below meth c H locs cells slots (vx_MQ below Qc (rg_X E B n R M xq) args s kc ks (rg_A B)) (F0 m pc ls st) := by
  obtain ⟨S, hK, hSt⟩ := C0
  have he : (rg_WS E.2 B n R M)[o]? = some (B + o, .inr (ci, rg_fs B R M o)) := by rw [rg_WS_get ho, rg_ent_o hk hci]
  exact vx_callv (vx_runV (As := As) (rest := rest) S hM cw ⟨rg_blind, va_recv hK hH.1 hc he, rg_pre hK hSt hH⟩ rfl hn hsize hst (lv_room hW) hdg hf) hH.2 (fun q _ h => h) (fun q h => h) (fun q _ h => h) (fun X ce q9 u t H1 locs1 ht _ hpx hbx _ _ hS hcell hv hcl => vx_out (fun x hx => (hne x hx).elim) hlocks hcell hv hcl (fun t2 ht2 _ => ⟨(), trivial, ⟨hxp X hbx.1, by show va_P _ _ _ _; rw [ht2, ← ht]; exact hbx.2⟩, hS.F ht2⟩) hS.2.2 hq.1 hq.2) (fun u t H1 locs1 ht _ hp hB _ _ hS => kk u H1 locs1 hp ⟨by rw [← ht]; exact hB, hS⟩)
theorem rg_callRv (C0 : rg_Cx p m c cc nL s args own E B) (hH : rg_H E B n R M s H locs) {g : rg_Mem} {post : Prop} (hM : Met l y ws rm (va_Pc (.ref (B + o) :: As) (rg_Pre E B n R M)) (rg_Rv E B n R g post) mc ms (rg_A B)) (cw : CallW Rm s args own C index y bytes maxL ret ws rm mc ms na) (hc : vwCl[ci]? = some (C, T, N)) (ho : o < n) (hk : rg_kd o = ci) (hci : ci < 8) (hn : As.length = na) (hsize : ls.size = nL) (hst : st = As.reverse ++ .ref (B + o) :: rest) (hW : (rest.map fun v => v.category).sum ≤ 8) (hdg : decode cc pc = .ok (.invokevirtual index, 3)) (hf : cells + mc ≤ Rm.cells ∧ slots + ms ≤ Rm.slots)
    (kk : ∀ (H1 : Heap) (locs1 : List Loc), post → rg_H E B n R g s H1 locs1 → W p l e Rm s m args below meth c H1 locs1 (cells + mc) (slots + ms) Q (F0 m (pc + 3) ls (rest))) : W p l e Rm s m args below meth c H locs cells slots Q (F0 m pc ls st) := by
  obtain ⟨S, hK, hSt⟩ := C0
  have he : (rg_WS E.2 B n R M)[o]? = some (B + o, .inr (ci, rg_fs B R M o)) := by rw [rg_WS_get ho, rg_ent_o hk hci]
  exact va_callv (va_runV (As := As) (rest := rest) S hM cw ⟨rg_blind, va_recv hK hH.1 hc he, rg_pre hK hSt hH⟩ rfl hn hsize hst (lv_room hW) hdg hf) hH.2 (fun q _ h => h) (fun q h => h) (fun u t H1 locs1 ht _ hp hB _ _ hS => kk H1 locs1 hp ⟨by rw [← ht]; exact hB, hS⟩)
theorem rg_xcallRv (C0 : rg_Cx p m c cc nL s args own E B) (hH : rg_H E B n R M s H locs) {g : rg_Mem} {post : Prop} {xp xq : String → Prop} {Qc : Array Value → State → Outcome → State → Prop} {kc ks : Nat} (hne : ∀ x ∈ c.exceptionTable.toList, False) (hlocks : meth.locks = false) (hxp : ∀ X, xp X → xq X) (hM : vx_Met l y ws rm (va_Pc (.ref (B + o) :: As) (rg_Pre E B n R M)) (rg_Rv E B n R g post) (rg_X E B n R M xp) mc ms (rg_A B)) (cw : CallW Rm s args own C index y bytes maxL ret ws rm mc ms na) (hc : vwCl[ci]? = some (C, T, N)) (ho : o < n) (hk : rg_kd o = ci) (hci : ci < 8) (hn : As.length = na) (hsize : ls.size = nL) (hst : st = As.reverse ++ .ref (B + o) :: rest) (hW : (rest.map fun v => v.category).sum ≤ 8) (hdg : decode cc pc = .ok (.invokevirtual index, 3)) (hf : cells + mc ≤ Rm.cells ∧ slots + ms ≤ Rm.slots) (hq : cells + mc ≤ kc ∧ slots + ms ≤ ks)
    (kk : ∀ (H1 : Heap) (locs1 : List Loc), post → rg_H E B n R g s H1 locs1 → W p l e Rm s m args below meth c H1 locs1 (cells + mc) (slots + ms) (vx_MQ below Qc (rg_X E B n R M xq) args s kc ks (rg_A B)) (F0 m (pc + 3) ls (rest))) : W p l e Rm s m args below meth c H locs cells slots (vx_MQ below Qc (rg_X E B n R M xq) args s kc ks (rg_A B)) (F0 m pc ls st) := by
  obtain ⟨S, hK, hSt⟩ := C0
  have he : (rg_WS E.2 B n R M)[o]? = some (B + o, .inr (ci, rg_fs B R M o)) := by rw [rg_WS_get ho, rg_ent_o hk hci]
  exact vx_callv (vx_runV (As := As) (rest := rest) S hM cw ⟨rg_blind, va_recv hK hH.1 hc he, rg_pre hK hSt hH⟩ rfl hn hsize hst (lv_room hW) hdg hf) hH.2 (fun q _ h => h) (fun q h => h) (fun q _ h => h) (fun X ce q9 u t H1 locs1 ht _ hpx hbx _ _ hS hcell hv hcl => vx_out (fun x hx => (hne x hx).elim) hlocks hcell hv hcl (fun t2 ht2 _ => ⟨(), trivial, ⟨hxp X hbx.1, by show va_P _ _ _ _; rw [ht2, ← ht]; exact hbx.2⟩, hS.F ht2⟩) hS.2.2 hq.1 hq.2) (fun u t H1 locs1 ht _ hp hB _ _ hS => kk H1 locs1 hp ⟨by rw [← ht]; exact hB, hS⟩)
theorem rg_callSRi (C0 : rg_Cx p m c cc nL s args own E B) (hH : rg_H E B n R M s H locs) {g : rg_Mem} {post : Int32 → Prop} (hM : Met l y ws rm (va_Pc As (rg_Pre E B n R M)) (rg_Ri E B n R g post) mc ms (rg_A B)) (cw : CallB Rm s args own index y bytes maxL ret ws rm mc ms na ∧ (Cond.static y).before args s = true) (hn : As.length = na) (hsize : ls.size = nL) (hst : st = As.reverse ++ rest) (hW : (rest.map fun v => v.category).sum ≤ 8) (hdg : decode cc pc = .ok (.invokestatic index, 3)) (hf : cells + mc ≤ Rm.cells ∧ slots + ms ≤ Rm.slots)
    (kk : ∀ (r : Int32) (H1 : Heap) (locs1 : List Loc), post r → rg_H E B n R g s H1 locs1 → W p l e Rm s m args below meth c H1 locs1 (cells + mc) (slots + ms) Q (F0 m (pc + 3) ls (.int r :: rest))) : W p l e Rm s m args below meth c H locs cells slots Q (F0 m pc ls st) := by
  obtain ⟨S, hK, hSt⟩ := C0
  exact va_calli (va_runS (As := As) (rest := rest) S hM cw ⟨rg_blind, rg_pre hK hSt hH⟩ rfl hn hsize hst (lv_room hW) hdg hf) hH.2 (fun q _ h => h) (fun q h => h) (fun r u t H1 locs1 ht _ hp hB _ _ hS => kk r H1 locs1 hp ⟨by rw [← ht]; exact hB, hS⟩)
theorem rg_callSGi (C0 : rg_Cx p m c cc nL s args own E B) (hH : rg_H E B n R M s H locs) {g : rg_Mem} {f : Int32} (hM : Met l y ws rm (va_Pc As (rg_Pre E B n R M)) (rg_Ri E B n R g (fun r => r = f)) mc ms (rg_A B)) (cw : CallB Rm s args own index y bytes maxL ret ws rm mc ms na ∧ (Cond.static y).before args s = true) (hn : As.length = na) (hsize : ls.size = nL) (hst : st = As.reverse ++ rest) (hW : (rest.map fun v => v.category).sum ≤ 8) (hdg : decode cc pc = .ok (.invokestatic index, 3)) (hf : cells + mc ≤ Rm.cells ∧ slots + ms ≤ Rm.slots)
    (kk : ∀ (H1 : Heap) (locs1 : List Loc), rg_H E B n R g s H1 locs1 → W p l e Rm s m args below meth c H1 locs1 (cells + mc) (slots + ms) Q (F0 m (pc + 3) ls (.int f :: rest))) : W p l e Rm s m args below meth c H locs cells slots Q (F0 m pc ls st) := by
  obtain ⟨S, hK, hSt⟩ := C0
  exact va_calli (va_runS (As := As) (rest := rest) S hM cw ⟨rg_blind, rg_pre hK hSt hH⟩ rfl hn hsize hst (lv_room hW) hdg hf) hH.2 (fun q _ h => h) (fun q h => h) (fun r u t H1 locs1 ht _ hp hB _ _ hS => by subst hp; exact kk H1 locs1 ⟨by rw [← ht]; exact hB, hS⟩)
/-- throw new E("text") -/
theorem rg_throw (C0 : rg_Cx p m c cc nL s args "RengaHall" E B) (hH : rg_H E B n R M s H locs) (hl : l.stackTraces = false) {cls text : String} {names : List String} {ik is ic kc ks : Nat} {xq : String → Prop} {Qc : Array Value → State → Outcome → State → Prop} (hne : ∀ x ∈ c.exceptionTable.toList, False) (hlocks : meth.locks = false) (hcls : Bundle.fit cls = true) (hnames : ∀ n ∈ names, Bundle.fit n = true) (hk : Cond.classLink "RengaHall" ik cls ∈ rg_T) (hini : Cond.initialized cls ∈ rg_T) (hstr : (is, text) ∈ rg_strs) (hX : cls ∈ rg_xs) (h0 : ∀ w ∈ (vx_atS "RengaHall" ic cls names).filter goodWord, w ∈ lw_tbl) (h1 : ∀ w ∈ (vx_atS "RengaHall" ic cls names).filter (fun w => !goodWord w), w ∈ rg_bad cls)
    (hgood : ∀ w ∈ Cond.classLink "RengaHall" ik cls :: Cond.initialized cls :: vx_atS "RengaHall" ic cls names, vx_ot w = true) (hsize : ls.size = nL) (d0 : decode cc pc = .ok (.new ik, 3)) (d3 : decode cc (pc + 3) = .ok (.dup, 1)) (d4 : decode cc (pc + 4) = .ok (.ldc is, 2)) (d6 : decode cc (pc + 6) = .ok (.invokespecial ic, 3)) (d9 : decode cc (pc + 9) = .ok (.athrow, 1)) (hRframes : names.length + 3 < Rm.frames) (hRlocals : (rest.map fun v => v.category).sum + (13 * (names.length + 1) + 43) ≤ Rm.locals) (hRcells : cells + 1 ≤ Rm.cells) (hRslots : slots + 6 ≤ Rm.slots) (hq : xq cls) (hc : cells + 1 ≤ kc) (hs : slots + 6 ≤ ks) : W p l e Rm s m args below meth c H locs cells slots (vx_MQ below Qc (rg_X E B n R M xq) args s kc ks (rg_A B)) (F0 m pc ls rest) := by
  obtain ⟨⟨hx, hb, hml, hown, hts⟩, hK, hSt⟩ := C0
  obtain ⟨sa, hsa⟩ := hSt.2.2.1 _ hstr
  exact vx_throwS hx hb hl hown hcls hnames (hts _ hk) (hts _ hini) hsa (rg_hat hts (hSt.2.2.2.2.2.1 _ hX) hSt.2.2.2.2.2.2.1 h0 h1) hgood hSt.1 hSt.2.1 hH.2 (hsize.trans hml.symm) d0 d3 d4 d6 d9 (fun x hx => (hne x hx).elim) hRframes hRlocals hRcells hRslots hlocks (fun t _ hz hk2 => ⟨(), trivial, ⟨hq, hH.1.kept (fun k q hq => hk2 q.1 ((hH.1 k q hq).lt))⟩, ⟨Nat.le_trans hH.2.1 hz, fun q h1 h2 => (hk2 q (Nat.lt_of_lt_of_le h1 hH.2.1)).trans (hH.2.2.1 q h1 h2)⟩⟩) hH.2.2.2 hc hs
theorem rg_throwW (C0 : rg_Cx p m c cc nL s args "RengaHall" E B) (hH : rg_H E B n R M s H locs) (hl : l.stackTraces = false) {cls text : String} {names : List String} {ik is ic kc ks : Nat} {xq : String → Prop} {Qc : Array Value → State → Outcome → State → Prop} (hne : ∀ x ∈ c.exceptionTable.toList, False) (hlocks : meth.locks = false) (hcls : Bundle.fit cls = true) (hnames : ∀ n ∈ names, Bundle.fit n = true) (hk : Cond.classLink "RengaHall" ik cls ∈ rg_T) (hini : Cond.initialized cls ∈ rg_T) (hstr : (is, text) ∈ rg_strs) (hX : cls ∈ rg_xs) (h0 : ∀ w ∈ (vx_atS "RengaHall" ic cls names).filter goodWord, w ∈ lw_tbl) (h1 : ∀ w ∈ (vx_atS "RengaHall" ic cls names).filter (fun w => !goodWord w), w ∈ rg_bad cls)
    (hgood : ∀ w ∈ Cond.classLink "RengaHall" ik cls :: Cond.initialized cls :: vx_atS "RengaHall" ic cls names, vx_ot w = true) (hsize : ls.size = nL) (d0 : decode cc pc = .ok (.new ik, 3)) (d3 : decode cc (pc + 3) = .ok (.dup, 1)) (d4 : decode cc (pc + 4) = .ok (.ldc_w is, 3)) (d6 : decode cc (pc + 7) = .ok (.invokespecial ic, 3)) (d9 : decode cc (pc + 10) = .ok (.athrow, 1)) (hRframes : names.length + 3 < Rm.frames) (hRlocals : (rest.map fun v => v.category).sum + (13 * (names.length + 1) + 43) ≤ Rm.locals) (hRcells : cells + 1 ≤ Rm.cells) (hRslots : slots + 6 ≤ Rm.slots) (hq : xq cls) (hc : cells + 1 ≤ kc) (hs : slots + 6 ≤ ks) : W p l e Rm s m args below meth c H locs cells slots (vx_MQ below Qc (rg_X E B n R M xq) args s kc ks (rg_A B)) (F0 m pc ls rest) := by
  obtain ⟨⟨hx, hb, hml, hown, hts⟩, hK, hSt⟩ := C0
  obtain ⟨sa, hsa⟩ := hSt.2.2.1 _ hstr
  exact vx_throwSW hx hb hl hown hcls hnames (hts _ hk) (hts _ hini) hsa (rg_hat hts (hSt.2.2.2.2.2.1 _ hX) hSt.2.2.2.2.2.2.1 h0 h1) hgood hSt.1 hSt.2.1 hH.2 (hsize.trans hml.symm) d0 d3 d4 d6 d9 (fun x hx => (hne x hx).elim) hRframes hRlocals hRcells hRslots hlocks (fun t _ hz hk2 => ⟨(), trivial, ⟨hq, hH.1.kept (fun k q hq => hk2 q.1 ((hH.1 k q hq).lt))⟩, ⟨Nat.le_trans hH.2.1 hz, fun q h1 h2 => (hk2 q (Nat.lt_of_lt_of_le h1 hH.2.1)).trans (hH.2.2.1 q h1 h2)⟩⟩) hH.2.2.2 hc hs
/-- ends -/
theorem rg_retWi (C0 : rg_Cx p m c cc nL s args own E B) (hH : rg_H E B n R M s H locs) {post : Int32 → rg_Mem → Prop} {v : Int32} (hr : meth.sig.returnType = some .int) (hlocks : meth.locks = false) (hp : post v M) (hdg : decode cc pc = .ok (.ireturn, 1)) : W p l e Rm s m args below meth c H locs cells slots (MQ below (rg_Wi E B n R post) args s cells slots (rg_A B)) (F0 m pc ls [.int v]) :=
  W.iret C0.1.1 C0.1.2.1 hr (fun t ht _ => ⟨⟨v, M, rfl, hp, by show va_P _ _ _ _; rw [ht]; exact hH.1⟩, hH.2.F ht⟩) hH.2.2.2 hdg hlocks
theorem rg_retRi (C0 : rg_Cx p m c cc nL s args own E B) {g : rg_Mem} (hH : rg_H E B n R M s H locs) {post : Int32 → Prop} {v : Int32} (hr : meth.sig.returnType = some .int) (hlocks : meth.locks = false) (hg : M = g) (hp : post v) (hdg : decode cc pc = .ok (.ireturn, 1)) : W p l e Rm s m args below meth c H locs cells slots (MQ below (rg_Ri E B n R g post) args s cells slots (rg_A B)) (F0 m pc ls [.int v]) :=
  W.iret C0.1.1 C0.1.2.1 hr (fun t ht _ => ⟨⟨v, (), rfl, hp, by show va_P _ _ _ _; rw [ht, ← hg]; exact hH.1⟩, hH.2.F ht⟩) hH.2.2.2 hdg hlocks
theorem rg_retWl (C0 : rg_Cx p m c cc nL s args own E B) (hH : rg_H E B n R M s H locs) {post : Int64 → rg_Mem → Prop} {v : Int64} (hr : meth.sig.returnType = some .long) (hlocks : meth.locks = false) (hp : post v M) (hdg : decode cc pc = .ok (.lreturn, 1)) : W p l e Rm s m args below meth c H locs cells slots (MQ below (rg_Wl E B n R post) args s cells slots (rg_A B)) (F0 m pc ls [.long v]) :=
  W.lret C0.1.1 C0.1.2.1 hr (fun t ht _ => ⟨⟨v, M, rfl, hp, by show va_P _ _ _ _; rw [ht]; exact hH.1⟩, hH.2.F ht⟩) hH.2.2.2 hdg hlocks
theorem rg_retRl (C0 : rg_Cx p m c cc nL s args own E B) {g : rg_Mem} (hH : rg_H E B n R M s H locs) {post : Int64 → Prop} {v : Int64} (hr : meth.sig.returnType = some .long) (hlocks : meth.locks = false) (hg : M = g) (hp : post v) (hdg : decode cc pc = .ok (.lreturn, 1)) : W p l e Rm s m args below meth c H locs cells slots (MQ below (rg_Rl E B n R g post) args s cells slots (rg_A B)) (F0 m pc ls [.long v]) :=
  W.lret C0.1.1 C0.1.2.1 hr (fun t ht _ => ⟨⟨v, (), rfl, hp, by show va_P _ _ _ _; rw [ht, ← hg]; exact hH.1⟩, hH.2.F ht⟩) hH.2.2.2 hdg hlocks
theorem rg_retWz (C0 : rg_Cx p m c cc nL s args own E B) (hH : rg_H E B n R M s H locs) {post : Int32 → rg_Mem → Prop} {v : Int32} (hr : meth.sig.returnType = some .boolean) (hlocks : meth.locks = false) (hz : v = 0 ∨ v = 1) (hp : post v M) (hdg : decode cc pc = .ok (.ireturn, 1)) : W p l e Rm s m args below meth c H locs cells slots (MQ below (rg_Wi E B n R post) args s cells slots (rg_A B)) (F0 m pc ls [.int v]) :=
  W.zret C0.1.1 C0.1.2.1 hr (by rcases hz with rfl | rfl <;> rfl) (fun t ht _ => ⟨⟨v, M, rfl, hp, by show va_P _ _ _ _; rw [ht]; exact hH.1⟩, hH.2.F ht⟩) hH.2.2.2 hdg hlocks
theorem rg_retRz (C0 : rg_Cx p m c cc nL s args own E B) {g : rg_Mem} (hH : rg_H E B n R M s H locs) {post : Int32 → Prop} {v : Int32} (hr : meth.sig.returnType = some .boolean) (hlocks : meth.locks = false) (hz : v = 0 ∨ v = 1) (hg : M = g) (hp : post v) (hdg : decode cc pc = .ok (.ireturn, 1)) : W p l e Rm s m args below meth c H locs cells slots (MQ below (rg_Ri E B n R g post) args s cells slots (rg_A B)) (F0 m pc ls [.int v]) :=
  W.zret C0.1.1 C0.1.2.1 hr (by rcases hz with rfl | rfl <;> rfl) (fun t ht _ => ⟨⟨v, (), rfl, hp, by show va_P _ _ _ _; rw [ht, ← hg]; exact hH.1⟩, hH.2.F ht⟩) hH.2.2.2 hdg hlocks
theorem rg_retWv (C0 : rg_Cx p m c cc nL s args own E B) (hH : rg_H E B n R M s H locs) {post : rg_Mem → Prop} (hr : meth.sig.returnType = none) (hlocks : meth.locks = false) (hp : post M) (hdg : decode cc pc = .ok (.return_, 1)) : W p l e Rm s m args below meth c H locs cells slots (MQ below (rg_Wv E B n R post) args s cells slots (rg_A B)) (F0 m pc ls []) :=
  W.vret C0.1.1 C0.1.2.1 hr (fun t ht _ => ⟨⟨M, rfl, hp, by show va_P _ _ _ _; rw [ht]; exact hH.1⟩, hH.2.F ht⟩) hH.2.2.2 hdg hlocks
theorem rg_retRv (C0 : rg_Cx p m c cc nL s args own E B) {g : rg_Mem} (hH : rg_H E B n R M s H locs) {post : Prop} (hr : meth.sig.returnType = none) (hlocks : meth.locks = false) (hg : M = g) (hp : post) (hdg : decode cc pc = .ok (.return_, 1)) : W p l e Rm s m args below meth c H locs cells slots (MQ below (rg_Rv E B n R g post) args s cells slots (rg_A B)) (F0 m pc ls []) :=
  W.vret C0.1.1 C0.1.2.1 hr (fun t ht _ => ⟨⟨(), rfl, hp, by show va_P _ _ _ _; rw [ht, ← hg]; exact hH.1⟩, hH.2.F ht⟩) hH.2.2.2 hdg hlocks
end RGC
/-- a method's body, from its entry -/
theorem rg_ofW {l : Launch} {y : MethodName} {rm : Room} {E : rg_Env} {B n : Nat} {R : rg_Rfs} {M : rg_Mem} {av : List Value} {Qc : Array Value → State → Outcome → State → Prop} {mc ms : Nat} {cc : ByteArray} {maxL : Nat} {ret : Option FieldType} {own : String} (hy : plainName y.cls = true) (hown : y.cls = own) (hlen : (lg_sl av).length ≤ maxL)
    (body : ∀ (p : Program) (e : Env) (s : State) (m : MethodId) (args : Array Value) (below : List Frame) (meth : Method) (c : Code) (ls : Array Slot), rg_Cx p m c cc maxL s args own E B → rg_H E B n R M s s.heap [] → lv_has ls maxL (lv_args 0 av) → meth.sig.returnType = ret → meth.locks = false → meth.name = y.name →
      W p l e rm s m args below meth c s.heap [] 0 0 (MQ below Qc args s mc ms (rg_A B)) (F0 m 0 ls [])) : Met l y (rg_w y cc maxL ret) rm (va_Pc av (rg_Pre E B n R M)) Qc mc ms (rg_A B) := by
  refine Met.ofW (cc := cc) (maxL := maxL) (ret := ret) hy rfl ?_
  intro p e s m args below meth c s₁ Bd hml hv
  obtain ⟨rfl, hP, hK, hSt⟩ := hv
  have hts : ∀ w ∈ rg_T, w.before av.toArray s = true := fun w hw => atoms_spec (ws := rg_w y cc maxL ret) Bd.pre w (List.mem_cons_of_mem _ hw)
  have ho : s.vm.findClass own = some m.cls := by rw [← hown]; exact findClass_of_methodNamed Bd.named
  have hl := lv_entry av (n := maxL) hlen
  rw [lg_entry_eq]
  exact body p e s m _ below meth c _ ⟨⟨Bd.exec, Bd.bytes, hml, ho, hts⟩, hK, hSt⟩ ⟨hP, va_S.rf⟩ hl Bd.returns Bd.notSynchronized (name_of_methodNamed Bd.named Bd.method).1
theorem rg_xofW {l : Launch} {y : MethodName} {rm : Room} {E : rg_Env} {B n : Nat} {R : rg_Rfs} {M : rg_Mem} {av : List Value} {Qc : Array Value → State → Outcome → State → Prop} {XC : String → State → State → Prop} {mc ms : Nat} {cc : ByteArray} {maxL : Nat} {ret : Option FieldType} {own : String} (hy : plainName y.cls = true) (hown : y.cls = own) (hlen : (lg_sl av).length ≤ maxL)
    (body : ∀ (p : Program) (e : Env) (s : State) (m : MethodId) (args : Array Value) (below : List Frame) (meth : Method) (c : Code) (ls : Array Slot), (∀ x ∈ c.exceptionTable.toList, False) → rg_Cx p m c cc maxL s args own E B → rg_H E B n R M s s.heap [] → lv_has ls maxL (lv_args 0 av) → meth.sig.returnType = ret → meth.locks = false →
      W p l e rm s m args below meth c s.heap [] 0 0 (vx_MQ below Qc XC args s mc ms (rg_A B)) (F0 m 0 ls [])) : vx_Met l y (rg_w y cc maxL ret) rm (va_Pc av (rg_Pre E B n R M)) Qc XC mc ms (rg_A B) := by
  refine vx_ofW (cc := cc) (maxL := maxL) (ret := ret) hy rfl ?_
  intro p e s m args below meth c s₁ Bd hml hne hv
  obtain ⟨rfl, hP, hK, hSt⟩ := hv
  have hts : ∀ w ∈ rg_T, w.before av.toArray s = true := fun w hw => atoms_spec (ws := rg_w y cc maxL ret) Bd.pre w (List.mem_cons_of_mem _ hw)
  have ho : s.vm.findClass own = some m.cls := by rw [← hown]; exact findClass_of_methodNamed Bd.named
  have hl := lv_entry av (n := maxL) hlen
  rw [lg_entry_eq]
  exact body p e s m _ below meth c _ hne ⟨⟨Bd.exec, Bd.bytes, hml, ho, hts⟩, hK, hSt⟩ ⟨hP, va_S.rf⟩ hl Bd.returns Bd.notSynchronized
end
section
/-! numbers -/
def rg_b (p : Prop) [Decidable p] : Int32 := if p then 1 else 0
theorem rg_b_ne {p : Prop} [Decidable p] : ¬ rg_b p = 0 ↔ p := by
  unfold rg_b
  by_cases h : p
  · simp [h]
  · simp [h]
theorem rg_b_eq {p : Prop} [Decidable p] : rg_b p = 0 ↔ ¬ p := by
  unfold rg_b
  by_cases h : p
  · simp [h]
  · simp [h]
theorem rg_b_t {p : Prop} [Decidable p] (h : p) : (1 : Int32) = rg_b p := by simp [rg_b, h]
theorem rg_b_f {p : Prop} [Decidable p] (h : ¬ p) : (0 : Int32) = rg_b p := by simp [rg_b, h]
theorem rg_b_01 {p : Prop} [Decidable p] : rg_b p = 0 ∨ rg_b p = 1 := by
  unfold rg_b
  by_cases h : p
  · simp [h]
  · simp [h]
theorem rg_lt (a b : Int32) : a < b ↔ a.toInt < b.toInt := Int32.lt_iff_toInt_lt
theorem rg_le (a b : Int32) : a ≤ b ↔ a.toInt ≤ b.toInt := Int32.le_iff_toInt_le
theorem rg_eq (a b : Int32) : a = b ↔ a.toInt = b.toInt := ⟨fun h => by rw [h], fun h => Int32.toInt_inj.mp h⟩
/-! the words of the class's stock -/
abbrev rg_has (M : rg_Mem) (w : Int32) : Prop := ¬ w < 0 ∧ ¬ M.1 1 4 ≤ w
abbrev rg_cn (M : rg_Mem) : Prop := M.1 1 4 ≤ 40
theorem rg_has_in {M : rg_Mem} {w : Int32} (hn : rg_cn M) (h : rg_has M w) : vp_in w 40 := by
  have h1 := (rg_le _ _).mp hn
  have h2 : ¬ w.toInt < (0 : Int32).toInt := fun q => h.1 ((rg_lt _ _).mpr q)
  have h3 : ¬ (M.1 1 4).toInt ≤ w.toInt := fun q => h.2 ((rg_le _ _).mpr q)
  rw [show (0 : Int32).toInt = 0 from rfl] at h2
  rw [show (40 : Int32).toInt = 40 from rfl] at h1
  exact vp_in_iff.mpr ⟨by omega, by omega⟩
end
section
set_option maxHeartbeats 4000000 in
set_option maxRecDepth 100000 in
/-- Stock.has -/
theorem k_X4_has (l : Launch) (E : rg_Env) (B : Nat) (M : rg_Mem) (w : Int32) : Met l yX4_has (rg_w yX4_has cX4_has 2 (some (FieldType.boolean))) ({ frames := 0, cells := 0, slots := 0, locals := 0 } : Room) (va_Pc [.ref (B + 1), .int (w)] (rg_Pre E B 433 rg_R0 M)) (rg_Ri E B 433 rg_R0 (M) (fun r => r = rg_b (rg_has M w))) 0 0 (rg_A B) := by
  refine rg_ofW (by decide +kernel) rfl (Nat.le_of_ble_eq_true rfl) ?_
  intro p e s m args below meth c ls C0 hH hl hr hlocks hnm
  replace hl : lv_has ls 2 [(0, .ref (B + 1)), (1, .int (w))] := hl
  have hx := C0.1.1
  have hb := C0.1.2.1
  generalize hH9 : s.heap = H at hH ⊢
  generalize hL9 : ([] : List Loc) = locs at hH ⊢
  clear hH9 hL9
  refine lv_iload_n hx hb dX4_has_0 rfl (lv_at hl 1 rfl) ?_
  refine lv_if_lt (tgt := 16) hx hb dX4_has_1 (by decide) (fun c_1 => ?_) (fun c_1 => ?_)
  · refine lv_iconst (v := 0) hx hb dX4_has_16 (by decide) ?_
    exact rg_retRz C0 hH hr hlocks (Or.inl rfl) rfl (by simp_all [rg_b, rg_has]) dX4_has_17
  · refine lv_iload_n hx hb dX4_has_4 rfl (lv_at hl 1 rfl) ?_
    refine lv_aload_n hx hb dX4_has_5 rfl (lv_at hl 0 rfl) ?_
    refine rg_gI C0 hH (ci := 4) (k := 4) (o := 1) rfl inT_X4 (by decide) tw_f_X4_25 (by decide) rfl (by decide) rfl dX4_has_6 ?_
    refine lv_icmp_ge (tgt := 16) hx hb dX4_has_9 (by decide) (fun c_9 => ?_) (fun c_9 => ?_)
    · refine lv_iconst (v := 0) hx hb dX4_has_16 (by decide) ?_
      exact rg_retRz C0 hH hr hlocks (Or.inl rfl) rfl (by simp_all [rg_b, rg_has]) dX4_has_17
    · refine lv_iconst (v := 1) hx hb dX4_has_12 (by decide) ?_
      refine lv_goto (tgt := 17) hx hb dX4_has_13 (by decide) ?_
      exact rg_retRz C0 hH hr hlocks (Or.inr rfl) rfl (by simp_all [rg_b, rg_has]) dX4_has_17

set_option maxHeartbeats 4000000 in
set_option maxRecDepth 100000 in
/-- Stock.isFull -/
theorem k_X4_isFull (l : Launch) (E : rg_Env) (B : Nat) (M : rg_Mem) : Met l yX4_isFull (rg_w yX4_isFull cX4_isFull 1 (some (FieldType.boolean))) ({ frames := 0, cells := 0, slots := 0, locals := 0 } : Room) (va_Pc [.ref (B + 1)] (rg_Pre E B 433 rg_R0 M)) (rg_Ri E B 433 rg_R0 (M) (fun r => r = rg_b (40 ≤ M.1 1 4))) 0 0 (rg_A B) := by
  refine rg_ofW (by decide +kernel) rfl (Nat.le_of_ble_eq_true rfl) ?_
  intro p e s m args below meth c ls C0 hH hl hr hlocks hnm
  replace hl : lv_has ls 1 [(0, .ref (B + 1))] := hl
  have hx := C0.1.1
  have hb := C0.1.2.1
  generalize hH9 : s.heap = H at hH ⊢
  generalize hL9 : ([] : List Loc) = locs at hH ⊢
  clear hH9 hL9
  refine lv_aload_n hx hb dX4_isFull_0 rfl (lv_at hl 0 rfl) ?_
  refine rg_gI C0 hH (ci := 4) (k := 4) (o := 1) rfl inT_X4 (by decide) tw_f_X4_25 (by decide) rfl (by decide) rfl dX4_isFull_1 ?_
  refine lv_bipush (v := 40) hx hb dX4_isFull_4 (by decide) ?_
  refine lv_icmp_lt (tgt := 13) hx hb dX4_isFull_6 (by decide) (fun c_6 => ?_) (fun c_6 => ?_)
  · refine lv_iconst (v := 0) hx hb dX4_isFull_13 (by decide) ?_
    exact rg_retRz C0 hH hr hlocks (Or.inl rfl) rfl (by simp_all [rg_b]) dX4_isFull_14
  · refine lv_iconst (v := 1) hx hb dX4_isFull_9 (by decide) ?_
    refine lv_goto (tgt := 14) hx hb dX4_isFull_10 (by decide) ?_
    exact rg_retRz C0 hH hr hlocks (Or.inr rfl) rfl (by simp_all [rg_b]) dX4_isFull_14

set_option maxHeartbeats 4000000 in
set_option maxRecDepth 100000 in
/-- Stock.soundsOf -/
theorem k_X4_soundsOf (l : Launch) (E : rg_Env) (B : Nat) (M : rg_Mem) (w : Int32) (hn : rg_cn M) : Met l yX4_soundsOf (rg_w yX4_soundsOf cX4_soundsOf 2 (some (FieldType.int))) ({ frames := 1, cells := 0, slots := 0, locals := 21 } : Room) (va_Pc [.ref (B + 1), .int (w)] (rg_Pre E B 433 rg_R0 M)) (rg_Ri E B 433 rg_R0 (M) (fun r => r = if rg_has M w then M.1 2 w.toNatClampNeg else 0)) 0 0 (rg_A B) := by
  refine rg_ofW (by decide +kernel) rfl (Nat.le_of_ble_eq_true rfl) ?_
  intro p e s m args below meth c ls C0 hH hl hr hlocks hnm
  replace hl : lv_has ls 2 [(0, .ref (B + 1)), (1, .int (w))] := hl
  have hx := C0.1.1
  have hb := C0.1.2.1
  generalize hH9 : s.heap = H at hH ⊢
  generalize hL9 : ([] : List Loc) = locs at hH ⊢
  clear hH9 hL9
  refine lv_aload_n hx hb dX4_soundsOf_0 rfl (lv_at hl 0 rfl) ?_
  refine lv_iload_n hx hb dX4_soundsOf_1 rfl (lv_at hl 1 rfl) ?_
  refine rg_callGi C0 hH (As := [.int (w)]) (rest := []) (o := 1) (ci := 4) (k_X4_has l E B M w) (rg_cw 1 C0.1.2.2.2.2 tw_m_X4_33 tw_i_X4_has tw_v_X4_has tw_n_X4 tw_c_X4_has rfl rfl hd_X4_has ⟨Nat.le_of_ble_eq_true rfl, Nat.le_of_ble_eq_true rfl⟩) rfl (by decide) rfl (by decide) rfl hl.1 rfl (Nat.le_of_ble_eq_true rfl) dX4_soundsOf_2 ⟨Nat.le_of_ble_eq_true rfl, Nat.le_of_ble_eq_true rfl⟩ (fun H locs hH => ?_)
  refine lv_if_eq (tgt := 17) hx hb dX4_soundsOf_5 (by decide) (fun c_5 => ?_) (fun c_5 => ?_)
  · refine lv_iconst (v := 0) hx hb dX4_soundsOf_17 (by decide) ?_
    exact rg_retRi C0 hH hr hlocks rfl (by first | rw [if_pos (rg_b_ne.mp c_5)] | rw [if_neg (rg_b_eq.mp c_5)]) dX4_soundsOf_18
  · refine lv_aload_n hx hb dX4_soundsOf_8 rfl (lv_at hl 0 rfl) ?_
    refine rg_gR C0 hH (o2 := 2) (ci := 4) (k := 0) (o := 1) rfl rfl inT_X4 (by decide) tw_f_X4_9 (by decide) rfl (by decide) rfl dX4_soundsOf_9 ?_
    refine lv_iload_n hx hb dX4_soundsOf_12 rfl (lv_at hl 1 rfl) ?_
    refine rg_iald C0 hH (o := 2) (by decide) rfl (rg_vin rfl (by exact rg_has_in hn (rg_b_ne.mp c_5))) dX4_soundsOf_13 ?_
    refine lv_goto (tgt := 18) hx hb dX4_soundsOf_14 (by decide) ?_
    exact rg_retRi C0 hH hr hlocks rfl (by first | rw [if_pos (rg_b_ne.mp c_5)] | rw [if_neg (rg_b_eq.mp c_5)]) dX4_soundsOf_18

set_option maxHeartbeats 4000000 in
set_option maxRecDepth 100000 in
/-- Stock.seasonOf -/
theorem k_X4_seasonOf (l : Launch) (E : rg_Env) (B : Nat) (M : rg_Mem) (w : Int32) (hn : rg_cn M) : Met l yX4_seasonOf (rg_w yX4_seasonOf cX4_seasonOf 2 (some (FieldType.int))) ({ frames := 1, cells := 0, slots := 0, locals := 21 } : Room) (va_Pc [.ref (B + 1), .int (w)] (rg_Pre E B 433 rg_R0 M)) (rg_Ri E B 433 rg_R0 (M) (fun r => r = if rg_has M w then M.1 3 w.toNatClampNeg else (-1))) 0 0 (rg_A B) := by
  refine rg_ofW (by decide +kernel) rfl (Nat.le_of_ble_eq_true rfl) ?_
  intro p e s m args below meth c ls C0 hH hl hr hlocks hnm
  replace hl : lv_has ls 2 [(0, .ref (B + 1)), (1, .int (w))] := hl
  have hx := C0.1.1
  have hb := C0.1.2.1
  generalize hH9 : s.heap = H at hH ⊢
  generalize hL9 : ([] : List Loc) = locs at hH ⊢
  clear hH9 hL9
  refine lv_aload_n hx hb dX4_seasonOf_0 rfl (lv_at hl 0 rfl) ?_
  refine lv_iload_n hx hb dX4_seasonOf_1 rfl (lv_at hl 1 rfl) ?_
  refine rg_callGi C0 hH (As := [.int (w)]) (rest := []) (o := 1) (ci := 4) (k_X4_has l E B M w) (rg_cw 1 C0.1.2.2.2.2 tw_m_X4_33 tw_i_X4_has tw_v_X4_has tw_n_X4 tw_c_X4_has rfl rfl hd_X4_has ⟨Nat.le_of_ble_eq_true rfl, Nat.le_of_ble_eq_true rfl⟩) rfl (by decide) rfl (by decide) rfl hl.1 rfl (Nat.le_of_ble_eq_true rfl) dX4_seasonOf_2 ⟨Nat.le_of_ble_eq_true rfl, Nat.le_of_ble_eq_true rfl⟩ (fun H locs hH => ?_)
  refine lv_if_eq (tgt := 17) hx hb dX4_seasonOf_5 (by decide) (fun c_5 => ?_) (fun c_5 => ?_)
  · refine lv_iconst (v := (-1)) hx hb dX4_seasonOf_17 (by decide) ?_
    exact rg_retRi C0 hH hr hlocks rfl (by first | rw [if_pos (rg_b_ne.mp c_5)] | rw [if_neg (rg_b_eq.mp c_5)]) dX4_seasonOf_18
  · refine lv_aload_n hx hb dX4_seasonOf_8 rfl (lv_at hl 0 rfl) ?_
    refine rg_gR C0 hH (o2 := 3) (ci := 4) (k := 1) (o := 1) rfl rfl inT_X4 (by decide) tw_f_X4_15 (by decide) rfl (by decide) rfl dX4_seasonOf_9 ?_
    refine lv_iload_n hx hb dX4_seasonOf_12 rfl (lv_at hl 1 rfl) ?_
    refine rg_iald C0 hH (o := 3) (by decide) rfl (rg_vin rfl (by exact rg_has_in hn (rg_b_ne.mp c_5))) dX4_seasonOf_13 ?_
    refine lv_goto (tgt := 18) hx hb dX4_seasonOf_14 (by decide) ?_
    exact rg_retRi C0 hH hr hlocks rfl (by first | rw [if_pos (rg_b_ne.mp c_5)] | rw [if_neg (rg_b_eq.mp c_5)]) dX4_seasonOf_18

set_option maxHeartbeats 4000000 in
set_option maxRecDepth 100000 in
/-- Stock.signsOf -/
theorem k_X4_signsOf (l : Launch) (E : rg_Env) (B : Nat) (M : rg_Mem) (w : Int32) (hn : rg_cn M) : Met l yX4_signsOf (rg_w yX4_signsOf cX4_signsOf 2 (some (FieldType.int))) ({ frames := 1, cells := 0, slots := 0, locals := 21 } : Room) (va_Pc [.ref (B + 1), .int (w)] (rg_Pre E B 433 rg_R0 M)) (rg_Ri E B 433 rg_R0 (M) (fun r => r = if rg_has M w then M.1 4 w.toNatClampNeg else 0)) 0 0 (rg_A B) := by
  refine rg_ofW (by decide +kernel) rfl (Nat.le_of_ble_eq_true rfl) ?_
  intro p e s m args below meth c ls C0 hH hl hr hlocks hnm
  replace hl : lv_has ls 2 [(0, .ref (B + 1)), (1, .int (w))] := hl
  have hx := C0.1.1
  have hb := C0.1.2.1
  generalize hH9 : s.heap = H at hH ⊢
  generalize hL9 : ([] : List Loc) = locs at hH ⊢
  clear hH9 hL9
  refine lv_aload_n hx hb dX4_signsOf_0 rfl (lv_at hl 0 rfl) ?_
  refine lv_iload_n hx hb dX4_signsOf_1 rfl (lv_at hl 1 rfl) ?_
  refine rg_callGi C0 hH (As := [.int (w)]) (rest := []) (o := 1) (ci := 4) (k_X4_has l E B M w) (rg_cw 1 C0.1.2.2.2.2 tw_m_X4_33 tw_i_X4_has tw_v_X4_has tw_n_X4 tw_c_X4_has rfl rfl hd_X4_has ⟨Nat.le_of_ble_eq_true rfl, Nat.le_of_ble_eq_true rfl⟩) rfl (by decide) rfl (by decide) rfl hl.1 rfl (Nat.le_of_ble_eq_true rfl) dX4_signsOf_2 ⟨Nat.le_of_ble_eq_true rfl, Nat.le_of_ble_eq_true rfl⟩ (fun H locs hH => ?_)
  refine lv_if_eq (tgt := 17) hx hb dX4_signsOf_5 (by decide) (fun c_5 => ?_) (fun c_5 => ?_)
  · refine lv_iconst (v := 0) hx hb dX4_signsOf_17 (by decide) ?_
    exact rg_retRi C0 hH hr hlocks rfl (by first | rw [if_pos (rg_b_ne.mp c_5)] | rw [if_neg (rg_b_eq.mp c_5)]) dX4_signsOf_18
  · refine lv_aload_n hx hb dX4_signsOf_8 rfl (lv_at hl 0 rfl) ?_
    refine rg_gR C0 hH (o2 := 4) (ci := 4) (k := 2) (o := 1) rfl rfl inT_X4 (by decide) tw_f_X4_18 (by decide) rfl (by decide) rfl dX4_signsOf_9 ?_
    refine lv_iload_n hx hb dX4_signsOf_12 rfl (lv_at hl 1 rfl) ?_
    refine rg_iald C0 hH (o := 4) (by decide) rfl (rg_vin rfl (by exact rg_has_in hn (rg_b_ne.mp c_5))) dX4_signsOf_13 ?_
    refine lv_goto (tgt := 18) hx hb dX4_signsOf_14 (by decide) ?_
    exact rg_retRi C0 hH hr hlocks rfl (by first | rw [if_pos (rg_b_ne.mp c_5)] | rw [if_neg (rg_b_eq.mp c_5)]) dX4_signsOf_18

set_option maxHeartbeats 4000000 in
set_option maxRecDepth 100000 in
/-- Stock.calledBy -/
theorem k_X4_calledBy (l : Launch) (E : rg_Env) (B : Nat) (M : rg_Mem) (w : Int32) (hn : rg_cn M) : Met l yX4_calledBy (rg_w yX4_calledBy cX4_calledBy 2 (some (FieldType.long))) ({ frames := 1, cells := 0, slots := 0, locals := 21 } : Room) (va_Pc [.ref (B + 1), .int (w)] (rg_Pre E B 433 rg_R0 M)) (rg_Rl E B 433 rg_R0 (M) (fun r => r = if rg_has M w then M.2 5 w.toNatClampNeg else 0)) 0 0 (rg_A B) := by
  refine rg_ofW (by decide +kernel) rfl (Nat.le_of_ble_eq_true rfl) ?_
  intro p e s m args below meth c ls C0 hH hl hr hlocks hnm
  replace hl : lv_has ls 2 [(0, .ref (B + 1)), (1, .int (w))] := hl
  have hx := C0.1.1
  have hb := C0.1.2.1
  generalize hH9 : s.heap = H at hH ⊢
  generalize hL9 : ([] : List Loc) = locs at hH ⊢
  clear hH9 hL9
  refine lv_aload_n hx hb dX4_calledBy_0 rfl (lv_at hl 0 rfl) ?_
  refine lv_iload_n hx hb dX4_calledBy_1 rfl (lv_at hl 1 rfl) ?_
  refine rg_callGi C0 hH (As := [.int (w)]) (rest := []) (o := 1) (ci := 4) (k_X4_has l E B M w) (rg_cw 1 C0.1.2.2.2.2 tw_m_X4_33 tw_i_X4_has tw_v_X4_has tw_n_X4 tw_c_X4_has rfl rfl hd_X4_has ⟨Nat.le_of_ble_eq_true rfl, Nat.le_of_ble_eq_true rfl⟩) rfl (by decide) rfl (by decide) rfl hl.1 rfl (Nat.le_of_ble_eq_true rfl) dX4_calledBy_2 ⟨Nat.le_of_ble_eq_true rfl, Nat.le_of_ble_eq_true rfl⟩ (fun H locs hH => ?_)
  refine lv_if_eq (tgt := 17) hx hb dX4_calledBy_5 (by decide) (fun c_5 => ?_) (fun c_5 => ?_)
  · refine lv_lconst (v := 0) hx hb dX4_calledBy_17 (by decide) ?_
    exact rg_retRl C0 hH hr hlocks rfl (by first | rw [if_pos (rg_b_ne.mp c_5)] | rw [if_neg (rg_b_eq.mp c_5)]) dX4_calledBy_18
  · refine lv_aload_n hx hb dX4_calledBy_8 rfl (lv_at hl 0 rfl) ?_
    refine rg_gR C0 hH (o2 := 5) (ci := 4) (k := 3) (o := 1) rfl rfl inT_X4 (by decide) tw_f_X4_21 (by decide) rfl (by decide) rfl dX4_calledBy_9 ?_
    refine lv_iload_n hx hb dX4_calledBy_12 rfl (lv_at hl 1 rfl) ?_
    refine rg_lald C0 hH (o := 5) (by decide) rfl (rg_vin rfl (by exact rg_has_in hn (rg_b_ne.mp c_5))) dX4_calledBy_13 ?_
    refine lv_goto (tgt := 18) hx hb dX4_calledBy_14 (by decide) ?_
    exact rg_retRl C0 hH hr hlocks rfl (by first | rw [if_pos (rg_b_ne.mp c_5)] | rw [if_neg (rg_b_eq.mp c_5)]) dX4_calledBy_18
end
section
/-! where things lie -/
def rg_isV (v : Nat) : Prop := v < 432 ∧ rg_kd v = 5
theorem rg_isV_all : ∀ v, v < 432 → rg_kd v = 5 → 17 ≤ v ∧ v + 1 < 412 ∧ rg_kd (v + 1) = 8 ∧ rg_ln (v + 1) = 6 ∧ rg_R0 v 0 = some (v + 1) ∧ (v < 89 ∨ v = 90 ∨ v = 92 ∨ 99 ≤ v) ∧ v + 1 < 107 := by decide +kernel
theorem rg_isV_lt {v : Nat} (h : rg_isV v) : v < 433 := by have := h.1; omega
theorem rg_isV_ge {v : Nat} (h : rg_isV v) : 17 ≤ v := (rg_isV_all v h.1 h.2).1
theorem rg_isV_w {v : Nat} (h : rg_isV v) : v + 1 < 433 ∧ rg_kd (v + 1) = 8 ∧ rg_ln (v + 1) = 6 ∧ rg_R0 v 0 = some (v + 1) := by
  obtain ⟨_, h2, h3, h4, h5, _⟩ := rg_isV_all v h.1 h.2
  exact ⟨by omega, h3, h4, h5⟩
theorem rg_isV_n {v o : Nat} (h : rg_isV v) (g : rg_isV o) : v + 1 ≠ o ∧ o + 1 ≠ v := by
  have h1 := (rg_isV_w h).2.1
  have g1 := (rg_isV_w g).2.1
  have h2 := h.2
  have g2 := g.2
  exact ⟨fun e => by rw [e, g2] at h1; omega, fun e => by rw [e, h2] at g1; omega⟩
theorem rg_kdV_all : ∀ k, k < 36 → rg_kd (17 + 2 * k) = 5 := by decide +kernel
theorem rg_isV_p {k : Nat} (h : k < 36) : rg_isV (17 + 2 * k) := ⟨by omega, rg_kdV_all k h⟩
theorem rg_isV_d : rg_isV 90 := ⟨by omega, rfl⟩
theorem rg_isV_t : rg_isV 92 := ⟨by omega, rfl⟩
theorem rg_kdO_all : ∀ k, k < 4 → rg_kd (99 + 2 * k) = 5 := by decide +kernel
theorem rg_isV_o {k : Nat} (h : k < 4) : rg_isV (99 + 2 * k) := ⟨by omega, rg_kdO_all k h⟩
theorem rg_R0_8 : ∀ k, k < 36 → rg_R0 8 k = some (17 + 2 * k) := by decide +kernel
theorem rg_R0_12 : ∀ k, k < 4 → rg_R0 12 k = some (13 + k) := by decide +kernel
theorem rg_R0_98 : ∀ k, k < 4 → rg_R0 98 k = some (99 + 2 * k) := by decide +kernel
theorem rg_R0_107 : ∀ k, k < 8 → rg_R0 107 k = some (108 + 38 * k) := by decide +kernel
theorem rg_kdP : ∀ k, k < 4 → rg_kd (13 + k) = 8 ∧ rg_ln (13 + k) = 36 := by decide +kernel
theorem rg_kdS : ∀ k, k < 8 → rg_kd (108 + 38 * k) = 3 ∧ rg_kd (109 + 38 * k) = 13 ∧ rg_ln (109 + 38 * k) = 36 ∧ rg_R0 (108 + 38 * k) 0 = some (109 + 38 * k) := by decide +kernel
theorem rg_kdR : ∀ k, k < 8 → ∀ r, r < 36 → rg_kd (110 + 38 * k + r) = 8 ∧ rg_ln (110 + 38 * k + r) = 6 ∧ rg_R0 (109 + 38 * k) r = some (110 + 38 * k + r) := by decide +kernel
/-! rows of words -/
def rg_sm (f w : Nat → Int32) : Nat → Int32
  | 0 => 0
  | n + 1 => rg_sm f w n + f (w n).toNatClampNeg
def rg_fi (f w : Nat → Int32) : Nat → Int32
  | 0 => -1
  | n + 1 => if rg_fi f w n = -1 then f (w n).toNatClampNeg else rg_fi f w n
def rg_og (f w : Nat → Int32) : Nat → Int32
  | 0 => 0
  | n + 1 => rg_og f w n ||| f (w n).toNatClampNeg
def rg_ws (w : Nat → Int32) : Nat → Int64
  | 0 => 0
  | n + 1 => rg_ws w n ||| (1 : Int64) <<< ((w n).toInt64 &&& 63)
theorem rg_sm_c {f w w' : Nat → Int32} : ∀ {n : Nat}, (∀ k, k < n → w' k = w k) → rg_sm f w' n = rg_sm f w n
  | 0, _ => rfl
  | n + 1, h => by rw [rg_sm, rg_sm, rg_sm_c (fun k hk => h k (by omega)), h n (by omega)]
theorem rg_fi_c {f w w' : Nat → Int32} : ∀ {n : Nat}, (∀ k, k < n → w' k = w k) → rg_fi f w' n = rg_fi f w n
  | 0, _ => rfl
  | n + 1, h => by rw [rg_fi, rg_fi, rg_fi_c (fun k hk => h k (by omega)), h n (by omega)]
theorem rg_og_c {f w w' : Nat → Int32} : ∀ {n : Nat}, (∀ k, k < n → w' k = w k) → rg_og f w' n = rg_og f w n
  | 0, _ => rfl
  | n + 1, h => by rw [rg_og, rg_og, rg_og_c (fun k hk => h k (by omega)), h n (by omega)]
theorem rg_ws_c {w w' : Nat → Int32} : ∀ {n : Nat}, (∀ k, k < n → w' k = w k) → rg_ws w' n = rg_ws w n
  | 0, _ => rfl
  | n + 1, h => by rw [rg_ws, rg_ws, rg_ws_c (fun k hk => h k (by omega)), h n (by omega)]
/-- a verse cell holds n words, and what follows from them -/
def rg_VS (M : rg_Mem) (v n : Nat) : Prop := M.1 v 1 = nI n ∧ n ≤ 6 ∧ (∀ k, k < n → rg_has M (M.1 (v + 1) k)) ∧ M.1 v 2 = rg_sm (M.1 2) (M.1 (v + 1)) n ∧ M.1 v 3 = rg_fi (M.1 3) (M.1 (v + 1)) n ∧ M.1 v 4 = rg_og (M.1 4) (M.1 (v + 1)) n ∧ M.2 v 5 = rg_ws (M.1 (v + 1)) n
/-- all but the verse at v is as before -/
def rg_off (M M1 : rg_Mem) (v : Nat) : Prop := ∀ c, c ≠ v → c ≠ v + 1 → M1.1 c = M.1 c ∧ M1.2 c = M.2 c
theorem rg_off_rf {M : rg_Mem} {v : Nat} : rg_off M M v := fun _ _ _ => ⟨rfl, rfl⟩
theorem rg_off_tr {M M1 M2 : rg_Mem} {v : Nat} (h : rg_off M M1 v) (g : rg_off M1 M2 v) : rg_off M M2 v := fun c h1 h2 => ⟨(g c h1 h2).1.trans (h c h1 h2).1, (g c h1 h2).2.trans (h c h1 h2).2⟩
theorem rg_VS_off {M M1 : rg_Mem} {v o n : Nat} (h : rg_VS M o n) (hv : rg_isV v) (ho : rg_isV o) (hn : v ≠ o) (g : rg_off M M1 v) : rg_VS M1 o n := by
  have h1 := rg_isV_n hv ho
  have hv17 := rg_isV_ge hv
  have e1 := g o (Ne.symm hn) (fun e => h1.1 e.symm)
  have e2 := g (o + 1) h1.2 (fun e => hn (by omega))
  have e3 := g 1 (by omega) (by omega)
  have e4 := g 2 (by omega) (by omega)
  have e5 := g 3 (by omega) (by omega)
  have e6 := g 4 (by omega) (by omega)
  unfold rg_VS rg_has
  rw [e1.1, e2.1, e1.2, e3.1, e4.1, e5.1, e6.1]
  exact h
/-! what is read of the class's state -/
abbrev rg_hl (M : rg_Mem) (x : Int32) : Prop := ¬ x < 0 ∧ ¬ M.1 6 4 ≤ x
abbrev rg_mn (M : rg_Mem) : Prop := M.1 6 4 ≤ 36
theorem rg_in_of {a x : Int32} {n : Nat} {m : Int32} (hm : m.toInt = n) (ha : a ≤ m) (h1 : ¬ x < 0) (h2 : ¬ a ≤ x) : vp_in x n := by
  have h3 := (rg_le _ _).mp ha
  have h4 : ¬ x.toInt < (0 : Int32).toInt := fun q => h1 ((rg_lt _ _).mpr q)
  have h5 : ¬ a.toInt ≤ x.toInt := fun q => h2 ((rg_le _ _).mpr q)
  rw [show (0 : Int32).toInt = 0 from rfl] at h4
  rw [hm] at h3
  exact vp_in_iff.mpr ⟨by omega, by omega⟩
theorem rg_in_lt {x : Int32} {n : Nat} (h : vp_in x n) : x.toNatClampNeg < n := Nat.not_le.mp fun q => h (Or.inr q)
theorem rg_hl_in {M : rg_Mem} {x : Int32} (hm : rg_mn M) (h : rg_hl M x) : vp_in x 36 := rg_in_of (m := 36) rfl hm h.1 h.2
theorem rg_lit_in {x : Int32} {n : Nat} {m : Int32} (hm : m.toInt = n) (h1 : ¬ x < 0) (h2 : ¬ m ≤ x) : vp_in x n := rg_in_of (a := m) hm ((rg_le _ _).mpr (by omega)) h1 h2
def rg_wn (M : rg_Mem) (v : Nat) (x : Int32) : Int32 := if ¬ x < 0 ∧ ¬ M.1 v 1 ≤ x ∧ ¬ 6 ≤ x then M.1 (v + 1) x.toNatClampNeg else -1
theorem rg_wn_k {M : rg_Mem} {v n k : Nat} (h1 : M.1 v 1 = nI n) (h6 : n ≤ 6) (hk : k < n) : rg_wn M v (nI k) = M.1 (v + 1) k := by
  unfold rg_wn
  rw [h1, if_pos ⟨nI_pos (by omega), nI_ge hk (by omega), nI_ge (a := k) (b := 6) (by omega) (by omega)⟩, nI_clamp (by omega)]
/-- how many from k - 1 down, one behind the other, have c -/
def rg_rn (s : Nat → Int32) (c : Int32) : Nat → Nat
  | 0 => 0
  | k + 1 => if s k = c then rg_rn s c k + 1 else 0
theorem rg_rn_le {s : Nat → Int32} {c : Int32} : ∀ k, rg_rn s c k ≤ k
  | 0 => Nat.le_refl 0
  | k + 1 => by
    have := rg_rn_le (s := s) (c := c) k
    unfold rg_rn
    split <;> omega
/-- the first of n places from k on where p holds; -1 without -/
def rg_ff (p : Nat → Bool) : Nat → Nat → Int32
  | 0, _ => -1
  | n + 1, k => if p k then nI k else rg_ff p n (k + 1)
end
section
set_option maxHeartbeats 4000000 in
set_option maxRecDepth 100000 in
/-- Verse.wordOrNone -/
theorem k_X5_wordOrNone (l : Launch) (E : rg_Env) (B : Nat) (M : rg_Mem) (v : Nat) (x : Int32) (hv : rg_isV v) : Met l yX5_wordOrNone (rg_w yX5_wordOrNone cX5_wordOrNone 2 (some (FieldType.int))) ({ frames := 0, cells := 0, slots := 0, locals := 0 } : Room) (va_Pc [.ref (B + v), .int (x)] (rg_Pre E B 433 rg_R0 M)) (rg_Ri E B 433 rg_R0 (M) (fun r => r = rg_wn M v x)) 0 0 (rg_A B) := by
  refine rg_ofW (by decide +kernel) rfl (Nat.le_of_ble_eq_true rfl) ?_
  intro p e s m args below meth c ls C0 hH hl hr hlocks hnm
  replace hl : lv_has ls 2 [(0, .ref (B + v)), (1, .int (x))] := hl
  have hx := C0.1.1
  have hb := C0.1.2.1
  generalize hH9 : s.heap = H at hH ⊢
  generalize hL9 : ([] : List Loc) = locs at hH ⊢
  clear hH9 hL9
  refine lv_iload_n hx hb dX5_wordOrNone_0 rfl (lv_at hl 1 rfl) ?_
  refine lv_if_lt (tgt := 27) hx hb dX5_wordOrNone_1 (by decide) (fun c_1 => ?_) (fun c_1 => ?_)
  · refine lv_iconst (v := (-1)) hx hb dX5_wordOrNone_27 (by decide) ?_
    exact rg_retRi C0 hH hr hlocks rfl (by simp_all [rg_wn]) dX5_wordOrNone_28
  · refine lv_iload_n hx hb dX5_wordOrNone_4 rfl (lv_at hl 1 rfl) ?_
    refine lv_aload_n hx hb dX5_wordOrNone_5 rfl (lv_at hl 0 rfl) ?_
    refine rg_gI C0 hH (ci := 5) (k := 1) (o := v) rfl inT_X5 (by decide) tw_f_X5_19 (rg_isV_lt hv) hv.2 (by decide) rfl dX5_wordOrNone_6 ?_
    refine lv_icmp_ge (tgt := 27) hx hb dX5_wordOrNone_9 (by decide) (fun c_9 => ?_) (fun c_9 => ?_)
    · refine lv_iconst (v := (-1)) hx hb dX5_wordOrNone_27 (by decide) ?_
      exact rg_retRi C0 hH hr hlocks rfl (by simp_all [rg_wn]) dX5_wordOrNone_28
    · refine lv_iload_n hx hb dX5_wordOrNone_12 rfl (lv_at hl 1 rfl) ?_
      refine lv_bipush (v := 6) hx hb dX5_wordOrNone_13 (by decide) ?_
      refine lv_icmp_ge (tgt := 27) hx hb dX5_wordOrNone_15 (by decide) (fun c_15 => ?_) (fun c_15 => ?_)
      · refine lv_iconst (v := (-1)) hx hb dX5_wordOrNone_27 (by decide) ?_
        exact rg_retRi C0 hH hr hlocks rfl (by simp_all [rg_wn]) dX5_wordOrNone_28
      · refine lv_aload_n hx hb dX5_wordOrNone_18 rfl (lv_at hl 0 rfl) ?_
        refine rg_gR C0 hH (o2 := (v + 1)) (ci := 5) (k := 0) (o := v) (rg_isV_w hv).2.2.2 rfl inT_X5 (by decide) tw_f_X5_9 (rg_isV_lt hv) hv.2 (by decide) rfl dX5_wordOrNone_19 ?_
        refine lv_iload_n hx hb dX5_wordOrNone_22 rfl (lv_at hl 1 rfl) ?_
        refine rg_iald C0 hH (o := (v + 1)) (rg_isV_w hv).1 (rg_isV_w hv).2.1 (rg_vin (rg_isV_w hv).2.2.1 (by exact rg_lit_in (m := 6) rfl c_1 c_15)) dX5_wordOrNone_23 ?_
        refine lv_goto (tgt := 28) hx hb dX5_wordOrNone_24 (by decide) ?_
        exact rg_retRi C0 hH hr hlocks rfl (by simp_all [rg_wn]) dX5_wordOrNone_28

set_option maxHeartbeats 4000000 in
set_option maxRecDepth 100000 in
/-- Verse.empty -/
theorem k_X5_empty (l : Launch) (E : rg_Env) (B : Nat) (M : rg_Mem) (v : Nat) (hv : rg_isV v) : Met l yX5_empty (rg_w yX5_empty cX5_empty 1 none) ({ frames := 0, cells := 0, slots := 0, locals := 0 } : Room) (va_Pc [.ref (B + v)] (rg_Pre E B 433 rg_R0 M)) (rg_Rv E B 433 rg_R0 (rg_J (rg_I (rg_I (rg_I (rg_I M v 1 0) v 2 0) v 3 (-1)) v 4 0) v 5 0) (True)) 0 0 (rg_A B) := by
  refine rg_ofW (by decide +kernel) rfl (Nat.le_of_ble_eq_true rfl) ?_
  intro p e s m args below meth c ls C0 hH hl hr hlocks hnm
  replace hl : lv_has ls 1 [(0, .ref (B + v))] := hl
  have hx := C0.1.1
  have hb := C0.1.2.1
  generalize hH9 : s.heap = H at hH ⊢
  generalize hL9 : ([] : List Loc) = locs at hH ⊢
  clear hH9 hL9
  refine lv_aload_n hx hb dX5_empty_0 rfl (lv_at hl 0 rfl) ?_
  refine lv_iconst (v := 0) hx hb dX5_empty_1 (by decide) ?_
  refine rg_pI C0 hH (v := 0) tyX5 tyX5_ok nmX5 (ci := 5) (k := 1) (o := v) rfl inT_X5 (by decide) tw_f_X5_19 (rg_isV_lt hv) hv.2 (by decide) rfl rfl rfl rfl dX5_empty_2 (fun H locs hH => ?_)
  refine lv_aload_n hx hb dX5_empty_5 rfl (lv_at hl 0 rfl) ?_
  refine lv_iconst (v := 0) hx hb dX5_empty_6 (by decide) ?_
  refine rg_pI C0 hH (v := 0) tyX5 tyX5_ok nmX5 (ci := 5) (k := 2) (o := v) rfl inT_X5 (by decide) tw_f_X5_22 (rg_isV_lt hv) hv.2 (by decide) rfl rfl rfl rfl dX5_empty_7 (fun H locs hH => ?_)
  refine lv_aload_n hx hb dX5_empty_10 rfl (lv_at hl 0 rfl) ?_
  refine lv_iconst (v := (-1)) hx hb dX5_empty_11 (by decide) ?_
  refine rg_pI C0 hH (v := (-1)) tyX5 tyX5_ok nmX5 (ci := 5) (k := 3) (o := v) rfl inT_X5 (by decide) tw_f_X5_15 (rg_isV_lt hv) hv.2 (by decide) rfl rfl rfl rfl dX5_empty_12 (fun H locs hH => ?_)
  refine lv_aload_n hx hb dX5_empty_15 rfl (lv_at hl 0 rfl) ?_
  refine lv_iconst (v := 0) hx hb dX5_empty_16 (by decide) ?_
  refine rg_pI C0 hH (v := 0) tyX5 tyX5_ok nmX5 (ci := 5) (k := 4) (o := v) rfl inT_X5 (by decide) tw_f_X5_25 (rg_isV_lt hv) hv.2 (by decide) rfl rfl rfl rfl dX5_empty_17 (fun H locs hH => ?_)
  refine lv_aload_n hx hb dX5_empty_20 rfl (lv_at hl 0 rfl) ?_
  refine lv_lconst (v := 0) hx hb dX5_empty_21 (by decide) ?_
  refine rg_pJ C0 hH (v := 0) tyX5 tyX5_ok nmX5 (ci := 5) (k := 5) (o := v) rfl inT_X5 (by decide) tw_f_X5_28 (rg_isV_lt hv) hv.2 (by decide) rfl rfl rfl rfl dX5_empty_22 (fun H locs hH => ?_)
  exact rg_retRv C0 hH hr hlocks (by simp_all) (by trivial) dX5_empty_25

set_option maxHeartbeats 4000000 in
set_option maxRecDepth 100000 in
theorem k_X1_isBegun (l : Launch) (E : rg_Env) (B : Nat) (M : rg_Mem) : Met l yX1_isBegun (rg_w yX1_isBegun cX1_isBegun 1 (some (FieldType.boolean))) ({ frames := 0, cells := 0, slots := 0, locals := 0 } : Room) (va_Pc [.ref (B + 6)] (rg_Pre E B 433 rg_R0 M)) (rg_Ri E B 433 rg_R0 (M) (fun r => r = rg_b (¬ M.1 6 0 ≤ 0))) 0 0 (rg_A B) := by
  refine rg_ofW (by decide +kernel) rfl (Nat.le_of_ble_eq_true rfl) ?_
  intro p e s m args below meth c ls C0 hH hl hr hlocks hnm
  replace hl : lv_has ls 1 [(0, .ref (B + 6))] := hl
  have hx := C0.1.1
  have hb := C0.1.2.1
  generalize hH9 : s.heap = H at hH ⊢
  generalize hL9 : ([] : List Loc) = locs at hH ⊢
  clear hH9 hL9
  refine lv_aload_n hx hb dX1_isBegun_0 rfl (lv_at hl 0 rfl) ?_
  refine rg_gI C0 hH (ci := 1) (k := 0) (o := 6) rfl inT_X1 (by decide) tw_f_X1_37 (by decide) rfl (by decide) rfl dX1_isBegun_1 ?_
  refine lv_if_le (tgt := 11) hx hb dX1_isBegun_4 (by decide) (fun c_4 => ?_) (fun c_4 => ?_)
  · refine lv_iconst (v := 0) hx hb dX1_isBegun_11 (by decide) ?_
    exact rg_retRz C0 hH hr hlocks (Or.inl rfl) rfl (by simp_all [rg_b]) dX1_isBegun_12
  · refine lv_iconst (v := 1) hx hb dX1_isBegun_7 (by decide) ?_
    refine lv_goto (tgt := 12) hx hb dX1_isBegun_8 (by decide) ?_
    exact rg_retRz C0 hH hr hlocks (Or.inr rfl) rfl (by simp_all [rg_b]) dX1_isBegun_12

set_option maxHeartbeats 4000000 in
set_option maxRecDepth 100000 in
theorem k_X1_isOpen (l : Launch) (E : rg_Env) (B : Nat) (M : rg_Mem) : Met l yX1_isOpen (rg_w yX1_isOpen cX1_isOpen 1 (some (FieldType.boolean))) ({ frames := 0, cells := 0, slots := 0, locals := 0 } : Room) (va_Pc [.ref (B + 6)] (rg_Pre E B 433 rg_R0 M)) (rg_Ri E B 433 rg_R0 (M) (fun r => r = rg_b (¬ M.1 6 0 ≤ M.1 6 4))) 0 0 (rg_A B) := by
  refine rg_ofW (by decide +kernel) rfl (Nat.le_of_ble_eq_true rfl) ?_
  intro p e s m args below meth c ls C0 hH hl hr hlocks hnm
  replace hl : lv_has ls 1 [(0, .ref (B + 6))] := hl
  have hx := C0.1.1
  have hb := C0.1.2.1
  generalize hH9 : s.heap = H at hH ⊢
  generalize hL9 : ([] : List Loc) = locs at hH ⊢
  clear hH9 hL9
  refine lv_aload_n hx hb dX1_isOpen_0 rfl (lv_at hl 0 rfl) ?_
  refine rg_gI C0 hH (ci := 1) (k := 4) (o := 6) rfl inT_X1 (by decide) tw_f_X1_41 (by decide) rfl (by decide) rfl dX1_isOpen_1 ?_
  refine lv_aload_n hx hb dX1_isOpen_4 rfl (lv_at hl 0 rfl) ?_
  refine rg_gI C0 hH (ci := 1) (k := 0) (o := 6) rfl inT_X1 (by decide) tw_f_X1_37 (by decide) rfl (by decide) rfl dX1_isOpen_5 ?_
  refine lv_icmp_ge (tgt := 15) hx hb dX1_isOpen_8 (by decide) (fun c_8 => ?_) (fun c_8 => ?_)
  · refine lv_iconst (v := 0) hx hb dX1_isOpen_15 (by decide) ?_
    exact rg_retRz C0 hH hr hlocks (Or.inl rfl) rfl (by simp_all [rg_b]) dX1_isOpen_16
  · refine lv_iconst (v := 1) hx hb dX1_isOpen_11 (by decide) ?_
    refine lv_goto (tgt := 16) hx hb dX1_isOpen_12 (by decide) ?_
    exact rg_retRz C0 hH hr hlocks (Or.inr rfl) rfl (by simp_all [rg_b]) dX1_isOpen_16

set_option maxHeartbeats 4000000 in
set_option maxRecDepth 100000 in
theorem k_X1_has (l : Launch) (E : rg_Env) (B : Nat) (M : rg_Mem) (x : Int32) : Met l yX1_has (rg_w yX1_has cX1_has 2 (some (FieldType.boolean))) ({ frames := 0, cells := 0, slots := 0, locals := 0 } : Room) (va_Pc [.ref (B + 6), .int (x)] (rg_Pre E B 433 rg_R0 M)) (rg_Ri E B 433 rg_R0 (M) (fun r => r = rg_b (rg_hl M x))) 0 0 (rg_A B) := by
  refine rg_ofW (by decide +kernel) rfl (Nat.le_of_ble_eq_true rfl) ?_
  intro p e s m args below meth c ls C0 hH hl hr hlocks hnm
  replace hl : lv_has ls 2 [(0, .ref (B + 6)), (1, .int (x))] := hl
  have hx := C0.1.1
  have hb := C0.1.2.1
  generalize hH9 : s.heap = H at hH ⊢
  generalize hL9 : ([] : List Loc) = locs at hH ⊢
  clear hH9 hL9
  refine lv_iload_n hx hb dX1_has_0 rfl (lv_at hl 1 rfl) ?_
  refine lv_if_lt (tgt := 16) hx hb dX1_has_1 (by decide) (fun c_1 => ?_) (fun c_1 => ?_)
  · refine lv_iconst (v := 0) hx hb dX1_has_16 (by decide) ?_
    exact rg_retRz C0 hH hr hlocks (Or.inl rfl) rfl (by simp_all [rg_b, rg_hl]) dX1_has_17
  · refine lv_iload_n hx hb dX1_has_4 rfl (lv_at hl 1 rfl) ?_
    refine lv_aload_n hx hb dX1_has_5 rfl (lv_at hl 0 rfl) ?_
    refine rg_gI C0 hH (ci := 1) (k := 4) (o := 6) rfl inT_X1 (by decide) tw_f_X1_41 (by decide) rfl (by decide) rfl dX1_has_6 ?_
    refine lv_icmp_ge (tgt := 16) hx hb dX1_has_9 (by decide) (fun c_9 => ?_) (fun c_9 => ?_)
    · refine lv_iconst (v := 0) hx hb dX1_has_16 (by decide) ?_
      exact rg_retRz C0 hH hr hlocks (Or.inl rfl) rfl (by simp_all [rg_b, rg_hl]) dX1_has_17
    · refine lv_iconst (v := 1) hx hb dX1_has_12 (by decide) ?_
      refine lv_goto (tgt := 17) hx hb dX1_has_13 (by decide) ?_
      exact rg_retRz C0 hH hr hlocks (Or.inr rfl) rfl (by simp_all [rg_b, rg_hl]) dX1_has_17

set_option maxHeartbeats 4000000 in
set_option maxRecDepth 100000 in
theorem k_X1_seatAt (l : Launch) (E : rg_Env) (B : Nat) (M : rg_Mem) (x : Int32) : Met l yX1_seatAt (rg_w yX1_seatAt cX1_seatAt 2 (some (FieldType.int))) ({ frames := 0, cells := 0, slots := 0, locals := 0 } : Room) (va_Pc [.ref (B + 6), .int (x)] (rg_Pre E B 433 rg_R0 M)) (rg_Ri E B 433 rg_R0 (M) (fun r => r = if ¬ x < 0 ∧ ¬ 36 ≤ x then M.1 7 x.toNatClampNeg else 0)) 0 0 (rg_A B) := by
  refine rg_ofW (by decide +kernel) rfl (Nat.le_of_ble_eq_true rfl) ?_
  intro p e s m args below meth c ls C0 hH hl hr hlocks hnm
  replace hl : lv_has ls 2 [(0, .ref (B + 6)), (1, .int (x))] := hl
  have hx := C0.1.1
  have hb := C0.1.2.1
  generalize hH9 : s.heap = H at hH ⊢
  generalize hL9 : ([] : List Loc) = locs at hH ⊢
  clear hH9 hL9
  refine lv_iload_n hx hb dX1_seatAt_0 rfl (lv_at hl 1 rfl) ?_
  refine lv_if_lt (tgt := 19) hx hb dX1_seatAt_1 (by decide) (fun c_1 => ?_) (fun c_1 => ?_)
  · refine lv_iconst (v := 0) hx hb dX1_seatAt_19 (by decide) ?_
    exact rg_retRi C0 hH hr hlocks rfl (by simp_all) dX1_seatAt_20
  · refine lv_iload_n hx hb dX1_seatAt_4 rfl (lv_at hl 1 rfl) ?_
    refine lv_bipush (v := 36) hx hb dX1_seatAt_5 (by decide) ?_
    refine lv_icmp_ge (tgt := 19) hx hb dX1_seatAt_7 (by decide) (fun c_7 => ?_) (fun c_7 => ?_)
    · refine lv_iconst (v := 0) hx hb dX1_seatAt_19 (by decide) ?_
      exact rg_retRi C0 hH hr hlocks rfl (by simp_all) dX1_seatAt_20
    · refine lv_aload_n hx hb dX1_seatAt_10 rfl (lv_at hl 0 rfl) ?_
      refine rg_gR C0 hH (o2 := 7) (ci := 1) (k := 5) (o := 6) rfl rfl inT_X1 (by decide) tw_f_X1_9 (by decide) rfl (by decide) rfl dX1_seatAt_11 ?_
      refine lv_iload_n hx hb dX1_seatAt_14 rfl (lv_at hl 1 rfl) ?_
      refine rg_iald C0 hH (o := 7) (by decide) rfl (rg_vin rfl (by exact rg_lit_in (m := 36) rfl c_1 c_7)) dX1_seatAt_15 ?_
      refine lv_goto (tgt := 20) hx hb dX1_seatAt_16 (by decide) ?_
      exact rg_retRi C0 hH hr hlocks rfl (by simp_all) dX1_seatAt_20

set_option maxHeartbeats 4000000 in
set_option maxRecDepth 100000 in
theorem k_X1_soundsAt (l : Launch) (E : rg_Env) (B : Nat) (M : rg_Mem) (x : Int32) : Met l yX1_soundsAt (rg_w yX1_soundsAt cX1_soundsAt 2 (some (FieldType.int))) ({ frames := 0, cells := 0, slots := 0, locals := 0 } : Room) (va_Pc [.ref (B + 6), .int (x)] (rg_Pre E B 433 rg_R0 M)) (rg_Ri E B 433 rg_R0 (M) (fun r => r = if x &&& 1 = 0 then M.1 6 2 else M.1 6 3)) 0 0 (rg_A B) := by
  refine rg_ofW (by decide +kernel) rfl (Nat.le_of_ble_eq_true rfl) ?_
  intro p e s m args below meth c ls C0 hH hl hr hlocks hnm
  replace hl : lv_has ls 2 [(0, .ref (B + 6)), (1, .int (x))] := hl
  have hx := C0.1.1
  have hb := C0.1.2.1
  generalize hH9 : s.heap = H at hH ⊢
  generalize hL9 : ([] : List Loc) = locs at hH ⊢
  clear hH9 hL9
  refine lv_iload_n hx hb dX1_soundsAt_0 rfl (lv_at hl 1 rfl) ?_
  refine lv_iconst (v := 1) hx hb dX1_soundsAt_1 (by decide) ?_
  refine lv_iand hx hb dX1_soundsAt_2 ?_
  refine lv_if_ne (tgt := 13) hx hb dX1_soundsAt_3 (by decide) (fun c_3 => ?_) (fun c_3 => ?_)
  · refine lv_aload_n hx hb dX1_soundsAt_13 rfl (lv_at hl 0 rfl) ?_
    refine rg_gI C0 hH (ci := 1) (k := 3) (o := 6) rfl inT_X1 (by decide) tw_f_X1_50 (by decide) rfl (by decide) rfl dX1_soundsAt_14 ?_
    exact rg_retRi C0 hH hr hlocks rfl (by simp_all) dX1_soundsAt_17
  · refine lv_aload_n hx hb dX1_soundsAt_6 rfl (lv_at hl 0 rfl) ?_
    refine rg_gI C0 hH (ci := 1) (k := 2) (o := 6) rfl inT_X1 (by decide) tw_f_X1_47 (by decide) rfl (by decide) rfl dX1_soundsAt_7 ?_
    refine lv_goto (tgt := 17) hx hb dX1_soundsAt_10 (by decide) ?_
    exact rg_retRi C0 hH hr hlocks rfl (by simp_all) dX1_soundsAt_17

set_option maxHeartbeats 4000000 in
set_option maxRecDepth 100000 in
theorem k_X1_makerAt (l : Launch) (E : rg_Env) (B : Nat) (M : rg_Mem) (x : Int32) (hm : rg_mn M) : Met l yX1_makerAt (rg_w yX1_makerAt cX1_makerAt 2 (some (FieldType.int))) ({ frames := 1, cells := 0, slots := 0, locals := 21 } : Room) (va_Pc [.ref (B + 6), .int (x)] (rg_Pre E B 433 rg_R0 M)) (rg_Ri E B 433 rg_R0 (M) (fun r => r = if rg_hl M x then M.1 9 x.toNatClampNeg else -1)) 0 0 (rg_A B) := by
  refine rg_ofW (by decide +kernel) rfl (Nat.le_of_ble_eq_true rfl) ?_
  intro p e s m args below meth c ls C0 hH hl hr hlocks hnm
  replace hl : lv_has ls 2 [(0, .ref (B + 6)), (1, .int (x))] := hl
  have hx := C0.1.1
  have hb := C0.1.2.1
  generalize hH9 : s.heap = H at hH ⊢
  generalize hL9 : ([] : List Loc) = locs at hH ⊢
  clear hH9 hL9
  refine lv_aload_n hx hb dX1_makerAt_0 rfl (lv_at hl 0 rfl) ?_
  refine lv_iload_n hx hb dX1_makerAt_1 rfl (lv_at hl 1 rfl) ?_
  refine rg_callGi C0 hH (As := [.int (x)]) (rest := []) (o := 6) (ci := 1) (k_X1_has l E B M x) (rg_cw 1 C0.1.2.2.2.2 tw_m_X1_57 tw_i_X1_has tw_v_X1_has tw_n_X1 tw_c_X1_has rfl rfl hd_X1_has ⟨Nat.le_of_ble_eq_true rfl, Nat.le_of_ble_eq_true rfl⟩) rfl (by decide) rfl (by decide) rfl hl.1 rfl (Nat.le_of_ble_eq_true rfl) dX1_makerAt_2 ⟨Nat.le_of_ble_eq_true rfl, Nat.le_of_ble_eq_true rfl⟩ (fun H locs hH => ?_)
  refine lv_if_eq (tgt := 17) hx hb dX1_makerAt_5 (by decide) (fun c_5 => ?_) (fun c_5 => ?_)
  · refine lv_iconst (v := (-1)) hx hb dX1_makerAt_17 (by decide) ?_
    exact rg_retRi C0 hH hr hlocks rfl (by first | rw [if_pos (rg_b_ne.mp c_5)] | rw [if_neg (rg_b_eq.mp c_5)]) dX1_makerAt_18
  · refine lv_aload_n hx hb dX1_makerAt_8 rfl (lv_at hl 0 rfl) ?_
    refine rg_gR C0 hH (o2 := 9) (ci := 1) (k := 7) (o := 6) rfl rfl inT_X1 (by decide) tw_f_X1_21 (by decide) rfl (by decide) rfl dX1_makerAt_9 ?_
    refine lv_iload_n hx hb dX1_makerAt_12 rfl (lv_at hl 1 rfl) ?_
    refine rg_iald C0 hH (o := 9) (by decide) rfl (rg_vin rfl (by exact rg_hl_in hm (rg_b_ne.mp c_5))) dX1_makerAt_13 ?_
    refine lv_goto (tgt := 18) hx hb dX1_makerAt_14 (by decide) ?_
    exact rg_retRi C0 hH hr hlocks rfl (by first | rw [if_pos (rg_b_ne.mp c_5)] | rw [if_neg (rg_b_eq.mp c_5)]) dX1_makerAt_18

set_option maxHeartbeats 4000000 in
set_option maxRecDepth 100000 in
theorem k_X1_seasonAt (l : Launch) (E : rg_Env) (B : Nat) (M : rg_Mem) (x : Int32) (hm : rg_mn M) : Met l yX1_seasonAt (rg_w yX1_seasonAt cX1_seasonAt 2 (some (FieldType.int))) ({ frames := 1, cells := 0, slots := 0, locals := 21 } : Room) (va_Pc [.ref (B + 6), .int (x)] (rg_Pre E B 433 rg_R0 M)) (rg_Ri E B 433 rg_R0 (M) (fun r => r = if rg_hl M x then M.1 (17 + 2 * x.toNatClampNeg) 3 else -1)) 0 0 (rg_A B) := by
  refine rg_ofW (by decide +kernel) rfl (Nat.le_of_ble_eq_true rfl) ?_
  intro p e s m args below meth c ls C0 hH hl hr hlocks hnm
  replace hl : lv_has ls 2 [(0, .ref (B + 6)), (1, .int (x))] := hl
  have hx := C0.1.1
  have hb := C0.1.2.1
  generalize hH9 : s.heap = H at hH ⊢
  generalize hL9 : ([] : List Loc) = locs at hH ⊢
  clear hH9 hL9
  refine lv_aload_n hx hb dX1_seasonAt_0 rfl (lv_at hl 0 rfl) ?_
  refine lv_iload_n hx hb dX1_seasonAt_1 rfl (lv_at hl 1 rfl) ?_
  refine rg_callGi C0 hH (As := [.int (x)]) (rest := []) (o := 6) (ci := 1) (k_X1_has l E B M x) (rg_cw 1 C0.1.2.2.2.2 tw_m_X1_57 tw_i_X1_has tw_v_X1_has tw_n_X1 tw_c_X1_has rfl rfl hd_X1_has ⟨Nat.le_of_ble_eq_true rfl, Nat.le_of_ble_eq_true rfl⟩) rfl (by decide) rfl (by decide) rfl hl.1 rfl (Nat.le_of_ble_eq_true rfl) dX1_seasonAt_2 ⟨Nat.le_of_ble_eq_true rfl, Nat.le_of_ble_eq_true rfl⟩ (fun H locs hH => ?_)
  refine lv_if_eq (tgt := 20) hx hb dX1_seasonAt_5 (by decide) (fun c_5 => ?_) (fun c_5 => ?_)
  · refine lv_iconst (v := (-1)) hx hb dX1_seasonAt_20 (by decide) ?_
    exact rg_retRi C0 hH hr hlocks rfl (by first | rw [if_pos (rg_b_ne.mp c_5)] | rw [if_neg (rg_b_eq.mp c_5)]) dX1_seasonAt_21
  · refine lv_aload_n hx hb dX1_seasonAt_8 rfl (lv_at hl 0 rfl) ?_
    refine rg_gR C0 hH (o2 := 8) (ci := 1) (k := 6) (o := 6) rfl rfl inT_X1 (by decide) tw_f_X1_17 (by decide) rfl (by decide) rfl dX1_seasonAt_9 ?_
    refine lv_iload_n hx hb dX1_seasonAt_12 rfl (lv_at hl 1 rfl) ?_
    refine rg_aald C0 hH (o := 8) (o2 := (17 + 2 * x.toNatClampNeg)) (rg_R0_8 _ (rg_in_lt (rg_hl_in hm (rg_b_ne.mp c_5)))) (by decide) rfl (by decide) (rg_vin rfl (by exact rg_hl_in hm (rg_b_ne.mp c_5))) dX1_seasonAt_13 ?_
    refine rg_nI C0 hH (ci := 5) (k := 3) (o := (17 + 2 * x.toNatClampNeg)) rfl inT_X5 (by decide) (by decide) (rg_isV_lt (rg_isV_p (rg_in_lt (rg_hl_in hm (rg_b_ne.mp c_5))))) (rg_kdV_all _ (rg_in_lt (rg_hl_in hm (rg_b_ne.mp c_5)))) (by decide) rfl dX1_seasonAt_14 ?_
    refine lv_goto (tgt := 21) hx hb dX1_seasonAt_17 (by decide) ?_
    exact rg_retRi C0 hH hr hlocks rfl (by first | rw [if_pos (rg_b_ne.mp c_5)] | rw [if_neg (rg_b_eq.mp c_5)]) dX1_seasonAt_21

set_option maxHeartbeats 4000000 in
set_option maxRecDepth 100000 in
theorem k_X1_signsAt (l : Launch) (E : rg_Env) (B : Nat) (M : rg_Mem) (x : Int32) (hm : rg_mn M) : Met l yX1_signsAt (rg_w yX1_signsAt cX1_signsAt 2 (some (FieldType.int))) ({ frames := 1, cells := 0, slots := 0, locals := 21 } : Room) (va_Pc [.ref (B + 6), .int (x)] (rg_Pre E B 433 rg_R0 M)) (rg_Ri E B 433 rg_R0 (M) (fun r => r = if rg_hl M x then M.1 (17 + 2 * x.toNatClampNeg) 4 else 0)) 0 0 (rg_A B) := by
  refine rg_ofW (by decide +kernel) rfl (Nat.le_of_ble_eq_true rfl) ?_
  intro p e s m args below meth c ls C0 hH hl hr hlocks hnm
  replace hl : lv_has ls 2 [(0, .ref (B + 6)), (1, .int (x))] := hl
  have hx := C0.1.1
  have hb := C0.1.2.1
  generalize hH9 : s.heap = H at hH ⊢
  generalize hL9 : ([] : List Loc) = locs at hH ⊢
  clear hH9 hL9
  refine lv_aload_n hx hb dX1_signsAt_0 rfl (lv_at hl 0 rfl) ?_
  refine lv_iload_n hx hb dX1_signsAt_1 rfl (lv_at hl 1 rfl) ?_
  refine rg_callGi C0 hH (As := [.int (x)]) (rest := []) (o := 6) (ci := 1) (k_X1_has l E B M x) (rg_cw 1 C0.1.2.2.2.2 tw_m_X1_57 tw_i_X1_has tw_v_X1_has tw_n_X1 tw_c_X1_has rfl rfl hd_X1_has ⟨Nat.le_of_ble_eq_true rfl, Nat.le_of_ble_eq_true rfl⟩) rfl (by decide) rfl (by decide) rfl hl.1 rfl (Nat.le_of_ble_eq_true rfl) dX1_signsAt_2 ⟨Nat.le_of_ble_eq_true rfl, Nat.le_of_ble_eq_true rfl⟩ (fun H locs hH => ?_)
  refine lv_if_eq (tgt := 20) hx hb dX1_signsAt_5 (by decide) (fun c_5 => ?_) (fun c_5 => ?_)
  · refine lv_iconst (v := 0) hx hb dX1_signsAt_20 (by decide) ?_
    exact rg_retRi C0 hH hr hlocks rfl (by first | rw [if_pos (rg_b_ne.mp c_5)] | rw [if_neg (rg_b_eq.mp c_5)]) dX1_signsAt_21
  · refine lv_aload_n hx hb dX1_signsAt_8 rfl (lv_at hl 0 rfl) ?_
    refine rg_gR C0 hH (o2 := 8) (ci := 1) (k := 6) (o := 6) rfl rfl inT_X1 (by decide) tw_f_X1_17 (by decide) rfl (by decide) rfl dX1_signsAt_9 ?_
    refine lv_iload_n hx hb dX1_signsAt_12 rfl (lv_at hl 1 rfl) ?_
    refine rg_aald C0 hH (o := 8) (o2 := (17 + 2 * x.toNatClampNeg)) (rg_R0_8 _ (rg_in_lt (rg_hl_in hm (rg_b_ne.mp c_5)))) (by decide) rfl (by decide) (rg_vin rfl (by exact rg_hl_in hm (rg_b_ne.mp c_5))) dX1_signsAt_13 ?_
    refine rg_nI C0 hH (ci := 5) (k := 4) (o := (17 + 2 * x.toNatClampNeg)) rfl inT_X5 (by decide) (by decide) (rg_isV_lt (rg_isV_p (rg_in_lt (rg_hl_in hm (rg_b_ne.mp c_5))))) (rg_kdV_all _ (rg_in_lt (rg_hl_in hm (rg_b_ne.mp c_5)))) (by decide) rfl dX1_signsAt_14 ?_
    refine lv_goto (tgt := 21) hx hb dX1_signsAt_17 (by decide) ?_
    exact rg_retRi C0 hH hr hlocks rfl (by first | rw [if_pos (rg_b_ne.mp c_5)] | rw [if_neg (rg_b_eq.mp c_5)]) dX1_signsAt_21

set_option maxHeartbeats 4000000 in
set_option maxRecDepth 100000 in
theorem k_X1_wordSetAt (l : Launch) (E : rg_Env) (B : Nat) (M : rg_Mem) (x : Int32) (hm : rg_mn M) : Met l yX1_wordSetAt (rg_w yX1_wordSetAt cX1_wordSetAt 2 (some (FieldType.long))) ({ frames := 1, cells := 0, slots := 0, locals := 21 } : Room) (va_Pc [.ref (B + 6), .int (x)] (rg_Pre E B 433 rg_R0 M)) (rg_Rl E B 433 rg_R0 (M) (fun r => r = if rg_hl M x then M.2 (17 + 2 * x.toNatClampNeg) 5 else 0)) 0 0 (rg_A B) := by
  refine rg_ofW (by decide +kernel) rfl (Nat.le_of_ble_eq_true rfl) ?_
  intro p e s m args below meth c ls C0 hH hl hr hlocks hnm
  replace hl : lv_has ls 2 [(0, .ref (B + 6)), (1, .int (x))] := hl
  have hx := C0.1.1
  have hb := C0.1.2.1
  generalize hH9 : s.heap = H at hH ⊢
  generalize hL9 : ([] : List Loc) = locs at hH ⊢
  clear hH9 hL9
  refine lv_aload_n hx hb dX1_wordSetAt_0 rfl (lv_at hl 0 rfl) ?_
  refine lv_iload_n hx hb dX1_wordSetAt_1 rfl (lv_at hl 1 rfl) ?_
  refine rg_callGi C0 hH (As := [.int (x)]) (rest := []) (o := 6) (ci := 1) (k_X1_has l E B M x) (rg_cw 1 C0.1.2.2.2.2 tw_m_X1_57 tw_i_X1_has tw_v_X1_has tw_n_X1 tw_c_X1_has rfl rfl hd_X1_has ⟨Nat.le_of_ble_eq_true rfl, Nat.le_of_ble_eq_true rfl⟩) rfl (by decide) rfl (by decide) rfl hl.1 rfl (Nat.le_of_ble_eq_true rfl) dX1_wordSetAt_2 ⟨Nat.le_of_ble_eq_true rfl, Nat.le_of_ble_eq_true rfl⟩ (fun H locs hH => ?_)
  refine lv_if_eq (tgt := 20) hx hb dX1_wordSetAt_5 (by decide) (fun c_5 => ?_) (fun c_5 => ?_)
  · refine lv_lconst (v := 0) hx hb dX1_wordSetAt_20 (by decide) ?_
    exact rg_retRl C0 hH hr hlocks rfl (by first | rw [if_pos (rg_b_ne.mp c_5)] | rw [if_neg (rg_b_eq.mp c_5)]) dX1_wordSetAt_21
  · refine lv_aload_n hx hb dX1_wordSetAt_8 rfl (lv_at hl 0 rfl) ?_
    refine rg_gR C0 hH (o2 := 8) (ci := 1) (k := 6) (o := 6) rfl rfl inT_X1 (by decide) tw_f_X1_17 (by decide) rfl (by decide) rfl dX1_wordSetAt_9 ?_
    refine lv_iload_n hx hb dX1_wordSetAt_12 rfl (lv_at hl 1 rfl) ?_
    refine rg_aald C0 hH (o := 8) (o2 := (17 + 2 * x.toNatClampNeg)) (rg_R0_8 _ (rg_in_lt (rg_hl_in hm (rg_b_ne.mp c_5)))) (by decide) rfl (by decide) (rg_vin rfl (by exact rg_hl_in hm (rg_b_ne.mp c_5))) dX1_wordSetAt_13 ?_
    refine rg_nJ C0 hH (ci := 5) (k := 5) (o := (17 + 2 * x.toNatClampNeg)) rfl inT_X5 (by decide) (by decide) (rg_isV_lt (rg_isV_p (rg_in_lt (rg_hl_in hm (rg_b_ne.mp c_5))))) (rg_kdV_all _ (rg_in_lt (rg_hl_in hm (rg_b_ne.mp c_5)))) (by decide) rfl dX1_wordSetAt_14 ?_
    refine lv_goto (tgt := 21) hx hb dX1_wordSetAt_17 (by decide) ?_
    exact rg_retRl C0 hH hr hlocks rfl (by first | rw [if_pos (rg_b_ne.mp c_5)] | rw [if_neg (rg_b_eq.mp c_5)]) dX1_wordSetAt_21

set_option maxHeartbeats 4000000 in
set_option maxRecDepth 100000 in
theorem k_X1_wordOrNone (l : Launch) (E : rg_Env) (B : Nat) (M : rg_Mem) (x : Int32) (y : Int32) (hm : rg_mn M) : Met l yX1_wordOrNone (rg_w yX1_wordOrNone cX1_wordOrNone 3 (some (FieldType.int))) ({ frames := 1, cells := 0, slots := 0, locals := 21 } : Room) (va_Pc [.ref (B + 6), .int (x), .int (y)] (rg_Pre E B 433 rg_R0 M)) (rg_Ri E B 433 rg_R0 (M) (fun r => r = if rg_hl M x then rg_wn M (17 + 2 * x.toNatClampNeg) y else -1)) 0 0 (rg_A B) := by
  refine rg_ofW (by decide +kernel) rfl (Nat.le_of_ble_eq_true rfl) ?_
  intro p e s m args below meth c ls C0 hH hl hr hlocks hnm
  replace hl : lv_has ls 3 [(0, .ref (B + 6)), (1, .int (x)), (2, .int (y))] := hl
  have hx := C0.1.1
  have hb := C0.1.2.1
  generalize hH9 : s.heap = H at hH ⊢
  generalize hL9 : ([] : List Loc) = locs at hH ⊢
  clear hH9 hL9
  refine lv_aload_n hx hb dX1_wordOrNone_0 rfl (lv_at hl 0 rfl) ?_
  refine lv_iload_n hx hb dX1_wordOrNone_1 rfl (lv_at hl 1 rfl) ?_
  refine rg_callGi C0 hH (As := [.int (x)]) (rest := []) (o := 6) (ci := 1) (k_X1_has l E B M x) (rg_cw 1 C0.1.2.2.2.2 tw_m_X1_57 tw_i_X1_has tw_v_X1_has tw_n_X1 tw_c_X1_has rfl rfl hd_X1_has ⟨Nat.le_of_ble_eq_true rfl, Nat.le_of_ble_eq_true rfl⟩) rfl (by decide) rfl (by decide) rfl hl.1 rfl (Nat.le_of_ble_eq_true rfl) dX1_wordOrNone_2 ⟨Nat.le_of_ble_eq_true rfl, Nat.le_of_ble_eq_true rfl⟩ (fun H locs hH => ?_)
  refine lv_if_eq (tgt := 21) hx hb dX1_wordOrNone_5 (by decide) (fun c_5 => ?_) (fun c_5 => ?_)
  · refine lv_iconst (v := (-1)) hx hb dX1_wordOrNone_21 (by decide) ?_
    exact rg_retRi C0 hH hr hlocks rfl (by first | rw [if_pos (rg_b_ne.mp c_5)] | rw [if_neg (rg_b_eq.mp c_5)]) dX1_wordOrNone_22
  · refine lv_aload_n hx hb dX1_wordOrNone_8 rfl (lv_at hl 0 rfl) ?_
    refine rg_gR C0 hH (o2 := 8) (ci := 1) (k := 6) (o := 6) rfl rfl inT_X1 (by decide) tw_f_X1_17 (by decide) rfl (by decide) rfl dX1_wordOrNone_9 ?_
    refine lv_iload_n hx hb dX1_wordOrNone_12 rfl (lv_at hl 1 rfl) ?_
    refine rg_aald C0 hH (o := 8) (o2 := (17 + 2 * x.toNatClampNeg)) (rg_R0_8 _ (rg_in_lt (rg_hl_in hm (rg_b_ne.mp c_5)))) (by decide) rfl (by decide) (rg_vin rfl (by exact rg_hl_in hm (rg_b_ne.mp c_5))) dX1_wordOrNone_13 ?_
    refine lv_iload_n hx hb dX1_wordOrNone_14 rfl (lv_at hl 2 rfl) ?_
    refine rg_callGi C0 hH (As := [.int (y)]) (rest := []) (o := (17 + 2 * x.toNatClampNeg)) (ci := 5) (k_X5_wordOrNone l E B M (17 + 2 * x.toNatClampNeg) y (by exact rg_isV_p (rg_in_lt (rg_hl_in hm (rg_b_ne.mp c_5))))) (rg_cw 1 C0.1.2.2.2.2 tw_m_X1_71 tw_i_X5_wordOrNone tw_v_X5_wordOrNone tw_n_X5 tw_c_X5_wordOrNone rfl rfl hd_X5_wordOrNone ⟨Nat.le_of_ble_eq_true rfl, Nat.le_of_ble_eq_true rfl⟩) rfl (rg_isV_lt (rg_isV_p (rg_in_lt (rg_hl_in hm (rg_b_ne.mp c_5))))) (rg_kdV_all _ (rg_in_lt (rg_hl_in hm (rg_b_ne.mp c_5)))) (by decide) rfl hl.1 rfl (Nat.le_of_ble_eq_true rfl) dX1_wordOrNone_15 ⟨Nat.le_of_ble_eq_true rfl, Nat.le_of_ble_eq_true rfl⟩ (fun H locs hH => ?_)
    refine lv_goto (tgt := 22) hx hb dX1_wordOrNone_18 (by decide) ?_
    exact rg_retRi C0 hH hr hlocks rfl (by first | rw [if_pos (rg_b_ne.mp c_5)] | rw [if_neg (rg_b_eq.mp c_5)]) dX1_wordOrNone_22
end
section
section RGT
variable {p : Program} {l : Launch} {e : Env} {Rm : Room} {s : State} {m : MethodId} {args : Array Value} {below : List Frame} {meth : Method} {c : Code} {H : Heap} {locs : List Loc} {cells slots : Nat} {Q : State → Prop} {pc : Nat} {ls : Array Slot} {rest : List Value}
theorem rg_topi {x y : Int32} (h : x = y) (k : W p l e Rm s m args below meth c H locs cells slots Q (F0 m pc ls (.int y :: rest))) : W p l e Rm s m args below meth c H locs cells slots Q (F0 m pc ls (.int x :: rest)) := h ▸ k
theorem rg_topl {x y : Int64} (h : x = y) (k : W p l e Rm s m args below meth c H locs cells slots Q (F0 m pc ls (.long y :: rest))) : W p l e Rm s m args below meth c H locs cells slots Q (F0 m pc ls (.long x :: rest)) := h ▸ k
end RGT
theorem rg_H_eq {E : rg_Env} {B n : Nat} {R : rg_Rfs} {M M' : rg_Mem} {s : State} {H : Heap} {locs : List Loc} (h : M = M') (hH : rg_H E B n R M s H locs) : rg_H E B n R M' s H locs := h ▸ hH
theorem rg_VS_app {M M1 : rg_Mem} {v n : Nat} {w : Int32} (hv : rg_isV v) (h : rg_VS M v n) (h6 : n < 6) (hw : rg_has M w) (e1 : M1.1 v 1 = nI (n + 1)) (e2 : M1.1 v 2 = M.1 v 2 + M.1 2 w.toNatClampNeg) (e3 : M1.1 v 3 = if M.1 v 3 = -1 then M.1 3 w.toNatClampNeg else M.1 v 3) (e4 : M1.1 v 4 = M.1 v 4 ||| M.1 4 w.toNatClampNeg) (e5 : M1.2 v 5 = M.2 v 5 ||| (1 : Int64) <<< (w.toInt64 &&& 63)) (e6 : ∀ j, M1.1 (v + 1) j = if j = n then w else M.1 (v + 1) j) (ho : rg_off M M1 v) :
    rg_VS M1 v (n + 1) ∧ M1.1 (v + 1) n = w ∧ (∀ k, k < n → M1.1 (v + 1) k = M.1 (v + 1) k) ∧ rg_off M M1 v := by
  obtain ⟨h1, h2, h3, h4, h5, h7, h8⟩ := h
  have hv17 := rg_isV_ge hv
  have g1 := (ho 1 (by omega) (by omega)).1
  have g2 := (ho 2 (by omega) (by omega)).1
  have g3 := (ho 3 (by omega) (by omega)).1
  have g4 := (ho 4 (by omega) (by omega)).1
  have k1 : M1.1 (v + 1) n = w := by rw [e6, if_pos rfl]
  have k2 : ∀ k, k < n → M1.1 (v + 1) k = M.1 (v + 1) k := fun k hk => by rw [e6, if_neg (by omega)]
  refine ⟨⟨e1, by omega, fun k hk => ?_, ?_, ?_, ?_, ?_⟩, k1, k2, ho⟩
  · unfold rg_has
    rw [g1]
    by_cases hk2 : k < n
    · rw [k2 k hk2]
      exact h3 k hk2
    · rw [show k = n by omega, k1]
      exact hw
  · rw [e2, g2, rg_sm, rg_sm_c k2, k1, h4]
  · rw [e3, g3, rg_fi, rg_fi_c k2, k1, h5]
  · rw [e4, g4, rg_og, rg_og_c k2, k1, h7]
  · rw [e5, rg_ws, rg_ws_c k2, k1, h8]
theorem rg_nIm {k : Nat} (h : k < 2 ^ 31) : ¬ nI k = -1 := by
  intro q
  have h1 := congrArg Int32.toInt q
  rw [nI_toInt h, show (-1 : Int32).toInt = -1 from rfl] at h1
  omega
theorem rg_tm {Mi M1 : rg_Mem} {v i : Nat} {f : Nat → Int32} {z : Int32} (h : ∀ k, k < i → Mi.1 (v + 1) k = f k) (h1 : M1.1 (v + 1) i = z) (h2 : ∀ k, k < i → M1.1 (v + 1) k = Mi.1 (v + 1) k) (hz : f i = z) : ∀ k, k < i + 1 → M1.1 (v + 1) k = f k := by
  intro k hk
  by_cases hk2 : k < i
  · rw [h2 k hk2, h k hk2]
  · rw [show k = i by omega, h1, hz]
theorem rg_lp_end {i n : Nat} (hi : i ≤ n) (hn : n ≤ 100000) (c : nI n ≤ nI i) : i = n := by
  rcases Nat.lt_or_ge i n with q | q
  · exact absurd c (nI_ge q (by omega))
  · omega
theorem rg_lp_lt {i n : Nat} (hi : i ≤ n) (hn : n ≤ 100000) (c : ¬ nI n ≤ nI i) : i < n := by
  rcases Nat.lt_or_ge i n with q | q
  · exact q
  · exact absurd (nI_le q (by omega)) c
end
section
set_option maxHeartbeats 4000000 in
set_option maxRecDepth 100000 in
/-- Verse.append -/
theorem k_X5_append (l : Launch) (E : rg_Env) (B : Nat) (M : rg_Mem) (v : Nat) (n : Nat) (w : Int32) (hv : rg_isV v) (hn : rg_cn M) (hvs : rg_VS M v n) (hn6 : n < 6) (hw : rg_has M w) : Met l yX5_append (rg_w yX5_append cX5_append 3 none) ({ frames := 2, cells := 0, slots := 0, locals := 42 } : Room) (va_Pc [.ref (B + v), .int (w), .ref (B + 1)] (rg_Pre E B 433 rg_R0 M)) (rg_Wv E B 433 rg_R0 (fun M1 => rg_VS M1 v (n + 1) ∧ M1.1 (v + 1) n = w ∧ (∀ k, k < n → M1.1 (v + 1) k = M.1 (v + 1) k) ∧ rg_off M M1 v)) 0 0 (rg_A B) := by
  refine rg_ofW (by decide +kernel) rfl (Nat.le_of_ble_eq_true rfl) ?_
  intro p e s m args below meth c ls C0 hH hl hr hlocks hnm
  replace hl : lv_has ls 3 [(0, .ref (B + v)), (1, .int (w)), (2, .ref (B + 1))] := hl
  have hx := C0.1.1
  have hb := C0.1.2.1
  generalize hH9 : s.heap = H at hH ⊢
  generalize hL9 : ([] : List Loc) = locs at hH ⊢
  clear hH9 hL9
  have hv17 := rg_isV_ge hv
  have k1 := hvs.1
  have z0 : ¬ v = 0 := by omega
  have z1 : ¬ v = 1 := by omega
  have z2 : ¬ v = 2 := by omega
  have z3 : ¬ v = 3 := by omega
  have z4 : ¬ v = 4 := by omega
  have y0 : ¬ 0 = v := by omega
  have y1 : ¬ 1 = v := by omega
  have y2 : ¬ 2 = v := by omega
  have y3 : ¬ 3 = v := by omega
  have y4 : ¬ 4 = v := by omega
  refine lv_aload_n hx hb dX5_append_0 rfl (lv_at hl 0 rfl) ?_
  refine rg_gI C0 hH (ci := 5) (k := 1) (o := v) rfl inT_X5 (by decide) tw_f_X5_19 (rg_isV_lt hv) hv.2 (by decide) rfl dX5_append_1 ?_
  refine lv_bipush (v := 6) hx hb dX5_append_4 (by decide) ?_
  refine lv_icmp_ge (tgt := 17) hx hb dX5_append_6 (by decide) (fun c_6 => ?_) (fun c_6 => ?_)
  · exact absurd c_6 (by rw [hvs.1]; exact nI_ge (a := n) (b := 6) hn6 (by omega))
  · refine lv_aload_n hx hb dX5_append_9 rfl (lv_at hl 2 rfl) ?_
    refine lv_iload_n hx hb dX5_append_10 rfl (lv_at hl 1 rfl) ?_
    refine rg_callGi C0 hH (As := [.int (w)]) (rest := []) (o := 1) (ci := 4) (k_X4_has l E B M w) (rg_cw 1 C0.1.2.2.2.2 tw_m_X5_32 tw_i_X4_has tw_v_X4_has tw_n_X4 tw_c_X4_has rfl rfl hd_X4_has ⟨Nat.le_of_ble_eq_true rfl, Nat.le_of_ble_eq_true rfl⟩) rfl (by decide) rfl (by decide) rfl hl.1 rfl (Nat.le_of_ble_eq_true rfl) dX5_append_11 ⟨Nat.le_of_ble_eq_true rfl, Nat.le_of_ble_eq_true rfl⟩ (fun H locs hH => ?_)
    refine lv_if_ne (tgt := 18) hx hb dX5_append_14 (by decide) (fun c_14 => ?_) (fun c_14 => ?_)
    · refine lv_aload_n hx hb dX5_append_18 rfl (lv_at hl 0 rfl) ?_
      refine rg_gR C0 hH (o2 := (v + 1)) (ci := 5) (k := 0) (o := v) (rg_isV_w hv).2.2.2 rfl inT_X5 (by decide) tw_f_X5_9 (rg_isV_lt hv) hv.2 (by decide) rfl dX5_append_19 ?_
      refine lv_aload_n hx hb dX5_append_22 rfl (lv_at hl 0 rfl) ?_
      refine rg_gI C0 hH (ci := 5) (k := 1) (o := v) rfl inT_X5 (by decide) tw_f_X5_19 (rg_isV_lt hv) hv.2 (by decide) rfl dX5_append_23 ?_
      refine rg_topi (y := nI n) (by exact hvs.1) ?_
      refine lv_iload_n hx hb dX5_append_26 rfl (lv_at hl 1 rfl) ?_
      refine rg_iastN C0 hH (o := (v + 1)) (j := n) (rg_isV_w hv).1 (rg_isV_w hv).2.1 (rg_isV_w hv).2.2.1 (by omega) dX5_append_27 (fun H locs hH => ?_)
      refine lv_aload_n hx hb dX5_append_28 rfl (lv_at hl 0 rfl) ?_
      refine lv_dup hx hb dX5_append_29 rfl ?_
      refine rg_gI C0 hH (ci := 5) (k := 1) (o := v) rfl inT_X5 (by decide) tw_f_X5_19 (rg_isV_lt hv) hv.2 (by decide) rfl dX5_append_30 ?_
      refine rg_topi (y := nI n) (by simp [rg_I, k1]) ?_
      refine lv_iconst (v := 1) hx hb dX5_append_33 (by decide) ?_
      refine lv_iadd hx hb dX5_append_34 ?_
      refine rg_topi (y := nI (n + 1)) (by exact nI_1 n) ?_
      refine rg_pI C0 hH (v := nI (n + 1)) tyX5 tyX5_ok nmX5 (ci := 5) (k := 1) (o := v) rfl inT_X5 (by decide) tw_f_X5_19 (rg_isV_lt hv) hv.2 (by decide) rfl rfl rfl rfl dX5_append_35 (fun H locs hH => ?_)
      refine lv_aload_n hx hb dX5_append_38 rfl (lv_at hl 0 rfl) ?_
      refine lv_dup hx hb dX5_append_39 rfl ?_
      refine rg_gI C0 hH (ci := 5) (k := 2) (o := v) rfl inT_X5 (by decide) tw_f_X5_22 (rg_isV_lt hv) hv.2 (by decide) rfl dX5_append_40 ?_
      refine rg_topi (y := M.1 v 2) (by simp [rg_I, rg_J]) ?_
      refine lv_aload_n hx hb dX5_append_43 rfl (lv_at hl 2 rfl) ?_
      refine lv_iload_n hx hb dX5_append_44 rfl (lv_at hl 1 rfl) ?_
      refine rg_callGi C0 hH (As := [.int (w)]) (rest := [.int (M.1 v 2), .ref (B + v)]) (o := 1) (ci := 4) (k_X4_soundsOf l E B (rg_I (rg_I M (v + 1) n w) v 1 (nI (n + 1))) w (by first | exact hv | (show rg_cn _; simpa [rg_cn, rg_I, rg_J, z0, z1, z2, z3, z4, y0, y1, y2, y3, y4] using hn))) (rg_cw 1 C0.1.2.2.2.2 tw_m_X5_38 tw_i_X4_soundsOf tw_v_X4_soundsOf tw_n_X4 tw_c_X4_soundsOf rfl rfl hd_X4_soundsOf ⟨Nat.le_of_ble_eq_true rfl, Nat.le_of_ble_eq_true rfl⟩) rfl (by decide) rfl (by decide) rfl hl.1 rfl (Nat.le_of_ble_eq_true rfl) dX5_append_45 ⟨Nat.le_of_ble_eq_true rfl, Nat.le_of_ble_eq_true rfl⟩ (fun H locs hH => ?_)
      refine rg_topi (y := M.1 2 w.toNatClampNeg) (by rw [if_pos (show rg_has _ w from by simpa [rg_has, rg_I, rg_J, z0, z1, z2, z3, z4, y0, y1, y2, y3, y4] using hw)]; simp [rg_I, rg_J, z0, z1, z2, z3, z4, y0, y1, y2, y3, y4]) ?_
      refine lv_iadd hx hb dX5_append_48 ?_
      refine rg_pI C0 hH (v := (M.1 v 2) + (M.1 2 w.toNatClampNeg)) tyX5 tyX5_ok nmX5 (ci := 5) (k := 2) (o := v) rfl inT_X5 (by decide) tw_f_X5_22 (rg_isV_lt hv) hv.2 (by decide) rfl rfl rfl rfl dX5_append_49 (fun H locs hH => ?_)
      refine lv_aload_n hx hb dX5_append_52 rfl (lv_at hl 0 rfl) ?_
      refine rg_gI C0 hH (ci := 5) (k := 3) (o := v) rfl inT_X5 (by decide) tw_f_X5_15 (rg_isV_lt hv) hv.2 (by decide) rfl dX5_append_53 ?_
      refine rg_topi (y := M.1 v 3) (by simp [rg_I, rg_J]) ?_
      refine lv_iconst (v := (-1)) hx hb dX5_append_56 (by decide) ?_
      refine lv_icmp_ne (tgt := 69) hx hb dX5_append_57 (by decide) (fun c_57 => ?_) (fun c_57 => ?_)
      · refine lv_aload_n hx hb dX5_append_69 rfl (lv_at hl 0 rfl) ?_
        refine lv_dup hx hb dX5_append_70 rfl ?_
        refine rg_gI C0 hH (ci := 5) (k := 4) (o := v) rfl inT_X5 (by decide) tw_f_X5_25 (rg_isV_lt hv) hv.2 (by decide) rfl dX5_append_71 ?_
        refine rg_topi (y := M.1 v 4) (by simp [rg_I, rg_J]) ?_
        refine lv_aload_n hx hb dX5_append_74 rfl (lv_at hl 2 rfl) ?_
        refine lv_iload_n hx hb dX5_append_75 rfl (lv_at hl 1 rfl) ?_
        refine rg_callGi C0 hH (As := [.int (w)]) (rest := [.int (M.1 v 4), .ref (B + v)]) (o := 1) (ci := 4) (k_X4_signsOf l E B (rg_I ((rg_I (rg_I M (v + 1) n w) v 1 (nI (n + 1)))) v 2 ((M.1 v 2) + (M.1 2 w.toNatClampNeg))) w (by first | exact hv | (show rg_cn _; simpa [rg_cn, rg_I, rg_J, z0, z1, z2, z3, z4, y0, y1, y2, y3, y4] using hn))) (rg_cw 1 C0.1.2.2.2.2 tw_m_X5_45 tw_i_X4_signsOf tw_v_X4_signsOf tw_n_X4 tw_c_X4_signsOf rfl rfl hd_X4_signsOf ⟨Nat.le_of_ble_eq_true rfl, Nat.le_of_ble_eq_true rfl⟩) rfl (by decide) rfl (by decide) rfl hl.1 rfl (Nat.le_of_ble_eq_true rfl) dX5_append_76 ⟨Nat.le_of_ble_eq_true rfl, Nat.le_of_ble_eq_true rfl⟩ (fun H locs hH => ?_)
        refine rg_topi (y := M.1 4 w.toNatClampNeg) (by rw [if_pos (show rg_has _ w from by simpa [rg_has, rg_I, rg_J, z0, z1, z2, z3, z4, y0, y1, y2, y3, y4] using hw)]; simp [rg_I, rg_J, z0, z1, z2, z3, z4, y0, y1, y2, y3, y4]) ?_
        refine lv_ior hx hb dX5_append_79 ?_
        refine rg_pI C0 hH (v := (M.1 v 4) ||| (M.1 4 w.toNatClampNeg)) tyX5 tyX5_ok nmX5 (ci := 5) (k := 4) (o := v) rfl inT_X5 (by decide) tw_f_X5_25 (rg_isV_lt hv) hv.2 (by decide) rfl rfl rfl rfl dX5_append_80 (fun H locs hH => ?_)
        refine lv_aload_n hx hb dX5_append_83 rfl (lv_at hl 0 rfl) ?_
        refine lv_dup hx hb dX5_append_84 rfl ?_
        refine rg_gJ C0 hH (ci := 5) (k := 5) (o := v) rfl inT_X5 (by decide) tw_f_X5_28 (rg_isV_lt hv) hv.2 (by decide) rfl dX5_append_85 ?_
        refine rg_topl (y := M.2 v 5) (by simp [rg_I, rg_J]) ?_
        refine lv_lconst (v := 1) hx hb dX5_append_88 (by decide) ?_
        refine lv_iload_n hx hb dX5_append_89 rfl (lv_at hl 1 rfl) ?_
        refine lv_lshl hx hb dX5_append_90 rfl ?_
        refine lv_lor hx hb dX5_append_91 ?_
        refine rg_pJ C0 hH (v := (M.2 v 5) ||| ((1 : Int64) <<< (w.toInt64 &&& 63))) tyX5 tyX5_ok nmX5 (ci := 5) (k := 5) (o := v) rfl inT_X5 (by decide) tw_f_X5_28 (rg_isV_lt hv) hv.2 (by decide) rfl rfl rfl rfl dX5_append_92 (fun H locs hH => ?_)
        exact rg_retWv C0 hH hr hlocks (by exact rg_VS_app hv hvs hn6 hw (by simp [rg_I, rg_J]) (by simp [rg_I, rg_J]) (by simp [rg_I, rg_J, c_57]) (by simp [rg_I, rg_J]) (by simp [rg_I, rg_J]) (fun j => by simp [rg_I, rg_J]) (fun c h1 h2 => ⟨by funext j; simp [rg_I, rg_J, h1, h2], by funext j; simp [rg_I, rg_J, h1, h2]⟩)) dX5_append_95
      · refine lv_aload_n hx hb dX5_append_60 rfl (lv_at hl 0 rfl) ?_
        refine lv_aload_n hx hb dX5_append_61 rfl (lv_at hl 2 rfl) ?_
        refine lv_iload_n hx hb dX5_append_62 rfl (lv_at hl 1 rfl) ?_
        refine rg_callGi C0 hH (As := [.int (w)]) (rest := [.ref (B + v)]) (o := 1) (ci := 4) (k_X4_seasonOf l E B (rg_I ((rg_I (rg_I M (v + 1) n w) v 1 (nI (n + 1)))) v 2 ((M.1 v 2) + (M.1 2 w.toNatClampNeg))) w (by first | exact hv | (show rg_cn _; simpa [rg_cn, rg_I, rg_J, z0, z1, z2, z3, z4, y0, y1, y2, y3, y4] using hn))) (rg_cw 1 C0.1.2.2.2.2 tw_m_X5_42 tw_i_X4_seasonOf tw_v_X4_seasonOf tw_n_X4 tw_c_X4_seasonOf rfl rfl hd_X4_seasonOf ⟨Nat.le_of_ble_eq_true rfl, Nat.le_of_ble_eq_true rfl⟩) rfl (by decide) rfl (by decide) rfl hl.1 rfl (Nat.le_of_ble_eq_true rfl) dX5_append_63 ⟨Nat.le_of_ble_eq_true rfl, Nat.le_of_ble_eq_true rfl⟩ (fun H locs hH => ?_)
        refine rg_topi (y := M.1 3 w.toNatClampNeg) (by rw [if_pos (show rg_has _ w from by simpa [rg_has, rg_I, rg_J, z0, z1, z2, z3, z4, y0, y1, y2, y3, y4] using hw)]; simp [rg_I, rg_J, z0, z1, z2, z3, z4, y0, y1, y2, y3, y4]) ?_
        refine rg_pI C0 hH (v := M.1 3 w.toNatClampNeg) tyX5 tyX5_ok nmX5 (ci := 5) (k := 3) (o := v) rfl inT_X5 (by decide) tw_f_X5_15 (rg_isV_lt hv) hv.2 (by decide) rfl rfl rfl rfl dX5_append_66 (fun H locs hH => ?_)
        refine lv_aload_n hx hb dX5_append_69 rfl (lv_at hl 0 rfl) ?_
        refine lv_dup hx hb dX5_append_70 rfl ?_
        refine rg_gI C0 hH (ci := 5) (k := 4) (o := v) rfl inT_X5 (by decide) tw_f_X5_25 (rg_isV_lt hv) hv.2 (by decide) rfl dX5_append_71 ?_
        refine rg_topi (y := M.1 v 4) (by simp [rg_I, rg_J]) ?_
        refine lv_aload_n hx hb dX5_append_74 rfl (lv_at hl 2 rfl) ?_
        refine lv_iload_n hx hb dX5_append_75 rfl (lv_at hl 1 rfl) ?_
        refine rg_callGi C0 hH (As := [.int (w)]) (rest := [.int (M.1 v 4), .ref (B + v)]) (o := 1) (ci := 4) (k_X4_signsOf l E B (rg_I ((rg_I ((rg_I (rg_I M (v + 1) n w) v 1 (nI (n + 1)))) v 2 ((M.1 v 2) + (M.1 2 w.toNatClampNeg)))) v 3 (M.1 3 w.toNatClampNeg)) w (by first | exact hv | (show rg_cn _; simpa [rg_cn, rg_I, rg_J, z0, z1, z2, z3, z4, y0, y1, y2, y3, y4] using hn))) (rg_cw 1 C0.1.2.2.2.2 tw_m_X5_45 tw_i_X4_signsOf tw_v_X4_signsOf tw_n_X4 tw_c_X4_signsOf rfl rfl hd_X4_signsOf ⟨Nat.le_of_ble_eq_true rfl, Nat.le_of_ble_eq_true rfl⟩) rfl (by decide) rfl (by decide) rfl hl.1 rfl (Nat.le_of_ble_eq_true rfl) dX5_append_76 ⟨Nat.le_of_ble_eq_true rfl, Nat.le_of_ble_eq_true rfl⟩ (fun H locs hH => ?_)
        refine rg_topi (y := M.1 4 w.toNatClampNeg) (by rw [if_pos (show rg_has _ w from by simpa [rg_has, rg_I, rg_J, z0, z1, z2, z3, z4, y0, y1, y2, y3, y4] using hw)]; simp [rg_I, rg_J, z0, z1, z2, z3, z4, y0, y1, y2, y3, y4]) ?_
        refine lv_ior hx hb dX5_append_79 ?_
        refine rg_pI C0 hH (v := (M.1 v 4) ||| (M.1 4 w.toNatClampNeg)) tyX5 tyX5_ok nmX5 (ci := 5) (k := 4) (o := v) rfl inT_X5 (by decide) tw_f_X5_25 (rg_isV_lt hv) hv.2 (by decide) rfl rfl rfl rfl dX5_append_80 (fun H locs hH => ?_)
        refine lv_aload_n hx hb dX5_append_83 rfl (lv_at hl 0 rfl) ?_
        refine lv_dup hx hb dX5_append_84 rfl ?_
        refine rg_gJ C0 hH (ci := 5) (k := 5) (o := v) rfl inT_X5 (by decide) tw_f_X5_28 (rg_isV_lt hv) hv.2 (by decide) rfl dX5_append_85 ?_
        refine rg_topl (y := M.2 v 5) (by simp [rg_I, rg_J]) ?_
        refine lv_lconst (v := 1) hx hb dX5_append_88 (by decide) ?_
        refine lv_iload_n hx hb dX5_append_89 rfl (lv_at hl 1 rfl) ?_
        refine lv_lshl hx hb dX5_append_90 rfl ?_
        refine lv_lor hx hb dX5_append_91 ?_
        refine rg_pJ C0 hH (v := (M.2 v 5) ||| ((1 : Int64) <<< (w.toInt64 &&& 63))) tyX5 tyX5_ok nmX5 (ci := 5) (k := 5) (o := v) rfl inT_X5 (by decide) tw_f_X5_28 (rg_isV_lt hv) hv.2 (by decide) rfl rfl rfl rfl dX5_append_92 (fun H locs hH => ?_)
        exact rg_retWv C0 hH hr hlocks (by exact rg_VS_app hv hvs hn6 hw (by simp [rg_I, rg_J]) (by simp [rg_I, rg_J]) (by simp [rg_I, rg_J, c_57]) (by simp [rg_I, rg_J]) (by simp [rg_I, rg_J]) (fun j => by simp [rg_I, rg_J]) (fun c h1 h2 => ⟨by funext j; simp [rg_I, rg_J, h1, h2], by funext j; simp [rg_I, rg_J, h1, h2]⟩)) dX5_append_95
    · exact absurd hw (rg_b_eq.mp c_14)

set_option maxHeartbeats 4000000 in
set_option maxRecDepth 100000 in
/-- Verse.takeMended -/
theorem k_X5_takeMended (l : Launch) (E : rg_Env) (B : Nat) (M : rg_Mem) (v : Nat) (o : Nat) (n : Nat) (x : Int32) (w : Int32) (hv : rg_isV v) (ho : rg_isV o) (hne : v ≠ o) (hn : rg_cn M) (hvs : rg_VS M o n) (hw : ∀ k, k < n → nI k = x → rg_has M w) : Met l yX5_takeMended (rg_w yX5_takeMended cX5_takeMended 6 none) ({ frames := 3, cells := 0, slots := 0, locals := 64 } : Room) (va_Pc [.ref (B + v), .ref (B + o), .int (x), .int (w), .ref (B + 1)] (rg_Pre E B 433 rg_R0 M)) (rg_Wv E B 433 rg_R0 (fun M1 => rg_VS M1 v n ∧ (∀ k, k < n → M1.1 (v + 1) k = if nI k = x then w else M.1 (o + 1) k) ∧ rg_off M M1 v)) 0 0 (rg_A B) := by
  refine rg_ofW (by decide +kernel) rfl (Nat.le_of_ble_eq_true rfl) ?_
  intro p e s m args below meth c ls C0 hH hl hr hlocks hnm
  replace hl : lv_has ls 6 [(0, .ref (B + v)), (1, .ref (B + o)), (2, .int (x)), (3, .int (w)), (4, .ref (B + 1))] := hl
  have hx := C0.1.1
  have hb := C0.1.2.1
  generalize hH9 : s.heap = H at hH ⊢
  generalize hL9 : ([] : List Loc) = locs at hH ⊢
  clear hH9 hL9
  have hv17 := rg_isV_ge hv
  refine lv_aload_n hx hb dX5_takeMended_0 rfl (lv_at hl 0 rfl) ?_
  refine rg_callRv C0 hH (As := []) (rest := []) (o := v) (ci := 5) (k_X5_empty l E B M v (by assumption)) (rg_cw 0 C0.1.2.2.2.2 tw_m_X5_52 tw_i_X5_empty tw_v_X5_empty tw_n_X5 tw_c_X5_empty rfl rfl hd_X5_empty ⟨Nat.le_of_ble_eq_true rfl, Nat.le_of_ble_eq_true rfl⟩) rfl (rg_isV_lt hv) hv.2 (by decide) rfl hl.1 rfl (Nat.le_of_ble_eq_true rfl) dX5_takeMended_1 ⟨Nat.le_of_ble_eq_true rfl, Nat.le_of_ble_eq_true rfl⟩ (fun H locs e_1 hH => ?_)
  refine lv_iconst (v := 0) hx hb dX5_takeMended_4 (by decide) ?_
  refine lv_istore (lv' := [(5, .int (0)), (0, .ref (B + v)), (1, .ref (B + o)), (2, .int (x)), (3, .int (w)), (4, .ref (B + 1))]) hx hb dX5_takeMended_5 hl (by decide) rfl (fun ls hl => ?_)
  have cut_7 : ∀ (fu i : Nat), i ≤ n ∧ n < i + fu → ∀ (Mi : rg_Mem) (H : Heap) (locs : List Loc) (ls : Array Slot), rg_H E B 433 rg_R0 Mi s H locs → lv_has ls 6 [(0, .ref (B + v)), (1, .ref (B + o)), (2, .int (x)), (3, .int (w)), (4, .ref (B + 1)), (5, .int (nI i))] → (rg_VS Mi v i) → (∀ k, k < i → Mi.1 (v + 1) k = if nI k = x then w else M.1 (o + 1) k) → (rg_off M Mi v) → W p l e ({ frames := 3, cells := 0, slots := 0, locals := 64 } : Room) s m args below meth c H locs 0 0 (MQ below (rg_Wv E B 433 rg_R0 (fun M1 => rg_VS M1 v n ∧ (∀ k, k < n → M1.1 (v + 1) k = if nI k = x then w else M.1 (o + 1) k) ∧ rg_off M M1 v)) args s 0 0 (rg_A B)) (F0 m 7 ls []) := by
    intro fu
    induction fu with
    | zero =>
      intro i hm
      exact absurd hm (by omega)
    | succ fu ih =>
      intro i hm Mi H locs ls hH hl hVi hwi hoi
      have hVo := rg_VS_off hvs hv ho hne hoi
      have g1 := (hoi 1 (by omega) (by omega)).1
      have hcn : rg_cn Mi := by unfold rg_cn; rw [g1]; exact hn
      have go := (hoi (o + 1) (rg_isV_n hv ho).2 (fun q => hne (by omega))).1
      refine lv_iload hx hb dX5_takeMended_7 (lv_at hl 5 rfl) ?_
      refine lv_aload_n hx hb dX5_takeMended_9 rfl (lv_at hl 1 rfl) ?_
      refine rg_gI C0 hH (ci := 5) (k := 1) (o := o) rfl inT_X5 (by decide) tw_f_X5_19 (rg_isV_lt ho) ho.2 (by decide) rfl dX5_takeMended_10 ?_
      refine rg_topi (y := nI n) (by exact hVo.1) ?_
      refine lv_icmp_ge (tgt := 44) hx hb dX5_takeMended_13 (by decide) (fun c_13 => ?_) (fun c_13 => ?_)
      · exact rg_retWv C0 hH hr hlocks (by have q := rg_lp_end hm.1 (by have := hvs.2.1; omega) c_13; subst q; exact ⟨hVi, hwi, hoi⟩) dX5_takeMended_44
      · have hlt : i < n := rg_lp_lt hm.1 (by have := hvs.2.1; omega) c_13
        refine lv_aload_n hx hb dX5_takeMended_16 rfl (lv_at hl 0 rfl) ?_
        refine lv_iload hx hb dX5_takeMended_17 (lv_at hl 5 rfl) ?_
        refine lv_iload_n hx hb dX5_takeMended_19 rfl (lv_at hl 2 rfl) ?_
        refine lv_icmp_ne (tgt := 27) hx hb dX5_takeMended_20 (by decide) (fun c_20 => ?_) (fun c_20 => ?_)
        · refine lv_aload_n hx hb dX5_takeMended_27 rfl (lv_at hl 1 rfl) ?_
          refine lv_iload hx hb dX5_takeMended_28 (lv_at hl 5 rfl) ?_
          refine rg_callGi C0 hH (As := [.int (nI i)]) (rest := [.ref (B + v)]) (o := o) (ci := 5) (k_X5_wordOrNone l E B Mi o (nI i) (by exact ho)) (rg_cw 1 C0.1.2.2.2.2 tw_m_X5_55 tw_i_X5_wordOrNone tw_v_X5_wordOrNone tw_n_X5 tw_c_X5_wordOrNone rfl rfl hd_X5_wordOrNone ⟨Nat.le_of_ble_eq_true rfl, Nat.le_of_ble_eq_true rfl⟩) rfl (rg_isV_lt ho) ho.2 (by decide) rfl hl.1 rfl (Nat.le_of_ble_eq_true rfl) dX5_takeMended_30 ⟨Nat.le_of_ble_eq_true rfl, Nat.le_of_ble_eq_true rfl⟩ (fun H locs hH => ?_)
          refine rg_topi (y := Mi.1 (o + 1) i) (by exact rg_wn_k hVo.1 hVo.2.1 hlt) ?_
          refine lv_aload hx hb dX5_takeMended_33 (lv_at hl 4 rfl) ?_
          refine rg_callWv C0 hH (As := [.int (Mi.1 (o + 1) i), .ref (B + 1)]) (rest := []) (o := v) (ci := 5) (k_X5_append l E B Mi v i (Mi.1 (o + 1) i) hv hcn hVi (by have := hvs.2.1; omega) (by unfold rg_has; rw [g1]; first | exact hw i hlt c_20 | (rw [go]; exact hvs.2.2.1 i hlt))) (rg_cw 2 C0.1.2.2.2.2 tw_m_X5_58 tw_i_X5_append tw_v_X5_append tw_n_X5 tw_c_X5_append rfl rfl hd_X5_append ⟨Nat.le_of_ble_eq_true rfl, Nat.le_of_ble_eq_true rfl⟩) rfl (rg_isV_lt hv) hv.2 (by decide) rfl hl.1 rfl (Nat.le_of_ble_eq_true rfl) dX5_takeMended_35 ⟨Nat.le_of_ble_eq_true rfl, Nat.le_of_ble_eq_true rfl⟩ (fun M_35 H locs e_35 hH => ?_)
          refine lv_iinc (v := nI (i + 1)) (lv' := [(5, .int (nI (i + 1))), (0, .ref (B + v)), (1, .ref (B + o)), (2, .int (x)), (3, .int (w)), (4, .ref (B + 1))]) hx hb dX5_takeMended_38 hl (k := 5) rfl (nI_1 _) (by decide) rfl (fun ls hl => ?_)
          refine lv_goto (tgt := 7) hx hb dX5_takeMended_41 (by decide) ?_
          exact ih (i + 1) (by omega) M_35 _ _ _ hH (lv_sub hl [1, 2, 3, 4, 5, 0] rfl) (by exact e_35.1) (by exact rg_tm hwi e_35.2.1 e_35.2.2.1 (by rw [if_neg c_20, go])) (by exact rg_off_tr hoi e_35.2.2.2)
        · refine lv_iload_n hx hb dX5_takeMended_23 rfl (lv_at hl 3 rfl) ?_
          refine lv_goto (tgt := 33) hx hb dX5_takeMended_24 (by decide) ?_
          refine lv_aload hx hb dX5_takeMended_33 (lv_at hl 4 rfl) ?_
          refine rg_callWv C0 hH (As := [.int (w), .ref (B + 1)]) (rest := []) (o := v) (ci := 5) (k_X5_append l E B Mi v i w hv hcn hVi (by have := hvs.2.1; omega) (by unfold rg_has; rw [g1]; first | exact hw i hlt c_20 | (rw [go]; exact hvs.2.2.1 i hlt))) (rg_cw 2 C0.1.2.2.2.2 tw_m_X5_58 tw_i_X5_append tw_v_X5_append tw_n_X5 tw_c_X5_append rfl rfl hd_X5_append ⟨Nat.le_of_ble_eq_true rfl, Nat.le_of_ble_eq_true rfl⟩) rfl (rg_isV_lt hv) hv.2 (by decide) rfl hl.1 rfl (Nat.le_of_ble_eq_true rfl) dX5_takeMended_35 ⟨Nat.le_of_ble_eq_true rfl, Nat.le_of_ble_eq_true rfl⟩ (fun M_35 H locs e_35 hH => ?_)
          refine lv_iinc (v := nI (i + 1)) (lv' := [(5, .int (nI (i + 1))), (0, .ref (B + v)), (1, .ref (B + o)), (2, .int (x)), (3, .int (w)), (4, .ref (B + 1))]) hx hb dX5_takeMended_38 hl (k := 5) rfl (nI_1 _) (by decide) rfl (fun ls hl => ?_)
          refine lv_goto (tgt := 7) hx hb dX5_takeMended_41 (by decide) ?_
          exact ih (i + 1) (by omega) M_35 _ _ _ hH (lv_sub hl [1, 2, 3, 4, 5, 0] rfl) (by exact e_35.1) (by exact rg_tm hwi e_35.2.1 e_35.2.2.1 (by rw [if_pos c_20])) (by exact rg_off_tr hoi e_35.2.2.2)
  exact cut_7 (n + 1) 0 (by omega) (rg_J (rg_I (rg_I (rg_I (rg_I M v 1 0) v 2 0) v 3 (-1)) v 4 0) v 5 0) _ _ _ hH (lv_sub hl [1, 2, 3, 4, 5, 0] rfl) (by exact ⟨by simp [rg_I, rg_J]; rfl, by omega, fun k hk => absurd hk (by omega), by simp [rg_I, rg_J]; rfl, by simp [rg_I, rg_J]; rfl, by simp [rg_I, rg_J]; rfl, by simp [rg_I, rg_J]; rfl⟩) (by intro k hk; omega) (by exact fun c h1 h2 => ⟨by funext j; simp [rg_I, rg_J, h1], by funext j; simp [rg_I, rg_J, h1]⟩)

set_option maxHeartbeats 4000000 in
set_option maxRecDepth 100000 in
/-- Verse.take -/
theorem k_X5_take (l : Launch) (E : rg_Env) (B : Nat) (M : rg_Mem) (v : Nat) (o : Nat) (n : Nat) (hv : rg_isV v) (ho : rg_isV o) (hne : v ≠ o) (hn : rg_cn M) (hvs : rg_VS M o n) : Met l yX5_take (rg_w yX5_take cX5_take 3 none) ({ frames := 4, cells := 0, slots := 0, locals := 89 } : Room) (va_Pc [.ref (B + v), .ref (B + o), .ref (B + 1)] (rg_Pre E B 433 rg_R0 M)) (rg_Wv E B 433 rg_R0 (fun M1 => rg_VS M1 v n ∧ (∀ k, k < n → M1.1 (v + 1) k = M.1 (o + 1) k) ∧ rg_off M M1 v)) 0 0 (rg_A B) := by
  refine rg_ofW (by decide +kernel) rfl (Nat.le_of_ble_eq_true rfl) ?_
  intro p e s m args below meth c ls C0 hH hl hr hlocks hnm
  replace hl : lv_has ls 3 [(0, .ref (B + v)), (1, .ref (B + o)), (2, .ref (B + 1))] := hl
  have hx := C0.1.1
  have hb := C0.1.2.1
  generalize hH9 : s.heap = H at hH ⊢
  generalize hL9 : ([] : List Loc) = locs at hH ⊢
  clear hH9 hL9
  refine lv_aload_n hx hb dX5_take_0 rfl (lv_at hl 0 rfl) ?_
  refine lv_aload_n hx hb dX5_take_1 rfl (lv_at hl 1 rfl) ?_
  refine lv_iconst (v := (-1)) hx hb dX5_take_2 (by decide) ?_
  refine lv_iconst (v := (-1)) hx hb dX5_take_3 (by decide) ?_
  refine lv_aload_n hx hb dX5_take_4 rfl (lv_at hl 2 rfl) ?_
  refine rg_callWv C0 hH (As := [.ref (B + o), .int ((-1)), .int ((-1)), .ref (B + 1)]) (rest := []) (o := v) (ci := 5) (k_X5_takeMended l E B M v o n ((-1)) ((-1)) (by assumption) (by assumption) (by assumption) (by assumption) (by assumption) (fun k hk q => absurd q (rg_nIm (by have := hvs.2.1; omega)))) (rg_cw 4 C0.1.2.2.2.2 tw_m_X5_48 tw_i_X5_takeMended tw_v_X5_takeMended tw_n_X5 tw_c_X5_takeMended rfl rfl hd_X5_takeMended ⟨Nat.le_of_ble_eq_true rfl, Nat.le_of_ble_eq_true rfl⟩) rfl (rg_isV_lt hv) hv.2 (by decide) rfl hl.1 rfl (Nat.le_of_ble_eq_true rfl) dX5_take_5 ⟨Nat.le_of_ble_eq_true rfl, Nat.le_of_ble_eq_true rfl⟩ (fun M_5 H locs e_5 hH => ?_)
  exact rg_retWv C0 hH hr hlocks (by exact ⟨e_5.1, fun k hk => by rw [e_5.2.1 k hk, if_neg (rg_nIm (by have := hvs.2.1; omega))], e_5.2.2⟩) dX5_take_8
end
