section
-- ===== PART A: goes FIRST, ahead of the names: the tables' words, and 'selects' of the private methods out of them =====
/-- a private method of a class that the tables say can be made, by its rows of tables_1 -/
def lw_okq (q : MethodName × Nat) : Prop := (q.1.cls ≠ "java/lang/invoke/MethodHandle" ∧ q.1.cls ≠ "java/lang/invoke/VarHandle") ∧ Cond.instantiable q.1.cls q.2 ∈ tables_1 ∧ Cond.privateMethod q.1 ∈ tables_1 ∧ Cond.instanceMethod q.1 ∈ tables_1
theorem lw_p0 : lw_okq (⟨"NettedPlans", "planAnew", "(I)Z"⟩, 8) := ⟨⟨by decide +kernel, by decide +kernel⟩, List.mem_of_getElem? (i := 17) (by decide +kernel), List.mem_of_getElem? (i := 195) (by decide +kernel), List.mem_of_getElem? (i := 196) (by decide +kernel)⟩
theorem lw_p1 : lw_okq (⟨"NettedPlans", "collectGross", "(I)V"⟩, 8) := ⟨⟨by decide +kernel, by decide +kernel⟩, List.mem_of_getElem? (i := 17) (by decide +kernel), List.mem_of_getElem? (i := 199) (by decide +kernel), List.mem_of_getElem? (i := 200) (by decide +kernel)⟩
theorem lw_p2 : lw_okq (⟨"NettedPlans", "askForParts", "(II)V"⟩, 8) := ⟨⟨by decide +kernel, by decide +kernel⟩, List.mem_of_getElem? (i := 17) (by decide +kernel), List.mem_of_getElem? (i := 210) (by decide +kernel), List.mem_of_getElem? (i := 211) (by decide +kernel)⟩
theorem lw_p3 : lw_okq (⟨"NettedPlans$Netting", "findNeeds", "(LNettedPlans$Item;[J)V"⟩, 4) := ⟨⟨by decide +kernel, by decide +kernel⟩, List.mem_of_getElem? (i := 81) (by decide +kernel), List.mem_of_getElem? (i := 238) (by decide +kernel), List.mem_of_getElem? (i := 239) (by decide +kernel)⟩
theorem lw_p4 : lw_okq (⟨"NettedPlans$Netting", "findCheapestLots", "(LNettedPlans$Item;)V"⟩, 4) := ⟨⟨by decide +kernel, by decide +kernel⟩, List.mem_of_getElem? (i := 81) (by decide +kernel), List.mem_of_getElem? (i := 245) (by decide +kernel), List.mem_of_getElem? (i := 246) (by decide +kernel)⟩
theorem lw_p5 : lw_okq (⟨"NettedPlans$Netting", "needBefore", "(I)J"⟩, 4) := ⟨⟨by decide +kernel, by decide +kernel⟩, List.mem_of_getElem? (i := 81) (by decide +kernel), List.mem_of_getElem? (i := 249) (by decide +kernel), List.mem_of_getElem? (i := 250) (by decide +kernel)⟩
theorem lw_p6 : lw_okq (⟨"NettedPlans$Netting", "findCheapestLot", "(LNettedPlans$Item;I)V"⟩, 4) := ⟨⟨by decide +kernel, by decide +kernel⟩, List.mem_of_getElem? (i := 81) (by decide +kernel), List.mem_of_getElem? (i := 253) (by decide +kernel), List.mem_of_getElem? (i := 254) (by decide +kernel)⟩
theorem lw_p7 : lw_okq (⟨"NettedPlans$Netting", "lot", "(LNettedPlans$Item;IJ)J"⟩, 4) := ⟨⟨by decide +kernel, by decide +kernel⟩, List.mem_of_getElem? (i := 81) (by decide +kernel), List.mem_of_getElem? (i := 257) (by decide +kernel), List.mem_of_getElem? (i := 258) (by decide +kernel)⟩
theorem lw_p8 : lw_okq (⟨"NettedPlans", "known", "(I)LNettedPlans$Item;"⟩, 8) := ⟨⟨by decide +kernel, by decide +kernel⟩, List.mem_of_getElem? (i := 17) (by decide +kernel), List.mem_of_getElem? (i := 276) (by decide +kernel), List.mem_of_getElem? (i := 277) (by decide +kernel)⟩
theorem lw_p9 : lw_okq (⟨"java/lang/Throwable", "fillInStackTrace", "(I)Ljava/lang/Throwable;"⟩, 6) := ⟨⟨by decide +kernel, by decide +kernel⟩, List.mem_of_getElem? (i := 321) (by decide +kernel), List.mem_of_getElem? (i := 319) (by decide +kernel), List.mem_of_getElem? (i := 320) (by decide +kernel)⟩
theorem lw_p10 : lw_okq (⟨"NettedPlans$Bill", "setLevels", "()V"⟩, 6) := ⟨⟨by decide +kernel, by decide +kernel⟩, List.mem_of_getElem? (i := 27) (by decide +kernel), List.mem_of_getElem? (i := 401) (by decide +kernel), List.mem_of_getElem? (i := 402) (by decide +kernel)⟩
theorem lw_p11 : lw_okq (⟨"NettedPlans$Bill", "highestLevel", "(I)I"⟩, 6) := ⟨⟨by decide +kernel, by decide +kernel⟩, List.mem_of_getElem? (i := 27) (by decide +kernel), List.mem_of_getElem? (i := 405) (by decide +kernel), List.mem_of_getElem? (i := 406) (by decide +kernel)⟩
theorem lw_p12 : lw_okq (⟨"NettedPlans", "tellNew", "(LNettedPlans$Book;III)I"⟩, 8) := ⟨⟨by decide +kernel, by decide +kernel⟩, List.mem_of_getElem? (i := 17) (by decide +kernel), List.mem_of_getElem? (i := 455) (by decide +kernel), List.mem_of_getElem? (i := 456) (by decide +kernel)⟩
theorem lw_p13 : lw_okq (⟨"NettedPlans", "checkPlanned", "()V"⟩, 8) := ⟨⟨by decide +kernel, by decide +kernel⟩, List.mem_of_getElem? (i := 17) (by decide +kernel), List.mem_of_getElem? (i := 512) (by decide +kernel), List.mem_of_getElem? (i := 513) (by decide +kernel)⟩
theorem lw_p14 : lw_okq (⟨"NettedPlans", "isTold", "()Z"⟩, 8) := ⟨⟨by decide +kernel, by decide +kernel⟩, List.mem_of_getElem? (i := 17) (by decide +kernel), List.mem_of_getElem? (i := 516) (by decide +kernel), List.mem_of_getElem? (i := 517) (by decide +kernel)⟩
theorem lw_p15 : lw_okq (⟨"NettedPlans", "pegOfOrder", "(II)J"⟩, 8) := ⟨⟨by decide +kernel, by decide +kernel⟩, List.mem_of_getElem? (i := 17) (by decide +kernel), List.mem_of_getElem? (i := 542) (by decide +kernel), List.mem_of_getElem? (i := 543) (by decide +kernel)⟩
def lw_privs_1 : List (MethodName × Nat) := [(⟨"NettedPlans", "planAnew", "(I)Z"⟩, 8), (⟨"NettedPlans", "collectGross", "(I)V"⟩, 8), (⟨"NettedPlans", "askForParts", "(II)V"⟩, 8), (⟨"NettedPlans$Netting", "findNeeds", "(LNettedPlans$Item;[J)V"⟩, 4), (⟨"NettedPlans$Netting", "findCheapestLots", "(LNettedPlans$Item;)V"⟩, 4), (⟨"NettedPlans$Netting", "needBefore", "(I)J"⟩, 4), (⟨"NettedPlans$Netting", "findCheapestLot", "(LNettedPlans$Item;I)V"⟩, 4), (⟨"NettedPlans$Netting", "lot", "(LNettedPlans$Item;IJ)J"⟩, 4), (⟨"NettedPlans", "known", "(I)LNettedPlans$Item;"⟩, 8), (⟨"java/lang/Throwable", "fillInStackTrace", "(I)Ljava/lang/Throwable;"⟩, 6), (⟨"NettedPlans$Bill", "setLevels", "()V"⟩, 6), (⟨"NettedPlans$Bill", "highestLevel", "(I)I"⟩, 6), (⟨"NettedPlans", "tellNew", "(LNettedPlans$Book;III)I"⟩, 8), (⟨"NettedPlans", "checkPlanned", "()V"⟩, 8), (⟨"NettedPlans", "isTold", "()Z"⟩, 8), (⟨"NettedPlans", "pegOfOrder", "(II)J"⟩, 8)]
theorem lw_r1 : ∀ q ∈ lw_privs_1, lw_okq q := List.forall_mem_cons.mpr ⟨lw_p0, List.forall_mem_cons.mpr ⟨lw_p1, List.forall_mem_cons.mpr ⟨lw_p2, List.forall_mem_cons.mpr ⟨lw_p3, List.forall_mem_cons.mpr ⟨lw_p4, List.forall_mem_cons.mpr ⟨lw_p5, List.forall_mem_cons.mpr ⟨lw_p6, List.forall_mem_cons.mpr ⟨lw_p7, List.forall_mem_cons.mpr ⟨lw_p8, List.forall_mem_cons.mpr ⟨lw_p9, List.forall_mem_cons.mpr ⟨lw_p10, List.forall_mem_cons.mpr ⟨lw_p11, List.forall_mem_cons.mpr ⟨lw_p12, List.forall_mem_cons.mpr ⟨lw_p13, List.forall_mem_cons.mpr ⟨lw_p14, List.forall_mem_cons.mpr ⟨lw_p15, fun _ h => absurd h List.not_mem_nil⟩⟩⟩⟩⟩⟩⟩⟩⟩⟩⟩⟩⟩⟩⟩⟩
theorem lw_p16 : lw_okq (⟨"NettedPlans", "pegOfUnits", "(IJJ)J"⟩, 8) := ⟨⟨by decide +kernel, by decide +kernel⟩, List.mem_of_getElem? (i := 17) (by decide +kernel), List.mem_of_getElem? (i := 557) (by decide +kernel), List.mem_of_getElem? (i := 558) (by decide +kernel)⟩
theorem lw_p17 : lw_okq (⟨"NettedPlans", "pegOfReceipt", "(II)J"⟩, 8) := ⟨⟨by decide +kernel, by decide +kernel⟩, List.mem_of_getElem? (i := 17) (by decide +kernel), List.mem_of_getElem? (i := 565) (by decide +kernel), List.mem_of_getElem? (i := 566) (by decide +kernel)⟩
theorem lw_p18 : lw_okq (⟨"NettedPlans", "leastTrueWeek", "(III)I"⟩, 8) := ⟨⟨by decide +kernel, by decide +kernel⟩, List.mem_of_getElem? (i := 17) (by decide +kernel), List.mem_of_getElem? (i := 576) (by decide +kernel), List.mem_of_getElem? (i := 577) (by decide +kernel)⟩
theorem lw_p19 : lw_okq (⟨"NettedPlans", "itemsRunShort", "()I"⟩, 8) := ⟨⟨by decide +kernel, by decide +kernel⟩, List.mem_of_getElem? (i := 17) (by decide +kernel), List.mem_of_getElem? (i := 608) (by decide +kernel), List.mem_of_getElem? (i := 609) (by decide +kernel)⟩
theorem lw_p20 : lw_okq (⟨"NettedPlansModel", "refused", "(I)Z"⟩, 27) := ⟨⟨by decide +kernel, by decide +kernel⟩, List.mem_of_getElem? (i := 616) (by decide +kernel), List.mem_of_getElem? (i := 719) (by decide +kernel), List.mem_of_getElem? (i := 720) (by decide +kernel)⟩
theorem lw_p21 : lw_okq (⟨"NettedPlansModel", "tell", "(I)V"⟩, 27) := ⟨⟨by decide +kernel, by decide +kernel⟩, List.mem_of_getElem? (i := 616) (by decide +kernel), List.mem_of_getElem? (i := 723) (by decide +kernel), List.mem_of_getElem? (i := 724) (by decide +kernel)⟩
theorem lw_p22 : lw_okq (⟨"NettedPlansModel", "setLine", "(IIII)V"⟩, 27) := ⟨⟨by decide +kernel, by decide +kernel⟩, List.mem_of_getElem? (i := 616) (by decide +kernel), List.mem_of_getElem? (i := 740) (by decide +kernel), List.mem_of_getElem? (i := 741) (by decide +kernel)⟩
theorem lw_p23 : lw_okq (⟨"NettedPlansModel", "isSound", "()Z"⟩, 27) := ⟨⟨by decide +kernel, by decide +kernel⟩, List.mem_of_getElem? (i := 616) (by decide +kernel), List.mem_of_getElem? (i := 744) (by decide +kernel), List.mem_of_getElem? (i := 745) (by decide +kernel)⟩
theorem lw_p24 : lw_okq (⟨"NettedPlansModel", "levelOf", "(I)I"⟩, 27) := ⟨⟨by decide +kernel, by decide +kernel⟩, List.mem_of_getElem? (i := 616) (by decide +kernel), List.mem_of_getElem? (i := 748) (by decide +kernel), List.mem_of_getElem? (i := 749) (by decide +kernel)⟩
theorem lw_p25 : lw_okq (⟨"NettedPlansModel", "addTold", "(IIII)I"⟩, 27) := ⟨⟨by decide +kernel, by decide +kernel⟩, List.mem_of_getElem? (i := 616) (by decide +kernel), List.mem_of_getElem? (i := 760) (by decide +kernel), List.mem_of_getElem? (i := 761) (by decide +kernel)⟩
theorem lw_p26 : lw_okq (⟨"NettedPlansModel", "add", "(IIII)I"⟩, 27) := ⟨⟨by decide +kernel, by decide +kernel⟩, List.mem_of_getElem? (i := 616) (by decide +kernel), List.mem_of_getElem? (i := 764) (by decide +kernel), List.mem_of_getElem? (i := 765) (by decide +kernel)⟩
theorem lw_p27 : lw_okq (⟨"NettedPlansModel", "net", "(I)Z"⟩, 27) := ⟨⟨by decide +kernel, by decide +kernel⟩, List.mem_of_getElem? (i := 616) (by decide +kernel), List.mem_of_getElem? (i := 780) (by decide +kernel), List.mem_of_getElem? (i := 781) (by decide +kernel)⟩
theorem lw_p28 : lw_okq (⟨"NettedPlansModel", "grossOf", "(II)J"⟩, 27) := ⟨⟨by decide +kernel, by decide +kernel⟩, List.mem_of_getElem? (i := 616) (by decide +kernel), List.mem_of_getElem? (i := 784) (by decide +kernel), List.mem_of_getElem? (i := 785) (by decide +kernel)⟩
theorem lw_p29 : lw_okq (⟨"NettedPlansModel", "sumOf", "(III)J"⟩, 27) := ⟨⟨by decide +kernel, by decide +kernel⟩, List.mem_of_getElem? (i := 616) (by decide +kernel), List.mem_of_getElem? (i := 788) (by decide +kernel), List.mem_of_getElem? (i := 789) (by decide +kernel)⟩
theorem lw_p30 : lw_okq (⟨"NettedPlansModel", "asks", "(II)J"⟩, 27) := ⟨⟨by decide +kernel, by decide +kernel⟩, List.mem_of_getElem? (i := 616) (by decide +kernel), List.mem_of_getElem? (i := 792) (by decide +kernel), List.mem_of_getElem? (i := 793) (by decide +kernel)⟩
theorem lw_p31 : lw_okq (⟨"NettedPlansModel", "plan", "(I)V"⟩, 27) := ⟨⟨by decide +kernel, by decide +kernel⟩, List.mem_of_getElem? (i := 616) (by decide +kernel), List.mem_of_getElem? (i := 798) (by decide +kernel), List.mem_of_getElem? (i := 799) (by decide +kernel)⟩
def lw_privs_2 : List (MethodName × Nat) := [(⟨"NettedPlans", "pegOfUnits", "(IJJ)J"⟩, 8), (⟨"NettedPlans", "pegOfReceipt", "(II)J"⟩, 8), (⟨"NettedPlans", "leastTrueWeek", "(III)I"⟩, 8), (⟨"NettedPlans", "itemsRunShort", "()I"⟩, 8), (⟨"NettedPlansModel", "refused", "(I)Z"⟩, 27), (⟨"NettedPlansModel", "tell", "(I)V"⟩, 27), (⟨"NettedPlansModel", "setLine", "(IIII)V"⟩, 27), (⟨"NettedPlansModel", "isSound", "()Z"⟩, 27), (⟨"NettedPlansModel", "levelOf", "(I)I"⟩, 27), (⟨"NettedPlansModel", "addTold", "(IIII)I"⟩, 27), (⟨"NettedPlansModel", "add", "(IIII)I"⟩, 27), (⟨"NettedPlansModel", "net", "(I)Z"⟩, 27), (⟨"NettedPlansModel", "grossOf", "(II)J"⟩, 27), (⟨"NettedPlansModel", "sumOf", "(III)J"⟩, 27), (⟨"NettedPlansModel", "asks", "(II)J"⟩, 27), (⟨"NettedPlansModel", "plan", "(I)V"⟩, 27)]
theorem lw_r2 : ∀ q ∈ lw_privs_2, lw_okq q := List.forall_mem_cons.mpr ⟨lw_p16, List.forall_mem_cons.mpr ⟨lw_p17, List.forall_mem_cons.mpr ⟨lw_p18, List.forall_mem_cons.mpr ⟨lw_p19, List.forall_mem_cons.mpr ⟨lw_p20, List.forall_mem_cons.mpr ⟨lw_p21, List.forall_mem_cons.mpr ⟨lw_p22, List.forall_mem_cons.mpr ⟨lw_p23, List.forall_mem_cons.mpr ⟨lw_p24, List.forall_mem_cons.mpr ⟨lw_p25, List.forall_mem_cons.mpr ⟨lw_p26, List.forall_mem_cons.mpr ⟨lw_p27, List.forall_mem_cons.mpr ⟨lw_p28, List.forall_mem_cons.mpr ⟨lw_p29, List.forall_mem_cons.mpr ⟨lw_p30, List.forall_mem_cons.mpr ⟨lw_p31, fun _ h => absurd h List.not_mem_nil⟩⟩⟩⟩⟩⟩⟩⟩⟩⟩⟩⟩⟩⟩⟩⟩
theorem lw_p32 : lw_okq (⟨"NettedPlansModel", "findNeeds", "(I)V"⟩, 27) := ⟨⟨by decide +kernel, by decide +kernel⟩, List.mem_of_getElem? (i := 616) (by decide +kernel), List.mem_of_getElem? (i := 802) (by decide +kernel), List.mem_of_getElem? (i := 803) (by decide +kernel)⟩
theorem lw_p33 : lw_okq (⟨"NettedPlansModel", "bare", "(II)J"⟩, 27) := ⟨⟨by decide +kernel, by decide +kernel⟩, List.mem_of_getElem? (i := 616) (by decide +kernel), List.mem_of_getElem? (i := 806) (by decide +kernel), List.mem_of_getElem? (i := 807) (by decide +kernel)⟩
theorem lw_p34 : lw_okq (⟨"NettedPlansModel", "findBest", "(I)V"⟩, 27) := ⟨⟨by decide +kernel, by decide +kernel⟩, List.mem_of_getElem? (i := 616) (by decide +kernel), List.mem_of_getElem? (i := 813) (by decide +kernel), List.mem_of_getElem? (i := 814) (by decide +kernel)⟩
theorem lw_p35 : lw_okq (⟨"NettedPlansModel", "lastOf", "(II)I"⟩, 27) := ⟨⟨by decide +kernel, by decide +kernel⟩, List.mem_of_getElem? (i := 616) (by decide +kernel), List.mem_of_getElem? (i := 817) (by decide +kernel), List.mem_of_getElem? (i := 818) (by decide +kernel)⟩
theorem lw_p36 : lw_okq (⟨"NettedPlansModel", "cost", "(III)J"⟩, 27) := ⟨⟨by decide +kernel, by decide +kernel⟩, List.mem_of_getElem? (i := 616) (by decide +kernel), List.mem_of_getElem? (i := 821) (by decide +kernel), List.mem_of_getElem? (i := 822) (by decide +kernel)⟩
theorem lw_p37 : lw_okq (⟨"NettedPlansModel", "needOf", "(I)J"⟩, 27) := ⟨⟨by decide +kernel, by decide +kernel⟩, List.mem_of_getElem? (i := 616) (by decide +kernel), List.mem_of_getElem? (i := 825) (by decide +kernel), List.mem_of_getElem? (i := 826) (by decide +kernel)⟩
theorem lw_p38 : lw_okq (⟨"NettedPlansModel", "lot", "(IIJ)J"⟩, 27) := ⟨⟨by decide +kernel, by decide +kernel⟩, List.mem_of_getElem? (i := 616) (by decide +kernel), List.mem_of_getElem? (i := 829) (by decide +kernel), List.mem_of_getElem? (i := 830) (by decide +kernel)⟩
theorem lw_p39 : lw_okq (⟨"NettedPlansModel", "isWrong", "(II)Z"⟩, 27) := ⟨⟨by decide +kernel, by decide +kernel⟩, List.mem_of_getElem? (i := 616) (by decide +kernel), List.mem_of_getElem? (i := 841) (by decide +kernel), List.mem_of_getElem? (i := 842) (by decide +kernel)⟩
theorem lw_p40 : lw_okq (⟨"NettedPlansModel", "supplied", "(III)J"⟩, 27) := ⟨⟨by decide +kernel, by decide +kernel⟩, List.mem_of_getElem? (i := 616) (by decide +kernel), List.mem_of_getElem? (i := 857) (by decide +kernel), List.mem_of_getElem? (i := 858) (by decide +kernel)⟩
theorem lw_p41 : lw_okq (⟨"NettedPlansModel", "isTrue", "(III)Z"⟩, 27) := ⟨⟨by decide +kernel, by decide +kernel⟩, List.mem_of_getElem? (i := 616) (by decide +kernel), List.mem_of_getElem? (i := 865) (by decide +kernel), List.mem_of_getElem? (i := 866) (by decide +kernel)⟩
theorem lw_p42 : lw_okq (⟨"NettedPlansModel", "shortItems", "()I"⟩, 27) := ⟨⟨by decide +kernel, by decide +kernel⟩, List.mem_of_getElem? (i := 616) (by decide +kernel), List.mem_of_getElem? (i := 885) (by decide +kernel), List.mem_of_getElem? (i := 886) (by decide +kernel)⟩
def lw_privs_3 : List (MethodName × Nat) := [(⟨"NettedPlansModel", "findNeeds", "(I)V"⟩, 27), (⟨"NettedPlansModel", "bare", "(II)J"⟩, 27), (⟨"NettedPlansModel", "findBest", "(I)V"⟩, 27), (⟨"NettedPlansModel", "lastOf", "(II)I"⟩, 27), (⟨"NettedPlansModel", "cost", "(III)J"⟩, 27), (⟨"NettedPlansModel", "needOf", "(I)J"⟩, 27), (⟨"NettedPlansModel", "lot", "(IIJ)J"⟩, 27), (⟨"NettedPlansModel", "isWrong", "(II)Z"⟩, 27), (⟨"NettedPlansModel", "supplied", "(III)J"⟩, 27), (⟨"NettedPlansModel", "isTrue", "(III)Z"⟩, 27), (⟨"NettedPlansModel", "shortItems", "()I"⟩, 27)]
theorem lw_r3 : ∀ q ∈ lw_privs_3, lw_okq q := List.forall_mem_cons.mpr ⟨lw_p32, List.forall_mem_cons.mpr ⟨lw_p33, List.forall_mem_cons.mpr ⟨lw_p34, List.forall_mem_cons.mpr ⟨lw_p35, List.forall_mem_cons.mpr ⟨lw_p36, List.forall_mem_cons.mpr ⟨lw_p37, List.forall_mem_cons.mpr ⟨lw_p38, List.forall_mem_cons.mpr ⟨lw_p39, List.forall_mem_cons.mpr ⟨lw_p40, List.forall_mem_cons.mpr ⟨lw_p41, List.forall_mem_cons.mpr ⟨lw_p42, fun _ h => absurd h List.not_mem_nil⟩⟩⟩⟩⟩⟩⟩⟩⟩⟩⟩
def lw_privs : List (MethodName × Nat) := lw_privs_1 ++ (lw_privs_2 ++ (lw_privs_3))
def lw_tbl : List Cond := k2_sels lw_privs ++ tables_1
theorem lw_privs_ok : ∀ q ∈ lw_privs, lw_okq q := by
  show ∀ q ∈ lw_privs_1 ++ (lw_privs_2 ++ (lw_privs_3)), lw_okq q
  exact List.forall_mem_append.mpr ⟨lw_r1, List.forall_mem_append.mpr ⟨lw_r2, lw_r3⟩⟩
-- ===== end of PART A; then your names; then what follows =====
end
section
-- the tables of this class, reference and law: by program out of the Statement and the listing
def RN (o : Nat) : String := ["NettedPlans$Bill", "NettedPlans$Book", "NettedPlans$Item", "NettedPlans$Netting", "NettedPlans", "NettedPlansModel", "NettedPlansLaw", "java/util/Arrays"].getD o ""
def TT0 : u_T := fun k => [("NettedPlans$Bill", "per", "[I", true), ("NettedPlans$Bill", "from", "[I", true), ("NettedPlans$Bill", "to", "[I", true), ("NettedPlans$Bill", "levels", "[I", true), ("NettedPlans$Bill", "trial", "[I", true), ("NettedPlans$Bill", "lines", "I", false)].getD k ("", "", "", false)
def ty0 : Nat → FieldType := fun k => [.array .int, .array .int, .array .int, .array .int, .array .int, .int].getD k .int
def TT1 : u_T := fun k => [("NettedPlans$Book", "items", "[I", true), ("NettedPlans$Book", "weeks", "[I", true), ("NettedPlans$Book", "quantities", "[I", true), ("NettedPlans$Book", "size", "I", false)].getD k ("", "", "", false)
def ty1 : Nat → FieldType := fun k => [.array .int, .array .int, .array .int, .int].getD k .int
def TT2 : u_T := fun k => [("NettedPlans$Item", "rule", "I", false), ("NettedPlans$Item", "size", "I", false), ("NettedPlans$Item", "lead", "I", false), ("NettedPlans$Item", "safety", "I", false), ("NettedPlans$Item", "scrap", "I", false), ("NettedPlans$Item", "setup", "I", false), ("NettedPlans$Item", "hold", "I", false), ("NettedPlans$Item", "stock", "I", false), ("NettedPlans$Item", "centre", "I", false), ("NettedPlans$Item", "hours", "I", false), ("NettedPlans$Item", "told", "Z", false), ("NettedPlans$Item", "gross", "[J", true), ("NettedPlans$Item", "planned", "[J", true), ("NettedPlans$Item", "balance", "[J", true)].getD k ("", "", "", false)
def ty2 : Nat → FieldType := fun k => [.int, .int, .int, .int, .int, .int, .int, .int, .int, .int, .boolean, .array .long, .array .long, .array .long].getD k .int
def TT3 : u_T := fun k => [("NettedPlans$Netting", "bare", "[J", true), ("NettedPlans$Netting", "need", "[J", true), ("NettedPlans$Netting", "best", "[J", true), ("NettedPlans$Netting", "lastOfLot", "[I", true)].getD k ("", "", "", false)
def ty3 : Nat → FieldType := fun k => [.array .long, .array .long, .array .long, .array .int].getD k .int
def TT4 : u_T := fun k => [("NettedPlans", "items", "[LNettedPlans$Item;", true), ("NettedPlans", "bill", "LNettedPlans$Bill;", true), ("NettedPlans", "demands", "LNettedPlans$Book;", true), ("NettedPlans", "orders", "LNettedPlans$Book;", true), ("NettedPlans", "reservations", "LNettedPlans$Book;", true), ("NettedPlans", "netting", "LNettedPlans$Netting;", true), ("NettedPlans", "asked", "[J", true), ("NettedPlans", "brought", "[J", true)].getD k ("", "", "", false)
def ty4 : Nat → FieldType := fun k => [.array (.object "NettedPlans$Item"), .object "NettedPlans$Bill", .object "NettedPlans$Book", .object "NettedPlans$Book", .object "NettedPlans$Book", .object "NettedPlans$Netting", .array .long, .array .long].getD k .int
def TT5 : u_T := fun k => [("NettedPlansModel", "fault", "I", false), ("NettedPlansModel", "rule", "[I", true), ("NettedPlansModel", "size", "[I", true), ("NettedPlansModel", "lead", "[I", true), ("NettedPlansModel", "safety", "[I", true), ("NettedPlansModel", "scrap", "[I", true), ("NettedPlansModel", "setup", "[I", true), ("NettedPlansModel", "hold", "[I", true), ("NettedPlansModel", "stock", "[I", true), ("NettedPlansModel", "centre", "[I", true), ("NettedPlansModel", "hours", "[I", true), ("NettedPlansModel", "per", "[I", true), ("NettedPlansModel", "from", "[I", true), ("NettedPlansModel", "to", "[I", true), ("NettedPlansModel", "lines", "I", false), ("NettedPlansModel", "counts", "[I", true), ("NettedPlansModel", "itemOf", "[I", true), ("NettedPlansModel", "weekOf", "[I", true), ("NettedPlansModel", "many", "[I", true), ("NettedPlansModel", "isPlanned", "Z", false), ("NettedPlansModel", "isTold", "Z", false), ("NettedPlansModel", "told", "[Z", true), ("NettedPlansModel", "gross", "[J", true), ("NettedPlansModel", "planned", "[J", true), ("NettedPlansModel", "fresh", "[J", true), ("NettedPlansModel", "need", "[J", true), ("NettedPlansModel", "best", "[J", true)].getD k ("", "", "", false)
def ty5 : Nat → FieldType := fun k => [.int, .array .int, .array .int, .array .int, .array .int, .array .int, .array .int, .array .int, .array .int, .array .int, .array .int, .array .int, .array .int, .array .int, .int, .array .int, .array .int, .array .int, .array .int, .boolean, .boolean, .array .boolean, .array .long, .array .long, .array .long, .array .long, .array .long].getD k .int
abbrev vwCl : List vw_C := [(RN 0, TT0, 6), (RN 1, TT1, 4), (RN 2, TT2, 14), (RN 3, TT3, 4), (RN 4, TT4, 8), (RN 5, TT5, 27)]
def fn (ci : Nat) : Nat := [6, 4, 14, 4, 8, 27].getD ci 0
def ftk (ci j : Nat) : Nat := ([[2, 2, 2, 2, 2, 0], [2, 2, 2, 0], [0, 0, 0, 0, 0, 0, 0, 0, 0, 0, 3, 2, 2, 2], [2, 2, 2, 2], [2, 2, 2, 2, 2, 2, 2, 2], [0, 2, 2, 2, 2, 2, 2, 2, 2, 2, 2, 2, 2, 2, 0, 2, 2, 2, 2, 3, 3, 2, 2, 2, 2, 2, 2]].getD ci []).getD j 2
def ffn (ci j : Nat) : Bool := ([[true, true, true, true, true, false], [true, true, true, false], [false, false, false, false, false, false, false, false, false, false, false, true, true, true], [true, true, true, true], [true, true, true, true, true, true, true, true], [false, true, true, true, true, true, true, true, true, true, true, true, true, true, false, true, true, true, true, false, false, true, true, true, true, true, true]].getD ci []).getD j true
abbrev itN : String := "NettedPlans$Item"
def kd (t : Nat) : Nat × Nat := [(3, 4), (2, 12), (3, 0), (0, 144), (0, 144), (0, 144), (0, 12), (0, 12), (3, 1), (0, 24), (0, 24), (0, 24), (3, 3), (1, 12), (1, 12), (1, 13), (0, 12), (1, 12), (1, 12), (3, 2), (1, 12), (1, 12), (1, 12), (3, 5), (0, 12), (0, 12), (0, 12), (0, 12), (0, 12), (0, 12), (0, 12), (0, 12), (0, 12), (0, 12), (0, 144), (0, 144), (0, 144), (0, 3), (0, 72), (0, 72), (0, 72), (4, 12), (1, 144), (1, 144), (1, 12), (1, 13), (1, 13), (1, 1)].getD t (9, 0)
def ct (t : Nat) : Nat := [1, 1, 1, 1, 1, 1, 1, 1, 3, 3, 3, 3, 1, 1, 1, 1, 1, 1, 1, 12, 12, 12, 12, 1, 1, 1, 1, 1, 1, 1, 1, 1, 1, 1, 1, 1, 1, 1, 1, 1, 1, 1, 1, 1, 1, 1, 1, 1].getD t 0
abbrev NN : Nat := 100
def od (t i : Nat) : Nat := if t < 8 then t else if t < 12 then t + 4 * i else if t < 19 then t + 8 else if t < 23 then t + 8 + 4 * i else t + 52
def ky (k : Nat) : Nat × Nat := if k < 8 then (k, 0) else if k < 20 then (8 + (k - 8) % 4, (k - 8) / 4) else if k < 27 then (k - 8, 0) else if k < 75 then (19 + (k - 27) % 4, (k - 27) / 4) else (k - 52, 0)
theorem ct_le {t i : Nat} (h : i < ct t) : t < 48 ∧ i < 12 := by
  have h1 : t < 48 := by
    rcases Nat.lt_or_ge t 48 with q | q
    · exact q
    · exfalso
      unfold ct at h
      rw [List.getD_eq_getElem?_getD, List.getElem?_eq_none (by simpa using q)] at h
      exact absurd h (Nat.not_lt_zero _)
  refine ⟨h1, ?_⟩
  have h2 : ∀ t, t < 48 → ct t ≤ 12 := by decide +kernel
  exact Nat.lt_of_lt_of_le h (h2 t h1)
theorem ky_od {t i : Nat} (h : i < ct t) : ky (od t i) = (t, i) := by
  obtain ⟨h1, h2⟩ := ct_le h
  have h3 : ∀ t, t < 48 → ∀ i, i < 12 → i < ct t → ky (od t i) = (t, i) := by decide +kernel
  exact h3 t h1 i h2 h
theorem od_lt {t i : Nat} (h : i < ct t) : od t i < NN := by
  obtain ⟨h1, h2⟩ := ct_le h
  have h3 : ∀ t, t < 48 → ∀ i, i < 12 → i < ct t → od t i < NN := by decide +kernel
  exact h3 t h1 i h2 h
theorem od_ky {k : Nat} (h : k < NN) : od (ky k).1 (ky k).2 = k := by
  have h3 : ∀ k, k < NN → od (ky k).1 (ky k).2 = k := by decide +kernel
  exact h3 k h
theorem kd_sm (t : Nat) : (kd t).2 < 2 ^ 31 := by
  rcases Nat.lt_or_ge t 48 with q | q
  · have h3 : ∀ t, t < 48 → (kd t).2 < 2 ^ 31 := by decide +kernel
    exact h3 t q
  · unfold kd
    rw [List.getD_eq_getElem?_getD, List.getElem?_eq_none (by simpa using q)]
    decide
def Fx (t i j : Nat) : Option (Nat × Nat) := match t with
  | 0 => (match j with
    | 0 => some (1, 0)
    | 1 => some (2, 0)
    | 2 => some (8, 0)
    | 3 => some (8, 1)
    | 4 => some (8, 2)
    | 5 => some (12, 0)
    | 6 => some (17, 0)
    | 7 => some (18, 0)
    | _ => none)
  | 1 => some (19, j)
  | 2 => (match j with
    | 0 => some (3, 0)
    | 1 => some (4, 0)
    | 2 => some (5, 0)
    | 3 => some (6, 0)
    | 4 => some (7, 0)
    | _ => none)
  | 8 => (match j with
    | 0 => some (9, i)
    | 1 => some (10, i)
    | 2 => some (11, i)
    | _ => none)
  | 12 => (match j with
    | 0 => some (13, 0)
    | 1 => some (14, 0)
    | 2 => some (15, 0)
    | 3 => some (16, 0)
    | _ => none)
  | 19 => (match j with
    | 11 => some (20, i)
    | 12 => some (21, i)
    | 13 => some (22, i)
    | _ => none)
  | 23 => (match j with
    | 1 => some (24, 0)
    | 2 => some (25, 0)
    | 3 => some (26, 0)
    | 4 => some (27, 0)
    | 5 => some (28, 0)
    | 6 => some (29, 0)
    | 7 => some (30, 0)
    | 8 => some (31, 0)
    | 9 => some (32, 0)
    | 10 => some (33, 0)
    | 11 => some (34, 0)
    | 12 => some (35, 0)
    | 13 => some (36, 0)
    | 15 => some (37, 0)
    | 16 => some (38, 0)
    | 17 => some (39, 0)
    | 18 => some (40, 0)
    | 21 => some (41, 0)
    | 22 => some (42, 0)
    | 23 => some (43, 0)
    | 24 => some (44, 0)
    | 25 => some (45, 0)
    | 26 => some (46, 0)
    | _ => none)
  | _ => none
def mo (k : Nat) : Nat := [4, 0, 1, 3, 2, 4, 4, 4, 7, 1, 4, 0, 2, 2, 2, 3, 3, 3, 3, 3, 3, 3, 6, 4, 4, 4, 4, 6, 4, 6, 4, 4, 6, 4, 0, 0, 0, 7, 0, 0, 6, 4, 6, 4, 4, 4, 4, 1, 1, 6, 4, 4, 1, 6, 4, 6, 4, 6, 4, 4, 4, 6, 4, 6, 4, 6, 4, 4, 1, 1, 4, 4, 4, 6, 4, 4, 6, 4, 6, 4, 6, 4, 6, 4, 4, 2, 5, 5, 5, 5, 5, 5, 5, 5, 5, 5, 5, 5, 5, 5, 5, 5, 5, 5, 5, 5, 5, 5, 5, 5, 5, 5, 5, 5, 5, 5, 5, 5, 5, 5, 5, 5, 5, 5, 5, 5, 5, 5, 5, 5, 5, 5, 5, 6].getD k 0
def nm (k : Nat) : String := ["<init>", "<init>", "<init>", "<init>", "<init>", "replan", "planAnew", "collectGross", "fill", "addTo", "askForParts", "place", "startedIn", "withScrap", "hasGross", "net", "findNeeds", "findCheapestLots", "needBefore", "findCheapestLot", "lot", "leastMultiple", "item", "item", "known", "checkItem", "checkRange", "costs", "costs", "made", "made", "checkCentre", "line", "line", "drop", "setLevels", "highestLevel", "fill", "fits", "put", "stock", "stock", "demand", "demand", "tellNew", "checkWeek", "checkRoom", "isFull", "add", "change", "change", "checkNumber", "exchange", "order", "order", "level", "level", "gross", "gross", "checkPlanned", "isTold", "planned", "planned", "balance", "balance", "peg", "peg", "pegOfOrder", "upTo", "ahead", "sumUpTo", "pegOfUnits", "pegOfReceipt", "promise", "promise", "leastTrueWeek", "reserve", "reserve", "giveBack", "giveBack", "load", "load", "count", "count", "itemsRunShort", "runsShort", "<init>", "thrown", "item", "isIn", "isTwelve", "refused", "tell", "costs", "made", "line", "setLine", "isSound", "levelOf", "stock", "demand", "addTold", "add", "order", "change", "replan", "net", "grossOf", "sumOf", "asks", "plan", "findNeeds", "bare", "upTo", "findBest", "lastOf", "cost", "needOf", "lot", "level", "gross", "isWrong", "planned", "balance", "peg", "supplied", "promise", "isTrue", "reserve", "giveBack", "load", "count", "shortItems", "law"].getD k ""
def ds (k : Nat) : String := ["()V", "()V", "()V", "()V", "()V", "()I", "(I)Z", "(I)V", "([JJ)V", "([JI)V", "(II)V", "(II)I", "(I)J", "(J)J", "([J)Z", "(LNettedPlans$Item;[J)V", "(LNettedPlans$Item;[J)V", "(LNettedPlans$Item;)V", "(I)J", "(LNettedPlans$Item;I)V", "(LNettedPlans$Item;IJ)J", "(IJ)J", "(LNettedPlans;IIIII)I", "(IIIII)V", "(I)LNettedPlans$Item;", "(I)V", "(III)V", "(LNettedPlans;IIII)I", "(IIII)V", "(LNettedPlans;III)I", "(III)V", "(I)V", "(LNettedPlans;IIIII)I", "(IIIII)V", "(I)V", "()V", "(I)I", "([II)V", "(I)Z", "(IIII)V", "(LNettedPlans;II[J)I", "(II)I", "(LNettedPlans;III[J)I", "(III)I", "(LNettedPlans$Book;III)I", "(I)V", "(LNettedPlans$Book;)V", "()Z", "(III)I", "(LNettedPlans;III[J)I", "(III)I", "(LNettedPlans$Book;I)V", "(II)I", "(LNettedPlans;III[J)I", "(III)I", "(LNettedPlans;I[J)I", "(I)I", "(LNettedPlans;II[J)I", "(II)J", "()V", "()Z", "(LNettedPlans;II[J)I", "(II)J", "(LNettedPlans;II[J)I", "(II)J", "(LNettedPlans;III[J)I", "(III)J", "(II)J", "(II)J", "(I)J", "([JI)J", "(IJJ)J", "(II)J", "(LNettedPlans;III[J)I", "(III)I", "(III)I", "(LNettedPlans;III[J)I", "(III)I", "(LNettedPlans;I[J)I", "(I)I", "(LNettedPlans;II[J)I", "(II)J", "(LNettedPlans;I[J)I", "(I)I", "()I", "()Z", "()V", "()I", "(IIIII)V", "(III)Z", "(I)Z", "(I)Z", "(I)V", "(IIII)V", "(III)V", "(IIIII)V", "(IIII)V", "()Z", "(I)I", "(II)I", "(III)I", "(IIII)I", "(IIII)I", "(III)I", "(III)I", "()I", "(I)Z", "(II)J", "(III)J", "(II)J", "(I)V", "(I)V", "(II)J", "([JII)J", "(I)V", "(II)I", "(III)J", "(I)J", "(IIJ)J", "(I)I", "(II)J", "(II)Z", "(II)J", "(II)J", "(III)J", "(III)J", "(III)I", "(III)Z", "(III)I", "(I)I", "(II)J", "(I)I", "()I", "([I)Z"].getD k ""
def yn (k : Nat) : MethodName := ⟨RN (mo k), nm k, ds k⟩
abbrev own (k : Nat) : String := RN (mo k)
def cc (k : Nat) : ByteArray := [prog_1_method_1_code, prog_2_method_1_code, prog_3_method_1_code, prog_5_method_1_code, prog_4_method_1_code, prog_1_method_10_code, prog_1_method_31_code, prog_1_method_32_code, prog_17_method_101_code, prog_3_method_5_code, prog_1_method_33_code, prog_2_method_2_code, prog_4_method_2_code, prog_4_method_3_code, prog_4_method_4_code, prog_5_method_2_code, prog_5_method_3_code, prog_5_method_6_code, prog_5_method_7_code, prog_5_method_8_code, prog_5_method_4_code, prog_5_method_5_code, method_3_code, prog_1_method_2_code, prog_1_method_22_code, prog_1_method_21_code, prog_1_method_26_code, method_4_code, prog_1_method_3_code, method_5_code, prog_1_method_4_code, prog_1_method_24_code, method_6_code, prog_1_method_5_code, prog_2_method_5_code, prog_2_method_6_code, prog_2_method_7_code, prog_17_method_103_code, prog_2_method_3_code, prog_2_method_4_code, method_7_code, prog_1_method_6_code, method_8_code, prog_1_method_7_code, prog_1_method_30_code, prog_1_method_23_code, prog_1_method_27_code, prog_3_method_2_code, prog_3_method_3_code, method_9_code, prog_1_method_8_code, prog_1_method_25_code, prog_3_method_4_code, method_10_code, prog_1_method_9_code, method_11_code, prog_1_method_11_code, method_12_code, prog_1_method_12_code, prog_1_method_28_code, prog_1_method_29_code, method_13_code, prog_1_method_13_code, method_14_code, prog_1_method_14_code, method_15_code, prog_1_method_15_code, prog_1_method_34_code, prog_3_method_6_code, prog_3_method_7_code, prog_1_method_37_code, prog_1_method_36_code, prog_1_method_35_code, method_16_code, prog_1_method_16_code, prog_1_method_38_code, method_17_code, prog_1_method_17_code, method_18_code, prog_1_method_18_code, method_19_code, prog_1_method_19_code, method_20_code, prog_1_method_20_code, prog_1_method_39_code, prog_4_method_5_code, prog_7_method_1_code, prog_7_method_2_code, prog_7_method_7_code, prog_7_method_4_code, prog_7_method_5_code, prog_7_method_3_code, prog_7_method_6_code, prog_7_method_8_code, prog_7_method_9_code, prog_7_method_13_code, prog_7_method_12_code, prog_7_method_11_code, prog_7_method_10_code, prog_7_method_14_code, prog_7_method_17_code, prog_7_method_16_code, prog_7_method_15_code, prog_7_method_18_code, prog_7_method_19_code, prog_7_method_33_code, prog_7_method_32_code, prog_7_method_24_code, prog_7_method_20_code, prog_7_method_23_code, prog_7_method_31_code, prog_7_method_25_code, prog_7_method_22_code, prog_7_method_21_code, prog_7_method_29_code, prog_7_method_28_code, prog_7_method_27_code, prog_7_method_26_code, prog_7_method_30_code, prog_7_method_34_code, prog_7_method_36_code, prog_7_method_35_code, prog_7_method_37_code, prog_7_method_38_code, prog_7_method_40_code, prog_7_method_39_code, prog_7_method_42_code, prog_7_method_41_code, prog_7_method_43_code, prog_7_method_44_code, prog_7_method_45_code, prog_7_method_47_code, prog_7_method_46_code, code].getD k ⟨#[]⟩
def mL (k : Nat) : Nat := [2, 1, 1, 1, 1, 4, 3, 3, 5, 4, 6, 2, 3, 3, 3, 6, 8, 3, 2, 8, 5, 3, 7, 7, 2, 1, 3, 6, 6, 5, 5, 1, 7, 8, 2, 1, 7, 4, 2, 5, 5, 5, 6, 4, 6, 1, 1, 1, 4, 6, 5, 2, 4, 6, 4, 4, 2, 5, 4, 1, 2, 5, 4, 5, 4, 6, 4, 7, 6, 5, 5, 12, 6, 6, 4, 6, 6, 4, 4, 2, 5, 6, 4, 2, 3, 2, 2, 1, 7, 3, 1, 2, 2, 6, 4, 11, 5, 3, 7, 4, 4, 5, 6, 4, 7, 4, 4, 6, 7, 8, 7, 8, 3, 6, 4, 5, 7, 2, 7, 2, 3, 3, 3, 3, 19, 9, 5, 6, 5, 3, 7, 2, 5, 8].getD k 0
def rt (k : Nat) : Option FieldType := [(Option.none : Option FieldType), (Option.none : Option FieldType), (Option.none : Option FieldType), (Option.none : Option FieldType), (Option.none : Option FieldType), (Option.some FieldType.int), (Option.some FieldType.boolean), (Option.none : Option FieldType), (Option.none : Option FieldType), (Option.none : Option FieldType), (Option.none : Option FieldType), (Option.some FieldType.int), (Option.some FieldType.long), (Option.some FieldType.long), (Option.some FieldType.boolean), (Option.none : Option FieldType), (Option.none : Option FieldType), (Option.none : Option FieldType), (Option.some FieldType.long), (Option.none : Option FieldType), (Option.some FieldType.long), (Option.some FieldType.long), (Option.some FieldType.int), (Option.none : Option FieldType), (Option.some (FieldType.object "NettedPlans$Item")), (Option.none : Option FieldType), (Option.none : Option FieldType), (Option.some FieldType.int), (Option.none : Option FieldType), (Option.some FieldType.int), (Option.none : Option FieldType), (Option.none : Option FieldType), (Option.some FieldType.int), (Option.none : Option FieldType), (Option.none : Option FieldType), (Option.none : Option FieldType), (Option.some FieldType.int), (Option.none : Option FieldType), (Option.some FieldType.boolean), (Option.none : Option FieldType), (Option.some FieldType.int), (Option.some FieldType.int), (Option.some FieldType.int), (Option.some FieldType.int), (Option.some FieldType.int), (Option.none : Option FieldType), (Option.none : Option FieldType), (Option.some FieldType.boolean), (Option.some FieldType.int), (Option.some FieldType.int), (Option.some FieldType.int), (Option.none : Option FieldType), (Option.some FieldType.int), (Option.some FieldType.int), (Option.some FieldType.int), (Option.some FieldType.int), (Option.some FieldType.int), (Option.some FieldType.int), (Option.some FieldType.long), (Option.none : Option FieldType), (Option.some FieldType.boolean), (Option.some FieldType.int), (Option.some FieldType.long), (Option.some FieldType.int), (Option.some FieldType.long), (Option.some FieldType.int), (Option.some FieldType.long), (Option.some FieldType.long), (Option.some FieldType.long), (Option.some FieldType.long), (Option.some FieldType.long), (Option.some FieldType.long), (Option.some FieldType.long), (Option.some FieldType.int), (Option.some FieldType.int), (Option.some FieldType.int), (Option.some FieldType.int), (Option.some FieldType.int), (Option.some FieldType.int), (Option.some FieldType.int), (Option.some FieldType.int), (Option.some FieldType.long), (Option.some FieldType.int), (Option.some FieldType.int), (Option.some FieldType.int), (Option.some FieldType.boolean), (Option.none : Option FieldType), (Option.some FieldType.int), (Option.none : Option FieldType), (Option.some FieldType.boolean), (Option.some FieldType.boolean), (Option.some FieldType.boolean), (Option.none : Option FieldType), (Option.none : Option FieldType), (Option.none : Option FieldType), (Option.none : Option FieldType), (Option.none : Option FieldType), (Option.some FieldType.boolean), (Option.some FieldType.int), (Option.some FieldType.int), (Option.some FieldType.int), (Option.some FieldType.int), (Option.some FieldType.int), (Option.some FieldType.int), (Option.some FieldType.int), (Option.some FieldType.int), (Option.some FieldType.boolean), (Option.some FieldType.long), (Option.some FieldType.long), (Option.some FieldType.long), (Option.none : Option FieldType), (Option.none : Option FieldType), (Option.some FieldType.long), (Option.some FieldType.long), (Option.none : Option FieldType), (Option.some FieldType.int), (Option.some FieldType.long), (Option.some FieldType.long), (Option.some FieldType.long), (Option.some FieldType.int), (Option.some FieldType.long), (Option.some FieldType.boolean), (Option.some FieldType.long), (Option.some FieldType.long), (Option.some FieldType.long), (Option.some FieldType.long), (Option.some FieldType.int), (Option.some FieldType.boolean), (Option.some FieldType.int), (Option.some FieldType.int), (Option.some FieldType.long), (Option.some FieldType.int), (Option.some FieldType.int), (Option.some FieldType.boolean)].getD k none
def hh (k : Nat) : List (Nat × Nat × Nat × Nat) := [[], [], [], [], [], [], [], [], [], [], [], [], [], [], [], [], [], [], [], [], [], [], [(0, 11, 14, 13), (0, 11, 18, 15)], [], [], [], [], [(0, 9, 12, 13), (0, 9, 16, 15)], [], [(0, 7, 10, 13), (0, 7, 14, 15)], [], [], [(0, 11, 14, 13), (0, 11, 18, 15), (0, 11, 22, 28)], [], [], [], [], [], [], [], [(0, 10, 13, 13), (0, 10, 17, 15)], [], [(0, 12, 15, 13), (0, 12, 19, 15), (0, 12, 23, 28)], [], [], [], [], [], [], [(0, 12, 15, 15), (0, 12, 19, 13)], [], [], [], [(0, 12, 15, 13), (0, 12, 19, 15), (0, 12, 23, 28)], [], [(0, 9, 12, 13)], [], [(0, 9, 12, 13), (0, 9, 16, 28)], [], [], [], [(0, 9, 12, 13), (0, 9, 16, 28)], [], [(0, 9, 12, 13), (0, 9, 16, 28)], [], [(0, 11, 14, 13), (0, 11, 18, 15), (0, 11, 22, 28)], [], [], [], [], [], [], [], [(0, 12, 15, 13), (0, 12, 19, 15), (0, 12, 23, 28)], [], [], [(0, 12, 15, 13), (0, 12, 19, 15), (0, 12, 23, 28)], [], [(0, 9, 12, 13)], [], [(0, 9, 12, 13), (0, 9, 16, 28)], [], [(0, 9, 12, 28)], [], [], [], [], [], [], [], [], [], [], [], [], [], [], [], [], [], [], [], [], [], [], [], [], [], [], [], [], [], [], [], [], [], [], [], [], [], [], [], [], [], [], [], [], [], [], [], [], [], [], []].getD k []
def fr (k : Nat) : Nat := [2, 1, 1, 1, 1, 5, 4, 2, 0, 0, 1, 0, 0, 0, 0, 3, 1, 2, 0, 1, 1, 0, 9, 8, 7, 6, 6, 9, 8, 9, 8, 6, 9, 8, 3, 2, 1, 0, 2, 3, 9, 8, 10, 9, 8, 6, 6, 0, 1, 9, 8, 6, 0, 10, 9, 8, 7, 9, 8, 6, 0, 9, 8, 9, 8, 11, 10, 9, 0, 0, 0, 8, 9, 10, 9, 8, 10, 9, 8, 7, 8, 7, 8, 7, 1, 0, 1, 0, 2, 0, 1, 0, 0, 2, 2, 2, 0, 1, 0, 2, 3, 2, 0, 3, 1, 6, 5, 1, 0, 0, 4, 2, 1, 0, 3, 2, 1, 0, 3, 2, 3, 2, 3, 3, 2, 1, 3, 2, 3, 1, 2, 3, 2, 14].getD k 0
def lo (k : Nat) : Nat := [44, 24, 24, 24, 24, 117, 95, 47, 0, 0, 22, 0, 0, 0, 0, 70, 24, 48, 0, 21, 24, 0, 157, 131, 110, 90, 90, 156, 131, 155, 131, 90, 158, 131, 80, 60, 24, 0, 50, 80, 155, 131, 179, 156, 131, 90, 90, 0, 20, 155, 131, 90, 0, 179, 156, 131, 110, 154, 131, 90, 0, 154, 131, 154, 131, 211, 188, 162, 0, 0, 0, 131, 162, 179, 156, 131, 179, 156, 132, 111, 135, 110, 131, 110, 21, 0, 24, 0, 42, 0, 22, 0, 0, 42, 42, 48, 0, 26, 0, 42, 66, 42, 0, 66, 22, 146, 123, 27, 0, 0, 97, 48, 26, 0, 71, 47, 21, 0, 71, 42, 64, 42, 64, 64, 53, 25, 73, 48, 73, 22, 42, 72, 48, 542].getD k 0
def mc (k : Nat) : Nat := [73, 5, 3, 4, 3, 0, 0, 0, 0, 0, 0, 0, 0, 0, 0, 0, 0, 0, 0, 0, 0, 0, 5, 5, 1, 1, 1, 4, 4, 3, 3, 1, 6, 6, 0, 0, 0, 0, 0, 0, 2, 2, 4, 4, 4, 1, 1, 0, 0, 4, 4, 1, 0, 4, 4, 1, 1, 3, 3, 1, 0, 3, 3, 3, 3, 11, 11, 2, 0, 0, 0, 1, 2, 16, 16, 12, 17, 17, 1, 1, 3, 3, 1, 1, 0, 0, 23, 0, 0, 0, 0, 0, 0, 0, 0, 0, 0, 0, 0, 0, 0, 0, 0, 0, 0, 0, 0, 0, 0, 0, 0, 0, 0, 0, 0, 0, 0, 0, 0, 0, 0, 0, 0, 0, 0, 0, 0, 0, 0, 0, 0, 0, 0, 601024].getD k 0
def ms (k : Nat) : Nat := [1379, 456, 72, 49, 36, 0, 0, 0, 0, 0, 0, 0, 0, 0, 0, 0, 0, 0, 0, 0, 0, 0, 30, 30, 6, 6, 6, 24, 24, 18, 18, 6, 36, 36, 0, 0, 0, 0, 0, 0, 12, 12, 24, 24, 24, 6, 6, 0, 0, 24, 24, 6, 0, 24, 24, 6, 6, 18, 18, 6, 0, 18, 18, 18, 18, 66, 66, 12, 0, 0, 0, 6, 12, 96, 96, 72, 102, 102, 6, 6, 18, 18, 6, 6, 0, 0, 1109, 0, 0, 0, 0, 0, 0, 0, 0, 0, 0, 0, 0, 0, 0, 0, 0, 0, 0, 0, 0, 0, 0, 0, 0, 0, 0, 0, 0, 0, 0, 0, 0, 0, 0, 0, 0, 0, 0, 0, 0, 0, 0, 0, 0, 0, 0, 7293034].getD k 0
def np (k : Nat) : Nat := [0, 0, 0, 0, 0, 0, 1, 1, 2, 2, 2, 2, 1, 1, 1, 2, 2, 1, 1, 2, 3, 2, 6, 5, 1, 1, 3, 5, 4, 4, 3, 1, 6, 5, 1, 0, 1, 2, 1, 4, 4, 2, 5, 3, 4, 1, 1, 0, 3, 5, 3, 2, 2, 5, 3, 3, 1, 4, 2, 0, 0, 4, 2, 4, 2, 5, 3, 2, 2, 1, 2, 3, 2, 5, 3, 3, 5, 3, 3, 1, 4, 2, 3, 1, 0, 0, 0, 0, 5, 3, 1, 1, 1, 4, 3, 5, 4, 0, 1, 2, 3, 4, 4, 3, 3, 0, 1, 2, 3, 2, 1, 1, 2, 3, 1, 2, 3, 1, 3, 1, 2, 2, 2, 2, 3, 3, 3, 3, 3, 1, 2, 1, 0, 1].getD k 0
def ini (k : Nat) : Bool := nm k == "<init>"
theorem ini_nm {k : Nat} (h : ini k = true) : nm k = "<init>" := by simpa [ini] using h
abbrev LAW : Nat := 133
def strT : List (String × Nat × String) := [("NettedPlans", 198, "no such item"), ("NettedPlans", 209, "a value out of its range"), ("NettedPlans", 203, "no such centre"), ("NettedPlans", 111, "no place for such a line"), ("NettedPlans", 201, "no such week"), ("NettedPlans", 215, "the book is full"), ("NettedPlans", 205, "no such number"), ("NettedPlans", 217, "something was told since the last replanning")]
abbrev EX (n : Nat) : String := ["java/lang/IndexOutOfBoundsException", "java/lang/IllegalArgumentException", "java/lang/IllegalStateException"].getD n ""
def ncT : List (String × String) := [("java/lang/IllegalArgumentException", "java/lang/IndexOutOfBoundsException"), ("java/lang/IllegalStateException", "java/lang/IndexOutOfBoundsException"), ("java/lang/IndexOutOfBoundsException", "java/lang/IllegalArgumentException"), ("java/lang/IllegalStateException", "java/lang/IllegalArgumentException"), ("java/lang/IndexOutOfBoundsException", "java/lang/IllegalStateException"), ("java/lang/IllegalArgumentException", "java/lang/IllegalStateException")]
def nlT : List (String × Nat × Nat × String) := [("NettedPlans", 17, 1, "NettedPlans"), ("NettedPlans", 24, 2, "NettedPlans"), ("NettedPlans", 37, 3, "NettedPlans"), ("NettedPlans", 49, 4, "NettedPlans")]
end
section
-- ===== ends that return or throw: own words over the library's laws =====
/-- an end: what it is, the tables warmer, nothing moved but what 'free' names and at most mc new cells of ms slots -/
def oxE (mc ms : Nat) (free : Addr → Prop) (Qe : State → Outcome → State → Prop) (st : State) (o : Outcome) (t : State) : Prop :=
  Qe st o t ∧ st.WarmedH t.vm ∧ ∃ L : List Loc, st.sameButNew ({ t with vm := st.vm } : State) L mc ms ∧ ∀ q ∈ L, free q.base
def oxM (l : Launch) (y : MethodName) (ws : List Cond) (rm : Room) (Pc : Array Value → State → Prop) (Qe : State → Outcome → State → Prop) (mc ms : Nat) (free : Addr → Prop) : Prop :=
  MetFree l y (headSpec ws rm) Pc (fun _ _ _ _ _ => True) (fun _ st o t => oxE mc ms free Qe st o t)
def oxZ (below : List Frame) (Qe : State → Outcome → State → Prop) (s : State) (mc ms : Nat) (free : Addr → Prop) : State → Prop := fun t => ∃ o, t.status = .running ∧ Ended t below o ∧ oxE mc ms free Qe s o t
/-- the machine with an exception q over the frame g -/
def oxW (p : Program) (l : Launch) (e : Env) (R : Room) (s : State) (m : MethodId) (args : Array Value) (below : List Frame) (meth : Method) (c : Code) (H : Heap) (locs : List Loc) (cells slots : Nat) (Q : State → Prop) (g : JFrame) (q : Addr) : Prop :=
  ∀ T : State, T.heap = H → Stand p l e R s m args below meth c T locs cells slots → ∃ t, Steps p.tables e below ((T.setTop g).pushFrame (.throwing q)) t ∧ Q t
section Ox
variable {p : Program} {l : Launch} {e : Env} {R : Room} {s : State} {m : MethodId} {args : Array Value} {below : List Frame} {meth : Method} {c : Code} {H : Heap} {locs : List Loc} {cells slots : Nat}
theorem Wmono {Q Q' : State → Prop} {g : JFrame} (hQ : ∀ t, Q t → Q' t) (k : W p l e R s m args below meth c H locs cells slots Q g) : W p l e R s m args below meth c H locs cells slots Q' g := fun T hT X => by
  obtain ⟨t, a, b⟩ := k T hT X
  exact ⟨t, a, hQ t b⟩
theorem oxRet {Qe : State → Outcome → State → Prop} {mc ms : Nat} {free : Addr → Prop} {g : JFrame} (k : W p l e R s m args below meth c H locs cells slots (MQ below (fun _ st o t => Qe st o t) args s mc ms free) g) : W p l e R s m args below meth c H locs cells slots (oxZ below Qe s mc ms free) g :=
  Wmono (fun t h => by
    obtain ⟨o, h1, h2, h3, L, ⟨-, h4, h5⟩, h6⟩ := h
    exact ⟨o, h1, h2, h3, h4, L, h5, h6⟩) k
/-- out of a body without handlers -/
theorem oxM.body {y : MethodName} {ws ws' : List Cond} {rm : Room} {Pc : Array Value → State → Prop} {Qe : State → Outcome → State → Prop} {mc ms : Nat} {free : Addr → Prop} {cc : ByteArray} {maxL : Nat} {ret : Option FieldType}
    (hy : plainName y.cls = true) (hw : ws = Cond.code y cc maxL ret :: ws')
    (body : ∀ p e s m args below meth c s₁, BodyLoose p l y (headSpec ws rm) cc maxL ret e s m args below meth c s₁ → c.maxLocals = maxL → c.exceptionTable.toList = [] → Pc args s →
      W p l e rm s m args below meth c s.heap [] 0 0 (oxZ below Qe s mc ms free) (entryFrame m args maxL)) : oxM l y ws rm Pc Qe mc ms free := by
  refine MetFree.of_bodyS (code := cc) (maxLocals := maxL) (ret := ret) hy ?_ ?_
  · intro args s m h hn
    obtain ⟨meth, c, h1, h2, h3, h4, h5, h6, -, -⟩ := Cond.code_spec hn (atoms_spec (ws := ws) h _ (by rw [hw]; exact List.mem_cons_self))
    exact ⟨meth, c, h1, h2, h3, h4, h5, h6⟩
  · intro p e s m args below meth c s₁ B hml hP _
    have hnh := B.noHandlers (atoms_spec (ws := ws) B.pre _ (by rw [hw]; exact List.mem_cons_self))
    obtain ⟨t, a1, o, b1, b2, b3⟩ := body p e s m args below meth c s₁ B hml (by rw [Array.isEmpty_iff.mp hnh]) hP s₁ (by rw [B.state]; rfl) (Stand.of_body B)
    exact ⟨t, o, a1, b1, b2, b3⟩
/-- out of a body with handlers -/
theorem oxM.bodyH {y : MethodName} {ws ws' : List Cond} {rm : Room} {Pc : Array Value → State → Prop} {Qe : State → Outcome → State → Prop} {mc ms : Nat} {free : Addr → Prop} {cc : ByteArray} {maxL : Nat} {ret : Option FieldType} {hd : List (Nat × Nat × Nat × Nat)}
    (hy : plainName y.cls = true) (hw : ws = Cond.codeWith y cc maxL ret hd :: ws')
    (body : ∀ p e s m args below meth c s₁, BodyLoose p l y (headSpec ws rm) cc maxL ret e s m args below meth c s₁ → c.maxLocals = maxL → c.exceptionTable.toList = tableOf hd → Pc args s →
      W p l e rm s m args below meth c s.heap [] 0 0 (oxZ below Qe s mc ms free) (entryFrame m args maxL)) : oxM l y ws rm Pc Qe mc ms free := by
  refine MetFree.of_bodyS (code := cc) (maxLocals := maxL) (ret := ret) hy ?_ ?_
  · intro args s m h hn
    obtain ⟨m9, meth, c, hn9, h1, h2, h3, h4, -, h5, h6, -⟩ := Cond.codeWith_spec (atoms_spec (ws := ws) h _ (by rw [hw]; exact List.mem_cons_self))
    cases hn.symm.trans hn9
    exact ⟨meth, c, h1, h2, h3, h4, h5, h6⟩
  · intro p e s m args below meth c s₁ B hml hP _
    have htb : c.exceptionTable.toList = tableOf hd := by
      obtain ⟨m9, meth9, c9, hn9, h1, h2, -, -, h6, -⟩ := Cond.codeWith_spec (atoms_spec (ws := ws) B.pre _ (by rw [hw]; exact List.mem_cons_self))
      cases Option.some.inj (hn9.symm.trans B.named)
      cases Option.some.inj (h1.symm.trans B.method)
      cases Option.some.inj (h2.symm.trans (Stand.of_body B).code)
      rw [← h6, table_eq]
    obtain ⟨t, a1, o, b1, b2, b3⟩ := body p e s m args below meth c s₁ B hml htb hP s₁ (by rw [B.state]; rfl) (Stand.of_body B)
    exact ⟨t, o, a1, b1, b2, b3⟩
/-- what a call leaves: the caller's frame goes on, or an exception stands over it -/
def oxAfter (p : Program) (e : Env) (below : List Frame) (S T' : State) (g : JFrame) (len : Nat) (rest : List Value) (o : Outcome) : Prop := match o with
  | .returned v => Steps p.tables e below S (T'.setTop { g with pc := g.pc + len, stack := v.toList ++ rest })
  | .threw q => Steps p.tables e below S ((T'.setTop { g with stack := rest }).pushFrame (.throwing q))
theorem oxCore {T : State} {y : MethodName} {ws : List Cond} {rm : Room} {Pc : Array Value → State → Prop} {Qe : State → Outcome → State → Prop} {mc ms : Nat} {free : Addr → Prop} (hM : oxM l y ws rm Pc Qe mc ms free)
    (X : Stand p l e R s m args below meth c T locs cells slots) {maxL : Nat} (hrc : rm.cells = mc) (hrs : rm.slots = ms) (hfr : rm.frames + 1 ≤ R.frames) (hlo : 8 + (maxL + 11) + rm.locals ≤ R.locals) (hcs : cells + mc ≤ R.cells) (hss : slots + ms ≤ R.slots)
    {g : JFrame} (hg : g.method = m) (hsize : g.locals.size = c.maxLocals) {ig : Instr} {len : Nat} (hdg : decode c.code g.pc = .ok (ig, len)) (hW : 2 * g.monitorRoom + (g.stack.map fun v => v.category).sum ≤ 8) {mk : MethodId} {a : Array Value} (hn : T.methodNamed? y = some mk)
    {mY : Method} {cY : Code} (hmY : T.vm.method? mk = some mY) (hcY : mY.code = some cY) (hlY : cY.maxLocals = maxL) (hws : ∀ w ∈ ws, w.before a T = true) (hini : (Cond.initialized y.cls).before a T = true) (hPc : Pc a (T.calling g mk a)) :
    ∃ (o : Outcome) (t T' : State) (L : List Loc), Stand p l e R s m args below meth c T' (locs ++ L) (cells + mc) (slots + ms) ∧ (∀ q ∈ L, free q.base) ∧ T'.heap = t.heap ∧ T'.vm = t.vm ∧ Qe (T.calling g mk a) o t ∧
      oxAfter p e below (doInvoke e (T.setTop g) [] mk a).1 T' g len g.stack o := by
  obtain ⟨kY, hkY, -⟩ := className_of_methodNamed hn
  have hinY : kY.init = .initialized := Cond.initialized_spec (findClass_of_methodNamed hn) hkY hini
  have h : At T g.method c below := by rw [hg]; exact X.here
  have happ : (headSpec ws rm).appliesLoose y e.platform (T.calling g mk a) = true :=
    Spec.appliesLoose_calling (g := g) h hdg hn hkY hinY (X.room_calling (g := g) (R' := (headSpec ws rm).room) hsize hmY hcY hfr (by show _ ≤ _; rw [hlY]; show _ + rm.locals ≤ _; omega) (by show _ + rm.cells ≤ _; rw [hrc]; exact hcs) (by show _ + rm.slots ≤ _; rw [hrs]; exact hss)) (atoms_intro hws)
  obtain ⟨mid, hmid⟩ := h.above
  have hf0 : (T.setTop g).frames = (.java g :: mid) ++ below := by rw [State.frames_setTop' g h.top, hmid]; rfl
  obtain ⟨o, t, hst, -, hend, hq, hWt, L, hsm, hL⟩ := Steps.callFree hM p X.admits X.cas X.clock (acts := []) hf0 happ hPc trivial
  rw [State.frames_setTop' g h.top] at hend
  obtain ⟨g₀, hg0⟩ := Option.isSome_iff_exists.mp h.top
  obtain ⟨r, hr⟩ := State.topJava?_eq_some.mp hg0
  obtain ⟨T', hT'⟩ : ∃ z, z = (({ T with heap := t.heap, slotsUsed := t.slotsUsed } : State).setVm t.vm) := ⟨_, rfl⟩
  have hr' : T'.frames = .java g₀ :: r := by rw [hT']; exact hr
  have hW' : T.WarmedH t.vm := hWt
  have hsm9 : (T.calling g mk a).sameButNew ({ t with vm := (T.calling g mk a).vm } : State) L mc ms := hsm
  obtain ⟨e2, q2, q3, q4, q5, q6⟩ := hsm9
  have e3 : t = ({ (T.calling g mk a).setFrames t.frames with heap := t.heap, slotsUsed := t.slotsUsed } : State).setVm t.vm := by
    have h9 : t = ({ t with vm := (T.calling g mk a).vm } : State).setVm t.vm := rfl
    rw [e2] at h9
    exact h9
  have hsame : T.sameButNew ({ T with heap := t.heap, slotsUsed := t.slotsUsed } : State) L mc ms := by
    refine ⟨?_, q2, q3, q4, q5, q6⟩
    obtain ⟨th, hth, -⟩ := State.frames_cons hr
    show ({ T with heap := t.heap, slotsUsed := t.slotsUsed } : State) = { T.setFrames T.frames with heap := t.heap, slotsUsed := t.slotsUsed }
    rw [State.setFrames_self hth]
  have X' : Stand p l e R s m args below meth c T' (locs ++ L) (cells + mc) (slots + ms) := by
    rw [hT']
    exact ⟨X.admits, X.cas, X.clock, X.frames, X.room, X.hears, X.method, X.code, (X.here.setHeapUsed t.heap t.slotsUsed).setVm hW'.alike, X.tail, State.WarmedH.trans X.warmed hW', X.limits, X.bytes, X.same.trans (hsame.setVm s.vm)⟩
  refine ⟨o, t, T', L, X', hL, by rw [hT']; rfl, by rw [hT']; rfl, hq, ?_⟩
  cases o with
  | returned v =>
    obtain ⟨c₂, i₂, len₂, hc₂, hd₂, hf₂⟩ := hend
    have hcc : c₂ = c := by
      have h1 : t.code? g.method = T.code? g.method := by rw [State.code?_eq, State.code?_eq, hW'.alike.method?]
      exact Option.some.inj (hc₂.symm.trans (h1.trans h.code))
    subst hcc
    have hlen : len₂ = len := by rw [hdg] at hd₂; cases hd₂; rfl
    subst hlen
    have hs₂ : t = T'.setTop { g with pc := g.pc + len₂, stack := v.toList ++ g.stack } := by
      refine e3.trans ?_
      rw [State.setTop_of_frames _ hr', hf₂, State.calling_eq h.top, State.setFrames_setFrames, hr, hT']
      rfl
    show Steps p.tables e below _ (T'.setTop { g with pc := g.pc + len₂, stack := v.toList ++ g.stack })
    rw [← hs₂]
    exact hst
  | threw q =>
    have hf₂ : t.frames = .throwing q :: .java g :: T.frames.tail := hend
    have hs₂ : t = (T'.setTop g).pushFrame (.throwing q) := by
      refine e3.trans ?_
      rw [State.pushFrame, State.frames_setTop _ hr', State.setTop_of_frames _ hr', State.setFrames_setFrames, hf₂, State.calling_eq h.top, State.setFrames_setFrames, hr, hT']
      rfl
    show Steps p.tables e below _ ((T'.setTop { g with stack := g.stack }).pushFrame (.throwing q))
    rw [← hs₂]
    exact hst
end Ox
-- ===== what a throw reads: two statics of Throwable =====
def oxT (n d : String) (A : Nat → Prop) (U : State) (H : Heap) : Prop := ∃ (cf : ClassId) (kf : Class) (i : Nat) (f : Field) (a : Nat) (cell : Cell) (v : Value), U.vm.findClass Bundle.tN = some cf ∧ U.fieldFound? Bundle.tN n d = some (cf, kf, i, f) ∧ f.isStatic = true ∧ kf.statics = some a ∧ H[a]? = some cell ∧ cell.vm.isStatics = true ∧ cell.cls = cf ∧ f.slot < cell.slots.size ∧ kf.staticTypes[f.slot]? = some f.type ∧ cell.slots[f.slot]? = some v ∧ v.isRef = true ∧ ¬ A a
theorem oxT.moved {n d : String} {A : Nat → Prop} {u U : State} {H : Heap} (hvm : u.vm.Alike U.vm) (h : oxT n d A u H) : oxT n d A U H := by
  obtain ⟨cf, kf, i, f, a, cell, v, h1, h2, h3, h4, h5, h6, h7, h8, h9, h10⟩ := h
  obtain ⟨k', hi', he⟩ := State.fieldFound?_setVm hvm h2
  exact ⟨cf, k', i, f, a, cell, v, by rw [hvm.findClass]; exact h1, hi', h3, by rw [he]; exact h4, h5, h6, h7, h8, by rw [he]; exact h9, h10⟩
theorem oxT.kept {n d : String} {A : Nat → Prop} {U : State} {H H1 : Heap} (h : oxT n d A U H) (hq : ∀ a : Nat, a < H.size → ¬ A a → H1[a]? = H[a]?) : oxT n d A U H1 := by
  obtain ⟨cf, kf, i, f, a, cell, v, h1, h2, h3, h4, h5, h6, h7, h8, h9, h10, h11, h12⟩ := h
  exact ⟨cf, kf, i, f, a, cell, v, h1, h2, h3, h4, by rw [hq a (Array.getElem?_eq_some_iff.mp h5).1 h12]; exact h5, h6, h7, h8, h9, h10, h11, h12⟩
theorem oxT.narrow {n d : String} {A A' : Nat → Prop} {U : State} {H : Heap} (h : oxT n d A U H) (hAB : ∀ q, A' q → A q) : oxT n d A' U H := by
  obtain ⟨cf, kf, i, f, a, cell, v, h1, h2, h3, h4, h5, h6, h7, h8, h9, h10, h11, h12⟩ := h
  exact ⟨cf, kf, i, f, a, cell, v, h1, h2, h3, h4, h5, h6, h7, h8, h9, h10, h11, fun z => h12 (hAB a z)⟩
theorem oxT.word {n d : String} {A : Nat → Prop} {s : State} {args : Array Value} (h : oxT n d A s s.heap) : (Cond.laysStatic Bundle.tN n d).before args s = true ∧ (Cond.isRef (.static Bundle.tN n d)).before args s = true := by
  obtain ⟨cf, kf, i, f, a, cell, v, h1, h2, h3, h4, h5, h6, h7, h8, h9, h10, h11, h12⟩ := h
  refine ⟨?_, ?_⟩
  · show (Cond.laysStatic Bundle.tN n d).holds args s none s [] = true
    exact Cond.laysStatic_of h1 h2 h3 h4 h5 h6 h7 h8 h9
  · have he : (Term.static Bundle.tN n d).eval args s none [] s = some v := by
      simp [Term.eval, State.fieldNamed?, h2, h3, h4, h5, h6, h10]
    simp only [Cond.before, Cond.holds, Cond.value, he]
    cases v <;> simp_all [Value.isRef]
theorem oxT.of {n d : String} {A : Nat → Prop} {s : State} {args : Array Value} (hl : (Cond.laysStatic Bundle.tN n d).before args s = true) (hr : (Cond.isRef (.static Bundle.tN n d)).before args s = true) (hA : ∀ a : Nat, a < s.heap.size → ¬ A a) : oxT n d A s s.heap := by
  obtain ⟨c, k, i, f, a, cell, h1, h2, h3, h4, h5, h6, h7, h8, h9⟩ := Cond.laysStatic_spec hl
  have hv : cell.slots[f.slot]? = some cell.slots[f.slot] := Array.getElem?_eq_getElem h8
  have he : (Term.static Bundle.tN n d).eval args s none [] s = some cell.slots[f.slot] := by
    simp [Term.eval, State.fieldNamed?, h2, h3, h4, h5, h6, hv]
  refine ⟨c, k, i, f, a, cell, _, h1, h2, h3, h4, h5, h6, h7, h8, h9, hv, ?_, hA a (Array.getElem?_eq_some_iff.mp h5).1⟩
  simp only [Cond.before, Cond.holds, Cond.value, he] at hr
  cases hq : cell.slots[f.slot] <;> simp_all [Value.isRef]
end
section
-- THE LAYER: a small machine of values, keys and numbers over the kit's rows. Cells lie at B, B + 1, .. in the order in which the law makes them.
-- abstract values: a machine value; a cell by its key (tag, index); a number n that stands for the int nI n
abbrev AV : Type := Value ⊕ (Nat × Nat) ⊕ Nat
abbrev aV (v : Value) : AV := .inl v
abbrev aI (x : Int32) : AV := .inl (.int x)
abbrev aL (x : Int64) : AV := .inl (.long x)
abbrev aR (t i : Nat) : AV := .inr (.inl (t, i))
abbrev aN (n : Nat) : AV := .inr (.inr n)
def gv (B : Nat) : AV → Value
  | .inl v => v
  | .inr (.inl k) => .ref (B + od k.1 k.2)
  | .inr (.inr n) => .int (nI n)
def gl (B : Nat) (lv : List (Nat × AV)) : List (Nat × Value) := lv.map (fun q => (q.1, gv B q.2))
def gs (B : Nat) (st : List AV) : List Value := st.map (gv B)
def ct1 : AV → Nat
  | .inl v => v.category
  | _ => 1
theorem ct1_gv (B : Nat) (v : AV) : (gv B v).category = ct1 v := by
  rcases v with v | k | n <;> rfl
-- the world: how many cells there are; whether nothing else was made; numbers; longs; references (as keys)
abbrev NW : Type := Nat × Bool × (Nat → Nat → Nat → Nat) × (Nat → Nat → Nat → Int64) × (Nat → Nat → Nat → Option (Nat × Nat))
def rv : Option (Nat × Nat) → AV
  | some k => .inr (.inl k)
  | none => aV .null
def fv (ci j : Nat) (w : NW) (t i : Nat) : AV := match ftk ci j with
  | 1 => aL (w.2.2.2.1 t i j)
  | 2 => rv (w.2.2.2.2 t i j)
  | _ => aN (w.2.2.1 t i j)
def fds (B ci : Nat) (w : NW) (t i : Nat) : List Value := (List.range (fn ci)).map (fun j => gv B (fv ci j w t i))
abbrev CA : Type := ClassId × ClassId × ClassId × ClassId
def en (B : Nat) (ca : CA) (w : NW) (t i : Nat) : va_E := match kd t with
  | (0, n) => .inl (ca.1, n, .inl (fun j => nI (w.2.2.1 t i j)))
  | (1, n) => .inl (ca.2.1, n, .inr (.inl (w.2.2.2.1 t i)))
  | (4, n) => .inl (ca.2.2.2, n, .inl (fun j => nI (w.2.2.1 t i j)))
  | (2, n) => .inl (ca.2.2.1, n, .inr (.inr (.inr (.inr (fun j => (w.2.2.2.2 t i j).map (fun k => B + od k.1 k.2))))))
  | (_, ci) => .inr (ci, fds B ci w t i)
def wsO (B : Nat) (ca : CA) (w : NW) : va_W := (List.range w.1).map (fun k => (B + k, en B ca w (ky k).1 (ky k).2))
-- a cell that is there
def vld (n t i : Nat) : Prop := i < ct t ∧ od t i < n
theorem wsO_at {B : Nat} {ca : CA} {w : NW} {t i : Nat} (h : vld w.1 t i) : (wsO B ca w)[od t i]? = some (B + od t i, en B ca w t i) := by
  have hk := ky_od h.1
  simp [wsO, List.getElem?_map, List.getElem?_range h.2, hk]
theorem wsO_set {B : Nat} {ca : CA} {w w' : NW} {t i : Nat} (h : vld w.1 t i) (hn : w.1 ≤ NN) (h1 : w'.1 = w.1) (ho : ∀ t' i', (t', i') ≠ (t, i) → en B ca w' t' i' = en B ca w t' i') : (wsO B ca w).set (od t i) (B + od t i, en B ca w' t i) = wsO B ca w' := by
  apply List.ext_getElem?
  intro k
  have hk := ky_od h.1
  by_cases hkk : k = od t i
  · subst hkk
    have hl : od t i < (wsO B ca w).length := by simp [wsO]; exact h.2
    rw [List.getElem?_set_self hl]
    have h2 : vld w'.1 t i := ⟨h.1, by rw [h1]; exact h.2⟩
    exact (wsO_at h2).symm
  · rw [List.getElem?_set_ne (Ne.symm hkk)]
    by_cases hlt : k < w.1
    · have hne : ((ky k).1, (ky k).2) ≠ (t, i) := by
        intro q
        apply hkk
        have := od_ky (Nat.lt_of_lt_of_le hlt hn)
        rw [← this]
        have q1 : (ky k).1 = t := congrArg Prod.fst q
        have q2 : (ky k).2 = i := congrArg Prod.snd q
        rw [q1, q2]
      simp [wsO, List.getElem?_map, List.getElem?_range hlt, List.getElem?_range (h1 ▸ hlt : k < w'.1), ho _ _ hne]
    · simp [wsO, List.getElem?_map, h1, hlt]
-- stores
def upN (f : Nat → Nat → Nat → Nat) (t i j x : Nat) : Nat → Nat → Nat → Nat := fun t' i' j' => if t' = t ∧ i' = i ∧ j' = j then x else f t' i' j'
def upL (f : Nat → Nat → Nat → Int64) (t i j : Nat) (x : Int64) : Nat → Nat → Nat → Int64 := fun t' i' j' => if t' = t ∧ i' = i ∧ j' = j then x else f t' i' j'
def upR (f : Nat → Nat → Nat → Option (Nat × Nat)) (t i j : Nat) (x : Option (Nat × Nat)) : Nat → Nat → Nat → Option (Nat × Nat) := fun t' i' j' => if t' = t ∧ i' = i ∧ j' = j then x else f t' i' j'
def wN (w : NW) (t i j x : Nat) : NW := (w.1, w.2.1, upN w.2.2.1 t i j x, w.2.2.2.1, w.2.2.2.2)
def wL (w : NW) (t i j : Nat) (x : Int64) : NW := (w.1, w.2.1, w.2.2.1, upL w.2.2.2.1 t i j x, w.2.2.2.2)
def wR (w : NW) (t i j : Nat) (x : Option (Nat × Nat)) : NW := (w.1, w.2.1, w.2.2.1, w.2.2.2.1, upR w.2.2.2.2 t i j x)
theorem fv_wN {w : NW} {t i j x t' i' : Nat} (h : (t', i') ≠ (t, i)) (ci q : Nat) : fv ci q (wN w t i j x) t' i' = fv ci q w t' i' := by
  have : ¬ (t' = t ∧ i' = i ∧ q = j) := fun z => h (by rw [z.1, z.2.1])
  simp [fv, wN, upN, this]
theorem fv_wL {w : NW} {t i j : Nat} {x : Int64} {t' i' : Nat} (h : (t', i') ≠ (t, i)) (ci q : Nat) : fv ci q (wL w t i j x) t' i' = fv ci q w t' i' := by
  have : ¬ (t' = t ∧ i' = i ∧ q = j) := fun z => h (by rw [z.1, z.2.1])
  simp [fv, wL, upL, this]
theorem fv_wR {w : NW} {t i j : Nat} {x : Option (Nat × Nat)} {t' i' : Nat} (h : (t', i') ≠ (t, i)) (ci q : Nat) : fv ci q (wR w t i j x) t' i' = fv ci q w t' i' := by
  have : ¬ (t' = t ∧ i' = i ∧ q = j) := fun z => h (by rw [z.1, z.2.1])
  simp [fv, wR, upR, this]
theorem en_wN {B : Nat} {ca : CA} {w : NW} {t i j x : Nat} : ∀ t' i', (t', i') ≠ (t, i) → en B ca (wN w t i j x) t' i' = en B ca w t' i' := by
  intro t' i' h
  have h2 : ∀ q, ¬ (t' = t ∧ i' = i ∧ q = j) := fun q z => h (by rw [z.1, z.2.1])
  have h3 : ∀ ci, fds B ci (wN w t i j x) t' i' = fds B ci w t' i' := fun ci => by simp [fds, fv_wN h]
  unfold en
  simp [wN, upN, h2] at h3 ⊢
  split <;> simp_all
theorem en_wL {B : Nat} {ca : CA} {w : NW} {t i j : Nat} {x : Int64} : ∀ t' i', (t', i') ≠ (t, i) → en B ca (wL w t i j x) t' i' = en B ca w t' i' := by
  intro t' i' h
  have h2 : ∀ q, ¬ (t' = t ∧ i' = i ∧ q = j) := fun q z => h (by rw [z.1, z.2.1])
  have h3 : ∀ ci, fds B ci (wL w t i j x) t' i' = fds B ci w t' i' := fun ci => by simp [fds, fv_wL h]
  have h4 : (fun j' => upL w.2.2.2.1 t i j x t' i' j') = w.2.2.2.1 t' i' := by funext q; simp [upL, h2]
  unfold en
  split <;> simp_all [wL]
theorem en_wR {B : Nat} {ca : CA} {w : NW} {t i j : Nat} {x : Option (Nat × Nat)} : ∀ t' i', (t', i') ≠ (t, i) → en B ca (wR w t i j x) t' i' = en B ca w t' i' := by
  intro t' i' h
  have h2 : ∀ q, ¬ (t' = t ∧ i' = i ∧ q = j) := fun q z => h (by rw [z.1, z.2.1])
  have h3 : ∀ ci, fds B ci (wR w t i j x) t' i' = fds B ci w t' i' := fun ci => by simp [fds, fv_wR h]
  unfold en
  simp [wR, upR, h2] at h3 ⊢
  split <;> simp_all
-- what holds while a method's body runs
abbrev XT : Type := Nat × Nat × (Nat → Int32)
abbrev AW_ : List Cond := lw_tbl.filter goodWord
theorem gAW : GoodIn AW_ AW_ := fun w h => ⟨h, good_of_word (List.mem_filter.mp h).2⟩
/-- the statics of Throwable that a throw reads; the texts of the messages -/
def stX (A : Nat → Prop) (U : State) (H : Heap) : Prop := oxT "UNASSIGNED_STACK" Bundle.steD A U H ∧ oxT "SUPPRESSED_SENTINEL" Bundle.listD A U H
/-- an object of class E is caught by E -/
def oxCa (E : String) (U : State) : Prop := ∃ c : ClassId, U.vm.findClass E = some c ∧ U.vm.assignable c c = true
theorem oxCa.moved {E : String} {u U : State} (hvm : u.vm.Alike U.vm) (h : oxCa E u) : oxCa E U := by
  obtain ⟨c, h1, h2⟩ := h
  exact ⟨c, by rw [hvm.findClass]; exact h1, by rw [hvm.assignable]; exact h2⟩
theorem oxCa.word {E : String} {s : State} {args : Array Value} (h : oxCa E s) : (Cond.castable E E).before args s = true := by
  obtain ⟨c, h1, h2⟩ := h
  simp [Cond.before, Cond.holds, Cond.value, h1, h2]
theorem oxCa.of {E : String} {s : State} {args : Array Value} (h : (Cond.castable E E).before args s = true) : oxCa E s := by
  obtain ⟨c3, c4, h3, h4, h5⟩ := Cond.castable_spec h
  cases Option.some.inj (h3.symm.trans h4)
  exact ⟨_, h3, h5⟩
abbrev DX (n : Nat) : String := ["java/lang/RuntimeException", "java/lang/Exception", "java/lang/Throwable"].getD n ""
def stR (U : State) : Prop := (∀ q ∈ strT, ∃ a : Nat, vk_R q.1 q.2.1 q.2.2 a U) ∧ (∀ q ∈ ncT, va_Nc q.1 q.2 U) ∧ (∀ q ∈ nlT, va_Nw (.methodLinkNest q.1 q.2.1 (yn q.2.2.1) q.2.2.2) U) ∧ va_AO itN U ∧ (∀ n, n < 3 → oxCa (EX n) U) ∧ ∀ n, n < 3 → va_Nw (.declares (Bundle.initS (DX n))) U
abbrev tyT (ca : CA) : List (ClassId × FieldType) := [(ca.1, .int), (ca.2.1, .long), (ca.2.2.1, .object itN), (ca.2.2.2, .boolean)]
def Cx (sc : XT) (k B : Nat) (D : va_G) (ca : CA) (p : Program) (l : Launch) (R : Room) (s : State) (m : MethodId) (args : Array Value) (meth : Method) (c : Code) (A : Nat → Prop) : Prop :=
  (p.tables.exec = Jvm.exec ∧ c.code = cc k ∧ c.maxLocals = mL k ∧ meth.sig.returnType = rt k ∧ meth.locks = false) ∧
  (s.vm.findClass (own k) = some m.cls ∧ (∀ w ∈ AW_, w.before args s = true) ∧ l.stackTraces = false ∧ (fr k ≤ R.frames ∧ lo k ≤ R.locals ∧ mc k ≤ R.cells ∧ ms k ≤ R.slots)) ∧
  (va_K D vwCl (tyT ca) s ∧ (∀ q, s.heap.size ≤ q → A q) ∧ c.exceptionTable.toList = tableOf (hh k) ∧ (ini k = true → meth.name = "<init>")) ∧
  ((stX A s s.heap ∧ ∀ (q : Nat) (cell : Cell), A q → s.heap[q]? = some cell → cell.vm.isStatics = false) ∧ stR s ∧ (k = LAW → va_X sc.1 sc.2.1 sc.2.2 s s.heap ∧ sc.1 < s.heap.size ∧ ¬ A sc.1))
def Wd (B : Nat) (D : va_G) (ca : CA) (A : Nat → Prop) (H0 : Heap) (cells : Nat) (w : NW) (H : Heap) (locs : List Loc) : Prop :=
  va_P D vwCl (wsO B ca w) H ∧ va_D A (wsO B ca w) ∧ va_S A H0 H locs ∧ (w.2.1 = true → H0.size + cells = B + w.1) ∧ w.1 ≤ NN
abbrev QT : Type := (Option AV ⊕ String) → NW → Prop
def Bd (B : Nat) (D : va_G) (ca : CA) (A : Nat → Prop) (n : Nat) (w : NW) (st t : State) : Prop := va_P D vwCl (wsO B ca w) t.heap ∧ va_D A (wsO B ca w) ∧ (w.2.1 = true → st.heap.size + n = B + w.1) ∧ w.1 ≤ NN
/-- the end that Q allows: an answer, or an exception of class E that is a cell -/
def Qo (B : Nat) (D : va_G) (ca : CA) (A : Nat → Prop) (n : Nat) (Q : QT) : State → Outcome → State → Prop := fun st o t => match o with
  | .returned v => ∃ (v0 : Option AV) (w : NW), v = v0.map (gv B) ∧ Q (.inl v0) w ∧ Bd B D ca A n w st t ∧ va_F A st t
  | .threw q => ∃ (E : String) (w : NW) (ce : Cell), (t.heap[q]? = some ce ∧ ce.vm = .none ∧ st.vm.findClass E = some ce.cls) ∧ Q (.inr E) w ∧ Bd B D ca A n w st t ∧ va_F A st t
/-- method k, at pc, with these locals, this stack and this world, comes to an end that Q allows -/
def Sem (sc : XT) (k pc : Nat) (lv : List (Nat × AV)) (st : List AV) (w : NW) (cells slots : Nat) (Q : QT) : Prop :=
  ∀ (B : Nat) (D : va_G) (ca : CA) (p : Program) (l : Launch) (e : Env) (R : Room) (s : State) (m : MethodId) (args : Array Value) (below : List Frame) (meth : Method) (c : Code) (A : Nat → Prop),
    Cx sc k B D ca p l R s m args meth c A → ∀ (H : Heap) (locs : List Loc) (ls : Array Slot), lv_has ls (mL k) (gl B lv) → Wd B D ca A s.heap cells w H locs →
      W p l e R s m args below meth c H locs cells slots (oxZ below (Qo B D ca A (mc k) Q) s (mc k) (ms k) A) (F0 m pc ls (gs B st))
/-- an exception E comes up at pc -/
def SemX (sc : XT) (k pc : Nat) (lv : List (Nat × AV)) (E : String) (w : NW) (cells slots : Nat) (Q : QT) : Prop :=
  ∀ (B : Nat) (D : va_G) (ca : CA) (p : Program) (l : Launch) (e : Env) (R : Room) (s : State) (m : MethodId) (args : Array Value) (below : List Frame) (meth : Method) (c : Code) (A : Nat → Prop),
    Cx sc k B D ca p l R s m args meth c A → ∀ (H : Heap) (locs : List Loc) (ls : Array Slot) (rest : List Value) (q : Addr) (ce : Cell), lv_has ls (mL k) (gl B lv) → Wd B D ca A s.heap cells w H locs → H[q]? = some ce → ce.vm = .none → s.vm.findClass E = some ce.cls →
      oxW p l e R s m args below meth c H locs cells slots (oxZ below (Qo B D ca A (mc k) Q) s (mc k) (ms k) A) (F0 m pc ls rest) q
-- lookups
def lkp (lv : List (Nat × AV)) (i : Nat) : Option AV := match lv with
  | [] => none
  | q :: r => if q.1 = i then some q.2 else lkp r i
theorem lkp_has {B nL : Nat} {ls : Array Slot} : ∀ {lv : List (Nat × AV)} {i : Nat} {v : AV}, lkp lv i = some v → lv_has ls nL (gl B lv) → ls[i]? = some (.val (gv B v)) := by
  intro lv i v h hl
  have key : ∀ (lv : List (Nat × AV)), lkp lv i = some v → ∃ k : Nat, (gl B lv)[k]? = some (i, gv B v) := by
    intro lv
    induction lv with
    | nil => intro h; cases h
    | cons q r ih =>
      intro h
      unfold lkp at h
      by_cases hq : q.1 = i
      · rw [if_pos hq] at h
        cases h
        exact ⟨0, by simp [gl, hq]⟩
      · rw [if_neg hq] at h
        obtain ⟨k, hk⟩ := ih h
        exact ⟨k + 1, by simpa [gl] using hk⟩
  obtain ⟨k, hk⟩ := key lv h
  exact lv_at hl k hk
def st1L (lv : List (Nat × AV)) (i : Nat) (v : AV) : List (Nat × AV) := (i, v) :: lv.filter (fun q => !(q.1 == i) && !(q.1 + 1 == i && ct1 q.2 == 2))
def st2L (lv : List (Nat × AV)) (i : Nat) (v : AV) : List (Nat × AV) := (i, v) :: lv.filter (fun q => !(q.1 == i) && (!(q.1 == i + 1) && !(q.1 + 1 == i && ct1 q.2 == 2)))
theorem st1L_gl (B : Nat) (lv : List (Nat × AV)) (i : Nat) (v : AV) : (i, gv B v) :: (gl B lv).filter (fun q => !(q.1 == i) && !(q.1 + 1 == i && q.2.category == 2)) = gl B (st1L lv i v) := by
  simp only [gl, st1L, List.map_cons, List.filter_map]
  congr 2
  apply List.filter_congr
  intro q _
  simp [ct1_gv]
theorem st2L_gl (B : Nat) (lv : List (Nat × AV)) (i : Nat) (v : AV) : (i, gv B v) :: (gl B lv).filter (fun q => !(q.1 == i) && (!(q.1 == i + 1) && !(q.1 + 1 == i && q.2.category == 2))) = gl B (st2L lv i v) := by
  simp only [gl, st2L, List.map_cons, List.filter_map]
  congr 2
  apply List.filter_congr
  intro q _
  simp [ct1_gv]
-- ints
def toI : AV → Option Int32
  | .inl (.int x) => some x
  | .inr (.inr n) => some (nI n)
  | _ => none
theorem toI_gv {B : Nat} {v : AV} {x : Int32} (h : toI v = some x) : gv B v = .int x := by
  rcases v with v | k | n
  · cases v <;> simp_all [toI, gv]
  · cases h
  · simp_all [toI, gv]
def tn (x : Int32) : Nat := x.toBitVec.toNat
theorem nI_tn (x : Int32) : nI (tn x) = x := by
  apply Int32.toBitVec_inj.mp
  simp [nI, tn, Int32.toBitVec_ofNat]
def toN : AV → Option Nat
  | .inl (.int x) => some (tn x)
  | .inr (.inr n) => some n
  | _ => none
theorem toN_gv {B : Nat} {v : AV} {n : Nat} (h : toN v = some n) : gv B v = .int (nI n) := by
  rcases v with v | k | n
  · cases v <;> simp_all [toN, gv]
    rw [← h, nI_tn]
  · cases h
  · simp_all [toN, gv]
theorem ofI_nat (n : Nat) : Int32.ofInt (Int.ofNat n) = nI n := by
  apply Int32.toBitVec_inj.mp
  simp [nI, Int32.ofInt, Int32.ofNat]
theorem i8_nat {n : Nat} (h : n < 128) : (Int8.ofInt (Int.ofNat n)).toInt32 = nI n := by
  apply Int32.toInt_inj.mp
  rw [nI_toInt (by omega), Int8.toInt_toInt32, Int8.toInt_ofInt]
  simp only [Int.ofNat_eq_natCast]
  rw [Int.bmod_eq_of_le] <;> simp only [Int8.size, Int16.size] <;> omega
theorem i16_nat {n : Nat} (h : n < 32768) : (Int16.ofInt (Int.ofNat n)).toInt32 = nI n := by
  apply Int32.toInt_inj.mp
  rw [nI_toInt (by omega), Int16.toInt_toInt32, Int16.toInt_ofInt]
  simp only [Int.ofNat_eq_natCast]
  rw [Int.bmod_eq_of_le] <;> simp only [Int8.size, Int16.size] <;> omega
def cst (f : Int → Int32) (b : Nat) (n : Int) : AV := match n with
  | .ofNat q => if q < b then aN q else aI (f n)
  | .negSucc _ => aI (f n)
theorem cst_gv (B : Nat) {f : Int → Int32} {b : Nat} (hf : ∀ q, q < b → f (Int.ofNat q) = nI q) (n : Int) : gv B (cst f b n) = .int (f n) := by
  unfold cst
  split
  · split
    · rename_i h; simp only [gv]; rw [hf _ h]
    · rfl
  · rfl
def cs4 (n : Int) : AV := cst Int32.ofInt 6 n
def cs8 (n : Int) : AV := cst (fun z => (Int8.ofInt z).toInt32) 128 n
def cs16 (n : Int) : AV := cst (fun z => (Int16.ofInt z).toInt32) 32768 n
theorem cs4_gv (B : Nat) (n : Int) : gv B (cs4 n) = .int (Int32.ofInt n) := cst_gv B (fun q _ => ofI_nat q) n
theorem cs8_gv (B : Nat) (n : Int) : gv B (cs8 n) = .int (Int8.ofInt n).toInt32 := cst_gv B (f := fun z => (Int8.ofInt z).toInt32) (fun _ h => i8_nat h) n
theorem cs16_gv (B : Nat) (n : Int) : gv B (cs16 n) = .int (Int16.ofInt n).toInt32 := cst_gv B (f := fun z => (Int16.ofInt z).toInt32) (fun _ h => i16_nat h) n
def isA : AV → Bool
  | .inl (.ref _) => true
  | .inr (.inl _) => true
  | _ => false
theorem isA_gv {B : Nat} {v : AV} (h : isA v = true) : ∃ a : Nat, gv B v = .ref a := by
  rcases v with v | k | n
  · cases v <;> simp_all [isA, gv]
  · exact ⟨_, rfl⟩
  · cases h
def addA (u v : AV) : Option AV := match u, v with
  | .inr (.inr a), .inr (.inr b) => some (aN (a + b))
  | u, v => match toI u, toI v with
    | some x, some y => some (aI (x + y))
    | _, _ => none
def mulA (u v : AV) : Option AV := match u, v with
  | .inr (.inr a), .inr (.inr b) => some (aN (a * b))
  | u, v => match toI u, toI v with
    | some x, some y => some (aI (x * y))
    | _, _ => none
def subA (u v : AV) : Option AV := match toI u, toI v with
  | some x, some y => some (aI (x - y))
  | _, _ => none
theorem addA_gv {B : Nat} {u v z : AV} (h : addA u v = some z) : ∃ x y : Int32, gv B u = .int x ∧ gv B v = .int y ∧ gv B z = .int (x + y) := by
  unfold addA at h
  split at h
  · cases h; exact ⟨_, _, rfl, rfl, by simp [gv, nI_add]⟩
  · split at h
    · rename_i hx hy; cases h; exact ⟨_, _, toI_gv hx, toI_gv hy, rfl⟩
    · cases h
theorem mulA_gv {B : Nat} {u v z : AV} (h : mulA u v = some z) : ∃ x y : Int32, gv B u = .int x ∧ gv B v = .int y ∧ gv B z = .int (x * y) := by
  unfold mulA at h
  split at h
  · cases h; exact ⟨_, _, rfl, rfl, by simp [gv, pk_mul]⟩
  · split at h
    · rename_i hx hy; cases h; exact ⟨_, _, toI_gv hx, toI_gv hy, rfl⟩
    · cases h
theorem subA_gv {B : Nat} {u v z : AV} (h : subA u v = some z) : ∃ x y : Int32, gv B u = .int x ∧ gv B v = .int y ∧ gv B z = .int (x - y) := by
  unfold subA at h
  split at h
  · rename_i hx hy; cases h; exact ⟨_, _, toI_gv hx, toI_gv hy, rfl⟩
  · cases h
def incA (u : AV) (n : Int) : Option AV := match u with
  | .inr (.inr a) => (match n with
    | .ofNat q => some (aN (a + q))
    | .negSucc _ => some (aI (nI a + Int32.ofInt n)))
  | .inl (.int x) => some (aI (x + Int32.ofInt n))
  | _ => none
theorem incA_gv {B : Nat} {u z : AV} {n : Int} (h : incA u n = some z) : ∃ x : Int32, gv B u = .int x ∧ gv B z = .int (x + Int32.ofInt n) := by
  unfold incA at h
  split at h
  · split at h
    · cases h; exact ⟨_, rfl, by rw [ofI_nat, nI_add]; rfl⟩
    · cases h; exact ⟨_, rfl, rfl⟩
  · cases h; exact ⟨_, rfl, rfl⟩
  · cases h
def intA (f : Int32 → Int32 → Int32) (u v : AV) : Option AV := match toI u, toI v with
  | some x, some y => some (aI (f x y))
  | _, _ => none
def andA (u v : AV) : Option AV := intA (fun x y => x &&& y) u v
def orA (u v : AV) : Option AV := intA (fun x y => x ||| y) u v
def shlA (u v : AV) : Option AV := intA (fun x y => x <<< (y &&& 31)) u v
def shrA (u v : AV) : Option AV := intA (fun x y => x >>> (y &&& 31)) u v
theorem intA_gv {B : Nat} {f : Int32 → Int32 → Int32} {u v z : AV} (h : intA f u v = some z) : ∃ x y : Int32, gv B u = .int x ∧ gv B v = .int y ∧ gv B z = .int (f x y) := by
  unfold intA at h
  split at h
  · rename_i hx hy; cases h; exact ⟨_, _, toI_gv hx, toI_gv hy, rfl⟩
  · cases h
def divA (u v : AV) : Option (AV × List Prop) := match u, v with
  | .inr (.inr a), .inr (.inr b) => some (aN (a / b), [a < 2 ^ 31, 0 < b, b < 2 ^ 31])
  | _, _ => none
def remA (u v : AV) : Option (AV × List Prop) := match u, v with
  | .inr (.inr a), .inr (.inr b) => some (aN (a % b), [a < 2 ^ 31, 0 < b, b < 2 ^ 31])
  | _, _ => none
end
section
-- one instruction of a straight stretch
def ln : Instr → Nat
  | .bipush _ => 2
  | .sipush _ => 3
  | .iload _ => 2
  | .lload _ => 2
  | .aload _ => 2
  | .istore _ => 2
  | .lstore _ => 2
  | .astore _ => 2
  | .iinc _ _ => 3
  | .ldc _ => 2
  | .ldc2_w _ => 3
  | .getfield _ => 3
  | .putfield _ => 3
  | _ => 1
abbrev SR : Type := Option (List (Nat × AV) × List AV × NW × List Prop)
def isI (v : AV) : Bool := (toI v).isSome
def isL : AV → Bool
  | .inl (.long _) => true
  | _ => false
def ldX (ok : AV → Bool) (lv : List (Nat × AV)) (st : List AV) (w : NW) (i : Nat) : SR := match lkp lv i with
  | some v => if ok v = true then some (lv, v :: st, w, []) else none
  | none => none
def stX1 (ok : AV → Bool) (nL : Nat) (lv : List (Nat × AV)) (st : List AV) (w : NW) (i : Nat) : SR := match st with
  | v :: r => if ok v = true ∧ i < nL then some (st1L lv i v, r, w, []) else none
  | _ => none
def stX2 (nL : Nat) (lv : List (Nat × AV)) (st : List AV) (w : NW) (i : Nat) : SR := match st with
  | .inl (.long x) :: r => if i + 1 < nL then some (st2L lv i (aL x), r, w, []) else none
  | _ => none
def bin (f : AV → AV → Option AV) (lv : List (Nat × AV)) (st : List AV) (w : NW) : SR := match st with
  | v :: u :: r => match f u v with
    | some z => some (lv, z :: r, w, [])
    | none => none
  | _ => none
def binL (f : Int64 → Int64 → Int64) (lv : List (Nat × AV)) (st : List AV) (w : NW) (c : Int64 → List Prop) : SR := match st with
  | .inl (.long y) :: .inl (.long x) :: r => some (lv, aL (f x y) :: r, w, c y)
  | _ => none
def binC (f : AV → AV → Option (AV × List Prop)) (lv : List (Nat × AV)) (st : List AV) (w : NW) : SR := match st with
  | v :: u :: r => match f u v with
    | some (z, P) => some (lv, z :: r, w, P)
    | none => none
  | _ => none
def getF (h : Nat × Nat) (lv : List (Nat × AV)) (st : List AV) (w : NW) : SR := match st with
  | .inr (.inl (t, i)) :: r => if kd t = (3, h.1) then some (lv, fv h.1 h.2 w t i :: r, w, [vld w.1 t i]) else none
  | _ => none
def putF (k : Nat) (h : Nat × Nat) (lv : List (Nat × AV)) (st : List AV) (w : NW) : SR := match st with
  | v :: .inr (.inl (t, i)) :: r => if kd t = (3, h.1) then (match ftk h.1 h.2 with
      | 0 => match toN v with
        | some x => if ffn h.1 h.2 = false then some (lv, r, wN w t i h.2 x, [vld w.1 t i]) else none
        | none => none
      | 3 => match toN v with
        | some x => if ffn h.1 h.2 = false then some (lv, r, wN w t i h.2 x, [vld w.1 t i, x = 0 ∨ x = 1]) else none
        | none => none
      | 2 => match v with
        | .inr (.inl q) => if ini k = true ∧ ffn h.1 h.2 = true ∧ h.1 = mo k then some (lv, r, wR w t i h.2 (some q), [vld w.1 t i]) else none
        | _ => none
      | _ => none) else none
  | _ => none
def aldN (lv : List (Nat × AV)) (st : List AV) (w : NW) : SR := match st with
  | .inr (.inr j) :: .inr (.inl (t, i)) :: r => match kd t with
    | (0, n) => some (lv, aN (w.2.2.1 t i j) :: r, w, [vld w.1 t i, j < n])
    | _ => none
  | _ => none
def aldL (lv : List (Nat × AV)) (st : List AV) (w : NW) : SR := match st with
  | .inr (.inr j) :: .inr (.inl (t, i)) :: r => match kd t with
    | (1, n) => some (lv, aL (w.2.2.2.1 t i j) :: r, w, [vld w.1 t i, j < n])
    | _ => none
  | _ => none
def aldR (lv : List (Nat × AV)) (st : List AV) (w : NW) : SR := match st with
  | .inr (.inr j) :: .inr (.inl (t, i)) :: r => match kd t with
    | (2, n) => some (lv, rv (w.2.2.2.2 t i j) :: r, w, [vld w.1 t i, j < n])
    | _ => none
  | _ => none
def aldZ (lv : List (Nat × AV)) (st : List AV) (w : NW) : SR := match st with
  | .inr (.inr j) :: .inr (.inl (t, i)) :: r => match kd t with
    | (4, n) => some (lv, aN (w.2.2.1 t i j) :: r, w, [vld w.1 t i, j < n])
    | _ => none
  | _ => none
def astZ (lv : List (Nat × AV)) (st : List AV) (w : NW) : SR := match st with
  | v :: .inr (.inr j) :: .inr (.inl (t, i)) :: r => match toN v with
    | some x => match kd t with
      | (4, n) => some (lv, r, wN w t i j x, [vld w.1 t i, j < n, x = 0 ∨ x = 1])
      | _ => none
    | none => none
  | _ => none
def astN (lv : List (Nat × AV)) (st : List AV) (w : NW) : SR := match st with
  | v :: .inr (.inr j) :: .inr (.inl (t, i)) :: r => match toN v with
    | some x => match kd t with
      | (0, n) => some (lv, r, wN w t i j x, [vld w.1 t i, j < n])
      | _ => none
    | none => none
  | _ => none
def astL (lv : List (Nat × AV)) (st : List AV) (w : NW) : SR := match st with
  | .inl (.long x) :: .inr (.inr j) :: .inr (.inl (t, i)) :: r => match kd t with
    | (1, n) => some (lv, r, wL w t i j x, [vld w.1 t i, j < n])
    | _ => none
  | _ => none
def alen (lv : List (Nat × AV)) (st : List AV) (w : NW) : SR := match st with
  | .inr (.inl (t, i)) :: r => match kd t with
    | (0, n) => some (lv, aN n :: r, w, [vld w.1 t i])
    | (1, n) => some (lv, aN n :: r, w, [vld w.1 t i])
    | (2, n) => some (lv, aN n :: r, w, [vld w.1 t i])
    | _ => none
  | _ => none
def fI2l (lv : List (Nat × AV)) (st : List AV) (w : NW) : SR := match st with
  | v :: r => match toI v with
    | some x => some (lv, aL x.toInt64 :: r, w, [])
    | none => none
  | _ => none
def fDup (lv : List (Nat × AV)) (st : List AV) (w : NW) : SR := match st with
  | v :: r => if ct1 v = 1 then some (lv, v :: v :: r, w, []) else none
  | _ => none
def fPop (lv : List (Nat × AV)) (st : List AV) (w : NW) : SR := match st with
  | v :: r => if ct1 v = 1 then some (lv, r, w, []) else none
  | _ => none
def fDup2 (lv : List (Nat × AV)) (st : List AV) (w : NW) : SR := match st with
  | v :: r => if ct1 v = 2 then some (lv, v :: v :: r, w, []) else (match r with
    | u :: r' => if ct1 v = 1 ∧ ct1 u = 1 then some (lv, v :: u :: v :: u :: r', w, []) else none
    | _ => none)
  | _ => none
def st1 (k : Nat) (ins : Instr) (h : Nat × Nat) (lv : List (Nat × AV)) (st : List AV) (w : NW) : SR := match ins with
  | .iconst n => some (lv, cs4 n :: st, w, [])
  | .bipush n => some (lv, cs8 n :: st, w, [])
  | .sipush n => some (lv, cs16 n :: st, w, [])
  | .lconst n => some (lv, aL (Int64.ofNat n.val) :: st, w, [])
  | .ldc _ => some (lv, aN h.1 :: st, w, [])
  | .ldc2_w _ => some (lv, aL (Int64.ofNat h.1) :: st, w, [])
  | .iload_n j => ldX isI lv st w j.val
  | .iload j => ldX isI lv st w j
  | .lload_n j => ldX isL lv st w j.val
  | .lload j => ldX isL lv st w j
  | .aload_n j => ldX isA lv st w j.val
  | .aload j => ldX isA lv st w j
  | .istore_n j => stX1 isI (mL k) lv st w j.val
  | .istore j => stX1 isI (mL k) lv st w j
  | .astore_n j => stX1 isA (mL k) lv st w j.val
  | .astore j => stX1 isA (mL k) lv st w j
  | .lstore_n j => stX2 (mL k) lv st w j.val
  | .lstore j => stX2 (mL k) lv st w j
  | .iinc i n => match lkp lv i with
    | some u => match incA u n with
      | some z => if i < mL k then some (st1L lv i z, st, w, []) else none
      | none => none
    | none => none
  | .iadd => bin addA lv st w
  | .imul => bin mulA lv st w
  | .isub => bin subA lv st w
  | .ladd => binL (· + ·) lv st w (fun _ => [])
  | .lsub => binL (· - ·) lv st w (fun _ => [])
  | .lmul => binL (· * ·) lv st w (fun _ => [])
  | .ldiv => binL (· / ·) lv st w (fun y => [¬ y = 0])
  | .i2l => fI2l lv st w
  | .dup => fDup lv st w
  | .pop => fPop lv st w
  | .dup2 => fDup2 lv st w
  | .getfield _ => getF h lv st w
  | .putfield _ => putF k h lv st w
  | .baload => aldZ lv st w
  | .bastore => astZ lv st w
  | .iand => bin andA lv st w
  | .ior => bin orA lv st w
  | .ishl => bin shlA lv st w
  | .ishr => bin shrA lv st w
  | .idiv => binC divA lv st w
  | .irem => binC remA lv st w
  | .iaload => aldN lv st w
  | .laload => aldL lv st w
  | .aaload => aldR lv st w
  | .iastore => astN lv st w
  | .lastore => astL lv st w
  | .arraylength => alen lv st w
  | _ => none
def allP : List Prop → Prop
  | [] => True
  | [q] => q
  | q :: r => q ∧ allP r
theorem allP_c {q : Prop} {r : List Prop} (h : allP (q :: r)) : q ∧ allP r := by
  cases r with
  | nil => exact ⟨h, trivial⟩
  | cons a b => exact h
theorem allP_app {a b : List Prop} (h : allP (a ++ b)) : allP a ∧ allP b := by
  induction a with
  | nil => exact ⟨trivial, h⟩
  | cons q r ih =>
    obtain ⟨h1, h2⟩ := allP_c h
    obtain ⟨h3, h4⟩ := ih h2
    refine ⟨?_, h4⟩
    cases r with
    | nil => exact h1
    | cons a b => exact ⟨h1, h3⟩
def GF (o idx ci j : Nat) : Prop := ∀ (C : String) (T : u_T) (N : Nat), vwCl[ci]? = some (C, T, N) → j < N ∧ Cond.fieldLink (RN o) idx (T j).1 (T j).2.1 (T j).2.2.1 ∈ AW_ ∧ (T j).2.2.2 = ffn ci j ∧ (T j).1 = C
/-- what a hint must say -/
def hkP (k : Nat) (ins : Instr) (h : Nat × Nat) : Prop := match ins with
  | .getfield idx => GF (mo k) idx h.1 h.2
  | .putfield idx => GF (mo k) idx h.1 h.2
  | .ldc idx => Cond.constant (RN (mo k)) idx (nI h.1) ∈ AW_
  | .ldc2_w idx => Cond.constantLong (RN (mo k)) idx (Int64.ofNat h.1) ∈ AW_
  | _ => True
abbrev IH : Type := Instr × Nat × Nat
def okS (k : Nat) : Nat → List IH → Prop
  | _, [] => True
  | pc, i :: r => (decode (cc k) pc = .ok (i.1, ln i.1) ∧ hkP k i.1 i.2) ∧ okS k (pc + ln i.1) r
def stS (k : Nat) : List IH → List (Nat × AV) → List AV → NW → SR
  | [], lv, st, w => some (lv, st, w, [])
  | i :: r, lv, st, w => match st1 k i.1 i.2 lv st w with
    | some (lv1, st1, w1, P1) => match stS k r lv1 st1 w1 with
      | some (lv2, st2, w2, P2) => some (lv2, st2, w2, P1 ++ P2)
      | none => none
    | none => none
def lnS : List IH → Nat
  | [] => 0
  | i :: r => ln i.1 + lnS r
end
section
-- ===== facts of the tables =====
theorem aw {w : Cond} (h : w ∈ lw_tbl) (g : goodWord w = true) : w ∈ AW_ := List.mem_filter.mpr ⟨h, g⟩
theorem awT {w : Cond} (i : Nat) (h : tables_1[i]? = some w) (g : goodWord w = true) : w ∈ AW_ := aw (List.mem_append_right _ (List.mem_of_getElem? h)) g
theorem awP {w : Cond} (i : Nat) (h : (k2_sels lw_privs)[i]? = some w) (g : goodWord w = true) : w ∈ AW_ := aw (List.mem_append_left _ (List.mem_of_getElem? h)) g
theorem awA {ws : List Cond} (h : ∀ w ∈ ws, w ∈ lw_tbl) (g : ∀ w ∈ ws, goodWord w = true) : ∀ w ∈ ws, w ∈ AW_ := fun w hw => aw (h w hw) (g w hw)
def tyOK (f : Nat) (ty : FieldType) : Prop := match f with
  | 0 => ty = .int
  | 3 => ty = .boolean
  | 1 => ty = .long
  | _ => (∃ n, ty = .object n) ∨ ∃ t, ty = .array t
def CK (ci : Nat) : Prop := ∃ (C : String) (T : u_T) (ty : Nat → FieldType), vwCl[ci]? = some (C, T, fn ci) ∧ (∀ w ∈ u_ws C T (fn ci), w ∈ AW_) ∧ (∀ k, k < fn ci → parseFieldDescriptor (T k).2.2.1 = some (ty k)) ∧ (∀ a, a < fn ci → ∀ b, b < fn ci → a ≠ b → (T a).2.1 ≠ (T b).2.1) ∧ (∀ k, k < fn ci → tyOK (ftk ci k) (ty k))
def tyB (f : Nat) (ty : FieldType) : Bool := match f, ty with
  | 0, .int => true
  | 3, .boolean => true
  | 1, .long => true
  | 2, .object _ => true
  | 2, .array _ => true
  | _, _ => false
theorem tyB_ok {f : Nat} {ty : FieldType} (h : tyB f ty = true) : tyOK f ty := by
  unfold tyB at h
  split at h
  · rfl
  · rfl
  · rfl
  · exact Or.inl ⟨_, rfl⟩
  · exact Or.inr ⟨_, rfl⟩
  · cases h
set_option maxRecDepth 100000 in
theorem ck0 : CK 0 := ⟨RN 0, TT0, ty0, rfl, awA (by decide +kernel) (by decide +kernel), by decide +kernel, by decide +kernel, fun k hk => tyB_ok ((show ∀ k, k < fn 0 → tyB (ftk 0 k) (ty0 k) = true by decide +kernel) k hk)⟩
set_option maxRecDepth 100000 in
theorem ck1 : CK 1 := ⟨RN 1, TT1, ty1, rfl, awA (by decide +kernel) (by decide +kernel), by decide +kernel, by decide +kernel, fun k hk => tyB_ok ((show ∀ k, k < fn 1 → tyB (ftk 1 k) (ty1 k) = true by decide +kernel) k hk)⟩
set_option maxRecDepth 100000 in
theorem ck2 : CK 2 := ⟨RN 2, TT2, ty2, rfl, awA (by decide +kernel) (by decide +kernel), by decide +kernel, by decide +kernel, fun k hk => tyB_ok ((show ∀ k, k < fn 2 → tyB (ftk 2 k) (ty2 k) = true by decide +kernel) k hk)⟩
set_option maxRecDepth 100000 in
theorem ck3 : CK 3 := ⟨RN 3, TT3, ty3, rfl, awA (by decide +kernel) (by decide +kernel), by decide +kernel, by decide +kernel, fun k hk => tyB_ok ((show ∀ k, k < fn 3 → tyB (ftk 3 k) (ty3 k) = true by decide +kernel) k hk)⟩
set_option maxRecDepth 100000 in
theorem ck4 : CK 4 := ⟨RN 4, TT4, ty4, rfl, awA (by decide +kernel) (by decide +kernel), by decide +kernel, by decide +kernel, fun k hk => tyB_ok ((show ∀ k, k < fn 4 → tyB (ftk 4 k) (ty4 k) = true by decide +kernel) k hk)⟩
set_option maxRecDepth 100000 in
theorem ck5 : CK 5 := ⟨RN 5, TT5, ty5, rfl, awA (by decide +kernel) (by decide +kernel), by decide +kernel, by decide +kernel, fun k hk => tyB_ok ((show ∀ k, k < fn 5 → tyB (ftk 5 k) (ty5 k) = true by decide +kernel) k hk)⟩
theorem kd3 {t ci : Nat} (h : kd t = (3, ci)) : ci < 6 := by
  have h1 : t < 48 := by
    rcases Nat.lt_or_ge t 48 with q | q
    · exact q
    · exfalso
      unfold kd at h
      rw [List.getD_eq_getElem?_getD, List.getElem?_eq_none (by simpa using q)] at h
      cases h
  have h3 : ∀ t, t < 48 → (kd t).1 = 3 → (kd t).2 < 6 := by decide +kernel
  have := h3 t h1 (by rw [h])
  rw [h] at this
  exact this
theorem ck_ok {t ci : Nat} (h : kd t = (3, ci)) : CK ci := by
  have h6 := kd3 h
  match ci, h6 with
  | 0, _ => exact ck0
  | 1, _ => exact ck1
  | 2, _ => exact ck2
  | 3, _ => exact ck3
  | 4, _ => exact ck4
  | 5, _ => exact ck5
theorem vwCl_name {ci N : Nat} {C : String} {T : u_T} (h : vwCl[ci]? = some (C, T, N)) : C = RN ci := by
  match ci, h with
  | 0, h => cases h; rfl
  | 1, h => cases h; rfl
  | 2, h => cases h; rfl
  | 3, h => cases h; rfl
  | 4, h => cases h; rfl
  | 5, h => cases h; rfl
  | n + 6, h => cases h
theorem fn_lt {ci j : Nat} (h : j < fn ci) : ci < 6 ∧ j < 27 := by
  have h1 : ci < 6 := by
    rcases Nat.lt_or_ge ci 6 with q | q
    · exact q
    · exfalso
      unfold fn at h
      rw [List.getD_eq_getElem?_getD, List.getElem?_eq_none (by simpa using q)] at h
      exact absurd h (Nat.not_lt_zero _)
  refine ⟨h1, ?_⟩
  have h2 : ∀ ci, ci < 6 → fn ci ≤ 27 := by decide +kernel
  exact Nat.lt_of_lt_of_le h (h2 ci h1)
theorem ft2 {ci j : Nat} (h : j < fn ci) (n1 : ftk ci j = 0 → False) (n2 : ftk ci j = 3 → False) (n3 : ftk ci j = 1 → False) : ftk ci j = 2 := by
  obtain ⟨h1, h2⟩ := fn_lt h
  have h3 : ∀ ci, ci < 6 → ∀ j, j < 27 → ftk ci j < 4 := by decide +kernel
  have h4 := h3 ci h1 j h2
  have a1 : ftk ci j ≠ 0 := n1
  have a2 : ftk ci j ≠ 3 := n2
  have a3 : ftk ci j ≠ 1 := n3
  generalize ftk ci j = z at h4 a1 a2 a3 ⊢
  omega
end
section
theorem fds_at {B ci j : Nat} {w : NW} {t i : Nat} (h : j < fn ci) : (fds B ci w t i)[j]? = some (gv B (fv ci j w t i)) := by
  simp [fds, List.getElem?_map, List.getElem?_range h]
theorem fds_set {B ci j : Nat} {w w' : NW} {t i : Nat} {v : Value} (h : j < fn ci) (h1 : gv B (fv ci j w' t i) = v) (h2 : ∀ q, q ≠ j → fv ci q w' t i = fv ci q w t i) : (fds B ci w t i).set j v = fds B ci w' t i := by
  apply List.ext_getElem?
  intro q
  by_cases hq : q = j
  · subst hq
    rw [List.getElem?_set_self (by simp [fds]; exact h), fds_at h, h1]
  · rw [List.getElem?_set_ne (Ne.symm hq)]
    by_cases hl : q < fn ci
    · rw [fds_at hl, fds_at hl, h2 q hq]
    · simp [fds, hl]
theorem en_obj {B : Nat} {ca : CA} {w : NW} {t i ci : Nat} (h : kd t = (3, ci)) : en B ca w t i = .inr (ci, fds B ci w t i) := by simp [en, h]
theorem en_int {B : Nat} {ca : CA} {w : NW} {t i n : Nat} (h : kd t = (0, n)) : en B ca w t i = .inl (ca.1, n, .inl (fun j => nI (w.2.2.1 t i j))) := by simp [en, h]
theorem en_lng {B : Nat} {ca : CA} {w : NW} {t i n : Nat} (h : kd t = (1, n)) : en B ca w t i = .inl (ca.2.1, n, .inr (.inl (w.2.2.2.1 t i))) := by simp [en, h]
theorem en_bl {B : Nat} {ca : CA} {w : NW} {t i n : Nat} (h : kd t = (4, n)) : en B ca w t i = .inl (ca.2.2.2, n, .inl (fun j => nI (w.2.2.1 t i j))) := by simp [en, h]
theorem en_rf {B : Nat} {ca : CA} {w : NW} {t i n : Nat} (h : kd t = (2, n)) : en B ca w t i = .inl (ca.2.2.1, n, .inr (.inr (.inr (.inr (fun j => (w.2.2.2.2 t i j).map (fun k => B + od k.1 k.2)))))) := by simp [en, h]
theorem rv_gv (B : Nat) (o : Option (Nat × Nat)) : va_rf (o.map (fun k => B + od k.1 k.2)) = gv B (rv o) := by
  cases o <;> rfl
section Go
variable {sc : XT} {k B : Nat} {D : va_G} {ca : CA} {p : Program} {l : Launch} {e : Env} {R : Room} {s : State} {m : MethodId} {args : Array Value} {below : List Frame} {meth : Method} {c : Code} {A : Nat → Prop} {Q : State → Prop} {cells slots : Nat}
/-- the goal at pc, for every heap that holds the world -/
def Go (k B : Nat) (D : va_G) (ca : CA) (p : Program) (l : Launch) (e : Env) (R : Room) (s : State) (m : MethodId) (args : Array Value) (below : List Frame) (meth : Method) (c : Code) (A : Nat → Prop) (Q : State → Prop) (pc : Nat) (lv : List (Nat × AV)) (st : List AV) (w : NW) (cells slots : Nat) : Prop :=
  ∀ (H : Heap) (locs : List Loc) (ls : Array Slot), lv_has ls (mL k) (gl B lv) → Wd B D ca A s.heap cells w H locs → W p l e R s m args below meth c H locs cells slots Q (F0 m pc ls (gs B st))
variable {pc : Nat} {lv : List (Nat × AV)} {st : List AV} {w : NW}
theorem go_iconst (C : Cx sc k B D ca p l R s m args meth c A) {n : Int} (hd : decode (cc k) pc = .ok (.iconst n, 1)) (kk : Go k B D ca p l e R s m args below meth c A Q (pc + 1) lv (cs4 n :: st) w cells slots) : Go k B D ca p l e R s m args below meth c A Q pc lv st w cells slots := by
  intro H locs ls hl hw
  obtain ⟨⟨hx, hb, -⟩, -⟩ := C
  have h1 := kk H locs ls hl hw
  rw [gs, List.map_cons, cs4_gv] at h1
  exact lv_iconst hx hb hd rfl h1
theorem go_bipush (C : Cx sc k B D ca p l R s m args meth c A) {n : Int} (hd : decode (cc k) pc = .ok (.bipush n, 2)) (kk : Go k B D ca p l e R s m args below meth c A Q (pc + 2) lv (cs8 n :: st) w cells slots) : Go k B D ca p l e R s m args below meth c A Q pc lv st w cells slots := by
  intro H locs ls hl hw
  obtain ⟨⟨hx, hb, -⟩, -⟩ := C
  have h1 := kk H locs ls hl hw
  rw [gs, List.map_cons, cs8_gv] at h1
  exact lv_bipush hx hb hd rfl h1
theorem go_sipush (C : Cx sc k B D ca p l R s m args meth c A) {n : Int} (hd : decode (cc k) pc = .ok (.sipush n, 3)) (kk : Go k B D ca p l e R s m args below meth c A Q (pc + 3) lv (cs16 n :: st) w cells slots) : Go k B D ca p l e R s m args below meth c A Q pc lv st w cells slots := by
  intro H locs ls hl hw
  obtain ⟨⟨hx, hb, -⟩, -⟩ := C
  have h1 := kk H locs ls hl hw
  rw [gs, List.map_cons, cs16_gv] at h1
  exact lv_sipush hx hb hd rfl h1
theorem go_lconst (C : Cx sc k B D ca p l R s m args meth c A) {n : Fin 2} (hd : decode (cc k) pc = .ok (.lconst n, 1)) (kk : Go k B D ca p l e R s m args below meth c A Q (pc + 1) lv (aL (Int64.ofNat n.val) :: st) w cells slots) : Go k B D ca p l e R s m args below meth c A Q pc lv st w cells slots := by
  intro H locs ls hl hw
  obtain ⟨⟨hx, hb, -⟩, -⟩ := C
  exact lv_lconst hx hb hd rfl (kk H locs ls hl hw)
theorem go_ldI (C : Cx sc k B D ca p l R s m args meth c A) {i : Nat} {lv' : List (Nat × AV)} {st' : List AV} {w' : NW} {P : List Prop} (h : ldX isI lv st w i = some (lv', st', w', P)) {q : Nat} (hrow : ∀ (H : Heap) (locs : List Loc) (ls : Array Slot) (x : Int32), ls[i]? = some (.val (.int x)) → W p l e R s m args below meth c H locs cells slots Q (F0 m q ls (.int x :: gs B st)) → W p l e R s m args below meth c H locs cells slots Q (F0 m pc ls (gs B st))) (kk : Go k B D ca p l e R s m args below meth c A Q q lv' st' w' cells slots) : Go k B D ca p l e R s m args below meth c A Q pc lv st w cells slots := by
  intro H locs ls hl hw
  unfold ldX at h
  split at h
  · rename_i v hv
    split at h
    · rename_i ho
      cases h
      have h1 := kk H locs ls hl hw
      obtain ⟨x, hx⟩ := Option.isSome_iff_exists.mp ho
      have h2 := lkp_has hv hl
      rw [toI_gv hx] at h2
      refine hrow H locs ls x h2 ?_
      rw [gs, List.map_cons, toI_gv hx] at h1
      exact h1
    · cases h
  · cases h
theorem go_ldL (C : Cx sc k B D ca p l R s m args meth c A) {i : Nat} {lv' : List (Nat × AV)} {st' : List AV} {w' : NW} {P : List Prop} (h : ldX isL lv st w i = some (lv', st', w', P)) {q : Nat} (hrow : ∀ (H : Heap) (locs : List Loc) (ls : Array Slot) (x : Int64), ls[i]? = some (.val (.long x)) → W p l e R s m args below meth c H locs cells slots Q (F0 m q ls (.long x :: gs B st)) → W p l e R s m args below meth c H locs cells slots Q (F0 m pc ls (gs B st))) (kk : Go k B D ca p l e R s m args below meth c A Q q lv' st' w' cells slots) : Go k B D ca p l e R s m args below meth c A Q pc lv st w cells slots := by
  intro H locs ls hl hw
  unfold ldX at h
  split at h
  · rename_i v hv
    split at h
    · rename_i ho
      cases h
      have h1 := kk H locs ls hl hw
      have h2 := lkp_has hv hl
      rcases v with v | q | n
      · cases v with
        | long x => exact hrow H locs ls x h2 h1
        | _ => cases ho
      · cases ho
      · cases ho
    · cases h
  · cases h
theorem go_ldA (C : Cx sc k B D ca p l R s m args meth c A) {i : Nat} {lv' : List (Nat × AV)} {st' : List AV} {w' : NW} {P : List Prop} (h : ldX isA lv st w i = some (lv', st', w', P)) {q : Nat} (hrow : ∀ (H : Heap) (locs : List Loc) (ls : Array Slot) (x : Nat), ls[i]? = some (.val (.ref x)) → W p l e R s m args below meth c H locs cells slots Q (F0 m q ls (.ref x :: gs B st)) → W p l e R s m args below meth c H locs cells slots Q (F0 m pc ls (gs B st))) (kk : Go k B D ca p l e R s m args below meth c A Q q lv' st' w' cells slots) : Go k B D ca p l e R s m args below meth c A Q pc lv st w cells slots := by
  intro H locs ls hl hw
  unfold ldX at h
  split at h
  · rename_i v hv
    split at h
    · rename_i ho
      cases h
      have h1 := kk H locs ls hl hw
      have h2 := lkp_has hv hl
      obtain ⟨a, ha⟩ := isA_gv (B := B) ho
      rw [ha] at h2
      refine hrow H locs ls a h2 ?_
      rw [gs, List.map_cons, ha] at h1
      exact h1
    · cases h
  · cases h
theorem go_stI (C : Cx sc k B D ca p l R s m args meth c A) {i : Nat} {lv' : List (Nat × AV)} {st' : List AV} {w' : NW} {P : List Prop} (h : stX1 isI (mL k) lv st w i = some (lv', st', w', P)) {q : Nat} (hrow : ∀ (H : Heap) (locs : List Loc) (ls : Array Slot) (x : Int32) (r : List Value) (l1 l2 : List (Nat × Value)), lv_has ls (mL k) l1 → i < mL k → (i, Value.int x) :: l1.filter (fun q => !(q.1 == i) && !(q.1 + 1 == i && q.2.category == 2)) = l2 → (∀ ls' : Array Slot, lv_has ls' (mL k) l2 → W p l e R s m args below meth c H locs cells slots Q (F0 m q ls' r)) → W p l e R s m args below meth c H locs cells slots Q (F0 m pc ls (.int x :: r))) (kk : Go k B D ca p l e R s m args below meth c A Q q lv' st' w' cells slots) : Go k B D ca p l e R s m args below meth c A Q pc lv st w cells slots := by
  intro H locs ls hl hw
  unfold stX1 at h
  split at h
  · rename_i v r
    split at h
    · rename_i ho
      cases h
      obtain ⟨x, hx⟩ := Option.isSome_iff_exists.mp ho.1
      rw [gs, List.map_cons, toI_gv hx]
      refine hrow H locs ls x _ _ _ hl ho.2 (by rw [← toI_gv (B := B) hx]; exact st1L_gl B lv i v) (fun ls' hl' => kk H locs ls' hl' hw)
    · cases h
  · cases h
theorem go_stA (C : Cx sc k B D ca p l R s m args meth c A) {i : Nat} {lv' : List (Nat × AV)} {st' : List AV} {w' : NW} {P : List Prop} (h : stX1 isA (mL k) lv st w i = some (lv', st', w', P)) {q : Nat} (hrow : ∀ (H : Heap) (locs : List Loc) (ls : Array Slot) (x : Nat) (r : List Value) (l1 l2 : List (Nat × Value)), lv_has ls (mL k) l1 → i < mL k → (i, Value.ref x) :: l1.filter (fun q => !(q.1 == i) && !(q.1 + 1 == i && q.2.category == 2)) = l2 → (∀ ls' : Array Slot, lv_has ls' (mL k) l2 → W p l e R s m args below meth c H locs cells slots Q (F0 m q ls' r)) → W p l e R s m args below meth c H locs cells slots Q (F0 m pc ls (.ref x :: r))) (kk : Go k B D ca p l e R s m args below meth c A Q q lv' st' w' cells slots) : Go k B D ca p l e R s m args below meth c A Q pc lv st w cells slots := by
  intro H locs ls hl hw
  unfold stX1 at h
  split at h
  · rename_i v r
    split at h
    · rename_i ho
      cases h
      obtain ⟨a, ha⟩ := isA_gv (B := B) ho.1
      rw [gs, List.map_cons, ha]
      refine hrow H locs ls a _ _ _ hl ho.2 (by rw [← ha]; exact st1L_gl B lv i v) (fun ls' hl' => kk H locs ls' hl' hw)
    · cases h
  · cases h
theorem go_stL (C : Cx sc k B D ca p l R s m args meth c A) {i : Nat} {lv' : List (Nat × AV)} {st' : List AV} {w' : NW} {P : List Prop} (h : stX2 (mL k) lv st w i = some (lv', st', w', P)) {q : Nat} (hrow : ∀ (H : Heap) (locs : List Loc) (ls : Array Slot) (x : Int64) (r : List Value) (l1 l2 : List (Nat × Value)), lv_has ls (mL k) l1 → i + 1 < mL k → (i, Value.long x) :: l1.filter (fun q => !(q.1 == i) && (!(q.1 == i + 1) && !(q.1 + 1 == i && q.2.category == 2))) = l2 → (∀ ls' : Array Slot, lv_has ls' (mL k) l2 → W p l e R s m args below meth c H locs cells slots Q (F0 m q ls' r)) → W p l e R s m args below meth c H locs cells slots Q (F0 m pc ls (.long x :: r))) (kk : Go k B D ca p l e R s m args below meth c A Q q lv' st' w' cells slots) : Go k B D ca p l e R s m args below meth c A Q pc lv st w cells slots := by
  intro H locs ls hl hw
  unfold stX2 at h
  split at h
  · rename_i x r
    split at h
    · rename_i ho
      cases h
      exact hrow H locs ls x _ _ _ hl ho (st2L_gl B lv i (aL x)) (fun ls' hl' => kk H locs ls' hl' hw)
    · cases h
  · cases h
theorem go_iinc (C : Cx sc k B D ca p l R s m args meth c A) {i : Nat} {n : Int} (hd : decode (cc k) pc = .ok (.iinc i n, 3)) {u z : AV} (hu : lkp lv i = some u) (hz : incA u n = some z) (hn : i < mL k) (kk : Go k B D ca p l e R s m args below meth c A Q (pc + 3) (st1L lv i z) st w cells slots) : Go k B D ca p l e R s m args below meth c A Q pc lv st w cells slots := by
  intro H locs ls hl hw
  obtain ⟨⟨hx, hb, -⟩, -⟩ := C
  obtain ⟨x, h1, h2⟩ := incA_gv (B := B) hz
  have key : ∀ (lv : List (Nat × AV)), lkp lv i = some u → ∃ k : Nat, (gl B lv)[k]? = some (i, gv B u) := by
    intro lv
    induction lv with
    | nil => intro h; cases h
    | cons q r ih =>
      intro h
      unfold lkp at h
      by_cases hq : q.1 = i
      · rw [if_pos hq] at h
        cases h
        exact ⟨0, by simp [gl, hq]⟩
      · rw [if_neg hq] at h
        obtain ⟨k, hk⟩ := ih h
        exact ⟨k + 1, by simpa [gl] using hk⟩
  obtain ⟨j, hj⟩ := key lv hu
  rw [h1] at hj
  exact lv_iinc hx hb hd hl hj rfl hn (by rw [← h2]; exact st1L_gl B lv i z) (fun ls' hl' => kk H locs ls' hl' hw)
theorem go_bin (C : Cx sc k B D ca p l R s m args meth c A) {f : AV → AV → Option AV} {g : Int32 → Int32 → Int32} (hf : ∀ {u v z : AV}, f u v = some z → ∃ x y : Int32, gv B u = .int x ∧ gv B v = .int y ∧ gv B z = .int (g x y)) {lv' : List (Nat × AV)} {st' : List AV} {w' : NW} {P : List Prop} (h : bin f lv st w = some (lv', st', w', P)) {q : Nat} (hrow : ∀ (H : Heap) (locs : List Loc) (ls : Array Slot) (x y : Int32) (r : List Value), W p l e R s m args below meth c H locs cells slots Q (F0 m q ls (.int (g x y) :: r)) → W p l e R s m args below meth c H locs cells slots Q (F0 m pc ls (.int y :: .int x :: r))) (kk : Go k B D ca p l e R s m args below meth c A Q q lv' st' w' cells slots) : Go k B D ca p l e R s m args below meth c A Q pc lv st w cells slots := by
  intro H locs ls hl hw
  unfold bin at h
  split at h
  · rename_i v u r
    split at h
    · rename_i z hz
      cases h
      obtain ⟨x, y, h1, h2, h3⟩ := hf hz
      have h4 := kk H locs ls hl hw
      rw [gs, List.map_cons, h3] at h4
      rw [gs, List.map_cons, List.map_cons, h1, h2]
      exact hrow H locs ls x y _ h4
    · cases h
  · cases h
theorem go_binL (C : Cx sc k B D ca p l R s m args meth c A) {f : Int64 → Int64 → Int64} {cd : Int64 → List Prop} {lv' : List (Nat × AV)} {st' : List AV} {w' : NW} {P : List Prop} (h : binL f lv st w cd = some (lv', st', w', P)) (hP : allP P) {q : Nat} (hrow : ∀ (H : Heap) (locs : List Loc) (ls : Array Slot) (x y : Int64) (r : List Value), allP (cd y) → W p l e R s m args below meth c H locs cells slots Q (F0 m q ls (.long (f x y) :: r)) → W p l e R s m args below meth c H locs cells slots Q (F0 m pc ls (.long y :: .long x :: r))) (kk : Go k B D ca p l e R s m args below meth c A Q q lv' st' w' cells slots) : Go k B D ca p l e R s m args below meth c A Q pc lv st w cells slots := by
  intro H locs ls hl hw
  unfold binL at h
  split at h
  · rename_i y x r
    cases h
    exact hrow H locs ls x y _ hP (kk H locs ls hl hw)
  · cases h
theorem go_get (C : Cx sc k B D ca p l R s m args meth c A) {idx : Nat} {h9 : Nat × Nat} (hg : GF (mo k) idx h9.1 h9.2) (hd : decode (cc k) pc = .ok (.getfield idx, 3)) {lv' : List (Nat × AV)} {st' : List AV} {w' : NW} {P : List Prop} (h : getF h9 lv st w = some (lv', st', w', P)) (hP : allP P) (kk : Go k B D ca p l e R s m args below meth c A Q (pc + 3) lv' st' w' cells slots) : Go k B D ca p l e R s m args below meth c A Q pc lv st w cells slots := by
  intro H locs ls hl hw
  obtain ⟨⟨hx, hb, -⟩, ⟨hown, hts, -⟩, ⟨hK, -⟩, -⟩ := C
  unfold getF at h
  split at h
  · rename_i t i r
    split at h
    · rename_i hk
      cases h
      obtain ⟨C, T, ty, c1, c2, c3, c4, c5⟩ := ck_ok hk
      obtain ⟨g1, g2, g3, g4⟩ := hg C T _ c1
      have he := wsO_at (B := B) (ca := ca) (w := w) hP
      rw [en_obj hk] at he
      have h1 := kk H locs ls hl hw
      rw [gs, List.map_cons] at h1
      exact va_get (D := D) (ci := h9.1) (C := C) (T := T) (N := fn h9.1) hx hb hts c2 hown hK hw.1 (od t i) he c1 h9.2 g1 (hts _ g2) (fun _ h9 => h9) (fds_at g1) hd h1
    · cases h
  · cases h
theorem Wd.put {B : Nat} {D : va_G} {ca : CA} {A : Nat → Prop} {H0 H H1 : Heap} {cells : Nat} {w w' : NW} {locs locs1 : List Loc} {t i : Nat} (hw : Wd B D ca A H0 cells w H locs) (hv : vld w.1 t i) (h1 : w'.1 = w.1) (h2 : w'.2.1 = w.2.1) (ho : ∀ t' i', (t', i') ≠ (t, i) → en B ca w' t' i' = en B ca w t' i')
    (hP : va_P D vwCl ((wsO B ca w).set (od t i) (B + od t i, en B ca w' t i)) H1) (hD : va_D A ((wsO B ca w).set (od t i) (B + od t i, en B ca w' t i))) (hS : va_S A H0 H1 locs1) : Wd B D ca A H0 cells w' H1 locs1 := by
  obtain ⟨-, -, -, q4, q5⟩ := hw
  rw [wsO_set hv q5 h1 ho] at hP hD
  exact ⟨hP, hD, hS, fun z => by rw [h1]; exact q4 (h2 ▸ z), by rw [h1]; exact q5⟩
theorem fv_wN_ne {w : NW} {t i j x ci q : Nat} (h : q ≠ j) : fv ci q (wN w t i j x) t i = fv ci q w t i := by simp [fv, wN, upN, h]
theorem fv_wR_ne {w : NW} {t i j ci q : Nat} {x : Option (Nat × Nat)} (h : q ≠ j) : fv ci q (wR w t i j x) t i = fv ci q w t i := by simp [fv, wR, upR, h]
theorem go_putN (C : Cx sc k B D ca p l R s m args meth c A) {idx : Nat} (hd : decode (cc k) pc = .ok (.putfield idx, 3)) {t i ci j x : Nat} {v : AV} {r : List AV} (hg : GF (mo k) idx ci j) (hk : kd t = (3, ci)) (hf : ftk ci j = 0 ∨ (ftk ci j = 3 ∧ (x = 0 ∨ x = 1))) (hx0 : toN v = some x) (hff : ffn ci j = false) (hv : vld w.1 t i) (kk : Go k B D ca p l e R s m args below meth c A Q (pc + 3) lv r (wN w t i j x) cells slots) : Go k B D ca p l e R s m args below meth c A Q pc lv (v :: .inr (.inl (t, i)) :: r) w cells slots := by
  intro H locs ls hl hw
  obtain ⟨⟨hx, hb, -⟩, ⟨hown, hts, -⟩, ⟨hK, -⟩, -⟩ := C
  obtain ⟨C, T, ty, c1, c2, c3, c4, c5⟩ := ck_ok hk
  obtain ⟨g1, g2, g3, g4⟩ := hg C T _ c1
  have he := wsO_at (B := B) (ca := ca) (w := w) hv
  rw [en_obj hk] at he
  have hty : narrow (ty j) (.int (nI x)) = .int (nI x) ∧ fits (ty j) (.int (nI x)) = true := by
    have h5 := c5 j g1
    rcases hf with hf | ⟨hf, hxx⟩
    · rw [hf] at h5
      rw [show ty j = .int from h5]
      exact ⟨rfl, rfl⟩
    · rw [hf] at h5
      rw [show ty j = .boolean from h5]
      rcases hxx with rfl | rfl <;> exact ⟨by decide +kernel, by decide +kernel⟩
  show W p l e R s m args below meth c H locs cells slots Q (F0 m pc ls (gv B v :: .ref (B + od t i) :: gs B r))
  rw [toN_gv hx0]
  refine va_put (D := D) (ci := ci) (C := C) (T := T) (N := fn ci) (ty := ty j) hx hb hts c2 ty c3 c4 hown hK hw.1 hw.2.1 hw.2.2.1 (od t i) he c1 j g1 (hts _ g2) (fun _ h9 => h9) (by rw [g3]; exact hff) (c3 j g1) hty.1 hty.2 (by simp [fds]; exact g1) hd (fun H1 locs1 hP hD hS => ?_)
  refine kk H1 locs1 ls hl (hw.put (t := t) (i := i) hv rfl rfl en_wN ?_ ?_ hS)
  · rw [en_obj hk, ← fds_set (w := w) (v := .int (nI x)) g1 ?_ (fun q hq => fv_wN_ne hq)]
    · exact hP
    · have : fv ci j (wN w t i j x) t i = aN x := by
        rcases hf with hf | ⟨hf, -⟩ <;> simp [fv, hf, wN, upN]
      rw [this]; rfl
  · rw [en_obj hk, ← fds_set (w := w) (v := .int (nI x)) g1 ?_ (fun q hq => fv_wN_ne hq)]
    · exact hD
    · have : fv ci j (wN w t i j x) t i = aN x := by
        rcases hf with hf | ⟨hf, -⟩ <;> simp [fv, hf, wN, upN]
      rw [this]; rfl
theorem go_putR (C : Cx sc k B D ca p l R s m args meth c A) {idx : Nat} (hd : decode (cc k) pc = .ok (.putfield idx, 3)) {t i ci j : Nat} {q : Nat × Nat} {r : List AV} (hg : GF (mo k) idx ci j) (hk : kd t = (3, ci)) (hf : ftk ci j = 2) (hi : ini k = true) (hff : ffn ci j = true) (hci : ci = mo k) (hv : vld w.1 t i) (kk : Go k B D ca p l e R s m args below meth c A Q (pc + 3) lv r (wR w t i j (some q)) cells slots) : Go k B D ca p l e R s m args below meth c A Q pc lv (.inr (.inl q) :: .inr (.inl (t, i)) :: r) w cells slots := by
  intro H locs ls hl hw
  obtain ⟨⟨hx, hb, -⟩, ⟨hown, hts, -⟩, ⟨hK, -, -, hin⟩, -⟩ := C
  obtain ⟨C, T, ty, c1, c2, c3, c4, c5⟩ := ck_ok hk
  obtain ⟨g1, g2, g3, g4⟩ := hg C T _ c1
  have he := wsO_at (B := B) (ca := ca) (w := w) hv
  rw [en_obj hk] at he
  have hty : narrow (ty j) (.ref (B + od q.1 q.2)) = .ref (B + od q.1 q.2) ∧ fits (ty j) (.ref (B + od q.1 q.2)) = true := by
    have h5 := c5 j g1
    rw [hf] at h5
    rcases h5 with ⟨n, h5⟩ | ⟨n, h5⟩ <;> rw [h5] <;> exact ⟨rfl, rfl⟩
  have hC : C = RN ci := by
    have := vwCl_name (ci := ci) (C := C) (T := T) c1
    exact this
  show W p l e R s m args below meth c H locs cells slots Q (F0 m pc ls (.ref (B + od q.1 q.2) :: .ref (B + od t i) :: gs B r))
  refine va_putF (D := D) (ci := ci) (C := C) (T := T) (N := fn ci) (ty := ty j) hx hb hts c2 ty c3 c4 hown hK hw.1 hw.2.1 hw.2.2.1 (od t i) he c1 j g1 (hts _ g2) (fun _ h9 => h9) (by rw [g3]; exact hff) (hin hi) (by rw [g4, hC, hci]) (c3 j g1) hty.1 hty.2 (by simp [fds]; exact g1) hd (fun H1 locs1 hP hD hS => ?_)
  have h8 : gv B (fv ci j (wR w t i j (some q)) t i) = .ref (B + od q.1 q.2) := by
    have : fv ci j (wR w t i j (some q)) t i = .inr (.inl q) := by simp [fv, hf, wR, upR, rv]
    rw [this]; rfl
  refine kk H1 locs1 ls hl (hw.put (t := t) (i := i) hv rfl rfl en_wR ?_ ?_ hS)
  · rw [en_obj hk, ← fds_set (w := w) g1 h8 (fun q hq => fv_wR_ne hq)]
    exact hP
  · rw [en_obj hk, ← fds_set (w := w) g1 h8 (fun q hq => fv_wR_ne hq)]
    exact hD
theorem go_put (C : Cx sc k B D ca p l R s m args meth c A) {idx : Nat} {h9 : Nat × Nat} (hg : GF (mo k) idx h9.1 h9.2) (hd : decode (cc k) pc = .ok (.putfield idx, 3)) {lv' : List (Nat × AV)} {st' : List AV} {w' : NW} {P : List Prop} (h : putF k h9 lv st w = some (lv', st', w', P)) (hP : allP P) (kk : Go k B D ca p l e R s m args below meth c A Q (pc + 3) lv' st' w' cells slots) : Go k B D ca p l e R s m args below meth c A Q pc lv st w cells slots := by
  unfold putF at h
  split at h
  · rename_i v t i r
    split at h
    · rename_i hk
      split at h
      · rename_i hf
        split at h
        · rename_i x hx
          split at h
          · rename_i hff
            cases h
            exact go_putN C hd hg hk (Or.inl hf) hx hff hP kk
          · cases h
        · cases h
      · rename_i hf
        split at h
        · rename_i x hx
          split at h
          · rename_i hff
            cases h
            exact go_putN C hd hg hk (Or.inr ⟨hf, hP.2⟩) hx hff hP.1 kk
          · cases h
        · cases h
      · rename_i hf
        split at h
        · rename_i q
          split at h
          · rename_i h3
            cases h
            exact go_putR C hd hg hk hf h3.1 h3.2.1 h3.2.2 hP kk
          · cases h
        · cases h
      · cases h
    · cases h
  · cases h
theorem nI_vin {j n t : Nat} (h : j < n) (hk : (kd t).2 = n) : vp_in (nI j) n ∧ (nI j).toNatClampNeg = j := by
  have h2 := kd_sm t
  rw [hk] at h2
  exact ⟨vp_in_nI h h2, nI_clamp (Nat.lt_trans h h2)⟩
theorem go_aldN (C : Cx sc k B D ca p l R s m args meth c A) (hd : decode (cc k) pc = .ok (.iaload, 1)) {lv' : List (Nat × AV)} {st' : List AV} {w' : NW} {P : List Prop} (h : aldN lv st w = some (lv', st', w', P)) (hP : allP P) (kk : Go k B D ca p l e R s m args below meth c A Q (pc + 1) lv' st' w' cells slots) : Go k B D ca p l e R s m args below meth c A Q pc lv st w cells slots := by
  intro H locs ls hl hw
  obtain ⟨⟨hx, hb, -⟩, ⟨hown, hts, -⟩, ⟨hK, -⟩, -⟩ := C
  unfold aldN at h
  split at h
  · rename_i j t i r
    split at h
    · rename_i n hk
      cases h
      have he := wsO_at (B := B) (ca := ca) (w := w) hP.1
      rw [en_int hk] at he
      obtain ⟨h1, h2⟩ := nI_vin (t := t) hP.2 (by rw [hk])
      have h3 := kk H locs ls hl hw
      refine va_iald (D := D) hx hb hK hw.1 (od t i) 0 he rfl h1 hd ?_
      rw [h2]
      exact h3
    · cases h
  · cases h
theorem go_aldL (C : Cx sc k B D ca p l R s m args meth c A) (hd : decode (cc k) pc = .ok (.laload, 1)) {lv' : List (Nat × AV)} {st' : List AV} {w' : NW} {P : List Prop} (h : aldL lv st w = some (lv', st', w', P)) (hP : allP P) (kk : Go k B D ca p l e R s m args below meth c A Q (pc + 1) lv' st' w' cells slots) : Go k B D ca p l e R s m args below meth c A Q pc lv st w cells slots := by
  intro H locs ls hl hw
  obtain ⟨⟨hx, hb, -⟩, ⟨hown, hts, -⟩, ⟨hK, -⟩, -⟩ := C
  unfold aldL at h
  split at h
  · rename_i j t i r
    split at h
    · rename_i n hk
      cases h
      have he := wsO_at (B := B) (ca := ca) (w := w) hP.1
      rw [en_lng hk] at he
      obtain ⟨h1, h2⟩ := nI_vin (t := t) hP.2 (by rw [hk])
      have h3 := kk H locs ls hl hw
      refine va_lald (D := D) hx hb hK hw.1 (od t i) 1 he rfl h1 hd ?_
      rw [h2]
      exact h3
    · cases h
  · cases h
theorem go_aldR (C : Cx sc k B D ca p l R s m args meth c A) (hd : decode (cc k) pc = .ok (.aaload, 1)) {lv' : List (Nat × AV)} {st' : List AV} {w' : NW} {P : List Prop} (h : aldR lv st w = some (lv', st', w', P)) (hP : allP P) (kk : Go k B D ca p l e R s m args below meth c A Q (pc + 1) lv' st' w' cells slots) : Go k B D ca p l e R s m args below meth c A Q pc lv st w cells slots := by
  intro H locs ls hl hw
  obtain ⟨⟨hx, hb, -⟩, ⟨hown, hts, -⟩, ⟨hK, -⟩, -⟩ := C
  unfold aldR at h
  split at h
  · rename_i j t i r
    split at h
    · rename_i n hk
      cases h
      have he := wsO_at (B := B) (ca := ca) (w := w) hP.1
      rw [en_rf hk] at he
      obtain ⟨h1, h2⟩ := nI_vin (t := t) hP.2 (by rw [hk])
      have h3 := kk H locs ls hl hw
      refine va_aldq (D := D) hx hb hK hw.1 (od t i) 2 he rfl h1 hd ?_
      rw [h2, rv_gv]
      exact h3
    · cases h
  · cases h
theorem go_astN (C : Cx sc k B D ca p l R s m args meth c A) (hd : decode (cc k) pc = .ok (.iastore, 1)) {lv' : List (Nat × AV)} {st' : List AV} {w' : NW} {P : List Prop} (h : astN lv st w = some (lv', st', w', P)) (hP : allP P) (kk : Go k B D ca p l e R s m args below meth c A Q (pc + 1) lv' st' w' cells slots) : Go k B D ca p l e R s m args below meth c A Q pc lv st w cells slots := by
  intro H locs ls hl hw
  obtain ⟨⟨hx, hb, -⟩, ⟨hown, hts, -⟩, ⟨hK, -⟩, -⟩ := C
  unfold astN at h
  split at h
  · rename_i v j t i r
    split at h
    · rename_i x hx0
      split at h
      · rename_i n hk
        cases h
        have he := wsO_at (B := B) (ca := ca) (w := w) hP.1
        rw [en_int hk] at he
        obtain ⟨h1, h2⟩ := nI_vin (t := t) hP.2 (by rw [hk])
        show W p l e R s m args below meth c H locs cells slots Q (F0 m pc ls (gv B v :: .int (nI j) :: .ref (B + od t i) :: gs B _))
        rw [toN_gv hx0]
        have e1 : (fun q => nI ((wN w t i j x).2.2.1 t i q)) = upd (fun q => nI (w.2.2.1 t i q)) j (nI x) := by
          funext q
          by_cases hq : q = j <;> simp [wN, upN, upd, hq]
        refine va_iast (D := D) hx hb hK hw.1 hw.2.1 hw.2.2.1 (od t i) 0 he rfl h1 hd (fun H1 locs1 hP1 hD1 hS1 => kk H1 locs1 ls hl (hw.put (t := t) (i := i) hP.1 rfl rfl en_wN ?_ ?_ hS1))
        · rw [en_int hk, e1]; rw [h2] at hP1; exact hP1
        · rw [en_int hk, e1]; rw [h2] at hD1; exact hD1
      · cases h
    · cases h
  · cases h
theorem go_astL (C : Cx sc k B D ca p l R s m args meth c A) (hd : decode (cc k) pc = .ok (.lastore, 1)) {lv' : List (Nat × AV)} {st' : List AV} {w' : NW} {P : List Prop} (h : astL lv st w = some (lv', st', w', P)) (hP : allP P) (kk : Go k B D ca p l e R s m args below meth c A Q (pc + 1) lv' st' w' cells slots) : Go k B D ca p l e R s m args below meth c A Q pc lv st w cells slots := by
  intro H locs ls hl hw
  obtain ⟨⟨hx, hb, -⟩, ⟨hown, hts, -⟩, ⟨hK, -⟩, -⟩ := C
  unfold astL at h
  split at h
  · rename_i x j t i r
    split at h
    · rename_i n hk
      cases h
      have he := wsO_at (B := B) (ca := ca) (w := w) hP.1
      rw [en_lng hk] at he
      obtain ⟨h1, h2⟩ := nI_vin (t := t) hP.2 (by rw [hk])
      have e1 : (wL w t i j x).2.2.2.1 t i = vp_updL (w.2.2.2.1 t i) j x := by
        funext q
        by_cases hq : q = j <;> simp [wL, upL, vp_updL, hq]
      refine va_last (D := D) hx hb hK hw.1 hw.2.1 hw.2.2.1 (od t i) 1 he rfl h1 hd (fun H1 locs1 hP1 hD1 hS1 => kk H1 locs1 ls hl (hw.put (t := t) (i := i) hP.1 rfl rfl en_wL ?_ ?_ hS1))
      · rw [en_lng hk, e1]; rw [h2] at hP1; exact hP1
      · rw [en_lng hk, e1]; rw [h2] at hD1; exact hD1
    · cases h
  · cases h
theorem go_alen (C : Cx sc k B D ca p l R s m args meth c A) (hd : decode (cc k) pc = .ok (.arraylength, 1)) {lv' : List (Nat × AV)} {st' : List AV} {w' : NW} {P : List Prop} (h : alen lv st w = some (lv', st', w', P)) (hP : allP P) (kk : Go k B D ca p l e R s m args below meth c A Q (pc + 1) lv' st' w' cells slots) : Go k B D ca p l e R s m args below meth c A Q pc lv st w cells slots := by
  intro H locs ls hl hw
  obtain ⟨⟨hx, hb, -⟩, ⟨hown, hts, -⟩, ⟨hK, -⟩, -⟩ := C
  unfold alen at h
  split at h
  · rename_i t i r
    split at h
    · rename_i n hk
      cases h
      have he := wsO_at (B := B) (ca := ca) (w := w) hP
      rw [en_int hk] at he
      exact va_alen (D := D) hx hb hK hw.1 (od t i) 0 he rfl rfl hd (kk H locs ls hl hw)
    · rename_i n hk
      cases h
      have he := wsO_at (B := B) (ca := ca) (w := w) hP
      rw [en_lng hk] at he
      exact va_alen (D := D) hx hb hK hw.1 (od t i) 1 he rfl rfl hd (kk H locs ls hl hw)
    · rename_i n hk
      cases h
      have he := wsO_at (B := B) (ca := ca) (w := w) hP
      rw [en_rf hk] at he
      exact va_alen (D := D) hx hb hK hw.1 (od t i) 2 he rfl rfl hd (kk H locs ls hl hw)
    · cases h
  · cases h
theorem go_aldZ (C : Cx sc k B D ca p l R s m args meth c A) (hd : decode (cc k) pc = .ok (.baload, 1)) {lv' : List (Nat × AV)} {st' : List AV} {w' : NW} {P : List Prop} (h : aldZ lv st w = some (lv', st', w', P)) (hP : allP P) (kk : Go k B D ca p l e R s m args below meth c A Q (pc + 1) lv' st' w' cells slots) : Go k B D ca p l e R s m args below meth c A Q pc lv st w cells slots := by
  intro H locs ls hl hw
  obtain ⟨⟨hx, hb, -⟩, ⟨hown, hts, -⟩, ⟨hK, -⟩, -⟩ := C
  unfold aldZ at h
  split at h
  · rename_i j t i r
    split at h
    · rename_i n hk
      cases h
      have he := wsO_at (B := B) (ca := ca) (w := w) hP.1
      rw [en_bl hk] at he
      obtain ⟨h1, h2⟩ := nI_vin (t := t) hP.2 (by rw [hk])
      have h3 := kk H locs ls hl hw
      refine va_zald (D := D) hx hb hK hw.1 (od t i) 3 he rfl h1 hd ?_
      rw [h2]
      exact h3
    · cases h
  · cases h
theorem go_astZ (C : Cx sc k B D ca p l R s m args meth c A) (hd : decode (cc k) pc = .ok (.bastore, 1)) {lv' : List (Nat × AV)} {st' : List AV} {w' : NW} {P : List Prop} (h : astZ lv st w = some (lv', st', w', P)) (hP : allP P) (kk : Go k B D ca p l e R s m args below meth c A Q (pc + 1) lv' st' w' cells slots) : Go k B D ca p l e R s m args below meth c A Q pc lv st w cells slots := by
  intro H locs ls hl hw
  obtain ⟨⟨hx, hb, -⟩, ⟨hown, hts, -⟩, ⟨hK, -⟩, -⟩ := C
  unfold astZ at h
  split at h
  · rename_i v j t i r
    split at h
    · rename_i x hx0
      split at h
      · rename_i n hk
        cases h
        have he := wsO_at (B := B) (ca := ca) (w := w) hP.1
        rw [en_bl hk] at he
        obtain ⟨h1, h2⟩ := nI_vin (t := t) hP.2.1 (by rw [hk])
        show W p l e R s m args below meth c H locs cells slots Q (F0 m pc ls (gv B v :: .int (nI j) :: .ref (B + od t i) :: gs B _))
        rw [toN_gv hx0]
        have e1 : (fun q => nI ((wN w t i j x).2.2.1 t i q)) = upd (fun q => nI (w.2.2.1 t i q)) j (nI x) := by
          funext q
          by_cases hq : q = j <;> simp [wN, upN, upd, hq]
        have nz : vp_nar .boolean (nI x) = nI x := by rcases hP.2.2 with rfl | rfl <;> decide +kernel
        refine va_zast (D := D) hx hb hK hw.1 hw.2.1 hw.2.2.1 (od t i) 3 he rfl h1 hd (fun H1 locs1 hP1 hD1 hS1 => kk H1 locs1 ls hl (hw.put (t := t) (i := i) hP.1 rfl rfl en_wN ?_ ?_ hS1))
        · rw [en_bl hk, e1]; rw [h2, nz] at hP1; exact hP1
        · rw [en_bl hk, e1]; rw [h2, nz] at hD1; exact hD1
      · cases h
    · cases h
  · cases h
theorem go_div (C : Cx sc k B D ca p l R s m args meth c A) (hd : decode (cc k) pc = .ok (.idiv, 1)) {lv' : List (Nat × AV)} {st' : List AV} {w' : NW} {P : List Prop} (h : binC divA lv st w = some (lv', st', w', P)) (hP : allP P) (kk : Go k B D ca p l e R s m args below meth c A Q (pc + 1) lv' st' w' cells slots) : Go k B D ca p l e R s m args below meth c A Q pc lv st w cells slots := by
  intro H locs ls hl hw
  obtain ⟨⟨hx, hb, -⟩, -⟩ := C
  unfold binC at h
  split at h
  · rename_i v u r
    split at h
    · rename_i z P9 hz
      cases h
      unfold divA at hz
      split at hz
      · cases hz
        have h1 := kk H locs ls hl hw
        refine lv_idiv hx hb hd (nI_ne0 hP.2.1 hP.2.2) ?_
        rw [pk_div hP.1 hP.2.1 hP.2.2]
        exact h1
      · cases hz
    · cases h
  · cases h
theorem go_rem (C : Cx sc k B D ca p l R s m args meth c A) (hd : decode (cc k) pc = .ok (.irem, 1)) {lv' : List (Nat × AV)} {st' : List AV} {w' : NW} {P : List Prop} (h : binC remA lv st w = some (lv', st', w', P)) (hP : allP P) (kk : Go k B D ca p l e R s m args below meth c A Q (pc + 1) lv' st' w' cells slots) : Go k B D ca p l e R s m args below meth c A Q pc lv st w cells slots := by
  intro H locs ls hl hw
  obtain ⟨⟨hx, hb, -⟩, -⟩ := C
  unfold binC at h
  split at h
  · rename_i v u r
    split at h
    · rename_i z P9 hz
      cases h
      unfold remA at hz
      split at hz
      · cases hz
        have h1 := kk H locs ls hl hw
        refine lv_irem hx hb hd (nI_ne0 hP.2.1 hP.2.2) ?_
        rw [pk_rem hP.1 hP.2.1 hP.2.2]
        exact h1
      · cases hz
    · cases h
  · cases h
theorem go_1 (C : Cx sc k B D ca p l R s m args meth c A) {ins : Instr} {h9 : Nat × Nat} (hd : decode (cc k) pc = .ok (ins, ln ins)) (hk : hkP k ins h9) {lv' : List (Nat × AV)} {st' : List AV} {w' : NW} {P : List Prop} (h : st1 k ins h9 lv st w = some (lv', st', w', P)) (hP : allP P) (kk : Go k B D ca p l e R s m args below meth c A Q (pc + ln ins) lv' st' w' cells slots) : Go k B D ca p l e R s m args below meth c A Q pc lv st w cells slots := by
  obtain ⟨⟨hx, hb, hmx⟩, ⟨hown, hts, hot⟩, hC3⟩ := id C
  cases ins with
  | iconst n =>
    have h' : some (lv, cs4 n :: st, w, ([] : List Prop)) = some (lv', st', w', P) := h
    cases h'
    exact go_iconst C hd kk
  | bipush n =>
    have h' : some (lv, cs8 n :: st, w, ([] : List Prop)) = some (lv', st', w', P) := h
    cases h'
    exact go_bipush C hd kk
  | sipush n =>
    have h' : some (lv, cs16 n :: st, w, ([] : List Prop)) = some (lv', st', w', P) := h
    cases h'
    exact go_sipush C hd kk
  | lconst n =>
    have h' : some (lv, aL (Int64.ofNat n.val) :: st, w, ([] : List Prop)) = some (lv', st', w', P) := h
    cases h'
    exact go_lconst C hd kk
  | ldc idx =>
    have h' : some (lv, aN h9.1 :: st, w, ([] : List Prop)) = some (lv', st', w', P) := h
    cases h'
    exact fun H locs ls hl hw => lv_ldc hx hb hown (hts _ hk) hd (kk H locs ls hl hw)
  | ldc2_w idx =>
    have h' : some (lv, aL (Int64.ofNat h9.1) :: st, w, ([] : List Prop)) = some (lv', st', w', P) := h
    cases h'
    exact fun H locs ls hl hw => lv_ldc2 hx hb hown (hts _ hk) hd (kk H locs ls hl hw)
  | iload_n j => exact go_ldI C (i := j.val) h (fun H locs ls x h1 h2 => lv_iload_n hx hb hd rfl h1 h2) kk
  | iload j => exact go_ldI C (i := j) h (fun H locs ls x h1 h2 => lv_iload hx hb hd h1 h2) kk
  | lload_n j => exact go_ldL C (i := j.val) h (fun H locs ls x h1 h2 => lv_lload_n hx hb hd rfl h1 h2) kk
  | lload j => exact go_ldL C (i := j) h (fun H locs ls x h1 h2 => lv_lload hx hb hd h1 h2) kk
  | aload_n j => exact go_ldA C (i := j.val) h (fun H locs ls x h1 h2 => lv_aload_n hx hb hd rfl h1 h2) kk
  | aload j => exact go_ldA C (i := j) h (fun H locs ls x h1 h2 => lv_aload hx hb hd h1 h2) kk
  | istore_n j => exact go_stI C (i := j.val) h (fun H locs ls x r l1 l2 h1 h2 h3 h4 => lv_istore_n hx hb hd rfl h1 h2 h3 h4) kk
  | istore j => exact go_stI C (i := j) h (fun H locs ls x r l1 l2 h1 h2 h3 h4 => lv_istore hx hb hd h1 h2 h3 h4) kk
  | astore_n j => exact go_stA C (i := j.val) h (fun H locs ls x r l1 l2 h1 h2 h3 h4 => lv_astore_n hx hb hd rfl h1 h2 h3 h4) kk
  | astore j => exact go_stA C (i := j) h (fun H locs ls x r l1 l2 h1 h2 h3 h4 => lv_astore hx hb hd h1 h2 h3 h4) kk
  | lstore_n j => exact go_stL C (i := j.val) h (fun H locs ls x r l1 l2 h1 h2 h3 h4 => lv_lstore_n hx hb hd rfl h1 h2 h3 h4) kk
  | lstore j => exact go_stL C (i := j) h (fun H locs ls x r l1 l2 h1 h2 h3 h4 => lv_lstore hx hb hd h1 h2 h3 h4) kk
  | iinc i n =>
    have h' : (match lkp lv i with | some u => (match incA u n with | some z => if i < mL k then some (st1L lv i z, st, w, ([] : List Prop)) else none | none => none) | none => none) = some (lv', st', w', P) := h
    split at h'
    · rename_i u hu
      split at h'
      · rename_i z hz
        split at h'
        · rename_i hn
          cases h'
          exact go_iinc C hd hu hz hn kk
        · cases h'
      · cases h'
    · cases h'
  | iadd => exact go_bin C (g := (· + ·)) (fun h => addA_gv h) h (fun H locs ls x y r h1 => lv_iadd hx hb hd h1) kk
  | imul => exact go_bin C (g := (· * ·)) (fun h => mulA_gv h) h (fun H locs ls x y r h1 => lv_imul hx hb hd h1) kk
  | isub => exact go_bin C (g := (· - ·)) (fun h => subA_gv h) h (fun H locs ls x y r h1 => lv_isub hx hb hd h1) kk
  | ladd => exact go_binL C (f := (· + ·)) (cd := fun _ => []) h hP (fun H locs ls x y r _ h1 => lv_ladd hx hb hd h1) kk
  | lsub => exact go_binL C (f := (· - ·)) (cd := fun _ => []) h hP (fun H locs ls x y r _ h1 => lv_lsub hx hb hd h1) kk
  | lmul => exact go_binL C (f := (· * ·)) (cd := fun _ => []) h hP (fun H locs ls x y r _ h1 => lv_lmul hx hb hd h1) kk
  | ldiv => exact go_binL C (f := (· / ·)) (cd := fun y => [¬ y = 0]) h hP (fun H locs ls x y r h0 h1 => lv_ldiv hx hb hd h0 h1) kk
  | i2l =>
    have h' : fI2l lv st w = some (lv', st', w', P) := h
    unfold fI2l at h'
    split at h'
    · rename_i v r
      split at h'
      · rename_i x hv
        cases h'
        intro H locs ls hl hw
        rw [gs, List.map_cons, toI_gv hv]
        exact lv_i2l hx hb hd rfl (kk H locs ls hl hw)
      · cases h'
    · cases h'
  | dup =>
    have h' : fDup lv st w = some (lv', st', w', P) := h
    unfold fDup at h'
    split at h'
    · rename_i v r
      split at h'
      · rename_i hv
        cases h'
        exact fun H locs ls hl hw => lv_dup hx hb hd (by rw [ct1_gv]; exact hv) (kk H locs ls hl hw)
      · cases h'
    · cases h'
  | pop =>
    have h' : fPop lv st w = some (lv', st', w', P) := h
    unfold fPop at h'
    split at h'
    · rename_i v r
      split at h'
      · rename_i hv
        cases h'
        exact fun H locs ls hl hw => lv_pop hx hb hd (by rw [ct1_gv]; exact hv) (kk H locs ls hl hw)
      · cases h'
    · cases h'
  | dup2 =>
    have h' : fDup2 lv st w = some (lv', st', w', P) := h
    unfold fDup2 at h'
    split at h'
    · rename_i v r
      split at h'
      · rename_i hv
        cases h'
        exact fun H locs ls hl hw => lv_dup2_2 hx hb hd (by rw [ct1_gv]; exact hv) (kk H locs ls hl hw)
      · split at h'
        · rename_i u r'
          split at h'
          · rename_i hv
            cases h'
            exact fun H locs ls hl hw => lv_dup2_11 hx hb hd (by rw [ct1_gv]; exact hv.1) (by rw [ct1_gv]; exact hv.2) (kk H locs ls hl hw)
          · cases h'
        · cases h'
    · cases h'
  | getfield idx => exact go_get C hk hd h hP kk
  | putfield idx => exact go_put C hk hd h hP kk
  | baload => exact go_aldZ C hd h hP kk
  | bastore => exact go_astZ C hd h hP kk
  | iand => exact go_bin C (g := fun x y => x &&& y) (fun h => intA_gv h) h (fun H locs ls x y r h1 => lv_iand hx hb hd h1) kk
  | ior => exact go_bin C (g := fun x y => x ||| y) (fun h => intA_gv h) h (fun H locs ls x y r h1 => lv_ior hx hb hd h1) kk
  | ishl => exact go_bin C (g := fun x y => x <<< (y &&& 31)) (fun h => intA_gv h) h (fun H locs ls x y r h1 => lv_ishl hx hb hd h1) kk
  | ishr => exact go_bin C (g := fun x y => x >>> (y &&& 31)) (fun h => intA_gv h) h (fun H locs ls x y r h1 => lv_ishr hx hb hd h1) kk
  | idiv => exact go_div C hd h hP kk
  | irem => exact go_rem C hd h hP kk
  | iaload => exact go_aldN C hd h hP kk
  | laload => exact go_aldL C hd h hP kk
  | aaload => exact go_aldR C hd h hP kk
  | iastore => exact go_astN C hd h hP kk
  | lastore => exact go_astL C hd h hP kk
  | arraylength => exact go_alen C hd h hP kk
  | _ => cases h
theorem go_S (C : Cx sc k B D ca p l R s m args meth c A) : ∀ (is : List IH) (pc : Nat) (lv : List (Nat × AV)) (st : List AV) (w : NW) {lv' : List (Nat × AV)} {st' : List AV} {w' : NW} {P : List Prop}, okS k pc is → stS k is lv st w = some (lv', st', w', P) → allP P → Go k B D ca p l e R s m args below meth c A Q (pc + lnS is) lv' st' w' cells slots → Go k B D ca p l e R s m args below meth c A Q pc lv st w cells slots := by
  intro is
  induction is with
  | nil =>
    intro pc lv st w lv' st' w' P _ h _ kk
    have h' : some (lv, st, w, ([] : List Prop)) = some (lv', st', w', P) := h
    cases h'
    exact kk
  | cons i r ih =>
    intro pc lv st w lv' st' w' P ho h hP kk
    unfold stS at h
    split at h
    · rename_i lv1 st1 w1 P1 h1
      split at h
      · rename_i lv2 st2 w2 P2 h2
        cases h
        obtain ⟨a1, a2⟩ := allP_app hP
        refine go_1 C ho.1.1 ho.1.2 h1 a1 (ih (pc + ln i.1) lv1 st1 w1 ho.2 h2 a2 ?_)
        rw [Nat.add_assoc]
        exact kk
      · cases h
    · cases h
end Go
section SemR
variable {sc : XT} {k pc : Nat} {lv : List (Nat × AV)} {st : List AV} {w : NW} {cells slots : Nat} {Q : QT}
/-- a straight stretch -/
theorem Sem.seg (is : List IH) (hs : okS k pc is) {lv' : List (Nat × AV)} {st' : List AV} {w' : NW} {P : List Prop} (h : stS k is lv st w = some (lv', st', w', P)) (hP : allP P) {pc' : Nat} (hpc : pc + lnS is = pc') (kk : Sem sc k pc' lv' st' w' cells slots Q) : Sem sc k pc lv st w cells slots Q := by
  intro B D ca p l e R s m args below meth c A C
  subst hpc
  exact go_S C is pc lv st w hs h hP (kk B D ca p l e R s m args below meth c A C)
def icP : ClassFile.Cond → Int32 → Int32 → Prop
  | .eq, x, y => x = y
  | .ne, x, y => ¬ x = y
  | .lt, x, y => x < y
  | .ge, x, y => y ≤ x
  | .gt, x, y => y < x
  | .le, x, y => x ≤ y
theorem Sem.icmp {cd : ClassFile.Cond} {off : Int} {tgt : Nat} (hd : decode (cc k) pc = .ok (.if_icmp cd off, 3)) (ht : (pc : Int) + off = (tgt : Int)) {u v : AV} {x y : Int32} (hx0 : toI u = some x) (hy0 : toI v = some y) (kt : icP cd x y → Sem sc k tgt lv st w cells slots Q) (kf : ¬ icP cd x y → Sem sc k (pc + 3) lv st w cells slots Q) : Sem sc k pc lv (v :: u :: st) w cells slots Q := by
  intro B D ca p l e R s m args below meth c A C H locs ls hl hw
  obtain ⟨⟨hx, hb, -⟩, -⟩ := id C
  rw [gs, List.map_cons, List.map_cons, toI_gv hx0, toI_gv hy0]
  cases cd with
  | eq => exact lv_icmp_eq hx hb hd ht (fun h => kt h B D ca p l e R s m args below meth c A C H locs ls hl hw) (fun h => kf h B D ca p l e R s m args below meth c A C H locs ls hl hw)
  | ne => exact lv_icmp_ne hx hb hd ht (fun h => kt h B D ca p l e R s m args below meth c A C H locs ls hl hw) (fun h => kf (fun n => n h) B D ca p l e R s m args below meth c A C H locs ls hl hw)
  | lt => exact lv_icmp_lt hx hb hd ht (fun h => kt h B D ca p l e R s m args below meth c A C H locs ls hl hw) (fun h => kf h B D ca p l e R s m args below meth c A C H locs ls hl hw)
  | ge => exact lv_icmp_ge hx hb hd ht (fun h => kt h B D ca p l e R s m args below meth c A C H locs ls hl hw) (fun h => kf h B D ca p l e R s m args below meth c A C H locs ls hl hw)
  | gt => exact lv_icmp_gt hx hb hd ht (fun h => kt h B D ca p l e R s m args below meth c A C H locs ls hl hw) (fun h => kf h B D ca p l e R s m args below meth c A C H locs ls hl hw)
  | le => exact lv_icmp_le hx hb hd ht (fun h => kt h B D ca p l e R s m args below meth c A C H locs ls hl hw) (fun h => kf h B D ca p l e R s m args below meth c A C H locs ls hl hw)
theorem Sem.ifc {cd : ClassFile.Cond} {off : Int} {tgt : Nat} (hd : decode (cc k) pc = .ok (.ifCond cd off, 3)) (ht : (pc : Int) + off = (tgt : Int)) {u : AV} {x : Int32} (hx0 : toI u = some x) (kt : icP cd x 0 → Sem sc k tgt lv st w cells slots Q) (kf : ¬ icP cd x 0 → Sem sc k (pc + 3) lv st w cells slots Q) : Sem sc k pc lv (u :: st) w cells slots Q := by
  intro B D ca p l e R s m args below meth c A C H locs ls hl hw
  obtain ⟨⟨hx, hb, -⟩, -⟩ := id C
  rw [gs, List.map_cons, toI_gv hx0]
  cases cd with
  | eq => exact lv_if_eq hx hb hd ht (fun h => kt h B D ca p l e R s m args below meth c A C H locs ls hl hw) (fun h => kf h B D ca p l e R s m args below meth c A C H locs ls hl hw)
  | ne => exact lv_if_ne hx hb hd ht (fun h => kt h B D ca p l e R s m args below meth c A C H locs ls hl hw) (fun h => kf (fun n => n h) B D ca p l e R s m args below meth c A C H locs ls hl hw)
  | lt => exact lv_if_lt hx hb hd ht (fun h => kt h B D ca p l e R s m args below meth c A C H locs ls hl hw) (fun h => kf h B D ca p l e R s m args below meth c A C H locs ls hl hw)
  | ge => exact lv_if_ge hx hb hd ht (fun h => kt h B D ca p l e R s m args below meth c A C H locs ls hl hw) (fun h => kf h B D ca p l e R s m args below meth c A C H locs ls hl hw)
  | gt => exact lv_if_gt hx hb hd ht (fun h => kt h B D ca p l e R s m args below meth c A C H locs ls hl hw) (fun h => kf h B D ca p l e R s m args below meth c A C H locs ls hl hw)
  | le => exact lv_if_le hx hb hd ht (fun h => kt h B D ca p l e R s m args below meth c A C H locs ls hl hw) (fun h => kf h B D ca p l e R s m args below meth c A C H locs ls hl hw)
def icN : ClassFile.Cond → Nat → Nat → Prop
  | .eq, a, b => a = b
  | .ne, a, b => ¬ a = b
  | .lt, a, b => a < b
  | .ge, a, b => b ≤ a
  | .gt, a, b => b < a
  | .le, a, b => a ≤ b
theorem icN_iff {cd : ClassFile.Cond} {a b : Nat} (ha : a < 2 ^ 31) (hb : b < 2 ^ 31) : icP cd (nI a) (nI b) ↔ icN cd a b := by
  cases cd with
  | eq => exact nI_eq ha hb
  | ne => exact not_congr (nI_eq ha hb)
  | lt => exact nI_ltI ha hb
  | ge => exact nI_leI hb ha
  | gt => exact nI_ltI hb ha
  | le => exact nI_leI ha hb
theorem Sem.icmpN {cd : ClassFile.Cond} {off : Int} {tgt : Nat} (hd : decode (cc k) pc = .ok (.if_icmp cd off, 3)) (ht : (pc : Int) + off = (tgt : Int)) {a b : Nat} (ha : a < 2 ^ 31) (hb : b < 2 ^ 31) (kt : icN cd a b → Sem sc k tgt lv st w cells slots Q) (kf : ¬ icN cd a b → Sem sc k (pc + 3) lv st w cells slots Q) : Sem sc k pc lv (aN b :: aN a :: st) w cells slots Q :=
  Sem.icmp hd ht (u := aN a) (v := aN b) rfl rfl (fun h => kt ((icN_iff ha hb).mp h)) (fun h => kf (fun z => h ((icN_iff ha hb).mpr z)))
theorem Sem.ifN {cd : ClassFile.Cond} {off : Int} {tgt : Nat} (hd : decode (cc k) pc = .ok (.ifCond cd off, 3)) (ht : (pc : Int) + off = (tgt : Int)) {a : Nat} (ha : a < 2 ^ 31) (kt : icN cd a 0 → Sem sc k tgt lv st w cells slots Q) (kf : ¬ icN cd a 0 → Sem sc k (pc + 3) lv st w cells slots Q) : Sem sc k pc lv (aN a :: st) w cells slots Q :=
  Sem.ifc hd ht (u := aN a) rfl (fun h => kt ((icN_iff ha (by decide)).mp (by rw [nI_0]; exact h))) (fun h => kf (fun z => h (by have := (icN_iff ha (show 0 < 2 ^ 31 by decide)).mpr z; rw [nI_0] at this; exact this)))
def lcP : ClassFile.Cond → Int64 → Int64 → Prop
  | .eq, x, y => x = y
  | .ne, x, y => ¬ x = y
  | .lt, x, y => x < y
  | .ge, x, y => y ≤ x
  | .gt, x, y => y < x
  | .le, x, y => x ≤ y
theorem lcP_iff {cd : ClassFile.Cond} {x y : Int64} : icP cd (lg_cmp x y) 0 ↔ lcP cd x y := by
  cases cd with
  | eq => exact lg_cmp_eq x y
  | ne => exact not_congr (lg_cmp_eq x y)
  | lt => exact lg_cmp_lt x y
  | ge => exact lg_cmp_ge x y
  | gt => exact lg_cmp_gt x y
  | le => exact lg_cmp_le x y
theorem Sem.lcmp {cd : ClassFile.Cond} {off : Int} {tgt : Nat} (hd1 : decode (cc k) pc = .ok (.lcmp, 1)) (hd : decode (cc k) (pc + 1) = .ok (.ifCond cd off, 3)) (ht : ((pc + 1 : Nat) : Int) + off = (tgt : Int)) {x y : Int64} (kt : lcP cd x y → Sem sc k tgt lv st w cells slots Q) (kf : ¬ lcP cd x y → Sem sc k (pc + 4) lv st w cells slots Q) : Sem sc k pc lv (aL y :: aL x :: st) w cells slots Q := by
  intro B D ca p l e R s m args below meth c A C H locs ls hl hw
  obtain ⟨⟨hx, hb, -⟩, -⟩ := id C
  refine W.lcmp hx hb hd1 ?_
  exact Sem.ifc (u := aI (lg_cmp x y)) hd ht rfl (fun h => kt (lcP_iff.mp h)) (fun h => kf (fun z => h (lcP_iff.mpr z))) B D ca p l e R s m args below meth c A C H locs ls hl hw
theorem Sem.goto {off : Int} {tgt : Nat} (hd : decode (cc k) pc = .ok (.goto off, 3)) (ht : (pc : Int) + off = (tgt : Int)) (kk : Sem sc k tgt lv st w cells slots Q) : Sem sc k pc lv st w cells slots Q := by
  intro B D ca p l e R s m args below meth c A C H locs ls hl hw
  obtain ⟨⟨hx, hb, -⟩, -⟩ := id C
  exact lv_goto hx hb hd ht (kk B D ca p l e R s m args below meth c A C H locs ls hl hw)
/-- other words for the same locals and stack -/
theorem Sem.eqv {lv' : List (Nat × AV)} {st' : List AV} (h1 : ∀ B, ∀ q ∈ gl B lv', q ∈ gl B lv) (h2 : ∀ B, gs B st = gs B st') (kk : Sem sc k pc lv' st' w cells slots Q) : Sem sc k pc lv st w cells slots Q := by
  intro B D ca p l e R s m args below meth c A C H locs ls hl hw
  rw [h2 B]
  exact kk B D ca p l e R s m args below meth c A C H locs ls ⟨hl.1, hl.2.1, fun q hq => hl.2.2 q (h1 B q hq)⟩ hw
theorem Sem.lsub {lv' : List (Nat × AV)} (h : ∀ q ∈ lv', q ∈ lv) (kk : Sem sc k pc lv' st w cells slots Q) : Sem sc k pc lv st w cells slots Q :=
  Sem.eqv (fun B q hq => by
    obtain ⟨z, hz, rfl⟩ := List.mem_map.mp hq
    exact List.mem_map.mpr ⟨z, h z hz, rfl⟩) (fun _ => rfl) kk
theorem Sem.topN {x : Int32} {n : Nat} (h : x = nI n) (kk : Sem sc k pc lv (aN n :: st) w cells slots Q) : Sem sc k pc lv (aI x :: st) w cells slots Q := by
  subst h
  exact kk
/-- ends -/
theorem Wd.bd {B : Nat} {D : va_G} {ca : CA} {A : Nat → Prop} {s t : State} {cells n : Nat} {w : NW} {H : Heap} {locs : List Loc} (hw : Wd B D ca A s.heap cells w H locs) (ht : t.heap = H) (hz : w.2.1 = true → cells = n) : Bd B D ca A n w s t := by
  obtain ⟨h1, h2, h3, h4, h5⟩ := hw
  exact ⟨by rw [ht]; exact h1, h2, fun z => by rw [← hz z]; exact h4 z, h5⟩
theorem Sem.vret (hd : decode (cc k) pc = .ok (.return_, 1)) (hr : rt k = none) (hc : cells ≤ mc k) (hs : slots ≤ ms k) (hz : w.2.1 = true → cells = mc k) (hQ : Q (.inl none) w) : Sem sc k pc lv [] w cells slots Q := by
  intro B D ca p l e R s m args below meth c A C H locs ls hl hw
  obtain ⟨⟨hx, hb, hmx, hrt, hlk⟩, -⟩ := id C
  refine W.widen hc hs (oxRet ?_)
  exact W.vret hx hb (hrt.trans hr) (fun t ht hW => ⟨none, w, rfl, hQ, hw.bd ht hz, hw.2.2.1.F ht⟩) hw.2.2.1.2.2 hd hlk
theorem Sem.iret {v : AV} {x : Int32} (hv : toI v = some x) (hd : decode (cc k) pc = .ok (.ireturn, 1)) (hr : rt k = some .int ∨ (rt k = some .boolean ∧ (x = 0 ∨ x = 1))) (hc : cells ≤ mc k) (hs : slots ≤ ms k) (hz : w.2.1 = true → cells = mc k) (hQ : Q (.inl (some v)) w) : Sem sc k pc lv [v] w cells slots Q := by
  intro B D ca p l e R s m args below meth c A C H locs ls hl hw
  obtain ⟨⟨hx, hb, hmx, hrt, hlk⟩, -⟩ := id C
  refine W.widen hc hs (oxRet ?_)
  rw [gs, List.map_cons, toI_gv hv]
  have hq : ∀ t : State, t.heap = H → s.WarmedH t.vm → Qo B D ca A (mc k) Q s (.returned (some (.int x))) t := fun t ht hW => ⟨some v, w, by rw [Option.map_some, toI_gv hv], hQ, hw.bd ht hz, hw.2.2.1.F ht⟩
  rcases hr with hr | ⟨hr, hx1⟩
  · exact W.iret hx hb (hrt.trans hr) hq hw.2.2.1.2.2 hd hlk
  · exact W.zret hx hb (hrt.trans hr) (by rcases hx1 with rfl | rfl <;> decide +kernel) hq hw.2.2.1.2.2 hd hlk
theorem Sem.lret {x : Int64} (hd : decode (cc k) pc = .ok (.lreturn, 1)) (hr : rt k = some .long) (hc : cells ≤ mc k) (hs : slots ≤ ms k) (hz : w.2.1 = true → cells = mc k) (hQ : Q (.inl (some (aL x))) w) : Sem sc k pc lv [aL x] w cells slots Q := by
  intro B D ca p l e R s m args below meth c A C H locs ls hl hw
  obtain ⟨⟨hx, hb, hmx, hrt, hlk⟩, -⟩ := id C
  refine W.widen hc hs (oxRet ?_)
  exact W.lret hx hb (hrt.trans hr) (fun t ht hW => ⟨some (aL x), w, rfl, hQ, hw.bd ht hz, hw.2.2.1.F ht⟩) hw.2.2.1.2.2 hd hlk
theorem Sem.aret {v : AV} (hv : isA v = true) {ty : FieldType} (hd : decode (cc k) pc = .ok (.areturn, 1)) (hr : rt k = some ty) (hty : (∃ n, ty = .object n) ∨ ∃ t, ty = .array t) (hc : cells ≤ mc k) (hs : slots ≤ ms k) (hz : w.2.1 = true → cells = mc k) (hQ : Q (.inl (some v)) w) : Sem sc k pc lv [v] w cells slots Q := by
  intro B D ca p l e R s m args below meth c A C H locs ls hl hw
  obtain ⟨⟨hx, hb, hmx, hrt, hlk⟩, -⟩ := id C
  refine W.widen hc hs (oxRet ?_)
  obtain ⟨a, ha⟩ := isA_gv (B := B) hv
  exact W.aret hx hb (hrt.trans hr) hty (Or.inr ⟨a, ha⟩) (fun t ht hW => ⟨some v, w, rfl, hQ, hw.bd ht hz, hw.2.2.1.F ht⟩) hw.2.2.1.2.2 hd hlk
end SemR
end
section
-- ===== a handler is searched for: rows that are passed, a row that catches; their classes may be linked on the way =====
def oxF (e : Env) (S : State) (f : JFrame) (a : Addr) (pc : Nat) (vm' : Vm) : Prop := ∀ (Q : Handler → Pre) (E : CtlPost) (d : Bool) (acts : List Action), Jvm.Sem.wp (findHandler f a) Q E e d acts S ↔ Q (.found pc) d acts (S.setVm vm')
theorem oxGo {e : Env} {S : State} {f : JFrame} {a : Addr} {x : ExceptionTableEntry} {r : List ExceptionTableEntry} {cT : ClassId} {cell : Cell} (hx : covers x f.pc = true) (h0 : x.catchType ≠ 0)
    (hl : S.vm.ClassLinks e.platform f.method.cls x.catchType cT) (hcell : S.heap[a]? = some cell) (hobj : ∀ k, cell.vm ≠ .statics k) (hk : ∃ k, S.vm.classes[cell.cls]? = some k) (hc : ∃ k, S.vm.classes[cT]? = some k)
    (Q : Handler → Pre) (E : CtlPost) (d : Bool) (acts : List Action) :
    Jvm.Sem.wp (findHandler.go f a (x :: r)) Q E e d acts S ↔ (if S.vm.assignable cell.cls cT = true then Q (.found x.handlerPc) d acts (S.setVm (S.vm.noted f.method.cls x.catchType (.cls cT))) else Jvm.Sem.wp (findHandler.go f a r) Q E e d acts (S.setVm (S.vm.noted f.method.cls x.catchType (.cls cT)))) := by
  simp only [covers] at hx
  obtain ⟨ha, ht⟩ := (resolveClass_links e.toSetting hl).op (op := VmOp.resolveClass f.method.cls x.catchType) rfl
  have hal : S.vm.Alike (S.vm.noted f.method.cls x.catchType (.cls cT)) := (Vm.Alike.refl S.vm).noted _ _ _
  obtain ⟨k1, hk1⟩ := hk
  obtain ⟨k2, hk2⟩ := hc
  obtain ⟨k1', hk1', -⟩ := hal.2.2 _ _ hk1
  obtain ⟨k2', hk2', -⟩ := hal.2.2 _ _ hk2
  have has : (S.vm.noted f.method.cls x.catchType (.cls cT)).assignable cell.cls cT = S.vm.assignable cell.cls cT := by rw [hal.assignable]
  cases hq : S.vm.assignable cell.cls cT with
  | true =>
    rw [hq] at has
    simp [findHandler.go, hx, h0, ha, ht, hcell, hobj, hk1', hk2', has, VmOp.dirties, VmOp.acts]
  | false =>
    rw [hq] at has
    simp [findHandler.go, hx, h0, ha, ht, hcell, hobj, hk1', hk2', has, VmOp.dirties, VmOp.acts]
theorem oxFinds {e : Env} {s₀ S : State} {f : JFrame} {a : Addr} {meth : Method} {code : Code} {cell : Cell} (hm : S.vm.method? f.method = some meth) (hc : meth.code = some code)
    (hW : s₀.WarmedH S.vm) (hcell : S.heap[a]? = some cell) (hobj : ∀ k, cell.vm ≠ .statics k) (hk0 : ∃ k, s₀.vm.classes[cell.cls]? = some k)
    (pre : List ExceptionTableEntry) (x : ExceptionTableEntry) (rest : List ExceptionTableEntry) (hsplit : code.exceptionTable.toList = pre ++ x :: rest)
    (hpass : ∀ y ∈ pre, covers y f.pc = false ∨ (y.catchType ≠ 0 ∧ ∃ c, s₀.vm.ClassLinks e.platform f.method.cls y.catchType c ∧ s₀.vm.assignable cell.cls c = false)) (hx : covers x f.pc = true) (h0 : x.catchType ≠ 0)
    {cT : ClassId} (hl : s₀.vm.ClassLinks e.platform f.method.cls x.catchType cT) (hfit : s₀.vm.assignable cell.cls cT = true) :
    ∃ vm', s₀.WarmedH vm' ∧ oxF e S f a x.handlerPc vm' := by
  obtain ⟨k0, hk0⟩ := hk0
  have key : ∀ (ps : List ExceptionTableEntry) (S : State), s₀.WarmedH S.vm → S.heap[a]? = some cell → (∀ y ∈ ps, covers y f.pc = false ∨ (y.catchType ≠ 0 ∧ ∃ c, s₀.vm.ClassLinks e.platform f.method.cls y.catchType c ∧ s₀.vm.assignable cell.cls c = false)) →
      ∃ vm', s₀.WarmedH vm' ∧ ∀ (Q : Handler → Pre) (E : CtlPost) (d : Bool) (acts : List Action), Jvm.Sem.wp (findHandler.go f a (ps ++ x :: rest)) Q E e d acts S ↔ Q (.found x.handlerPc) d acts (S.setVm vm') := by
    intro ps
    induction ps with
    | nil =>
      intro S hW hcell _
      obtain ⟨k0', hk0', -⟩ := hW.alike.2.2 _ _ hk0
      obtain ⟨dk, _, _, kt, hd, _, _, _, _, hkt, _, hopen⟩ := hl.here
      obtain ⟨kt', hkt', -⟩ := hW.alike.2.2 _ _ hkt
      refine ⟨_, hW.noted hd hopen (State.rightAt_cls hl), fun Q E d acts => ?_⟩
      rw [List.nil_append, oxGo hx h0 (hW.classLinks hl) hcell hobj ⟨k0', hk0'⟩ ⟨kt', hkt'⟩, if_pos (by rw [hW.alike.assignable]; exact hfit)]
    | cons y ys ih =>
      intro S hW hcell hp
      obtain ⟨k0', hk0', -⟩ := hW.alike.2.2 _ _ hk0
      have hp' : ∀ z ∈ ys, covers z f.pc = false ∨ (z.catchType ≠ 0 ∧ ∃ c, s₀.vm.ClassLinks e.platform f.method.cls z.catchType c ∧ s₀.vm.assignable cell.cls c = false) := fun z hz => hp z (List.mem_cons_of_mem _ hz)
      cases hcov : covers y f.pc with
      | false =>
        obtain ⟨vm', hW', hq⟩ := ih S hW hcell hp'
        exact ⟨vm', hW', fun Q E d acts => by rw [List.cons_append, Jvm.W.findHandler_go_skip hcov]; exact hq Q E d acts⟩
      | true =>
        rcases hp y List.mem_cons_self with h | ⟨hy0, cY, hlY, hno⟩
        · rw [h] at hcov; cases hcov
        · obtain ⟨dk, _, _, kt, hd, _, _, _, _, hkt, _, hopen⟩ := hlY.here
          obtain ⟨kt', hkt', -⟩ := hW.alike.2.2 _ _ hkt
          obtain ⟨vm', hW', hq⟩ := ih (S.setVm (S.vm.noted f.method.cls y.catchType (.cls cY))) (hW.noted hd hopen (State.rightAt_cls hlY)) hcell hp'
          refine ⟨vm', hW', fun Q E d acts => ?_⟩
          rw [List.cons_append, oxGo hcov hy0 (hW.classLinks hlY) hcell hobj ⟨k0', hk0'⟩ ⟨kt', hkt'⟩, if_neg (by rw [hW.alike.assignable, hno]; decide)]
          exact hq Q E d acts
  obtain ⟨vm', hW', hq⟩ := key pre S hW hcell hpass
  exact ⟨vm', hW', fun Q E d acts => by rw [Jvm.W.findHandler_eq hm hc, hsplit]; exact hq Q E d acts⟩
theorem oxCaught {tb : Tables} {e : Env} {T target : State} {g : JFrame} {c : Code} {below : List Frame} {a : Addr} (h : At T g.method c below) {pc : Nat} {vm' : Vm}
    (hf : oxF e ((T.setTop g).pushFrame (.throwing a)) g a pc vm') (hrest : Steps tb e below ((T.setVm vm').setTop { g with pc := pc, stack := [.ref a] }) target) :
    Steps tb e below ((T.setTop g).pushFrame (.throwing a)) target := by
  obtain ⟨hgo, hw⟩ := h.throwing a
  have hstep : (stepThrowing e ((T.setTop g).pushFrame (.throwing a)) a (.java g :: T.frames.tail)).Is ((((T.setTop g).pushFrame (.throwing a)).setVm vm').setFrames (.java { g with pc := pc, stack := [.ref a] } :: T.frames.tail)) [] := by
    simp only [stepThrowing, searchFrame, vmDo]
    generalize hr : Sem.go _ e false [] ((T.setTop g).pushFrame (.throwing a)) = res
    obtain ⟨as, rfl, ha⟩ := Sem.eq_ok_of hr (a := Handler.found pc) (s' := ((T.setTop g).pushFrame (.throwing a)).setVm vm') (acts' := []) (by simp [hf _ _ _ _])
    exact ⟨rfl, ha⟩
  refine Steps.head hgo hw ?_
  rw [stepThread_throwing (frames_entered h.top _), hstep.1]
  obtain ⟨g₀, hg⟩ := Option.isSome_iff_exists.mp h.top
  obtain ⟨r, hr⟩ := State.topJava?_eq_some.mp hg
  have hr' : (T.setVm vm').frames = .java g₀ :: r := hr
  have hsv : ∀ (u : State) (F G : List Frame), ((u.setFrames F).setVm vm').setFrames G = (u.setVm vm').setFrames G := fun u F G => by
    have h1 : (u.setFrames F).setVm vm' = (u.setVm vm').setFrames F := rfl
    rw [h1, State.setFrames_setFrames]
  rw [State.setTop_of_frames _ hr'] at hrest
  rw [hr, List.tail_cons, State.pushFrame, hsv, State.setTop_of_frames _ hr, hsv]
  exact hrest
end
section
-- ===== calls =====
def AR (B n sz : Nat) : Nat → Prop := fun q => (B ≤ q ∧ q < B + n) ∨ sz ≤ q
theorem wsO_key {B : Nat} {ca : CA} {w : NW} {k : Nat} {q : Nat × va_E} (h : (wsO B ca w)[k]? = some q) : k < w.1 ∧ q.1 = B + k := by
  have hl : k < (wsO B ca w).length := (List.getElem?_eq_some_iff.mp h).1
  have hl2 : k < w.1 := by simpa [wsO] using hl
  refine ⟨hl2, ?_⟩
  simp [wsO, List.getElem?_map, List.getElem?_range hl2] at h
  rw [← h]
theorem wsO_D {B : Nat} {ca : CA} {w : NW} {A : Nat → Prop} (h : va_D A (wsO B ca w)) {q : Nat} (h1 : B ≤ q) (h2 : q < B + w.1) : A q := by
  have hk : q - B < w.1 := by omega
  have h3 : (wsO B ca w)[q - B]? = some (B + (q - B), en B ca w (ky (q - B)).1 (ky (q - B)).2) := by
    simp [wsO, List.getElem?_map, List.getElem?_range hk]
  have h4 := h.2 _ _ h3
  rw [show B + (q - B) = q by omega] at h4
  exact h4
theorem wsO_DR {B : Nat} {ca : CA} {w : NW} {A : Nat → Prop} {sz : Nat} (h : va_D A (wsO B ca w)) : va_D (AR B w.1 sz) (wsO B ca w) := by
  refine ⟨h.1, fun k q hk => ?_⟩
  obtain ⟨h1, h2⟩ := wsO_key hk
  exact Or.inl ⟨by omega, by omega⟩
theorem AR_sub {B : Nat} {D : va_G} {ca : CA} {A : Nat → Prop} {H0 H : Heap} {cells : Nat} {w : NW} {locs : List Loc} (hw : Wd B D ca A H0 cells w H locs) (hA : ∀ q, H0.size ≤ q → A q) : ∀ q, AR B w.1 H.size q → A q := by
  intro q h
  rcases h with ⟨h1, h2⟩ | h
  · exact wsO_D hw.2.1 h1 h2
  · exact hA q (Nat.le_trans hw.2.2.1.1 h)
theorem stR.warm {s U : State} (hW : s.WarmedH U.vm) (h : stR s) : stR U :=
  ⟨fun q hq => by obtain ⟨a, ha⟩ := h.1 q hq; exact ⟨a, vk_R.warm hW ha⟩, fun q hq => (h.2.1 q hq).moved hW.alike, fun q hq => va_Nw.warmM hW (h.2.2.1 q hq), h.2.2.2.1.moved hW.alike, fun n hn => (h.2.2.2.2.1 n hn).moved hW.alike, fun n hn => va_Nw.warmD hW (h.2.2.2.2.2 n hn)⟩
theorem stR.same {s U : State} (hv : s.vm = U.vm) (h : stR s) : stR U :=
  ⟨fun q hq => by obtain ⟨a, ha⟩ := h.1 q hq; exact ⟨a, vk_R.same hv.symm ha⟩, fun q hq => (h.2.1 q hq).moved (by rw [hv]; exact Vm.Alike.refl _), fun q hq => va_Nw.same rfl hv (h.2.2.1 q hq), h.2.2.2.1.moved (by rw [hv]; exact Vm.Alike.refl _), fun n hn => (h.2.2.2.2.1 n hn).moved (by rw [hv]; exact Vm.Alike.refl _), fun n hn => va_Nw.same rfl hv (h.2.2.2.2.2 n hn)⟩
theorem stX.moved {A : Nat → Prop} {u U : State} {H : Heap} (hvm : u.vm.Alike U.vm) (h : stX A u H) : stX A U H := ⟨h.1.moved hvm, h.2.moved hvm⟩
theorem stX.kept {A : Nat → Prop} {U : State} {H H1 : Heap} (h : stX A U H) (hq : ∀ a : Nat, a < H.size → ¬ A a → H1[a]? = H[a]?) : stX A U H1 := ⟨h.1.kept hq, h.2.kept hq⟩
theorem stX.narrow {A A' : Nat → Prop} {U : State} {H : Heap} (h : stX A U H) (hAB : ∀ q, A' q → A q) : stX A' U H := ⟨h.1.narrow hAB, h.2.narrow hAB⟩
def PcB (B : Nat) (D : va_G) (ca : CA) (w : NW) (sz : Nat) (U : State) : Prop := U.heap.size = sz ∧ va_P D vwCl (wsO B ca w) U.heap ∧ va_K D vwCl (tyT ca) U ∧ va_D (fun _ => True) (wsO B ca w) ∧ stX (AR B w.1 sz) U U.heap ∧ stR U ∧ (w.2.1 = true → sz = B + w.1) ∧ w.1 ≤ NN
def PcM (B : Nat) (D : va_G) (ca : CA) (as : List AV) (w : NW) (sz : Nat) : Array Value → State → Prop := va_Pc (gs B as) (PcB B D ca w sz)
theorem PcM.blind {B : Nat} {D : va_G} {ca : CA} {as : List AV} {w : NW} {sz : Nat} : FrameBlind (PcM B D ca as w sz) := by
  intro a U g mk h
  obtain ⟨h0, h1, h2, h3, h4, h5, h6, h7⟩ := h
  exact ⟨h0, h1, h2, va_K.moved (u := U) (U := U.calling g mk a) (Vm.Alike.refl U.vm) h3, h4, stX.moved (u := U) (U := U.calling g mk a) (Vm.Alike.refl U.vm) h5, stR.same (s := U) (U := U.calling g mk a) rfl h6, h7⟩
def aArgs : Nat → List AV → List (Nat × AV)
  | _, [] => []
  | i, v :: vs => (i, v) :: aArgs (if ct1 v = 2 then i + 2 else i + 1) vs
theorem aArgs_gl (B : Nat) : ∀ (as : List AV) (i : Nat), gl B (aArgs i as) = lv_args i (gs B as) := by
  intro as
  induction as with
  | nil => intro i; rfl
  | cons v vs ih =>
    intro i
    show (i, gv B v) :: gl B (aArgs (if ct1 v = 2 then i + 2 else i + 1) vs) = (i, gv B v) :: lv_args (if (gv B v).category = 2 then i + 2 else i + 1) (gs B vs)
    rw [ih, ct1_gv]
theorem lg_sl_len (B : Nat) : ∀ as : List AV, (∀ v ∈ as, ct1 v = 1 ∨ ct1 v = 2) → (lg_sl (gs B as)).length = (as.map ct1).sum := by
  intro as
  induction as with
  | nil => intro _; rfl
  | cons v vs ih =>
    intro h
    have h1 := ih (fun u hu => h u (List.mem_cons_of_mem _ hu))
    show (lg_sl (gv B v :: gs B vs)).length = ct1 v + (vs.map ct1).sum
    rw [← h1]
    rcases h v List.mem_cons_self with hv | hv
    · simp [lg_sl, ct1_gv, hv]; omega
    · simp [lg_sl, ct1_gv, hv]; omega
theorem ct1_or (v : AV) : ct1 v = 1 ∨ ct1 v = 2 := by
  rcases v with v | k | n
  · exact lv_cat v
  · exact Or.inl rfl
  · exact Or.inl rfl
abbrev rmk (k : Nat) : Room := { frames := fr k, cells := mc k, slots := ms k, locals := lo k }
def wsM (k : Nat) : List Cond := .code (yn k) (cc k) (mL k) (rt k) :: AW_
def wsW (k : Nat) : List Cond := .codeWith (yn k) (cc k) (mL k) (rt k) (hh k) :: AW_
theorem nost {D : va_G} {cl : List vw_C} {q : Nat} {en9 : va_E} {H : Heap} {cell : Cell} (h : va_at D cl (q, en9) H) (hc : H[q]? = some cell) : cell.vm.isStatics = false := by
  cases en9 with
  | inl x =>
    have h1 : H[q]? = some (vp_cell x.1 x.2) := h
    cases Option.some.inj (hc.symm.trans h1)
    obtain ⟨a, n, f⟩ := x
    rcases f with f | f | f | f | f <;> rfl
  | inr o =>
    obtain ⟨r, h1, cell9, h2, h3, h4, -⟩ := h
    cases Option.some.inj (hc.symm.trans h2)
    rw [h4]; rfl
theorem Cx_of {sc : XT} {k : Nat} (hlaw : k ≠ LAW) {B : Nat} {D : va_G} {ca : CA} {p : Program} {l : Launch} {s : State} {m : MethodId} {args : Array Value} {meth : Method} {c : Code} {w : NW} {sz : Nat} (hv : PcB B D ca w sz s) (hx : p.tables.exec = Jvm.exec) (hb : c.code = cc k) (hml : c.maxLocals = mL k) (hr : meth.sig.returnType = rt k) (hlk : meth.locks = false) (hown : s.vm.findClass (own k) = some m.cls) (hts : ∀ w ∈ AW_, w.before args s = true) (hl : l.stackTraces = false) (ht : c.exceptionTable.toList = tableOf (hh k)) (hn : meth.name = nm k) :
    Cx sc k B D ca p l (rmk k) s m args meth c (AR B w.1 sz) := by
  obtain ⟨h1, h2, h3, h4, h5, h6, h7, h8⟩ := hv
  refine ⟨⟨hx, hb, hml, hr, hlk⟩, ⟨hown, hts, hl, Nat.le_refl _, Nat.le_refl _, Nat.le_refl _, Nat.le_refl _⟩, ⟨h3, fun q hq => Or.inr (by rw [← h1]; exact hq), ht, fun hi => ?_⟩, ⟨⟨h5, fun q cell hq hc => ?_⟩, h6, fun z => absurd z hlaw⟩⟩
  · rw [hn]
    exact ini_nm hi
  · rcases hq with ⟨q1, q2⟩ | hq
    · have hk : q - B < w.1 := by omega
      have h9 : (wsO B ca w)[q - B]? = some (B + (q - B), en B ca w (ky (q - B)).1 (ky (q - B)).2) := by
        simp [wsO, List.getElem?_map, List.getElem?_range hk]
      have h10 := h2 _ _ h9
      rw [show B + (q - B) = q by omega] at h10
      exact nost h10 hc
    · have := (Array.getElem?_eq_some_iff.mp hc).1
      omega
theorem Sem.met {sc : XT} {k : Nat} {as : List AV} {w : NW} {Q : QT} (hS : Sem sc k 0 (aArgs 0 as) [] w 0 0 Q) (hlaw : k ≠ LAW) (hpl : plainName (RN (mo k)) = true) (hnh : hh k = []) (hlen : (as.map ct1).sum ≤ mL k) {l : Launch} (hl : l.stackTraces = false) (B : Nat) (D : va_G) (ca : CA) (sz : Nat) :
    oxM l (yn k) (wsM k) (rmk k) (PcM B D ca as w sz) (Qo B D ca (AR B w.1 sz) (mc k) Q) (mc k) (ms k) (AR B w.1 sz) := by
  refine oxM.body (cc := cc k) (maxL := mL k) (ret := rt k) hpl rfl ?_
  intro p e s m args below meth c s₁ Bd hml ht hv
  obtain ⟨rfl, hv⟩ := hv
  have hts := atoms_spec (ws := wsM k) Bd.pre
  have hC : Cx sc k B D ca p l (rmk k) s m (gs B as).toArray meth c (AR B w.1 sz) := Cx_of hlaw hv Bd.exec Bd.bytes hml Bd.returns Bd.notSynchronized (findClass_of_methodNamed Bd.named) (fun w hw => hts w (List.mem_cons_of_mem _ hw)) hl (by rw [hnh, ht]; rfl) (name_of_methodNamed Bd.named Bd.method).1
  have hll := lv_entry (gs B as) (n := mL k) (by rw [lg_sl_len B as (fun v _ => ct1_or v)]; exact hlen)
  rw [lg_entry_eq]
  rw [← aArgs_gl] at hll
  exact hS B D ca p l e _ s m _ below meth c (AR B w.1 sz) hC s.heap [] _ hll ⟨hv.2.1, wsO_DR hv.2.2.2.1, va_S.rf, fun z => by rw [hv.1]; exact hv.2.2.2.2.2.2.1 z, hv.2.2.2.2.2.2.2⟩
theorem Sem.metW {sc : XT} {k : Nat} {as : List AV} {w : NW} {Q : QT} (hS : Sem sc k 0 (aArgs 0 as) [] w 0 0 Q) (hlaw : k ≠ LAW) (hpl : plainName (RN (mo k)) = true) (hlen : (as.map ct1).sum ≤ mL k) {l : Launch} (hl : l.stackTraces = false) (B : Nat) (D : va_G) (ca : CA) (sz : Nat) :
    oxM l (yn k) (wsW k) (rmk k) (PcM B D ca as w sz) (Qo B D ca (AR B w.1 sz) (mc k) Q) (mc k) (ms k) (AR B w.1 sz) := by
  refine oxM.bodyH (cc := cc k) (maxL := mL k) (ret := rt k) (hd := hh k) hpl rfl ?_
  intro p e s m args below meth c s₁ Bd hml ht hv
  obtain ⟨rfl, hv⟩ := hv
  have hts := atoms_spec (ws := wsW k) Bd.pre
  have hC : Cx sc k B D ca p l (rmk k) s m (gs B as).toArray meth c (AR B w.1 sz) := Cx_of hlaw hv Bd.exec Bd.bytes hml Bd.returns Bd.notSynchronized (findClass_of_methodNamed Bd.named) (fun w hw => hts w (List.mem_cons_of_mem _ hw)) hl ht (name_of_methodNamed Bd.named Bd.method).1
  have hll := lv_entry (gs B as) (n := mL k) (by rw [lg_sl_len B as (fun v _ => ct1_or v)]; exact hlen)
  rw [lg_entry_eq]
  rw [← aArgs_gl] at hll
  exact hS B D ca p l e _ s m _ below meth c (AR B w.1 sz) hC s.heap [] _ hll ⟨hv.2.1, wsO_DR hv.2.2.2.1, va_S.rf, fun z => by rw [hv.1]; exact hv.2.2.2.2.2.2.1 z, hv.2.2.2.2.2.2.2⟩
theorem Sem.metR {sc : XT} {k : Nat} {as : List AV} {w : NW} {Q : QT} (hS : Sem sc k 0 (aArgs 0 as) [] w 0 0 Q) (hno : ∀ E w', ¬ Q (.inr E) w') (hlaw : k ≠ LAW) (hpl : plainName (RN (mo k)) = true) (hnh : hh k = []) (hlen : (as.map ct1).sum ≤ mL k) {l : Launch} (hl : l.stackTraces = false) (B : Nat) (D : va_G) (ca : CA) (sz : Nat) :
    Met l (yn k) (wsM k) (rmk k) (PcM B D ca as w sz) (fun _ st o t => Qo B D ca (AR B w.1 sz) (mc k) Q st o t) (mc k) (ms k) (AR B w.1 sz) := by
  refine Met.ofW (cc := cc k) (maxL := mL k) (ret := rt k) hpl rfl ?_
  intro p e s m args below meth c s₁ Bd hml hv
  obtain ⟨rfl, hv⟩ := hv
  have hts := atoms_spec (ws := wsM k) Bd.pre
  have hno9 : c.exceptionTable.isEmpty = true := Bd.noHandlers (hts _ List.mem_cons_self)
  have hC : Cx sc k B D ca p l (rmk k) s m (gs B as).toArray meth c (AR B w.1 sz) := Cx_of hlaw hv Bd.exec Bd.bytes hml Bd.returns Bd.notSynchronized (findClass_of_methodNamed Bd.named) (fun w hw => hts w (List.mem_cons_of_mem _ hw)) hl (by
    rw [hnh, Array.isEmpty_iff.mp hno9]; rfl) (name_of_methodNamed Bd.named Bd.method).1
  have hll := lv_entry (gs B as) (n := mL k) (by rw [lg_sl_len B as (fun v _ => ct1_or v)]; exact hlen)
  rw [lg_entry_eq]
  rw [← aArgs_gl] at hll
  refine Wmono ?_ (hS B D ca p l e _ s m _ below meth c (AR B w.1 sz) hC s.heap [] _ hll ⟨hv.2.1, wsO_DR hv.2.2.2.1, va_S.rf, fun z => by rw [hv.1]; exact hv.2.2.2.2.2.2.1 z, hv.2.2.2.2.2.2.2⟩)
  rintro t ⟨o, h1, h2, h3, h4, L, h5, h6⟩
  cases o with
  | returned v => exact ⟨.returned v, h1, h2, h3, L, ⟨⟨v, rfl⟩, h4, h5⟩, h6⟩
  | threw q =>
    obtain ⟨E, w', ce, -, h7, -⟩ := h3
    exact (hno E w' h7).elim
/-- a call, as the caller sees it -/
def oxRun (p : Program) (l : Launch) (e : Env) (R : Room) (s : State) (m : MethodId) (args : Array Value) (below : List Frame) (meth : Method) (c : Code) (H : Heap) (locs : List Loc) (cells slots n z : Nat) (g : JFrame) (rest : List Value) (Qe : State → Outcome → State → Prop) (free : Addr → Prop) : Prop :=
  ∀ T : State, T.heap = H → Stand p l e R s m args below meth c T locs cells slots → ∃ (o : Outcome) (st₀ t T' : State) (L : List Loc), st₀.heap = H ∧ ((∃ q, o = .threw q) → s.WarmedH st₀.vm) ∧ Stand p l e R s m args below meth c T' (locs ++ L) (cells + n) (slots + z) ∧ (∀ q ∈ L, free q.base) ∧ T'.heap = t.heap ∧ T'.vm = t.vm ∧ Qe st₀ o t ∧
    oxAfter p e below (T.setTop g) T' g 3 rest o
theorem oxAfter.pre {p : Program} {e : Env} {below : List Frame} {S S' T' : State} {g : JFrame} {len : Nat} {rest : List Value} {o : Outcome} (h : oxAfter p e below S T' g len rest o) (hs : ∀ target, Steps p.tables e below S target → Steps p.tables e below S' target) : oxAfter p e below S' T' g len rest o := by
  cases o with
  | returned v => exact hs _ h
  | threw q => exact hs _ h
section Runs
variable {p : Program} {l : Launch} {e : Env} {R : Room} {s : State} {m : MethodId} {args : Array Value} {below : List Frame} {meth : Method} {c : Code} {H : Heap} {locs : List Loc} {cells slots : Nat} {y : MethodName} {ws : List Cond} {rm : Room} {Pc : Array Value → State → Prop} {Qe : State → Outcome → State → Prop} {mc ms maxL : Nat} {free : Addr → Prop} {own : String} {index : Nat} {g : JFrame} {As rest : List Value}
theorem oxRunS (hM : oxM l y ws rm Pc Qe mc ms free) (hblind : FrameBlind Pc) (hx : p.tables.exec = Jvm.exec) (hown : s.vm.findClass own = some m.cls) (hws : ∀ w ∈ ws, ∀ (a' : Array Value) (U : State), s.WarmedH U.vm → w.before a' U = true)
    (hlk : (Cond.methodLink own index y).before args s = true) (hst : (Cond.static y).before args s = true) (hini : ∀ (a' : Array Value) (U : State), s.WarmedH U.vm → (Cond.initialized y.cls).before a' U = true) (hy : y.cls ≠ "java/lang/invoke/MethodHandle" ∧ y.cls ≠ "java/lang/invoke/VarHandle")
    (hco : ∀ (a' : Array Value) (U : State), s.WarmedH U.vm → ∃ (mk : MethodId) (mY : Method) (cY : Code), U.methodNamed? y = some mk ∧ U.vm.method? mk = some mY ∧ mY.code = some cY ∧ cY.maxLocals = maxL ∧ parseMethodDescriptor y.desc = some mY.sig)
    (hlen : ∀ sig, parseMethodDescriptor y.desc = some sig → As.length = sig.parameters.length) (hrc : rm.cells = mc) (hrs : rm.slots = ms) (hfr : rm.frames + 1 ≤ R.frames) (hlo : 8 + (maxL + 11) + rm.locals ≤ R.locals) (hcs : cells + mc ≤ R.cells) (hss : slots + ms ≤ R.slots)
    (hg : g.method = m) (hsize : g.locals.size = c.maxLocals) (hstack : g.stack = As.reverse ++ rest) (hW : 2 * g.monitorRoom + (rest.map fun v => v.category).sum ≤ 8) (hdg : decode c.code g.pc = .ok (.invokestatic index, 3)) (hPc : ∀ U : State, U.heap = H → s.WarmedH U.vm → Pc As.toArray U) :
    oxRun p l e R s m args below meth c H locs cells slots mc ms g rest Qe free := by
  intro T hT X
  obtain ⟨mk, mY, cY, hnamed, hmY, hcY, hlY, hsig⟩ := hco args s (State.WarmedH.refl s)
  have hstat : mY.isStatic = true := Cond.static_spec hnamed hmY hst
  obtain ⟨kP, hkP, -⟩ := className_of_methodNamed hnamed
  have hinP : kP.init = .initialized := Cond.initialized_spec (findClass_of_methodNamed hnamed) hkP (hini args s (State.WarmedH.refl s))
  obtain ⟨vm₁, X₁, hstep⟩ := X.invokestatic hx hown hlk hnamed hmY hstat hkP hinP hy (g := g) hg (argsL := As) (rest := rest) (hlen _ hsig) hstack hdg
  obtain ⟨mk', mY', cY', hnamed', hmY', hcY', hlY', -⟩ := hco As.toArray (T.setVm vm₁) X₁.warmed
  cases Option.some.inj (hnamed'.symm.trans (X₁.named hnamed))
  obtain ⟨o, t, T', L, X', hL, e1, e2, hq, haft⟩ := oxCore hM X₁ (maxL := maxL) hrc hrs hfr hlo hcs hss (g := { g with stack := rest }) hg hsize hdg hW hnamed' hmY' hcY' hlY' (fun w hw => hws w hw _ _ X₁.warmed) (hini _ _ X₁.warmed) (hblind _ _ _ _ (hPc _ hT X₁.warmed))
  refine ⟨o, _, t, T', L, ?_, ?_, X', hL, e1, e2, hq, haft.pre (fun target h => hstep _ fun acts => by rw [doInvoke_state]; exact h)⟩
  · exact hT
  · exact fun _ => X₁.warmed
theorem oxRunV (hM : oxM l y ws rm Pc Qe mc ms free) (hblind : FrameBlind Pc) (hx : p.tables.exec = Jvm.exec) (hown : s.vm.findClass own = some m.cls) (hws : ∀ w ∈ ws, ∀ (a' : Array Value) (U : State), s.WarmedH U.vm → w.before a' U = true)
    (hlk : (Cond.methodLink own index y).before args s = true) (him : (Cond.instanceMethod y).before args s = true) {C : String} (hse : (Cond.selects C y y).before args s = true) (hini : ∀ (a' : Array Value) (U : State), s.WarmedH U.vm → (Cond.initialized y.cls).before a' U = true) (hy : y.cls ≠ "java/lang/invoke/MethodHandle" ∧ y.cls ≠ "java/lang/invoke/VarHandle")
    (hco : ∀ (a' : Array Value) (U : State), s.WarmedH U.vm → ∃ (mk : MethodId) (mY : Method) (cY : Code), U.methodNamed? y = some mk ∧ U.vm.method? mk = some mY ∧ mY.code = some cY ∧ cY.maxLocals = maxL ∧ parseMethodDescriptor y.desc = some mY.sig)
    {b : Addr} {cellB : Cell} (hcell : H[b]? = some cellB) (hobj : cellB.vm.isStatics = false) (hcls : s.vm.findClass C = some cellB.cls)
    (hlen : ∀ sig, parseMethodDescriptor y.desc = some sig → As.length = sig.parameters.length) (hrc : rm.cells = mc) (hrs : rm.slots = ms) (hfr : rm.frames + 1 ≤ R.frames) (hlo : 8 + (maxL + 11) + rm.locals ≤ R.locals) (hcs : cells + mc ≤ R.cells) (hss : slots + ms ≤ R.slots)
    (hg : g.method = m) (hsize : g.locals.size = c.maxLocals) (hstack : g.stack = As.reverse ++ .ref b :: rest) (hW : 2 * g.monitorRoom + (rest.map fun v => v.category).sum ≤ 8) (hdg : decode c.code g.pc = .ok (.invokevirtual index, 3)) (hPc : ∀ U : State, U.heap = H → s.WarmedH U.vm → Pc (Value.ref b :: As).toArray U) :
    oxRun p l e R s m args below meth c H locs cells slots mc ms g rest Qe free := by
  intro T hT X
  obtain ⟨mk, mY, hnamed, hmY, hstM, habM⟩ := Cond.instanceMethod_spec him
  obtain ⟨mk2, mY2, cY, hn2, hmY2, hcY, hlY, hsig⟩ := hco args s (State.WarmedH.refl s)
  cases Option.some.inj (hn2.symm.trans hnamed)
  cases Option.some.inj (hmY2.symm.trans hmY)
  obtain ⟨c2, r2, m2, q1, q2, q3, q4, kP, hkP, hkPi⟩ := Cond.selects_spec hse
  cases hcls.symm.trans q1
  cases (State.methodFound?_of_named hnamed hy).symm.trans q2
  cases hnamed.symm.trans q3
  have hselP : selectMethod e.platform s.vm cellB.cls mk = .method mk := by rw [Launch.admits_selectMethod X.admits]; exact q4
  obtain ⟨vm₁, X₁, hstep⟩ := X.invokevirtual hx hown hlk hnamed hmY hstM hkP hkPi hy (a := b) (cell := cellB) (by rw [hT]; exact hcell)
    (fun z h => by rw [h] at hobj; cases hobj) hselP hmY habM hkP hkPi (g := g) hg (argsL := As) (rest := rest) (hlen _ hsig) hstack hdg
  obtain ⟨mk', mY', cY', hnamed', hmY', hcY', hlY', -⟩ := hco (Value.ref b :: As).toArray (T.setVm vm₁) X₁.warmed
  cases Option.some.inj (hnamed'.symm.trans (X₁.named hnamed))
  obtain ⟨o, t, T', L, X', hL, e1, e2, hq, haft⟩ := oxCore hM X₁ (maxL := maxL) hrc hrs hfr hlo hcs hss (g := { g with stack := rest }) hg hsize hdg hW hnamed' hmY' hcY' hlY' (fun w hw => hws w hw _ _ X₁.warmed) (hini _ _ X₁.warmed) (hblind _ _ _ _ (hPc _ hT X₁.warmed))
  refine ⟨o, _, t, T', L, ?_, ?_, X', hL, e1, e2, hq, haft.pre (fun target h => hstep _ fun acts => by rw [doInvoke_state]; exact h)⟩
  · exact hT
  · exact fun _ => X₁.warmed
end Runs
section Calls
variable {sc : XT} {k : Nat} {lv : List (Nat × AV)} {w : NW} {cells slots : Nat} {Q : QT}
/-- behind a call that returns or throws -/
theorem go_run {B : Nat} {D : va_G} {ca : CA} {p : Program} {l : Launch} {e : Env} {R : Room} {s : State} {m : MethodId} {args : Array Value} {below : List Frame} {meth : Method} {c : Code} {A : Nat → Prop} {H : Heap} {locs : List Loc} {ls : Array Slot} {pc n z : Nat} {st0 : List Value} {rst : List AV} {Qs : State → Prop} {Q' : QT}
    (hA : ∀ q, s.heap.size ≤ q → A q) (hw : Wd B D ca A s.heap cells w H locs) (hfz : ∀ v w', Q' (.inl v) w' → w'.2.1 = true → H.size = s.heap.size + cells) (hfx : ∀ E w', Q' (.inr E) w' → w'.2.1 = false)
    (hr : oxRun p l e R s m args below meth c H locs cells slots n z (F0 m pc ls st0) (gs B rst) (Qo B D ca (AR B w.1 H.size) n Q') (AR B w.1 H.size))
    (kk : ∀ (v : Option AV) (w' : NW) (H1 : Heap) (locs1 : List Loc), Q' (.inl v) w' → Wd B D ca A s.heap (cells + n) w' H1 locs1 → W p l e R s m args below meth c H1 locs1 (cells + n) (slots + z) Qs (F0 m (pc + 3) ls (gs B (v.toList ++ rst))))
    (kx : ∀ (E : String) (w' : NW) (H1 : Heap) (locs1 : List Loc) (q : Addr) (ce : Cell), Q' (.inr E) w' → Wd B D ca A s.heap (cells + n) w' H1 locs1 → H1[q]? = some ce → ce.vm = .none → s.vm.findClass E = some ce.cls → oxW p l e R s m args below meth c H1 locs1 (cells + n) (slots + z) Qs (F0 m pc ls (gs B rst)) q) :
    W p l e R s m args below meth c H locs cells slots Qs (F0 m pc ls st0) := by
  intro T hT X
  have hsub := AR_sub hw hA
  obtain ⟨o, st₀, t, T', L, h0, hW0, X', hL, e1, e2, hq, haft⟩ := hr T hT X
  have key : ∀ w' : NW, Bd B D ca (AR B w.1 H.size) n w' st₀ t → va_F (AR B w.1 H.size) st₀ t → (w'.2.1 = true → H.size = s.heap.size + cells) → Wd B D ca A s.heap (cells + n) w' T'.heap (locs ++ L) := by
    rintro w' ⟨b1, b2, b3, b4⟩ ⟨f1, f2⟩ hz
    rw [h0] at f1 f2 b3
    refine ⟨by rw [e1]; exact b1, b2.weaken (fun k q hk h => hsub _ h), ⟨?_, ?_, ?_⟩, fun z => ?_, b4⟩
    · rw [e1]; exact Nat.le_trans hw.2.2.1.1 f1
    · intro q h1 h2
      rw [e1, f2 q (Nat.lt_of_lt_of_le h1 hw.2.2.1.1) (fun z => h2 (hsub q z))]
      exact hw.2.2.1.2.1 q h1 h2
    · intro q h
      rcases List.mem_append.mp h with h | h
      · exact hw.2.2.1.2.2 q h
      · exact hsub _ (hL q h)
    · have h8 := b3 z
      have h9 := hz z
      omega
  cases o with
  | returned v =>
    obtain ⟨v0, w', rfl, h1, h2, h3⟩ := hq
    obtain ⟨t2, a1, b5⟩ := kk v0 w' T'.heap (locs ++ L) h1 (key w' h2 h3 (hfz v0 w' h1)) T' rfl X'
    refine ⟨t2, Steps.trans haft ?_, b5⟩
    have e9 : (v0.map (gv B)).toList ++ gs B rst = gs B (v0.toList ++ rst) := by cases v0 <;> rfl
    show Steps p.tables e below (T'.setTop { F0 m pc ls st0 with pc := pc + 3, stack := (v0.map (gv B)).toList ++ gs B rst }) t2
    rw [e9]
    exact a1
  | threw q =>
    obtain ⟨E, w', ce, ⟨c1, c2, c3⟩, h1, h2, h3⟩ := hq
    obtain ⟨t2, a1, b5⟩ := kx E w' T'.heap (locs ++ L) q ce h1 (key w' h2 h3 (fun z => by rw [hfx E w' h1] at z; cases z)) (by rw [e1]; exact c1) c2 (by rw [← (hW0 ⟨q, rfl⟩).alike.findClass]; exact c3) T' rfl X'
    exact ⟨t2, Steps.trans haft a1, b5⟩
theorem PcB_of {B : Nat} {D : va_G} {ca : CA} {A : Nat → Prop} {s U : State} {H : Heap} {locs : List Loc} (hw : Wd B D ca A s.heap cells w H locs) (hA : ∀ q, s.heap.size ≤ q → A q) (hK : va_K D vwCl (tyT ca) s) (hX : stX A s s.heap) (hR : stR s) (hz : w.2.1 = true → H.size = B + w.1) (hU : U.heap = H) (hW : s.WarmedH U.vm) : PcB B D ca w H.size U :=
  ⟨by rw [hU], by rw [hU]; exact hw.1, va_K.moved hW.alike hK, hw.2.1.weaken (fun _ _ _ _ => trivial), by rw [hU]; exact ((hX.kept hw.2.2.1.2.1).moved hW.alike).narrow (AR_sub hw hA), stR.warm hW hR, hz, hw.2.2.2.2⟩
theorem co_of {k : Nat} {s : State} {args : Array Value} (hts : ∀ w ∈ AW_, w.before args s = true) (h : Cond.code (yn k) (cc k) (mL k) (rt k) ∈ AW_ ∨ Cond.codeWith (yn k) (cc k) (mL k) (rt k) (hh k) ∈ AW_) : ∀ (a' : Array Value) (U : State), s.WarmedH U.vm → ∃ (mk : MethodId) (mY : Method) (cY : Code), U.methodNamed? (yn k) = some mk ∧ U.vm.method? mk = some mY ∧ mY.code = some cY ∧ cY.maxLocals = mL k ∧ parseMethodDescriptor (yn k).desc = some mY.sig := by
  intro a' U hW
  rcases h with h | h
  · have h1 := pay_in hts gAW _ h a' U hW
    obtain ⟨mk, hn⟩ := Cond.named_of_code h1
    obtain ⟨mY, cY, h2, h3, -, h4, -, -, -, h5⟩ := Cond.code_spec hn h1
    exact ⟨mk, mY, cY, hn, h2, h3, h4, h5⟩
  · have h1 := pay_in hts gAW _ h a' U hW
    obtain ⟨mk, mY, cY, hn, h2, h3, -, h4, -, -, -, h5⟩ := Cond.codeWith_spec h1
    exact ⟨mk, mY, cY, hn, h2, h3, h4, h5⟩
def MK (k : Nat) : Prop := Cond.initialized (RN (mo k)) ∈ AW_ ∧ plainName (RN (mo k)) = true ∧ (RN (mo k) ≠ "java/lang/invoke/MethodHandle" ∧ RN (mo k) ≠ "java/lang/invoke/VarHandle") ∧ (parseMethodDescriptor (ds k)).map (fun d => d.parameters.length) = some (np k) ∧ k ≠ LAW ∧ ((hh k = [] ∧ Cond.code (yn k) (cc k) (mL k) (rt k) ∈ AW_) ∨ Cond.codeWith (yn k) (cc k) (mL k) (rt k) (hh k) ∈ AW_)
theorem gsub {ws : List Cond} (h : ∀ w ∈ ws, w ∈ AW_) : GoodIn AW_ ws := fun w hw => gAW w (h w hw)
theorem gs_len (B : Nat) (as : List AV) : (gs B as).length = as.length := by simp [gs]
theorem gs_cat (B : Nat) (as : List AV) : ((gs B as).map fun v => v.category).sum = (as.map ct1).sum := by
  induction as with
  | nil => rfl
  | cons v vs ih =>
    show (((gv B v).category :: (gs B vs).map fun v => v.category).sum) = (ct1 v :: vs.map ct1).sum
    rw [List.sum_cons, List.sum_cons, ct1_gv, ih]
/-- a virtual call -/
theorem Sem.callV {pc idx k' t i : Nat} {as rst : List AV} {Q' : QT} (hd : decode (cc k) pc = .ok (.invokevirtual idx, 3)) (hM : MK k') (hnh : hh k' = []) (hco : Cond.code (yn k') (cc k') (mL k') (rt k') ∈ AW_)
    (hlk : Cond.methodLink (RN (mo k)) idx (yn k') ∈ AW_) (him : Cond.instanceMethod (yn k') ∈ AW_) (hse : Cond.selects (RN (mo k')) (yn k') (yn k') ∈ AW_) (hkt : kd t = (3, mo k')) (hv : vld w.1 t i) (hfz : w.2.1 = false) (hq1 : ∀ v w', Q' (.inl v) w' → w'.2.1 = false) (hq2 : ∀ E w', Q' (.inr E) w' → w'.2.1 = false)
    (hlen : ((aR t i :: as).map ct1).sum ≤ mL k') (hn : as.length = np k') (hrs : (rst.map ct1).sum ≤ 8) (hfr : fr k' + 1 ≤ fr k) (hlo : 8 + (mL k' + 11) + lo k' ≤ lo k) (hc : cells + mc k' ≤ mc k) (hs : slots + ms k' ≤ ms k)
    (hS : Sem sc k' 0 (aArgs 0 (aR t i :: as)) [] w 0 0 Q')
    (kk : ∀ v w', Q' (.inl v) w' → Sem sc k (pc + 3) lv (v.toList ++ rst) w' (cells + mc k') (slots + ms k') Q) (kx : ∀ E w', Q' (.inr E) w' → SemX sc k pc lv E w' (cells + mc k') (slots + ms k') Q) :
    Sem sc k pc lv (as.reverse ++ aR t i :: rst) w cells slots Q := by
  intro B D ca p l e R s m args below meth c A C H locs ls hl hw
  obtain ⟨⟨hx, hb, hmx, hrt, hlks⟩, ⟨hown, hts, hst, r1, r2, r3, r4⟩, ⟨hK, hA, het, hin⟩, ⟨hX, hR, hlaw⟩⟩ := id C
  obtain ⟨m1, m2, m3, m4, m5, -⟩ := hM
  obtain ⟨C9, T9, ty9, c1, -⟩ := ck_ok hkt
  have hC9 : C9 = RN (mo k') := vwCl_name c1
  have he := wsO_at (B := B) (ca := ca) (w := w) hv
  rw [en_obj hkt] at he
  have hg0 : GoodIn AW_ (wsM k') := gsub (fun w9 h9 => by
    rcases List.mem_cons.mp h9 with rfl | h9
    · exact hco
    · exact h9)
  have hrecv := va_recv (cl := vwCl) hK hw.1 c1 he
  rw [hC9] at hrecv
  obtain ⟨cellB, hr1, hr2, hr3⟩ := hrecv
  refine go_run (Q' := Q') hA hw (fun v w' h z => by rw [hq1 v w' h] at z; cases z) hq2 (oxRunV (As := gs B as) (rest := gs B rst) (hS.met m5 m2 hnh hlen hst B D ca H.size) PcM.blind hx hown (pay_in hts hg0) (hts _ hlk) (hts _ him) (hts _ hse) (fun a' U hW => pay_in hts gAW _ m1 a' U hW) m3 (co_of hts (Or.inl hco)) hr1 hr2 hr3 (fun sig h => by rw [gs_len, hn]; have h9 := m4; rw [show parseMethodDescriptor (ds k') = some sig from h] at h9; exact (Option.some.inj h9).symm) rfl rfl (Nat.le_trans hfr r1) (Nat.le_trans hlo r2) (Nat.le_trans hc r3) (Nat.le_trans hs r4) rfl (hl.1.trans hmx.symm) (by simp [gs, List.map_append, List.map_reverse, gv]) (lv_room (by rw [gs_cat]; exact hrs)) (by rw [hb]; exact hd) (fun U hU hW => ⟨rfl, PcB_of hw hA hK hX.1 hR (fun z => by rw [hfz] at z; cases z) hU hW⟩)) ?_ ?_
  · intro v w' H1 locs1 hq hw1
    exact kk v w' hq B D ca p l e R s m args below meth c A C H1 locs1 ls hl hw1
  · intro E w' H1 locs1 q ce hq hw1 h1 h2 h3
    exact kx E w' hq B D ca p l e R s m args below meth c A C H1 locs1 ls _ q ce hl hw1 h1 h2 h3
/-- a static call -/
theorem Sem.callS {pc idx k' : Nat} {as rst : List AV} {Q' : QT} (hd : decode (cc k) pc = .ok (.invokestatic idx, 3)) (hM : MK k') (hnh : hh k' = []) (hco : Cond.code (yn k') (cc k') (mL k') (rt k') ∈ AW_)
    (hlk : Cond.methodLink (RN (mo k)) idx (yn k') ∈ AW_) (hstt : Cond.static (yn k') ∈ AW_) (hfz : w.2.1 = false) (hq1 : ∀ v w', Q' (.inl v) w' → w'.2.1 = false) (hq2 : ∀ E w', Q' (.inr E) w' → w'.2.1 = false)
    (hlen : (as.map ct1).sum ≤ mL k') (hn : as.length = np k') (hrs : (rst.map ct1).sum ≤ 8) (hfr : fr k' + 1 ≤ fr k) (hlo : 8 + (mL k' + 11) + lo k' ≤ lo k) (hc : cells + mc k' ≤ mc k) (hs : slots + ms k' ≤ ms k)
    (hS : Sem sc k' 0 (aArgs 0 as) [] w 0 0 Q')
    (kk : ∀ v w', Q' (.inl v) w' → Sem sc k (pc + 3) lv (v.toList ++ rst) w' (cells + mc k') (slots + ms k') Q) (kx : ∀ E w', Q' (.inr E) w' → SemX sc k pc lv E w' (cells + mc k') (slots + ms k') Q) :
    Sem sc k pc lv (as.reverse ++ rst) w cells slots Q := by
  intro B D ca p l e R s m args below meth c A C H locs ls hl hw
  obtain ⟨⟨hx, hb, hmx, hrt, hlks⟩, ⟨hown, hts, hst, r1, r2, r3, r4⟩, ⟨hK, hA, het, hin⟩, ⟨hX, hR, hlaw⟩⟩ := id C
  obtain ⟨m1, m2, m3, m4, m5, -⟩ := hM
  have hg0 : GoodIn AW_ (wsM k') := gsub (fun w9 h9 => by
    rcases List.mem_cons.mp h9 with rfl | h9
    · exact hco
    · exact h9)
  refine go_run (Q' := Q') hA hw (fun v w' h z => by rw [hq1 v w' h] at z; cases z) hq2 (oxRunS (As := gs B as) (rest := gs B rst) (hS.met m5 m2 hnh hlen hst B D ca H.size) PcM.blind hx hown (pay_in hts hg0) (hts _ hlk) (hts _ hstt) (fun a' U hW => pay_in hts gAW _ m1 a' U hW) m3 (co_of hts (Or.inl hco)) (fun sig h => by rw [gs_len, hn]; have h9 := m4; rw [show parseMethodDescriptor (ds k') = some sig from h] at h9; exact (Option.some.inj h9).symm) rfl rfl (Nat.le_trans hfr r1) (Nat.le_trans hlo r2) (Nat.le_trans hc r3) (Nat.le_trans hs r4) rfl (hl.1.trans hmx.symm) (by simp [gs, List.map_append, List.map_reverse]) (lv_room (by rw [gs_cat]; exact hrs)) (by rw [hb]; exact hd) (fun U hU hW => ⟨rfl, PcB_of hw hA hK hX.1 hR (fun z => by rw [hfz] at z; cases z) hU hW⟩)) ?_ ?_
  · intro v w' H1 locs1 hq hw1
    exact kk v w' hq B D ca p l e R s m args below meth c A C H1 locs1 ls hl hw1
  · intro E w' H1 locs1 q ce hq hw1 h1 h2 h3
    exact kx E w' hq B D ca p l e R s m args below meth c A C H1 locs1 ls _ q ce hl hw1 h1 h2 h3
/-- a static call of a method with handlers -/
theorem Sem.callSH {pc idx k' : Nat} {as rst : List AV} {Q' : QT} (hd : decode (cc k) pc = .ok (.invokestatic idx, 3)) (hM : MK k') (hco : Cond.codeWith (yn k') (cc k') (mL k') (rt k') (hh k') ∈ AW_)
    (hlk : Cond.methodLink (RN (mo k)) idx (yn k') ∈ AW_) (hstt : Cond.static (yn k') ∈ AW_) (hfz : w.2.1 = false) (hq1 : ∀ v w', Q' (.inl v) w' → w'.2.1 = false) (hq2 : ∀ E w', Q' (.inr E) w' → w'.2.1 = false)
    (hlen : (as.map ct1).sum ≤ mL k') (hn : as.length = np k') (hrs : (rst.map ct1).sum ≤ 8) (hfr : fr k' + 1 ≤ fr k) (hlo : 8 + (mL k' + 11) + lo k' ≤ lo k) (hc : cells + mc k' ≤ mc k) (hs : slots + ms k' ≤ ms k)
    (hS : Sem sc k' 0 (aArgs 0 as) [] w 0 0 Q')
    (kk : ∀ v w', Q' (.inl v) w' → Sem sc k (pc + 3) lv (v.toList ++ rst) w' (cells + mc k') (slots + ms k') Q) (kx : ∀ E w', Q' (.inr E) w' → SemX sc k pc lv E w' (cells + mc k') (slots + ms k') Q) :
    Sem sc k pc lv (as.reverse ++ rst) w cells slots Q := by
  intro B D ca p l e R s m args below meth c A C H locs ls hl hw
  obtain ⟨⟨hx, hb, hmx, hrt, hlks⟩, ⟨hown, hts, hst, r1, r2, r3, r4⟩, ⟨hK, hA, het, hin⟩, ⟨hX, hR, hlaw⟩⟩ := id C
  obtain ⟨m1, m2, m3, m4, m5, -⟩ := hM
  have hg0 : GoodIn AW_ (wsW k') := gsub (fun w9 h9 => by
    rcases List.mem_cons.mp h9 with rfl | h9
    · exact hco
    · exact h9)
  refine go_run (Q' := Q') hA hw (fun v w' h z => by rw [hq1 v w' h] at z; cases z) hq2 (oxRunS (As := gs B as) (rest := gs B rst) (hS.metW m5 m2 hlen hst B D ca H.size) PcM.blind hx hown (pay_in hts hg0) (hts _ hlk) (hts _ hstt) (fun a' U hW => pay_in hts gAW _ m1 a' U hW) m3 (co_of hts (Or.inr hco)) (fun sig h => by rw [gs_len, hn]; have h9 := m4; rw [show parseMethodDescriptor (ds k') = some sig from h] at h9; exact (Option.some.inj h9).symm) rfl rfl (Nat.le_trans hfr r1) (Nat.le_trans hlo r2) (Nat.le_trans hc r3) (Nat.le_trans hs r4) rfl (hl.1.trans hmx.symm) (by simp [gs, List.map_append, List.map_reverse]) (lv_room (by rw [gs_cat]; exact hrs)) (by rw [hb]; exact hd) (fun U hU hW => ⟨rfl, PcB_of hw hA hK hX.1 hR (fun z => by rw [hfz] at z; cases z) hU hW⟩)) ?_ ?_
  · intro v w' H1 locs1 hq hw1
    exact kk v w' hq B D ca p l e R s m args below meth c A C H1 locs1 ls hl hw1
  · intro E w' H1 locs1 q ce hq hw1 h1 h2 h3
    exact kx E w' hq B D ca p l e R s m args below meth c A C H1 locs1 ls _ q ce hl hw1 h1 h2 h3
/-- an exception that nobody catches here -/
theorem SemX.out {pc : Nat} {E : String} (hnh : ∀ x ∈ tableOf (hh k), covers x pc = false) (hc : cells ≤ mc k) (hs : slots ≤ ms k) (hz : w.2.1 = false) (hQ : Q (.inr E) w) : SemX sc k pc lv E w cells slots Q := by
  intro B D ca p l e R s m args below meth c A C H locs ls rest q ce hl hw h1 h2 h3
  obtain ⟨⟨hx, hb, hmx, hrt, hlks⟩, ⟨hown, hts, hst, r1, r2, r3, r4⟩, ⟨hK, hA, het, hin⟩, ⟨hX, hR, hlaw⟩⟩ := id C
  intro T hT X
  have X2 := stand_widen X hc hs
  obtain ⟨h4, h5, h6, h7, h8⟩ := X2.leaveThrown q (g := F0 m pc ls rest) rfl rfl rfl (fun x hx9 => hnh x (by rw [← het]; exact hx9)) hlks
  exact ⟨_, h4, .threw q, h5, h6, ⟨E, w, ce, ⟨by show T.heap[q]? = some ce; rw [hT]; exact h1, h2, h3⟩, hQ, hw.bd hT (fun z => by rw [hz] at z; cases z), hw.2.2.1.F hT⟩, h7, locs, h8, hw.2.2.1.2.2⟩
/-- an exception that is caught here -/
theorem SemX.catch {pc en9 : Nat} (he3 : en9 < 3) (pre : List ExceptionTableEntry) (x : ExceptionTableEntry) (suf : List ExceptionTableEntry) (hsplit : tableOf (hh k) = pre ++ x :: suf)
    (hpass : ∀ z ∈ pre, covers z pc = false ∨ (z.catchType ≠ 0 ∧ ∃ nm : String, Cond.classLink (RN (mo k)) z.catchType nm ∈ AW_ ∧ (EX en9, nm) ∈ ncT)) (hx0 : covers x pc = true) (h0 : x.catchType ≠ 0)
    (hlink : Cond.classLink (RN (mo k)) x.catchType (EX en9) ∈ AW_)
    (kk : ∀ q : Nat, Sem sc k x.handlerPc lv [aV (.ref q)] w cells slots Q) : SemX sc k pc lv (EX en9) w cells slots Q := by
  intro B D ca p l e R s m args below meth c A C H locs ls rest q ce hl hw h1 h2 h3
  obtain ⟨⟨hx, hb, hmx, hrt, hlks⟩, ⟨hown, hts, hst, r1, r2, r3, r4⟩, ⟨hK, hA, het, hin⟩, ⟨hX, hR, hlaw⟩⟩ := id C
  intro T hT X
  have hpl : e.platform.magicAccessors = ({} : Platform).magicAccessors := by rw [X.admits.platform]
  obtain ⟨c4, hc4, hasg⟩ := hR.2.2.2.2.1 en9 he3
  cases Option.some.inj (hc4.symm.trans h3)
  obtain ⟨c5, hc5, hcl5⟩ := Cond.classLink_spec hown (hts _ hlink) e.platform hpl
  cases Option.some.inj (hc4.symm.trans hc5)
  obtain ⟨k9, hk9, -⟩ := Vm.findClass_spec h3
  obtain ⟨vm', hW', hf⟩ := oxFinds (e := e) (s₀ := s) (S := (T.setTop (F0 m pc ls rest)).pushFrame (.throwing q)) (f := F0 m pc ls rest) (a := q) (meth := meth) (code := c) (cell := ce) X.method' X.code X.warmed (by show T.heap[q]? = some ce; rw [hT]; exact h1) (fun z h => by rw [h2] at h; cases h) ⟨k9, hk9⟩ pre x suf (by rw [het]; exact hsplit) (fun z hz => by
    rcases hpass z hz with h | ⟨h4, nm9, h5, h6⟩
    · exact Or.inl h
    · obtain ⟨c6, hc6, hcl6⟩ := Cond.classLink_spec hown (hts _ h5) e.platform hpl
      obtain ⟨a8, b8, g1, g2, g3⟩ := hR.2.1 _ h6
      cases Option.some.inj (g1.symm.trans h3)
      cases Option.some.inj (g2.symm.trans hc6)
      exact Or.inr ⟨h4, _, hcl6, g3⟩) hx0 h0 hcl5 hasg
  obtain ⟨t, a1, b1⟩ := kk q B D ca p l e R s m args below meth c A C H locs ls hl hw (T.setVm vm') hT (X.noted hW')
  exact ⟨t, oxCaught X.here hf a1, b1⟩
end Calls
end
section
-- ===== throws, new cells, the library's own methods =====
theorem le_loc {B n x y : Nat} {st : List AV} (h : (st.map ct1).sum + n ≤ x) (h2 : x ≤ y) : ((gs B st).map fun v => v.category).sum + n ≤ y := by rw [gs_cat]; exact Nat.le_trans h h2
section More
variable {sc : XT} {k pc : Nat} {lv : List (Nat × AV)} {st : List AV} {w : NW} {cells slots : Nat} {Q : QT}
/-- the same frame, with the heap as it stands for its start -/
theorem anew {p : Program} {l : Launch} {e : Env} {R : Room} {s : State} {m : MethodId} {args : Array Value} {below : List Frame} {meth : Method} {c : Code} {T : State} {locs : List Loc} (X : Stand p l e R s m args below meth c T locs cells slots) {nc ns : Nat} (hc : cells + nc ≤ R.cells) (hs : slots + ns ≤ R.slots) :
    Stand p l e { frames := R.frames, locals := R.locals, cells := nc, slots := ns } ((T.setVm s.vm).setFrames (.invoking m args :: below)) m args below meth c T [] 0 0 := by
  have htop : (T.setVm s.vm).topJava?.isSome := X.here.top
  obtain ⟨g₀, hg0⟩ := Option.isSome_iff_exists.mp htop
  obtain ⟨r, hr⟩ := State.topJava?_eq_some.mp hg0
  have hF : ((T.setVm s.vm).setFrames (.invoking m args :: below)).frames = .invoking m args :: below := State.frames_setFrames _ (State.cur_lt_of_top htop)
  have hlim : e.platform.stackLimits (T.setVm s.vm).me = e.platform.stackLimits s.me := X.limits
  have hbyt : (T.setVm s.vm).me.stackBytes = s.me.stackBytes := X.bytes
  have hnil : ((T.heap.toList.drop T.heap.size).map (·.slots.size)).sum = 0 := by
    rw [List.drop_eq_nil_of_le (Nat.le_of_eq Array.length_toList)]; rfl
  refine ⟨X.admits, X.cas, X.clock, hF, ?_, X.hears, X.method, X.code, X.here, X.tail, X.warmed, by rw [State.stackLimits_setFrames]; rfl, by rw [State.stackBytes_setFrames]; rfl, ?_⟩
  · have h := X.room
    have hU : ((T.setVm s.vm).setFrames (.invoking m args :: below)).localsInUse = s.localsInUse := by
      rw [State.localsInUse_invoking hF (meth := meth) (c := c) X.method X.code, State.localsInUse_invoking X.frames X.method X.code]
    simp only [State.hasRoom, Bool.and_eq_true, decide_eq_true_eq] at h ⊢
    obtain ⟨⟨⟨⟨h1, h2, h3, h4, h5, h6⟩, h7⟩, h8⟩, h9⟩ := h
    rw [X.frames, List.length_cons] at h2 h3
    have q1 := X.heapSize
    have q2 := X.used
    simp only [hF, hU, List.length_cons, State.stackLimits_setFrames, State.stackBytes_setFrames, hlim, hbyt]
    refine ⟨⟨⟨⟨by omega, by omega, by omega, by omega, by omega, h6⟩, ?_⟩, ?_⟩, X.book⟩
    · show T.heap.size + nc ≤ e.platform.maxCells
      omega
    · show T.slotsUsed + ns ≤ e.platform.maxSlots
      omega
  · refine ⟨?_, Nat.le_refl _, Nat.le_refl _, ?_, ?_, fun a c9 h9 => ⟨c9, h9, rfl, rfl, fun _ _ => rfl⟩⟩
    · obtain ⟨th, hth, -⟩ := State.frames_cons hr
      show T.setVm s.vm = { ((T.setVm s.vm).setFrames (.invoking m args :: below)).setFrames (T.setVm s.vm).frames with heap := T.heap, slotsUsed := T.slotsUsed }
      rw [State.setFrames_setFrames, State.setFrames_self hth]
      rfl
    · show T.slotsUsed = T.slotsUsed + ((T.heap.toList.drop T.heap.size).map (·.slots.size)).sum
      rw [hnil]; rfl
    · show ((T.heap.toList.drop T.heap.size).map (·.slots.size)).sum ≤ 0
      rw [hnil]
      exact Nat.le_refl _
theorem same_at {s U : State} {n z : Nat} (h : s.sameButNew ({ U with vm := s.vm } : State) [] n z) : s.heap.size ≤ U.heap.size ∧ ∀ q : Nat, q < s.heap.size → U.heap[q]? = s.heap[q]? := by
  obtain ⟨-, h2, -, -, -, h6⟩ := h
  refine ⟨h2, fun q hq => ?_⟩
  have hc : s.heap[q]? = some s.heap[q] := Array.getElem?_eq_getElem hq
  obtain ⟨c', h7, h8, h9, h10⟩ := h6 q _ hc
  have h7' : U.heap[q]? = some c' := h7
  rw [h7', hc]
  have hsl : c'.slots = (s.heap[q]).slots := by
    apply Array.ext_getElem?
    intro i
    exact h10 i (fun z => nomatch z)
  rw [h8, hsl]
theorem Sem.throw {ik is ic en9 : Nat} (he3 : en9 < 3) {E text : String} (hEn : E = EX en9) {names : List String} (d0 : decode (cc k) pc = .ok (.new ik, 3)) (d3 : decode (cc k) (pc + 3) = .ok (.dup, 1)) (d4 : decode (cc k) (pc + 4) = .ok (.ldc is, 2)) (d6 : decode (cc k) (pc + 6) = .ok (.invokespecial ic, 3)) (d9 : decode (cc k) (pc + 9) = .ok (.athrow, 1))
    (hE : Bundle.fit E = true) (hnm : ∀ n ∈ names, Bundle.fit n = true) (hk : Cond.classLink (RN (mo k)) ik E ∈ AW_) (hini : Cond.initialized E ∈ AW_) (hins : Cond.instantiable E 6 ∈ AW_) (hstr : (RN (mo k), is, text) ∈ strT)
    (hat : ∀ w ∈ Bundle.ownAtoms (RN (mo k)) ic E names, w ∈ AW_ ∨ w ∈ ([.laysStatic Bundle.tN "UNASSIGNED_STACK" Bundle.steD, .isRef (.static Bundle.tN "UNASSIGNED_STACK" Bundle.steD), .laysStatic Bundle.tN "SUPPRESSED_SENTINEL" Bundle.listD, .isRef (.static Bundle.tN "SUPPRESSED_SENTINEL" Bundle.listD), .castable E E, .declares (Bundle.initS (DX 0)), .declares (Bundle.initS (DX 1)), .declares (Bundle.initS (DX 2))] : List Cond)) (hnh : ∀ x ∈ tableOf (hh k), covers x (pc + 9) = false)
    (hfr : names.length + 3 < fr k) (hlo : (st.map ct1).sum + (13 * (names.length + 1) + 43) ≤ lo k) (hc : cells + 1 ≤ mc k) (hs : slots + 6 ≤ ms k) (hz : w.2.1 = false) (hQ : Q (.inr E) w) : Sem sc k pc lv st w cells slots Q := by
  intro B D ca p l e R s0 m args below meth c A C H locs ls hl hw T hT X0
  obtain ⟨⟨hx, hb, hmx, hrt, hlks⟩, ⟨hown0, hts0, hst, r1, r2, r3, r4⟩, ⟨hK, hA, het, hin⟩, ⟨hX, hR, hlaw⟩⟩ := id C
  have X := anew X0 (nc := 1) (ns := 6) (Nat.le_trans hc r3) (Nat.le_trans hs r4)
  obtain ⟨s, hsd⟩ : ∃ z, z = (T.setVm s0.vm).setFrames (.invoking m args :: below) := ⟨_, rfl⟩
  rw [← hsd] at X
  have hvm : s.vm = s0.vm := by rw [hsd]; rfl
  have hhp : s.heap = H := by rw [hsd]; exact hT
  have hW0 : s0.WarmedH s.vm := by rw [hvm]; exact State.WarmedH.refl s0
  have hts : ∀ w ∈ AW_, w.before args s = true := fun w9 h9 => pay_in hts0 gAW w9 h9 args s hW0
  have hown : s.vm.findClass (RN (mo k)) = some m.cls := by rw [hvm]; exact hown0
  have hX1 : oxT "UNASSIGNED_STACK" Bundle.steD A s s.heap := by rw [hhp]; exact (hX.1.1.kept hw.2.2.1.2.1).moved hW0.alike
  have hX2 : oxT "SUPPRESSED_SENTINEL" Bundle.listD A s s.heap := by rw [hhp]; exact (hX.1.2.kept hw.2.2.1.2.1).moved hW0.alike
  obtain ⟨sa, hsa0⟩ := hR.1 _ hstr
  have hsa : vk_R (RN (mo k)) is text sa s := vk_R.warm hW0 hsa0
  have htr : e.platform.stackTraces = false := (show e.platform.stackTraces = l.stackTraces by rw [X.admits.platform]).trans hst
  have hall : ∀ w ∈ Bundle.ownAtoms (RN (mo k)) ic E names, w.before args s = true := fun w9 h9 => by
    rcases hat w9 h9 with h | h
    · exact hts _ h
    · simp only [List.mem_cons, List.not_mem_nil, or_false] at h
      rcases h with rfl | rfl | rfl | rfl | rfl | rfl | rfl | rfl
      · exact (hX1.word).1
      · exact (hX1.word).2
      · exact (hX2.word).1
      · exact (hX2.word).2
      · rw [hEn]
        exact (((hR.2.2.2.2.1 en9 he3).moved hW0.alike)).word
      · exact va_Nw.use rfl (va_Nw.warmD hW0 (hR.2.2.2.2.2 0 (by decide)))
      · exact va_Nw.use rfl (va_Nw.warmD hW0 (hR.2.2.2.2.2 1 (by decide)))
      · exact va_Nw.use rfl (va_Nw.warmD hW0 (hR.2.2.2.2.2 2 (by decide)))
  obtain ⟨vm₁, cX, kX, hfX, hkX, -, -, X₁, hst1⟩ := X.newCold hx (own := RN (mo k)) (C := E) (index := ik) (n := 6) hown (hts _ hk) (hts _ hins) (hts _ hini) (g := F0 m pc ls (gs B st)) rfl (by rw [hb]; exact d0) (Nat.le_refl _) (Nat.le_refl _)
  generalize hT1 : (T.setVm vm₁).pushCell { cls := cX, slots := kX.instanceTypes.map defaultValue, vm := .none } = T1 at X₁ hst1
  have hsz : T.heap.size = s.heap.size := by rw [hT, hhp]
  have hcat : (Value.ref T.heap.size).category = 1 := rfl
  have hcellA : T1.heap[T.heap.size]? = some (freshCell cX kX) := by rw [← hT1]; exact State.heap_pushCell_size _ _
  have d3' : decode c.code (pc + 3) = .ok (.dup, 1) := by rw [hb]; exact d3
  have d4' : decode c.code (pc + 4) = .ok (.ldc is, 2) := by rw [hb]; exact d4
  have hargs : (Cond.stringRef (RN (mo k)) is text).before args s = true := hsa.1
  have hev : (Term.string (RN (mo k)) is).eval args s none [] s = some (.ref sa) := hsa.2
  obtain ⟨U, hsteps, hrun, hend, hW, hsame, ce, hce, hO⟩ := X₁.ctorThrowS hx htr (own := RN (mo k)) (cls := E) (names := names) (ic := ic) hown hE hnm hall (fun y hy => nomatch hy) hfX hkX hcellA (Nat.le_of_eq hsz.symm) (msg := .ref sa) rfl
    (g := { method := m, pc := pc + 6, locals := ls, stack := .ref sa :: .ref T.heap.size :: .ref T.heap.size :: gs B st, locked := none }) rfl (hl.1.trans hmx.symm) rfl rfl (rest := gs B st) rfl
    (by rw [hb]; exact d6) (by rw [hb]; exact d9) (fun x hx9 => hnh x (by rw [← het]; exact hx9)) (Nat.lt_of_lt_of_le hfr r1) (by have h9 := le_loc (B := B) hlo r2; simp only [List.map_cons, List.sum_cons, hcat]; show 2 * 0 + (1 + ((gs B st).map fun v => v.category).sum) + (13 * (names.length + 1) + 42) ≤ R.locals; omega) hlks
  obtain ⟨f1, f2⟩ := same_at hsame
  rw [hhp] at f1 f2
  have hWs : s0.WarmedH U.vm := State.WarmedH.trans hW0 hW
  have hlast : s0.sameButNew ({ U with vm := s0.vm } : State) locs (mc k) (ms k) := by
    subst hsd
    obtain ⟨e1, e2⟩ := hsame
    rw [State.setFrames_setFrames] at e1
    have h2 : (T.setVm s0.vm).sameButNew ({ U with vm := s0.vm } : State) [] (0 + 1) (0 + 6) := ⟨e1, e2⟩
    have h3 := X0.same.trans h2
    rw [List.append_nil] at h3
    exact h3.mono hc hs
  refine ⟨U, ?_, .threw T.heap.size, hrun, hend, ⟨E, w, ce, ⟨hce, hO.vm, ?_⟩, hQ, ⟨?_, hw.2.1, ?_, hw.2.2.2.2⟩, ?_, ?_⟩, hWs, locs, hlast, hw.2.2.1.2.2⟩
  · refine hst1 _ ?_
    show Steps p.tables e below (T1.setTop { method := m, pc := pc + 3, locals := ls, stack := .ref T.heap.size :: gs B st, locked := none }) _
    jvm_step X₁.here [X₁.here.top, hx, d3', Value.category]
    exact X₁.ldcString hx (own := RN (mo k)) (text := text) (index := is) (a := sa) hown hargs hev
      (g := { method := m, pc := pc + 4, locals := ls, stack := .ref T.heap.size :: .ref T.heap.size :: gs B st, locked := none }) rfl d4' _ hsteps
  · have h9 := hO.cls
    rw [hvm] at h9
    exact h9
  · exact hw.1.kept (fun k9 q9 h9 => f2 _ ((hw.1 k9 q9 h9).lt))
  · intro z
    rw [hz] at z
    cases z
  · exact Nat.le_trans hw.2.2.1.1 f1
  · intro q h1 h2
    rw [f2 q (Nat.lt_of_lt_of_le h1 hw.2.2.1.1)]
    exact hw.2.2.1.2.1 q h1 h2
/-- the next cell's place -/
theorem next_at {B : Nat} {D : va_G} {ca : CA} {A : Nat → Prop} {p : Program} {l : Launch} {e : Env} {R : Room} {s : State} {m : MethodId} {args : Array Value} {below : List Frame} {meth : Method} {c : Code} {H : Heap} {locs : List Loc} {T : State} (hw : Wd B D ca A s.heap cells w H locs) (hz : w.2.1 = true) (h0 : 0 < w.1 ∨ cells = 0) (hT : T.heap = H) (X : Stand p l e R s m args below meth c T locs cells slots) : H.size = B + w.1 ∧ H.size = s.heap.size + cells := by
  have h1 := X.heapSize
  rw [hT] at h1
  have h2 := hw.2.2.2.1 hz
  have h3 : B + w.1 ≤ H.size := by
    rcases h0 with h0 | h0
    · have h4 : (wsO B ca w)[w.1 - 1]? = some (B + (w.1 - 1), en B ca w (ky (w.1 - 1)).1 (ky (w.1 - 1)).2) := by
        simp [wsO, List.getElem?_map, List.getElem?_range (show w.1 - 1 < w.1 by omega)]
      have h5 : B + (w.1 - 1) < H.size := (hw.1 _ _ h4).lt
      omega
    · have := hw.2.2.1.1
      omega
  exact ⟨by omega, by omega⟩
def wS (w : NW) : NW := (w.1 + 1, w.2)
theorem wsO_S {B : Nat} {ca : CA} {w : NW} {t i : Nat} (hi : i < ct t) (ho : od t i = w.1) : wsO B ca (wS w) = wsO B ca w ++ [(B + w.1, en B ca w t i)] := by
  have hk : ky w.1 = (t, i) := by rw [← ho]; exact ky_od hi
  have e1 : ∀ t' i', en B ca (wS w) t' i' = en B ca w t' i' := fun t' i' => rfl
  unfold wsO
  show (List.range (w.1 + 1)).map _ = _
  rw [List.range_succ, List.map_append]
  simp [e1, hk]
theorem Wd.push {B : Nat} {D : va_G} {ca : CA} {A : Nat → Prop} {s : State} {H H1 : Heap} {locs : List Loc} {t i : Nat} (hw : Wd B D ca A s.heap cells w H locs) (hA : ∀ q, s.heap.size ≤ q → A q) (hi : i < ct t) (ho : od t i = w.1) (hN : w.1 < NN) (hsz : H.size = B + w.1) (hsz2 : H.size = s.heap.size + cells) (z1 : H1.size = H.size + 1) (o1 : ∀ q : Nat, q < H.size → H1[q]? = H[q]?) (he : va_at D vwCl (B + w.1, en B ca w t i) H1) : Wd B D ca A s.heap (cells + 1) (wS w) H1 locs := by
  have hk : ∀ (k : Nat) (x : Nat × va_E), (wsO B ca w)[k]? = some x → H1[x.1]? = H[x.1]? := fun k x hx => o1 x.1 ((hw.1 k x hx).lt)
  have hP1 : va_P D vwCl (wsO B ca w ++ [(B + w.1, en B ca w t i)]) H1 := (hw.1.kept hk).app (fun k x hx => by
    have hz : k < 1 := (List.getElem?_eq_some_iff.mp hx).1
    rw [show k = 0 by omega] at hx
    cases hx
    exact he)
  have hD1 : va_D A (wsO B ca w ++ [(B + w.1, en B ca w t i)]) := hw.2.1.push hw.1 hsz.symm (hA _ (by rw [← hsz]; exact hw.2.2.1.1))
  rw [← wsO_S hi ho] at hP1 hD1
  exact ⟨hP1, hD1, ⟨Nat.le_trans hw.2.2.1.1 (by omega), fun x h1 h2 => (o1 x (Nat.lt_of_lt_of_le h1 hw.2.2.1.1)).trans (hw.2.2.1.2.1 x h1 h2), hw.2.2.1.2.2⟩, fun _ => by show s.heap.size + (cells + 1) = B + (w.1 + 1); omega, hN⟩
theorem Sem.new {idx ci t i : Nat} (hd : decode (cc k) pc = .ok (.new idx, 3)) (hcl : Cond.classLink (RN (mo k)) idx (RN ci) ∈ AW_) (hins : Cond.instantiable (RN ci) (fn ci) ∈ AW_) (hini : Cond.initialized (RN ci) ∈ AW_) (hkt : kd t = (3, ci)) (hi : i < ct t) (ho : od t i = w.1) (hN : w.1 < NN) (hz : w.2.1 = true) (h0 : 0 < w.1 ∨ cells = 0) (hc : cells + 1 ≤ mc k) (hs : slots + fn ci ≤ ms k)
    (hd0 : ∀ j, w.2.2.1 t i j = 0 ∧ w.2.2.2.1 t i j = 0 ∧ w.2.2.2.2 t i j = none) (kk : Sem sc k (pc + 3) lv (aR t i :: st) (wS w) (cells + 1) (slots + fn ci) Q) : Sem sc k pc lv st w cells slots Q := by
  intro B D ca p l e R s m args below meth c A C H locs ls hl hw T hT X
  obtain ⟨⟨hx, hb, hmx, hrt, hlks⟩, ⟨hown, hts, hst, r1, r2, r3, r4⟩, ⟨hK, hA, het, hin⟩, ⟨hX, hR, hlaw⟩⟩ := id C
  obtain ⟨hsz, hsz2⟩ := next_at hw hz h0 hT X
  obtain ⟨C9, T9, ty, c1, c2, c3, c4, c5⟩ := ck_ok hkt
  have hC9 : C9 = RN ci := vwCl_name c1
  subst hC9
  have hKn := hK.1 ci _ c1
  suffices hgl : W p l e R s m args below meth c H locs cells slots (oxZ below (Qo B D ca A (mc k) Q) s (mc k) (ms k) A) (F0 m pc ls (gs B st)) from hgl T hT X
  refine W.newcK (n := fn ci) (h := B + w.1) hx hb hown (hts _ hcl) (hts _ hins) (hts _ hini) rfl hd (Nat.le_trans hc r3) (Nat.le_trans hs r4) hKn.2.1 hsz (fun H1 kC hkC e1 z1 o1 => ?_)
  have hfs : ∀ j, j < fn ci → defaultValue (ty j) = vp_V (fds B ci w t i) j := fun j hj => by
    obtain ⟨d1, d2, d3⟩ := hd0 j
    have h9 : vp_V (fds B ci w t i) j = gv B (fv ci j w t i) := by
      show (fds B ci w t i).getD j .null = _
      rw [List.getD_eq_getElem?_getD, fds_at hj]; rfl
    rw [h9]
    have h5 := c5 j hj
    unfold fv
    unfold tyOK at h5
    split at h5
    · rename_i hf; rw [h5, hf]; simp [gv, d1, nI_0, defaultValue]
    · rename_i hf; rw [h5, hf]; simp [gv, d1, nI_0, defaultValue]
    · rename_i hf; rw [h5, hf]; simp [gv, d2, defaultValue]
    · rename_i f n1 n2 n3
      rw [ft2 hj n1 n2 n3, d3]
      rcases h5 with ⟨n, h5⟩ | ⟨n, h5⟩ <;> rw [h5] <;> rfl
  have hW := hw.push (t := t) (i := i) hA hi ho hN hsz hsz2 (by rw [z1, hsz]) (fun q hq => o1 q (by rw [← hsz]; exact hq)) (by
    rw [en_obj hkt]
    exact ⟨_, c1, (u_born ty hts c2 hKn hkC e1 c3).to hfs⟩)
  have h9 := kk B D ca p l e R s m args below meth c A C H1 locs ls hl hW
  have e9 : gs B (aR t i :: st) = .ref (B + w.1) :: gs B st := by show Value.ref (B + od t i) :: _ = _; rw [ho]; rfl
  rw [e9] at h9
  exact h9
theorem Sem.newaN {t i n : Nat} (hd : decode (cc k) pc = .ok (.newarray .int, 2)) (harr : Cond.arrayClass .int ∈ AW_) (hkt : kd t = (0, n)) (hi : i < ct t) (ho : od t i = w.1) (hN : w.1 < NN) (hz : w.2.1 = true) (h0 : 0 < w.1 ∨ cells = 0) (hc : cells + 1 ≤ mc k) (hs : slots + n ≤ ms k) (hb0 : n * componentBytes .int ≤ 536870912)
    (hd0 : ∀ j, w.2.2.1 t i j = 0) (kk : Sem sc k (pc + 2) lv (aR t i :: st) (wS w) (cells + 1) (slots + n) Q) : Sem sc k pc lv (aN n :: st) w cells slots Q := by
  intro B D ca p l e R s m args below meth c A C H locs ls hl hw T hT X
  obtain ⟨⟨hx, hb, hmx, hrt, hlks⟩, ⟨hown, hts, hst, r1, r2, r3, r4⟩, ⟨hK, hA, het, hin⟩, ⟨hX, hR, hlaw⟩⟩ := id C
  obtain ⟨hsz, hsz2⟩ := next_at hw hz h0 hT X
  have hn31 : n < 2 ^ 31 := by have := kd_sm t; rw [hkt] at this; exact this
  suffices hgl : W p l e R s m args below meth c H locs cells slots (oxZ below (Qo B D ca A (mc k) Q) s (mc k) (ms k) A) (F0 m pc ls (gs B (aN n :: st))) from hgl T hT X
  refine va_newaK (atype := .int) (N := n) (h := B + w.1) hx hb (hts _ harr) rfl hd (n := nI n) (rest := gs B st) rfl (nI_pos hn31) (nI_clamp hn31) hb0 (Nat.le_trans hc r3) (Nat.le_trans hs r4) hsz (fun H1 cA e1 z1 o1 hAr hNm => ?_)
  have hcA : cA = ca.1 := by
    have h2 := (hK.2 0 (ca.1, .int) rfl).2
    exact Option.some.inj (hNm.symm.trans h2)
  subst hcA
  have hW := hw.push (t := t) (i := i) hA hi ho hN hsz hsz2 (by rw [z1, hsz]) (fun q hq => o1 q (by rw [← hsz]; exact hq)) (by
    rw [en_int hkt]
    show H1[B + w.1]? = some (vp_cell _ _)
    rw [e1, vp_cell_i]
    congr 2
    funext j
    rw [hd0 j, nI_0]; rfl)
  have h9 := kk B D ca p l e R s m args below meth c A C H1 locs ls hl hW
  have e9 : gs B (aR t i :: st) = .ref (B + w.1) :: gs B st := by show Value.ref (B + od t i) :: _ = _; rw [ho]; rfl
  rw [e9] at h9
  exact h9
theorem Sem.newaL {t i n : Nat} (hd : decode (cc k) pc = .ok (.newarray .long, 2)) (harr : Cond.arrayClass .long ∈ AW_) (hkt : kd t = (1, n)) (hi : i < ct t) (ho : od t i = w.1) (hN : w.1 < NN) (hz : w.2.1 = true) (h0 : 0 < w.1 ∨ cells = 0) (hc : cells + 1 ≤ mc k) (hs : slots + n ≤ ms k) (hb0 : n * componentBytes .long ≤ 536870912)
    (hd0 : ∀ j, w.2.2.2.1 t i j = 0) (kk : Sem sc k (pc + 2) lv (aR t i :: st) (wS w) (cells + 1) (slots + n) Q) : Sem sc k pc lv (aN n :: st) w cells slots Q := by
  intro B D ca p l e R s m args below meth c A C H locs ls hl hw T hT X
  obtain ⟨⟨hx, hb, hmx, hrt, hlks⟩, ⟨hown, hts, hst, r1, r2, r3, r4⟩, ⟨hK, hA, het, hin⟩, ⟨hX, hR, hlaw⟩⟩ := id C
  obtain ⟨hsz, hsz2⟩ := next_at hw hz h0 hT X
  have hn31 : n < 2 ^ 31 := by have := kd_sm t; rw [hkt] at this; exact this
  suffices hgl : W p l e R s m args below meth c H locs cells slots (oxZ below (Qo B D ca A (mc k) Q) s (mc k) (ms k) A) (F0 m pc ls (gs B (aN n :: st))) from hgl T hT X
  refine va_newaK (atype := .long) (N := n) (h := B + w.1) hx hb (hts _ harr) rfl hd (n := nI n) (rest := gs B st) rfl (nI_pos hn31) (nI_clamp hn31) hb0 (Nat.le_trans hc r3) (Nat.le_trans hs r4) hsz (fun H1 cA e1 z1 o1 hAr hNm => ?_)
  have hcA : cA = ca.2.1 := by
    have h2 := (hK.2 1 (ca.2.1, .long) rfl).2
    exact Option.some.inj (hNm.symm.trans h2)
  subst hcA
  have hW := hw.push (t := t) (i := i) hA hi ho hN hsz hsz2 (by rw [z1, hsz]) (fun q hq => o1 q (by rw [← hsz]; exact hq)) (by
    rw [en_lng hkt]
    show H1[B + w.1]? = some (vp_cell _ _)
    rw [e1, vp_cell_l]
    congr 2
    funext j
    rw [hd0 j]; rfl)
  have h9 := kk B D ca p l e R s m args below meth c A C H1 locs ls hl hW
  have e9 : gs B (aR t i :: st) = .ref (B + w.1) :: gs B st := by show Value.ref (B + od t i) :: _ = _; rw [ho]; rfl
  rw [e9] at h9
  exact h9
theorem Sem.objInit {idx t i : Nat} (hd : decode (cc k) pc = .ok (.invokespecial idx, 3)) (hlk : Cond.methodLink (RN (mo k)) idx Lib.objectInit ∈ AW_) (him : Cond.instanceMethod Lib.objectInit ∈ AW_) (hco : Cond.code Lib.objectInit ⟨#[0xb1]⟩ 1 none ∈ AW_) (hfr : 1 ≤ fr k) (hlo : (st.map ct1).sum + 12 ≤ lo k) (kk : Sem sc k (pc + 3) lv st w cells slots Q) : Sem sc k pc lv (aR t i :: st) w cells slots Q := by
  intro B D ca p l e R s m args below meth c A C H locs ls hl hw
  obtain ⟨⟨hx, hb, hmx, hrt, hlks⟩, ⟨hown, hts, hst, r1, r2, r3, r4⟩, ⟨hK, hA, het, hin⟩, ⟨hX, hR, hlaw⟩⟩ := id C
  exact W.objInit hx hb hown (hts _ hlk) (hts _ him) (hts _ hco) rfl (hl.1.trans hmx.symm) rfl hd (Nat.le_trans hfr r1) (by have h9 := le_loc (B := B) hlo r2; show 2 * 0 + ((gs B st).map fun v => v.category).sum + 12 ≤ _; omega) (kk B D ca p l e R s m args below meth c A C H locs ls hl hw)
/-- Math.max, Math.min -/
theorem Sem.maxL {idx : Nat} {x y : Int64} (hd : decode (cc k) pc = .ok (.invokestatic idx, 3)) (hlk : Cond.methodLink (RN (mo k)) idx Lib.MathLoose.max_long.x ∈ AW_) (hstt : Cond.static Lib.MathLoose.max_long.x ∈ AW_) (hini : Cond.initialized "java/lang/Math" ∈ AW_) (hco : Cond.code Lib.MathLoose.max_long.x Lib.MathLoose.max_long.code 4 (some .long) ∈ AW_) (hfr : 1 ≤ fr k) (hlo : (st.map ct1).sum + 15 ≤ lo k) (hc : cells ≤ mc k) (hs : slots ≤ ms k) (kk : Sem sc k (pc + 3) lv (aL (if y < x then x else y) :: st) w cells slots Q) : Sem sc k pc lv (aL y :: aL x :: st) w cells slots Q := by
  intro B D ca p l e R s m args below meth c A C H locs ls hl hw
  obtain ⟨⟨hx, hb, hmx, hrt, hlks⟩, ⟨hown, hts, hst, r1, r2, r3, r4⟩, ⟨hK, hA, het, hin⟩, ⟨hX, hR, hlaw⟩⟩ := id C
  exact va_mmax_long hx hb (hmx.trans hl.1.symm) hown (hts _ hlk) (hts _ hstt) (hts _ hini) (hts _ hco) (Nat.le_trans hfr r1) (le_loc hlo r2) (Nat.le_trans hc r3) (Nat.le_trans hs r4) hd (kk B D ca p l e R s m args below meth c A C H locs ls hl hw)
theorem Sem.minL {idx : Nat} {x y : Int64} (hd : decode (cc k) pc = .ok (.invokestatic idx, 3)) (hlk : Cond.methodLink (RN (mo k)) idx Lib.MathLoose.min_long.x ∈ AW_) (hstt : Cond.static Lib.MathLoose.min_long.x ∈ AW_) (hini : Cond.initialized "java/lang/Math" ∈ AW_) (hco : Cond.code Lib.MathLoose.min_long.x Lib.MathLoose.min_long.code 4 (some .long) ∈ AW_) (hfr : 1 ≤ fr k) (hlo : (st.map ct1).sum + 15 ≤ lo k) (hc : cells ≤ mc k) (hs : slots ≤ ms k) (kk : Sem sc k (pc + 3) lv (aL (if y < x then y else x) :: st) w cells slots Q) : Sem sc k pc lv (aL y :: aL x :: st) w cells slots Q := by
  intro B D ca p l e R s m args below meth c A C H locs ls hl hw
  obtain ⟨⟨hx, hb, hmx, hrt, hlks⟩, ⟨hown, hts, hst, r1, r2, r3, r4⟩, ⟨hK, hA, het, hin⟩, ⟨hX, hR, hlaw⟩⟩ := id C
  exact va_mmin_long hx hb (hmx.trans hl.1.symm) hown (hts _ hlk) (hts _ hstt) (hts _ hini) (hts _ hco) (Nat.le_trans hfr r1) (le_loc hlo r2) (Nat.le_trans hc r3) (Nat.le_trans hs r4) hd (kk B D ca p l e R s m args below meth c A C H locs ls hl hw)
theorem Sem.maxN {idx a b : Nat} (ha : a < 2 ^ 31) (hb0 : b < 2 ^ 31) (hd : decode (cc k) pc = .ok (.invokestatic idx, 3)) (hlk : Cond.methodLink (RN (mo k)) idx Lib.Math.max.name ∈ AW_) (hstt : Cond.static Lib.Math.max.name ∈ AW_) (hini : Cond.initialized "java/lang/Math" ∈ AW_) (hco : Cond.code Lib.Math.max.name Lib.Math.max.code 2 (some .int) ∈ AW_) (hfr : 1 ≤ fr k) (hlo : (st.map ct1).sum + 13 ≤ lo k) (hc : cells ≤ mc k) (hs : slots ≤ ms k) (kk : Sem sc k (pc + 3) lv (aN (if a < b then b else a) :: st) w cells slots Q) : Sem sc k pc lv (aN b :: aN a :: st) w cells slots Q := by
  intro B D ca p l e R s m args below meth c A C H locs ls hl hw
  obtain ⟨⟨hx, hb, hmx, hrt, hlks⟩, ⟨hown, hts, hst, r1, r2, r3, r4⟩, ⟨hK, hA, het, hin⟩, ⟨hX, hR, hlaw⟩⟩ := id C
  have h9 := kk B D ca p l e R s m args below meth c A C H locs ls hl hw
  have e9 : (if nI a < nI b then nI b else nI a) = nI (if a < b then b else a) := by
    by_cases h : a < b
    · rw [if_pos h, if_pos ((nI_ltI ha hb0).mpr h)]
    · rw [if_neg h, if_neg (fun z => h ((nI_ltI ha hb0).mp z))]
  exact va_mmax hx hb (hmx.trans hl.1.symm) hown (hts _ hlk) (hts _ hstt) (hts _ hini) (hts _ hco) (Nat.le_trans hfr r1) (le_loc hlo r2) (Nat.le_trans hc r3) (Nat.le_trans hs r4) hd (by rw [e9]; exact h9)
theorem Sem.minN {idx a b : Nat} (ha : a < 2 ^ 31) (hb0 : b < 2 ^ 31) (hd : decode (cc k) pc = .ok (.invokestatic idx, 3)) (hlk : Cond.methodLink (RN (mo k)) idx Lib.Math.min.name ∈ AW_) (hstt : Cond.static Lib.Math.min.name ∈ AW_) (hini : Cond.initialized "java/lang/Math" ∈ AW_) (hco : Cond.code Lib.Math.min.name Lib.Math.min.code 2 (some .int) ∈ AW_) (hfr : 1 ≤ fr k) (hlo : (st.map ct1).sum + 13 ≤ lo k) (hc : cells ≤ mc k) (hs : slots ≤ ms k) (kk : Sem sc k (pc + 3) lv (aN (if b < a then b else a) :: st) w cells slots Q) : Sem sc k pc lv (aN b :: aN a :: st) w cells slots Q := by
  intro B D ca p l e R s m args below meth c A C H locs ls hl hw
  obtain ⟨⟨hx, hb, hmx, hrt, hlks⟩, ⟨hown, hts, hst, r1, r2, r3, r4⟩, ⟨hK, hA, het, hin⟩, ⟨hX, hR, hlaw⟩⟩ := id C
  have h9 := kk B D ca p l e R s m args below meth c A C H locs ls hl hw
  have e9 : (if nI b < nI a then nI b else nI a) = nI (if b < a then b else a) := by
    by_cases h : b < a
    · rw [if_pos h, if_pos ((nI_ltI hb0 ha).mpr h)]
    · rw [if_neg h, if_neg (fun z => h ((nI_ltI hb0 ha).mp z))]
  exact va_mmin hx hb (hmx.trans hl.1.symm) hown (hts _ hlk) (hts _ hstt) (hts _ hini) (hts _ hco) (Nat.le_trans hfr r1) (le_loc hlo r2) (Nat.le_trans hc r3) (Nat.le_trans hs r4) hd (by rw [e9]; exact h9)
/-- System.arraycopy of a whole row -/
def wCN (w : NW) (t0 i0 t1 i1 n : Nat) : NW := (w.1, w.2.1, (fun t i j => if t = t1 ∧ i = i1 ∧ j < n then w.2.2.1 t0 i0 j else w.2.2.1 t i j), w.2.2.2.1, w.2.2.2.2)
def wCL (w : NW) (t0 i0 t1 i1 n : Nat) : NW := (w.1, w.2.1, w.2.2.1, (fun t i j => if t = t1 ∧ i = i1 ∧ j < n then w.2.2.2.1 t0 i0 j else w.2.2.2.1 t i j), w.2.2.2.2)
theorem en_wCN {B : Nat} {ca : CA} {w : NW} {t0 i0 t1 i1 n : Nat} : ∀ t' i', (t', i') ≠ (t1, i1) → en B ca (wCN w t0 i0 t1 i1 n) t' i' = en B ca w t' i' := by
  intro t' i' h
  have h2 : ∀ q, ¬ (t' = t1 ∧ i' = i1 ∧ q < n) := fun q z => h (by rw [z.1, z.2.1])
  have h3 : ∀ ci, fds B ci (wCN w t0 i0 t1 i1 n) t' i' = fds B ci w t' i' := fun ci => by simp [fds, fv, wCN, h2]
  unfold en
  simp [wCN, h2] at h3 ⊢
  split <;> simp_all
theorem en_wCL {B : Nat} {ca : CA} {w : NW} {t0 i0 t1 i1 n : Nat} : ∀ t' i', (t', i') ≠ (t1, i1) → en B ca (wCL w t0 i0 t1 i1 n) t' i' = en B ca w t' i' := by
  intro t' i' h
  have h2 : ∀ q, ¬ (t' = t1 ∧ i' = i1 ∧ q < n) := fun q z => h (by rw [z.1, z.2.1])
  have h3 : ∀ ci, fds B ci (wCL w t0 i0 t1 i1 n) t' i' = fds B ci w t' i' := fun ci => by simp [fds, fv, wCL, h2]
  unfold en
  split <;> simp_all [wCL]
  funext j
  rw [if_neg (fun z => h z.1 z.2.1)]
theorem Sem.copyN {idx t0 i0 t1 i1 n0 n1 n : Nat} (hd : decode (cc k) pc = .ok (.invokestatic idx, 3)) (hlk : Cond.methodLink (RN (mo k)) idx arraycopyName ∈ AW_) (hnat : Cond.native arraycopyName ∈ AW_) (hstt : Cond.static arraycopyName ∈ AW_) (hini : Cond.initialized "java/lang/System" ∈ AW_) (hk0 : kd t0 = (0, n0)) (hk1 : kd t1 = (0, n1)) (hv0 : vld w.1 t0 i0) (hv1 : vld w.1 t1 i1) (hn0 : n ≤ n0) (hn1 : n ≤ n1) (hfr : 1 ≤ fr k) (hlo : (st.map ct1).sum + (nativeFrameWords "java/lang/System" "arraycopy" 5 + 11) ≤ lo k) (kk : Sem sc k (pc + 3) lv st (wCN w t0 i0 t1 i1 n) cells slots Q) : Sem sc k pc lv (aN n :: aN 0 :: aR t1 i1 :: aN 0 :: aR t0 i0 :: st) w cells slots Q := by
  intro B D ca p l e R s m args below meth c A C H locs ls hl hw
  obtain ⟨⟨hx, hb, hmx, hrt, hlks⟩, ⟨hown, hts, hst, r1, r2, r3, r4⟩, ⟨hK, hA, het, hin⟩, ⟨hX, hR, hlaw⟩⟩ := id C
  have he0 := wsO_at (B := B) (ca := ca) (w := w) hv0
  rw [en_int hk0] at he0
  have he1 := wsO_at (B := B) (ca := ca) (w := w) hv1
  rw [en_int hk1] at he1
  have hn31 : n < 2 ^ 31 := by have := kd_sm t0; rw [hk0] at this; exact Nat.lt_of_le_of_lt hn0 this
  have z0 : (nI 0).toNatClampNeg = 0 := nI_clamp (by decide)
  have zn : (nI n).toNatClampNeg = n := nI_clamp hn31
  refine va_copyi (D := D) (ty := .int) hx hb (hmx.trans hl.1.symm) hown (hts _ hlk) (hts _ hnat) (hts _ hstt) (hts _ hini) hK hw.1 hw.2.1 hw.2.2.1 (od t0 i0) (od t1 i1) 0 0 he0 he1 rfl rfl rfl (sp := nI 0) (dp := nI 0) (n := nI n) (nI_pos (by decide)) (nI_pos (by decide)) (nI_pos hn31) (by rw [z0, zn]; omega) (by rw [z0, zn]; omega) (fun i hi => rfl) (Nat.le_trans hfr r1) (le_loc hlo r2) hd (fun H1 locs1 hP1 hD1 hS1 => kk B D ca p l e R s m args below meth c A C H1 locs1 ls hl (hw.put (t := t1) (i := i1) hv1 rfl rfl en_wCN ?_ ?_ hS1))
  · rw [en_int hk1]
    rw [z0, zn] at hP1
    have e1 : (fun j => nI ((wCN w t0 i0 t1 i1 n).2.2.1 t1 i1 j)) = va_cpy (fun j => nI (w.2.2.1 t0 i0 j)) (fun j => nI (w.2.2.1 t1 i1 j)) 0 0 n := by
      funext j
      by_cases hj : j < n <;> simp [wCN, va_cpy, hj]
    rw [e1]; exact hP1
  · rw [en_int hk1]
    rw [z0, zn] at hD1
    have e1 : (fun j => nI ((wCN w t0 i0 t1 i1 n).2.2.1 t1 i1 j)) = va_cpy (fun j => nI (w.2.2.1 t0 i0 j)) (fun j => nI (w.2.2.1 t1 i1 j)) 0 0 n := by
      funext j
      by_cases hj : j < n <;> simp [wCN, va_cpy, hj]
    rw [e1]; exact hD1
theorem Sem.copyL {idx t0 i0 t1 i1 n0 n1 n : Nat} (hd : decode (cc k) pc = .ok (.invokestatic idx, 3)) (hlk : Cond.methodLink (RN (mo k)) idx arraycopyName ∈ AW_) (hnat : Cond.native arraycopyName ∈ AW_) (hstt : Cond.static arraycopyName ∈ AW_) (hini : Cond.initialized "java/lang/System" ∈ AW_) (hk0 : kd t0 = (1, n0)) (hk1 : kd t1 = (1, n1)) (hv0 : vld w.1 t0 i0) (hv1 : vld w.1 t1 i1) (hn0 : n ≤ n0) (hn1 : n ≤ n1) (hfr : 1 ≤ fr k) (hlo : (st.map ct1).sum + (nativeFrameWords "java/lang/System" "arraycopy" 5 + 11) ≤ lo k) (kk : Sem sc k (pc + 3) lv st (wCL w t0 i0 t1 i1 n) cells slots Q) : Sem sc k pc lv (aN n :: aN 0 :: aR t1 i1 :: aN 0 :: aR t0 i0 :: st) w cells slots Q := by
  intro B D ca p l e R s m args below meth c A C H locs ls hl hw
  obtain ⟨⟨hx, hb, hmx, hrt, hlks⟩, ⟨hown, hts, hst, r1, r2, r3, r4⟩, ⟨hK, hA, het, hin⟩, ⟨hX, hR, hlaw⟩⟩ := id C
  have he0 := wsO_at (B := B) (ca := ca) (w := w) hv0
  rw [en_lng hk0] at he0
  have he1 := wsO_at (B := B) (ca := ca) (w := w) hv1
  rw [en_lng hk1] at he1
  have hn31 : n < 2 ^ 31 := by have := kd_sm t0; rw [hk0] at this; exact Nat.lt_of_le_of_lt hn0 this
  have z0 : (nI 0).toNatClampNeg = 0 := nI_clamp (by decide)
  have zn : (nI n).toNatClampNeg = n := nI_clamp hn31
  have e1 : (wCL w t0 i0 t1 i1 n).2.2.2.1 t1 i1 = va_cpy (w.2.2.2.1 t0 i0) (w.2.2.2.1 t1 i1) 0 0 n := by
    funext j
    by_cases hj : j < n <;> simp [wCL, va_cpy, hj]
  refine va_copyl (D := D) (ty := .long) hx hb (hmx.trans hl.1.symm) hown (hts _ hlk) (hts _ hnat) (hts _ hstt) (hts _ hini) hK hw.1 hw.2.1 hw.2.2.1 (od t0 i0) (od t1 i1) 1 1 he0 he1 rfl rfl rfl (sp := nI 0) (dp := nI 0) (n := nI n) (nI_pos (by decide)) (nI_pos (by decide)) (nI_pos hn31) (by rw [z0, zn]; omega) (by rw [z0, zn]; omega) (fun i hi => rfl) (Nat.le_trans hfr r1) (le_loc hlo r2) hd (fun H1 locs1 hP1 hD1 hS1 => kk B D ca p l e R s m args below meth c A C H1 locs1 ls hl (hw.put (t := t1) (i := i1) hv1 rfl rfl en_wCL ?_ ?_ hS1))
  · rw [en_lng hk1, e1]
    rw [z0, zn] at hP1
    exact hP1
  · rw [en_lng hk1, e1]
    rw [z0, zn] at hD1
    exact hD1
end More
end
section
-- ===== constructors' calls, rows of references, switches, the script =====
section Cons
variable {sc : XT} {k pc : Nat} {lv : List (Nat × AV)} {st : List AV} {w : NW} {cells slots : Nat} {Q : QT}
theorem run_x {p : Program} {l : Launch} {e : Env} {R : Room} {s : State} {m : MethodId} {args : Array Value} {below : List Frame} {meth : Method} {c : Code} {H : Heap} {locs : List Loc} {n z : Nat} {g : JFrame} {rest : List Value} {Qe : State → Outcome → State → Prop} {free : Addr → Prop} (h : va_Run p l e R s m args below meth c H locs cells slots n z g rest Qe free) : oxRun p l e R s m args below meth c H locs cells slots n z g rest Qe free := fun T hT X => by
  obtain ⟨v, st₀, t, T', L, h0, X', hL, e1, e2, hq, st⟩ := h T hT X
  exact ⟨.returned v, st₀, t, T', L, h0, (fun ⟨q, hq⟩ => nomatch hq), X', hL, e1, e2, hq, st _ (Steps.refl _)⟩
/-- a constructor of ours, while the cells are being made -/
theorem Sem.callI {idx k' t i : Nat} {as rst : List AV} {Q' : QT} (nest : Bool) (host : String) (hd : decode (cc k) pc = .ok (.invokespecial idx, 3)) (hM : MK k') (hnh : hh k' = []) (hco : Cond.code (yn k') (cc k') (mL k') (rt k') ∈ AW_) (hrt0 : rt k' = none) (hi0 : nm k' = "<init>")
    (hlk : if nest = true then (RN (mo k), idx, k', host) ∈ nlT else Cond.methodLink (RN (mo k)) idx (yn k') ∈ AW_) (him : Cond.instanceMethod (yn k') ∈ AW_) (h0 : 0 < w.1 ∨ cells = 0) (hfz : w.2.1 = true) (hno : ∀ E w', ¬ Q' (.inr E) w')
    (hlen : ((aR t i :: as).map ct1).sum ≤ mL k') (hn : as.length = np k') (hrs : (rst.map ct1).sum ≤ 8) (hfr : fr k' + 1 ≤ fr k) (hlo : 8 + (mL k' + 11) + lo k' ≤ lo k) (hc : cells + mc k' ≤ mc k) (hs : slots + ms k' ≤ ms k)
    (hS : Sem sc k' 0 (aArgs 0 (aR t i :: as)) [] w 0 0 Q')
    (kk : ∀ v w', Q' (.inl v) w' → Sem sc k (pc + 3) lv (v.toList ++ rst) w' (cells + mc k') (slots + ms k') Q) :
    Sem sc k pc lv (as.reverse ++ aR t i :: rst) w cells slots Q := by
  intro B D ca p l e R s m args below meth c A C H locs ls hl hw T hT X
  obtain ⟨⟨hx, hb, hmx, hrt, hlks⟩, ⟨hown, hts, hst, r1, r2, r3, r4⟩, ⟨hK, hA, het, hin⟩, ⟨hX, hR, hlaw⟩⟩ := id C
  obtain ⟨m1, m2, m3, m4, m5, -⟩ := hM
  obtain ⟨hsz, hsz2⟩ := next_at hw hfz h0 hT X
  have hg : GoodIn AW_ (wsM k') := gsub (fun w9 h9 => by
    rcases List.mem_cons.mp h9 with rfl | h9
    · exact hco
    · exact h9)
  have hpre : PreS s H (PcM B D ca (aR t i :: as) w H.size) (.ref (B + od t i) :: gs B as) := ⟨PcM.blind, fun U hU hW => ⟨rfl, PcB_of hw hA hK hX.1 hR (fun _ => hsz) hU hW⟩⟩
  have hmet := hS.metR hno m5 m2 hnh hlen hst B D ca H.size
  have hw0 : wsM k' = Cond.code (yn k') (cc k') (mL k') none :: AW_ := by rw [wsM, hrt0]
  have hstk : (F0 m pc ls (gs B (as.reverse ++ aR t i :: rst))).stack = (gs B as).reverse ++ .ref (B + od t i) :: gs B rst := by simp [gs, List.map_append, List.map_reverse, gv]
  have hrun : va_Run p l e R s m args below meth c H locs cells slots (mc k') (ms k') (F0 m pc ls (gs B (as.reverse ++ aR t i :: rst))) (gs B rst) (Qo B D ca (AR B w.1 H.size) (mc k') Q') (AR B w.1 H.size) := by
    cases nest with
    | true => exact va_runIN (host := host) ⟨hx, hb, hmx, hown, hts⟩ hmet ⟨va_cnB (np k') hts hg hw0 rfl rfl (hR.2.2.1 _ hlk) (hts _ m1) ⟨m3.1, m3.2, m4⟩ ⟨Nat.le_trans hfr r1, Nat.le_trans hlo r2⟩, hi0, hts _ him⟩ hpre rfl (by rw [gs_len]; exact hn) hl.1 hstk (lv_room (by rw [gs_cat]; exact hrs)) hd ⟨Nat.le_trans hc r3, Nat.le_trans hs r4⟩
    | false => exact va_runI ⟨hx, hb, hmx, hown, hts⟩ hmet (cwI (np k') hts hg hw0 rfl rfl (hts _ m1) (hts _ hlk) (hts _ him) hi0 ⟨m3.1, m3.2, m4⟩ ⟨Nat.le_trans hfr r1, Nat.le_trans hlo r2⟩) hpre rfl (by rw [gs_len]; exact hn) hl.1 hstk (lv_room (by rw [gs_cat]; exact hrs)) hd ⟨Nat.le_trans hc r3, Nat.le_trans hs r4⟩
  suffices hgl : W p l e R s m args below meth c H locs cells slots (oxZ below (Qo B D ca A (mc k) Q) s (mc k) (ms k) A) (F0 m pc ls (gs B (as.reverse ++ aR t i :: rst))) from hgl T hT X
  refine go_run (Q' := Q') hA hw (fun v w' h z => hsz2) (fun E w' h => (hno E w' h).elim) (run_x hrun) ?_ ?_
  · intro v w' H1 locs1 hq hw1
    exact kk v w' hq B D ca p l e R s m args below meth c A C H1 locs1 ls hl hw1
  · intro E w' H1 locs1 q ce hq
    exact (hno E w' hq).elim
theorem Sem.aast {t i j t' i' n : Nat} (hd : decode (cc k) pc = .ok (.aastore, 1)) (hkt : kd t = (2, n)) {ci : Nat} (hkt' : kd t' = (3, ci)) (hci : RN ci = itN) (hv : vld w.1 t i) (hv' : vld w.1 t' i') (hj : j < n) (kk : Sem sc k (pc + 1) lv st (wR w t i j (some (t', i'))) cells slots Q) : Sem sc k pc lv (aR t' i' :: aN j :: aR t i :: st) w cells slots Q := by
  intro B D ca p l e R s m args below meth c A C H locs ls hl hw
  obtain ⟨⟨hx, hb, hmx, hrt, hlks⟩, ⟨hown, hts, hst, r1, r2, r3, r4⟩, ⟨hK, hA, het, hin⟩, ⟨hX, hR, hlaw⟩⟩ := id C
  obtain ⟨C9, T9, ty, c1, -⟩ := ck_ok hkt'
  have hC9 : C9 = itN := (vwCl_name c1).trans hci
  subst hC9
  have he := wsO_at (B := B) (ca := ca) (w := w) hv
  rw [en_rf hkt] at he
  have he' := wsO_at (B := B) (ca := ca) (w := w) hv'
  rw [en_obj hkt'] at he'
  obtain ⟨h1, h2⟩ := nI_vin (t := t) hj (by rw [hkt])
  have e1 : (fun q => ((wR w t i j (some (t', i'))).2.2.2.2 t i q).map (fun k => B + od k.1 k.2)) = va_up (fun q => (w.2.2.2.2 t i q).map (fun k => B + od k.1 k.2)) j (some (B + od t' i')) := by
    funext q
    by_cases hq : q = j <;> simp [wR, upR, va_up, hq]
  refine va_astq (D := D) hx hb hK hw.1 hw.2.1 hw.2.2.1 (od t i) 2 (od t' i') ci he rfl he' c1 h1 hd (fun H1 locs1 hP1 hD1 hS1 => kk B D ca p l e R s m args below meth c A C H1 locs1 ls hl (hw.put (t := t) (i := i) hv rfl rfl en_wR ?_ ?_ hS1))
  · rw [en_rf hkt, e1]; rw [h2] at hP1; exact hP1
  · rw [en_rf hkt, e1]; rw [h2] at hD1; exact hD1
theorem Sem.anewq {t i n idx : Nat} (hd : decode (cc k) pc = .ok (.anewarray idx, 3)) (hcl : Cond.classLink (RN (mo k)) idx itN ∈ AW_) (hkt : kd t = (2, n)) (hi : i < ct t) (ho : od t i = w.1) (hN : w.1 < NN) (hz : w.2.1 = true) (h0 : 0 < w.1 ∨ cells = 0) (hc : cells + 1 ≤ mc k) (hs : slots + n ≤ ms k) (hb0 : n * 4 ≤ 536870912)
    (hd0 : ∀ j, w.2.2.2.2 t i j = none) (kk : Sem sc k (pc + 3) lv (aR t i :: st) (wS w) (cells + 1) (slots + n) Q) : Sem sc k pc lv (aN n :: st) w cells slots Q := by
  intro B D ca p l e R s m args below meth c A C H locs ls hl hw T hT X
  obtain ⟨⟨hx, hb, hmx, hrt, hlks⟩, ⟨hown, hts, hst, r1, r2, r3, r4⟩, ⟨hK, hA, het, hin⟩, ⟨hX, hR, hlaw⟩⟩ := id C
  obtain ⟨hsz, hsz2⟩ := next_at hw hz h0 hT X
  have hn31 : n < 2 ^ 31 := by have := kd_sm t; rw [hkt] at this; exact this
  have hcl0 : (nI n).toNatClampNeg = n := nI_clamp hn31
  suffices hgl : W p l e R s m args below meth c H locs cells slots (oxZ below (Qo B D ca A (mc k) Q) s (mc k) (ms k) A) (F0 m pc ls (gs B (aN n :: st))) from hgl T hT X
  refine W.anew (C := itN) hx hb hown (hts _ hcl) (va_AO.use hR.2.2.2.1) rfl hd (n := nI n) (rest := gs B st) rfl (nI_pos hn31) (by rw [hcl0]; exact hb0) (Nat.le_trans hc r3) (by rw [hcl0]; exact Nat.le_trans hs r4) (fun cA kA comp f1 f2 f3 f4 => ?_)
  rw [hcl0]
  have hcA : cA = ca.2.2.1 := by
    obtain ⟨kB, cB, b1, b2, b3, b4⟩ := (hK.2 2 (ca.2.2.1, .object itN) rfl).2
    exact Option.some.inj (f1.symm.trans b4)
  subst hcA
  generalize hH1 : H.push ({ cls := ca.2.2.1, slots := Array.replicate n .null, vm := .none } : Cell) = H1
  have z1 : H1.size = H.size + 1 := by rw [← hH1, Array.size_push]
  have e1 : H1[H.size]? = some (arrV ca.2.2.1 n (fun _ => .null)) := by rw [← hH1, Array.getElem?_push_size, ← arrV_new]
  have o1 : ∀ q : Nat, q < H.size → H1[q]? = H[q]? := fun q hq => by rw [← hH1, Array.getElem?_push, if_neg (Nat.ne_of_lt hq)]
  have hW := hw.push (t := t) (i := i) hA hi ho hN hsz hsz2 z1 o1 (by
    rw [en_rf hkt]
    show H1[B + w.1]? = some (vp_cell _ _)
    rw [← hsz, e1]
    show _ = some (arrV ca.2.2.1 n (fun j => va_rf ((w.2.2.2.2 t i j).map (fun k => B + od k.1 k.2))))
    congr 2
    funext j
    rw [hd0 j]; rfl)
  have h9 := kk B D ca p l e R s m args below meth c A C H1 locs ls hl hW
  have e9 : gs B (aR t i :: st) = .ref H.size :: gs B st := by show Value.ref (B + od t i) :: _ = _; rw [ho, ← hsz]; rfl
  rw [e9] at h9
  exact h9
theorem Sem.tabIn {dflt lo0 hi0 : Int} {offs : Array Int} {len : Nat} {x : Int32} {off : Int} {tgt : Nat} {u : AV} (hu : toI u = some x) (hd : decode (cc k) pc = .ok (.tableswitch dflt lo0 hi0 offs, len)) (h1 : ¬ x.toInt < lo0) (h2 : ¬ hi0 < x.toInt) (ho : offs[(x.toInt - lo0).toNat]? = some off) (ht : (pc : Int) + off = (tgt : Int)) (kk : Sem sc k tgt lv st w cells slots Q) : Sem sc k pc lv (u :: st) w cells slots Q := by
  intro B D ca p l e R s m args below meth c A C H locs ls hl hw
  obtain ⟨⟨hx, hb, hmx, hrt, hlks⟩, -⟩ := id C
  rw [gs, List.map_cons, toI_gv hu]
  exact lv_tableIn hx hb hd h1 h2 ho ht (kk B D ca p l e R s m args below meth c A C H locs ls hl hw)
theorem Sem.tabOut {dflt lo0 hi0 : Int} {offs : Array Int} {len : Nat} {x : Int32} {tgt : Nat} {u : AV} (hu : toI u = some x) (hd : decode (cc k) pc = .ok (.tableswitch dflt lo0 hi0 offs, len)) (h : x.toInt < lo0 ∨ hi0 < x.toInt) (ht : (pc : Int) + dflt = (tgt : Int)) (kk : Sem sc k tgt lv st w cells slots Q) : Sem sc k pc lv (u :: st) w cells slots Q := by
  intro B D ca p l e R s m args below meth c A C H locs ls hl hw
  obtain ⟨⟨hx, hb, hmx, hrt, hlks⟩, -⟩ := id C
  rw [gs, List.map_cons, toI_gv hu]
  exact lv_tableOut hx hb hd h ht (kk B D ca p l e R s m args below meth c A C H locs ls hl hw)
theorem Sem.lookup {dflt : Int} {ps : Array (Int × Int)} {len : Nat} {x : Int32} {off : Int} {tgt : Nat} {u : AV} (hu : toI u = some x) (hd : decode (cc k) pc = .ok (.lookupswitch dflt ps, len)) (hp : (ps.toList.zip (ps.toList.drop 1)).all (fun (a, next) => a.1 < next.1) = true) (ho : Op.lookupswitch.offset ps.toList dflt x.toInt = off) (ht : (pc : Int) + off = (tgt : Int)) (kk : Sem sc k tgt lv st w cells slots Q) : Sem sc k pc lv (u :: st) w cells slots Q := by
  intro B D ca p l e R s m args below meth c A C H locs ls hl hw
  obtain ⟨⟨hx, hb, hmx, hrt, hlks⟩, -⟩ := id C
  rw [gs, List.map_cons, toI_gv hu]
  exact lv_lookup hx hb hd hp ho ht (kk B D ca p l e R s m args below meth c A C H locs ls hl hw)
theorem Sem.sld {j : Nat} (hk : k = LAW) (hd : decode (cc k) pc = .ok (.iaload, 1)) (hj : j < sc.2.1) (h31 : sc.2.1 < 2 ^ 31) (kk : Sem sc k (pc + 1) lv (aI (sc.2.2 j) :: st) w cells slots Q) : Sem sc k pc lv (aN j :: aV (.ref sc.1) :: st) w cells slots Q := by
  intro B D ca p l e R s m args below meth c A C H locs ls hl hw
  obtain ⟨⟨hx, hb, hmx, hrt, hlks⟩, ⟨hown, hts, hst, r1, r2, r3, r4⟩, ⟨hK, hA, het, hin⟩, ⟨hX, hR, hlaw⟩⟩ := id C
  obtain ⟨s1, s2, s3⟩ := hlaw hk
  have h9 := kk B D ca p l e R s m args below meth c A C H locs ls hl hw
  refine va_sld hx hb s1 s2 s3 hw.2.2.1 (vp_in_nI hj h31) hd ?_
  rw [nI_clamp (Nat.lt_trans hj h31)]
  exact h9
theorem Sem.slen (hk : k = LAW) (hd : decode (cc k) pc = .ok (.arraylength, 1)) (kk : Sem sc k (pc + 1) lv (aN sc.2.1 :: st) w cells slots Q) : Sem sc k pc lv (aV (.ref sc.1) :: st) w cells slots Q := by
  intro B D ca p l e R s m args below meth c A C H locs ls hl hw
  obtain ⟨⟨hx, hb, hmx, hrt, hlks⟩, ⟨hown, hts, hst, r1, r2, r3, r4⟩, ⟨hK, hA, het, hin⟩, ⟨hX, hR, hlaw⟩⟩ := id C
  obtain ⟨s1, s2, s3⟩ := hlaw hk
  exact va_slen hx hb s1 s2 s3 hw.2.2.1 hd (kk B D ca p l e R s m args below meth c A C H locs ls hl hw)
/-- from here on other things may be made -/
theorem Sem.loose {n : Nat} {N : Nat → Nat → Nat → Nat} {L : Nat → Nat → Nat → Int64} {F : Nat → Nat → Nat → Option (Nat × Nat)} (kk : Sem sc k pc lv st (n, false, N, L, F) cells slots Q) : Sem sc k pc lv st (n, true, N, L, F) cells slots Q := by
  intro B D ca p l e R s m args below meth c A C H locs ls hl hw
  exact kk B D ca p l e R s m args below meth c A C H locs ls hl ⟨hw.1, hw.2.1, hw.2.2.1, (fun z => nomatch z), hw.2.2.2.2⟩
/-- another world with the same cells -/
theorem Sem.weq {w' : NW} (h : w = w') (kk : Sem sc k pc lv st w' cells slots Q) : Sem sc k pc lv st w cells slots Q := h ▸ kk
theorem Sem.widen {a b : Nat} (h1 : cells ≤ a) (h2 : slots ≤ b) (hz : w.2.1 = true → cells = a) (kk : Sem sc k pc lv st w a b Q) : Sem sc k pc lv st w cells slots Q := by
  intro B D ca p l e R s m args below meth c A C H locs ls hl hw
  exact W.widen h1 h2 (kk B D ca p l e R s m args below meth c A C H locs ls hl ⟨hw.1, hw.2.1, hw.2.2.1, fun z => by rw [← hz z]; exact hw.2.2.2.1 z, hw.2.2.2.2⟩)
theorem Sem.mono {Q' : QT} (h : ∀ o w, Q' o w → Q o w) (kk : Sem sc k pc lv st w cells slots Q') : Sem sc k pc lv st w cells slots Q := by
  intro B D ca p l e R s m args below meth c A C H locs ls hl hw
  refine Wmono ?_ (kk B D ca p l e R s m args below meth c A C H locs ls hl hw)
  rintro t ⟨o, h1, h2, h3, h4⟩
  refine ⟨o, h1, h2, ?_, h4⟩
  cases o with
  | returned v =>
    obtain ⟨v0, w9, e1, q1, q2⟩ := h3
    exact ⟨v0, w9, e1, h _ _ q1, q2⟩
  | threw q =>
    obtain ⟨E, w9, ce, e1, q1, q2⟩ := h3
    exact ⟨E, w9, ce, e1, h _ _ q1, q2⟩
end Cons
-- ===== words for the finished world =====
section Fin
variable {sc : XT} {k pc : Nat} {lv : List (Nat × AV)} {st : List AV} {w : NW} {cells slots : Nat} {Q : QT}
theorem Sem.topNN {a b : Nat} (h : a = b) (kk : Sem sc k pc lv (aN b :: st) w cells slots Q) : Sem sc k pc lv (aN a :: st) w cells slots Q := h ▸ kk
theorem Sem.topLL {a b : Int64} (h : a = b) (kk : Sem sc k pc lv (aL b :: st) w cells slots Q) : Sem sc k pc lv (aL a :: st) w cells slots Q := h ▸ kk
theorem Sem.topII {a b : Int32} (h : a = b) (kk : Sem sc k pc lv (aI b :: st) w cells slots Q) : Sem sc k pc lv (aI a :: st) w cells slots Q := h ▸ kk
abbrev TN : Type := Nat → Nat → Nat → Nat
abbrev TL : Type := Nat → Nat → Nat → Int64
abbrev wd (N : TN) (L : TL) : NW := (NN, false, N, L, Fx)
def QN (f : (Option AV ⊕ String) → TN → TL → Prop) : QT := fun o w => ∃ (N : TN) (L : TL), w = wd N L ∧ f o N L
theorem QN1 {f : (Option AV ⊕ String) → TN → TL → Prop} : ∀ v w', QN f (.inl v) w' → w'.2.1 = false := by
  rintro v w' ⟨N, L, rfl, -⟩; rfl
theorem QN2 {f : (Option AV ⊕ String) → TN → TL → Prop} : ∀ E w', QN f (.inr E) w' → w'.2.1 = false := by
  rintro v w' ⟨N, L, rfl, -⟩; rfl
theorem vN {t i : Nat} (h : i < ct t) : vld NN t i := ⟨h, od_lt h⟩
end Fin
end
section
-- ===== the three exceptions =====
def exNames : List String := ["java/lang/RuntimeException", "java/lang/Exception"]
theorem exFit : ∀ n ∈ exNames, Bundle.fit n = true := by decide +kernel
set_option maxRecDepth 100000 in
theorem exAtoms : ∀ n, n < 3 → ∀ w ∈ Bundle.ownAtoms (RN 4) 0 (EX n) exNames, (w ∈ lw_tbl ∧ goodWord w = true) ∨ w ∈ ([.methodLink (RN 4) 0 (Bundle.initS (EX n)), .laysStatic Bundle.tN "UNASSIGNED_STACK" Bundle.steD, .isRef (.static Bundle.tN "UNASSIGNED_STACK" Bundle.steD), .laysStatic Bundle.tN "SUPPRESSED_SENTINEL" Bundle.listD, .isRef (.static Bundle.tN "SUPPRESSED_SENTINEL" Bundle.listD), .castable (EX n) (EX n), .declares (Bundle.initS (DX 0)), .declares (Bundle.initS (DX 1)), .declares (Bundle.initS (DX 2))] : List Cond) := by decide +kernel
set_option maxRecDepth 100000 in
theorem exNo : ∀ n, n < 3 → Cond.methodLink (RN 4) 0 (Bundle.initS (EX n)) ∈ lw_tbl → False := by decide +kernel
set_option maxRecDepth 100000 in
theorem exNo3 : ∀ n, n < 3 → Cond.methodLink (RN 4) 0 (Bundle.initS (EX n)) ∈ Bundle.ownAtoms (RN 4) 1 (EX n) exNames → False := by decide +kernel
theorem exNo2 (n : Nat) (hn : n < 3) (ic : Nat) (h : ¬ ic = 0) (hw : Cond.methodLink (RN 4) 0 (Bundle.initS (EX n)) ∈ Bundle.ownAtoms (RN 4) ic (EX n) exNames) : False := by
  apply exNo3 n hn
  simp only [Bundle.ownAtoms, List.mem_append, List.mem_cons] at hw ⊢
  rcases hw with hw | hw | hw
  · exact Or.inl hw
  · exfalso
    injection hw with h1 h2 h3
    exact h h2.symm
  · exact Or.inr (Or.inr hw)
theorem exAt {n ic : Nat} (hn : n < 3) (hlk : Cond.methodLink (RN 4) ic (Bundle.initS (EX n)) ∈ AW_) : ∀ w ∈ Bundle.ownAtoms (RN 4) ic (EX n) exNames, w ∈ AW_ ∨ w ∈ ([.laysStatic Bundle.tN "UNASSIGNED_STACK" Bundle.steD, .isRef (.static Bundle.tN "UNASSIGNED_STACK" Bundle.steD), .laysStatic Bundle.tN "SUPPRESSED_SENTINEL" Bundle.listD, .isRef (.static Bundle.tN "SUPPRESSED_SENTINEL" Bundle.listD), .castable (EX n) (EX n), .declares (Bundle.initS (DX 0)), .declares (Bundle.initS (DX 1)), .declares (Bundle.initS (DX 2))] : List Cond) := by
  intro w hw
  have key : w = Cond.methodLink (RN 4) ic (Bundle.initS (EX n)) ∨ w ∈ Bundle.ownAtoms (RN 4) 0 (EX n) exNames ∧ w ≠ Cond.methodLink (RN 4) 0 (Bundle.initS (EX n)) ∨ w = Cond.methodLink (RN 4) 0 (Bundle.initS (EX n)) ∧ ic = 0 := by
    by_cases h1 : w = Cond.methodLink (RN 4) ic (Bundle.initS (EX n))
    · exact Or.inl h1
    · right
      have h2 : w ∈ Bundle.ownAtoms (RN 4) 0 (EX n) exNames := by
        simp only [Bundle.ownAtoms, List.mem_append, List.mem_cons] at hw ⊢
        rcases hw with hw | hw | hw
        · exact Or.inl hw
        · exact absurd hw h1
        · exact Or.inr (Or.inr hw)
      by_cases h3 : w = Cond.methodLink (RN 4) 0 (Bundle.initS (EX n))
      · right
        refine ⟨h3, ?_⟩
        by_cases h4 : ic = 0
        · exact h4
        · exfalso
          subst h3
          rcases exAtoms n hn _ h2 with ⟨h5, -⟩ | h5
          · exact exNo n hn h5
          · exact exNo2 n hn ic h4 hw
      · exact Or.inl ⟨h2, h3⟩
  rcases key with rfl | ⟨h, hne⟩ | ⟨h, rfl⟩
  · exact Or.inl hlk
  · rcases exAtoms n hn w h with ⟨h1, h2⟩ | h1
    · exact Or.inl (aw h1 h2)
    · rcases List.mem_cons.mp h1 with h1 | h1
      · exact absurd h1 hne
      · exact Or.inr h1
  · rw [h]
    exact Or.inl hlk
section Thr
variable {sc : XT} {k pc : Nat} {lv : List (Nat × AV)} {st : List AV} {w : NW} {cells slots : Nat} {Q : QT}
theorem Sem.thr (n : Nat) (hn : n < 3) {ik is ic : Nat} {text : String} (hk4 : mo k = 4) (d0 : decode (cc k) pc = .ok (.new ik, 3)) (d3 : decode (cc k) (pc + 3) = .ok (.dup, 1)) (d4 : decode (cc k) (pc + 4) = .ok (.ldc is, 2)) (d6 : decode (cc k) (pc + 6) = .ok (.invokespecial ic, 3)) (d9 : decode (cc k) (pc + 9) = .ok (.athrow, 1))
    (hcl : Cond.classLink (RN 4) ik (EX n) ∈ AW_) (hini : Cond.initialized (EX n) ∈ AW_) (hins : Cond.instantiable (EX n) 6 ∈ AW_) (hstr : (RN 4, is, text) ∈ strT) (hlk : Cond.methodLink (RN 4) ic (Bundle.initS (EX n)) ∈ AW_) (hnh : hh k = [])
    (hfr : 5 < fr k) (hlo : (st.map ct1).sum + 82 ≤ lo k) (hc : cells + 1 ≤ mc k) (hs : slots + 6 ≤ ms k) (hz : w.2.1 = false) (hQ : Q (.inr (EX n)) w) : Sem sc k pc lv st w cells slots Q := by
  have hfit : Bundle.fit (EX n) = true := (show ∀ n, n < 3 → Bundle.fit (EX n) = true by decide +kernel) n hn
  refine Sem.throw (names := exNames) (text := text) hn rfl d0 d3 d4 d6 d9 hfit exFit (by rw [hk4]; exact hcl) hini hins (by rw [hk4]; exact hstr) (by rw [hk4]; exact exAt hn hlk) (by rw [hnh]; intro x hx; cases hx) hfr hlo hc hs hz hQ
end Thr
end
section
theorem awT1 {w : Cond} (i : Nat) (h : tables_1_1[i]? = some w) (g : goodWord w = true) : w ∈ AW_ := aw (List.mem_append_right _ (List.mem_append_left _ (List.mem_of_getElem? h))) g
theorem awT2 {w : Cond} (i : Nat) (h : tables_1_2[i]? = some w) (g : goodWord w = true) : w ∈ AW_ := aw (List.mem_append_right _ (List.mem_append_right _ (List.mem_append_left _ (List.mem_of_getElem? h)))) g
theorem awT3 {w : Cond} (i : Nat) (h : tables_1_3[i]? = some w) (g : goodWord w = true) : w ∈ AW_ := aw (List.mem_append_right _ (List.mem_append_right _ (List.mem_append_right _ (List.mem_append_left _ (List.mem_of_getElem? h))))) g
theorem awT4 {w : Cond} (i : Nat) (h : tables_1_4[i]? = some w) (g : goodWord w = true) : w ∈ AW_ := aw (List.mem_append_right _ (List.mem_append_right _ (List.mem_append_right _ (List.mem_append_right _ (List.mem_of_getElem? h))))) g
theorem in0 : Cond.initialized (RN 0) ∈ AW_ := awT1 2 rfl rfl
theorem in1 : Cond.initialized (RN 1) ∈ AW_ := awT1 3 rfl rfl
theorem in2 : Cond.initialized (RN 2) ∈ AW_ := awT1 5 rfl rfl
theorem in3 : Cond.initialized (RN 3) ∈ AW_ := awT1 4 rfl rfl
theorem in4 : Cond.initialized (RN 4) ∈ AW_ := awT1 1 rfl rfl
theorem in5 : Cond.initialized (RN 5) ∈ AW_ := awT1 6 rfl rfl
theorem in6 : Cond.initialized (RN 6) ∈ AW_ := awT1 0 rfl rfl
theorem in7 : Cond.initialized (RN 7) ∈ AW_ := awT1 12 rfl rfl
theorem inE0 : Cond.initialized (EX 0) ∈ AW_ := awT1 10 rfl rfl
theorem inE1 : Cond.initialized (EX 1) ∈ AW_ := awT1 11 rfl rfl
theorem inE2 : Cond.initialized (EX 2) ∈ AW_ := awT1 15 rfl rfl
theorem inMath : Cond.initialized "java/lang/Math" ∈ AW_ := awT1 13 rfl rfl
theorem inSys : Cond.initialized "java/lang/System" ∈ AW_ := awT1 14 rfl rfl
theorem co0 : Cond.code (yn 0) (cc 0) (mL 0) (rt 0) ∈ AW_ := awT1 20 rfl rfl
theorem mk0 : MK 0 := ⟨in4, by decide +kernel, ⟨by decide +kernel, by decide +kernel⟩, by decide +kernel, by decide, Or.inl ⟨rfl, co0⟩⟩
theorem im0 : Cond.instanceMethod (yn 0) ∈ AW_ := awT1 19 rfl rfl
theorem co1 : Cond.code (yn 1) (cc 1) (mL 1) (rt 1) ∈ AW_ := awT1 30 rfl rfl
theorem mk1 : MK 1 := ⟨in0, by decide +kernel, ⟨by decide +kernel, by decide +kernel⟩, by decide +kernel, by decide, Or.inl ⟨rfl, co1⟩⟩
theorem im1 : Cond.instanceMethod (yn 1) ∈ AW_ := awT1 29 rfl rfl
theorem co2 : Cond.code (yn 2) (cc 2) (mL 2) (rt 2) ∈ AW_ := awT1 61 rfl rfl
theorem mk2 : MK 2 := ⟨in1, by decide +kernel, ⟨by decide +kernel, by decide +kernel⟩, by decide +kernel, by decide, Or.inl ⟨rfl, co2⟩⟩
theorem im2 : Cond.instanceMethod (yn 2) ∈ AW_ := awT1 60 rfl rfl
theorem co3 : Cond.code (yn 3) (cc 3) (mL 3) (rt 3) ∈ AW_ := awT1 84 rfl rfl
theorem mk3 : MK 3 := ⟨in3, by decide +kernel, ⟨by decide +kernel, by decide +kernel⟩, by decide +kernel, by decide, Or.inl ⟨rfl, co3⟩⟩
theorem im3 : Cond.instanceMethod (yn 3) ∈ AW_ := awT1 83 rfl rfl
theorem co4 : Cond.code (yn 4) (cc 4) (mL 4) (rt 4) ∈ AW_ := awT1 103 rfl rfl
theorem mk4 : MK 4 := ⟨in2, by decide +kernel, ⟨by decide +kernel, by decide +kernel⟩, by decide +kernel, by decide, Or.inl ⟨rfl, co4⟩⟩
theorem im4 : Cond.instanceMethod (yn 4) ∈ AW_ := awT1 102 rfl rfl
theorem co5 : Cond.code (yn 5) (cc 5) (mL 5) (rt 5) ∈ AW_ := awT1 193 rfl rfl
theorem mk5 : MK 5 := ⟨in4, by decide +kernel, ⟨by decide +kernel, by decide +kernel⟩, by decide +kernel, by decide, Or.inl ⟨rfl, co5⟩⟩
theorem im5 : Cond.instanceMethod (yn 5) ∈ AW_ := awT1 191 rfl rfl
theorem se5 : Cond.selects (RN (mo 5)) (yn 5) (yn 5) ∈ AW_ := awT1 192 rfl rfl
theorem co6 : Cond.code (yn 6) (cc 6) (mL 6) (rt 6) ∈ AW_ := awT1 197 rfl rfl
theorem mk6 : MK 6 := ⟨in4, by decide +kernel, ⟨by decide +kernel, by decide +kernel⟩, by decide +kernel, by decide, Or.inl ⟨rfl, co6⟩⟩
theorem im6 : Cond.instanceMethod (yn 6) ∈ AW_ := awT1 196 rfl rfl
theorem se6 : Cond.selects (RN (mo 6)) (yn 6) (yn 6) ∈ AW_ := awP 0 rfl rfl
theorem co7 : Cond.code (yn 7) (cc 7) (mL 7) (rt 7) ∈ AW_ := awT1 201 rfl rfl
theorem mk7 : MK 7 := ⟨in4, by decide +kernel, ⟨by decide +kernel, by decide +kernel⟩, by decide +kernel, by decide, Or.inl ⟨rfl, co7⟩⟩
theorem im7 : Cond.instanceMethod (yn 7) ∈ AW_ := awT1 200 rfl rfl
theorem se7 : Cond.selects (RN (mo 7)) (yn 7) (yn 7) ∈ AW_ := awP 1 rfl rfl
theorem co8 : Cond.code (yn 8) (cc 8) (mL 8) (rt 8) ∈ AW_ := awT1 204 rfl rfl
theorem mk8 : MK 8 := ⟨in7, by decide +kernel, ⟨by decide +kernel, by decide +kernel⟩, by decide +kernel, by decide, Or.inl ⟨rfl, co8⟩⟩
theorem ss8 : Cond.static (yn 8) ∈ AW_ := awT1 203 rfl rfl
theorem co9 : Cond.code (yn 9) (cc 9) (mL 9) (rt 9) ∈ AW_ := awT1 208 rfl rfl
theorem mk9 : MK 9 := ⟨in1, by decide +kernel, ⟨by decide +kernel, by decide +kernel⟩, by decide +kernel, by decide, Or.inl ⟨rfl, co9⟩⟩
theorem im9 : Cond.instanceMethod (yn 9) ∈ AW_ := awT1 206 rfl rfl
theorem se9 : Cond.selects (RN (mo 9)) (yn 9) (yn 9) ∈ AW_ := awT1 207 rfl rfl
theorem co10 : Cond.code (yn 10) (cc 10) (mL 10) (rt 10) ∈ AW_ := awT1 212 rfl rfl
theorem mk10 : MK 10 := ⟨in4, by decide +kernel, ⟨by decide +kernel, by decide +kernel⟩, by decide +kernel, by decide, Or.inl ⟨rfl, co10⟩⟩
theorem im10 : Cond.instanceMethod (yn 10) ∈ AW_ := awT1 211 rfl rfl
theorem se10 : Cond.selects (RN (mo 10)) (yn 10) (yn 10) ∈ AW_ := awP 2 rfl rfl
theorem co11 : Cond.code (yn 11) (cc 11) (mL 11) (rt 11) ∈ AW_ := awT1 215 rfl rfl
theorem mk11 : MK 11 := ⟨in0, by decide +kernel, ⟨by decide +kernel, by decide +kernel⟩, by decide +kernel, by decide, Or.inl ⟨rfl, co11⟩⟩
theorem ss11 : Cond.static (yn 11) ∈ AW_ := awT1 214 rfl rfl
theorem co12 : Cond.code (yn 12) (cc 12) (mL 12) (rt 12) ∈ AW_ := awT1 219 rfl rfl
theorem mk12 : MK 12 := ⟨in2, by decide +kernel, ⟨by decide +kernel, by decide +kernel⟩, by decide +kernel, by decide, Or.inl ⟨rfl, co12⟩⟩
theorem im12 : Cond.instanceMethod (yn 12) ∈ AW_ := awT1 217 rfl rfl
theorem se12 : Cond.selects (RN (mo 12)) (yn 12) (yn 12) ∈ AW_ := awT1 218 rfl rfl
theorem co13 : Cond.code (yn 13) (cc 13) (mL 13) (rt 13) ∈ AW_ := awT1 223 rfl rfl
theorem mk13 : MK 13 := ⟨in2, by decide +kernel, ⟨by decide +kernel, by decide +kernel⟩, by decide +kernel, by decide, Or.inl ⟨rfl, co13⟩⟩
theorem im13 : Cond.instanceMethod (yn 13) ∈ AW_ := awT1 221 rfl rfl
theorem se13 : Cond.selects (RN (mo 13)) (yn 13) (yn 13) ∈ AW_ := awT1 222 rfl rfl
theorem co14 : Cond.code (yn 14) (cc 14) (mL 14) (rt 14) ∈ AW_ := awT1 229 rfl rfl
theorem mk14 : MK 14 := ⟨in2, by decide +kernel, ⟨by decide +kernel, by decide +kernel⟩, by decide +kernel, by decide, Or.inl ⟨rfl, co14⟩⟩
theorem im14 : Cond.instanceMethod (yn 14) ∈ AW_ := awT1 227 rfl rfl
theorem se14 : Cond.selects (RN (mo 14)) (yn 14) (yn 14) ∈ AW_ := awT1 228 rfl rfl
theorem co15 : Cond.code (yn 15) (cc 15) (mL 15) (rt 15) ∈ AW_ := awT1 236 rfl rfl
theorem mk15 : MK 15 := ⟨in3, by decide +kernel, ⟨by decide +kernel, by decide +kernel⟩, by decide +kernel, by decide, Or.inl ⟨rfl, co15⟩⟩
theorem im15 : Cond.instanceMethod (yn 15) ∈ AW_ := awT1 234 rfl rfl
theorem se15 : Cond.selects (RN (mo 15)) (yn 15) (yn 15) ∈ AW_ := awT1 235 rfl rfl
theorem co16 : Cond.code (yn 16) (cc 16) (mL 16) (rt 16) ∈ AW_ := awT2 0 rfl rfl
theorem mk16 : MK 16 := ⟨in3, by decide +kernel, ⟨by decide +kernel, by decide +kernel⟩, by decide +kernel, by decide, Or.inl ⟨rfl, co16⟩⟩
theorem im16 : Cond.instanceMethod (yn 16) ∈ AW_ := awT1 239 rfl rfl
theorem se16 : Cond.selects (RN (mo 16)) (yn 16) (yn 16) ∈ AW_ := awP 3 rfl rfl
theorem co17 : Cond.code (yn 17) (cc 17) (mL 17) (rt 17) ∈ AW_ := awT2 7 rfl rfl
theorem mk17 : MK 17 := ⟨in3, by decide +kernel, ⟨by decide +kernel, by decide +kernel⟩, by decide +kernel, by decide, Or.inl ⟨rfl, co17⟩⟩
theorem im17 : Cond.instanceMethod (yn 17) ∈ AW_ := awT2 6 rfl rfl
theorem se17 : Cond.selects (RN (mo 17)) (yn 17) (yn 17) ∈ AW_ := awP 4 rfl rfl
theorem co18 : Cond.code (yn 18) (cc 18) (mL 18) (rt 18) ∈ AW_ := awT2 11 rfl rfl
theorem mk18 : MK 18 := ⟨in3, by decide +kernel, ⟨by decide +kernel, by decide +kernel⟩, by decide +kernel, by decide, Or.inl ⟨rfl, co18⟩⟩
theorem im18 : Cond.instanceMethod (yn 18) ∈ AW_ := awT2 10 rfl rfl
theorem se18 : Cond.selects (RN (mo 18)) (yn 18) (yn 18) ∈ AW_ := awP 5 rfl rfl
theorem co19 : Cond.code (yn 19) (cc 19) (mL 19) (rt 19) ∈ AW_ := awT2 15 rfl rfl
theorem mk19 : MK 19 := ⟨in3, by decide +kernel, ⟨by decide +kernel, by decide +kernel⟩, by decide +kernel, by decide, Or.inl ⟨rfl, co19⟩⟩
theorem im19 : Cond.instanceMethod (yn 19) ∈ AW_ := awT2 14 rfl rfl
theorem se19 : Cond.selects (RN (mo 19)) (yn 19) (yn 19) ∈ AW_ := awP 6 rfl rfl
theorem co20 : Cond.code (yn 20) (cc 20) (mL 20) (rt 20) ∈ AW_ := awT2 19 rfl rfl
theorem mk20 : MK 20 := ⟨in3, by decide +kernel, ⟨by decide +kernel, by decide +kernel⟩, by decide +kernel, by decide, Or.inl ⟨rfl, co20⟩⟩
theorem im20 : Cond.instanceMethod (yn 20) ∈ AW_ := awT2 18 rfl rfl
theorem se20 : Cond.selects (RN (mo 20)) (yn 20) (yn 20) ∈ AW_ := awP 7 rfl rfl
theorem co21 : Cond.code (yn 21) (cc 21) (mL 21) (rt 21) ∈ AW_ := awT2 22 rfl rfl
theorem mk21 : MK 21 := ⟨in3, by decide +kernel, ⟨by decide +kernel, by decide +kernel⟩, by decide +kernel, by decide, Or.inl ⟨rfl, co21⟩⟩
theorem ss21 : Cond.static (yn 21) ∈ AW_ := awT2 21 rfl rfl
theorem co22 : Cond.codeWith (yn 22) (cc 22) (mL 22) (rt 22) (hh 22) ∈ AW_ := awT2 28 rfl rfl
theorem mk22 : MK 22 := ⟨in6, by decide +kernel, ⟨by decide +kernel, by decide +kernel⟩, by decide +kernel, by decide, Or.inr co22⟩
theorem ss22 : Cond.static (yn 22) ∈ AW_ := awT2 27 rfl rfl
theorem co23 : Cond.code (yn 23) (cc 23) (mL 23) (rt 23) ∈ AW_ := awT2 34 rfl rfl
theorem mk23 : MK 23 := ⟨in4, by decide +kernel, ⟨by decide +kernel, by decide +kernel⟩, by decide +kernel, by decide, Or.inl ⟨rfl, co23⟩⟩
theorem im23 : Cond.instanceMethod (yn 23) ∈ AW_ := awT2 32 rfl rfl
theorem se23 : Cond.selects (RN (mo 23)) (yn 23) (yn 23) ∈ AW_ := awT2 33 rfl rfl
theorem co24 : Cond.code (yn 24) (cc 24) (mL 24) (rt 24) ∈ AW_ := awT2 38 rfl rfl
theorem mk24 : MK 24 := ⟨in4, by decide +kernel, ⟨by decide +kernel, by decide +kernel⟩, by decide +kernel, by decide, Or.inl ⟨rfl, co24⟩⟩
theorem im24 : Cond.instanceMethod (yn 24) ∈ AW_ := awT2 37 rfl rfl
theorem se24 : Cond.selects (RN (mo 24)) (yn 24) (yn 24) ∈ AW_ := awP 8 rfl rfl
theorem co25 : Cond.code (yn 25) (cc 25) (mL 25) (rt 25) ∈ AW_ := awT2 41 rfl rfl
theorem mk25 : MK 25 := ⟨in4, by decide +kernel, ⟨by decide +kernel, by decide +kernel⟩, by decide +kernel, by decide, Or.inl ⟨rfl, co25⟩⟩
theorem ss25 : Cond.static (yn 25) ∈ AW_ := awT2 40 rfl rfl
theorem co26 : Cond.code (yn 26) (cc 26) (mL 26) (rt 26) ∈ AW_ := awT2 112 rfl rfl
theorem mk26 : MK 26 := ⟨in4, by decide +kernel, ⟨by decide +kernel, by decide +kernel⟩, by decide +kernel, by decide, Or.inl ⟨rfl, co26⟩⟩
theorem ss26 : Cond.static (yn 26) ∈ AW_ := awT2 111 rfl rfl
theorem co27 : Cond.codeWith (yn 27) (cc 27) (mL 27) (rt 27) (hh 27) ∈ AW_ := awT2 131 rfl rfl
theorem mk27 : MK 27 := ⟨in6, by decide +kernel, ⟨by decide +kernel, by decide +kernel⟩, by decide +kernel, by decide, Or.inr co27⟩
theorem ss27 : Cond.static (yn 27) ∈ AW_ := awT2 130 rfl rfl
theorem co28 : Cond.code (yn 28) (cc 28) (mL 28) (rt 28) ∈ AW_ := awT2 135 rfl rfl
theorem mk28 : MK 28 := ⟨in4, by decide +kernel, ⟨by decide +kernel, by decide +kernel⟩, by decide +kernel, by decide, Or.inl ⟨rfl, co28⟩⟩
theorem im28 : Cond.instanceMethod (yn 28) ∈ AW_ := awT2 133 rfl rfl
theorem se28 : Cond.selects (RN (mo 28)) (yn 28) (yn 28) ∈ AW_ := awT2 134 rfl rfl
theorem co29 : Cond.codeWith (yn 29) (cc 29) (mL 29) (rt 29) (hh 29) ∈ AW_ := awT2 139 rfl rfl
theorem mk29 : MK 29 := ⟨in6, by decide +kernel, ⟨by decide +kernel, by decide +kernel⟩, by decide +kernel, by decide, Or.inr co29⟩
theorem ss29 : Cond.static (yn 29) ∈ AW_ := awT2 138 rfl rfl
theorem co30 : Cond.code (yn 30) (cc 30) (mL 30) (rt 30) ∈ AW_ := awT2 143 rfl rfl
theorem mk30 : MK 30 := ⟨in4, by decide +kernel, ⟨by decide +kernel, by decide +kernel⟩, by decide +kernel, by decide, Or.inl ⟨rfl, co30⟩⟩
theorem im30 : Cond.instanceMethod (yn 30) ∈ AW_ := awT2 141 rfl rfl
theorem se30 : Cond.selects (RN (mo 30)) (yn 30) (yn 30) ∈ AW_ := awT2 142 rfl rfl
theorem co31 : Cond.code (yn 31) (cc 31) (mL 31) (rt 31) ∈ AW_ := awT2 146 rfl rfl
theorem mk31 : MK 31 := ⟨in4, by decide +kernel, ⟨by decide +kernel, by decide +kernel⟩, by decide +kernel, by decide, Or.inl ⟨rfl, co31⟩⟩
theorem ss31 : Cond.static (yn 31) ∈ AW_ := awT2 145 rfl rfl
theorem co32 : Cond.codeWith (yn 32) (cc 32) (mL 32) (rt 32) (hh 32) ∈ AW_ := awT2 150 rfl rfl
theorem mk32 : MK 32 := ⟨in6, by decide +kernel, ⟨by decide +kernel, by decide +kernel⟩, by decide +kernel, by decide, Or.inr co32⟩
theorem ss32 : Cond.static (yn 32) ∈ AW_ := awT2 149 rfl rfl
theorem co33 : Cond.code (yn 33) (cc 33) (mL 33) (rt 33) ∈ AW_ := awT2 155 rfl rfl
theorem mk33 : MK 33 := ⟨in4, by decide +kernel, ⟨by decide +kernel, by decide +kernel⟩, by decide +kernel, by decide, Or.inl ⟨rfl, co33⟩⟩
theorem im33 : Cond.instanceMethod (yn 33) ∈ AW_ := awT2 153 rfl rfl
theorem se33 : Cond.selects (RN (mo 33)) (yn 33) (yn 33) ∈ AW_ := awT2 154 rfl rfl
theorem co34 : Cond.code (yn 34) (cc 34) (mL 34) (rt 34) ∈ AW_ := awT2 159 rfl rfl
theorem mk34 : MK 34 := ⟨in0, by decide +kernel, ⟨by decide +kernel, by decide +kernel⟩, by decide +kernel, by decide, Or.inl ⟨rfl, co34⟩⟩
theorem im34 : Cond.instanceMethod (yn 34) ∈ AW_ := awT2 157 rfl rfl
theorem se34 : Cond.selects (RN (mo 34)) (yn 34) (yn 34) ∈ AW_ := awT2 158 rfl rfl
theorem co35 : Cond.code (yn 35) (cc 35) (mL 35) (rt 35) ∈ AW_ := awT2 163 rfl rfl
theorem mk35 : MK 35 := ⟨in0, by decide +kernel, ⟨by decide +kernel, by decide +kernel⟩, by decide +kernel, by decide, Or.inl ⟨rfl, co35⟩⟩
theorem im35 : Cond.instanceMethod (yn 35) ∈ AW_ := awT2 162 rfl rfl
theorem se35 : Cond.selects (RN (mo 35)) (yn 35) (yn 35) ∈ AW_ := awP 10 rfl rfl
theorem co36 : Cond.code (yn 36) (cc 36) (mL 36) (rt 36) ∈ AW_ := awT2 167 rfl rfl
theorem mk36 : MK 36 := ⟨in0, by decide +kernel, ⟨by decide +kernel, by decide +kernel⟩, by decide +kernel, by decide, Or.inl ⟨rfl, co36⟩⟩
theorem im36 : Cond.instanceMethod (yn 36) ∈ AW_ := awT2 166 rfl rfl
theorem se36 : Cond.selects (RN (mo 36)) (yn 36) (yn 36) ∈ AW_ := awP 11 rfl rfl
theorem co37 : Cond.code (yn 37) (cc 37) (mL 37) (rt 37) ∈ AW_ := awT2 170 rfl rfl
theorem mk37 : MK 37 := ⟨in7, by decide +kernel, ⟨by decide +kernel, by decide +kernel⟩, by decide +kernel, by decide, Or.inl ⟨rfl, co37⟩⟩
theorem ss37 : Cond.static (yn 37) ∈ AW_ := awT2 169 rfl rfl
theorem co38 : Cond.code (yn 38) (cc 38) (mL 38) (rt 38) ∈ AW_ := awT2 179 rfl rfl
theorem mk38 : MK 38 := ⟨in0, by decide +kernel, ⟨by decide +kernel, by decide +kernel⟩, by decide +kernel, by decide, Or.inl ⟨rfl, co38⟩⟩
theorem im38 : Cond.instanceMethod (yn 38) ∈ AW_ := awT2 177 rfl rfl
theorem se38 : Cond.selects (RN (mo 38)) (yn 38) (yn 38) ∈ AW_ := awT2 178 rfl rfl
theorem co39 : Cond.code (yn 39) (cc 39) (mL 39) (rt 39) ∈ AW_ := awT2 199 rfl rfl
theorem mk39 : MK 39 := ⟨in0, by decide +kernel, ⟨by decide +kernel, by decide +kernel⟩, by decide +kernel, by decide, Or.inl ⟨rfl, co39⟩⟩
theorem im39 : Cond.instanceMethod (yn 39) ∈ AW_ := awT2 197 rfl rfl
theorem se39 : Cond.selects (RN (mo 39)) (yn 39) (yn 39) ∈ AW_ := awT2 198 rfl rfl
theorem co40 : Cond.codeWith (yn 40) (cc 40) (mL 40) (rt 40) (hh 40) ∈ AW_ := awT2 202 rfl rfl
theorem mk40 : MK 40 := ⟨in6, by decide +kernel, ⟨by decide +kernel, by decide +kernel⟩, by decide +kernel, by decide, Or.inr co40⟩
theorem ss40 : Cond.static (yn 40) ∈ AW_ := awT2 201 rfl rfl
theorem co41 : Cond.code (yn 41) (cc 41) (mL 41) (rt 41) ∈ AW_ := awT2 206 rfl rfl
theorem mk41 : MK 41 := ⟨in4, by decide +kernel, ⟨by decide +kernel, by decide +kernel⟩, by decide +kernel, by decide, Or.inl ⟨rfl, co41⟩⟩
theorem im41 : Cond.instanceMethod (yn 41) ∈ AW_ := awT2 204 rfl rfl
theorem se41 : Cond.selects (RN (mo 41)) (yn 41) (yn 41) ∈ AW_ := awT2 205 rfl rfl
theorem co42 : Cond.codeWith (yn 42) (cc 42) (mL 42) (rt 42) (hh 42) ∈ AW_ := awT2 209 rfl rfl
theorem mk42 : MK 42 := ⟨in6, by decide +kernel, ⟨by decide +kernel, by decide +kernel⟩, by decide +kernel, by decide, Or.inr co42⟩
theorem ss42 : Cond.static (yn 42) ∈ AW_ := awT2 208 rfl rfl
theorem co43 : Cond.code (yn 43) (cc 43) (mL 43) (rt 43) ∈ AW_ := awT2 213 rfl rfl
theorem mk43 : MK 43 := ⟨in4, by decide +kernel, ⟨by decide +kernel, by decide +kernel⟩, by decide +kernel, by decide, Or.inl ⟨rfl, co43⟩⟩
theorem im43 : Cond.instanceMethod (yn 43) ∈ AW_ := awT2 211 rfl rfl
theorem se43 : Cond.selects (RN (mo 43)) (yn 43) (yn 43) ∈ AW_ := awT2 212 rfl rfl
theorem co44 : Cond.code (yn 44) (cc 44) (mL 44) (rt 44) ∈ AW_ := awT2 217 rfl rfl
theorem mk44 : MK 44 := ⟨in4, by decide +kernel, ⟨by decide +kernel, by decide +kernel⟩, by decide +kernel, by decide, Or.inl ⟨rfl, co44⟩⟩
theorem im44 : Cond.instanceMethod (yn 44) ∈ AW_ := awT2 216 rfl rfl
theorem se44 : Cond.selects (RN (mo 44)) (yn 44) (yn 44) ∈ AW_ := awP 12 rfl rfl
theorem co45 : Cond.code (yn 45) (cc 45) (mL 45) (rt 45) ∈ AW_ := awT2 220 rfl rfl
theorem mk45 : MK 45 := ⟨in4, by decide +kernel, ⟨by decide +kernel, by decide +kernel⟩, by decide +kernel, by decide, Or.inl ⟨rfl, co45⟩⟩
theorem ss45 : Cond.static (yn 45) ∈ AW_ := awT2 219 rfl rfl
theorem co46 : Cond.code (yn 46) (cc 46) (mL 46) (rt 46) ∈ AW_ := awT2 224 rfl rfl
theorem mk46 : MK 46 := ⟨in4, by decide +kernel, ⟨by decide +kernel, by decide +kernel⟩, by decide +kernel, by decide, Or.inl ⟨rfl, co46⟩⟩
theorem ss46 : Cond.static (yn 46) ∈ AW_ := awT2 223 rfl rfl
theorem co47 : Cond.code (yn 47) (cc 47) (mL 47) (rt 47) ∈ AW_ := awT2 228 rfl rfl
theorem mk47 : MK 47 := ⟨in1, by decide +kernel, ⟨by decide +kernel, by decide +kernel⟩, by decide +kernel, by decide, Or.inl ⟨rfl, co47⟩⟩
theorem im47 : Cond.instanceMethod (yn 47) ∈ AW_ := awT2 226 rfl rfl
theorem se47 : Cond.selects (RN (mo 47)) (yn 47) (yn 47) ∈ AW_ := awT2 227 rfl rfl
theorem co48 : Cond.code (yn 48) (cc 48) (mL 48) (rt 48) ∈ AW_ := awT2 233 rfl rfl
theorem mk48 : MK 48 := ⟨in1, by decide +kernel, ⟨by decide +kernel, by decide +kernel⟩, by decide +kernel, by decide, Or.inl ⟨rfl, co48⟩⟩
theorem im48 : Cond.instanceMethod (yn 48) ∈ AW_ := awT2 231 rfl rfl
theorem se48 : Cond.selects (RN (mo 48)) (yn 48) (yn 48) ∈ AW_ := awT2 232 rfl rfl
theorem co49 : Cond.codeWith (yn 49) (cc 49) (mL 49) (rt 49) (hh 49) ∈ AW_ := awT2 237 rfl rfl
theorem mk49 : MK 49 := ⟨in6, by decide +kernel, ⟨by decide +kernel, by decide +kernel⟩, by decide +kernel, by decide, Or.inr co49⟩
theorem ss49 : Cond.static (yn 49) ∈ AW_ := awT2 236 rfl rfl
theorem co50 : Cond.code (yn 50) (cc 50) (mL 50) (rt 50) ∈ AW_ := awT3 1 rfl rfl
theorem mk50 : MK 50 := ⟨in4, by decide +kernel, ⟨by decide +kernel, by decide +kernel⟩, by decide +kernel, by decide, Or.inl ⟨rfl, co50⟩⟩
theorem im50 : Cond.instanceMethod (yn 50) ∈ AW_ := awT2 239 rfl rfl
theorem se50 : Cond.selects (RN (mo 50)) (yn 50) (yn 50) ∈ AW_ := awT3 0 rfl rfl
theorem co51 : Cond.code (yn 51) (cc 51) (mL 51) (rt 51) ∈ AW_ := awT3 4 rfl rfl
theorem mk51 : MK 51 := ⟨in4, by decide +kernel, ⟨by decide +kernel, by decide +kernel⟩, by decide +kernel, by decide, Or.inl ⟨rfl, co51⟩⟩
theorem ss51 : Cond.static (yn 51) ∈ AW_ := awT3 3 rfl rfl
theorem co52 : Cond.code (yn 52) (cc 52) (mL 52) (rt 52) ∈ AW_ := awT3 9 rfl rfl
theorem mk52 : MK 52 := ⟨in1, by decide +kernel, ⟨by decide +kernel, by decide +kernel⟩, by decide +kernel, by decide, Or.inl ⟨rfl, co52⟩⟩
theorem im52 : Cond.instanceMethod (yn 52) ∈ AW_ := awT3 7 rfl rfl
theorem se52 : Cond.selects (RN (mo 52)) (yn 52) (yn 52) ∈ AW_ := awT3 8 rfl rfl
theorem co53 : Cond.codeWith (yn 53) (cc 53) (mL 53) (rt 53) (hh 53) ∈ AW_ := awT3 12 rfl rfl
theorem mk53 : MK 53 := ⟨in6, by decide +kernel, ⟨by decide +kernel, by decide +kernel⟩, by decide +kernel, by decide, Or.inr co53⟩
theorem ss53 : Cond.static (yn 53) ∈ AW_ := awT3 11 rfl rfl
theorem co54 : Cond.code (yn 54) (cc 54) (mL 54) (rt 54) ∈ AW_ := awT3 16 rfl rfl
theorem mk54 : MK 54 := ⟨in4, by decide +kernel, ⟨by decide +kernel, by decide +kernel⟩, by decide +kernel, by decide, Or.inl ⟨rfl, co54⟩⟩
theorem im54 : Cond.instanceMethod (yn 54) ∈ AW_ := awT3 14 rfl rfl
theorem se54 : Cond.selects (RN (mo 54)) (yn 54) (yn 54) ∈ AW_ := awT3 15 rfl rfl
theorem co55 : Cond.codeWith (yn 55) (cc 55) (mL 55) (rt 55) (hh 55) ∈ AW_ := awT3 19 rfl rfl
theorem mk55 : MK 55 := ⟨in6, by decide +kernel, ⟨by decide +kernel, by decide +kernel⟩, by decide +kernel, by decide, Or.inr co55⟩
theorem ss55 : Cond.static (yn 55) ∈ AW_ := awT3 18 rfl rfl
theorem co56 : Cond.code (yn 56) (cc 56) (mL 56) (rt 56) ∈ AW_ := awT3 23 rfl rfl
theorem mk56 : MK 56 := ⟨in4, by decide +kernel, ⟨by decide +kernel, by decide +kernel⟩, by decide +kernel, by decide, Or.inl ⟨rfl, co56⟩⟩
theorem im56 : Cond.instanceMethod (yn 56) ∈ AW_ := awT3 21 rfl rfl
theorem se56 : Cond.selects (RN (mo 56)) (yn 56) (yn 56) ∈ AW_ := awT3 22 rfl rfl
theorem co57 : Cond.codeWith (yn 57) (cc 57) (mL 57) (rt 57) (hh 57) ∈ AW_ := awT3 26 rfl rfl
theorem mk57 : MK 57 := ⟨in6, by decide +kernel, ⟨by decide +kernel, by decide +kernel⟩, by decide +kernel, by decide, Or.inr co57⟩
theorem ss57 : Cond.static (yn 57) ∈ AW_ := awT3 25 rfl rfl
theorem co58 : Cond.code (yn 58) (cc 58) (mL 58) (rt 58) ∈ AW_ := awT3 30 rfl rfl
theorem mk58 : MK 58 := ⟨in4, by decide +kernel, ⟨by decide +kernel, by decide +kernel⟩, by decide +kernel, by decide, Or.inl ⟨rfl, co58⟩⟩
theorem im58 : Cond.instanceMethod (yn 58) ∈ AW_ := awT3 28 rfl rfl
theorem se58 : Cond.selects (RN (mo 58)) (yn 58) (yn 58) ∈ AW_ := awT3 29 rfl rfl
theorem co59 : Cond.code (yn 59) (cc 59) (mL 59) (rt 59) ∈ AW_ := awT3 34 rfl rfl
theorem mk59 : MK 59 := ⟨in4, by decide +kernel, ⟨by decide +kernel, by decide +kernel⟩, by decide +kernel, by decide, Or.inl ⟨rfl, co59⟩⟩
theorem im59 : Cond.instanceMethod (yn 59) ∈ AW_ := awT3 33 rfl rfl
theorem se59 : Cond.selects (RN (mo 59)) (yn 59) (yn 59) ∈ AW_ := awP 13 rfl rfl
theorem co60 : Cond.code (yn 60) (cc 60) (mL 60) (rt 60) ∈ AW_ := awT3 38 rfl rfl
theorem mk60 : MK 60 := ⟨in4, by decide +kernel, ⟨by decide +kernel, by decide +kernel⟩, by decide +kernel, by decide, Or.inl ⟨rfl, co60⟩⟩
theorem im60 : Cond.instanceMethod (yn 60) ∈ AW_ := awT3 37 rfl rfl
theorem se60 : Cond.selects (RN (mo 60)) (yn 60) (yn 60) ∈ AW_ := awP 14 rfl rfl
theorem co61 : Cond.codeWith (yn 61) (cc 61) (mL 61) (rt 61) (hh 61) ∈ AW_ := awT3 42 rfl rfl
theorem mk61 : MK 61 := ⟨in6, by decide +kernel, ⟨by decide +kernel, by decide +kernel⟩, by decide +kernel, by decide, Or.inr co61⟩
theorem ss61 : Cond.static (yn 61) ∈ AW_ := awT3 41 rfl rfl
theorem co62 : Cond.code (yn 62) (cc 62) (mL 62) (rt 62) ∈ AW_ := awT3 46 rfl rfl
theorem mk62 : MK 62 := ⟨in4, by decide +kernel, ⟨by decide +kernel, by decide +kernel⟩, by decide +kernel, by decide, Or.inl ⟨rfl, co62⟩⟩
theorem im62 : Cond.instanceMethod (yn 62) ∈ AW_ := awT3 44 rfl rfl
theorem se62 : Cond.selects (RN (mo 62)) (yn 62) (yn 62) ∈ AW_ := awT3 45 rfl rfl
theorem co63 : Cond.codeWith (yn 63) (cc 63) (mL 63) (rt 63) (hh 63) ∈ AW_ := awT3 49 rfl rfl
theorem mk63 : MK 63 := ⟨in6, by decide +kernel, ⟨by decide +kernel, by decide +kernel⟩, by decide +kernel, by decide, Or.inr co63⟩
theorem ss63 : Cond.static (yn 63) ∈ AW_ := awT3 48 rfl rfl
theorem co64 : Cond.code (yn 64) (cc 64) (mL 64) (rt 64) ∈ AW_ := awT3 53 rfl rfl
theorem mk64 : MK 64 := ⟨in4, by decide +kernel, ⟨by decide +kernel, by decide +kernel⟩, by decide +kernel, by decide, Or.inl ⟨rfl, co64⟩⟩
theorem im64 : Cond.instanceMethod (yn 64) ∈ AW_ := awT3 51 rfl rfl
theorem se64 : Cond.selects (RN (mo 64)) (yn 64) (yn 64) ∈ AW_ := awT3 52 rfl rfl
theorem co65 : Cond.codeWith (yn 65) (cc 65) (mL 65) (rt 65) (hh 65) ∈ AW_ := awT3 56 rfl rfl
theorem mk65 : MK 65 := ⟨in6, by decide +kernel, ⟨by decide +kernel, by decide +kernel⟩, by decide +kernel, by decide, Or.inr co65⟩
theorem ss65 : Cond.static (yn 65) ∈ AW_ := awT3 55 rfl rfl
theorem co66 : Cond.code (yn 66) (cc 66) (mL 66) (rt 66) ∈ AW_ := awT3 60 rfl rfl
theorem mk66 : MK 66 := ⟨in4, by decide +kernel, ⟨by decide +kernel, by decide +kernel⟩, by decide +kernel, by decide, Or.inl ⟨rfl, co66⟩⟩
theorem im66 : Cond.instanceMethod (yn 66) ∈ AW_ := awT3 58 rfl rfl
theorem se66 : Cond.selects (RN (mo 66)) (yn 66) (yn 66) ∈ AW_ := awT3 59 rfl rfl
theorem co67 : Cond.code (yn 67) (cc 67) (mL 67) (rt 67) ∈ AW_ := awT3 64 rfl rfl
theorem mk67 : MK 67 := ⟨in4, by decide +kernel, ⟨by decide +kernel, by decide +kernel⟩, by decide +kernel, by decide, Or.inl ⟨rfl, co67⟩⟩
theorem im67 : Cond.instanceMethod (yn 67) ∈ AW_ := awT3 63 rfl rfl
theorem se67 : Cond.selects (RN (mo 67)) (yn 67) (yn 67) ∈ AW_ := awP 15 rfl rfl
theorem co68 : Cond.code (yn 68) (cc 68) (mL 68) (rt 68) ∈ AW_ := awT3 68 rfl rfl
theorem mk68 : MK 68 := ⟨in1, by decide +kernel, ⟨by decide +kernel, by decide +kernel⟩, by decide +kernel, by decide, Or.inl ⟨rfl, co68⟩⟩
theorem im68 : Cond.instanceMethod (yn 68) ∈ AW_ := awT3 66 rfl rfl
theorem se68 : Cond.selects (RN (mo 68)) (yn 68) (yn 68) ∈ AW_ := awT3 67 rfl rfl
theorem co69 : Cond.code (yn 69) (cc 69) (mL 69) (rt 69) ∈ AW_ := awT3 72 rfl rfl
theorem mk69 : MK 69 := ⟨in1, by decide +kernel, ⟨by decide +kernel, by decide +kernel⟩, by decide +kernel, by decide, Or.inl ⟨rfl, co69⟩⟩
theorem im69 : Cond.instanceMethod (yn 69) ∈ AW_ := awT3 70 rfl rfl
theorem se69 : Cond.selects (RN (mo 69)) (yn 69) (yn 69) ∈ AW_ := awT3 71 rfl rfl
theorem co70 : Cond.code (yn 70) (cc 70) (mL 70) (rt 70) ∈ AW_ := awT3 75 rfl rfl
theorem mk70 : MK 70 := ⟨in4, by decide +kernel, ⟨by decide +kernel, by decide +kernel⟩, by decide +kernel, by decide, Or.inl ⟨rfl, co70⟩⟩
theorem ss70 : Cond.static (yn 70) ∈ AW_ := awT3 74 rfl rfl
theorem co71 : Cond.code (yn 71) (cc 71) (mL 71) (rt 71) ∈ AW_ := awT3 79 rfl rfl
theorem mk71 : MK 71 := ⟨in4, by decide +kernel, ⟨by decide +kernel, by decide +kernel⟩, by decide +kernel, by decide, Or.inl ⟨rfl, co71⟩⟩
theorem im71 : Cond.instanceMethod (yn 71) ∈ AW_ := awT3 78 rfl rfl
theorem se71 : Cond.selects (RN (mo 71)) (yn 71) (yn 71) ∈ AW_ := awP 16 rfl rfl
theorem co72 : Cond.code (yn 72) (cc 72) (mL 72) (rt 72) ∈ AW_ := awT3 87 rfl rfl
theorem mk72 : MK 72 := ⟨in4, by decide +kernel, ⟨by decide +kernel, by decide +kernel⟩, by decide +kernel, by decide, Or.inl ⟨rfl, co72⟩⟩
theorem im72 : Cond.instanceMethod (yn 72) ∈ AW_ := awT3 86 rfl rfl
theorem se72 : Cond.selects (RN (mo 72)) (yn 72) (yn 72) ∈ AW_ := awP 17 rfl rfl
theorem co73 : Cond.codeWith (yn 73) (cc 73) (mL 73) (rt 73) (hh 73) ∈ AW_ := awT3 90 rfl rfl
theorem mk73 : MK 73 := ⟨in6, by decide +kernel, ⟨by decide +kernel, by decide +kernel⟩, by decide +kernel, by decide, Or.inr co73⟩
theorem ss73 : Cond.static (yn 73) ∈ AW_ := awT3 89 rfl rfl
theorem co74 : Cond.code (yn 74) (cc 74) (mL 74) (rt 74) ∈ AW_ := awT3 94 rfl rfl
theorem mk74 : MK 74 := ⟨in4, by decide +kernel, ⟨by decide +kernel, by decide +kernel⟩, by decide +kernel, by decide, Or.inl ⟨rfl, co74⟩⟩
theorem im74 : Cond.instanceMethod (yn 74) ∈ AW_ := awT3 92 rfl rfl
theorem se74 : Cond.selects (RN (mo 74)) (yn 74) (yn 74) ∈ AW_ := awT3 93 rfl rfl
theorem co75 : Cond.code (yn 75) (cc 75) (mL 75) (rt 75) ∈ AW_ := awT3 98 rfl rfl
theorem mk75 : MK 75 := ⟨in4, by decide +kernel, ⟨by decide +kernel, by decide +kernel⟩, by decide +kernel, by decide, Or.inl ⟨rfl, co75⟩⟩
theorem im75 : Cond.instanceMethod (yn 75) ∈ AW_ := awT3 97 rfl rfl
theorem se75 : Cond.selects (RN (mo 75)) (yn 75) (yn 75) ∈ AW_ := awP 18 rfl rfl
theorem co76 : Cond.codeWith (yn 76) (cc 76) (mL 76) (rt 76) (hh 76) ∈ AW_ := awT3 101 rfl rfl
theorem mk76 : MK 76 := ⟨in6, by decide +kernel, ⟨by decide +kernel, by decide +kernel⟩, by decide +kernel, by decide, Or.inr co76⟩
theorem ss76 : Cond.static (yn 76) ∈ AW_ := awT3 100 rfl rfl
theorem co77 : Cond.code (yn 77) (cc 77) (mL 77) (rt 77) ∈ AW_ := awT3 105 rfl rfl
theorem mk77 : MK 77 := ⟨in4, by decide +kernel, ⟨by decide +kernel, by decide +kernel⟩, by decide +kernel, by decide, Or.inl ⟨rfl, co77⟩⟩
theorem im77 : Cond.instanceMethod (yn 77) ∈ AW_ := awT3 103 rfl rfl
theorem se77 : Cond.selects (RN (mo 77)) (yn 77) (yn 77) ∈ AW_ := awT3 104 rfl rfl
theorem co78 : Cond.codeWith (yn 78) (cc 78) (mL 78) (rt 78) (hh 78) ∈ AW_ := awT3 108 rfl rfl
theorem mk78 : MK 78 := ⟨in6, by decide +kernel, ⟨by decide +kernel, by decide +kernel⟩, by decide +kernel, by decide, Or.inr co78⟩
theorem ss78 : Cond.static (yn 78) ∈ AW_ := awT3 107 rfl rfl
theorem co79 : Cond.code (yn 79) (cc 79) (mL 79) (rt 79) ∈ AW_ := awT3 112 rfl rfl
theorem mk79 : MK 79 := ⟨in4, by decide +kernel, ⟨by decide +kernel, by decide +kernel⟩, by decide +kernel, by decide, Or.inl ⟨rfl, co79⟩⟩
theorem im79 : Cond.instanceMethod (yn 79) ∈ AW_ := awT3 110 rfl rfl
theorem se79 : Cond.selects (RN (mo 79)) (yn 79) (yn 79) ∈ AW_ := awT3 111 rfl rfl
theorem co80 : Cond.codeWith (yn 80) (cc 80) (mL 80) (rt 80) (hh 80) ∈ AW_ := awT3 115 rfl rfl
theorem mk80 : MK 80 := ⟨in6, by decide +kernel, ⟨by decide +kernel, by decide +kernel⟩, by decide +kernel, by decide, Or.inr co80⟩
theorem ss80 : Cond.static (yn 80) ∈ AW_ := awT3 114 rfl rfl
theorem co81 : Cond.code (yn 81) (cc 81) (mL 81) (rt 81) ∈ AW_ := awT3 119 rfl rfl
theorem mk81 : MK 81 := ⟨in4, by decide +kernel, ⟨by decide +kernel, by decide +kernel⟩, by decide +kernel, by decide, Or.inl ⟨rfl, co81⟩⟩
theorem im81 : Cond.instanceMethod (yn 81) ∈ AW_ := awT3 117 rfl rfl
theorem se81 : Cond.selects (RN (mo 81)) (yn 81) (yn 81) ∈ AW_ := awT3 118 rfl rfl
theorem co82 : Cond.codeWith (yn 82) (cc 82) (mL 82) (rt 82) (hh 82) ∈ AW_ := awT3 122 rfl rfl
theorem mk82 : MK 82 := ⟨in6, by decide +kernel, ⟨by decide +kernel, by decide +kernel⟩, by decide +kernel, by decide, Or.inr co82⟩
theorem ss82 : Cond.static (yn 82) ∈ AW_ := awT3 121 rfl rfl
theorem co83 : Cond.code (yn 83) (cc 83) (mL 83) (rt 83) ∈ AW_ := awT3 126 rfl rfl
theorem mk83 : MK 83 := ⟨in4, by decide +kernel, ⟨by decide +kernel, by decide +kernel⟩, by decide +kernel, by decide, Or.inl ⟨rfl, co83⟩⟩
theorem im83 : Cond.instanceMethod (yn 83) ∈ AW_ := awT3 124 rfl rfl
theorem se83 : Cond.selects (RN (mo 83)) (yn 83) (yn 83) ∈ AW_ := awT3 125 rfl rfl
theorem co84 : Cond.code (yn 84) (cc 84) (mL 84) (rt 84) ∈ AW_ := awT3 130 rfl rfl
theorem mk84 : MK 84 := ⟨in4, by decide +kernel, ⟨by decide +kernel, by decide +kernel⟩, by decide +kernel, by decide, Or.inl ⟨rfl, co84⟩⟩
theorem im84 : Cond.instanceMethod (yn 84) ∈ AW_ := awT3 129 rfl rfl
theorem se84 : Cond.selects (RN (mo 84)) (yn 84) (yn 84) ∈ AW_ := awP 19 rfl rfl
theorem co85 : Cond.code (yn 85) (cc 85) (mL 85) (rt 85) ∈ AW_ := awT3 134 rfl rfl
theorem mk85 : MK 85 := ⟨in2, by decide +kernel, ⟨by decide +kernel, by decide +kernel⟩, by decide +kernel, by decide, Or.inl ⟨rfl, co85⟩⟩
theorem im85 : Cond.instanceMethod (yn 85) ∈ AW_ := awT3 132 rfl rfl
theorem se85 : Cond.selects (RN (mo 85)) (yn 85) (yn 85) ∈ AW_ := awT3 133 rfl rfl
theorem co86 : Cond.code (yn 86) (cc 86) (mL 86) (rt 86) ∈ AW_ := awT3 139 rfl rfl
theorem mk86 : MK 86 := ⟨in5, by decide +kernel, ⟨by decide +kernel, by decide +kernel⟩, by decide +kernel, by decide, Or.inl ⟨rfl, co86⟩⟩
theorem im86 : Cond.instanceMethod (yn 86) ∈ AW_ := awT3 138 rfl rfl
theorem co87 : Cond.code (yn 87) (cc 87) (mL 87) (rt 87) ∈ AW_ := awT3 227 rfl rfl
theorem mk87 : MK 87 := ⟨in5, by decide +kernel, ⟨by decide +kernel, by decide +kernel⟩, by decide +kernel, by decide, Or.inl ⟨rfl, co87⟩⟩
theorem im87 : Cond.instanceMethod (yn 87) ∈ AW_ := awT3 225 rfl rfl
theorem se87 : Cond.selects (RN (mo 87)) (yn 87) (yn 87) ∈ AW_ := awT3 226 rfl rfl
theorem co88 : Cond.code (yn 88) (cc 88) (mL 88) (rt 88) ∈ AW_ := awT3 231 rfl rfl
theorem mk88 : MK 88 := ⟨in5, by decide +kernel, ⟨by decide +kernel, by decide +kernel⟩, by decide +kernel, by decide, Or.inl ⟨rfl, co88⟩⟩
theorem im88 : Cond.instanceMethod (yn 88) ∈ AW_ := awT3 229 rfl rfl
theorem se88 : Cond.selects (RN (mo 88)) (yn 88) (yn 88) ∈ AW_ := awT3 230 rfl rfl
theorem co89 : Cond.code (yn 89) (cc 89) (mL 89) (rt 89) ∈ AW_ := awT3 234 rfl rfl
theorem mk89 : MK 89 := ⟨in5, by decide +kernel, ⟨by decide +kernel, by decide +kernel⟩, by decide +kernel, by decide, Or.inl ⟨rfl, co89⟩⟩
theorem ss89 : Cond.static (yn 89) ∈ AW_ := awT3 233 rfl rfl
theorem co90 : Cond.code (yn 90) (cc 90) (mL 90) (rt 90) ∈ AW_ := awT3 237 rfl rfl
theorem mk90 : MK 90 := ⟨in5, by decide +kernel, ⟨by decide +kernel, by decide +kernel⟩, by decide +kernel, by decide, Or.inl ⟨rfl, co90⟩⟩
theorem ss90 : Cond.static (yn 90) ∈ AW_ := awT3 236 rfl rfl
theorem co91 : Cond.code (yn 91) (cc 91) (mL 91) (rt 91) ∈ AW_ := awT4 1 rfl rfl
theorem mk91 : MK 91 := ⟨in5, by decide +kernel, ⟨by decide +kernel, by decide +kernel⟩, by decide +kernel, by decide, Or.inl ⟨rfl, co91⟩⟩
theorem im91 : Cond.instanceMethod (yn 91) ∈ AW_ := awT4 0 rfl rfl
theorem se91 : Cond.selects (RN (mo 91)) (yn 91) (yn 91) ∈ AW_ := awP 20 rfl rfl
theorem co92 : Cond.code (yn 92) (cc 92) (mL 92) (rt 92) ∈ AW_ := awT4 5 rfl rfl
theorem mk92 : MK 92 := ⟨in5, by decide +kernel, ⟨by decide +kernel, by decide +kernel⟩, by decide +kernel, by decide, Or.inl ⟨rfl, co92⟩⟩
theorem im92 : Cond.instanceMethod (yn 92) ∈ AW_ := awT4 4 rfl rfl
theorem se92 : Cond.selects (RN (mo 92)) (yn 92) (yn 92) ∈ AW_ := awP 21 rfl rfl
theorem co93 : Cond.code (yn 93) (cc 93) (mL 93) (rt 93) ∈ AW_ := awT4 9 rfl rfl
theorem mk93 : MK 93 := ⟨in5, by decide +kernel, ⟨by decide +kernel, by decide +kernel⟩, by decide +kernel, by decide, Or.inl ⟨rfl, co93⟩⟩
theorem im93 : Cond.instanceMethod (yn 93) ∈ AW_ := awT4 7 rfl rfl
theorem se93 : Cond.selects (RN (mo 93)) (yn 93) (yn 93) ∈ AW_ := awT4 8 rfl rfl
theorem co94 : Cond.code (yn 94) (cc 94) (mL 94) (rt 94) ∈ AW_ := awT4 14 rfl rfl
theorem mk94 : MK 94 := ⟨in5, by decide +kernel, ⟨by decide +kernel, by decide +kernel⟩, by decide +kernel, by decide, Or.inl ⟨rfl, co94⟩⟩
theorem im94 : Cond.instanceMethod (yn 94) ∈ AW_ := awT4 12 rfl rfl
theorem se94 : Cond.selects (RN (mo 94)) (yn 94) (yn 94) ∈ AW_ := awT4 13 rfl rfl
theorem co95 : Cond.code (yn 95) (cc 95) (mL 95) (rt 95) ∈ AW_ := awT4 18 rfl rfl
theorem mk95 : MK 95 := ⟨in5, by decide +kernel, ⟨by decide +kernel, by decide +kernel⟩, by decide +kernel, by decide, Or.inl ⟨rfl, co95⟩⟩
theorem im95 : Cond.instanceMethod (yn 95) ∈ AW_ := awT4 16 rfl rfl
theorem se95 : Cond.selects (RN (mo 95)) (yn 95) (yn 95) ∈ AW_ := awT4 17 rfl rfl
theorem co96 : Cond.code (yn 96) (cc 96) (mL 96) (rt 96) ∈ AW_ := awT4 22 rfl rfl
theorem mk96 : MK 96 := ⟨in5, by decide +kernel, ⟨by decide +kernel, by decide +kernel⟩, by decide +kernel, by decide, Or.inl ⟨rfl, co96⟩⟩
theorem im96 : Cond.instanceMethod (yn 96) ∈ AW_ := awT4 21 rfl rfl
theorem se96 : Cond.selects (RN (mo 96)) (yn 96) (yn 96) ∈ AW_ := awP 22 rfl rfl
theorem co97 : Cond.code (yn 97) (cc 97) (mL 97) (rt 97) ∈ AW_ := awT4 26 rfl rfl
theorem mk97 : MK 97 := ⟨in5, by decide +kernel, ⟨by decide +kernel, by decide +kernel⟩, by decide +kernel, by decide, Or.inl ⟨rfl, co97⟩⟩
theorem im97 : Cond.instanceMethod (yn 97) ∈ AW_ := awT4 25 rfl rfl
theorem se97 : Cond.selects (RN (mo 97)) (yn 97) (yn 97) ∈ AW_ := awP 23 rfl rfl
theorem co98 : Cond.code (yn 98) (cc 98) (mL 98) (rt 98) ∈ AW_ := awT4 30 rfl rfl
theorem mk98 : MK 98 := ⟨in5, by decide +kernel, ⟨by decide +kernel, by decide +kernel⟩, by decide +kernel, by decide, Or.inl ⟨rfl, co98⟩⟩
theorem im98 : Cond.instanceMethod (yn 98) ∈ AW_ := awT4 29 rfl rfl
theorem se98 : Cond.selects (RN (mo 98)) (yn 98) (yn 98) ∈ AW_ := awP 24 rfl rfl
theorem co99 : Cond.code (yn 99) (cc 99) (mL 99) (rt 99) ∈ AW_ := awT4 34 rfl rfl
theorem mk99 : MK 99 := ⟨in5, by decide +kernel, ⟨by decide +kernel, by decide +kernel⟩, by decide +kernel, by decide, Or.inl ⟨rfl, co99⟩⟩
theorem im99 : Cond.instanceMethod (yn 99) ∈ AW_ := awT4 32 rfl rfl
theorem se99 : Cond.selects (RN (mo 99)) (yn 99) (yn 99) ∈ AW_ := awT4 33 rfl rfl
theorem co100 : Cond.code (yn 100) (cc 100) (mL 100) (rt 100) ∈ AW_ := awT4 38 rfl rfl
theorem mk100 : MK 100 := ⟨in5, by decide +kernel, ⟨by decide +kernel, by decide +kernel⟩, by decide +kernel, by decide, Or.inl ⟨rfl, co100⟩⟩
theorem im100 : Cond.instanceMethod (yn 100) ∈ AW_ := awT4 36 rfl rfl
theorem se100 : Cond.selects (RN (mo 100)) (yn 100) (yn 100) ∈ AW_ := awT4 37 rfl rfl
theorem co101 : Cond.code (yn 101) (cc 101) (mL 101) (rt 101) ∈ AW_ := awT4 42 rfl rfl
theorem mk101 : MK 101 := ⟨in5, by decide +kernel, ⟨by decide +kernel, by decide +kernel⟩, by decide +kernel, by decide, Or.inl ⟨rfl, co101⟩⟩
theorem im101 : Cond.instanceMethod (yn 101) ∈ AW_ := awT4 41 rfl rfl
theorem se101 : Cond.selects (RN (mo 101)) (yn 101) (yn 101) ∈ AW_ := awP 25 rfl rfl
theorem co102 : Cond.code (yn 102) (cc 102) (mL 102) (rt 102) ∈ AW_ := awT4 46 rfl rfl
theorem mk102 : MK 102 := ⟨in5, by decide +kernel, ⟨by decide +kernel, by decide +kernel⟩, by decide +kernel, by decide, Or.inl ⟨rfl, co102⟩⟩
theorem im102 : Cond.instanceMethod (yn 102) ∈ AW_ := awT4 45 rfl rfl
theorem se102 : Cond.selects (RN (mo 102)) (yn 102) (yn 102) ∈ AW_ := awP 26 rfl rfl
theorem co103 : Cond.code (yn 103) (cc 103) (mL 103) (rt 103) ∈ AW_ := awT4 50 rfl rfl
theorem mk103 : MK 103 := ⟨in5, by decide +kernel, ⟨by decide +kernel, by decide +kernel⟩, by decide +kernel, by decide, Or.inl ⟨rfl, co103⟩⟩
theorem im103 : Cond.instanceMethod (yn 103) ∈ AW_ := awT4 48 rfl rfl
theorem se103 : Cond.selects (RN (mo 103)) (yn 103) (yn 103) ∈ AW_ := awT4 49 rfl rfl
theorem co104 : Cond.code (yn 104) (cc 104) (mL 104) (rt 104) ∈ AW_ := awT4 54 rfl rfl
theorem mk104 : MK 104 := ⟨in5, by decide +kernel, ⟨by decide +kernel, by decide +kernel⟩, by decide +kernel, by decide, Or.inl ⟨rfl, co104⟩⟩
theorem im104 : Cond.instanceMethod (yn 104) ∈ AW_ := awT4 52 rfl rfl
theorem se104 : Cond.selects (RN (mo 104)) (yn 104) (yn 104) ∈ AW_ := awT4 53 rfl rfl
theorem co105 : Cond.code (yn 105) (cc 105) (mL 105) (rt 105) ∈ AW_ := awT4 58 rfl rfl
theorem mk105 : MK 105 := ⟨in5, by decide +kernel, ⟨by decide +kernel, by decide +kernel⟩, by decide +kernel, by decide, Or.inl ⟨rfl, co105⟩⟩
theorem im105 : Cond.instanceMethod (yn 105) ∈ AW_ := awT4 56 rfl rfl
theorem se105 : Cond.selects (RN (mo 105)) (yn 105) (yn 105) ∈ AW_ := awT4 57 rfl rfl
theorem co106 : Cond.code (yn 106) (cc 106) (mL 106) (rt 106) ∈ AW_ := awT4 62 rfl rfl
theorem mk106 : MK 106 := ⟨in5, by decide +kernel, ⟨by decide +kernel, by decide +kernel⟩, by decide +kernel, by decide, Or.inl ⟨rfl, co106⟩⟩
theorem im106 : Cond.instanceMethod (yn 106) ∈ AW_ := awT4 61 rfl rfl
theorem se106 : Cond.selects (RN (mo 106)) (yn 106) (yn 106) ∈ AW_ := awP 27 rfl rfl
theorem co107 : Cond.code (yn 107) (cc 107) (mL 107) (rt 107) ∈ AW_ := awT4 66 rfl rfl
theorem mk107 : MK 107 := ⟨in5, by decide +kernel, ⟨by decide +kernel, by decide +kernel⟩, by decide +kernel, by decide, Or.inl ⟨rfl, co107⟩⟩
theorem im107 : Cond.instanceMethod (yn 107) ∈ AW_ := awT4 65 rfl rfl
theorem se107 : Cond.selects (RN (mo 107)) (yn 107) (yn 107) ∈ AW_ := awP 28 rfl rfl
theorem co108 : Cond.code (yn 108) (cc 108) (mL 108) (rt 108) ∈ AW_ := awT4 70 rfl rfl
theorem mk108 : MK 108 := ⟨in5, by decide +kernel, ⟨by decide +kernel, by decide +kernel⟩, by decide +kernel, by decide, Or.inl ⟨rfl, co108⟩⟩
theorem im108 : Cond.instanceMethod (yn 108) ∈ AW_ := awT4 69 rfl rfl
theorem se108 : Cond.selects (RN (mo 108)) (yn 108) (yn 108) ∈ AW_ := awP 29 rfl rfl
theorem co109 : Cond.code (yn 109) (cc 109) (mL 109) (rt 109) ∈ AW_ := awT4 74 rfl rfl
theorem mk109 : MK 109 := ⟨in5, by decide +kernel, ⟨by decide +kernel, by decide +kernel⟩, by decide +kernel, by decide, Or.inl ⟨rfl, co109⟩⟩
theorem im109 : Cond.instanceMethod (yn 109) ∈ AW_ := awT4 73 rfl rfl
theorem se109 : Cond.selects (RN (mo 109)) (yn 109) (yn 109) ∈ AW_ := awP 30 rfl rfl
theorem co110 : Cond.code (yn 110) (cc 110) (mL 110) (rt 110) ∈ AW_ := awT4 80 rfl rfl
theorem mk110 : MK 110 := ⟨in5, by decide +kernel, ⟨by decide +kernel, by decide +kernel⟩, by decide +kernel, by decide, Or.inl ⟨rfl, co110⟩⟩
theorem im110 : Cond.instanceMethod (yn 110) ∈ AW_ := awT4 79 rfl rfl
theorem se110 : Cond.selects (RN (mo 110)) (yn 110) (yn 110) ∈ AW_ := awP 31 rfl rfl
theorem co111 : Cond.code (yn 111) (cc 111) (mL 111) (rt 111) ∈ AW_ := awT4 84 rfl rfl
theorem mk111 : MK 111 := ⟨in5, by decide +kernel, ⟨by decide +kernel, by decide +kernel⟩, by decide +kernel, by decide, Or.inl ⟨rfl, co111⟩⟩
theorem im111 : Cond.instanceMethod (yn 111) ∈ AW_ := awT4 83 rfl rfl
theorem se111 : Cond.selects (RN (mo 111)) (yn 111) (yn 111) ∈ AW_ := awP 32 rfl rfl
theorem co112 : Cond.code (yn 112) (cc 112) (mL 112) (rt 112) ∈ AW_ := awT4 88 rfl rfl
theorem mk112 : MK 112 := ⟨in5, by decide +kernel, ⟨by decide +kernel, by decide +kernel⟩, by decide +kernel, by decide, Or.inl ⟨rfl, co112⟩⟩
theorem im112 : Cond.instanceMethod (yn 112) ∈ AW_ := awT4 87 rfl rfl
theorem se112 : Cond.selects (RN (mo 112)) (yn 112) (yn 112) ∈ AW_ := awP 33 rfl rfl
theorem co113 : Cond.code (yn 113) (cc 113) (mL 113) (rt 113) ∈ AW_ := awT4 91 rfl rfl
theorem mk113 : MK 113 := ⟨in5, by decide +kernel, ⟨by decide +kernel, by decide +kernel⟩, by decide +kernel, by decide, Or.inl ⟨rfl, co113⟩⟩
theorem ss113 : Cond.static (yn 113) ∈ AW_ := awT4 90 rfl rfl
theorem co114 : Cond.code (yn 114) (cc 114) (mL 114) (rt 114) ∈ AW_ := awT4 95 rfl rfl
theorem mk114 : MK 114 := ⟨in5, by decide +kernel, ⟨by decide +kernel, by decide +kernel⟩, by decide +kernel, by decide, Or.inl ⟨rfl, co114⟩⟩
theorem im114 : Cond.instanceMethod (yn 114) ∈ AW_ := awT4 94 rfl rfl
theorem se114 : Cond.selects (RN (mo 114)) (yn 114) (yn 114) ∈ AW_ := awP 34 rfl rfl
theorem co115 : Cond.code (yn 115) (cc 115) (mL 115) (rt 115) ∈ AW_ := awT4 99 rfl rfl
theorem mk115 : MK 115 := ⟨in5, by decide +kernel, ⟨by decide +kernel, by decide +kernel⟩, by decide +kernel, by decide, Or.inl ⟨rfl, co115⟩⟩
theorem im115 : Cond.instanceMethod (yn 115) ∈ AW_ := awT4 98 rfl rfl
theorem se115 : Cond.selects (RN (mo 115)) (yn 115) (yn 115) ∈ AW_ := awP 35 rfl rfl
theorem co116 : Cond.code (yn 116) (cc 116) (mL 116) (rt 116) ∈ AW_ := awT4 103 rfl rfl
theorem mk116 : MK 116 := ⟨in5, by decide +kernel, ⟨by decide +kernel, by decide +kernel⟩, by decide +kernel, by decide, Or.inl ⟨rfl, co116⟩⟩
theorem im116 : Cond.instanceMethod (yn 116) ∈ AW_ := awT4 102 rfl rfl
theorem se116 : Cond.selects (RN (mo 116)) (yn 116) (yn 116) ∈ AW_ := awP 36 rfl rfl
theorem co117 : Cond.code (yn 117) (cc 117) (mL 117) (rt 117) ∈ AW_ := awT4 107 rfl rfl
theorem mk117 : MK 117 := ⟨in5, by decide +kernel, ⟨by decide +kernel, by decide +kernel⟩, by decide +kernel, by decide, Or.inl ⟨rfl, co117⟩⟩
theorem im117 : Cond.instanceMethod (yn 117) ∈ AW_ := awT4 106 rfl rfl
theorem se117 : Cond.selects (RN (mo 117)) (yn 117) (yn 117) ∈ AW_ := awP 37 rfl rfl
theorem co118 : Cond.code (yn 118) (cc 118) (mL 118) (rt 118) ∈ AW_ := awT4 111 rfl rfl
theorem mk118 : MK 118 := ⟨in5, by decide +kernel, ⟨by decide +kernel, by decide +kernel⟩, by decide +kernel, by decide, Or.inl ⟨rfl, co118⟩⟩
theorem im118 : Cond.instanceMethod (yn 118) ∈ AW_ := awT4 110 rfl rfl
theorem se118 : Cond.selects (RN (mo 118)) (yn 118) (yn 118) ∈ AW_ := awP 38 rfl rfl
theorem co119 : Cond.code (yn 119) (cc 119) (mL 119) (rt 119) ∈ AW_ := awT4 115 rfl rfl
theorem mk119 : MK 119 := ⟨in5, by decide +kernel, ⟨by decide +kernel, by decide +kernel⟩, by decide +kernel, by decide, Or.inl ⟨rfl, co119⟩⟩
theorem im119 : Cond.instanceMethod (yn 119) ∈ AW_ := awT4 113 rfl rfl
theorem se119 : Cond.selects (RN (mo 119)) (yn 119) (yn 119) ∈ AW_ := awT4 114 rfl rfl
theorem co120 : Cond.code (yn 120) (cc 120) (mL 120) (rt 120) ∈ AW_ := awT4 119 rfl rfl
theorem mk120 : MK 120 := ⟨in5, by decide +kernel, ⟨by decide +kernel, by decide +kernel⟩, by decide +kernel, by decide, Or.inl ⟨rfl, co120⟩⟩
theorem im120 : Cond.instanceMethod (yn 120) ∈ AW_ := awT4 117 rfl rfl
theorem se120 : Cond.selects (RN (mo 120)) (yn 120) (yn 120) ∈ AW_ := awT4 118 rfl rfl
theorem co121 : Cond.code (yn 121) (cc 121) (mL 121) (rt 121) ∈ AW_ := awT4 123 rfl rfl
theorem mk121 : MK 121 := ⟨in5, by decide +kernel, ⟨by decide +kernel, by decide +kernel⟩, by decide +kernel, by decide, Or.inl ⟨rfl, co121⟩⟩
theorem im121 : Cond.instanceMethod (yn 121) ∈ AW_ := awT4 122 rfl rfl
theorem se121 : Cond.selects (RN (mo 121)) (yn 121) (yn 121) ∈ AW_ := awP 39 rfl rfl
theorem co122 : Cond.code (yn 122) (cc 122) (mL 122) (rt 122) ∈ AW_ := awT4 127 rfl rfl
theorem mk122 : MK 122 := ⟨in5, by decide +kernel, ⟨by decide +kernel, by decide +kernel⟩, by decide +kernel, by decide, Or.inl ⟨rfl, co122⟩⟩
theorem im122 : Cond.instanceMethod (yn 122) ∈ AW_ := awT4 125 rfl rfl
theorem se122 : Cond.selects (RN (mo 122)) (yn 122) (yn 122) ∈ AW_ := awT4 126 rfl rfl
theorem co123 : Cond.code (yn 123) (cc 123) (mL 123) (rt 123) ∈ AW_ := awT4 131 rfl rfl
theorem mk123 : MK 123 := ⟨in5, by decide +kernel, ⟨by decide +kernel, by decide +kernel⟩, by decide +kernel, by decide, Or.inl ⟨rfl, co123⟩⟩
theorem im123 : Cond.instanceMethod (yn 123) ∈ AW_ := awT4 129 rfl rfl
theorem se123 : Cond.selects (RN (mo 123)) (yn 123) (yn 123) ∈ AW_ := awT4 130 rfl rfl
theorem co124 : Cond.code (yn 124) (cc 124) (mL 124) (rt 124) ∈ AW_ := awT4 135 rfl rfl
theorem mk124 : MK 124 := ⟨in5, by decide +kernel, ⟨by decide +kernel, by decide +kernel⟩, by decide +kernel, by decide, Or.inl ⟨rfl, co124⟩⟩
theorem im124 : Cond.instanceMethod (yn 124) ∈ AW_ := awT4 133 rfl rfl
theorem se124 : Cond.selects (RN (mo 124)) (yn 124) (yn 124) ∈ AW_ := awT4 134 rfl rfl
theorem co125 : Cond.code (yn 125) (cc 125) (mL 125) (rt 125) ∈ AW_ := awT4 139 rfl rfl
theorem mk125 : MK 125 := ⟨in5, by decide +kernel, ⟨by decide +kernel, by decide +kernel⟩, by decide +kernel, by decide, Or.inl ⟨rfl, co125⟩⟩
theorem im125 : Cond.instanceMethod (yn 125) ∈ AW_ := awT4 138 rfl rfl
theorem se125 : Cond.selects (RN (mo 125)) (yn 125) (yn 125) ∈ AW_ := awP 40 rfl rfl
theorem co126 : Cond.code (yn 126) (cc 126) (mL 126) (rt 126) ∈ AW_ := awT4 143 rfl rfl
theorem mk126 : MK 126 := ⟨in5, by decide +kernel, ⟨by decide +kernel, by decide +kernel⟩, by decide +kernel, by decide, Or.inl ⟨rfl, co126⟩⟩
theorem im126 : Cond.instanceMethod (yn 126) ∈ AW_ := awT4 141 rfl rfl
theorem se126 : Cond.selects (RN (mo 126)) (yn 126) (yn 126) ∈ AW_ := awT4 142 rfl rfl
theorem co127 : Cond.code (yn 127) (cc 127) (mL 127) (rt 127) ∈ AW_ := awT4 147 rfl rfl
theorem mk127 : MK 127 := ⟨in5, by decide +kernel, ⟨by decide +kernel, by decide +kernel⟩, by decide +kernel, by decide, Or.inl ⟨rfl, co127⟩⟩
theorem im127 : Cond.instanceMethod (yn 127) ∈ AW_ := awT4 146 rfl rfl
theorem se127 : Cond.selects (RN (mo 127)) (yn 127) (yn 127) ∈ AW_ := awP 41 rfl rfl
theorem co128 : Cond.code (yn 128) (cc 128) (mL 128) (rt 128) ∈ AW_ := awT4 151 rfl rfl
theorem mk128 : MK 128 := ⟨in5, by decide +kernel, ⟨by decide +kernel, by decide +kernel⟩, by decide +kernel, by decide, Or.inl ⟨rfl, co128⟩⟩
theorem im128 : Cond.instanceMethod (yn 128) ∈ AW_ := awT4 149 rfl rfl
theorem se128 : Cond.selects (RN (mo 128)) (yn 128) (yn 128) ∈ AW_ := awT4 150 rfl rfl
theorem co129 : Cond.code (yn 129) (cc 129) (mL 129) (rt 129) ∈ AW_ := awT4 155 rfl rfl
theorem mk129 : MK 129 := ⟨in5, by decide +kernel, ⟨by decide +kernel, by decide +kernel⟩, by decide +kernel, by decide, Or.inl ⟨rfl, co129⟩⟩
theorem im129 : Cond.instanceMethod (yn 129) ∈ AW_ := awT4 153 rfl rfl
theorem se129 : Cond.selects (RN (mo 129)) (yn 129) (yn 129) ∈ AW_ := awT4 154 rfl rfl
theorem co130 : Cond.code (yn 130) (cc 130) (mL 130) (rt 130) ∈ AW_ := awT4 159 rfl rfl
theorem mk130 : MK 130 := ⟨in5, by decide +kernel, ⟨by decide +kernel, by decide +kernel⟩, by decide +kernel, by decide, Or.inl ⟨rfl, co130⟩⟩
theorem im130 : Cond.instanceMethod (yn 130) ∈ AW_ := awT4 157 rfl rfl
theorem se130 : Cond.selects (RN (mo 130)) (yn 130) (yn 130) ∈ AW_ := awT4 158 rfl rfl
theorem co131 : Cond.code (yn 131) (cc 131) (mL 131) (rt 131) ∈ AW_ := awT4 163 rfl rfl
theorem mk131 : MK 131 := ⟨in5, by decide +kernel, ⟨by decide +kernel, by decide +kernel⟩, by decide +kernel, by decide, Or.inl ⟨rfl, co131⟩⟩
theorem im131 : Cond.instanceMethod (yn 131) ∈ AW_ := awT4 161 rfl rfl
theorem se131 : Cond.selects (RN (mo 131)) (yn 131) (yn 131) ∈ AW_ := awT4 162 rfl rfl
theorem co132 : Cond.code (yn 132) (cc 132) (mL 132) (rt 132) ∈ AW_ := awT4 167 rfl rfl
theorem mk132 : MK 132 := ⟨in5, by decide +kernel, ⟨by decide +kernel, by decide +kernel⟩, by decide +kernel, by decide, Or.inl ⟨rfl, co132⟩⟩
theorem im132 : Cond.instanceMethod (yn 132) ∈ AW_ := awT4 166 rfl rfl
theorem se132 : Cond.selects (RN (mo 132)) (yn 132) (yn 132) ∈ AW_ := awP 42 rfl rfl
theorem lk6_77 : Cond.methodLink (RN 6) 77 (yn 0) ∈ AW_ := awT1 18 rfl rfl
theorem lk4_1 : Cond.methodLink (RN 4) 1 (Lib.objectInit) ∈ AW_ := awT1 21 rfl rfl
theorem lk0_3 : Cond.methodLink (RN 0) 3 (Lib.objectInit) ∈ AW_ := awT1 31 rfl rfl
theorem lk1_3 : Cond.methodLink (RN 1) 3 (Lib.objectInit) ∈ AW_ := awT1 62 rfl rfl
theorem lk3_3 : Cond.methodLink (RN 3) 3 (Lib.objectInit) ∈ AW_ := awT1 85 rfl rfl
theorem lk2_3 : Cond.methodLink (RN 2) 3 (Lib.objectInit) ∈ AW_ := awT1 104 rfl rfl
theorem lk6_116 : Cond.methodLink (RN 6) 116 (yn 5) ∈ AW_ := awT1 190 rfl rfl
theorem lk4_140 : Cond.methodLink (RN 4) 140 (yn 6) ∈ AW_ := awT1 194 rfl rfl
theorem lk4_219 : Cond.methodLink (RN 4) 219 (yn 7) ∈ AW_ := awT1 198 rfl rfl
theorem lk4_232 : Cond.methodLink (RN 4) 232 (yn 8) ∈ AW_ := awT1 202 rfl rfl
theorem lk4_238 : Cond.methodLink (RN 4) 238 (yn 9) ∈ AW_ := awT1 205 rfl rfl
theorem lk4_246 : Cond.methodLink (RN 4) 246 (yn 10) ∈ AW_ := awT1 209 rfl rfl
theorem lk4_98 : Cond.methodLink (RN 4) 98 (yn 11) ∈ AW_ := awT1 213 rfl rfl
theorem lk4_180 : Cond.methodLink (RN 4) 180 (yn 12) ∈ AW_ := awT1 216 rfl rfl
theorem lk4_259 : Cond.methodLink (RN 4) 259 (yn 13) ∈ AW_ := awT1 220 rfl rfl
theorem lk4_222 : Cond.methodLink (RN 4) 222 (yn 14) ∈ AW_ := awT1 226 rfl rfl
theorem lk4_226 : Cond.methodLink (RN 4) 226 (arraycopyName) ∈ AW_ := awT1 230 rfl rfl
theorem lk4_242 : Cond.methodLink (RN 4) 242 (yn 15) ∈ AW_ := awT1 233 rfl rfl
theorem lk3_25 : Cond.methodLink (RN 3) 25 (yn 16) ∈ AW_ := awT1 237 rfl rfl
theorem lk3_58 : Cond.methodLink (RN 3) 58 (Lib.MathLoose.max_long.x) ∈ AW_ := awT2 1 rfl rfl
theorem lk3_35 : Cond.methodLink (RN 3) 35 (yn 17) ∈ AW_ := awT2 4 rfl rfl
theorem lk3_78 : Cond.methodLink (RN 3) 78 (yn 18) ∈ AW_ := awT2 8 rfl rfl
theorem lk3_82 : Cond.methodLink (RN 3) 82 (yn 19) ∈ AW_ := awT2 12 rfl rfl
theorem lk3_42 : Cond.methodLink (RN 3) 42 (yn 20) ∈ AW_ := awT2 16 rfl rfl
theorem lk3_70 : Cond.methodLink (RN 3) 70 (yn 21) ∈ AW_ := awT2 20 rfl rfl
theorem lk3_74 : Cond.methodLink (RN 3) 74 (Lib.Math.min.name) ∈ AW_ := awT2 23 rfl rfl
theorem lk6_81 : Cond.methodLink (RN 6) 81 (yn 22) ∈ AW_ := awT2 26 rfl rfl
theorem lk6_7 : Cond.methodLink (RN 6) 7 (yn 23) ∈ AW_ := awT2 31 rfl rfl
theorem lk4_50 : Cond.methodLink (RN 4) 50 (yn 24) ∈ AW_ := awT2 35 rfl rfl
theorem lk4_95 : Cond.methodLink (RN 4) 95 (yn 25) ∈ AW_ := awT2 39 rfl rfl
theorem lk4_200 : Cond.methodLink (RN 4) 200 (Bundle.initS (EX 0)) ∈ AW_ := awT2 84 rfl rfl
theorem lk4_54 : Cond.methodLink (RN 4) 54 (yn 26) ∈ AW_ := awT2 110 rfl rfl
theorem lk4_211 : Cond.methodLink (RN 4) 211 (Bundle.initS (EX 1)) ∈ AW_ := awT2 123 rfl rfl
theorem lk6_91 : Cond.methodLink (RN 6) 91 (yn 27) ∈ AW_ := awT2 129 rfl rfl
theorem lk6_17 : Cond.methodLink (RN 6) 17 (yn 28) ∈ AW_ := awT2 132 rfl rfl
theorem lk6_95 : Cond.methodLink (RN 6) 95 (yn 29) ∈ AW_ := awT2 137 rfl rfl
theorem lk6_21 : Cond.methodLink (RN 6) 21 (yn 30) ∈ AW_ := awT2 140 rfl rfl
theorem lk4_85 : Cond.methodLink (RN 4) 85 (yn 31) ∈ AW_ := awT2 144 rfl rfl
theorem lk6_99 : Cond.methodLink (RN 6) 99 (yn 32) ∈ AW_ := awT2 148 rfl rfl
theorem lk6_25 : Cond.methodLink (RN 6) 25 (yn 33) ∈ AW_ := awT2 152 rfl rfl
theorem lk4_102 : Cond.methodLink (RN 4) 102 (yn 34) ∈ AW_ := awT2 156 rfl rfl
theorem lk0_35 : Cond.methodLink (RN 0) 35 (yn 35) ∈ AW_ := awT2 160 rfl rfl
theorem lk0_31 : Cond.methodLink (RN 0) 31 (yn 36) ∈ AW_ := awT2 164 rfl rfl
theorem lk0_44 : Cond.methodLink (RN 0) 44 (yn 37) ∈ AW_ := awT2 168 rfl rfl
theorem lk0_50 : Cond.methodLink (RN 0) 50 (yn 11) ∈ AW_ := awT2 171 rfl rfl
theorem lk0_54 : Cond.methodLink (RN 0) 54 (Lib.Math.max.name) ∈ AW_ := awT2 172 rfl rfl
theorem lk0_38 : Cond.methodLink (RN 0) 38 (arraycopyName) ∈ AW_ := awT2 175 rfl rfl
theorem lk4_105 : Cond.methodLink (RN 4) 105 (yn 38) ∈ AW_ := awT2 176 rfl rfl
theorem lk4_113 : Cond.methodLink (RN 4) 113 (Bundle.initS (EX 2)) ∈ AW_ := awT2 190 rfl rfl
theorem lk4_116 : Cond.methodLink (RN 4) 116 (yn 39) ∈ AW_ := awT2 196 rfl rfl
theorem lk6_102 : Cond.methodLink (RN 6) 102 (yn 40) ∈ AW_ := awT2 200 rfl rfl
theorem lk6_30 : Cond.methodLink (RN 6) 30 (yn 41) ∈ AW_ := awT2 203 rfl rfl
theorem lk6_106 : Cond.methodLink (RN 6) 106 (yn 42) ∈ AW_ := awT2 207 rfl rfl
theorem lk6_34 : Cond.methodLink (RN 6) 34 (yn 43) ∈ AW_ := awT2 210 rfl rfl
theorem lk4_123 : Cond.methodLink (RN 4) 123 (yn 44) ∈ AW_ := awT2 214 rfl rfl
theorem lk4_143 : Cond.methodLink (RN 4) 143 (yn 45) ∈ AW_ := awT2 218 rfl rfl
theorem lk4_173 : Cond.methodLink (RN 4) 173 (yn 46) ∈ AW_ := awT2 222 rfl rfl
theorem lk4_212 : Cond.methodLink (RN 4) 212 (yn 47) ∈ AW_ := awT2 225 rfl rfl
theorem lk4_177 : Cond.methodLink (RN 4) 177 (yn 48) ∈ AW_ := awT2 230 rfl rfl
theorem lk1_25 : Cond.methodLink (RN 1) 25 (yn 47) ∈ AW_ := awT2 234 rfl rfl
theorem lk6_110 : Cond.methodLink (RN 6) 110 (yn 49) ∈ AW_ := awT2 235 rfl rfl
theorem lk6_38 : Cond.methodLink (RN 6) 38 (yn 50) ∈ AW_ := awT2 238 rfl rfl
theorem lk4_127 : Cond.methodLink (RN 4) 127 (yn 51) ∈ AW_ := awT3 2 rfl rfl
theorem lk4_134 : Cond.methodLink (RN 4) 134 (yn 52) ∈ AW_ := awT3 6 rfl rfl
theorem lk6_113 : Cond.methodLink (RN 6) 113 (yn 53) ∈ AW_ := awT3 10 rfl rfl
theorem lk6_41 : Cond.methodLink (RN 6) 41 (yn 54) ∈ AW_ := awT3 13 rfl rfl
theorem lk6_120 : Cond.methodLink (RN 6) 120 (yn 55) ∈ AW_ := awT3 17 rfl rfl
theorem lk6_44 : Cond.methodLink (RN 6) 44 (yn 56) ∈ AW_ := awT3 20 rfl rfl
theorem lk6_124 : Cond.methodLink (RN 6) 124 (yn 57) ∈ AW_ := awT3 24 rfl rfl
theorem lk6_48 : Cond.methodLink (RN 6) 48 (yn 58) ∈ AW_ := awT3 27 rfl rfl
theorem lk4_146 : Cond.methodLink (RN 4) 146 (yn 59) ∈ AW_ := awT3 31 rfl rfl
theorem lk4_192 : Cond.methodLink (RN 4) 192 (yn 60) ∈ AW_ := awT3 35 rfl rfl
theorem lk6_127 : Cond.methodLink (RN 6) 127 (yn 61) ∈ AW_ := awT3 40 rfl rfl
theorem lk6_52 : Cond.methodLink (RN 6) 52 (yn 62) ∈ AW_ := awT3 43 rfl rfl
theorem lk6_130 : Cond.methodLink (RN 6) 130 (yn 63) ∈ AW_ := awT3 47 rfl rfl
theorem lk6_55 : Cond.methodLink (RN 6) 55 (yn 64) ∈ AW_ := awT3 50 rfl rfl
theorem lk6_133 : Cond.methodLink (RN 6) 133 (yn 65) ∈ AW_ := awT3 54 rfl rfl
theorem lk6_58 : Cond.methodLink (RN 6) 58 (yn 66) ∈ AW_ := awT3 57 rfl rfl
theorem lk4_158 : Cond.methodLink (RN 4) 158 (yn 67) ∈ AW_ := awT3 61 rfl rfl
theorem lk4_266 : Cond.methodLink (RN 4) 266 (yn 68) ∈ AW_ := awT3 65 rfl rfl
theorem lk4_269 : Cond.methodLink (RN 4) 269 (yn 69) ∈ AW_ := awT3 69 rfl rfl
theorem lk4_272 : Cond.methodLink (RN 4) 272 (yn 70) ∈ AW_ := awT3 73 rfl rfl
theorem lk4_165 : Cond.methodLink (RN 4) 165 (yn 71) ∈ AW_ := awT3 76 rfl rfl
theorem lk4_279 : Cond.methodLink (RN 4) 279 (Lib.MathLoose.max_long.x) ∈ AW_ := awT3 80 rfl rfl
theorem lk4_285 : Cond.methodLink (RN 4) 285 (Lib.MathLoose.min_long.x) ∈ AW_ := awT3 81 rfl rfl
theorem lk4_162 : Cond.methodLink (RN 4) 162 (yn 72) ∈ AW_ := awT3 84 rfl rfl
theorem lk6_136 : Cond.methodLink (RN 6) 136 (yn 73) ∈ AW_ := awT3 88 rfl rfl
theorem lk6_62 : Cond.methodLink (RN 6) 62 (yn 74) ∈ AW_ := awT3 91 rfl rfl
theorem lk4_169 : Cond.methodLink (RN 4) 169 (yn 75) ∈ AW_ := awT3 95 rfl rfl
theorem lk6_139 : Cond.methodLink (RN 6) 139 (yn 76) ∈ AW_ := awT3 99 rfl rfl
theorem lk6_65 : Cond.methodLink (RN 6) 65 (yn 77) ∈ AW_ := awT3 102 rfl rfl
theorem lk6_142 : Cond.methodLink (RN 6) 142 (yn 78) ∈ AW_ := awT3 106 rfl rfl
theorem lk6_68 : Cond.methodLink (RN 6) 68 (yn 79) ∈ AW_ := awT3 109 rfl rfl
theorem lk6_145 : Cond.methodLink (RN 6) 145 (yn 80) ∈ AW_ := awT3 113 rfl rfl
theorem lk6_71 : Cond.methodLink (RN 6) 71 (yn 81) ∈ AW_ := awT3 116 rfl rfl
theorem lk6_148 : Cond.methodLink (RN 6) 148 (yn 82) ∈ AW_ := awT3 120 rfl rfl
theorem lk6_74 : Cond.methodLink (RN 6) 74 (yn 83) ∈ AW_ := awT3 123 rfl rfl
theorem lk4_188 : Cond.methodLink (RN 4) 188 (yn 84) ∈ AW_ := awT3 127 rfl rfl
theorem lk4_288 : Cond.methodLink (RN 4) 288 (yn 85) ∈ AW_ := awT3 131 rfl rfl
theorem lk6_80 : Cond.methodLink (RN 6) 80 (yn 86) ∈ AW_ := awT3 137 rfl rfl
theorem lk5_1 : Cond.methodLink (RN 5) 1 (Lib.objectInit) ∈ AW_ := awT3 140 rfl rfl
theorem lk6_87 : Cond.methodLink (RN 6) 87 (yn 87) ∈ AW_ := awT3 224 rfl rfl
theorem lk6_86 : Cond.methodLink (RN 6) 86 (yn 88) ∈ AW_ := awT3 228 rfl rfl
theorem lk5_89 : Cond.methodLink (RN 5) 89 (yn 89) ∈ AW_ := awT3 232 rfl rfl
theorem lk5_93 : Cond.methodLink (RN 5) 93 (yn 90) ∈ AW_ := awT3 235 rfl rfl
theorem lk5_97 : Cond.methodLink (RN 5) 97 (yn 91) ∈ AW_ := awT3 238 rfl rfl
theorem lk5_100 : Cond.methodLink (RN 5) 100 (yn 92) ∈ AW_ := awT4 2 rfl rfl
theorem lk6_94 : Cond.methodLink (RN 6) 94 (yn 93) ∈ AW_ := awT4 6 rfl rfl
theorem lk6_98 : Cond.methodLink (RN 6) 98 (yn 94) ∈ AW_ := awT4 11 rfl rfl
theorem lk6_101 : Cond.methodLink (RN 6) 101 (yn 95) ∈ AW_ := awT4 15 rfl rfl
theorem lk5_112 : Cond.methodLink (RN 5) 112 (yn 96) ∈ AW_ := awT4 19 rfl rfl
theorem lk5_116 : Cond.methodLink (RN 5) 116 (yn 97) ∈ AW_ := awT4 23 rfl rfl
theorem lk5_105 : Cond.methodLink (RN 5) 105 (yn 98) ∈ AW_ := awT4 27 rfl rfl
theorem lk6_105 : Cond.methodLink (RN 6) 105 (yn 99) ∈ AW_ := awT4 31 rfl rfl
theorem lk6_109 : Cond.methodLink (RN 6) 109 (yn 100) ∈ AW_ := awT4 35 rfl rfl
theorem lk5_124 : Cond.methodLink (RN 5) 124 (yn 101) ∈ AW_ := awT4 39 rfl rfl
theorem lk5_120 : Cond.methodLink (RN 5) 120 (yn 102) ∈ AW_ := awT4 43 rfl rfl
theorem lk6_115 : Cond.methodLink (RN 6) 115 (yn 103) ∈ AW_ := awT4 47 rfl rfl
theorem lk6_112 : Cond.methodLink (RN 6) 112 (yn 104) ∈ AW_ := awT4 51 rfl rfl
theorem lk6_119 : Cond.methodLink (RN 6) 119 (yn 105) ∈ AW_ := awT4 55 rfl rfl
theorem lk5_176 : Cond.methodLink (RN 5) 176 (yn 106) ∈ AW_ := awT4 59 rfl rfl
theorem lk5_170 : Cond.methodLink (RN 5) 170 (yn 107) ∈ AW_ := awT4 63 rfl rfl
theorem lk5_127 : Cond.methodLink (RN 5) 127 (yn 108) ∈ AW_ := awT4 67 rfl rfl
theorem lk5_139 : Cond.methodLink (RN 5) 139 (yn 109) ∈ AW_ := awT4 71 rfl rfl
theorem lk5_173 : Cond.methodLink (RN 5) 173 (yn 110) ∈ AW_ := awT4 77 rfl rfl
theorem lk5_157 : Cond.methodLink (RN 5) 157 (yn 111) ∈ AW_ := awT4 81 rfl rfl
theorem lk5_143 : Cond.methodLink (RN 5) 143 (yn 112) ∈ AW_ := awT4 85 rfl rfl
theorem lk5_131 : Cond.methodLink (RN 5) 131 (yn 113) ∈ AW_ := awT4 89 rfl rfl
theorem lk5_160 : Cond.methodLink (RN 5) 160 (yn 114) ∈ AW_ := awT4 92 rfl rfl
theorem lk5_153 : Cond.methodLink (RN 5) 153 (yn 115) ∈ AW_ := awT4 96 rfl rfl
theorem lk5_150 : Cond.methodLink (RN 5) 150 (yn 116) ∈ AW_ := awT4 100 rfl rfl
theorem lk5_146 : Cond.methodLink (RN 5) 146 (yn 117) ∈ AW_ := awT4 104 rfl rfl
theorem lk5_163 : Cond.methodLink (RN 5) 163 (yn 118) ∈ AW_ := awT4 108 rfl rfl
theorem lk6_123 : Cond.methodLink (RN 6) 123 (yn 119) ∈ AW_ := awT4 112 rfl rfl
theorem lk6_126 : Cond.methodLink (RN 6) 126 (yn 120) ∈ AW_ := awT4 116 rfl rfl
theorem lk5_179 : Cond.methodLink (RN 5) 179 (yn 121) ∈ AW_ := awT4 120 rfl rfl
theorem lk6_129 : Cond.methodLink (RN 6) 129 (yn 122) ∈ AW_ := awT4 124 rfl rfl
theorem lk6_132 : Cond.methodLink (RN 6) 132 (yn 123) ∈ AW_ := awT4 128 rfl rfl
theorem lk6_135 : Cond.methodLink (RN 6) 135 (yn 124) ∈ AW_ := awT4 132 rfl rfl
theorem lk5_183 : Cond.methodLink (RN 5) 183 (yn 125) ∈ AW_ := awT4 136 rfl rfl
theorem lk6_138 : Cond.methodLink (RN 6) 138 (yn 126) ∈ AW_ := awT4 140 rfl rfl
theorem lk5_186 : Cond.methodLink (RN 5) 186 (yn 127) ∈ AW_ := awT4 144 rfl rfl
theorem lk6_141 : Cond.methodLink (RN 6) 141 (yn 128) ∈ AW_ := awT4 148 rfl rfl
theorem lk6_144 : Cond.methodLink (RN 6) 144 (yn 129) ∈ AW_ := awT4 152 rfl rfl
theorem lk6_147 : Cond.methodLink (RN 6) 147 (yn 130) ∈ AW_ := awT4 156 rfl rfl
theorem lk6_150 : Cond.methodLink (RN 6) 150 (yn 131) ∈ AW_ := awT4 160 rfl rfl
theorem lk5_189 : Cond.methodLink (RN 5) 189 (yn 132) ∈ AW_ := awT4 164 rfl rfl
theorem w_static_LibMathLoosemax_longx : Cond.static (Lib.MathLoose.max_long.x) ∈ AW_ := awT2 2 rfl rfl
theorem w_code_LibMathLoosemax_longx : Cond.code (Lib.MathLoose.max_long.x) Lib.MathLoose.max_long.code 4 (some .long) ∈ AW_ := awT2 3 rfl rfl
theorem w_static_LibMathLoosemin_longx : Cond.static (Lib.MathLoose.min_long.x) ∈ AW_ := awT3 82 rfl rfl
theorem w_code_LibMathLoosemin_longx : Cond.code (Lib.MathLoose.min_long.x) Lib.MathLoose.min_long.code 4 (some .long) ∈ AW_ := awT3 83 rfl rfl
theorem w_static_LibMathmaxname : Cond.static (Lib.Math.max.name) ∈ AW_ := awT2 173 rfl rfl
theorem w_code_LibMathmaxname : Cond.code (Lib.Math.max.name) Lib.Math.max.code 2 (some .int) ∈ AW_ := awT2 174 rfl rfl
theorem w_static_LibMathminname : Cond.static (Lib.Math.min.name) ∈ AW_ := awT2 24 rfl rfl
theorem w_code_LibMathminname : Cond.code (Lib.Math.min.name) Lib.Math.min.code 2 (some .int) ∈ AW_ := awT2 25 rfl rfl
theorem w_instanceMethod_LibobjectInit : Cond.instanceMethod (Lib.objectInit) ∈ AW_ := awT1 22 rfl rfl
theorem w_code_LibobjectInit : Cond.code (Lib.objectInit) ⟨#[0xb1]⟩ 1 none ∈ AW_ := awT1 23 rfl rfl
theorem w_static_arraycopyName : Cond.static (arraycopyName) ∈ AW_ := awT1 231 rfl rfl
theorem w_native_arraycopyName : Cond.native (arraycopyName) ∈ AW_ := awT1 232 rfl rfl
theorem gf0_9 : GF 0 9 0 0 := fun C T N h => by cases h; exact ⟨by decide, awT1 32 rfl rfl, rfl, rfl⟩
theorem gf4_250 : GF 4 250 0 0 := fun C T N h => by cases h; exact ⟨by decide, awT1 33 rfl rfl, rfl, rfl⟩
theorem gf0_15 : GF 0 15 0 1 := fun C T N h => by cases h; exact ⟨by decide, awT1 34 rfl rfl, rfl, rfl⟩
theorem gf4_253 : GF 4 253 0 1 := fun C T N h => by cases h; exact ⟨by decide, awT1 35 rfl rfl, rfl, rfl⟩
theorem gf0_18 : GF 0 18 0 2 := fun C T N h => by cases h; exact ⟨by decide, awT1 36 rfl rfl, rfl, rfl⟩
theorem gf4_256 : GF 4 256 0 2 := fun C T N h => by cases h; exact ⟨by decide, awT1 37 rfl rfl, rfl, rfl⟩
theorem gf0_21 : GF 0 21 0 3 := fun C T N h => by cases h; exact ⟨by decide, awT1 38 rfl rfl, rfl, rfl⟩
theorem gf4_137 : GF 4 137 0 3 := fun C T N h => by cases h; exact ⟨by decide, awT1 39 rfl rfl, rfl, rfl⟩
theorem gf0_24 : GF 0 24 0 4 := fun C T N h => by cases h; exact ⟨by decide, awT1 40 rfl rfl, rfl, rfl⟩
theorem gf0_27 : GF 0 27 0 5 := fun C T N h => by cases h; exact ⟨by decide, awT1 41 rfl rfl, rfl, rfl⟩
theorem gf4_184 : GF 4 184 0 5 := fun C T N h => by cases h; exact ⟨by decide, awT1 42 rfl rfl, rfl, rfl⟩
theorem gf1_9 : GF 1 9 1 0 := fun C T N h => by cases h; exact ⟨by decide, awT1 63 rfl rfl, rfl, rfl⟩
theorem gf4_131 : GF 4 131 1 0 := fun C T N h => by cases h; exact ⟨by decide, awT1 64 rfl rfl, rfl, rfl⟩
theorem gf1_15 : GF 1 15 1 1 := fun C T N h => by cases h; exact ⟨by decide, awT1 65 rfl rfl, rfl, rfl⟩
theorem gf4_263 : GF 4 263 1 1 := fun C T N h => by cases h; exact ⟨by decide, awT1 66 rfl rfl, rfl, rfl⟩
theorem gf1_18 : GF 1 18 1 2 := fun C T N h => by cases h; exact ⟨by decide, awT1 67 rfl rfl, rfl, rfl⟩
theorem gf4_276 : GF 4 276 1 2 := fun C T N h => by cases h; exact ⟨by decide, awT1 68 rfl rfl, rfl, rfl⟩
theorem gf1_21 : GF 1 21 1 3 := fun C T N h => by cases h; exact ⟨by decide, awT1 69 rfl rfl, rfl, rfl⟩
theorem gf4_187 : GF 4 187 1 3 := fun C T N h => by cases h; exact ⟨by decide, awT1 70 rfl rfl, rfl, rfl⟩
theorem gf3_9 : GF 3 9 3 0 := fun C T N h => by cases h; exact ⟨by decide, awT1 86 rfl rfl, rfl, rfl⟩
theorem gf3_15 : GF 3 15 3 1 := fun C T N h => by cases h; exact ⟨by decide, awT1 87 rfl rfl, rfl, rfl⟩
theorem gf3_18 : GF 3 18 3 2 := fun C T N h => by cases h; exact ⟨by decide, awT1 88 rfl rfl, rfl, rfl⟩
theorem gf3_21 : GF 3 21 3 3 := fun C T N h => by cases h; exact ⟨by decide, awT1 89 rfl rfl, rfl, rfl⟩
theorem gf3_29 : GF 3 29 2 0 := fun C T N h => by cases h; exact ⟨by decide, awT1 105 rfl rfl, rfl, rfl⟩
theorem gf4_58 : GF 4 58 2 0 := fun C T N h => by cases h; exact ⟨by decide, awT1 106 rfl rfl, rfl, rfl⟩
theorem gf2_9 : GF 2 9 2 1 := fun C T N h => by cases h; exact ⟨by decide, awT1 107 rfl rfl, rfl, rfl⟩
theorem gf4_62 : GF 4 62 2 1 := fun C T N h => by cases h; exact ⟨by decide, awT1 108 rfl rfl, rfl, rfl⟩
theorem gf3_67 : GF 3 67 2 1 := fun C T N h => by cases h; exact ⟨by decide, awT1 109 rfl rfl, rfl, rfl⟩
theorem gf2_29 : GF 2 29 2 2 := fun C T N h => by cases h; exact ⟨by decide, awT1 110 rfl rfl, rfl, rfl⟩
theorem gf4_65 : GF 4 65 2 2 := fun C T N h => by cases h; exact ⟨by decide, awT1 111 rfl rfl, rfl, rfl⟩
theorem gf3_64 : GF 3 64 2 2 := fun C T N h => by cases h; exact ⟨by decide, awT1 112 rfl rfl, rfl, rfl⟩
theorem gf4_68 : GF 4 68 2 3 := fun C T N h => by cases h; exact ⟨by decide, awT1 113 rfl rfl, rfl, rfl⟩
theorem gf3_55 : GF 3 55 2 3 := fun C T N h => by cases h; exact ⟨by decide, awT1 114 rfl rfl, rfl, rfl⟩
theorem gf2_32 : GF 2 32 2 4 := fun C T N h => by cases h; exact ⟨by decide, awT1 115 rfl rfl, rfl, rfl⟩
theorem gf4_76 : GF 4 76 2 4 := fun C T N h => by cases h; exact ⟨by decide, awT1 116 rfl rfl, rfl, rfl⟩
theorem gf4_79 : GF 4 79 2 5 := fun C T N h => by cases h; exact ⟨by decide, awT1 117 rfl rfl, rfl, rfl⟩
theorem gf3_86 : GF 3 86 2 5 := fun C T N h => by cases h; exact ⟨by decide, awT1 118 rfl rfl, rfl, rfl⟩
theorem gf4_82 : GF 4 82 2 6 := fun C T N h => by cases h; exact ⟨by decide, awT1 119 rfl rfl, rfl, rfl⟩
theorem gf3_89 : GF 3 89 2 6 := fun C T N h => by cases h; exact ⟨by decide, awT1 120 rfl rfl, rfl, rfl⟩
theorem gf3_49 : GF 3 49 2 7 := fun C T N h => by cases h; exact ⟨by decide, awT1 121 rfl rfl, rfl, rfl⟩
theorem gf4_120 : GF 4 120 2 7 := fun C T N h => by cases h; exact ⟨by decide, awT1 122 rfl rfl, rfl, rfl⟩
theorem gf4_89 : GF 4 89 2 8 := fun C T N h => by cases h; exact ⟨by decide, awT1 123 rfl rfl, rfl, rfl⟩
theorem gf4_92 : GF 4 92 2 9 := fun C T N h => by cases h; exact ⟨by decide, awT1 124 rfl rfl, rfl, rfl⟩
theorem gf2_15 : GF 2 15 2 10 := fun C T N h => by cases h; exact ⟨by decide, awT1 125 rfl rfl, rfl, rfl⟩
theorem gf4_71 : GF 4 71 2 10 := fun C T N h => by cases h; exact ⟨by decide, awT1 126 rfl rfl, rfl, rfl⟩
theorem gf2_19 : GF 2 19 2 11 := fun C T N h => by cases h; exact ⟨by decide, awT1 127 rfl rfl, rfl, rfl⟩
theorem gf3_52 : GF 3 52 2 11 := fun C T N h => by cases h; exact ⟨by decide, awT1 128 rfl rfl, rfl, rfl⟩
theorem gf4_149 : GF 4 149 2 11 := fun C T N h => by cases h; exact ⟨by decide, awT1 129 rfl rfl, rfl, rfl⟩
theorem gf2_23 : GF 2 23 2 12 := fun C T N h => by cases h; exact ⟨by decide, awT1 130 rfl rfl, rfl, rfl⟩
theorem gf3_39 : GF 3 39 2 12 := fun C T N h => by cases h; exact ⟨by decide, awT1 131 rfl rfl, rfl, rfl⟩
theorem gf4_152 : GF 4 152 2 12 := fun C T N h => by cases h; exact ⟨by decide, awT1 132 rfl rfl, rfl, rfl⟩
theorem gf2_26 : GF 2 26 2 13 := fun C T N h => by cases h; exact ⟨by decide, awT1 133 rfl rfl, rfl, rfl⟩
theorem gf3_46 : GF 3 46 2 13 := fun C T N h => by cases h; exact ⟨by decide, awT1 134 rfl rfl, rfl, rfl⟩
theorem gf4_155 : GF 4 155 2 13 := fun C T N h => by cases h; exact ⟨by decide, awT1 135 rfl rfl, rfl, rfl⟩
theorem gf4_11 : GF 4 11 4 0 := fun C T N h => by cases h; exact ⟨by decide, awT1 165 rfl rfl, rfl, rfl⟩
theorem gf4_18 : GF 4 18 4 1 := fun C T N h => by cases h; exact ⟨by decide, awT1 166 rfl rfl, rfl, rfl⟩
theorem gf4_25 : GF 4 25 4 2 := fun C T N h => by cases h; exact ⟨by decide, awT1 167 rfl rfl, rfl, rfl⟩
theorem gf4_29 : GF 4 29 4 3 := fun C T N h => by cases h; exact ⟨by decide, awT1 168 rfl rfl, rfl, rfl⟩
theorem gf4_32 : GF 4 32 4 4 := fun C T N h => by cases h; exact ⟨by decide, awT1 169 rfl rfl, rfl, rfl⟩
theorem gf4_38 : GF 4 38 4 5 := fun C T N h => by cases h; exact ⟨by decide, awT1 170 rfl rfl, rfl, rfl⟩
theorem gf4_42 : GF 4 42 4 6 := fun C T N h => by cases h; exact ⟨by decide, awT1 171 rfl rfl, rfl, rfl⟩
theorem gf4_46 : GF 4 46 4 7 := fun C T N h => by cases h; exact ⟨by decide, awT1 172 rfl rfl, rfl, rfl⟩
theorem gf5_85 : GF 5 85 5 0 := fun C T N h => by cases h; exact ⟨by decide, awT3 141 rfl rfl, rfl, rfl⟩
theorem gf5_7 : GF 5 7 5 1 := fun C T N h => by cases h; exact ⟨by decide, awT3 142 rfl rfl, rfl, rfl⟩
theorem gf5_13 : GF 5 13 5 2 := fun C T N h => by cases h; exact ⟨by decide, awT3 143 rfl rfl, rfl, rfl⟩
theorem gf5_16 : GF 5 16 5 3 := fun C T N h => by cases h; exact ⟨by decide, awT3 144 rfl rfl, rfl, rfl⟩
theorem gf5_19 : GF 5 19 5 4 := fun C T N h => by cases h; exact ⟨by decide, awT3 145 rfl rfl, rfl, rfl⟩
theorem gf5_22 : GF 5 22 5 5 := fun C T N h => by cases h; exact ⟨by decide, awT3 146 rfl rfl, rfl, rfl⟩
theorem gf5_25 : GF 5 25 5 6 := fun C T N h => by cases h; exact ⟨by decide, awT3 147 rfl rfl, rfl, rfl⟩
theorem gf5_28 : GF 5 28 5 7 := fun C T N h => by cases h; exact ⟨by decide, awT3 148 rfl rfl, rfl, rfl⟩
theorem gf5_31 : GF 5 31 5 8 := fun C T N h => by cases h; exact ⟨by decide, awT3 149 rfl rfl, rfl, rfl⟩
theorem gf5_34 : GF 5 34 5 9 := fun C T N h => by cases h; exact ⟨by decide, awT3 150 rfl rfl, rfl, rfl⟩
theorem gf5_37 : GF 5 37 5 10 := fun C T N h => by cases h; exact ⟨by decide, awT3 151 rfl rfl, rfl, rfl⟩
theorem gf5_40 : GF 5 40 5 11 := fun C T N h => by cases h; exact ⟨by decide, awT3 152 rfl rfl, rfl, rfl⟩
theorem gf5_43 : GF 5 43 5 12 := fun C T N h => by cases h; exact ⟨by decide, awT3 153 rfl rfl, rfl, rfl⟩
theorem gf5_46 : GF 5 46 5 13 := fun C T N h => by cases h; exact ⟨by decide, awT3 154 rfl rfl, rfl, rfl⟩
theorem gf5_109 : GF 5 109 5 14 := fun C T N h => by cases h; exact ⟨by decide, awT3 155 rfl rfl, rfl, rfl⟩
theorem gf5_49 : GF 5 49 5 15 := fun C T N h => by cases h; exact ⟨by decide, awT3 156 rfl rfl, rfl, rfl⟩
theorem gf5_52 : GF 5 52 5 16 := fun C T N h => by cases h; exact ⟨by decide, awT3 157 rfl rfl, rfl, rfl⟩
theorem gf5_55 : GF 5 55 5 17 := fun C T N h => by cases h; exact ⟨by decide, awT3 158 rfl rfl, rfl, rfl⟩
theorem gf5_58 : GF 5 58 5 18 := fun C T N h => by cases h; exact ⟨by decide, awT3 159 rfl rfl, rfl, rfl⟩
theorem gf5_167 : GF 5 167 5 19 := fun C T N h => by cases h; exact ⟨by decide, awT3 160 rfl rfl, rfl, rfl⟩
theorem gf5_61 : GF 5 61 5 20 := fun C T N h => by cases h; exact ⟨by decide, awT3 161 rfl rfl, rfl, rfl⟩
theorem gf5_65 : GF 5 65 5 21 := fun C T N h => by cases h; exact ⟨by decide, awT3 162 rfl rfl, rfl, rfl⟩
theorem gf5_69 : GF 5 69 5 22 := fun C T N h => by cases h; exact ⟨by decide, awT3 163 rfl rfl, rfl, rfl⟩
theorem gf5_73 : GF 5 73 5 23 := fun C T N h => by cases h; exact ⟨by decide, awT3 164 rfl rfl, rfl, rfl⟩
theorem gf5_76 : GF 5 76 5 24 := fun C T N h => by cases h; exact ⟨by decide, awT3 165 rfl rfl, rfl, rfl⟩
theorem gf5_79 : GF 5 79 5 25 := fun C T N h => by cases h; exact ⟨by decide, awT3 166 rfl rfl, rfl, rfl⟩
theorem gf5_82 : GF 5 82 5 26 := fun C T N h => by cases h; exact ⟨by decide, awT3 167 rfl rfl, rfl, rfl⟩
theorem cn2_35 : Cond.constantLong (RN 2) 35 (Int64.ofNat 999) ∈ AW_ := awT1 224 rfl rfl
theorem cn2_37 : Cond.constantLong (RN 2) 37 (Int64.ofNat 1000) ∈ AW_ := awT1 225 rfl rfl
theorem cn4_75 : Cond.constant (RN 4) 75 (nI 100000) ∈ AW_ := awT2 136 rfl rfl
theorem cn5_104 : Cond.constant (RN 5) 104 (nI 100000) ∈ AW_ := awT4 10 rfl rfl
theorem cn5_135 : Cond.constantLong (RN 5) 135 (Int64.ofNat 1000) ∈ AW_ := awT4 75 rfl rfl
theorem cn5_137 : Cond.constantLong (RN 5) 137 (Int64.ofNat 999) ∈ AW_ := awT4 76 rfl rfl
theorem cl6_8 : Cond.classLink (RN 6) 8 (RN 4) ∈ AW_ := awT1 16 rfl rfl
theorem it4 : Cond.instantiable (RN 4) (fn 4) ∈ AW_ := awT1 17 rfl rfl
theorem cl4_9 : Cond.classLink (RN 4) 9 (RN 2) ∈ AW_ := awT1 24 rfl rfl
theorem cl4_15 : Cond.classLink (RN 4) 15 (RN 0) ∈ AW_ := awT1 26 rfl rfl
theorem it0 : Cond.instantiable (RN 0) (fn 0) ∈ AW_ := awT1 27 rfl rfl
theorem ac_int : Cond.arrayClass .int ∈ AW_ := awT1 56 rfl rfl
theorem cl4_22 : Cond.classLink (RN 4) 22 (RN 1) ∈ AW_ := awT1 57 rfl rfl
theorem it1 : Cond.instantiable (RN 1) (fn 1) ∈ AW_ := awT1 58 rfl rfl
theorem cl4_35 : Cond.classLink (RN 4) 35 (RN 3) ∈ AW_ := awT1 80 rfl rfl
theorem it3 : Cond.instantiable (RN 3) (fn 3) ∈ AW_ := awT1 81 rfl rfl
theorem ac_long : Cond.arrayClass .long ∈ AW_ := awT1 99 rfl rfl
theorem it2 : Cond.instantiable (RN 2) (fn 2) ∈ AW_ := awT1 100 rfl rfl
theorem cl6_13 : Cond.classLink (RN 6) 13 (EX 0) ∈ AW_ := awT2 29 rfl rfl
theorem cl6_15 : Cond.classLink (RN 6) 15 (EX 1) ∈ AW_ := awT2 30 rfl rfl
theorem cl4_196 : Cond.classLink (RN 4) 196 (EX 0) ∈ AW_ := awT2 42 rfl rfl
theorem itE0 : Cond.instantiable (EX 0) 6 ∈ AW_ := awT2 43 rfl rfl
theorem ac_byte : Cond.arrayClass .byte ∈ AW_ := awT2 109 rfl rfl
theorem cl4_207 : Cond.classLink (RN 4) 207 (EX 1) ∈ AW_ := awT2 113 rfl rfl
theorem itE1 : Cond.instantiable (EX 1) 6 ∈ AW_ := awT2 114 rfl rfl
theorem cl6_28 : Cond.classLink (RN 6) 28 (EX 2) ∈ AW_ := awT2 151 rfl rfl
theorem cl4_109 : Cond.classLink (RN 4) 109 (EX 2) ∈ AW_ := awT2 180 rfl rfl
theorem itE2 : Cond.instantiable (EX 2) 6 ∈ AW_ := awT2 181 rfl rfl
theorem cl6_78 : Cond.classLink (RN 6) 78 (RN 5) ∈ AW_ := awT3 135 rfl rfl
theorem it5 : Cond.instantiable (RN 5) (fn 5) ∈ AW_ := awT3 136 rfl rfl
theorem ac_boolean : Cond.arrayClass .boolean ∈ AW_ := awT3 223 rfl rfl
end
section
theorem d0_0 : decode (cc 0) 0 = .ok (.aload_n 0, 1) := by decide +kernel
theorem d0_1 : decode (cc 0) 1 = .ok (.invokespecial 1, 3) := by decide +kernel
theorem d0_4 : decode (cc 0) 4 = .ok (.aload_n 0, 1) := by decide +kernel
theorem d0_5 : decode (cc 0) 5 = .ok (.bipush 12, 2) := by decide +kernel
theorem d0_7 : decode (cc 0) 7 = .ok (.anewarray 9, 3) := by decide +kernel
theorem d0_10 : decode (cc 0) 10 = .ok (.putfield 11, 3) := by decide +kernel
theorem d0_13 : decode (cc 0) 13 = .ok (.aload_n 0, 1) := by decide +kernel
theorem d0_14 : decode (cc 0) 14 = .ok (.new 15, 3) := by decide +kernel
theorem d0_17 : decode (cc 0) 17 = .ok (.dup, 1) := by decide +kernel
theorem d0_18 : decode (cc 0) 18 = .ok (.invokespecial 17, 3) := by decide +kernel
theorem d0_21 : decode (cc 0) 21 = .ok (.putfield 18, 3) := by decide +kernel
theorem d0_24 : decode (cc 0) 24 = .ok (.aload_n 0, 1) := by decide +kernel
theorem d0_25 : decode (cc 0) 25 = .ok (.new 22, 3) := by decide +kernel
theorem d0_28 : decode (cc 0) 28 = .ok (.dup, 1) := by decide +kernel
theorem d0_29 : decode (cc 0) 29 = .ok (.invokespecial 24, 3) := by decide +kernel
theorem d0_32 : decode (cc 0) 32 = .ok (.putfield 25, 3) := by decide +kernel
theorem d0_35 : decode (cc 0) 35 = .ok (.aload_n 0, 1) := by decide +kernel
theorem d0_36 : decode (cc 0) 36 = .ok (.new 22, 3) := by decide +kernel
theorem d0_39 : decode (cc 0) 39 = .ok (.dup, 1) := by decide +kernel
theorem d0_40 : decode (cc 0) 40 = .ok (.invokespecial 24, 3) := by decide +kernel
theorem d0_43 : decode (cc 0) 43 = .ok (.putfield 29, 3) := by decide +kernel
theorem d0_46 : decode (cc 0) 46 = .ok (.aload_n 0, 1) := by decide +kernel
theorem d0_47 : decode (cc 0) 47 = .ok (.new 22, 3) := by decide +kernel
theorem d0_50 : decode (cc 0) 50 = .ok (.dup, 1) := by decide +kernel
theorem d0_51 : decode (cc 0) 51 = .ok (.invokespecial 24, 3) := by decide +kernel
theorem d0_54 : decode (cc 0) 54 = .ok (.putfield 32, 3) := by decide +kernel
theorem d0_57 : decode (cc 0) 57 = .ok (.aload_n 0, 1) := by decide +kernel
theorem d0_58 : decode (cc 0) 58 = .ok (.new 35, 3) := by decide +kernel
theorem d0_61 : decode (cc 0) 61 = .ok (.dup, 1) := by decide +kernel
theorem d0_62 : decode (cc 0) 62 = .ok (.invokespecial 37, 3) := by decide +kernel
theorem d0_65 : decode (cc 0) 65 = .ok (.putfield 38, 3) := by decide +kernel
theorem d0_68 : decode (cc 0) 68 = .ok (.aload_n 0, 1) := by decide +kernel
theorem d0_69 : decode (cc 0) 69 = .ok (.bipush 12, 2) := by decide +kernel
theorem d0_71 : decode (cc 0) 71 = .ok (.newarray .long, 2) := by decide +kernel
theorem d0_73 : decode (cc 0) 73 = .ok (.putfield 42, 3) := by decide +kernel
theorem d0_76 : decode (cc 0) 76 = .ok (.aload_n 0, 1) := by decide +kernel
theorem d0_77 : decode (cc 0) 77 = .ok (.bipush 12, 2) := by decide +kernel
theorem d0_79 : decode (cc 0) 79 = .ok (.newarray .long, 2) := by decide +kernel
theorem d0_81 : decode (cc 0) 81 = .ok (.putfield 46, 3) := by decide +kernel
theorem d0_84 : decode (cc 0) 84 = .ok (.iconst 0, 1) := by decide +kernel
theorem d0_85 : decode (cc 0) 85 = .ok (.istore_n 1, 1) := by decide +kernel
theorem d0_86 : decode (cc 0) 86 = .ok (.iload_n 1, 1) := by decide +kernel
theorem d0_87 : decode (cc 0) 87 = .ok (.bipush 12, 2) := by decide +kernel
theorem d0_89 : decode (cc 0) 89 = .ok (.if_icmp .ge 22, 3) := by decide +kernel
theorem d0_92 : decode (cc 0) 92 = .ok (.aload_n 0, 1) := by decide +kernel
theorem d0_93 : decode (cc 0) 93 = .ok (.getfield 11, 3) := by decide +kernel
theorem d0_96 : decode (cc 0) 96 = .ok (.iload_n 1, 1) := by decide +kernel
theorem d0_97 : decode (cc 0) 97 = .ok (.new 9, 3) := by decide +kernel
theorem d0_100 : decode (cc 0) 100 = .ok (.dup, 1) := by decide +kernel
theorem d0_101 : decode (cc 0) 101 = .ok (.invokespecial 49, 3) := by decide +kernel
theorem d0_104 : decode (cc 0) 104 = .ok (.aastore, 1) := by decide +kernel
theorem d0_105 : decode (cc 0) 105 = .ok (.iinc 1 1, 3) := by decide +kernel
theorem d0_108 : decode (cc 0) 108 = .ok (.goto (-22), 3) := by decide +kernel
theorem d0_111 : decode (cc 0) 111 = .ok (.return_, 1) := by decide +kernel
theorem d1_0 : decode (cc 1) 0 = .ok (.aload_n 0, 1) := by decide +kernel
theorem d1_1 : decode (cc 1) 1 = .ok (.invokespecial 3, 3) := by decide +kernel
theorem d1_4 : decode (cc 1) 4 = .ok (.aload_n 0, 1) := by decide +kernel
theorem d1_5 : decode (cc 1) 5 = .ok (.sipush 144, 3) := by decide +kernel
theorem d1_8 : decode (cc 1) 8 = .ok (.newarray .int, 2) := by decide +kernel
theorem d1_10 : decode (cc 1) 10 = .ok (.putfield 9, 3) := by decide +kernel
theorem d1_13 : decode (cc 1) 13 = .ok (.aload_n 0, 1) := by decide +kernel
theorem d1_14 : decode (cc 1) 14 = .ok (.sipush 144, 3) := by decide +kernel
theorem d1_17 : decode (cc 1) 17 = .ok (.newarray .int, 2) := by decide +kernel
theorem d1_19 : decode (cc 1) 19 = .ok (.putfield 15, 3) := by decide +kernel
theorem d1_22 : decode (cc 1) 22 = .ok (.aload_n 0, 1) := by decide +kernel
theorem d1_23 : decode (cc 1) 23 = .ok (.sipush 144, 3) := by decide +kernel
theorem d1_26 : decode (cc 1) 26 = .ok (.newarray .int, 2) := by decide +kernel
theorem d1_28 : decode (cc 1) 28 = .ok (.putfield 18, 3) := by decide +kernel
theorem d1_31 : decode (cc 1) 31 = .ok (.aload_n 0, 1) := by decide +kernel
theorem d1_32 : decode (cc 1) 32 = .ok (.bipush 12, 2) := by decide +kernel
theorem d1_34 : decode (cc 1) 34 = .ok (.newarray .int, 2) := by decide +kernel
theorem d1_36 : decode (cc 1) 36 = .ok (.putfield 21, 3) := by decide +kernel
theorem d1_39 : decode (cc 1) 39 = .ok (.aload_n 0, 1) := by decide +kernel
theorem d1_40 : decode (cc 1) 40 = .ok (.bipush 12, 2) := by decide +kernel
theorem d1_42 : decode (cc 1) 42 = .ok (.newarray .int, 2) := by decide +kernel
theorem d1_44 : decode (cc 1) 44 = .ok (.putfield 24, 3) := by decide +kernel
theorem d1_47 : decode (cc 1) 47 = .ok (.return_, 1) := by decide +kernel
theorem d2_0 : decode (cc 2) 0 = .ok (.aload_n 0, 1) := by decide +kernel
theorem d2_1 : decode (cc 2) 1 = .ok (.invokespecial 3, 3) := by decide +kernel
theorem d2_4 : decode (cc 2) 4 = .ok (.aload_n 0, 1) := by decide +kernel
theorem d2_5 : decode (cc 2) 5 = .ok (.bipush 24, 2) := by decide +kernel
theorem d2_7 : decode (cc 2) 7 = .ok (.newarray .int, 2) := by decide +kernel
theorem d2_9 : decode (cc 2) 9 = .ok (.putfield 9, 3) := by decide +kernel
theorem d2_12 : decode (cc 2) 12 = .ok (.aload_n 0, 1) := by decide +kernel
theorem d2_13 : decode (cc 2) 13 = .ok (.bipush 24, 2) := by decide +kernel
theorem d2_15 : decode (cc 2) 15 = .ok (.newarray .int, 2) := by decide +kernel
theorem d2_17 : decode (cc 2) 17 = .ok (.putfield 15, 3) := by decide +kernel
theorem d2_20 : decode (cc 2) 20 = .ok (.aload_n 0, 1) := by decide +kernel
theorem d2_21 : decode (cc 2) 21 = .ok (.bipush 24, 2) := by decide +kernel
theorem d2_23 : decode (cc 2) 23 = .ok (.newarray .int, 2) := by decide +kernel
theorem d2_25 : decode (cc 2) 25 = .ok (.putfield 18, 3) := by decide +kernel
theorem d2_28 : decode (cc 2) 28 = .ok (.return_, 1) := by decide +kernel
theorem d3_0 : decode (cc 3) 0 = .ok (.aload_n 0, 1) := by decide +kernel
theorem d3_1 : decode (cc 3) 1 = .ok (.invokespecial 3, 3) := by decide +kernel
theorem d3_4 : decode (cc 3) 4 = .ok (.aload_n 0, 1) := by decide +kernel
theorem d3_5 : decode (cc 3) 5 = .ok (.bipush 12, 2) := by decide +kernel
theorem d3_7 : decode (cc 3) 7 = .ok (.newarray .long, 2) := by decide +kernel
theorem d3_9 : decode (cc 3) 9 = .ok (.putfield 9, 3) := by decide +kernel
theorem d3_12 : decode (cc 3) 12 = .ok (.aload_n 0, 1) := by decide +kernel
theorem d3_13 : decode (cc 3) 13 = .ok (.bipush 12, 2) := by decide +kernel
theorem d3_15 : decode (cc 3) 15 = .ok (.newarray .long, 2) := by decide +kernel
theorem d3_17 : decode (cc 3) 17 = .ok (.putfield 15, 3) := by decide +kernel
theorem d3_20 : decode (cc 3) 20 = .ok (.aload_n 0, 1) := by decide +kernel
theorem d3_21 : decode (cc 3) 21 = .ok (.bipush 13, 2) := by decide +kernel
theorem d3_23 : decode (cc 3) 23 = .ok (.newarray .long, 2) := by decide +kernel
theorem d3_25 : decode (cc 3) 25 = .ok (.putfield 18, 3) := by decide +kernel
theorem d3_28 : decode (cc 3) 28 = .ok (.aload_n 0, 1) := by decide +kernel
theorem d3_29 : decode (cc 3) 29 = .ok (.bipush 12, 2) := by decide +kernel
theorem d3_31 : decode (cc 3) 31 = .ok (.newarray .int, 2) := by decide +kernel
theorem d3_33 : decode (cc 3) 33 = .ok (.putfield 21, 3) := by decide +kernel
theorem d3_36 : decode (cc 3) 36 = .ok (.return_, 1) := by decide +kernel
theorem d4_0 : decode (cc 4) 0 = .ok (.aload_n 0, 1) := by decide +kernel
theorem d4_1 : decode (cc 4) 1 = .ok (.invokespecial 3, 3) := by decide +kernel
theorem d4_4 : decode (cc 4) 4 = .ok (.aload_n 0, 1) := by decide +kernel
theorem d4_5 : decode (cc 4) 5 = .ok (.iconst 1, 1) := by decide +kernel
theorem d4_6 : decode (cc 4) 6 = .ok (.putfield 9, 3) := by decide +kernel
theorem d4_9 : decode (cc 4) 9 = .ok (.aload_n 0, 1) := by decide +kernel
theorem d4_10 : decode (cc 4) 10 = .ok (.iconst 1, 1) := by decide +kernel
theorem d4_11 : decode (cc 4) 11 = .ok (.putfield 15, 3) := by decide +kernel
theorem d4_14 : decode (cc 4) 14 = .ok (.aload_n 0, 1) := by decide +kernel
theorem d4_15 : decode (cc 4) 15 = .ok (.bipush 12, 2) := by decide +kernel
theorem d4_17 : decode (cc 4) 17 = .ok (.newarray .long, 2) := by decide +kernel
theorem d4_19 : decode (cc 4) 19 = .ok (.putfield 19, 3) := by decide +kernel
theorem d4_22 : decode (cc 4) 22 = .ok (.aload_n 0, 1) := by decide +kernel
theorem d4_23 : decode (cc 4) 23 = .ok (.bipush 12, 2) := by decide +kernel
theorem d4_25 : decode (cc 4) 25 = .ok (.newarray .long, 2) := by decide +kernel
theorem d4_27 : decode (cc 4) 27 = .ok (.putfield 23, 3) := by decide +kernel
theorem d4_30 : decode (cc 4) 30 = .ok (.aload_n 0, 1) := by decide +kernel
theorem d4_31 : decode (cc 4) 31 = .ok (.bipush 12, 2) := by decide +kernel
theorem d4_33 : decode (cc 4) 33 = .ok (.newarray .long, 2) := by decide +kernel
theorem d4_35 : decode (cc 4) 35 = .ok (.putfield 26, 3) := by decide +kernel
theorem d4_38 : decode (cc 4) 38 = .ok (.return_, 1) := by decide +kernel
theorem d5_0 : decode (cc 5) 0 = .ok (.iconst 0, 1) := by decide +kernel
theorem d5_1 : decode (cc 5) 1 = .ok (.istore_n 1, 1) := by decide +kernel
theorem d5_2 : decode (cc 5) 2 = .ok (.iconst 0, 1) := by decide +kernel
theorem d5_3 : decode (cc 5) 3 = .ok (.istore_n 2, 1) := by decide +kernel
theorem d5_4 : decode (cc 5) 4 = .ok (.iload_n 2, 1) := by decide +kernel
theorem d5_5 : decode (cc 5) 5 = .ok (.iconst 4, 1) := by decide +kernel
theorem d5_6 : decode (cc 5) 6 = .ok (.if_icmp .gt 47, 3) := by decide +kernel
theorem d5_9 : decode (cc 5) 9 = .ok (.iconst 0, 1) := by decide +kernel
theorem d5_10 : decode (cc 5) 10 = .ok (.istore_n 3, 1) := by decide +kernel
theorem d5_11 : decode (cc 5) 11 = .ok (.iload_n 3, 1) := by decide +kernel
theorem d5_12 : decode (cc 5) 12 = .ok (.bipush 12, 2) := by decide +kernel
theorem d5_14 : decode (cc 5) 14 = .ok (.if_icmp .ge 33, 3) := by decide +kernel
theorem d5_17 : decode (cc 5) 17 = .ok (.aload_n 0, 1) := by decide +kernel
theorem d5_18 : decode (cc 5) 18 = .ok (.getfield 18, 3) := by decide +kernel
theorem d5_21 : decode (cc 5) 21 = .ok (.getfield 137, 3) := by decide +kernel
theorem d5_24 : decode (cc 5) 24 = .ok (.iload_n 3, 1) := by decide +kernel
theorem d5_25 : decode (cc 5) 25 = .ok (.iaload, 1) := by decide +kernel
theorem d5_26 : decode (cc 5) 26 = .ok (.iload_n 2, 1) := by decide +kernel
theorem d5_27 : decode (cc 5) 27 = .ok (.if_icmp .ne 14, 3) := by decide +kernel
theorem d5_30 : decode (cc 5) 30 = .ok (.aload_n 0, 1) := by decide +kernel
theorem d5_31 : decode (cc 5) 31 = .ok (.iload_n 3, 1) := by decide +kernel
theorem d5_32 : decode (cc 5) 32 = .ok (.invokevirtual 140, 3) := by decide +kernel
theorem d5_35 : decode (cc 5) 35 = .ok (.ifCond .eq 6, 3) := by decide +kernel
theorem d5_38 : decode (cc 5) 38 = .ok (.iinc 1 1, 3) := by decide +kernel
theorem d5_41 : decode (cc 5) 41 = .ok (.iinc 3 1, 3) := by decide +kernel
theorem d5_44 : decode (cc 5) 44 = .ok (.goto (-33), 3) := by decide +kernel
theorem d5_47 : decode (cc 5) 47 = .ok (.iinc 2 1, 3) := by decide +kernel
theorem d5_50 : decode (cc 5) 50 = .ok (.goto (-46), 3) := by decide +kernel
theorem d5_53 : decode (cc 5) 53 = .ok (.iload_n 1, 1) := by decide +kernel
theorem d5_54 : decode (cc 5) 54 = .ok (.ireturn, 1) := by decide +kernel
theorem d6_0 : decode (cc 6) 0 = .ok (.aload_n 0, 1) := by decide +kernel
theorem d6_1 : decode (cc 6) 1 = .ok (.getfield 11, 3) := by decide +kernel
theorem d6_4 : decode (cc 6) 4 = .ok (.iload_n 1, 1) := by decide +kernel
theorem d6_5 : decode (cc 6) 5 = .ok (.aaload, 1) := by decide +kernel
theorem d6_6 : decode (cc 6) 6 = .ok (.astore_n 2, 1) := by decide +kernel
theorem d6_7 : decode (cc 6) 7 = .ok (.aload_n 0, 1) := by decide +kernel
theorem d6_8 : decode (cc 6) 8 = .ok (.iload_n 1, 1) := by decide +kernel
theorem d6_9 : decode (cc 6) 9 = .ok (.invokevirtual 219, 3) := by decide +kernel
theorem d6_12 : decode (cc 6) 12 = .ok (.aload_n 2, 1) := by decide +kernel
theorem d6_13 : decode (cc 6) 13 = .ok (.getfield 71, 3) := by decide +kernel
theorem d6_16 : decode (cc 6) 16 = .ok (.ifCond .ne 16, 3) := by decide +kernel
theorem d6_19 : decode (cc 6) 19 = .ok (.aload_n 2, 1) := by decide +kernel
theorem d6_20 : decode (cc 6) 20 = .ok (.aload_n 0, 1) := by decide +kernel
theorem d6_21 : decode (cc 6) 21 = .ok (.getfield 42, 3) := by decide +kernel
theorem d6_24 : decode (cc 6) 24 = .ok (.invokevirtual 222, 3) := by decide +kernel
theorem d6_27 : decode (cc 6) 27 = .ok (.ifCond .eq 5, 3) := by decide +kernel
theorem d6_30 : decode (cc 6) 30 = .ok (.iconst 0, 1) := by decide +kernel
theorem d6_31 : decode (cc 6) 31 = .ok (.ireturn, 1) := by decide +kernel
theorem d6_32 : decode (cc 6) 32 = .ok (.aload_n 0, 1) := by decide +kernel
theorem d6_33 : decode (cc 6) 33 = .ok (.getfield 42, 3) := by decide +kernel
theorem d6_36 : decode (cc 6) 36 = .ok (.iconst 0, 1) := by decide +kernel
theorem d6_37 : decode (cc 6) 37 = .ok (.aload_n 2, 1) := by decide +kernel
theorem d6_38 : decode (cc 6) 38 = .ok (.getfield 149, 3) := by decide +kernel
theorem d6_41 : decode (cc 6) 41 = .ok (.iconst 0, 1) := by decide +kernel
theorem d6_42 : decode (cc 6) 42 = .ok (.bipush 12, 2) := by decide +kernel
theorem d6_44 : decode (cc 6) 44 = .ok (.invokestatic 226, 3) := by decide +kernel
theorem d6_47 : decode (cc 6) 47 = .ok (.aload_n 0, 1) := by decide +kernel
theorem d6_48 : decode (cc 6) 48 = .ok (.getfield 46, 3) := by decide +kernel
theorem d6_51 : decode (cc 6) 51 = .ok (.lconst 0, 1) := by decide +kernel
theorem d6_52 : decode (cc 6) 52 = .ok (.invokestatic 232, 3) := by decide +kernel
theorem d6_55 : decode (cc 6) 55 = .ok (.aload_n 0, 1) := by decide +kernel
theorem d6_56 : decode (cc 6) 56 = .ok (.getfield 29, 3) := by decide +kernel
theorem d6_59 : decode (cc 6) 59 = .ok (.aload_n 0, 1) := by decide +kernel
theorem d6_60 : decode (cc 6) 60 = .ok (.getfield 46, 3) := by decide +kernel
theorem d6_63 : decode (cc 6) 63 = .ok (.iload_n 1, 1) := by decide +kernel
theorem d6_64 : decode (cc 6) 64 = .ok (.invokevirtual 238, 3) := by decide +kernel
theorem d6_67 : decode (cc 6) 67 = .ok (.aload_n 0, 1) := by decide +kernel
theorem d6_68 : decode (cc 6) 68 = .ok (.getfield 38, 3) := by decide +kernel
theorem d6_71 : decode (cc 6) 71 = .ok (.aload_n 2, 1) := by decide +kernel
theorem d6_72 : decode (cc 6) 72 = .ok (.aload_n 0, 1) := by decide +kernel
theorem d6_73 : decode (cc 6) 73 = .ok (.getfield 46, 3) := by decide +kernel
theorem d6_76 : decode (cc 6) 76 = .ok (.invokevirtual 242, 3) := by decide +kernel
theorem d6_79 : decode (cc 6) 79 = .ok (.aload_n 2, 1) := by decide +kernel
theorem d6_80 : decode (cc 6) 80 = .ok (.iconst 0, 1) := by decide +kernel
theorem d6_81 : decode (cc 6) 81 = .ok (.putfield 71, 3) := by decide +kernel
theorem d6_84 : decode (cc 6) 84 = .ok (.iconst 1, 1) := by decide +kernel
theorem d6_85 : decode (cc 6) 85 = .ok (.ireturn, 1) := by decide +kernel
theorem d7_0 : decode (cc 7) 0 = .ok (.aload_n 0, 1) := by decide +kernel
theorem d7_1 : decode (cc 7) 1 = .ok (.getfield 42, 3) := by decide +kernel
theorem d7_4 : decode (cc 7) 4 = .ok (.lconst 0, 1) := by decide +kernel
theorem d7_5 : decode (cc 7) 5 = .ok (.invokestatic 232, 3) := by decide +kernel
theorem d7_8 : decode (cc 7) 8 = .ok (.aload_n 0, 1) := by decide +kernel
theorem d7_9 : decode (cc 7) 9 = .ok (.getfield 25, 3) := by decide +kernel
theorem d7_12 : decode (cc 7) 12 = .ok (.aload_n 0, 1) := by decide +kernel
theorem d7_13 : decode (cc 7) 13 = .ok (.getfield 42, 3) := by decide +kernel
theorem d7_16 : decode (cc 7) 16 = .ok (.iload_n 1, 1) := by decide +kernel
theorem d7_17 : decode (cc 7) 17 = .ok (.invokevirtual 238, 3) := by decide +kernel
theorem d7_20 : decode (cc 7) 20 = .ok (.iconst 0, 1) := by decide +kernel
theorem d7_21 : decode (cc 7) 21 = .ok (.istore_n 2, 1) := by decide +kernel
theorem d7_22 : decode (cc 7) 22 = .ok (.iload_n 2, 1) := by decide +kernel
theorem d7_23 : decode (cc 7) 23 = .ok (.bipush 12, 2) := by decide +kernel
theorem d7_25 : decode (cc 7) 25 = .ok (.if_icmp .ge 15, 3) := by decide +kernel
theorem d7_28 : decode (cc 7) 28 = .ok (.aload_n 0, 1) := by decide +kernel
theorem d7_29 : decode (cc 7) 29 = .ok (.iload_n 2, 1) := by decide +kernel
theorem d7_30 : decode (cc 7) 30 = .ok (.iload_n 1, 1) := by decide +kernel
theorem d7_31 : decode (cc 7) 31 = .ok (.invokevirtual 246, 3) := by decide +kernel
theorem d7_34 : decode (cc 7) 34 = .ok (.iinc 2 1, 3) := by decide +kernel
theorem d7_37 : decode (cc 7) 37 = .ok (.goto (-15), 3) := by decide +kernel
theorem d7_40 : decode (cc 7) 40 = .ok (.return_, 1) := by decide +kernel
theorem d8_0 : decode (cc 8) 0 = .ok (.iconst 0, 1) := by decide +kernel
theorem d8_1 : decode (cc 8) 1 = .ok (.istore_n 3, 1) := by decide +kernel
theorem d8_2 : decode (cc 8) 2 = .ok (.aload_n 0, 1) := by decide +kernel
theorem d8_3 : decode (cc 8) 3 = .ok (.arraylength, 1) := by decide +kernel
theorem d8_4 : decode (cc 8) 4 = .ok (.istore 4, 2) := by decide +kernel
theorem d8_6 : decode (cc 8) 6 = .ok (.iload_n 3, 1) := by decide +kernel
theorem d8_7 : decode (cc 8) 7 = .ok (.iload 4, 2) := by decide +kernel
theorem d8_9 : decode (cc 8) 9 = .ok (.if_icmp .ge 13, 3) := by decide +kernel
theorem d8_12 : decode (cc 8) 12 = .ok (.aload_n 0, 1) := by decide +kernel
theorem d8_13 : decode (cc 8) 13 = .ok (.iload_n 3, 1) := by decide +kernel
theorem d8_14 : decode (cc 8) 14 = .ok (.lload_n 1, 1) := by decide +kernel
theorem d8_15 : decode (cc 8) 15 = .ok (.lastore, 1) := by decide +kernel
theorem d8_16 : decode (cc 8) 16 = .ok (.iinc 3 1, 3) := by decide +kernel
theorem d8_19 : decode (cc 8) 19 = .ok (.goto (-13), 3) := by decide +kernel
theorem d8_22 : decode (cc 8) 22 = .ok (.return_, 1) := by decide +kernel
theorem d9_0 : decode (cc 9) 0 = .ok (.iconst 0, 1) := by decide +kernel
theorem d9_1 : decode (cc 9) 1 = .ok (.istore_n 3, 1) := by decide +kernel
theorem d9_2 : decode (cc 9) 2 = .ok (.iload_n 3, 1) := by decide +kernel
theorem d9_3 : decode (cc 9) 3 = .ok (.aload_n 0, 1) := by decide +kernel
theorem d9_4 : decode (cc 9) 4 = .ok (.getfield 21, 3) := by decide +kernel
theorem d9_7 : decode (cc 9) 7 = .ok (.if_icmp .ge 37, 3) := by decide +kernel
theorem d9_10 : decode (cc 9) 10 = .ok (.aload_n 0, 1) := by decide +kernel
theorem d9_11 : decode (cc 9) 11 = .ok (.getfield 9, 3) := by decide +kernel
theorem d9_14 : decode (cc 9) 14 = .ok (.iload_n 3, 1) := by decide +kernel
theorem d9_15 : decode (cc 9) 15 = .ok (.iaload, 1) := by decide +kernel
theorem d9_16 : decode (cc 9) 16 = .ok (.iload_n 2, 1) := by decide +kernel
theorem d9_17 : decode (cc 9) 17 = .ok (.if_icmp .ne 21, 3) := by decide +kernel
theorem d9_20 : decode (cc 9) 20 = .ok (.aload_n 1, 1) := by decide +kernel
theorem d9_21 : decode (cc 9) 21 = .ok (.aload_n 0, 1) := by decide +kernel
theorem d9_22 : decode (cc 9) 22 = .ok (.getfield 15, 3) := by decide +kernel
theorem d9_25 : decode (cc 9) 25 = .ok (.iload_n 3, 1) := by decide +kernel
theorem d9_26 : decode (cc 9) 26 = .ok (.iaload, 1) := by decide +kernel
theorem d9_27 : decode (cc 9) 27 = .ok (.dup2, 1) := by decide +kernel
theorem d9_28 : decode (cc 9) 28 = .ok (.laload, 1) := by decide +kernel
theorem d9_29 : decode (cc 9) 29 = .ok (.aload_n 0, 1) := by decide +kernel
theorem d9_30 : decode (cc 9) 30 = .ok (.getfield 18, 3) := by decide +kernel
theorem d9_33 : decode (cc 9) 33 = .ok (.iload_n 3, 1) := by decide +kernel
theorem d9_34 : decode (cc 9) 34 = .ok (.iaload, 1) := by decide +kernel
theorem d9_35 : decode (cc 9) 35 = .ok (.i2l, 1) := by decide +kernel
theorem d9_36 : decode (cc 9) 36 = .ok (.ladd, 1) := by decide +kernel
theorem d9_37 : decode (cc 9) 37 = .ok (.lastore, 1) := by decide +kernel
theorem d9_38 : decode (cc 9) 38 = .ok (.iinc 3 1, 3) := by decide +kernel
theorem d9_41 : decode (cc 9) 41 = .ok (.goto (-39), 3) := by decide +kernel
theorem d9_44 : decode (cc 9) 44 = .ok (.return_, 1) := by decide +kernel
theorem d10_0 : decode (cc 10) 0 = .ok (.iload_n 1, 1) := by decide +kernel
theorem d10_1 : decode (cc 10) 1 = .ok (.iload_n 2, 1) := by decide +kernel
theorem d10_2 : decode (cc 10) 2 = .ok (.invokestatic 98, 3) := by decide +kernel
theorem d10_5 : decode (cc 10) 5 = .ok (.istore_n 3, 1) := by decide +kernel
theorem d10_6 : decode (cc 10) 6 = .ok (.aload_n 0, 1) := by decide +kernel
theorem d10_7 : decode (cc 10) 7 = .ok (.getfield 18, 3) := by decide +kernel
theorem d10_10 : decode (cc 10) 10 = .ok (.getfield 250, 3) := by decide +kernel
theorem d10_13 : decode (cc 10) 13 = .ok (.iload_n 3, 1) := by decide +kernel
theorem d10_14 : decode (cc 10) 14 = .ok (.iaload, 1) := by decide +kernel
theorem d10_15 : decode (cc 10) 15 = .ok (.ifCond .ne 4, 3) := by decide +kernel
theorem d10_18 : decode (cc 10) 18 = .ok (.return_, 1) := by decide +kernel
theorem d10_19 : decode (cc 10) 19 = .ok (.aload_n 0, 1) := by decide +kernel
theorem d10_20 : decode (cc 10) 20 = .ok (.getfield 11, 3) := by decide +kernel
theorem d10_23 : decode (cc 10) 23 = .ok (.iload_n 1, 1) := by decide +kernel
theorem d10_24 : decode (cc 10) 24 = .ok (.aaload, 1) := by decide +kernel
theorem d10_25 : decode (cc 10) 25 = .ok (.astore 4, 2) := by decide +kernel
theorem d10_27 : decode (cc 10) 27 = .ok (.iconst 0, 1) := by decide +kernel
theorem d10_28 : decode (cc 10) 28 = .ok (.istore 5, 2) := by decide +kernel
theorem d10_30 : decode (cc 10) 30 = .ok (.iload 5, 2) := by decide +kernel
theorem d10_32 : decode (cc 10) 32 = .ok (.bipush 12, 2) := by decide +kernel
theorem d10_34 : decode (cc 10) 34 = .ok (.if_icmp .ge 74, 3) := by decide +kernel
theorem d10_37 : decode (cc 10) 37 = .ok (.iload 5, 2) := by decide +kernel
theorem d10_39 : decode (cc 10) 39 = .ok (.aload_n 0, 1) := by decide +kernel
theorem d10_40 : decode (cc 10) 40 = .ok (.getfield 18, 3) := by decide +kernel
theorem d10_43 : decode (cc 10) 43 = .ok (.getfield 253, 3) := by decide +kernel
theorem d10_46 : decode (cc 10) 46 = .ok (.iload_n 3, 1) := by decide +kernel
theorem d10_47 : decode (cc 10) 47 = .ok (.iaload, 1) := by decide +kernel
theorem d10_48 : decode (cc 10) 48 = .ok (.if_icmp .lt 54, 3) := by decide +kernel
theorem d10_51 : decode (cc 10) 51 = .ok (.iload 5, 2) := by decide +kernel
theorem d10_53 : decode (cc 10) 53 = .ok (.aload_n 0, 1) := by decide +kernel
theorem d10_54 : decode (cc 10) 54 = .ok (.getfield 18, 3) := by decide +kernel
theorem d10_57 : decode (cc 10) 57 = .ok (.getfield 256, 3) := by decide +kernel
theorem d10_60 : decode (cc 10) 60 = .ok (.iload_n 3, 1) := by decide +kernel
theorem d10_61 : decode (cc 10) 61 = .ok (.iaload, 1) := by decide +kernel
theorem d10_62 : decode (cc 10) 62 = .ok (.if_icmp .gt 40, 3) := by decide +kernel
theorem d10_65 : decode (cc 10) 65 = .ok (.aload_n 0, 1) := by decide +kernel
theorem d10_66 : decode (cc 10) 66 = .ok (.getfield 42, 3) := by decide +kernel
theorem d10_69 : decode (cc 10) 69 = .ok (.iload 5, 2) := by decide +kernel
theorem d10_71 : decode (cc 10) 71 = .ok (.dup2, 1) := by decide +kernel
theorem d10_72 : decode (cc 10) 72 = .ok (.laload, 1) := by decide +kernel
theorem d10_73 : decode (cc 10) 73 = .ok (.aload_n 0, 1) := by decide +kernel
theorem d10_74 : decode (cc 10) 74 = .ok (.getfield 11, 3) := by decide +kernel
theorem d10_77 : decode (cc 10) 77 = .ok (.iload_n 2, 1) := by decide +kernel
theorem d10_78 : decode (cc 10) 78 = .ok (.aaload, 1) := by decide +kernel
theorem d10_79 : decode (cc 10) 79 = .ok (.aload 4, 2) := by decide +kernel
theorem d10_81 : decode (cc 10) 81 = .ok (.iload 5, 2) := by decide +kernel
theorem d10_83 : decode (cc 10) 83 = .ok (.invokevirtual 180, 3) := by decide +kernel
theorem d10_86 : decode (cc 10) 86 = .ok (.aload_n 0, 1) := by decide +kernel
theorem d10_87 : decode (cc 10) 87 = .ok (.getfield 18, 3) := by decide +kernel
theorem d10_90 : decode (cc 10) 90 = .ok (.getfield 250, 3) := by decide +kernel
theorem d10_93 : decode (cc 10) 93 = .ok (.iload_n 3, 1) := by decide +kernel
theorem d10_94 : decode (cc 10) 94 = .ok (.iaload, 1) := by decide +kernel
theorem d10_95 : decode (cc 10) 95 = .ok (.i2l, 1) := by decide +kernel
theorem d10_96 : decode (cc 10) 96 = .ok (.lmul, 1) := by decide +kernel
theorem d10_97 : decode (cc 10) 97 = .ok (.invokevirtual 259, 3) := by decide +kernel
theorem d10_100 : decode (cc 10) 100 = .ok (.ladd, 1) := by decide +kernel
theorem d10_101 : decode (cc 10) 101 = .ok (.lastore, 1) := by decide +kernel
theorem d10_102 : decode (cc 10) 102 = .ok (.iinc 5 1, 3) := by decide +kernel
theorem d10_105 : decode (cc 10) 105 = .ok (.goto (-75), 3) := by decide +kernel
theorem d10_108 : decode (cc 10) 108 = .ok (.return_, 1) := by decide +kernel
theorem d11_0 : decode (cc 11) 0 = .ok (.iload_n 0, 1) := by decide +kernel
theorem d11_1 : decode (cc 11) 1 = .ok (.bipush 12, 2) := by decide +kernel
theorem d11_3 : decode (cc 11) 3 = .ok (.imul, 1) := by decide +kernel
theorem d11_4 : decode (cc 11) 4 = .ok (.iload_n 1, 1) := by decide +kernel
theorem d11_5 : decode (cc 11) 5 = .ok (.iadd, 1) := by decide +kernel
theorem d11_6 : decode (cc 11) 6 = .ok (.ireturn, 1) := by decide +kernel
theorem d12_0 : decode (cc 12) 0 = .ok (.iload_n 1, 1) := by decide +kernel
theorem d12_1 : decode (cc 12) 1 = .ok (.aload_n 0, 1) := by decide +kernel
theorem d12_2 : decode (cc 12) 2 = .ok (.getfield 29, 3) := by decide +kernel
theorem d12_5 : decode (cc 12) 5 = .ok (.iadd, 1) := by decide +kernel
theorem d12_6 : decode (cc 12) 6 = .ok (.istore_n 2, 1) := by decide +kernel
theorem d12_7 : decode (cc 12) 7 = .ok (.iload_n 2, 1) := by decide +kernel
theorem d12_8 : decode (cc 12) 8 = .ok (.ifCond .lt 18, 3) := by decide +kernel
theorem d12_11 : decode (cc 12) 11 = .ok (.iload_n 2, 1) := by decide +kernel
theorem d12_12 : decode (cc 12) 12 = .ok (.bipush 12, 2) := by decide +kernel
theorem d12_14 : decode (cc 12) 14 = .ok (.if_icmp .ge 12, 3) := by decide +kernel
theorem d12_17 : decode (cc 12) 17 = .ok (.aload_n 0, 1) := by decide +kernel
theorem d12_18 : decode (cc 12) 18 = .ok (.getfield 23, 3) := by decide +kernel
theorem d12_21 : decode (cc 12) 21 = .ok (.iload_n 2, 1) := by decide +kernel
theorem d12_22 : decode (cc 12) 22 = .ok (.laload, 1) := by decide +kernel
theorem d12_23 : decode (cc 12) 23 = .ok (.goto 4, 3) := by decide +kernel
theorem d12_26 : decode (cc 12) 26 = .ok (.lconst 0, 1) := by decide +kernel
theorem d12_27 : decode (cc 12) 27 = .ok (.lreturn, 1) := by decide +kernel
theorem d13_0 : decode (cc 13) 0 = .ok (.lload_n 1, 1) := by decide +kernel
theorem d13_1 : decode (cc 13) 1 = .ok (.sipush 1000, 3) := by decide +kernel
theorem d13_4 : decode (cc 13) 4 = .ok (.aload_n 0, 1) := by decide +kernel
theorem d13_5 : decode (cc 13) 5 = .ok (.getfield 32, 3) := by decide +kernel
theorem d13_8 : decode (cc 13) 8 = .ok (.iadd, 1) := by decide +kernel
theorem d13_9 : decode (cc 13) 9 = .ok (.i2l, 1) := by decide +kernel
theorem d13_10 : decode (cc 13) 10 = .ok (.lmul, 1) := by decide +kernel
theorem d13_11 : decode (cc 13) 11 = .ok (.ldc2_w 35, 3) := by decide +kernel
theorem d13_14 : decode (cc 13) 14 = .ok (.ladd, 1) := by decide +kernel
theorem d13_15 : decode (cc 13) 15 = .ok (.ldc2_w 37, 3) := by decide +kernel
theorem d13_18 : decode (cc 13) 18 = .ok (.ldiv, 1) := by decide +kernel
theorem d13_19 : decode (cc 13) 19 = .ok (.lreturn, 1) := by decide +kernel
theorem d14_0 : decode (cc 14) 0 = .ok (.iconst 0, 1) := by decide +kernel
theorem d14_1 : decode (cc 14) 1 = .ok (.istore_n 2, 1) := by decide +kernel
theorem d14_2 : decode (cc 14) 2 = .ok (.iload_n 2, 1) := by decide +kernel
theorem d14_3 : decode (cc 14) 3 = .ok (.bipush 12, 2) := by decide +kernel
theorem d14_5 : decode (cc 14) 5 = .ok (.if_icmp .ge 24, 3) := by decide +kernel
theorem d14_8 : decode (cc 14) 8 = .ok (.aload_n 0, 1) := by decide +kernel
theorem d14_9 : decode (cc 14) 9 = .ok (.getfield 19, 3) := by decide +kernel
theorem d14_12 : decode (cc 14) 12 = .ok (.iload_n 2, 1) := by decide +kernel
theorem d14_13 : decode (cc 14) 13 = .ok (.laload, 1) := by decide +kernel
theorem d14_14 : decode (cc 14) 14 = .ok (.aload_n 1, 1) := by decide +kernel
theorem d14_15 : decode (cc 14) 15 = .ok (.iload_n 2, 1) := by decide +kernel
theorem d14_16 : decode (cc 14) 16 = .ok (.laload, 1) := by decide +kernel
theorem d14_17 : decode (cc 14) 17 = .ok (.lcmp, 1) := by decide +kernel
theorem d14_18 : decode (cc 14) 18 = .ok (.ifCond .eq 5, 3) := by decide +kernel
theorem d14_21 : decode (cc 14) 21 = .ok (.iconst 0, 1) := by decide +kernel
theorem d14_22 : decode (cc 14) 22 = .ok (.ireturn, 1) := by decide +kernel
theorem d14_23 : decode (cc 14) 23 = .ok (.iinc 2 1, 3) := by decide +kernel
theorem d14_26 : decode (cc 14) 26 = .ok (.goto (-24), 3) := by decide +kernel
theorem d14_29 : decode (cc 14) 29 = .ok (.iconst 1, 1) := by decide +kernel
theorem d14_30 : decode (cc 14) 30 = .ok (.ireturn, 1) := by decide +kernel
theorem d15_0 : decode (cc 15) 0 = .ok (.aload_n 0, 1) := by decide +kernel
theorem d15_1 : decode (cc 15) 1 = .ok (.aload_n 1, 1) := by decide +kernel
theorem d15_2 : decode (cc 15) 2 = .ok (.aload_n 2, 1) := by decide +kernel
theorem d15_3 : decode (cc 15) 3 = .ok (.invokevirtual 25, 3) := by decide +kernel
theorem d15_6 : decode (cc 15) 6 = .ok (.aload_n 1, 1) := by decide +kernel
theorem d15_7 : decode (cc 15) 7 = .ok (.getfield 29, 3) := by decide +kernel
theorem d15_10 : decode (cc 15) 10 = .ok (.iconst 3, 1) := by decide +kernel
theorem d15_11 : decode (cc 15) 11 = .ok (.if_icmp .ne 8, 3) := by decide +kernel
theorem d15_14 : decode (cc 15) 14 = .ok (.aload_n 0, 1) := by decide +kernel
theorem d15_15 : decode (cc 15) 15 = .ok (.aload_n 1, 1) := by decide +kernel
theorem d15_16 : decode (cc 15) 16 = .ok (.invokevirtual 35, 3) := by decide +kernel
theorem d15_19 : decode (cc 15) 19 = .ok (.lconst 0, 1) := by decide +kernel
theorem d15_20 : decode (cc 15) 20 = .ok (.lstore_n 3, 1) := by decide +kernel
theorem d15_21 : decode (cc 15) 21 = .ok (.iconst 0, 1) := by decide +kernel
theorem d15_22 : decode (cc 15) 22 = .ok (.istore 5, 2) := by decide +kernel
theorem d15_24 : decode (cc 15) 24 = .ok (.iload 5, 2) := by decide +kernel
theorem d15_26 : decode (cc 15) 26 = .ok (.bipush 12, 2) := by decide +kernel
theorem d15_28 : decode (cc 15) 28 = .ok (.if_icmp .ge 66, 3) := by decide +kernel
theorem d15_31 : decode (cc 15) 31 = .ok (.aload_n 1, 1) := by decide +kernel
theorem d15_32 : decode (cc 15) 32 = .ok (.getfield 39, 3) := by decide +kernel
theorem d15_35 : decode (cc 15) 35 = .ok (.iload 5, 2) := by decide +kernel
theorem d15_37 : decode (cc 15) 37 = .ok (.aload_n 0, 1) := by decide +kernel
theorem d15_38 : decode (cc 15) 38 = .ok (.getfield 15, 3) := by decide +kernel
theorem d15_41 : decode (cc 15) 41 = .ok (.iload 5, 2) := by decide +kernel
theorem d15_43 : decode (cc 15) 43 = .ok (.laload, 1) := by decide +kernel
theorem d15_44 : decode (cc 15) 44 = .ok (.lload_n 3, 1) := by decide +kernel
theorem d15_45 : decode (cc 15) 45 = .ok (.lcmp, 1) := by decide +kernel
theorem d15_46 : decode (cc 15) 46 = .ok (.ifCond .le 14, 3) := by decide +kernel
theorem d15_49 : decode (cc 15) 49 = .ok (.aload_n 0, 1) := by decide +kernel
theorem d15_50 : decode (cc 15) 50 = .ok (.aload_n 1, 1) := by decide +kernel
theorem d15_51 : decode (cc 15) 51 = .ok (.iload 5, 2) := by decide +kernel
theorem d15_53 : decode (cc 15) 53 = .ok (.lload_n 3, 1) := by decide +kernel
theorem d15_54 : decode (cc 15) 54 = .ok (.invokevirtual 42, 3) := by decide +kernel
theorem d15_57 : decode (cc 15) 57 = .ok (.goto 4, 3) := by decide +kernel
theorem d15_60 : decode (cc 15) 60 = .ok (.lconst 0, 1) := by decide +kernel
theorem d15_61 : decode (cc 15) 61 = .ok (.lastore, 1) := by decide +kernel
theorem d15_62 : decode (cc 15) 62 = .ok (.lload_n 3, 1) := by decide +kernel
theorem d15_63 : decode (cc 15) 63 = .ok (.aload_n 1, 1) := by decide +kernel
theorem d15_64 : decode (cc 15) 64 = .ok (.getfield 39, 3) := by decide +kernel
theorem d15_67 : decode (cc 15) 67 = .ok (.iload 5, 2) := by decide +kernel
theorem d15_69 : decode (cc 15) 69 = .ok (.laload, 1) := by decide +kernel
theorem d15_70 : decode (cc 15) 70 = .ok (.ladd, 1) := by decide +kernel
theorem d15_71 : decode (cc 15) 71 = .ok (.lstore_n 3, 1) := by decide +kernel
theorem d15_72 : decode (cc 15) 72 = .ok (.aload_n 1, 1) := by decide +kernel
theorem d15_73 : decode (cc 15) 73 = .ok (.getfield 46, 3) := by decide +kernel
theorem d15_76 : decode (cc 15) 76 = .ok (.iload 5, 2) := by decide +kernel
theorem d15_78 : decode (cc 15) 78 = .ok (.aload_n 0, 1) := by decide +kernel
theorem d15_79 : decode (cc 15) 79 = .ok (.getfield 9, 3) := by decide +kernel
theorem d15_82 : decode (cc 15) 82 = .ok (.iload 5, 2) := by decide +kernel
theorem d15_84 : decode (cc 15) 84 = .ok (.laload, 1) := by decide +kernel
theorem d15_85 : decode (cc 15) 85 = .ok (.lload_n 3, 1) := by decide +kernel
theorem d15_86 : decode (cc 15) 86 = .ok (.ladd, 1) := by decide +kernel
theorem d15_87 : decode (cc 15) 87 = .ok (.lastore, 1) := by decide +kernel
theorem d15_88 : decode (cc 15) 88 = .ok (.iinc 5 1, 3) := by decide +kernel
theorem d15_91 : decode (cc 15) 91 = .ok (.goto (-67), 3) := by decide +kernel
theorem d15_94 : decode (cc 15) 94 = .ok (.return_, 1) := by decide +kernel
theorem d16_0 : decode (cc 16) 0 = .ok (.aload_n 1, 1) := by decide +kernel
theorem d16_1 : decode (cc 16) 1 = .ok (.getfield 49, 3) := by decide +kernel
theorem d16_4 : decode (cc 16) 4 = .ok (.i2l, 1) := by decide +kernel
theorem d16_5 : decode (cc 16) 5 = .ok (.lstore_n 3, 1) := by decide +kernel
theorem d16_6 : decode (cc 16) 6 = .ok (.lconst 0, 1) := by decide +kernel
theorem d16_7 : decode (cc 16) 7 = .ok (.lstore 5, 2) := by decide +kernel
theorem d16_9 : decode (cc 16) 9 = .ok (.iconst 0, 1) := by decide +kernel
theorem d16_10 : decode (cc 16) 10 = .ok (.istore 7, 2) := by decide +kernel
theorem d16_12 : decode (cc 16) 12 = .ok (.iload 7, 2) := by decide +kernel
theorem d16_14 : decode (cc 16) 14 = .ok (.bipush 12, 2) := by decide +kernel
theorem d16_16 : decode (cc 16) 16 = .ok (.if_icmp .ge 68, 3) := by decide +kernel
theorem d16_19 : decode (cc 16) 19 = .ok (.lload_n 3, 1) := by decide +kernel
theorem d16_20 : decode (cc 16) 20 = .ok (.aload_n 2, 1) := by decide +kernel
theorem d16_21 : decode (cc 16) 21 = .ok (.iload 7, 2) := by decide +kernel
theorem d16_23 : decode (cc 16) 23 = .ok (.laload, 1) := by decide +kernel
theorem d16_24 : decode (cc 16) 24 = .ok (.aload_n 1, 1) := by decide +kernel
theorem d16_25 : decode (cc 16) 25 = .ok (.getfield 52, 3) := by decide +kernel
theorem d16_28 : decode (cc 16) 28 = .ok (.iload 7, 2) := by decide +kernel
theorem d16_30 : decode (cc 16) 30 = .ok (.laload, 1) := by decide +kernel
theorem d16_31 : decode (cc 16) 31 = .ok (.lsub, 1) := by decide +kernel
theorem d16_32 : decode (cc 16) 32 = .ok (.ladd, 1) := by decide +kernel
theorem d16_33 : decode (cc 16) 33 = .ok (.lstore_n 3, 1) := by decide +kernel
theorem d16_34 : decode (cc 16) 34 = .ok (.aload_n 0, 1) := by decide +kernel
theorem d16_35 : decode (cc 16) 35 = .ok (.getfield 9, 3) := by decide +kernel
theorem d16_38 : decode (cc 16) 38 = .ok (.iload 7, 2) := by decide +kernel
theorem d16_40 : decode (cc 16) 40 = .ok (.lload_n 3, 1) := by decide +kernel
theorem d16_41 : decode (cc 16) 41 = .ok (.lastore, 1) := by decide +kernel
theorem d16_42 : decode (cc 16) 42 = .ok (.lload 5, 2) := by decide +kernel
theorem d16_44 : decode (cc 16) 44 = .ok (.aload_n 1, 1) := by decide +kernel
theorem d16_45 : decode (cc 16) 45 = .ok (.getfield 55, 3) := by decide +kernel
theorem d16_48 : decode (cc 16) 48 = .ok (.i2l, 1) := by decide +kernel
theorem d16_49 : decode (cc 16) 49 = .ok (.lload_n 3, 1) := by decide +kernel
theorem d16_50 : decode (cc 16) 50 = .ok (.lsub, 1) := by decide +kernel
theorem d16_51 : decode (cc 16) 51 = .ok (.invokestatic 58, 3) := by decide +kernel
theorem d16_54 : decode (cc 16) 54 = .ok (.lstore 5, 2) := by decide +kernel
theorem d16_56 : decode (cc 16) 56 = .ok (.aload_n 0, 1) := by decide +kernel
theorem d16_57 : decode (cc 16) 57 = .ok (.getfield 15, 3) := by decide +kernel
theorem d16_60 : decode (cc 16) 60 = .ok (.iload 7, 2) := by decide +kernel
theorem d16_62 : decode (cc 16) 62 = .ok (.iload 7, 2) := by decide +kernel
theorem d16_64 : decode (cc 16) 64 = .ok (.aload_n 1, 1) := by decide +kernel
theorem d16_65 : decode (cc 16) 65 = .ok (.getfield 64, 3) := by decide +kernel
theorem d16_68 : decode (cc 16) 68 = .ok (.if_icmp .ge 7, 3) := by decide +kernel
theorem d16_71 : decode (cc 16) 71 = .ok (.lconst 0, 1) := by decide +kernel
theorem d16_72 : decode (cc 16) 72 = .ok (.goto 5, 3) := by decide +kernel
theorem d16_75 : decode (cc 16) 75 = .ok (.lload 5, 2) := by decide +kernel
theorem d16_77 : decode (cc 16) 77 = .ok (.lastore, 1) := by decide +kernel
theorem d16_78 : decode (cc 16) 78 = .ok (.iinc 7 1, 3) := by decide +kernel
theorem d16_81 : decode (cc 16) 81 = .ok (.goto (-69), 3) := by decide +kernel
theorem d16_84 : decode (cc 16) 84 = .ok (.return_, 1) := by decide +kernel
theorem d17_0 : decode (cc 17) 0 = .ok (.aload_n 0, 1) := by decide +kernel
theorem d17_1 : decode (cc 17) 1 = .ok (.getfield 18, 3) := by decide +kernel
theorem d17_4 : decode (cc 17) 4 = .ok (.bipush 12, 2) := by decide +kernel
theorem d17_6 : decode (cc 17) 6 = .ok (.lconst 0, 1) := by decide +kernel
theorem d17_7 : decode (cc 17) 7 = .ok (.lastore, 1) := by decide +kernel
theorem d17_8 : decode (cc 17) 8 = .ok (.bipush 11, 2) := by decide +kernel
theorem d17_10 : decode (cc 17) 10 = .ok (.istore_n 2, 1) := by decide +kernel
theorem d17_11 : decode (cc 17) 11 = .ok (.iload_n 2, 1) := by decide +kernel
theorem d17_12 : decode (cc 17) 12 = .ok (.ifCond .lt 47, 3) := by decide +kernel
theorem d17_15 : decode (cc 17) 15 = .ok (.aload_n 0, 1) := by decide +kernel
theorem d17_16 : decode (cc 17) 16 = .ok (.getfield 15, 3) := by decide +kernel
theorem d17_19 : decode (cc 17) 19 = .ok (.iload_n 2, 1) := by decide +kernel
theorem d17_20 : decode (cc 17) 20 = .ok (.laload, 1) := by decide +kernel
theorem d17_21 : decode (cc 17) 21 = .ok (.aload_n 0, 1) := by decide +kernel
theorem d17_22 : decode (cc 17) 22 = .ok (.iload_n 2, 1) := by decide +kernel
theorem d17_23 : decode (cc 17) 23 = .ok (.invokevirtual 78, 3) := by decide +kernel
theorem d17_26 : decode (cc 17) 26 = .ok (.lcmp, 1) := by decide +kernel
theorem d17_27 : decode (cc 17) 27 = .ok (.ifCond .ne 20, 3) := by decide +kernel
theorem d17_30 : decode (cc 17) 30 = .ok (.aload_n 0, 1) := by decide +kernel
theorem d17_31 : decode (cc 17) 31 = .ok (.getfield 18, 3) := by decide +kernel
theorem d17_34 : decode (cc 17) 34 = .ok (.iload_n 2, 1) := by decide +kernel
theorem d17_35 : decode (cc 17) 35 = .ok (.aload_n 0, 1) := by decide +kernel
theorem d17_36 : decode (cc 17) 36 = .ok (.getfield 18, 3) := by decide +kernel
theorem d17_39 : decode (cc 17) 39 = .ok (.iload_n 2, 1) := by decide +kernel
theorem d17_40 : decode (cc 17) 40 = .ok (.iconst 1, 1) := by decide +kernel
theorem d17_41 : decode (cc 17) 41 = .ok (.iadd, 1) := by decide +kernel
theorem d17_42 : decode (cc 17) 42 = .ok (.laload, 1) := by decide +kernel
theorem d17_43 : decode (cc 17) 43 = .ok (.lastore, 1) := by decide +kernel
theorem d17_44 : decode (cc 17) 44 = .ok (.goto 9, 3) := by decide +kernel
theorem d17_47 : decode (cc 17) 47 = .ok (.aload_n 0, 1) := by decide +kernel
theorem d17_48 : decode (cc 17) 48 = .ok (.aload_n 1, 1) := by decide +kernel
theorem d17_49 : decode (cc 17) 49 = .ok (.iload_n 2, 1) := by decide +kernel
theorem d17_50 : decode (cc 17) 50 = .ok (.invokevirtual 82, 3) := by decide +kernel
theorem d17_53 : decode (cc 17) 53 = .ok (.iinc 2 (-1), 3) := by decide +kernel
theorem d17_56 : decode (cc 17) 56 = .ok (.goto (-45), 3) := by decide +kernel
theorem d17_59 : decode (cc 17) 59 = .ok (.return_, 1) := by decide +kernel
theorem d18_0 : decode (cc 18) 0 = .ok (.iload_n 1, 1) := by decide +kernel
theorem d18_1 : decode (cc 18) 1 = .ok (.iconst 1, 1) := by decide +kernel
theorem d18_2 : decode (cc 18) 2 = .ok (.if_icmp .ge 7, 3) := by decide +kernel
theorem d18_5 : decode (cc 18) 5 = .ok (.lconst 0, 1) := by decide +kernel
theorem d18_6 : decode (cc 18) 6 = .ok (.goto 11, 3) := by decide +kernel
theorem d18_9 : decode (cc 18) 9 = .ok (.aload_n 0, 1) := by decide +kernel
theorem d18_10 : decode (cc 18) 10 = .ok (.getfield 15, 3) := by decide +kernel
theorem d18_13 : decode (cc 18) 13 = .ok (.iload_n 1, 1) := by decide +kernel
theorem d18_14 : decode (cc 18) 14 = .ok (.iconst 1, 1) := by decide +kernel
theorem d18_15 : decode (cc 18) 15 = .ok (.isub, 1) := by decide +kernel
theorem d18_16 : decode (cc 18) 16 = .ok (.laload, 1) := by decide +kernel
theorem d18_17 : decode (cc 18) 17 = .ok (.lreturn, 1) := by decide +kernel
theorem d19_0 : decode (cc 19) 0 = .ok (.lconst 0, 1) := by decide +kernel
theorem d19_1 : decode (cc 19) 1 = .ok (.lstore_n 3, 1) := by decide +kernel
theorem d19_2 : decode (cc 19) 2 = .ok (.iload_n 2, 1) := by decide +kernel
theorem d19_3 : decode (cc 19) 3 = .ok (.istore 5, 2) := by decide +kernel
theorem d19_5 : decode (cc 19) 5 = .ok (.iload 5, 2) := by decide +kernel
theorem d19_7 : decode (cc 19) 7 = .ok (.bipush 12, 2) := by decide +kernel
theorem d19_9 : decode (cc 19) 9 = .ok (.if_icmp .ge 91, 3) := by decide +kernel
theorem d19_12 : decode (cc 19) 12 = .ok (.lload_n 3, 1) := by decide +kernel
theorem d19_13 : decode (cc 19) 13 = .ok (.iload 5, 2) := by decide +kernel
theorem d19_15 : decode (cc 19) 15 = .ok (.iload_n 2, 1) := by decide +kernel
theorem d19_16 : decode (cc 19) 16 = .ok (.isub, 1) := by decide +kernel
theorem d19_17 : decode (cc 19) 17 = .ok (.i2l, 1) := by decide +kernel
theorem d19_18 : decode (cc 19) 18 = .ok (.aload_n 0, 1) := by decide +kernel
theorem d19_19 : decode (cc 19) 19 = .ok (.getfield 15, 3) := by decide +kernel
theorem d19_22 : decode (cc 19) 22 = .ok (.iload 5, 2) := by decide +kernel
theorem d19_24 : decode (cc 19) 24 = .ok (.laload, 1) := by decide +kernel
theorem d19_25 : decode (cc 19) 25 = .ok (.aload_n 0, 1) := by decide +kernel
theorem d19_26 : decode (cc 19) 26 = .ok (.iload 5, 2) := by decide +kernel
theorem d19_28 : decode (cc 19) 28 = .ok (.invokevirtual 78, 3) := by decide +kernel
theorem d19_31 : decode (cc 19) 31 = .ok (.lsub, 1) := by decide +kernel
theorem d19_32 : decode (cc 19) 32 = .ok (.lmul, 1) := by decide +kernel
theorem d19_33 : decode (cc 19) 33 = .ok (.ladd, 1) := by decide +kernel
theorem d19_34 : decode (cc 19) 34 = .ok (.lstore_n 3, 1) := by decide +kernel
theorem d19_35 : decode (cc 19) 35 = .ok (.aload_n 1, 1) := by decide +kernel
theorem d19_36 : decode (cc 19) 36 = .ok (.getfield 86, 3) := by decide +kernel
theorem d19_39 : decode (cc 19) 39 = .ok (.i2l, 1) := by decide +kernel
theorem d19_40 : decode (cc 19) 40 = .ok (.aload_n 1, 1) := by decide +kernel
theorem d19_41 : decode (cc 19) 41 = .ok (.getfield 89, 3) := by decide +kernel
theorem d19_44 : decode (cc 19) 44 = .ok (.i2l, 1) := by decide +kernel
theorem d19_45 : decode (cc 19) 45 = .ok (.lload_n 3, 1) := by decide +kernel
theorem d19_46 : decode (cc 19) 46 = .ok (.lmul, 1) := by decide +kernel
theorem d19_47 : decode (cc 19) 47 = .ok (.ladd, 1) := by decide +kernel
theorem d19_48 : decode (cc 19) 48 = .ok (.aload_n 0, 1) := by decide +kernel
theorem d19_49 : decode (cc 19) 49 = .ok (.getfield 18, 3) := by decide +kernel
theorem d19_52 : decode (cc 19) 52 = .ok (.iload 5, 2) := by decide +kernel
theorem d19_54 : decode (cc 19) 54 = .ok (.iconst 1, 1) := by decide +kernel
theorem d19_55 : decode (cc 19) 55 = .ok (.iadd, 1) := by decide +kernel
theorem d19_56 : decode (cc 19) 56 = .ok (.laload, 1) := by decide +kernel
theorem d19_57 : decode (cc 19) 57 = .ok (.ladd, 1) := by decide +kernel
theorem d19_58 : decode (cc 19) 58 = .ok (.lstore 6, 2) := by decide +kernel
theorem d19_60 : decode (cc 19) 60 = .ok (.iload 5, 2) := by decide +kernel
theorem d19_62 : decode (cc 19) 62 = .ok (.iload_n 2, 1) := by decide +kernel
theorem d19_63 : decode (cc 19) 63 = .ok (.if_icmp .eq 15, 3) := by decide +kernel
theorem d19_66 : decode (cc 19) 66 = .ok (.lload 6, 2) := by decide +kernel
theorem d19_68 : decode (cc 19) 68 = .ok (.aload_n 0, 1) := by decide +kernel
theorem d19_69 : decode (cc 19) 69 = .ok (.getfield 18, 3) := by decide +kernel
theorem d19_72 : decode (cc 19) 72 = .ok (.iload_n 2, 1) := by decide +kernel
theorem d19_73 : decode (cc 19) 73 = .ok (.laload, 1) := by decide +kernel
theorem d19_74 : decode (cc 19) 74 = .ok (.lcmp, 1) := by decide +kernel
theorem d19_75 : decode (cc 19) 75 = .ok (.ifCond .ge 19, 3) := by decide +kernel
theorem d19_78 : decode (cc 19) 78 = .ok (.aload_n 0, 1) := by decide +kernel
theorem d19_79 : decode (cc 19) 79 = .ok (.getfield 18, 3) := by decide +kernel
theorem d19_82 : decode (cc 19) 82 = .ok (.iload_n 2, 1) := by decide +kernel
theorem d19_83 : decode (cc 19) 83 = .ok (.lload 6, 2) := by decide +kernel
theorem d19_85 : decode (cc 19) 85 = .ok (.lastore, 1) := by decide +kernel
theorem d19_86 : decode (cc 19) 86 = .ok (.aload_n 0, 1) := by decide +kernel
theorem d19_87 : decode (cc 19) 87 = .ok (.getfield 21, 3) := by decide +kernel
theorem d19_90 : decode (cc 19) 90 = .ok (.iload_n 2, 1) := by decide +kernel
theorem d19_91 : decode (cc 19) 91 = .ok (.iload 5, 2) := by decide +kernel
theorem d19_93 : decode (cc 19) 93 = .ok (.iastore, 1) := by decide +kernel
theorem d19_94 : decode (cc 19) 94 = .ok (.iinc 5 1, 3) := by decide +kernel
theorem d19_97 : decode (cc 19) 97 = .ok (.goto (-92), 3) := by decide +kernel
theorem d19_100 : decode (cc 19) 100 = .ok (.return_, 1) := by decide +kernel
theorem d20_0 : decode (cc 20) 0 = .ok (.aload_n 1, 1) := by decide +kernel
theorem d20_1 : decode (cc 20) 1 = .ok (.getfield 29, 3) := by decide +kernel
theorem d20_4 : decode (cc 20) 4 = .ok (.tableswitch 79 1 3 #[28, 44, 65], 28) := by decide +kernel
theorem d20_32 : decode (cc 20) 32 = .ok (.aload_n 1, 1) := by decide +kernel
theorem d20_33 : decode (cc 20) 33 = .ok (.getfield 67, 3) := by decide +kernel
theorem d20_36 : decode (cc 20) 36 = .ok (.aload_n 0, 1) := by decide +kernel
theorem d20_37 : decode (cc 20) 37 = .ok (.getfield 15, 3) := by decide +kernel
theorem d20_40 : decode (cc 20) 40 = .ok (.iload_n 2, 1) := by decide +kernel
theorem d20_41 : decode (cc 20) 41 = .ok (.laload, 1) := by decide +kernel
theorem d20_42 : decode (cc 20) 42 = .ok (.lload_n 3, 1) := by decide +kernel
theorem d20_43 : decode (cc 20) 43 = .ok (.lsub, 1) := by decide +kernel
theorem d20_44 : decode (cc 20) 44 = .ok (.invokestatic 70, 3) := by decide +kernel
theorem d20_47 : decode (cc 20) 47 = .ok (.lreturn, 1) := by decide +kernel
theorem d20_48 : decode (cc 20) 48 = .ok (.aload_n 0, 1) := by decide +kernel
theorem d20_49 : decode (cc 20) 49 = .ok (.getfield 15, 3) := by decide +kernel
theorem d20_52 : decode (cc 20) 52 = .ok (.iload_n 2, 1) := by decide +kernel
theorem d20_53 : decode (cc 20) 53 = .ok (.aload_n 1, 1) := by decide +kernel
theorem d20_54 : decode (cc 20) 54 = .ok (.getfield 67, 3) := by decide +kernel
theorem d20_57 : decode (cc 20) 57 = .ok (.iadd, 1) := by decide +kernel
theorem d20_58 : decode (cc 20) 58 = .ok (.iconst 1, 1) := by decide +kernel
theorem d20_59 : decode (cc 20) 59 = .ok (.isub, 1) := by decide +kernel
theorem d20_60 : decode (cc 20) 60 = .ok (.bipush 11, 2) := by decide +kernel
theorem d20_62 : decode (cc 20) 62 = .ok (.invokestatic 74, 3) := by decide +kernel
theorem d20_65 : decode (cc 20) 65 = .ok (.laload, 1) := by decide +kernel
theorem d20_66 : decode (cc 20) 66 = .ok (.lload_n 3, 1) := by decide +kernel
theorem d20_67 : decode (cc 20) 67 = .ok (.lsub, 1) := by decide +kernel
theorem d20_68 : decode (cc 20) 68 = .ok (.lreturn, 1) := by decide +kernel
theorem d20_69 : decode (cc 20) 69 = .ok (.aload_n 0, 1) := by decide +kernel
theorem d20_70 : decode (cc 20) 70 = .ok (.getfield 15, 3) := by decide +kernel
theorem d20_73 : decode (cc 20) 73 = .ok (.aload_n 0, 1) := by decide +kernel
theorem d20_74 : decode (cc 20) 74 = .ok (.getfield 21, 3) := by decide +kernel
theorem d20_77 : decode (cc 20) 77 = .ok (.iload_n 2, 1) := by decide +kernel
theorem d20_78 : decode (cc 20) 78 = .ok (.iaload, 1) := by decide +kernel
theorem d20_79 : decode (cc 20) 79 = .ok (.laload, 1) := by decide +kernel
theorem d20_80 : decode (cc 20) 80 = .ok (.lload_n 3, 1) := by decide +kernel
theorem d20_81 : decode (cc 20) 81 = .ok (.lsub, 1) := by decide +kernel
theorem d20_82 : decode (cc 20) 82 = .ok (.lreturn, 1) := by decide +kernel
theorem d20_83 : decode (cc 20) 83 = .ok (.aload_n 0, 1) := by decide +kernel
theorem d20_84 : decode (cc 20) 84 = .ok (.getfield 15, 3) := by decide +kernel
theorem d20_87 : decode (cc 20) 87 = .ok (.iload_n 2, 1) := by decide +kernel
theorem d20_88 : decode (cc 20) 88 = .ok (.laload, 1) := by decide +kernel
theorem d20_89 : decode (cc 20) 89 = .ok (.lload_n 3, 1) := by decide +kernel
theorem d20_90 : decode (cc 20) 90 = .ok (.lsub, 1) := by decide +kernel
theorem d20_91 : decode (cc 20) 91 = .ok (.lreturn, 1) := by decide +kernel
theorem d21_0 : decode (cc 21) 0 = .ok (.iload_n 0, 1) := by decide +kernel
theorem d21_1 : decode (cc 21) 1 = .ok (.iconst 1, 1) := by decide +kernel
theorem d21_2 : decode (cc 21) 2 = .ok (.if_icmp .ge 7, 3) := by decide +kernel
theorem d21_5 : decode (cc 21) 5 = .ok (.lload_n 1, 1) := by decide +kernel
theorem d21_6 : decode (cc 21) 6 = .ok (.goto 15, 3) := by decide +kernel
theorem d21_9 : decode (cc 21) 9 = .ok (.lload_n 1, 1) := by decide +kernel
theorem d21_10 : decode (cc 21) 10 = .ok (.iload_n 0, 1) := by decide +kernel
theorem d21_11 : decode (cc 21) 11 = .ok (.i2l, 1) := by decide +kernel
theorem d21_12 : decode (cc 21) 12 = .ok (.ladd, 1) := by decide +kernel
theorem d21_13 : decode (cc 21) 13 = .ok (.lconst 1, 1) := by decide +kernel
theorem d21_14 : decode (cc 21) 14 = .ok (.lsub, 1) := by decide +kernel
theorem d21_15 : decode (cc 21) 15 = .ok (.iload_n 0, 1) := by decide +kernel
theorem d21_16 : decode (cc 21) 16 = .ok (.i2l, 1) := by decide +kernel
theorem d21_17 : decode (cc 21) 17 = .ok (.ldiv, 1) := by decide +kernel
theorem d21_18 : decode (cc 21) 18 = .ok (.iload_n 0, 1) := by decide +kernel
theorem d21_19 : decode (cc 21) 19 = .ok (.i2l, 1) := by decide +kernel
theorem d21_20 : decode (cc 21) 20 = .ok (.lmul, 1) := by decide +kernel
theorem d21_21 : decode (cc 21) 21 = .ok (.lreturn, 1) := by decide +kernel
theorem d22_0 : decode (cc 22) 0 = .ok (.aload_n 0, 1) := by decide +kernel
theorem d22_1 : decode (cc 22) 1 = .ok (.iload_n 1, 1) := by decide +kernel
theorem d22_2 : decode (cc 22) 2 = .ok (.iload_n 2, 1) := by decide +kernel
theorem d22_3 : decode (cc 22) 3 = .ok (.iload_n 3, 1) := by decide +kernel
theorem d22_4 : decode (cc 22) 4 = .ok (.iload 4, 2) := by decide +kernel
theorem d22_6 : decode (cc 22) 6 = .ok (.iload 5, 2) := by decide +kernel
theorem d22_8 : decode (cc 22) 8 = .ok (.invokevirtual 7, 3) := by decide +kernel
theorem d22_11 : decode (cc 22) 11 = .ok (.goto 11, 3) := by decide +kernel
theorem d22_14 : decode (cc 22) 14 = .ok (.astore 6, 2) := by decide +kernel
theorem d22_16 : decode (cc 22) 16 = .ok (.iconst 1, 1) := by decide +kernel
theorem d22_17 : decode (cc 22) 17 = .ok (.ireturn, 1) := by decide +kernel
theorem d22_18 : decode (cc 22) 18 = .ok (.astore 6, 2) := by decide +kernel
theorem d22_20 : decode (cc 22) 20 = .ok (.iconst 2, 1) := by decide +kernel
theorem d22_21 : decode (cc 22) 21 = .ok (.ireturn, 1) := by decide +kernel
theorem d22_22 : decode (cc 22) 22 = .ok (.iconst 0, 1) := by decide +kernel
theorem d22_23 : decode (cc 22) 23 = .ok (.ireturn, 1) := by decide +kernel
theorem d23_0 : decode (cc 23) 0 = .ok (.aload_n 0, 1) := by decide +kernel
theorem d23_1 : decode (cc 23) 1 = .ok (.iload_n 1, 1) := by decide +kernel
theorem d23_2 : decode (cc 23) 2 = .ok (.invokevirtual 50, 3) := by decide +kernel
theorem d23_5 : decode (cc 23) 5 = .ok (.astore 6, 2) := by decide +kernel
theorem d23_7 : decode (cc 23) 7 = .ok (.iload_n 2, 1) := by decide +kernel
theorem d23_8 : decode (cc 23) 8 = .ok (.iconst 0, 1) := by decide +kernel
theorem d23_9 : decode (cc 23) 9 = .ok (.iconst 3, 1) := by decide +kernel
theorem d23_10 : decode (cc 23) 10 = .ok (.invokestatic 54, 3) := by decide +kernel
theorem d23_13 : decode (cc 23) 13 = .ok (.iload_n 3, 1) := by decide +kernel
theorem d23_14 : decode (cc 23) 14 = .ok (.iconst 1, 1) := by decide +kernel
theorem d23_15 : decode (cc 23) 15 = .ok (.sipush 1000, 3) := by decide +kernel
theorem d23_18 : decode (cc 23) 18 = .ok (.invokestatic 54, 3) := by decide +kernel
theorem d23_21 : decode (cc 23) 21 = .ok (.iload 4, 2) := by decide +kernel
theorem d23_23 : decode (cc 23) 23 = .ok (.iconst 0, 1) := by decide +kernel
theorem d23_24 : decode (cc 23) 24 = .ok (.iconst 4, 1) := by decide +kernel
theorem d23_25 : decode (cc 23) 25 = .ok (.invokestatic 54, 3) := by decide +kernel
theorem d23_28 : decode (cc 23) 28 = .ok (.iload 5, 2) := by decide +kernel
theorem d23_30 : decode (cc 23) 30 = .ok (.iconst 0, 1) := by decide +kernel
theorem d23_31 : decode (cc 23) 31 = .ok (.sipush 1000, 3) := by decide +kernel
theorem d23_34 : decode (cc 23) 34 = .ok (.invokestatic 54, 3) := by decide +kernel
theorem d23_37 : decode (cc 23) 37 = .ok (.aload 6, 2) := by decide +kernel
theorem d23_39 : decode (cc 23) 39 = .ok (.iload_n 2, 1) := by decide +kernel
theorem d23_40 : decode (cc 23) 40 = .ok (.putfield 58, 3) := by decide +kernel
theorem d23_43 : decode (cc 23) 43 = .ok (.aload 6, 2) := by decide +kernel
theorem d23_45 : decode (cc 23) 45 = .ok (.iload_n 3, 1) := by decide +kernel
theorem d23_46 : decode (cc 23) 46 = .ok (.putfield 62, 3) := by decide +kernel
theorem d23_49 : decode (cc 23) 49 = .ok (.aload 6, 2) := by decide +kernel
theorem d23_51 : decode (cc 23) 51 = .ok (.iload 4, 2) := by decide +kernel
theorem d23_53 : decode (cc 23) 53 = .ok (.putfield 65, 3) := by decide +kernel
theorem d23_56 : decode (cc 23) 56 = .ok (.aload 6, 2) := by decide +kernel
theorem d23_58 : decode (cc 23) 58 = .ok (.iload 5, 2) := by decide +kernel
theorem d23_60 : decode (cc 23) 60 = .ok (.putfield 68, 3) := by decide +kernel
theorem d23_63 : decode (cc 23) 63 = .ok (.aload 6, 2) := by decide +kernel
theorem d23_65 : decode (cc 23) 65 = .ok (.iconst 1, 1) := by decide +kernel
theorem d23_66 : decode (cc 23) 66 = .ok (.putfield 71, 3) := by decide +kernel
theorem d23_69 : decode (cc 23) 69 = .ok (.return_, 1) := by decide +kernel
theorem d24_0 : decode (cc 24) 0 = .ok (.iload_n 1, 1) := by decide +kernel
theorem d24_1 : decode (cc 24) 1 = .ok (.invokestatic 95, 3) := by decide +kernel
theorem d24_4 : decode (cc 24) 4 = .ok (.aload_n 0, 1) := by decide +kernel
theorem d24_5 : decode (cc 24) 5 = .ok (.getfield 11, 3) := by decide +kernel
theorem d24_8 : decode (cc 24) 8 = .ok (.iload_n 1, 1) := by decide +kernel
theorem d24_9 : decode (cc 24) 9 = .ok (.aaload, 1) := by decide +kernel
theorem d24_10 : decode (cc 24) 10 = .ok (.areturn, 1) := by decide +kernel
theorem d25_0 : decode (cc 25) 0 = .ok (.iload_n 0, 1) := by decide +kernel
theorem d25_1 : decode (cc 25) 1 = .ok (.ifCond .lt 9, 3) := by decide +kernel
theorem d25_4 : decode (cc 25) 4 = .ok (.iload_n 0, 1) := by decide +kernel
theorem d25_5 : decode (cc 25) 5 = .ok (.bipush 12, 2) := by decide +kernel
theorem d25_7 : decode (cc 25) 7 = .ok (.if_icmp .lt 13, 3) := by decide +kernel
theorem d25_10 : decode (cc 25) 10 = .ok (.new 196, 3) := by decide +kernel
theorem d25_13 : decode (cc 25) 13 = .ok (.dup, 1) := by decide +kernel
theorem d25_14 : decode (cc 25) 14 = .ok (.ldc 198, 2) := by decide +kernel
theorem d25_16 : decode (cc 25) 16 = .ok (.invokespecial 200, 3) := by decide +kernel
theorem d25_19 : decode (cc 25) 19 = .ok (.athrow, 1) := by decide +kernel
theorem d25_20 : decode (cc 25) 20 = .ok (.return_, 1) := by decide +kernel
theorem d26_0 : decode (cc 26) 0 = .ok (.iload_n 0, 1) := by decide +kernel
theorem d26_1 : decode (cc 26) 1 = .ok (.iload_n 1, 1) := by decide +kernel
theorem d26_2 : decode (cc 26) 2 = .ok (.if_icmp .lt 8, 3) := by decide +kernel
theorem d26_5 : decode (cc 26) 5 = .ok (.iload_n 0, 1) := by decide +kernel
theorem d26_6 : decode (cc 26) 6 = .ok (.iload_n 2, 1) := by decide +kernel
theorem d26_7 : decode (cc 26) 7 = .ok (.if_icmp .le 13, 3) := by decide +kernel
theorem d26_10 : decode (cc 26) 10 = .ok (.new 207, 3) := by decide +kernel
theorem d26_13 : decode (cc 26) 13 = .ok (.dup, 1) := by decide +kernel
theorem d26_14 : decode (cc 26) 14 = .ok (.ldc 209, 2) := by decide +kernel
theorem d26_16 : decode (cc 26) 16 = .ok (.invokespecial 211, 3) := by decide +kernel
theorem d26_19 : decode (cc 26) 19 = .ok (.athrow, 1) := by decide +kernel
theorem d26_20 : decode (cc 26) 20 = .ok (.return_, 1) := by decide +kernel
theorem d27_0 : decode (cc 27) 0 = .ok (.aload_n 0, 1) := by decide +kernel
theorem d27_1 : decode (cc 27) 1 = .ok (.iload_n 1, 1) := by decide +kernel
theorem d27_2 : decode (cc 27) 2 = .ok (.iload_n 2, 1) := by decide +kernel
theorem d27_3 : decode (cc 27) 3 = .ok (.iload_n 3, 1) := by decide +kernel
theorem d27_4 : decode (cc 27) 4 = .ok (.iload 4, 2) := by decide +kernel
theorem d27_6 : decode (cc 27) 6 = .ok (.invokevirtual 17, 3) := by decide +kernel
theorem d27_9 : decode (cc 27) 9 = .ok (.goto 11, 3) := by decide +kernel
theorem d27_12 : decode (cc 27) 12 = .ok (.astore 5, 2) := by decide +kernel
theorem d27_14 : decode (cc 27) 14 = .ok (.iconst 1, 1) := by decide +kernel
theorem d27_15 : decode (cc 27) 15 = .ok (.ireturn, 1) := by decide +kernel
theorem d27_16 : decode (cc 27) 16 = .ok (.astore 5, 2) := by decide +kernel
theorem d27_18 : decode (cc 27) 18 = .ok (.iconst 2, 1) := by decide +kernel
theorem d27_19 : decode (cc 27) 19 = .ok (.ireturn, 1) := by decide +kernel
theorem d27_20 : decode (cc 27) 20 = .ok (.iconst 0, 1) := by decide +kernel
theorem d27_21 : decode (cc 27) 21 = .ok (.ireturn, 1) := by decide +kernel
theorem d28_0 : decode (cc 28) 0 = .ok (.aload_n 0, 1) := by decide +kernel
theorem d28_1 : decode (cc 28) 1 = .ok (.iload_n 1, 1) := by decide +kernel
theorem d28_2 : decode (cc 28) 2 = .ok (.invokevirtual 50, 3) := by decide +kernel
theorem d28_5 : decode (cc 28) 5 = .ok (.astore 5, 2) := by decide +kernel
theorem d28_7 : decode (cc 28) 7 = .ok (.iload_n 2, 1) := by decide +kernel
theorem d28_8 : decode (cc 28) 8 = .ok (.iconst 0, 1) := by decide +kernel
theorem d28_9 : decode (cc 28) 9 = .ok (.sipush 200, 3) := by decide +kernel
theorem d28_12 : decode (cc 28) 12 = .ok (.invokestatic 54, 3) := by decide +kernel
theorem d28_15 : decode (cc 28) 15 = .ok (.iload_n 3, 1) := by decide +kernel
theorem d28_16 : decode (cc 28) 16 = .ok (.iconst 0, 1) := by decide +kernel
theorem d28_17 : decode (cc 28) 17 = .ok (.ldc 75, 2) := by decide +kernel
theorem d28_19 : decode (cc 28) 19 = .ok (.invokestatic 54, 3) := by decide +kernel
theorem d28_22 : decode (cc 28) 22 = .ok (.iload 4, 2) := by decide +kernel
theorem d28_24 : decode (cc 28) 24 = .ok (.iconst 0, 1) := by decide +kernel
theorem d28_25 : decode (cc 28) 25 = .ok (.bipush 100, 2) := by decide +kernel
theorem d28_27 : decode (cc 28) 27 = .ok (.invokestatic 54, 3) := by decide +kernel
theorem d28_30 : decode (cc 28) 30 = .ok (.aload 5, 2) := by decide +kernel
theorem d28_32 : decode (cc 28) 32 = .ok (.iload_n 2, 1) := by decide +kernel
theorem d28_33 : decode (cc 28) 33 = .ok (.putfield 76, 3) := by decide +kernel
theorem d28_36 : decode (cc 28) 36 = .ok (.aload 5, 2) := by decide +kernel
theorem d28_38 : decode (cc 28) 38 = .ok (.iload_n 3, 1) := by decide +kernel
theorem d28_39 : decode (cc 28) 39 = .ok (.putfield 79, 3) := by decide +kernel
theorem d28_42 : decode (cc 28) 42 = .ok (.aload 5, 2) := by decide +kernel
theorem d28_44 : decode (cc 28) 44 = .ok (.iload 4, 2) := by decide +kernel
theorem d28_46 : decode (cc 28) 46 = .ok (.putfield 82, 3) := by decide +kernel
theorem d28_49 : decode (cc 28) 49 = .ok (.aload 5, 2) := by decide +kernel
theorem d28_51 : decode (cc 28) 51 = .ok (.iconst 1, 1) := by decide +kernel
theorem d28_52 : decode (cc 28) 52 = .ok (.putfield 71, 3) := by decide +kernel
theorem d28_55 : decode (cc 28) 55 = .ok (.return_, 1) := by decide +kernel
theorem d29_0 : decode (cc 29) 0 = .ok (.aload_n 0, 1) := by decide +kernel
theorem d29_1 : decode (cc 29) 1 = .ok (.iload_n 1, 1) := by decide +kernel
theorem d29_2 : decode (cc 29) 2 = .ok (.iload_n 2, 1) := by decide +kernel
theorem d29_3 : decode (cc 29) 3 = .ok (.iload_n 3, 1) := by decide +kernel
theorem d29_4 : decode (cc 29) 4 = .ok (.invokevirtual 21, 3) := by decide +kernel
theorem d29_7 : decode (cc 29) 7 = .ok (.goto 11, 3) := by decide +kernel
theorem d29_10 : decode (cc 29) 10 = .ok (.astore 4, 2) := by decide +kernel
theorem d29_12 : decode (cc 29) 12 = .ok (.iconst 1, 1) := by decide +kernel
theorem d29_13 : decode (cc 29) 13 = .ok (.ireturn, 1) := by decide +kernel
theorem d29_14 : decode (cc 29) 14 = .ok (.astore 4, 2) := by decide +kernel
theorem d29_16 : decode (cc 29) 16 = .ok (.iconst 2, 1) := by decide +kernel
theorem d29_17 : decode (cc 29) 17 = .ok (.ireturn, 1) := by decide +kernel
theorem d29_18 : decode (cc 29) 18 = .ok (.iconst 0, 1) := by decide +kernel
theorem d29_19 : decode (cc 29) 19 = .ok (.ireturn, 1) := by decide +kernel
theorem d30_0 : decode (cc 30) 0 = .ok (.aload_n 0, 1) := by decide +kernel
theorem d30_1 : decode (cc 30) 1 = .ok (.iload_n 1, 1) := by decide +kernel
theorem d30_2 : decode (cc 30) 2 = .ok (.invokevirtual 50, 3) := by decide +kernel
theorem d30_5 : decode (cc 30) 5 = .ok (.astore 4, 2) := by decide +kernel
theorem d30_7 : decode (cc 30) 7 = .ok (.iload_n 2, 1) := by decide +kernel
theorem d30_8 : decode (cc 30) 8 = .ok (.invokestatic 85, 3) := by decide +kernel
theorem d30_11 : decode (cc 30) 11 = .ok (.iload_n 3, 1) := by decide +kernel
theorem d30_12 : decode (cc 30) 12 = .ok (.iconst 0, 1) := by decide +kernel
theorem d30_13 : decode (cc 30) 13 = .ok (.bipush 9, 2) := by decide +kernel
theorem d30_15 : decode (cc 30) 15 = .ok (.invokestatic 54, 3) := by decide +kernel
theorem d30_18 : decode (cc 30) 18 = .ok (.aload 4, 2) := by decide +kernel
theorem d30_20 : decode (cc 30) 20 = .ok (.iload_n 2, 1) := by decide +kernel
theorem d30_21 : decode (cc 30) 21 = .ok (.putfield 89, 3) := by decide +kernel
theorem d30_24 : decode (cc 30) 24 = .ok (.aload 4, 2) := by decide +kernel
theorem d30_26 : decode (cc 30) 26 = .ok (.iload_n 3, 1) := by decide +kernel
theorem d30_27 : decode (cc 30) 27 = .ok (.putfield 92, 3) := by decide +kernel
theorem d30_30 : decode (cc 30) 30 = .ok (.return_, 1) := by decide +kernel
theorem d31_0 : decode (cc 31) 0 = .ok (.iload_n 0, 1) := by decide +kernel
theorem d31_1 : decode (cc 31) 1 = .ok (.ifCond .lt 8, 3) := by decide +kernel
theorem d31_4 : decode (cc 31) 4 = .ok (.iload_n 0, 1) := by decide +kernel
theorem d31_5 : decode (cc 31) 5 = .ok (.iconst 3, 1) := by decide +kernel
theorem d31_6 : decode (cc 31) 6 = .ok (.if_icmp .lt 13, 3) := by decide +kernel
theorem d31_9 : decode (cc 31) 9 = .ok (.new 196, 3) := by decide +kernel
theorem d31_12 : decode (cc 31) 12 = .ok (.dup, 1) := by decide +kernel
theorem d31_13 : decode (cc 31) 13 = .ok (.ldc 203, 2) := by decide +kernel
theorem d31_15 : decode (cc 31) 15 = .ok (.invokespecial 200, 3) := by decide +kernel
theorem d31_18 : decode (cc 31) 18 = .ok (.athrow, 1) := by decide +kernel
theorem d31_19 : decode (cc 31) 19 = .ok (.return_, 1) := by decide +kernel
theorem d32_0 : decode (cc 32) 0 = .ok (.aload_n 0, 1) := by decide +kernel
theorem d32_1 : decode (cc 32) 1 = .ok (.iload_n 1, 1) := by decide +kernel
theorem d32_2 : decode (cc 32) 2 = .ok (.iload_n 2, 1) := by decide +kernel
theorem d32_3 : decode (cc 32) 3 = .ok (.iload_n 3, 1) := by decide +kernel
theorem d32_4 : decode (cc 32) 4 = .ok (.iload 4, 2) := by decide +kernel
theorem d32_6 : decode (cc 32) 6 = .ok (.iload 5, 2) := by decide +kernel
theorem d32_8 : decode (cc 32) 8 = .ok (.invokevirtual 25, 3) := by decide +kernel
theorem d32_11 : decode (cc 32) 11 = .ok (.goto 15, 3) := by decide +kernel
theorem d32_14 : decode (cc 32) 14 = .ok (.astore 6, 2) := by decide +kernel
theorem d32_16 : decode (cc 32) 16 = .ok (.iconst 1, 1) := by decide +kernel
theorem d32_17 : decode (cc 32) 17 = .ok (.ireturn, 1) := by decide +kernel
theorem d32_18 : decode (cc 32) 18 = .ok (.astore 6, 2) := by decide +kernel
theorem d32_20 : decode (cc 32) 20 = .ok (.iconst 2, 1) := by decide +kernel
theorem d32_21 : decode (cc 32) 21 = .ok (.ireturn, 1) := by decide +kernel
theorem d32_22 : decode (cc 32) 22 = .ok (.astore 6, 2) := by decide +kernel
theorem d32_24 : decode (cc 32) 24 = .ok (.iconst 3, 1) := by decide +kernel
theorem d32_25 : decode (cc 32) 25 = .ok (.ireturn, 1) := by decide +kernel
theorem d32_26 : decode (cc 32) 26 = .ok (.iconst 0, 1) := by decide +kernel
theorem d32_27 : decode (cc 32) 27 = .ok (.ireturn, 1) := by decide +kernel
theorem d33_0 : decode (cc 33) 0 = .ok (.iload_n 1, 1) := by decide +kernel
theorem d33_1 : decode (cc 33) 1 = .ok (.invokestatic 95, 3) := by decide +kernel
theorem d33_4 : decode (cc 33) 4 = .ok (.aload_n 0, 1) := by decide +kernel
theorem d33_5 : decode (cc 33) 5 = .ok (.iload_n 2, 1) := by decide +kernel
theorem d33_6 : decode (cc 33) 6 = .ok (.invokevirtual 50, 3) := by decide +kernel
theorem d33_9 : decode (cc 33) 9 = .ok (.astore 6, 2) := by decide +kernel
theorem d33_11 : decode (cc 33) 11 = .ok (.iload_n 3, 1) := by decide +kernel
theorem d33_12 : decode (cc 33) 12 = .ok (.iconst 0, 1) := by decide +kernel
theorem d33_13 : decode (cc 33) 13 = .ok (.bipush 9, 2) := by decide +kernel
theorem d33_15 : decode (cc 33) 15 = .ok (.invokestatic 54, 3) := by decide +kernel
theorem d33_18 : decode (cc 33) 18 = .ok (.iload_n 1, 1) := by decide +kernel
theorem d33_19 : decode (cc 33) 19 = .ok (.iload_n 2, 1) := by decide +kernel
theorem d33_20 : decode (cc 33) 20 = .ok (.invokestatic 98, 3) := by decide +kernel
theorem d33_23 : decode (cc 33) 23 = .ok (.istore 7, 2) := by decide +kernel
theorem d33_25 : decode (cc 33) 25 = .ok (.iload_n 3, 1) := by decide +kernel
theorem d33_26 : decode (cc 33) 26 = .ok (.ifCond .ne 15, 3) := by decide +kernel
theorem d33_29 : decode (cc 33) 29 = .ok (.aload_n 0, 1) := by decide +kernel
theorem d33_30 : decode (cc 33) 30 = .ok (.getfield 18, 3) := by decide +kernel
theorem d33_33 : decode (cc 33) 33 = .ok (.iload 7, 2) := by decide +kernel
theorem d33_35 : decode (cc 33) 35 = .ok (.invokevirtual 102, 3) := by decide +kernel
theorem d33_38 : decode (cc 33) 38 = .ok (.goto 56, 3) := by decide +kernel
theorem d33_41 : decode (cc 33) 41 = .ok (.iload 4, 2) := by decide +kernel
theorem d33_43 : decode (cc 33) 43 = .ok (.iconst 0, 1) := by decide +kernel
theorem d33_44 : decode (cc 33) 44 = .ok (.bipush 11, 2) := by decide +kernel
theorem d33_46 : decode (cc 33) 46 = .ok (.invokestatic 54, 3) := by decide +kernel
theorem d33_49 : decode (cc 33) 49 = .ok (.iload 5, 2) := by decide +kernel
theorem d33_51 : decode (cc 33) 51 = .ok (.iload 4, 2) := by decide +kernel
theorem d33_53 : decode (cc 33) 53 = .ok (.bipush 11, 2) := by decide +kernel
theorem d33_55 : decode (cc 33) 55 = .ok (.invokestatic 54, 3) := by decide +kernel
theorem d33_58 : decode (cc 33) 58 = .ok (.aload_n 0, 1) := by decide +kernel
theorem d33_59 : decode (cc 33) 59 = .ok (.getfield 18, 3) := by decide +kernel
theorem d33_62 : decode (cc 33) 62 = .ok (.iload 7, 2) := by decide +kernel
theorem d33_64 : decode (cc 33) 64 = .ok (.invokevirtual 105, 3) := by decide +kernel
theorem d33_67 : decode (cc 33) 67 = .ok (.ifCond .ne 13, 3) := by decide +kernel
theorem d33_70 : decode (cc 33) 70 = .ok (.new 109, 3) := by decide +kernel
theorem d33_73 : decode (cc 33) 73 = .ok (.dup, 1) := by decide +kernel
theorem d33_74 : decode (cc 33) 74 = .ok (.ldc 111, 2) := by decide +kernel
theorem d33_76 : decode (cc 33) 76 = .ok (.invokespecial 113, 3) := by decide +kernel
theorem d33_79 : decode (cc 33) 79 = .ok (.athrow, 1) := by decide +kernel
theorem d33_80 : decode (cc 33) 80 = .ok (.aload_n 0, 1) := by decide +kernel
theorem d33_81 : decode (cc 33) 81 = .ok (.getfield 18, 3) := by decide +kernel
theorem d33_84 : decode (cc 33) 84 = .ok (.iload 7, 2) := by decide +kernel
theorem d33_86 : decode (cc 33) 86 = .ok (.iload_n 3, 1) := by decide +kernel
theorem d33_87 : decode (cc 33) 87 = .ok (.iload 4, 2) := by decide +kernel
theorem d33_89 : decode (cc 33) 89 = .ok (.iload 5, 2) := by decide +kernel
theorem d33_91 : decode (cc 33) 91 = .ok (.invokevirtual 116, 3) := by decide +kernel
theorem d33_94 : decode (cc 33) 94 = .ok (.aload 6, 2) := by decide +kernel
theorem d33_96 : decode (cc 33) 96 = .ok (.iconst 1, 1) := by decide +kernel
theorem d33_97 : decode (cc 33) 97 = .ok (.putfield 71, 3) := by decide +kernel
theorem d33_100 : decode (cc 33) 100 = .ok (.return_, 1) := by decide +kernel
theorem d34_0 : decode (cc 34) 0 = .ok (.aload_n 0, 1) := by decide +kernel
theorem d34_1 : decode (cc 34) 1 = .ok (.getfield 9, 3) := by decide +kernel
theorem d34_4 : decode (cc 34) 4 = .ok (.iload_n 1, 1) := by decide +kernel
theorem d34_5 : decode (cc 34) 5 = .ok (.iaload, 1) := by decide +kernel
theorem d34_6 : decode (cc 34) 6 = .ok (.ifCond .le 13, 3) := by decide +kernel
theorem d34_9 : decode (cc 34) 9 = .ok (.aload_n 0, 1) := by decide +kernel
theorem d34_10 : decode (cc 34) 10 = .ok (.dup, 1) := by decide +kernel
theorem d34_11 : decode (cc 34) 11 = .ok (.getfield 27, 3) := by decide +kernel
theorem d34_14 : decode (cc 34) 14 = .ok (.iconst 1, 1) := by decide +kernel
theorem d34_15 : decode (cc 34) 15 = .ok (.isub, 1) := by decide +kernel
theorem d34_16 : decode (cc 34) 16 = .ok (.putfield 27, 3) := by decide +kernel
theorem d34_19 : decode (cc 34) 19 = .ok (.aload_n 0, 1) := by decide +kernel
theorem d34_20 : decode (cc 34) 20 = .ok (.getfield 9, 3) := by decide +kernel
theorem d34_23 : decode (cc 34) 23 = .ok (.iload_n 1, 1) := by decide +kernel
theorem d34_24 : decode (cc 34) 24 = .ok (.iconst 0, 1) := by decide +kernel
theorem d34_25 : decode (cc 34) 25 = .ok (.iastore, 1) := by decide +kernel
theorem d34_26 : decode (cc 34) 26 = .ok (.aload_n 0, 1) := by decide +kernel
theorem d34_27 : decode (cc 34) 27 = .ok (.invokevirtual 35, 3) := by decide +kernel
theorem d34_30 : decode (cc 34) 30 = .ok (.return_, 1) := by decide +kernel
theorem d35_0 : decode (cc 35) 0 = .ok (.aload_n 0, 1) := by decide +kernel
theorem d35_1 : decode (cc 35) 1 = .ok (.iconst (-1), 1) := by decide +kernel
theorem d35_2 : decode (cc 35) 2 = .ok (.invokevirtual 31, 3) := by decide +kernel
theorem d35_5 : decode (cc 35) 5 = .ok (.pop, 1) := by decide +kernel
theorem d35_6 : decode (cc 35) 6 = .ok (.aload_n 0, 1) := by decide +kernel
theorem d35_7 : decode (cc 35) 7 = .ok (.getfield 24, 3) := by decide +kernel
theorem d35_10 : decode (cc 35) 10 = .ok (.iconst 0, 1) := by decide +kernel
theorem d35_11 : decode (cc 35) 11 = .ok (.aload_n 0, 1) := by decide +kernel
theorem d35_12 : decode (cc 35) 12 = .ok (.getfield 21, 3) := by decide +kernel
theorem d35_15 : decode (cc 35) 15 = .ok (.iconst 0, 1) := by decide +kernel
theorem d35_16 : decode (cc 35) 16 = .ok (.bipush 12, 2) := by decide +kernel
theorem d35_18 : decode (cc 35) 18 = .ok (.invokestatic 38, 3) := by decide +kernel
theorem d35_21 : decode (cc 35) 21 = .ok (.return_, 1) := by decide +kernel
theorem d36_0 : decode (cc 36) 0 = .ok (.iconst 0, 1) := by decide +kernel
theorem d36_1 : decode (cc 36) 1 = .ok (.istore_n 2, 1) := by decide +kernel
theorem d36_2 : decode (cc 36) 2 = .ok (.aload_n 0, 1) := by decide +kernel
theorem d36_3 : decode (cc 36) 3 = .ok (.getfield 24, 3) := by decide +kernel
theorem d36_6 : decode (cc 36) 6 = .ok (.iconst 0, 1) := by decide +kernel
theorem d36_7 : decode (cc 36) 7 = .ok (.invokestatic 44, 3) := by decide +kernel
theorem d36_10 : decode (cc 36) 10 = .ok (.iconst 0, 1) := by decide +kernel
theorem d36_11 : decode (cc 36) 11 = .ok (.istore_n 3, 1) := by decide +kernel
theorem d36_12 : decode (cc 36) 12 = .ok (.iload_n 3, 1) := by decide +kernel
theorem d36_13 : decode (cc 36) 13 = .ok (.iconst 4, 1) := by decide +kernel
theorem d36_14 : decode (cc 36) 14 = .ok (.if_icmp .gt 104, 3) := by decide +kernel
theorem d36_17 : decode (cc 36) 17 = .ok (.iconst 0, 1) := by decide +kernel
theorem d36_18 : decode (cc 36) 18 = .ok (.istore 4, 2) := by decide +kernel
theorem d36_20 : decode (cc 36) 20 = .ok (.iload 4, 2) := by decide +kernel
theorem d36_22 : decode (cc 36) 22 = .ok (.bipush 12, 2) := by decide +kernel
theorem d36_24 : decode (cc 36) 24 = .ok (.if_icmp .ge 88, 3) := by decide +kernel
theorem d36_27 : decode (cc 36) 27 = .ok (.iconst 0, 1) := by decide +kernel
theorem d36_28 : decode (cc 36) 28 = .ok (.istore 5, 2) := by decide +kernel
theorem d36_30 : decode (cc 36) 30 = .ok (.iload 5, 2) := by decide +kernel
theorem d36_32 : decode (cc 36) 32 = .ok (.bipush 12, 2) := by decide +kernel
theorem d36_34 : decode (cc 36) 34 = .ok (.if_icmp .ge 72, 3) := by decide +kernel
theorem d36_37 : decode (cc 36) 37 = .ok (.iload 4, 2) := by decide +kernel
theorem d36_39 : decode (cc 36) 39 = .ok (.iload 5, 2) := by decide +kernel
theorem d36_41 : decode (cc 36) 41 = .ok (.invokestatic 50, 3) := by decide +kernel
theorem d36_44 : decode (cc 36) 44 = .ok (.istore 6, 2) := by decide +kernel
theorem d36_46 : decode (cc 36) 46 = .ok (.iload 6, 2) := by decide +kernel
theorem d36_48 : decode (cc 36) 48 = .ok (.iload_n 1, 1) := by decide +kernel
theorem d36_49 : decode (cc 36) 49 = .ok (.if_icmp .eq 13, 3) := by decide +kernel
theorem d36_52 : decode (cc 36) 52 = .ok (.aload_n 0, 1) := by decide +kernel
theorem d36_53 : decode (cc 36) 53 = .ok (.getfield 9, 3) := by decide +kernel
theorem d36_56 : decode (cc 36) 56 = .ok (.iload 6, 2) := by decide +kernel
theorem d36_58 : decode (cc 36) 58 = .ok (.iaload, 1) := by decide +kernel
theorem d36_59 : decode (cc 36) 59 = .ok (.ifCond .le 41, 3) := by decide +kernel
theorem d36_62 : decode (cc 36) 62 = .ok (.aload_n 0, 1) := by decide +kernel
theorem d36_63 : decode (cc 36) 63 = .ok (.getfield 24, 3) := by decide +kernel
theorem d36_66 : decode (cc 36) 66 = .ok (.iload 5, 2) := by decide +kernel
theorem d36_68 : decode (cc 36) 68 = .ok (.aload_n 0, 1) := by decide +kernel
theorem d36_69 : decode (cc 36) 69 = .ok (.getfield 24, 3) := by decide +kernel
theorem d36_72 : decode (cc 36) 72 = .ok (.iload 5, 2) := by decide +kernel
theorem d36_74 : decode (cc 36) 74 = .ok (.iaload, 1) := by decide +kernel
theorem d36_75 : decode (cc 36) 75 = .ok (.aload_n 0, 1) := by decide +kernel
theorem d36_76 : decode (cc 36) 76 = .ok (.getfield 24, 3) := by decide +kernel
theorem d36_79 : decode (cc 36) 79 = .ok (.iload 4, 2) := by decide +kernel
theorem d36_81 : decode (cc 36) 81 = .ok (.iaload, 1) := by decide +kernel
theorem d36_82 : decode (cc 36) 82 = .ok (.iconst 1, 1) := by decide +kernel
theorem d36_83 : decode (cc 36) 83 = .ok (.iadd, 1) := by decide +kernel
theorem d36_84 : decode (cc 36) 84 = .ok (.invokestatic 54, 3) := by decide +kernel
theorem d36_87 : decode (cc 36) 87 = .ok (.iastore, 1) := by decide +kernel
theorem d36_88 : decode (cc 36) 88 = .ok (.iload_n 2, 1) := by decide +kernel
theorem d36_89 : decode (cc 36) 89 = .ok (.aload_n 0, 1) := by decide +kernel
theorem d36_90 : decode (cc 36) 90 = .ok (.getfield 24, 3) := by decide +kernel
theorem d36_93 : decode (cc 36) 93 = .ok (.iload 5, 2) := by decide +kernel
theorem d36_95 : decode (cc 36) 95 = .ok (.iaload, 1) := by decide +kernel
theorem d36_96 : decode (cc 36) 96 = .ok (.invokestatic 54, 3) := by decide +kernel
theorem d36_99 : decode (cc 36) 99 = .ok (.istore_n 2, 1) := by decide +kernel
theorem d36_100 : decode (cc 36) 100 = .ok (.iinc 5 1, 3) := by decide +kernel
theorem d36_103 : decode (cc 36) 103 = .ok (.goto (-73), 3) := by decide +kernel
theorem d36_106 : decode (cc 36) 106 = .ok (.iinc 4 1, 3) := by decide +kernel
theorem d36_109 : decode (cc 36) 109 = .ok (.goto (-89), 3) := by decide +kernel
theorem d36_112 : decode (cc 36) 112 = .ok (.iinc 3 1, 3) := by decide +kernel
theorem d36_115 : decode (cc 36) 115 = .ok (.goto (-103), 3) := by decide +kernel
theorem d36_118 : decode (cc 36) 118 = .ok (.iload_n 2, 1) := by decide +kernel
theorem d36_119 : decode (cc 36) 119 = .ok (.ireturn, 1) := by decide +kernel
theorem d37_0 : decode (cc 37) 0 = .ok (.iconst 0, 1) := by decide +kernel
theorem d37_1 : decode (cc 37) 1 = .ok (.istore_n 2, 1) := by decide +kernel
theorem d37_2 : decode (cc 37) 2 = .ok (.aload_n 0, 1) := by decide +kernel
theorem d37_3 : decode (cc 37) 3 = .ok (.arraylength, 1) := by decide +kernel
theorem d37_4 : decode (cc 37) 4 = .ok (.istore_n 3, 1) := by decide +kernel
theorem d37_5 : decode (cc 37) 5 = .ok (.iload_n 2, 1) := by decide +kernel
theorem d37_6 : decode (cc 37) 6 = .ok (.iload_n 3, 1) := by decide +kernel
theorem d37_7 : decode (cc 37) 7 = .ok (.if_icmp .ge 13, 3) := by decide +kernel
theorem d37_10 : decode (cc 37) 10 = .ok (.aload_n 0, 1) := by decide +kernel
theorem d37_11 : decode (cc 37) 11 = .ok (.iload_n 2, 1) := by decide +kernel
theorem d37_12 : decode (cc 37) 12 = .ok (.iload_n 1, 1) := by decide +kernel
theorem d37_13 : decode (cc 37) 13 = .ok (.iastore, 1) := by decide +kernel
theorem d37_14 : decode (cc 37) 14 = .ok (.iinc 2 1, 3) := by decide +kernel
theorem d37_17 : decode (cc 37) 17 = .ok (.goto (-12), 3) := by decide +kernel
theorem d37_20 : decode (cc 37) 20 = .ok (.return_, 1) := by decide +kernel
theorem d38_0 : decode (cc 38) 0 = .ok (.aload_n 0, 1) := by decide +kernel
theorem d38_1 : decode (cc 38) 1 = .ok (.getfield 9, 3) := by decide +kernel
theorem d38_4 : decode (cc 38) 4 = .ok (.iload_n 1, 1) := by decide +kernel
theorem d38_5 : decode (cc 38) 5 = .ok (.iaload, 1) := by decide +kernel
theorem d38_6 : decode (cc 38) 6 = .ok (.ifCond .gt 21, 3) := by decide +kernel
theorem d38_9 : decode (cc 38) 9 = .ok (.aload_n 0, 1) := by decide +kernel
theorem d38_10 : decode (cc 38) 10 = .ok (.getfield 27, 3) := by decide +kernel
theorem d38_13 : decode (cc 38) 13 = .ok (.bipush 24, 2) := by decide +kernel
theorem d38_15 : decode (cc 38) 15 = .ok (.if_icmp .ge 16, 3) := by decide +kernel
theorem d38_18 : decode (cc 38) 18 = .ok (.aload_n 0, 1) := by decide +kernel
theorem d38_19 : decode (cc 38) 19 = .ok (.iload_n 1, 1) := by decide +kernel
theorem d38_20 : decode (cc 38) 20 = .ok (.invokevirtual 31, 3) := by decide +kernel
theorem d38_23 : decode (cc 38) 23 = .ok (.iconst 4, 1) := by decide +kernel
theorem d38_24 : decode (cc 38) 24 = .ok (.if_icmp .gt 7, 3) := by decide +kernel
theorem d38_27 : decode (cc 38) 27 = .ok (.iconst 1, 1) := by decide +kernel
theorem d38_28 : decode (cc 38) 28 = .ok (.goto 4, 3) := by decide +kernel
theorem d38_31 : decode (cc 38) 31 = .ok (.iconst 0, 1) := by decide +kernel
theorem d38_32 : decode (cc 38) 32 = .ok (.ireturn, 1) := by decide +kernel
theorem d39_0 : decode (cc 39) 0 = .ok (.aload_n 0, 1) := by decide +kernel
theorem d39_1 : decode (cc 39) 1 = .ok (.getfield 9, 3) := by decide +kernel
theorem d39_4 : decode (cc 39) 4 = .ok (.iload_n 1, 1) := by decide +kernel
theorem d39_5 : decode (cc 39) 5 = .ok (.iaload, 1) := by decide +kernel
theorem d39_6 : decode (cc 39) 6 = .ok (.ifCond .ne 13, 3) := by decide +kernel
theorem d39_9 : decode (cc 39) 9 = .ok (.aload_n 0, 1) := by decide +kernel
theorem d39_10 : decode (cc 39) 10 = .ok (.dup, 1) := by decide +kernel
theorem d39_11 : decode (cc 39) 11 = .ok (.getfield 27, 3) := by decide +kernel
theorem d39_14 : decode (cc 39) 14 = .ok (.iconst 1, 1) := by decide +kernel
theorem d39_15 : decode (cc 39) 15 = .ok (.iadd, 1) := by decide +kernel
theorem d39_16 : decode (cc 39) 16 = .ok (.putfield 27, 3) := by decide +kernel
theorem d39_19 : decode (cc 39) 19 = .ok (.aload_n 0, 1) := by decide +kernel
theorem d39_20 : decode (cc 39) 20 = .ok (.getfield 9, 3) := by decide +kernel
theorem d39_23 : decode (cc 39) 23 = .ok (.iload_n 1, 1) := by decide +kernel
theorem d39_24 : decode (cc 39) 24 = .ok (.iload_n 2, 1) := by decide +kernel
theorem d39_25 : decode (cc 39) 25 = .ok (.iastore, 1) := by decide +kernel
theorem d39_26 : decode (cc 39) 26 = .ok (.aload_n 0, 1) := by decide +kernel
theorem d39_27 : decode (cc 39) 27 = .ok (.getfield 15, 3) := by decide +kernel
theorem d39_30 : decode (cc 39) 30 = .ok (.iload_n 1, 1) := by decide +kernel
theorem d39_31 : decode (cc 39) 31 = .ok (.iload_n 3, 1) := by decide +kernel
theorem d39_32 : decode (cc 39) 32 = .ok (.iastore, 1) := by decide +kernel
theorem d39_33 : decode (cc 39) 33 = .ok (.aload_n 0, 1) := by decide +kernel
theorem d39_34 : decode (cc 39) 34 = .ok (.getfield 18, 3) := by decide +kernel
theorem d39_37 : decode (cc 39) 37 = .ok (.iload_n 1, 1) := by decide +kernel
theorem d39_38 : decode (cc 39) 38 = .ok (.iload 4, 2) := by decide +kernel
theorem d39_40 : decode (cc 39) 40 = .ok (.iastore, 1) := by decide +kernel
theorem d39_41 : decode (cc 39) 41 = .ok (.aload_n 0, 1) := by decide +kernel
theorem d39_42 : decode (cc 39) 42 = .ok (.invokevirtual 35, 3) := by decide +kernel
theorem d39_45 : decode (cc 39) 45 = .ok (.return_, 1) := by decide +kernel
theorem d40_0 : decode (cc 40) 0 = .ok (.aload_n 3, 1) := by decide +kernel
theorem d40_1 : decode (cc 40) 1 = .ok (.iconst 0, 1) := by decide +kernel
theorem d40_2 : decode (cc 40) 2 = .ok (.aload_n 0, 1) := by decide +kernel
theorem d40_3 : decode (cc 40) 3 = .ok (.iload_n 1, 1) := by decide +kernel
theorem d40_4 : decode (cc 40) 4 = .ok (.iload_n 2, 1) := by decide +kernel
theorem d40_5 : decode (cc 40) 5 = .ok (.invokevirtual 30, 3) := by decide +kernel
theorem d40_8 : decode (cc 40) 8 = .ok (.i2l, 1) := by decide +kernel
theorem d40_9 : decode (cc 40) 9 = .ok (.lastore, 1) := by decide +kernel
theorem d40_10 : decode (cc 40) 10 = .ok (.goto 11, 3) := by decide +kernel
theorem d40_13 : decode (cc 40) 13 = .ok (.astore 4, 2) := by decide +kernel
theorem d40_15 : decode (cc 40) 15 = .ok (.iconst 1, 1) := by decide +kernel
theorem d40_16 : decode (cc 40) 16 = .ok (.ireturn, 1) := by decide +kernel
theorem d40_17 : decode (cc 40) 17 = .ok (.astore 4, 2) := by decide +kernel
theorem d40_19 : decode (cc 40) 19 = .ok (.iconst 2, 1) := by decide +kernel
theorem d40_20 : decode (cc 40) 20 = .ok (.ireturn, 1) := by decide +kernel
theorem d40_21 : decode (cc 40) 21 = .ok (.iconst 0, 1) := by decide +kernel
theorem d40_22 : decode (cc 40) 22 = .ok (.ireturn, 1) := by decide +kernel
theorem d41_0 : decode (cc 41) 0 = .ok (.aload_n 0, 1) := by decide +kernel
theorem d41_1 : decode (cc 41) 1 = .ok (.iload_n 1, 1) := by decide +kernel
theorem d41_2 : decode (cc 41) 2 = .ok (.invokevirtual 50, 3) := by decide +kernel
theorem d41_5 : decode (cc 41) 5 = .ok (.astore_n 3, 1) := by decide +kernel
theorem d41_6 : decode (cc 41) 6 = .ok (.iload_n 2, 1) := by decide +kernel
theorem d41_7 : decode (cc 41) 7 = .ok (.iconst 0, 1) := by decide +kernel
theorem d41_8 : decode (cc 41) 8 = .ok (.sipush 10000, 3) := by decide +kernel
theorem d41_11 : decode (cc 41) 11 = .ok (.invokestatic 54, 3) := by decide +kernel
theorem d41_14 : decode (cc 41) 14 = .ok (.aload_n 3, 1) := by decide +kernel
theorem d41_15 : decode (cc 41) 15 = .ok (.getfield 120, 3) := by decide +kernel
theorem d41_18 : decode (cc 41) 18 = .ok (.istore 4, 2) := by decide +kernel
theorem d41_20 : decode (cc 41) 20 = .ok (.aload_n 3, 1) := by decide +kernel
theorem d41_21 : decode (cc 41) 21 = .ok (.iload_n 2, 1) := by decide +kernel
theorem d41_22 : decode (cc 41) 22 = .ok (.putfield 120, 3) := by decide +kernel
theorem d41_25 : decode (cc 41) 25 = .ok (.aload_n 3, 1) := by decide +kernel
theorem d41_26 : decode (cc 41) 26 = .ok (.iconst 1, 1) := by decide +kernel
theorem d41_27 : decode (cc 41) 27 = .ok (.putfield 71, 3) := by decide +kernel
theorem d41_30 : decode (cc 41) 30 = .ok (.iload 4, 2) := by decide +kernel
theorem d41_32 : decode (cc 41) 32 = .ok (.ireturn, 1) := by decide +kernel
theorem d42_0 : decode (cc 42) 0 = .ok (.aload 4, 2) := by decide +kernel
theorem d42_2 : decode (cc 42) 2 = .ok (.iconst 0, 1) := by decide +kernel
theorem d42_3 : decode (cc 42) 3 = .ok (.aload_n 0, 1) := by decide +kernel
theorem d42_4 : decode (cc 42) 4 = .ok (.iload_n 1, 1) := by decide +kernel
theorem d42_5 : decode (cc 42) 5 = .ok (.iload_n 2, 1) := by decide +kernel
theorem d42_6 : decode (cc 42) 6 = .ok (.iload_n 3, 1) := by decide +kernel
theorem d42_7 : decode (cc 42) 7 = .ok (.invokevirtual 34, 3) := by decide +kernel
theorem d42_10 : decode (cc 42) 10 = .ok (.i2l, 1) := by decide +kernel
theorem d42_11 : decode (cc 42) 11 = .ok (.lastore, 1) := by decide +kernel
theorem d42_12 : decode (cc 42) 12 = .ok (.goto 15, 3) := by decide +kernel
theorem d42_15 : decode (cc 42) 15 = .ok (.astore 5, 2) := by decide +kernel
theorem d42_17 : decode (cc 42) 17 = .ok (.iconst 1, 1) := by decide +kernel
theorem d42_18 : decode (cc 42) 18 = .ok (.ireturn, 1) := by decide +kernel
theorem d42_19 : decode (cc 42) 19 = .ok (.astore 5, 2) := by decide +kernel
theorem d42_21 : decode (cc 42) 21 = .ok (.iconst 2, 1) := by decide +kernel
theorem d42_22 : decode (cc 42) 22 = .ok (.ireturn, 1) := by decide +kernel
theorem d42_23 : decode (cc 42) 23 = .ok (.astore 5, 2) := by decide +kernel
theorem d42_25 : decode (cc 42) 25 = .ok (.iconst 3, 1) := by decide +kernel
theorem d42_26 : decode (cc 42) 26 = .ok (.ireturn, 1) := by decide +kernel
theorem d42_27 : decode (cc 42) 27 = .ok (.iconst 0, 1) := by decide +kernel
theorem d42_28 : decode (cc 42) 28 = .ok (.ireturn, 1) := by decide +kernel
theorem d43_0 : decode (cc 43) 0 = .ok (.aload_n 0, 1) := by decide +kernel
theorem d43_1 : decode (cc 43) 1 = .ok (.aload_n 0, 1) := by decide +kernel
theorem d43_2 : decode (cc 43) 2 = .ok (.getfield 25, 3) := by decide +kernel
theorem d43_5 : decode (cc 43) 5 = .ok (.iload_n 1, 1) := by decide +kernel
theorem d43_6 : decode (cc 43) 6 = .ok (.iload_n 2, 1) := by decide +kernel
theorem d43_7 : decode (cc 43) 7 = .ok (.iload_n 3, 1) := by decide +kernel
theorem d43_8 : decode (cc 43) 8 = .ok (.invokevirtual 123, 3) := by decide +kernel
theorem d43_11 : decode (cc 43) 11 = .ok (.ireturn, 1) := by decide +kernel
theorem d44_0 : decode (cc 44) 0 = .ok (.aload_n 0, 1) := by decide +kernel
theorem d44_1 : decode (cc 44) 1 = .ok (.iload_n 2, 1) := by decide +kernel
theorem d44_2 : decode (cc 44) 2 = .ok (.invokevirtual 50, 3) := by decide +kernel
theorem d44_5 : decode (cc 44) 5 = .ok (.astore 5, 2) := by decide +kernel
theorem d44_7 : decode (cc 44) 7 = .ok (.iload_n 3, 1) := by decide +kernel
theorem d44_8 : decode (cc 44) 8 = .ok (.invokestatic 143, 3) := by decide +kernel
theorem d44_11 : decode (cc 44) 11 = .ok (.iload 4, 2) := by decide +kernel
theorem d44_13 : decode (cc 44) 13 = .ok (.iconst 0, 1) := by decide +kernel
theorem d44_14 : decode (cc 44) 14 = .ok (.sipush 1000, 3) := by decide +kernel
theorem d44_17 : decode (cc 44) 17 = .ok (.invokestatic 54, 3) := by decide +kernel
theorem d44_20 : decode (cc 44) 20 = .ok (.aload_n 1, 1) := by decide +kernel
theorem d44_21 : decode (cc 44) 21 = .ok (.invokestatic 173, 3) := by decide +kernel
theorem d44_24 : decode (cc 44) 24 = .ok (.aload 5, 2) := by decide +kernel
theorem d44_26 : decode (cc 44) 26 = .ok (.iconst 1, 1) := by decide +kernel
theorem d44_27 : decode (cc 44) 27 = .ok (.putfield 71, 3) := by decide +kernel
theorem d44_30 : decode (cc 44) 30 = .ok (.aload_n 1, 1) := by decide +kernel
theorem d44_31 : decode (cc 44) 31 = .ok (.iload_n 2, 1) := by decide +kernel
theorem d44_32 : decode (cc 44) 32 = .ok (.iload_n 3, 1) := by decide +kernel
theorem d44_33 : decode (cc 44) 33 = .ok (.iload 4, 2) := by decide +kernel
theorem d44_35 : decode (cc 44) 35 = .ok (.invokevirtual 177, 3) := by decide +kernel
theorem d44_38 : decode (cc 44) 38 = .ok (.ireturn, 1) := by decide +kernel
theorem d45_0 : decode (cc 45) 0 = .ok (.iload_n 0, 1) := by decide +kernel
theorem d45_1 : decode (cc 45) 1 = .ok (.ifCond .lt 9, 3) := by decide +kernel
theorem d45_4 : decode (cc 45) 4 = .ok (.iload_n 0, 1) := by decide +kernel
theorem d45_5 : decode (cc 45) 5 = .ok (.bipush 12, 2) := by decide +kernel
theorem d45_7 : decode (cc 45) 7 = .ok (.if_icmp .lt 13, 3) := by decide +kernel
theorem d45_10 : decode (cc 45) 10 = .ok (.new 196, 3) := by decide +kernel
theorem d45_13 : decode (cc 45) 13 = .ok (.dup, 1) := by decide +kernel
theorem d45_14 : decode (cc 45) 14 = .ok (.ldc 201, 2) := by decide +kernel
theorem d45_16 : decode (cc 45) 16 = .ok (.invokespecial 200, 3) := by decide +kernel
theorem d45_19 : decode (cc 45) 19 = .ok (.athrow, 1) := by decide +kernel
theorem d45_20 : decode (cc 45) 20 = .ok (.return_, 1) := by decide +kernel
theorem d46_0 : decode (cc 46) 0 = .ok (.aload_n 0, 1) := by decide +kernel
theorem d46_1 : decode (cc 46) 1 = .ok (.invokevirtual 212, 3) := by decide +kernel
theorem d46_4 : decode (cc 46) 4 = .ok (.ifCond .eq 13, 3) := by decide +kernel
theorem d46_7 : decode (cc 46) 7 = .ok (.new 109, 3) := by decide +kernel
theorem d46_10 : decode (cc 46) 10 = .ok (.dup, 1) := by decide +kernel
theorem d46_11 : decode (cc 46) 11 = .ok (.ldc 215, 2) := by decide +kernel
theorem d46_13 : decode (cc 46) 13 = .ok (.invokespecial 113, 3) := by decide +kernel
theorem d46_16 : decode (cc 46) 16 = .ok (.athrow, 1) := by decide +kernel
theorem d46_17 : decode (cc 46) 17 = .ok (.return_, 1) := by decide +kernel
theorem d47_0 : decode (cc 47) 0 = .ok (.aload_n 0, 1) := by decide +kernel
theorem d47_1 : decode (cc 47) 1 = .ok (.getfield 21, 3) := by decide +kernel
theorem d47_4 : decode (cc 47) 4 = .ok (.bipush 24, 2) := by decide +kernel
theorem d47_6 : decode (cc 47) 6 = .ok (.if_icmp .lt 7, 3) := by decide +kernel
theorem d47_9 : decode (cc 47) 9 = .ok (.iconst 1, 1) := by decide +kernel
theorem d47_10 : decode (cc 47) 10 = .ok (.goto 4, 3) := by decide +kernel
theorem d47_13 : decode (cc 47) 13 = .ok (.iconst 0, 1) := by decide +kernel
theorem d47_14 : decode (cc 47) 14 = .ok (.ireturn, 1) := by decide +kernel
theorem d48_0 : decode (cc 48) 0 = .ok (.aload_n 0, 1) := by decide +kernel
theorem d48_1 : decode (cc 48) 1 = .ok (.invokevirtual 25, 3) := by decide +kernel
theorem d48_4 : decode (cc 48) 4 = .ok (.ifCond .eq 5, 3) := by decide +kernel
theorem d48_7 : decode (cc 48) 7 = .ok (.iconst (-1), 1) := by decide +kernel
theorem d48_8 : decode (cc 48) 8 = .ok (.ireturn, 1) := by decide +kernel
theorem d48_9 : decode (cc 48) 9 = .ok (.aload_n 0, 1) := by decide +kernel
theorem d48_10 : decode (cc 48) 10 = .ok (.getfield 9, 3) := by decide +kernel
theorem d48_13 : decode (cc 48) 13 = .ok (.aload_n 0, 1) := by decide +kernel
theorem d48_14 : decode (cc 48) 14 = .ok (.getfield 21, 3) := by decide +kernel
theorem d48_17 : decode (cc 48) 17 = .ok (.iload_n 1, 1) := by decide +kernel
theorem d48_18 : decode (cc 48) 18 = .ok (.iastore, 1) := by decide +kernel
theorem d48_19 : decode (cc 48) 19 = .ok (.aload_n 0, 1) := by decide +kernel
theorem d48_20 : decode (cc 48) 20 = .ok (.getfield 15, 3) := by decide +kernel
theorem d48_23 : decode (cc 48) 23 = .ok (.aload_n 0, 1) := by decide +kernel
theorem d48_24 : decode (cc 48) 24 = .ok (.getfield 21, 3) := by decide +kernel
theorem d48_27 : decode (cc 48) 27 = .ok (.iload_n 2, 1) := by decide +kernel
theorem d48_28 : decode (cc 48) 28 = .ok (.iastore, 1) := by decide +kernel
theorem d48_29 : decode (cc 48) 29 = .ok (.aload_n 0, 1) := by decide +kernel
theorem d48_30 : decode (cc 48) 30 = .ok (.getfield 18, 3) := by decide +kernel
theorem d48_33 : decode (cc 48) 33 = .ok (.aload_n 0, 1) := by decide +kernel
theorem d48_34 : decode (cc 48) 34 = .ok (.getfield 21, 3) := by decide +kernel
theorem d48_37 : decode (cc 48) 37 = .ok (.iload_n 3, 1) := by decide +kernel
theorem d48_38 : decode (cc 48) 38 = .ok (.iastore, 1) := by decide +kernel
theorem d48_39 : decode (cc 48) 39 = .ok (.aload_n 0, 1) := by decide +kernel
theorem d48_40 : decode (cc 48) 40 = .ok (.dup, 1) := by decide +kernel
theorem d48_41 : decode (cc 48) 41 = .ok (.getfield 21, 3) := by decide +kernel
theorem d48_44 : decode (cc 48) 44 = .ok (.iconst 1, 1) := by decide +kernel
theorem d48_45 : decode (cc 48) 45 = .ok (.iadd, 1) := by decide +kernel
theorem d48_46 : decode (cc 48) 46 = .ok (.putfield 21, 3) := by decide +kernel
theorem d48_49 : decode (cc 48) 49 = .ok (.aload_n 0, 1) := by decide +kernel
theorem d48_50 : decode (cc 48) 50 = .ok (.getfield 21, 3) := by decide +kernel
theorem d48_53 : decode (cc 48) 53 = .ok (.iconst 1, 1) := by decide +kernel
theorem d48_54 : decode (cc 48) 54 = .ok (.isub, 1) := by decide +kernel
theorem d48_55 : decode (cc 48) 55 = .ok (.ireturn, 1) := by decide +kernel
theorem d49_0 : decode (cc 49) 0 = .ok (.aload 4, 2) := by decide +kernel
theorem d49_2 : decode (cc 49) 2 = .ok (.iconst 0, 1) := by decide +kernel
theorem d49_3 : decode (cc 49) 3 = .ok (.aload_n 0, 1) := by decide +kernel
theorem d49_4 : decode (cc 49) 4 = .ok (.iload_n 1, 1) := by decide +kernel
theorem d49_5 : decode (cc 49) 5 = .ok (.iload_n 2, 1) := by decide +kernel
theorem d49_6 : decode (cc 49) 6 = .ok (.iload_n 3, 1) := by decide +kernel
theorem d49_7 : decode (cc 49) 7 = .ok (.invokevirtual 38, 3) := by decide +kernel
theorem d49_10 : decode (cc 49) 10 = .ok (.i2l, 1) := by decide +kernel
theorem d49_11 : decode (cc 49) 11 = .ok (.lastore, 1) := by decide +kernel
theorem d49_12 : decode (cc 49) 12 = .ok (.goto 11, 3) := by decide +kernel
theorem d49_15 : decode (cc 49) 15 = .ok (.astore 5, 2) := by decide +kernel
theorem d49_17 : decode (cc 49) 17 = .ok (.iconst 1, 1) := by decide +kernel
theorem d49_18 : decode (cc 49) 18 = .ok (.ireturn, 1) := by decide +kernel
theorem d49_19 : decode (cc 49) 19 = .ok (.astore 5, 2) := by decide +kernel
theorem d49_21 : decode (cc 49) 21 = .ok (.iconst 2, 1) := by decide +kernel
theorem d49_22 : decode (cc 49) 22 = .ok (.ireturn, 1) := by decide +kernel
theorem d49_23 : decode (cc 49) 23 = .ok (.iconst 0, 1) := by decide +kernel
theorem d49_24 : decode (cc 49) 24 = .ok (.ireturn, 1) := by decide +kernel
theorem d50_0 : decode (cc 50) 0 = .ok (.iload_n 1, 1) := by decide +kernel
theorem d50_1 : decode (cc 50) 1 = .ok (.iconst 0, 1) := by decide +kernel
theorem d50_2 : decode (cc 50) 2 = .ok (.iconst 1, 1) := by decide +kernel
theorem d50_3 : decode (cc 50) 3 = .ok (.invokestatic 54, 3) := by decide +kernel
theorem d50_6 : decode (cc 50) 6 = .ok (.iload_n 1, 1) := by decide +kernel
theorem d50_7 : decode (cc 50) 7 = .ok (.ifCond .ne 10, 3) := by decide +kernel
theorem d50_10 : decode (cc 50) 10 = .ok (.aload_n 0, 1) := by decide +kernel
theorem d50_11 : decode (cc 50) 11 = .ok (.getfield 25, 3) := by decide +kernel
theorem d50_14 : decode (cc 50) 14 = .ok (.goto 7, 3) := by decide +kernel
theorem d50_17 : decode (cc 50) 17 = .ok (.aload_n 0, 1) := by decide +kernel
theorem d50_18 : decode (cc 50) 18 = .ok (.getfield 29, 3) := by decide +kernel
theorem d50_21 : decode (cc 50) 21 = .ok (.astore 4, 2) := by decide +kernel
theorem d50_23 : decode (cc 50) 23 = .ok (.aload 4, 2) := by decide +kernel
theorem d50_25 : decode (cc 50) 25 = .ok (.iload_n 2, 1) := by decide +kernel
theorem d50_26 : decode (cc 50) 26 = .ok (.invokestatic 127, 3) := by decide +kernel
theorem d50_29 : decode (cc 50) 29 = .ok (.iload_n 3, 1) := by decide +kernel
theorem d50_30 : decode (cc 50) 30 = .ok (.iconst 0, 1) := by decide +kernel
theorem d50_31 : decode (cc 50) 31 = .ok (.sipush 1000, 3) := by decide +kernel
theorem d50_34 : decode (cc 50) 34 = .ok (.invokestatic 54, 3) := by decide +kernel
theorem d50_37 : decode (cc 50) 37 = .ok (.aload_n 0, 1) := by decide +kernel
theorem d50_38 : decode (cc 50) 38 = .ok (.aload 4, 2) := by decide +kernel
theorem d50_40 : decode (cc 50) 40 = .ok (.getfield 131, 3) := by decide +kernel
theorem d50_43 : decode (cc 50) 43 = .ok (.iload_n 2, 1) := by decide +kernel
theorem d50_44 : decode (cc 50) 44 = .ok (.iaload, 1) := by decide +kernel
theorem d50_45 : decode (cc 50) 45 = .ok (.invokevirtual 50, 3) := by decide +kernel
theorem d50_48 : decode (cc 50) 48 = .ok (.iconst 1, 1) := by decide +kernel
theorem d50_49 : decode (cc 50) 49 = .ok (.putfield 71, 3) := by decide +kernel
theorem d50_52 : decode (cc 50) 52 = .ok (.aload 4, 2) := by decide +kernel
theorem d50_54 : decode (cc 50) 54 = .ok (.iload_n 2, 1) := by decide +kernel
theorem d50_55 : decode (cc 50) 55 = .ok (.iload_n 3, 1) := by decide +kernel
theorem d50_56 : decode (cc 50) 56 = .ok (.invokevirtual 134, 3) := by decide +kernel
theorem d50_59 : decode (cc 50) 59 = .ok (.ireturn, 1) := by decide +kernel
theorem d51_0 : decode (cc 51) 0 = .ok (.iload_n 1, 1) := by decide +kernel
theorem d51_1 : decode (cc 51) 1 = .ok (.ifCond .lt 11, 3) := by decide +kernel
theorem d51_4 : decode (cc 51) 4 = .ok (.iload_n 1, 1) := by decide +kernel
theorem d51_5 : decode (cc 51) 5 = .ok (.aload_n 0, 1) := by decide +kernel
theorem d51_6 : decode (cc 51) 6 = .ok (.getfield 187, 3) := by decide +kernel
theorem d51_9 : decode (cc 51) 9 = .ok (.if_icmp .lt 13, 3) := by decide +kernel
theorem d51_12 : decode (cc 51) 12 = .ok (.new 196, 3) := by decide +kernel
theorem d51_15 : decode (cc 51) 15 = .ok (.dup, 1) := by decide +kernel
theorem d51_16 : decode (cc 51) 16 = .ok (.ldc 205, 2) := by decide +kernel
theorem d51_18 : decode (cc 51) 18 = .ok (.invokespecial 200, 3) := by decide +kernel
theorem d51_21 : decode (cc 51) 21 = .ok (.athrow, 1) := by decide +kernel
theorem d51_22 : decode (cc 51) 22 = .ok (.return_, 1) := by decide +kernel
theorem d52_0 : decode (cc 52) 0 = .ok (.aload_n 0, 1) := by decide +kernel
theorem d52_1 : decode (cc 52) 1 = .ok (.getfield 18, 3) := by decide +kernel
theorem d52_4 : decode (cc 52) 4 = .ok (.iload_n 1, 1) := by decide +kernel
theorem d52_5 : decode (cc 52) 5 = .ok (.iaload, 1) := by decide +kernel
theorem d52_6 : decode (cc 52) 6 = .ok (.istore_n 3, 1) := by decide +kernel
theorem d52_7 : decode (cc 52) 7 = .ok (.aload_n 0, 1) := by decide +kernel
theorem d52_8 : decode (cc 52) 8 = .ok (.getfield 18, 3) := by decide +kernel
theorem d52_11 : decode (cc 52) 11 = .ok (.iload_n 1, 1) := by decide +kernel
theorem d52_12 : decode (cc 52) 12 = .ok (.iload_n 2, 1) := by decide +kernel
theorem d52_13 : decode (cc 52) 13 = .ok (.iastore, 1) := by decide +kernel
theorem d52_14 : decode (cc 52) 14 = .ok (.iload_n 3, 1) := by decide +kernel
theorem d52_15 : decode (cc 52) 15 = .ok (.ireturn, 1) := by decide +kernel
theorem d53_0 : decode (cc 53) 0 = .ok (.aload 4, 2) := by decide +kernel
theorem d53_2 : decode (cc 53) 2 = .ok (.iconst 0, 1) := by decide +kernel
theorem d53_3 : decode (cc 53) 3 = .ok (.aload_n 0, 1) := by decide +kernel
theorem d53_4 : decode (cc 53) 4 = .ok (.iload_n 1, 1) := by decide +kernel
theorem d53_5 : decode (cc 53) 5 = .ok (.iload_n 2, 1) := by decide +kernel
theorem d53_6 : decode (cc 53) 6 = .ok (.iload_n 3, 1) := by decide +kernel
theorem d53_7 : decode (cc 53) 7 = .ok (.invokevirtual 41, 3) := by decide +kernel
theorem d53_10 : decode (cc 53) 10 = .ok (.i2l, 1) := by decide +kernel
theorem d53_11 : decode (cc 53) 11 = .ok (.lastore, 1) := by decide +kernel
theorem d53_12 : decode (cc 53) 12 = .ok (.goto 15, 3) := by decide +kernel
theorem d53_15 : decode (cc 53) 15 = .ok (.astore 5, 2) := by decide +kernel
theorem d53_17 : decode (cc 53) 17 = .ok (.iconst 1, 1) := by decide +kernel
theorem d53_18 : decode (cc 53) 18 = .ok (.ireturn, 1) := by decide +kernel
theorem d53_19 : decode (cc 53) 19 = .ok (.astore 5, 2) := by decide +kernel
theorem d53_21 : decode (cc 53) 21 = .ok (.iconst 2, 1) := by decide +kernel
theorem d53_22 : decode (cc 53) 22 = .ok (.ireturn, 1) := by decide +kernel
end
section
theorem d53_23 : decode (cc 53) 23 = .ok (.astore 5, 2) := by decide +kernel
theorem d53_25 : decode (cc 53) 25 = .ok (.iconst 3, 1) := by decide +kernel
theorem d53_26 : decode (cc 53) 26 = .ok (.ireturn, 1) := by decide +kernel
theorem d53_27 : decode (cc 53) 27 = .ok (.iconst 0, 1) := by decide +kernel
theorem d53_28 : decode (cc 53) 28 = .ok (.ireturn, 1) := by decide +kernel
theorem d54_0 : decode (cc 54) 0 = .ok (.aload_n 0, 1) := by decide +kernel
theorem d54_1 : decode (cc 54) 1 = .ok (.aload_n 0, 1) := by decide +kernel
theorem d54_2 : decode (cc 54) 2 = .ok (.getfield 29, 3) := by decide +kernel
theorem d54_5 : decode (cc 54) 5 = .ok (.iload_n 1, 1) := by decide +kernel
theorem d54_6 : decode (cc 54) 6 = .ok (.iload_n 2, 1) := by decide +kernel
theorem d54_7 : decode (cc 54) 7 = .ok (.iload_n 3, 1) := by decide +kernel
theorem d54_8 : decode (cc 54) 8 = .ok (.invokevirtual 123, 3) := by decide +kernel
theorem d54_11 : decode (cc 54) 11 = .ok (.ireturn, 1) := by decide +kernel
theorem d55_0 : decode (cc 55) 0 = .ok (.aload_n 2, 1) := by decide +kernel
theorem d55_1 : decode (cc 55) 1 = .ok (.iconst 0, 1) := by decide +kernel
theorem d55_2 : decode (cc 55) 2 = .ok (.aload_n 0, 1) := by decide +kernel
theorem d55_3 : decode (cc 55) 3 = .ok (.iload_n 1, 1) := by decide +kernel
theorem d55_4 : decode (cc 55) 4 = .ok (.invokevirtual 44, 3) := by decide +kernel
theorem d55_7 : decode (cc 55) 7 = .ok (.i2l, 1) := by decide +kernel
theorem d55_8 : decode (cc 55) 8 = .ok (.lastore, 1) := by decide +kernel
theorem d55_9 : decode (cc 55) 9 = .ok (.goto 6, 3) := by decide +kernel
theorem d55_12 : decode (cc 55) 12 = .ok (.astore_n 3, 1) := by decide +kernel
theorem d55_13 : decode (cc 55) 13 = .ok (.iconst 1, 1) := by decide +kernel
theorem d55_14 : decode (cc 55) 14 = .ok (.ireturn, 1) := by decide +kernel
theorem d55_15 : decode (cc 55) 15 = .ok (.iconst 0, 1) := by decide +kernel
theorem d55_16 : decode (cc 55) 16 = .ok (.ireturn, 1) := by decide +kernel
theorem d56_0 : decode (cc 56) 0 = .ok (.iload_n 1, 1) := by decide +kernel
theorem d56_1 : decode (cc 56) 1 = .ok (.invokestatic 95, 3) := by decide +kernel
theorem d56_4 : decode (cc 56) 4 = .ok (.aload_n 0, 1) := by decide +kernel
theorem d56_5 : decode (cc 56) 5 = .ok (.getfield 18, 3) := by decide +kernel
theorem d56_8 : decode (cc 56) 8 = .ok (.getfield 137, 3) := by decide +kernel
theorem d56_11 : decode (cc 56) 11 = .ok (.iload_n 1, 1) := by decide +kernel
theorem d56_12 : decode (cc 56) 12 = .ok (.iaload, 1) := by decide +kernel
theorem d56_13 : decode (cc 56) 13 = .ok (.ireturn, 1) := by decide +kernel
theorem d57_0 : decode (cc 57) 0 = .ok (.aload_n 3, 1) := by decide +kernel
theorem d57_1 : decode (cc 57) 1 = .ok (.iconst 0, 1) := by decide +kernel
theorem d57_2 : decode (cc 57) 2 = .ok (.aload_n 0, 1) := by decide +kernel
theorem d57_3 : decode (cc 57) 3 = .ok (.iload_n 1, 1) := by decide +kernel
theorem d57_4 : decode (cc 57) 4 = .ok (.iload_n 2, 1) := by decide +kernel
theorem d57_5 : decode (cc 57) 5 = .ok (.invokevirtual 48, 3) := by decide +kernel
theorem d57_8 : decode (cc 57) 8 = .ok (.lastore, 1) := by decide +kernel
theorem d57_9 : decode (cc 57) 9 = .ok (.goto 11, 3) := by decide +kernel
theorem d57_12 : decode (cc 57) 12 = .ok (.astore 4, 2) := by decide +kernel
theorem d57_14 : decode (cc 57) 14 = .ok (.iconst 1, 1) := by decide +kernel
theorem d57_15 : decode (cc 57) 15 = .ok (.ireturn, 1) := by decide +kernel
theorem d57_16 : decode (cc 57) 16 = .ok (.astore 4, 2) := by decide +kernel
theorem d57_18 : decode (cc 57) 18 = .ok (.iconst 2, 1) := by decide +kernel
theorem d57_19 : decode (cc 57) 19 = .ok (.ireturn, 1) := by decide +kernel
theorem d57_20 : decode (cc 57) 20 = .ok (.iconst 0, 1) := by decide +kernel
theorem d57_21 : decode (cc 57) 21 = .ok (.ireturn, 1) := by decide +kernel
theorem d58_0 : decode (cc 58) 0 = .ok (.aload_n 0, 1) := by decide +kernel
theorem d58_1 : decode (cc 58) 1 = .ok (.iload_n 1, 1) := by decide +kernel
theorem d58_2 : decode (cc 58) 2 = .ok (.invokevirtual 50, 3) := by decide +kernel
theorem d58_5 : decode (cc 58) 5 = .ok (.astore_n 3, 1) := by decide +kernel
theorem d58_6 : decode (cc 58) 6 = .ok (.iload_n 2, 1) := by decide +kernel
theorem d58_7 : decode (cc 58) 7 = .ok (.invokestatic 143, 3) := by decide +kernel
theorem d58_10 : decode (cc 58) 10 = .ok (.aload_n 0, 1) := by decide +kernel
theorem d58_11 : decode (cc 58) 11 = .ok (.invokevirtual 146, 3) := by decide +kernel
theorem d58_14 : decode (cc 58) 14 = .ok (.aload_n 3, 1) := by decide +kernel
theorem d58_15 : decode (cc 58) 15 = .ok (.getfield 149, 3) := by decide +kernel
theorem d58_18 : decode (cc 58) 18 = .ok (.iload_n 2, 1) := by decide +kernel
theorem d58_19 : decode (cc 58) 19 = .ok (.laload, 1) := by decide +kernel
theorem d58_20 : decode (cc 58) 20 = .ok (.lreturn, 1) := by decide +kernel
theorem d59_0 : decode (cc 59) 0 = .ok (.aload_n 0, 1) := by decide +kernel
theorem d59_1 : decode (cc 59) 1 = .ok (.invokevirtual 192, 3) := by decide +kernel
theorem d59_4 : decode (cc 59) 4 = .ok (.ifCond .eq 13, 3) := by decide +kernel
theorem d59_7 : decode (cc 59) 7 = .ok (.new 109, 3) := by decide +kernel
theorem d59_10 : decode (cc 59) 10 = .ok (.dup, 1) := by decide +kernel
theorem d59_11 : decode (cc 59) 11 = .ok (.ldc 217, 2) := by decide +kernel
theorem d59_13 : decode (cc 59) 13 = .ok (.invokespecial 113, 3) := by decide +kernel
theorem d59_16 : decode (cc 59) 16 = .ok (.athrow, 1) := by decide +kernel
theorem d59_17 : decode (cc 59) 17 = .ok (.return_, 1) := by decide +kernel
theorem d60_0 : decode (cc 60) 0 = .ok (.iconst 0, 1) := by decide +kernel
theorem d60_1 : decode (cc 60) 1 = .ok (.istore_n 1, 1) := by decide +kernel
theorem d60_2 : decode (cc 60) 2 = .ok (.iload_n 1, 1) := by decide +kernel
theorem d60_3 : decode (cc 60) 3 = .ok (.bipush 12, 2) := by decide +kernel
theorem d60_5 : decode (cc 60) 5 = .ok (.if_icmp .ge 23, 3) := by decide +kernel
theorem d60_8 : decode (cc 60) 8 = .ok (.aload_n 0, 1) := by decide +kernel
theorem d60_9 : decode (cc 60) 9 = .ok (.getfield 11, 3) := by decide +kernel
theorem d60_12 : decode (cc 60) 12 = .ok (.iload_n 1, 1) := by decide +kernel
theorem d60_13 : decode (cc 60) 13 = .ok (.aaload, 1) := by decide +kernel
theorem d60_14 : decode (cc 60) 14 = .ok (.getfield 71, 3) := by decide +kernel
theorem d60_17 : decode (cc 60) 17 = .ok (.ifCond .eq 5, 3) := by decide +kernel
theorem d60_20 : decode (cc 60) 20 = .ok (.iconst 1, 1) := by decide +kernel
theorem d60_21 : decode (cc 60) 21 = .ok (.ireturn, 1) := by decide +kernel
theorem d60_22 : decode (cc 60) 22 = .ok (.iinc 1 1, 3) := by decide +kernel
theorem d60_25 : decode (cc 60) 25 = .ok (.goto (-23), 3) := by decide +kernel
theorem d60_28 : decode (cc 60) 28 = .ok (.iconst 0, 1) := by decide +kernel
theorem d60_29 : decode (cc 60) 29 = .ok (.ireturn, 1) := by decide +kernel
theorem d61_0 : decode (cc 61) 0 = .ok (.aload_n 3, 1) := by decide +kernel
theorem d61_1 : decode (cc 61) 1 = .ok (.iconst 0, 1) := by decide +kernel
theorem d61_2 : decode (cc 61) 2 = .ok (.aload_n 0, 1) := by decide +kernel
theorem d61_3 : decode (cc 61) 3 = .ok (.iload_n 1, 1) := by decide +kernel
theorem d61_4 : decode (cc 61) 4 = .ok (.iload_n 2, 1) := by decide +kernel
theorem d61_5 : decode (cc 61) 5 = .ok (.invokevirtual 52, 3) := by decide +kernel
theorem d61_8 : decode (cc 61) 8 = .ok (.lastore, 1) := by decide +kernel
theorem d61_9 : decode (cc 61) 9 = .ok (.goto 11, 3) := by decide +kernel
theorem d61_12 : decode (cc 61) 12 = .ok (.astore 4, 2) := by decide +kernel
theorem d61_14 : decode (cc 61) 14 = .ok (.iconst 1, 1) := by decide +kernel
theorem d61_15 : decode (cc 61) 15 = .ok (.ireturn, 1) := by decide +kernel
theorem d61_16 : decode (cc 61) 16 = .ok (.astore 4, 2) := by decide +kernel
theorem d61_18 : decode (cc 61) 18 = .ok (.iconst 2, 1) := by decide +kernel
theorem d61_19 : decode (cc 61) 19 = .ok (.ireturn, 1) := by decide +kernel
theorem d61_20 : decode (cc 61) 20 = .ok (.iconst 0, 1) := by decide +kernel
theorem d61_21 : decode (cc 61) 21 = .ok (.ireturn, 1) := by decide +kernel
theorem d62_0 : decode (cc 62) 0 = .ok (.aload_n 0, 1) := by decide +kernel
theorem d62_1 : decode (cc 62) 1 = .ok (.iload_n 1, 1) := by decide +kernel
theorem d62_2 : decode (cc 62) 2 = .ok (.invokevirtual 50, 3) := by decide +kernel
theorem d62_5 : decode (cc 62) 5 = .ok (.astore_n 3, 1) := by decide +kernel
theorem d62_6 : decode (cc 62) 6 = .ok (.iload_n 2, 1) := by decide +kernel
theorem d62_7 : decode (cc 62) 7 = .ok (.invokestatic 143, 3) := by decide +kernel
theorem d62_10 : decode (cc 62) 10 = .ok (.aload_n 0, 1) := by decide +kernel
theorem d62_11 : decode (cc 62) 11 = .ok (.invokevirtual 146, 3) := by decide +kernel
theorem d62_14 : decode (cc 62) 14 = .ok (.aload_n 3, 1) := by decide +kernel
theorem d62_15 : decode (cc 62) 15 = .ok (.getfield 152, 3) := by decide +kernel
theorem d62_18 : decode (cc 62) 18 = .ok (.iload_n 2, 1) := by decide +kernel
theorem d62_19 : decode (cc 62) 19 = .ok (.laload, 1) := by decide +kernel
theorem d62_20 : decode (cc 62) 20 = .ok (.lreturn, 1) := by decide +kernel
theorem d63_0 : decode (cc 63) 0 = .ok (.aload_n 3, 1) := by decide +kernel
theorem d63_1 : decode (cc 63) 1 = .ok (.iconst 0, 1) := by decide +kernel
theorem d63_2 : decode (cc 63) 2 = .ok (.aload_n 0, 1) := by decide +kernel
theorem d63_3 : decode (cc 63) 3 = .ok (.iload_n 1, 1) := by decide +kernel
theorem d63_4 : decode (cc 63) 4 = .ok (.iload_n 2, 1) := by decide +kernel
theorem d63_5 : decode (cc 63) 5 = .ok (.invokevirtual 55, 3) := by decide +kernel
theorem d63_8 : decode (cc 63) 8 = .ok (.lastore, 1) := by decide +kernel
theorem d63_9 : decode (cc 63) 9 = .ok (.goto 11, 3) := by decide +kernel
theorem d63_12 : decode (cc 63) 12 = .ok (.astore 4, 2) := by decide +kernel
theorem d63_14 : decode (cc 63) 14 = .ok (.iconst 1, 1) := by decide +kernel
theorem d63_15 : decode (cc 63) 15 = .ok (.ireturn, 1) := by decide +kernel
theorem d63_16 : decode (cc 63) 16 = .ok (.astore 4, 2) := by decide +kernel
theorem d63_18 : decode (cc 63) 18 = .ok (.iconst 2, 1) := by decide +kernel
theorem d63_19 : decode (cc 63) 19 = .ok (.ireturn, 1) := by decide +kernel
theorem d63_20 : decode (cc 63) 20 = .ok (.iconst 0, 1) := by decide +kernel
theorem d63_21 : decode (cc 63) 21 = .ok (.ireturn, 1) := by decide +kernel
theorem d64_0 : decode (cc 64) 0 = .ok (.aload_n 0, 1) := by decide +kernel
theorem d64_1 : decode (cc 64) 1 = .ok (.iload_n 1, 1) := by decide +kernel
theorem d64_2 : decode (cc 64) 2 = .ok (.invokevirtual 50, 3) := by decide +kernel
theorem d64_5 : decode (cc 64) 5 = .ok (.astore_n 3, 1) := by decide +kernel
theorem d64_6 : decode (cc 64) 6 = .ok (.iload_n 2, 1) := by decide +kernel
theorem d64_7 : decode (cc 64) 7 = .ok (.invokestatic 143, 3) := by decide +kernel
theorem d64_10 : decode (cc 64) 10 = .ok (.aload_n 0, 1) := by decide +kernel
theorem d64_11 : decode (cc 64) 11 = .ok (.invokevirtual 146, 3) := by decide +kernel
theorem d64_14 : decode (cc 64) 14 = .ok (.aload_n 3, 1) := by decide +kernel
theorem d64_15 : decode (cc 64) 15 = .ok (.getfield 155, 3) := by decide +kernel
theorem d64_18 : decode (cc 64) 18 = .ok (.iload_n 2, 1) := by decide +kernel
theorem d64_19 : decode (cc 64) 19 = .ok (.laload, 1) := by decide +kernel
theorem d64_20 : decode (cc 64) 20 = .ok (.lreturn, 1) := by decide +kernel
theorem d65_0 : decode (cc 65) 0 = .ok (.aload 4, 2) := by decide +kernel
theorem d65_2 : decode (cc 65) 2 = .ok (.iconst 0, 1) := by decide +kernel
theorem d65_3 : decode (cc 65) 3 = .ok (.aload_n 0, 1) := by decide +kernel
theorem d65_4 : decode (cc 65) 4 = .ok (.iload_n 1, 1) := by decide +kernel
theorem d65_5 : decode (cc 65) 5 = .ok (.iload_n 2, 1) := by decide +kernel
theorem d65_6 : decode (cc 65) 6 = .ok (.iload_n 3, 1) := by decide +kernel
theorem d65_7 : decode (cc 65) 7 = .ok (.invokevirtual 58, 3) := by decide +kernel
theorem d65_10 : decode (cc 65) 10 = .ok (.lastore, 1) := by decide +kernel
theorem d65_11 : decode (cc 65) 11 = .ok (.goto 15, 3) := by decide +kernel
theorem d65_14 : decode (cc 65) 14 = .ok (.astore 5, 2) := by decide +kernel
theorem d65_16 : decode (cc 65) 16 = .ok (.iconst 1, 1) := by decide +kernel
theorem d65_17 : decode (cc 65) 17 = .ok (.ireturn, 1) := by decide +kernel
theorem d65_18 : decode (cc 65) 18 = .ok (.astore 5, 2) := by decide +kernel
theorem d65_20 : decode (cc 65) 20 = .ok (.iconst 2, 1) := by decide +kernel
theorem d65_21 : decode (cc 65) 21 = .ok (.ireturn, 1) := by decide +kernel
theorem d65_22 : decode (cc 65) 22 = .ok (.astore 5, 2) := by decide +kernel
theorem d65_24 : decode (cc 65) 24 = .ok (.iconst 3, 1) := by decide +kernel
theorem d65_25 : decode (cc 65) 25 = .ok (.ireturn, 1) := by decide +kernel
theorem d65_26 : decode (cc 65) 26 = .ok (.iconst 0, 1) := by decide +kernel
theorem d65_27 : decode (cc 65) 27 = .ok (.ireturn, 1) := by decide +kernel
theorem d66_0 : decode (cc 66) 0 = .ok (.aload_n 0, 1) := by decide +kernel
theorem d66_1 : decode (cc 66) 1 = .ok (.getfield 25, 3) := by decide +kernel
theorem d66_4 : decode (cc 66) 4 = .ok (.iload_n 1, 1) := by decide +kernel
theorem d66_5 : decode (cc 66) 5 = .ok (.invokestatic 127, 3) := by decide +kernel
theorem d66_8 : decode (cc 66) 8 = .ok (.iload_n 2, 1) := by decide +kernel
theorem d66_9 : decode (cc 66) 9 = .ok (.iconst 1, 1) := by decide +kernel
theorem d66_10 : decode (cc 66) 10 = .ok (.if_icmp .ne 14, 3) := by decide +kernel
theorem d66_13 : decode (cc 66) 13 = .ok (.aload_n 0, 1) := by decide +kernel
theorem d66_14 : decode (cc 66) 14 = .ok (.getfield 29, 3) := by decide +kernel
theorem d66_17 : decode (cc 66) 17 = .ok (.iload_n 3, 1) := by decide +kernel
theorem d66_18 : decode (cc 66) 18 = .ok (.invokestatic 127, 3) := by decide +kernel
theorem d66_21 : decode (cc 66) 21 = .ok (.goto 12, 3) := by decide +kernel
theorem d66_24 : decode (cc 66) 24 = .ok (.iload_n 2, 1) := by decide +kernel
theorem d66_25 : decode (cc 66) 25 = .ok (.iconst 2, 1) := by decide +kernel
theorem d66_26 : decode (cc 66) 26 = .ok (.if_icmp .ne 7, 3) := by decide +kernel
theorem d66_29 : decode (cc 66) 29 = .ok (.iload_n 3, 1) := by decide +kernel
theorem d66_30 : decode (cc 66) 30 = .ok (.invokestatic 143, 3) := by decide +kernel
theorem d66_33 : decode (cc 66) 33 = .ok (.iload_n 2, 1) := by decide +kernel
theorem d66_34 : decode (cc 66) 34 = .ok (.iconst 0, 1) := by decide +kernel
theorem d66_35 : decode (cc 66) 35 = .ok (.iconst 2, 1) := by decide +kernel
theorem d66_36 : decode (cc 66) 36 = .ok (.invokestatic 54, 3) := by decide +kernel
theorem d66_39 : decode (cc 66) 39 = .ok (.aload_n 0, 1) := by decide +kernel
theorem d66_40 : decode (cc 66) 40 = .ok (.invokevirtual 146, 3) := by decide +kernel
theorem d66_43 : decode (cc 66) 43 = .ok (.iload_n 2, 1) := by decide +kernel
theorem d66_44 : decode (cc 66) 44 = .ok (.lookupswitch 42 #[(1, 28), (2, 35)], 28) := by decide +kernel
theorem d66_72 : decode (cc 66) 72 = .ok (.aload_n 0, 1) := by decide +kernel
theorem d66_73 : decode (cc 66) 73 = .ok (.iload_n 1, 1) := by decide +kernel
theorem d66_74 : decode (cc 66) 74 = .ok (.iload_n 3, 1) := by decide +kernel
theorem d66_75 : decode (cc 66) 75 = .ok (.invokevirtual 158, 3) := by decide +kernel
theorem d66_78 : decode (cc 66) 78 = .ok (.lreturn, 1) := by decide +kernel
theorem d66_79 : decode (cc 66) 79 = .ok (.aload_n 0, 1) := by decide +kernel
theorem d66_80 : decode (cc 66) 80 = .ok (.iload_n 1, 1) := by decide +kernel
theorem d66_81 : decode (cc 66) 81 = .ok (.iload_n 3, 1) := by decide +kernel
theorem d66_82 : decode (cc 66) 82 = .ok (.invokevirtual 162, 3) := by decide +kernel
theorem d66_85 : decode (cc 66) 85 = .ok (.lreturn, 1) := by decide +kernel
theorem d66_86 : decode (cc 66) 86 = .ok (.aload_n 0, 1) := by decide +kernel
theorem d66_87 : decode (cc 66) 87 = .ok (.iload_n 1, 1) := by decide +kernel
theorem d66_88 : decode (cc 66) 88 = .ok (.lconst 0, 1) := by decide +kernel
theorem d66_89 : decode (cc 66) 89 = .ok (.aload_n 0, 1) := by decide +kernel
theorem d66_90 : decode (cc 66) 90 = .ok (.aload_n 0, 1) := by decide +kernel
theorem d66_91 : decode (cc 66) 91 = .ok (.getfield 25, 3) := by decide +kernel
theorem d66_94 : decode (cc 66) 94 = .ok (.getfield 131, 3) := by decide +kernel
theorem d66_97 : decode (cc 66) 97 = .ok (.iload_n 1, 1) := by decide +kernel
theorem d66_98 : decode (cc 66) 98 = .ok (.iaload, 1) := by decide +kernel
theorem d66_99 : decode (cc 66) 99 = .ok (.invokevirtual 50, 3) := by decide +kernel
theorem d66_102 : decode (cc 66) 102 = .ok (.getfield 120, 3) := by decide +kernel
theorem d66_105 : decode (cc 66) 105 = .ok (.i2l, 1) := by decide +kernel
theorem d66_106 : decode (cc 66) 106 = .ok (.invokevirtual 165, 3) := by decide +kernel
theorem d66_109 : decode (cc 66) 109 = .ok (.lreturn, 1) := by decide +kernel
theorem d67_0 : decode (cc 67) 0 = .ok (.aload_n 0, 1) := by decide +kernel
theorem d67_1 : decode (cc 67) 1 = .ok (.getfield 29, 3) := by decide +kernel
theorem d67_4 : decode (cc 67) 4 = .ok (.getfield 131, 3) := by decide +kernel
theorem d67_7 : decode (cc 67) 7 = .ok (.iload_n 2, 1) := by decide +kernel
theorem d67_8 : decode (cc 67) 8 = .ok (.iaload, 1) := by decide +kernel
theorem d67_9 : decode (cc 67) 9 = .ok (.istore_n 3, 1) := by decide +kernel
theorem d67_10 : decode (cc 67) 10 = .ok (.iload_n 3, 1) := by decide +kernel
theorem d67_11 : decode (cc 67) 11 = .ok (.aload_n 0, 1) := by decide +kernel
theorem d67_12 : decode (cc 67) 12 = .ok (.getfield 25, 3) := by decide +kernel
theorem d67_15 : decode (cc 67) 15 = .ok (.getfield 131, 3) := by decide +kernel
theorem d67_18 : decode (cc 67) 18 = .ok (.iload_n 1, 1) := by decide +kernel
theorem d67_19 : decode (cc 67) 19 = .ok (.iaload, 1) := by decide +kernel
theorem d67_20 : decode (cc 67) 20 = .ok (.if_icmp .eq 5, 3) := by decide +kernel
theorem d67_23 : decode (cc 67) 23 = .ok (.lconst 0, 1) := by decide +kernel
theorem d67_24 : decode (cc 67) 24 = .ok (.lreturn, 1) := by decide +kernel
theorem d67_25 : decode (cc 67) 25 = .ok (.aload_n 0, 1) := by decide +kernel
theorem d67_26 : decode (cc 67) 26 = .ok (.getfield 29, 3) := by decide +kernel
theorem d67_29 : decode (cc 67) 29 = .ok (.getfield 263, 3) := by decide +kernel
theorem d67_32 : decode (cc 67) 32 = .ok (.iload_n 2, 1) := by decide +kernel
theorem d67_33 : decode (cc 67) 33 = .ok (.iaload, 1) := by decide +kernel
theorem d67_34 : decode (cc 67) 34 = .ok (.iconst 1, 1) := by decide +kernel
theorem d67_35 : decode (cc 67) 35 = .ok (.isub, 1) := by decide +kernel
theorem d67_36 : decode (cc 67) 36 = .ok (.istore 4, 2) := by decide +kernel
theorem d67_38 : decode (cc 67) 38 = .ok (.aload_n 0, 1) := by decide +kernel
theorem d67_39 : decode (cc 67) 39 = .ok (.iload_n 3, 1) := by decide +kernel
theorem d67_40 : decode (cc 67) 40 = .ok (.invokevirtual 50, 3) := by decide +kernel
theorem d67_43 : decode (cc 67) 43 = .ok (.getfield 120, 3) := by decide +kernel
theorem d67_46 : decode (cc 67) 46 = .ok (.i2l, 1) := by decide +kernel
theorem d67_47 : decode (cc 67) 47 = .ok (.aload_n 0, 1) := by decide +kernel
theorem d67_48 : decode (cc 67) 48 = .ok (.getfield 29, 3) := by decide +kernel
theorem d67_51 : decode (cc 67) 51 = .ok (.iload_n 3, 1) := by decide +kernel
theorem d67_52 : decode (cc 67) 52 = .ok (.iload 4, 2) := by decide +kernel
theorem d67_54 : decode (cc 67) 54 = .ok (.invokevirtual 266, 3) := by decide +kernel
theorem d67_57 : decode (cc 67) 57 = .ok (.ladd, 1) := by decide +kernel
theorem d67_58 : decode (cc 67) 58 = .ok (.aload_n 0, 1) := by decide +kernel
theorem d67_59 : decode (cc 67) 59 = .ok (.getfield 29, 3) := by decide +kernel
theorem d67_62 : decode (cc 67) 62 = .ok (.iload_n 2, 1) := by decide +kernel
theorem d67_63 : decode (cc 67) 63 = .ok (.invokevirtual 269, 3) := by decide +kernel
theorem d67_66 : decode (cc 67) 66 = .ok (.ladd, 1) := by decide +kernel
theorem d67_67 : decode (cc 67) 67 = .ok (.aload_n 0, 1) := by decide +kernel
theorem d67_68 : decode (cc 67) 68 = .ok (.getfield 11, 3) := by decide +kernel
theorem d67_71 : decode (cc 67) 71 = .ok (.iload_n 3, 1) := by decide +kernel
theorem d67_72 : decode (cc 67) 72 = .ok (.aaload, 1) := by decide +kernel
theorem d67_73 : decode (cc 67) 73 = .ok (.getfield 152, 3) := by decide +kernel
theorem d67_76 : decode (cc 67) 76 = .ok (.iload 4, 2) := by decide +kernel
theorem d67_78 : decode (cc 67) 78 = .ok (.invokestatic 272, 3) := by decide +kernel
theorem d67_81 : decode (cc 67) 81 = .ok (.ladd, 1) := by decide +kernel
theorem d67_82 : decode (cc 67) 82 = .ok (.lstore 5, 2) := by decide +kernel
theorem d67_84 : decode (cc 67) 84 = .ok (.aload_n 0, 1) := by decide +kernel
theorem d67_85 : decode (cc 67) 85 = .ok (.iload_n 1, 1) := by decide +kernel
theorem d67_86 : decode (cc 67) 86 = .ok (.lload 5, 2) := by decide +kernel
theorem d67_88 : decode (cc 67) 88 = .ok (.aload_n 0, 1) := by decide +kernel
theorem d67_89 : decode (cc 67) 89 = .ok (.getfield 29, 3) := by decide +kernel
theorem d67_92 : decode (cc 67) 92 = .ok (.getfield 276, 3) := by decide +kernel
theorem d67_95 : decode (cc 67) 95 = .ok (.iload_n 2, 1) := by decide +kernel
theorem d67_96 : decode (cc 67) 96 = .ok (.iaload, 1) := by decide +kernel
theorem d67_97 : decode (cc 67) 97 = .ok (.i2l, 1) := by decide +kernel
theorem d67_98 : decode (cc 67) 98 = .ok (.invokevirtual 165, 3) := by decide +kernel
theorem d67_101 : decode (cc 67) 101 = .ok (.lreturn, 1) := by decide +kernel
theorem d68_0 : decode (cc 68) 0 = .ok (.lconst 0, 1) := by decide +kernel
theorem d68_1 : decode (cc 68) 1 = .ok (.lstore_n 3, 1) := by decide +kernel
theorem d68_2 : decode (cc 68) 2 = .ok (.iconst 0, 1) := by decide +kernel
theorem d68_3 : decode (cc 68) 3 = .ok (.istore 5, 2) := by decide +kernel
theorem d68_5 : decode (cc 68) 5 = .ok (.iload 5, 2) := by decide +kernel
theorem d68_7 : decode (cc 68) 7 = .ok (.aload_n 0, 1) := by decide +kernel
theorem d68_8 : decode (cc 68) 8 = .ok (.getfield 21, 3) := by decide +kernel
theorem d68_11 : decode (cc 68) 11 = .ok (.if_icmp .ge 42, 3) := by decide +kernel
theorem d68_14 : decode (cc 68) 14 = .ok (.aload_n 0, 1) := by decide +kernel
theorem d68_15 : decode (cc 68) 15 = .ok (.getfield 9, 3) := by decide +kernel
theorem d68_18 : decode (cc 68) 18 = .ok (.iload 5, 2) := by decide +kernel
theorem d68_20 : decode (cc 68) 20 = .ok (.iaload, 1) := by decide +kernel
theorem d68_21 : decode (cc 68) 21 = .ok (.iload_n 1, 1) := by decide +kernel
theorem d68_22 : decode (cc 68) 22 = .ok (.if_icmp .ne 25, 3) := by decide +kernel
theorem d68_25 : decode (cc 68) 25 = .ok (.aload_n 0, 1) := by decide +kernel
theorem d68_26 : decode (cc 68) 26 = .ok (.getfield 15, 3) := by decide +kernel
theorem d68_29 : decode (cc 68) 29 = .ok (.iload 5, 2) := by decide +kernel
theorem d68_31 : decode (cc 68) 31 = .ok (.iaload, 1) := by decide +kernel
theorem d68_32 : decode (cc 68) 32 = .ok (.iload_n 2, 1) := by decide +kernel
theorem d68_33 : decode (cc 68) 33 = .ok (.if_icmp .gt 14, 3) := by decide +kernel
theorem d68_36 : decode (cc 68) 36 = .ok (.lload_n 3, 1) := by decide +kernel
theorem d68_37 : decode (cc 68) 37 = .ok (.aload_n 0, 1) := by decide +kernel
theorem d68_38 : decode (cc 68) 38 = .ok (.getfield 18, 3) := by decide +kernel
theorem d68_41 : decode (cc 68) 41 = .ok (.iload 5, 2) := by decide +kernel
theorem d68_43 : decode (cc 68) 43 = .ok (.iaload, 1) := by decide +kernel
theorem d68_44 : decode (cc 68) 44 = .ok (.i2l, 1) := by decide +kernel
theorem d68_45 : decode (cc 68) 45 = .ok (.ladd, 1) := by decide +kernel
theorem d68_46 : decode (cc 68) 46 = .ok (.lstore_n 3, 1) := by decide +kernel
theorem d68_47 : decode (cc 68) 47 = .ok (.iinc 5 1, 3) := by decide +kernel
theorem d68_50 : decode (cc 68) 50 = .ok (.goto (-45), 3) := by decide +kernel
theorem d68_53 : decode (cc 68) 53 = .ok (.lload_n 3, 1) := by decide +kernel
theorem d68_54 : decode (cc 68) 54 = .ok (.lreturn, 1) := by decide +kernel
theorem d69_0 : decode (cc 69) 0 = .ok (.lconst 0, 1) := by decide +kernel
theorem d69_1 : decode (cc 69) 1 = .ok (.lstore_n 2, 1) := by decide +kernel
theorem d69_2 : decode (cc 69) 2 = .ok (.iconst 0, 1) := by decide +kernel
theorem d69_3 : decode (cc 69) 3 = .ok (.istore 4, 2) := by decide +kernel
theorem d69_5 : decode (cc 69) 5 = .ok (.iload 4, 2) := by decide +kernel
theorem d69_7 : decode (cc 69) 7 = .ok (.iload_n 1, 1) := by decide +kernel
theorem d69_8 : decode (cc 69) 8 = .ok (.if_icmp .ge 52, 3) := by decide +kernel
theorem d69_11 : decode (cc 69) 11 = .ok (.aload_n 0, 1) := by decide +kernel
theorem d69_12 : decode (cc 69) 12 = .ok (.getfield 9, 3) := by decide +kernel
theorem d69_15 : decode (cc 69) 15 = .ok (.iload 4, 2) := by decide +kernel
theorem d69_17 : decode (cc 69) 17 = .ok (.iaload, 1) := by decide +kernel
theorem d69_18 : decode (cc 69) 18 = .ok (.aload_n 0, 1) := by decide +kernel
theorem d69_19 : decode (cc 69) 19 = .ok (.getfield 9, 3) := by decide +kernel
theorem d69_22 : decode (cc 69) 22 = .ok (.iload_n 1, 1) := by decide +kernel
theorem d69_23 : decode (cc 69) 23 = .ok (.iaload, 1) := by decide +kernel
theorem d69_24 : decode (cc 69) 24 = .ok (.if_icmp .ne 30, 3) := by decide +kernel
theorem d69_27 : decode (cc 69) 27 = .ok (.aload_n 0, 1) := by decide +kernel
theorem d69_28 : decode (cc 69) 28 = .ok (.getfield 15, 3) := by decide +kernel
theorem d69_31 : decode (cc 69) 31 = .ok (.iload 4, 2) := by decide +kernel
theorem d69_33 : decode (cc 69) 33 = .ok (.iaload, 1) := by decide +kernel
theorem d69_34 : decode (cc 69) 34 = .ok (.aload_n 0, 1) := by decide +kernel
theorem d69_35 : decode (cc 69) 35 = .ok (.getfield 15, 3) := by decide +kernel
theorem d69_38 : decode (cc 69) 38 = .ok (.iload_n 1, 1) := by decide +kernel
theorem d69_39 : decode (cc 69) 39 = .ok (.iaload, 1) := by decide +kernel
theorem d69_40 : decode (cc 69) 40 = .ok (.if_icmp .ne 14, 3) := by decide +kernel
theorem d69_43 : decode (cc 69) 43 = .ok (.lload_n 2, 1) := by decide +kernel
theorem d69_44 : decode (cc 69) 44 = .ok (.aload_n 0, 1) := by decide +kernel
theorem d69_45 : decode (cc 69) 45 = .ok (.getfield 18, 3) := by decide +kernel
theorem d69_48 : decode (cc 69) 48 = .ok (.iload 4, 2) := by decide +kernel
theorem d69_50 : decode (cc 69) 50 = .ok (.iaload, 1) := by decide +kernel
theorem d69_51 : decode (cc 69) 51 = .ok (.i2l, 1) := by decide +kernel
theorem d69_52 : decode (cc 69) 52 = .ok (.ladd, 1) := by decide +kernel
theorem d69_53 : decode (cc 69) 53 = .ok (.lstore_n 2, 1) := by decide +kernel
theorem d69_54 : decode (cc 69) 54 = .ok (.iinc 4 1, 3) := by decide +kernel
theorem d69_57 : decode (cc 69) 57 = .ok (.goto (-52), 3) := by decide +kernel
theorem d69_60 : decode (cc 69) 60 = .ok (.lload_n 2, 1) := by decide +kernel
theorem d69_61 : decode (cc 69) 61 = .ok (.lreturn, 1) := by decide +kernel
theorem d70_0 : decode (cc 70) 0 = .ok (.lconst 0, 1) := by decide +kernel
theorem d70_1 : decode (cc 70) 1 = .ok (.lstore_n 2, 1) := by decide +kernel
theorem d70_2 : decode (cc 70) 2 = .ok (.iconst 0, 1) := by decide +kernel
theorem d70_3 : decode (cc 70) 3 = .ok (.istore 4, 2) := by decide +kernel
theorem d70_5 : decode (cc 70) 5 = .ok (.iload 4, 2) := by decide +kernel
theorem d70_7 : decode (cc 70) 7 = .ok (.bipush 12, 2) := by decide +kernel
theorem d70_9 : decode (cc 70) 9 = .ok (.if_icmp .ge 22, 3) := by decide +kernel
theorem d70_12 : decode (cc 70) 12 = .ok (.iload 4, 2) := by decide +kernel
theorem d70_14 : decode (cc 70) 14 = .ok (.iload_n 1, 1) := by decide +kernel
theorem d70_15 : decode (cc 70) 15 = .ok (.if_icmp .gt 16, 3) := by decide +kernel
theorem d70_18 : decode (cc 70) 18 = .ok (.lload_n 2, 1) := by decide +kernel
theorem d70_19 : decode (cc 70) 19 = .ok (.aload_n 0, 1) := by decide +kernel
theorem d70_20 : decode (cc 70) 20 = .ok (.iload 4, 2) := by decide +kernel
theorem d70_22 : decode (cc 70) 22 = .ok (.laload, 1) := by decide +kernel
theorem d70_23 : decode (cc 70) 23 = .ok (.ladd, 1) := by decide +kernel
theorem d70_24 : decode (cc 70) 24 = .ok (.lstore_n 2, 1) := by decide +kernel
theorem d70_25 : decode (cc 70) 25 = .ok (.iinc 4 1, 3) := by decide +kernel
theorem d70_28 : decode (cc 70) 28 = .ok (.goto (-23), 3) := by decide +kernel
theorem d70_31 : decode (cc 70) 31 = .ok (.lload_n 2, 1) := by decide +kernel
theorem d70_32 : decode (cc 70) 32 = .ok (.lreturn, 1) := by decide +kernel
theorem d71_0 : decode (cc 71) 0 = .ok (.aload_n 0, 1) := by decide +kernel
theorem d71_1 : decode (cc 71) 1 = .ok (.aload_n 0, 1) := by decide +kernel
theorem d71_2 : decode (cc 71) 2 = .ok (.getfield 25, 3) := by decide +kernel
theorem d71_5 : decode (cc 71) 5 = .ok (.getfield 131, 3) := by decide +kernel
theorem d71_8 : decode (cc 71) 8 = .ok (.iload_n 1, 1) := by decide +kernel
theorem d71_9 : decode (cc 71) 9 = .ok (.iaload, 1) := by decide +kernel
theorem d71_10 : decode (cc 71) 10 = .ok (.invokevirtual 50, 3) := by decide +kernel
theorem d71_13 : decode (cc 71) 13 = .ok (.getfield 149, 3) := by decide +kernel
theorem d71_16 : decode (cc 71) 16 = .ok (.aload_n 0, 1) := by decide +kernel
theorem d71_17 : decode (cc 71) 17 = .ok (.getfield 25, 3) := by decide +kernel
theorem d71_20 : decode (cc 71) 20 = .ok (.getfield 263, 3) := by decide +kernel
theorem d71_23 : decode (cc 71) 23 = .ok (.iload_n 1, 1) := by decide +kernel
theorem d71_24 : decode (cc 71) 24 = .ok (.iaload, 1) := by decide +kernel
theorem d71_25 : decode (cc 71) 25 = .ok (.iconst 1, 1) := by decide +kernel
theorem d71_26 : decode (cc 71) 26 = .ok (.isub, 1) := by decide +kernel
theorem d71_27 : decode (cc 71) 27 = .ok (.invokestatic 272, 3) := by decide +kernel
theorem d71_30 : decode (cc 71) 30 = .ok (.aload_n 0, 1) := by decide +kernel
theorem d71_31 : decode (cc 71) 31 = .ok (.getfield 25, 3) := by decide +kernel
theorem d71_34 : decode (cc 71) 34 = .ok (.iload_n 1, 1) := by decide +kernel
theorem d71_35 : decode (cc 71) 35 = .ok (.invokevirtual 269, 3) := by decide +kernel
theorem d71_38 : decode (cc 71) 38 = .ok (.ladd, 1) := by decide +kernel
theorem d71_39 : decode (cc 71) 39 = .ok (.lstore 6, 2) := by decide +kernel
theorem d71_41 : decode (cc 71) 41 = .ok (.lload_n 2, 1) := by decide +kernel
theorem d71_42 : decode (cc 71) 42 = .ok (.lload 6, 2) := by decide +kernel
theorem d71_44 : decode (cc 71) 44 = .ok (.invokestatic 279, 3) := by decide +kernel
theorem d71_47 : decode (cc 71) 47 = .ok (.lstore 8, 2) := by decide +kernel
theorem d71_49 : decode (cc 71) 49 = .ok (.lload_n 2, 1) := by decide +kernel
theorem d71_50 : decode (cc 71) 50 = .ok (.lload 4, 2) := by decide +kernel
theorem d71_52 : decode (cc 71) 52 = .ok (.ladd, 1) := by decide +kernel
theorem d71_53 : decode (cc 71) 53 = .ok (.lload 6, 2) := by decide +kernel
theorem d71_55 : decode (cc 71) 55 = .ok (.aload_n 0, 1) := by decide +kernel
theorem d71_56 : decode (cc 71) 56 = .ok (.getfield 25, 3) := by decide +kernel
theorem d71_59 : decode (cc 71) 59 = .ok (.getfield 276, 3) := by decide +kernel
theorem d71_62 : decode (cc 71) 62 = .ok (.iload_n 1, 1) := by decide +kernel
theorem d71_63 : decode (cc 71) 63 = .ok (.iaload, 1) := by decide +kernel
theorem d71_64 : decode (cc 71) 64 = .ok (.i2l, 1) := by decide +kernel
theorem d71_65 : decode (cc 71) 65 = .ok (.ladd, 1) := by decide +kernel
theorem d71_66 : decode (cc 71) 66 = .ok (.invokestatic 285, 3) := by decide +kernel
theorem d71_69 : decode (cc 71) 69 = .ok (.lstore 10, 2) := by decide +kernel
theorem d71_71 : decode (cc 71) 71 = .ok (.lload 10, 2) := by decide +kernel
theorem d71_73 : decode (cc 71) 73 = .ok (.lload 8, 2) := by decide +kernel
theorem d71_75 : decode (cc 71) 75 = .ok (.lsub, 1) := by decide +kernel
theorem d71_76 : decode (cc 71) 76 = .ok (.lconst 0, 1) := by decide +kernel
theorem d71_77 : decode (cc 71) 77 = .ok (.invokestatic 279, 3) := by decide +kernel
theorem d71_80 : decode (cc 71) 80 = .ok (.lreturn, 1) := by decide +kernel
theorem d72_0 : decode (cc 72) 0 = .ok (.aload_n 0, 1) := by decide +kernel
theorem d72_1 : decode (cc 72) 1 = .ok (.getfield 25, 3) := by decide +kernel
theorem d72_4 : decode (cc 72) 4 = .ok (.getfield 131, 3) := by decide +kernel
theorem d72_7 : decode (cc 72) 7 = .ok (.iload_n 1, 1) := by decide +kernel
theorem d72_8 : decode (cc 72) 8 = .ok (.iaload, 1) := by decide +kernel
theorem d72_9 : decode (cc 72) 9 = .ok (.istore_n 3, 1) := by decide +kernel
theorem d72_10 : decode (cc 72) 10 = .ok (.aload_n 0, 1) := by decide +kernel
theorem d72_11 : decode (cc 72) 11 = .ok (.iload_n 3, 1) := by decide +kernel
theorem d72_12 : decode (cc 72) 12 = .ok (.invokevirtual 50, 3) := by decide +kernel
theorem d72_15 : decode (cc 72) 15 = .ok (.getfield 120, 3) := by decide +kernel
theorem d72_18 : decode (cc 72) 18 = .ok (.i2l, 1) := by decide +kernel
theorem d72_19 : decode (cc 72) 19 = .ok (.aload_n 0, 1) := by decide +kernel
theorem d72_20 : decode (cc 72) 20 = .ok (.getfield 29, 3) := by decide +kernel
theorem d72_23 : decode (cc 72) 23 = .ok (.iload_n 3, 1) := by decide +kernel
theorem d72_24 : decode (cc 72) 24 = .ok (.iload_n 2, 1) := by decide +kernel
theorem d72_25 : decode (cc 72) 25 = .ok (.invokevirtual 266, 3) := by decide +kernel
theorem d72_28 : decode (cc 72) 28 = .ok (.ladd, 1) := by decide +kernel
theorem d72_29 : decode (cc 72) 29 = .ok (.aload_n 0, 1) := by decide +kernel
theorem d72_30 : decode (cc 72) 30 = .ok (.getfield 11, 3) := by decide +kernel
theorem d72_33 : decode (cc 72) 33 = .ok (.iload_n 3, 1) := by decide +kernel
theorem d72_34 : decode (cc 72) 34 = .ok (.aaload, 1) := by decide +kernel
theorem d72_35 : decode (cc 72) 35 = .ok (.getfield 152, 3) := by decide +kernel
theorem d72_38 : decode (cc 72) 38 = .ok (.iload_n 2, 1) := by decide +kernel
theorem d72_39 : decode (cc 72) 39 = .ok (.iconst 1, 1) := by decide +kernel
theorem d72_40 : decode (cc 72) 40 = .ok (.isub, 1) := by decide +kernel
theorem d72_41 : decode (cc 72) 41 = .ok (.invokestatic 272, 3) := by decide +kernel
theorem d72_44 : decode (cc 72) 44 = .ok (.ladd, 1) := by decide +kernel
theorem d72_45 : decode (cc 72) 45 = .ok (.lstore 4, 2) := by decide +kernel
theorem d72_47 : decode (cc 72) 47 = .ok (.aload_n 0, 1) := by decide +kernel
theorem d72_48 : decode (cc 72) 48 = .ok (.iload_n 1, 1) := by decide +kernel
theorem d72_49 : decode (cc 72) 49 = .ok (.lload 4, 2) := by decide +kernel
theorem d72_51 : decode (cc 72) 51 = .ok (.aload_n 0, 1) := by decide +kernel
theorem d72_52 : decode (cc 72) 52 = .ok (.getfield 11, 3) := by decide +kernel
theorem d72_55 : decode (cc 72) 55 = .ok (.iload_n 3, 1) := by decide +kernel
theorem d72_56 : decode (cc 72) 56 = .ok (.aaload, 1) := by decide +kernel
theorem d72_57 : decode (cc 72) 57 = .ok (.getfield 152, 3) := by decide +kernel
theorem d72_60 : decode (cc 72) 60 = .ok (.iload_n 2, 1) := by decide +kernel
theorem d72_61 : decode (cc 72) 61 = .ok (.laload, 1) := by decide +kernel
theorem d72_62 : decode (cc 72) 62 = .ok (.invokevirtual 165, 3) := by decide +kernel
theorem d72_65 : decode (cc 72) 65 = .ok (.lreturn, 1) := by decide +kernel
theorem d73_0 : decode (cc 73) 0 = .ok (.aload 4, 2) := by decide +kernel
theorem d73_2 : decode (cc 73) 2 = .ok (.iconst 0, 1) := by decide +kernel
theorem d73_3 : decode (cc 73) 3 = .ok (.aload_n 0, 1) := by decide +kernel
theorem d73_4 : decode (cc 73) 4 = .ok (.iload_n 1, 1) := by decide +kernel
theorem d73_5 : decode (cc 73) 5 = .ok (.iload_n 2, 1) := by decide +kernel
theorem d73_6 : decode (cc 73) 6 = .ok (.iload_n 3, 1) := by decide +kernel
theorem d73_7 : decode (cc 73) 7 = .ok (.invokevirtual 62, 3) := by decide +kernel
theorem d73_10 : decode (cc 73) 10 = .ok (.i2l, 1) := by decide +kernel
theorem d73_11 : decode (cc 73) 11 = .ok (.lastore, 1) := by decide +kernel
theorem d73_12 : decode (cc 73) 12 = .ok (.goto 15, 3) := by decide +kernel
theorem d73_15 : decode (cc 73) 15 = .ok (.astore 5, 2) := by decide +kernel
theorem d73_17 : decode (cc 73) 17 = .ok (.iconst 1, 1) := by decide +kernel
theorem d73_18 : decode (cc 73) 18 = .ok (.ireturn, 1) := by decide +kernel
theorem d73_19 : decode (cc 73) 19 = .ok (.astore 5, 2) := by decide +kernel
theorem d73_21 : decode (cc 73) 21 = .ok (.iconst 2, 1) := by decide +kernel
theorem d73_22 : decode (cc 73) 22 = .ok (.ireturn, 1) := by decide +kernel
theorem d73_23 : decode (cc 73) 23 = .ok (.astore 5, 2) := by decide +kernel
theorem d73_25 : decode (cc 73) 25 = .ok (.iconst 3, 1) := by decide +kernel
theorem d73_26 : decode (cc 73) 26 = .ok (.ireturn, 1) := by decide +kernel
theorem d73_27 : decode (cc 73) 27 = .ok (.iconst 0, 1) := by decide +kernel
theorem d73_28 : decode (cc 73) 28 = .ok (.ireturn, 1) := by decide +kernel
theorem d74_0 : decode (cc 74) 0 = .ok (.iload_n 1, 1) := by decide +kernel
theorem d74_1 : decode (cc 74) 1 = .ok (.invokestatic 95, 3) := by decide +kernel
theorem d74_4 : decode (cc 74) 4 = .ok (.iload_n 3, 1) := by decide +kernel
theorem d74_5 : decode (cc 74) 5 = .ok (.invokestatic 143, 3) := by decide +kernel
theorem d74_8 : decode (cc 74) 8 = .ok (.iload_n 2, 1) := by decide +kernel
theorem d74_9 : decode (cc 74) 9 = .ok (.iconst 1, 1) := by decide +kernel
theorem d74_10 : decode (cc 74) 10 = .ok (.sipush 1000, 3) := by decide +kernel
theorem d74_13 : decode (cc 74) 13 = .ok (.invokestatic 54, 3) := by decide +kernel
theorem d74_16 : decode (cc 74) 16 = .ok (.aload_n 0, 1) := by decide +kernel
theorem d74_17 : decode (cc 74) 17 = .ok (.invokevirtual 146, 3) := by decide +kernel
theorem d74_20 : decode (cc 74) 20 = .ok (.aload_n 0, 1) := by decide +kernel
theorem d74_21 : decode (cc 74) 21 = .ok (.iload_n 1, 1) := by decide +kernel
theorem d74_22 : decode (cc 74) 22 = .ok (.iload_n 2, 1) := by decide +kernel
theorem d74_23 : decode (cc 74) 23 = .ok (.iload_n 3, 1) := by decide +kernel
theorem d74_24 : decode (cc 74) 24 = .ok (.invokevirtual 169, 3) := by decide +kernel
theorem d74_27 : decode (cc 74) 27 = .ok (.ireturn, 1) := by decide +kernel
theorem d75_0 : decode (cc 75) 0 = .ok (.iconst (-1), 1) := by decide +kernel
theorem d75_1 : decode (cc 75) 1 = .ok (.istore 4, 2) := by decide +kernel
theorem d75_3 : decode (cc 75) 3 = .ok (.bipush 11, 2) := by decide +kernel
theorem d75_5 : decode (cc 75) 5 = .ok (.istore 5, 2) := by decide +kernel
theorem d75_7 : decode (cc 75) 7 = .ok (.iload 5, 2) := by decide +kernel
theorem d75_9 : decode (cc 75) 9 = .ok (.iload_n 3, 1) := by decide +kernel
theorem d75_10 : decode (cc 75) 10 = .ok (.if_icmp .lt 44, 3) := by decide +kernel
theorem d75_13 : decode (cc 75) 13 = .ok (.aload_n 0, 1) := by decide +kernel
theorem d75_14 : decode (cc 75) 14 = .ok (.iload_n 1, 1) := by decide +kernel
theorem d75_15 : decode (cc 75) 15 = .ok (.invokevirtual 50, 3) := by decide +kernel
theorem d75_18 : decode (cc 75) 18 = .ok (.getfield 155, 3) := by decide +kernel
theorem d75_21 : decode (cc 75) 21 = .ok (.iload 5, 2) := by decide +kernel
theorem d75_23 : decode (cc 75) 23 = .ok (.laload, 1) := by decide +kernel
theorem d75_24 : decode (cc 75) 24 = .ok (.aload_n 0, 1) := by decide +kernel
theorem d75_25 : decode (cc 75) 25 = .ok (.getfield 32, 3) := by decide +kernel
theorem d75_28 : decode (cc 75) 28 = .ok (.iload_n 1, 1) := by decide +kernel
theorem d75_29 : decode (cc 75) 29 = .ok (.iload 5, 2) := by decide +kernel
theorem d75_31 : decode (cc 75) 31 = .ok (.invokevirtual 266, 3) := by decide +kernel
theorem d75_34 : decode (cc 75) 34 = .ok (.lsub, 1) := by decide +kernel
theorem d75_35 : decode (cc 75) 35 = .ok (.iload_n 2, 1) := by decide +kernel
theorem d75_36 : decode (cc 75) 36 = .ok (.i2l, 1) := by decide +kernel
theorem d75_37 : decode (cc 75) 37 = .ok (.lcmp, 1) := by decide +kernel
theorem d75_38 : decode (cc 75) 38 = .ok (.ifCond .ge 6, 3) := by decide +kernel
theorem d75_41 : decode (cc 75) 41 = .ok (.goto 13, 3) := by decide +kernel
theorem d75_44 : decode (cc 75) 44 = .ok (.iload 5, 2) := by decide +kernel
theorem d75_46 : decode (cc 75) 46 = .ok (.istore 4, 2) := by decide +kernel
theorem d75_48 : decode (cc 75) 48 = .ok (.iinc 5 (-1), 3) := by decide +kernel
theorem d75_51 : decode (cc 75) 51 = .ok (.goto (-44), 3) := by decide +kernel
theorem d75_54 : decode (cc 75) 54 = .ok (.iload 4, 2) := by decide +kernel
theorem d75_56 : decode (cc 75) 56 = .ok (.ireturn, 1) := by decide +kernel
theorem d76_0 : decode (cc 76) 0 = .ok (.aload 4, 2) := by decide +kernel
theorem d76_2 : decode (cc 76) 2 = .ok (.iconst 0, 1) := by decide +kernel
theorem d76_3 : decode (cc 76) 3 = .ok (.aload_n 0, 1) := by decide +kernel
theorem d76_4 : decode (cc 76) 4 = .ok (.iload_n 1, 1) := by decide +kernel
theorem d76_5 : decode (cc 76) 5 = .ok (.iload_n 2, 1) := by decide +kernel
theorem d76_6 : decode (cc 76) 6 = .ok (.iload_n 3, 1) := by decide +kernel
theorem d76_7 : decode (cc 76) 7 = .ok (.invokevirtual 65, 3) := by decide +kernel
theorem d76_10 : decode (cc 76) 10 = .ok (.i2l, 1) := by decide +kernel
theorem d76_11 : decode (cc 76) 11 = .ok (.lastore, 1) := by decide +kernel
theorem d76_12 : decode (cc 76) 12 = .ok (.goto 15, 3) := by decide +kernel
theorem d76_15 : decode (cc 76) 15 = .ok (.astore 5, 2) := by decide +kernel
theorem d76_17 : decode (cc 76) 17 = .ok (.iconst 1, 1) := by decide +kernel
theorem d76_18 : decode (cc 76) 18 = .ok (.ireturn, 1) := by decide +kernel
theorem d76_19 : decode (cc 76) 19 = .ok (.astore 5, 2) := by decide +kernel
theorem d76_21 : decode (cc 76) 21 = .ok (.iconst 2, 1) := by decide +kernel
theorem d76_22 : decode (cc 76) 22 = .ok (.ireturn, 1) := by decide +kernel
theorem d76_23 : decode (cc 76) 23 = .ok (.astore 5, 2) := by decide +kernel
theorem d76_25 : decode (cc 76) 25 = .ok (.iconst 3, 1) := by decide +kernel
theorem d76_26 : decode (cc 76) 26 = .ok (.ireturn, 1) := by decide +kernel
theorem d76_27 : decode (cc 76) 27 = .ok (.iconst 0, 1) := by decide +kernel
theorem d76_28 : decode (cc 76) 28 = .ok (.ireturn, 1) := by decide +kernel
theorem d77_0 : decode (cc 77) 0 = .ok (.iload_n 1, 1) := by decide +kernel
theorem d77_1 : decode (cc 77) 1 = .ok (.invokestatic 95, 3) := by decide +kernel
theorem d77_4 : decode (cc 77) 4 = .ok (.iload_n 3, 1) := by decide +kernel
theorem d77_5 : decode (cc 77) 5 = .ok (.invokestatic 143, 3) := by decide +kernel
theorem d77_8 : decode (cc 77) 8 = .ok (.iload_n 2, 1) := by decide +kernel
theorem d77_9 : decode (cc 77) 9 = .ok (.iconst 1, 1) := by decide +kernel
theorem d77_10 : decode (cc 77) 10 = .ok (.sipush 1000, 3) := by decide +kernel
theorem d77_13 : decode (cc 77) 13 = .ok (.invokestatic 54, 3) := by decide +kernel
theorem d77_16 : decode (cc 77) 16 = .ok (.aload_n 0, 1) := by decide +kernel
theorem d77_17 : decode (cc 77) 17 = .ok (.invokevirtual 146, 3) := by decide +kernel
theorem d77_20 : decode (cc 77) 20 = .ok (.aload_n 0, 1) := by decide +kernel
theorem d77_21 : decode (cc 77) 21 = .ok (.getfield 32, 3) := by decide +kernel
theorem d77_24 : decode (cc 77) 24 = .ok (.invokestatic 173, 3) := by decide +kernel
theorem d77_27 : decode (cc 77) 27 = .ok (.aload_n 0, 1) := by decide +kernel
theorem d77_28 : decode (cc 77) 28 = .ok (.iload_n 1, 1) := by decide +kernel
theorem d77_29 : decode (cc 77) 29 = .ok (.iload_n 2, 1) := by decide +kernel
theorem d77_30 : decode (cc 77) 30 = .ok (.iload_n 3, 1) := by decide +kernel
theorem d77_31 : decode (cc 77) 31 = .ok (.invokevirtual 169, 3) := by decide +kernel
theorem d77_34 : decode (cc 77) 34 = .ok (.iload_n 3, 1) := by decide +kernel
theorem d77_35 : decode (cc 77) 35 = .ok (.if_icmp .eq 5, 3) := by decide +kernel
theorem d77_38 : decode (cc 77) 38 = .ok (.iconst (-1), 1) := by decide +kernel
theorem d77_39 : decode (cc 77) 39 = .ok (.ireturn, 1) := by decide +kernel
theorem d77_40 : decode (cc 77) 40 = .ok (.aload_n 0, 1) := by decide +kernel
theorem d77_41 : decode (cc 77) 41 = .ok (.getfield 32, 3) := by decide +kernel
theorem d77_44 : decode (cc 77) 44 = .ok (.iload_n 1, 1) := by decide +kernel
theorem d77_45 : decode (cc 77) 45 = .ok (.iload_n 3, 1) := by decide +kernel
theorem d77_46 : decode (cc 77) 46 = .ok (.iload_n 2, 1) := by decide +kernel
theorem d77_47 : decode (cc 77) 47 = .ok (.invokevirtual 177, 3) := by decide +kernel
theorem d77_50 : decode (cc 77) 50 = .ok (.ireturn, 1) := by decide +kernel
theorem d78_0 : decode (cc 78) 0 = .ok (.aload_n 2, 1) := by decide +kernel
theorem d78_1 : decode (cc 78) 1 = .ok (.iconst 0, 1) := by decide +kernel
theorem d78_2 : decode (cc 78) 2 = .ok (.aload_n 0, 1) := by decide +kernel
theorem d78_3 : decode (cc 78) 3 = .ok (.iload_n 1, 1) := by decide +kernel
theorem d78_4 : decode (cc 78) 4 = .ok (.invokevirtual 68, 3) := by decide +kernel
theorem d78_7 : decode (cc 78) 7 = .ok (.i2l, 1) := by decide +kernel
theorem d78_8 : decode (cc 78) 8 = .ok (.lastore, 1) := by decide +kernel
theorem d78_9 : decode (cc 78) 9 = .ok (.goto 6, 3) := by decide +kernel
theorem d78_12 : decode (cc 78) 12 = .ok (.astore_n 3, 1) := by decide +kernel
theorem d78_13 : decode (cc 78) 13 = .ok (.iconst 1, 1) := by decide +kernel
theorem d78_14 : decode (cc 78) 14 = .ok (.ireturn, 1) := by decide +kernel
theorem d78_15 : decode (cc 78) 15 = .ok (.iconst 0, 1) := by decide +kernel
theorem d78_16 : decode (cc 78) 16 = .ok (.ireturn, 1) := by decide +kernel
theorem d79_0 : decode (cc 79) 0 = .ok (.aload_n 0, 1) := by decide +kernel
theorem d79_1 : decode (cc 79) 1 = .ok (.getfield 32, 3) := by decide +kernel
theorem d79_4 : decode (cc 79) 4 = .ok (.iload_n 1, 1) := by decide +kernel
theorem d79_5 : decode (cc 79) 5 = .ok (.invokestatic 127, 3) := by decide +kernel
theorem d79_8 : decode (cc 79) 8 = .ok (.aload_n 0, 1) := by decide +kernel
theorem d79_9 : decode (cc 79) 9 = .ok (.getfield 32, 3) := by decide +kernel
theorem d79_12 : decode (cc 79) 12 = .ok (.iload_n 1, 1) := by decide +kernel
theorem d79_13 : decode (cc 79) 13 = .ok (.iconst 0, 1) := by decide +kernel
theorem d79_14 : decode (cc 79) 14 = .ok (.invokevirtual 134, 3) := by decide +kernel
theorem d79_17 : decode (cc 79) 17 = .ok (.ireturn, 1) := by decide +kernel
theorem d80_0 : decode (cc 80) 0 = .ok (.aload_n 3, 1) := by decide +kernel
theorem d80_1 : decode (cc 80) 1 = .ok (.iconst 0, 1) := by decide +kernel
theorem d80_2 : decode (cc 80) 2 = .ok (.aload_n 0, 1) := by decide +kernel
theorem d80_3 : decode (cc 80) 3 = .ok (.iload_n 1, 1) := by decide +kernel
theorem d80_4 : decode (cc 80) 4 = .ok (.iload_n 2, 1) := by decide +kernel
theorem d80_5 : decode (cc 80) 5 = .ok (.invokevirtual 71, 3) := by decide +kernel
theorem d80_8 : decode (cc 80) 8 = .ok (.lastore, 1) := by decide +kernel
theorem d80_9 : decode (cc 80) 9 = .ok (.goto 11, 3) := by decide +kernel
theorem d80_12 : decode (cc 80) 12 = .ok (.astore 4, 2) := by decide +kernel
theorem d80_14 : decode (cc 80) 14 = .ok (.iconst 1, 1) := by decide +kernel
theorem d80_15 : decode (cc 80) 15 = .ok (.ireturn, 1) := by decide +kernel
theorem d80_16 : decode (cc 80) 16 = .ok (.astore 4, 2) := by decide +kernel
theorem d80_18 : decode (cc 80) 18 = .ok (.iconst 2, 1) := by decide +kernel
theorem d80_19 : decode (cc 80) 19 = .ok (.ireturn, 1) := by decide +kernel
theorem d80_20 : decode (cc 80) 20 = .ok (.iconst 0, 1) := by decide +kernel
theorem d80_21 : decode (cc 80) 21 = .ok (.ireturn, 1) := by decide +kernel
theorem d81_0 : decode (cc 81) 0 = .ok (.iload_n 1, 1) := by decide +kernel
theorem d81_1 : decode (cc 81) 1 = .ok (.invokestatic 85, 3) := by decide +kernel
theorem d81_4 : decode (cc 81) 4 = .ok (.iload_n 2, 1) := by decide +kernel
theorem d81_5 : decode (cc 81) 5 = .ok (.invokestatic 143, 3) := by decide +kernel
theorem d81_8 : decode (cc 81) 8 = .ok (.aload_n 0, 1) := by decide +kernel
theorem d81_9 : decode (cc 81) 9 = .ok (.invokevirtual 146, 3) := by decide +kernel
theorem d81_12 : decode (cc 81) 12 = .ok (.lconst 0, 1) := by decide +kernel
theorem d81_13 : decode (cc 81) 13 = .ok (.lstore_n 3, 1) := by decide +kernel
theorem d81_14 : decode (cc 81) 14 = .ok (.iconst 0, 1) := by decide +kernel
theorem d81_15 : decode (cc 81) 15 = .ok (.istore 5, 2) := by decide +kernel
theorem d81_17 : decode (cc 81) 17 = .ok (.iload 5, 2) := by decide +kernel
theorem d81_19 : decode (cc 81) 19 = .ok (.bipush 12, 2) := by decide +kernel
theorem d81_21 : decode (cc 81) 21 = .ok (.if_icmp .ge 49, 3) := by decide +kernel
theorem d81_24 : decode (cc 81) 24 = .ok (.aload_n 0, 1) := by decide +kernel
theorem d81_25 : decode (cc 81) 25 = .ok (.getfield 11, 3) := by decide +kernel
theorem d81_28 : decode (cc 81) 28 = .ok (.iload 5, 2) := by decide +kernel
theorem d81_30 : decode (cc 81) 30 = .ok (.aaload, 1) := by decide +kernel
theorem d81_31 : decode (cc 81) 31 = .ok (.getfield 89, 3) := by decide +kernel
theorem d81_34 : decode (cc 81) 34 = .ok (.iload_n 1, 1) := by decide +kernel
theorem d81_35 : decode (cc 81) 35 = .ok (.if_icmp .ne 29, 3) := by decide +kernel
theorem d81_38 : decode (cc 81) 38 = .ok (.lload_n 3, 1) := by decide +kernel
theorem d81_39 : decode (cc 81) 39 = .ok (.aload_n 0, 1) := by decide +kernel
theorem d81_40 : decode (cc 81) 40 = .ok (.getfield 11, 3) := by decide +kernel
theorem d81_43 : decode (cc 81) 43 = .ok (.iload 5, 2) := by decide +kernel
theorem d81_45 : decode (cc 81) 45 = .ok (.aaload, 1) := by decide +kernel
theorem d81_46 : decode (cc 81) 46 = .ok (.getfield 92, 3) := by decide +kernel
theorem d81_49 : decode (cc 81) 49 = .ok (.i2l, 1) := by decide +kernel
theorem d81_50 : decode (cc 81) 50 = .ok (.aload_n 0, 1) := by decide +kernel
theorem d81_51 : decode (cc 81) 51 = .ok (.getfield 11, 3) := by decide +kernel
theorem d81_54 : decode (cc 81) 54 = .ok (.iload 5, 2) := by decide +kernel
theorem d81_56 : decode (cc 81) 56 = .ok (.aaload, 1) := by decide +kernel
theorem d81_57 : decode (cc 81) 57 = .ok (.iload_n 2, 1) := by decide +kernel
theorem d81_58 : decode (cc 81) 58 = .ok (.invokevirtual 180, 3) := by decide +kernel
theorem d81_61 : decode (cc 81) 61 = .ok (.lmul, 1) := by decide +kernel
theorem d81_62 : decode (cc 81) 62 = .ok (.ladd, 1) := by decide +kernel
theorem d81_63 : decode (cc 81) 63 = .ok (.lstore_n 3, 1) := by decide +kernel
theorem d81_64 : decode (cc 81) 64 = .ok (.iinc 5 1, 3) := by decide +kernel
theorem d81_67 : decode (cc 81) 67 = .ok (.goto (-50), 3) := by decide +kernel
theorem d81_70 : decode (cc 81) 70 = .ok (.lload_n 3, 1) := by decide +kernel
theorem d81_71 : decode (cc 81) 71 = .ok (.lreturn, 1) := by decide +kernel
theorem d82_0 : decode (cc 82) 0 = .ok (.aload_n 2, 1) := by decide +kernel
theorem d82_1 : decode (cc 82) 1 = .ok (.iconst 0, 1) := by decide +kernel
theorem d82_2 : decode (cc 82) 2 = .ok (.aload_n 0, 1) := by decide +kernel
theorem d82_3 : decode (cc 82) 3 = .ok (.iload_n 1, 1) := by decide +kernel
theorem d82_4 : decode (cc 82) 4 = .ok (.invokevirtual 74, 3) := by decide +kernel
theorem d82_7 : decode (cc 82) 7 = .ok (.i2l, 1) := by decide +kernel
theorem d82_8 : decode (cc 82) 8 = .ok (.lastore, 1) := by decide +kernel
theorem d82_9 : decode (cc 82) 9 = .ok (.goto 6, 3) := by decide +kernel
theorem d82_12 : decode (cc 82) 12 = .ok (.astore_n 3, 1) := by decide +kernel
theorem d82_13 : decode (cc 82) 13 = .ok (.iconst 1, 1) := by decide +kernel
theorem d82_14 : decode (cc 82) 14 = .ok (.ireturn, 1) := by decide +kernel
theorem d82_15 : decode (cc 82) 15 = .ok (.iconst 0, 1) := by decide +kernel
theorem d82_16 : decode (cc 82) 16 = .ok (.ireturn, 1) := by decide +kernel
theorem d83_0 : decode (cc 83) 0 = .ok (.iload_n 1, 1) := by decide +kernel
theorem d83_1 : decode (cc 83) 1 = .ok (.tableswitch 93 0 5 #[39, 47, 55, 63, 71, 80], 39) := by decide +kernel
theorem d83_40 : decode (cc 83) 40 = .ok (.aload_n 0, 1) := by decide +kernel
theorem d83_41 : decode (cc 83) 41 = .ok (.getfield 18, 3) := by decide +kernel
theorem d83_44 : decode (cc 83) 44 = .ok (.getfield 184, 3) := by decide +kernel
theorem d83_47 : decode (cc 83) 47 = .ok (.ireturn, 1) := by decide +kernel
theorem d83_48 : decode (cc 83) 48 = .ok (.aload_n 0, 1) := by decide +kernel
theorem d83_49 : decode (cc 83) 49 = .ok (.getfield 25, 3) := by decide +kernel
theorem d83_52 : decode (cc 83) 52 = .ok (.getfield 187, 3) := by decide +kernel
theorem d83_55 : decode (cc 83) 55 = .ok (.ireturn, 1) := by decide +kernel
theorem d83_56 : decode (cc 83) 56 = .ok (.aload_n 0, 1) := by decide +kernel
theorem d83_57 : decode (cc 83) 57 = .ok (.getfield 29, 3) := by decide +kernel
theorem d83_60 : decode (cc 83) 60 = .ok (.getfield 187, 3) := by decide +kernel
theorem d83_63 : decode (cc 83) 63 = .ok (.ireturn, 1) := by decide +kernel
theorem d83_64 : decode (cc 83) 64 = .ok (.aload_n 0, 1) := by decide +kernel
theorem d83_65 : decode (cc 83) 65 = .ok (.getfield 32, 3) := by decide +kernel
theorem d83_68 : decode (cc 83) 68 = .ok (.getfield 187, 3) := by decide +kernel
theorem d83_71 : decode (cc 83) 71 = .ok (.ireturn, 1) := by decide +kernel
theorem d83_72 : decode (cc 83) 72 = .ok (.aload_n 0, 1) := by decide +kernel
theorem d83_73 : decode (cc 83) 73 = .ok (.invokevirtual 146, 3) := by decide +kernel
theorem d83_76 : decode (cc 83) 76 = .ok (.aload_n 0, 1) := by decide +kernel
theorem d83_77 : decode (cc 83) 77 = .ok (.invokevirtual 188, 3) := by decide +kernel
theorem d83_80 : decode (cc 83) 80 = .ok (.ireturn, 1) := by decide +kernel
theorem d83_81 : decode (cc 83) 81 = .ok (.aload_n 0, 1) := by decide +kernel
theorem d83_82 : decode (cc 83) 82 = .ok (.invokevirtual 192, 3) := by decide +kernel
theorem d83_85 : decode (cc 83) 85 = .ok (.ifCond .eq 7, 3) := by decide +kernel
theorem d83_88 : decode (cc 83) 88 = .ok (.iconst 1, 1) := by decide +kernel
theorem d83_89 : decode (cc 83) 89 = .ok (.goto 4, 3) := by decide +kernel
theorem d83_92 : decode (cc 83) 92 = .ok (.iconst 0, 1) := by decide +kernel
theorem d83_93 : decode (cc 83) 93 = .ok (.ireturn, 1) := by decide +kernel
theorem d83_94 : decode (cc 83) 94 = .ok (.iconst (-1), 1) := by decide +kernel
theorem d83_95 : decode (cc 83) 95 = .ok (.ireturn, 1) := by decide +kernel
theorem d84_0 : decode (cc 84) 0 = .ok (.iconst 0, 1) := by decide +kernel
theorem d84_1 : decode (cc 84) 1 = .ok (.istore_n 1, 1) := by decide +kernel
theorem d84_2 : decode (cc 84) 2 = .ok (.iconst 0, 1) := by decide +kernel
theorem d84_3 : decode (cc 84) 3 = .ok (.istore_n 2, 1) := by decide +kernel
theorem d84_4 : decode (cc 84) 4 = .ok (.iload_n 2, 1) := by decide +kernel
theorem d84_5 : decode (cc 84) 5 = .ok (.bipush 12, 2) := by decide +kernel
theorem d84_7 : decode (cc 84) 7 = .ok (.if_icmp .ge 24, 3) := by decide +kernel
theorem d84_10 : decode (cc 84) 10 = .ok (.aload_n 0, 1) := by decide +kernel
theorem d84_11 : decode (cc 84) 11 = .ok (.getfield 11, 3) := by decide +kernel
theorem d84_14 : decode (cc 84) 14 = .ok (.iload_n 2, 1) := by decide +kernel
theorem d84_15 : decode (cc 84) 15 = .ok (.aaload, 1) := by decide +kernel
theorem d84_16 : decode (cc 84) 16 = .ok (.invokevirtual 288, 3) := by decide +kernel
theorem d84_19 : decode (cc 84) 19 = .ok (.ifCond .eq 6, 3) := by decide +kernel
theorem d84_22 : decode (cc 84) 22 = .ok (.iinc 1 1, 3) := by decide +kernel
theorem d84_25 : decode (cc 84) 25 = .ok (.iinc 2 1, 3) := by decide +kernel
theorem d84_28 : decode (cc 84) 28 = .ok (.goto (-24), 3) := by decide +kernel
theorem d84_31 : decode (cc 84) 31 = .ok (.iload_n 1, 1) := by decide +kernel
theorem d84_32 : decode (cc 84) 32 = .ok (.ireturn, 1) := by decide +kernel
theorem d85_0 : decode (cc 85) 0 = .ok (.iconst 0, 1) := by decide +kernel
theorem d85_1 : decode (cc 85) 1 = .ok (.istore_n 1, 1) := by decide +kernel
theorem d85_2 : decode (cc 85) 2 = .ok (.iload_n 1, 1) := by decide +kernel
theorem d85_3 : decode (cc 85) 3 = .ok (.bipush 12, 2) := by decide +kernel
theorem d85_5 : decode (cc 85) 5 = .ok (.if_icmp .ge 22, 3) := by decide +kernel
theorem d85_8 : decode (cc 85) 8 = .ok (.aload_n 0, 1) := by decide +kernel
theorem d85_9 : decode (cc 85) 9 = .ok (.getfield 26, 3) := by decide +kernel
theorem d85_12 : decode (cc 85) 12 = .ok (.iload_n 1, 1) := by decide +kernel
theorem d85_13 : decode (cc 85) 13 = .ok (.laload, 1) := by decide +kernel
theorem d85_14 : decode (cc 85) 14 = .ok (.lconst 0, 1) := by decide +kernel
theorem d85_15 : decode (cc 85) 15 = .ok (.lcmp, 1) := by decide +kernel
theorem d85_16 : decode (cc 85) 16 = .ok (.ifCond .ge 5, 3) := by decide +kernel
theorem d85_19 : decode (cc 85) 19 = .ok (.iconst 1, 1) := by decide +kernel
theorem d85_20 : decode (cc 85) 20 = .ok (.ireturn, 1) := by decide +kernel
theorem d85_21 : decode (cc 85) 21 = .ok (.iinc 1 1, 3) := by decide +kernel
theorem d85_24 : decode (cc 85) 24 = .ok (.goto (-22), 3) := by decide +kernel
theorem d85_27 : decode (cc 85) 27 = .ok (.iconst 0, 1) := by decide +kernel
theorem d85_28 : decode (cc 85) 28 = .ok (.ireturn, 1) := by decide +kernel
theorem d86_0 : decode (cc 86) 0 = .ok (.aload_n 0, 1) := by decide +kernel
theorem d86_1 : decode (cc 86) 1 = .ok (.invokespecial 1, 3) := by decide +kernel
theorem d86_4 : decode (cc 86) 4 = .ok (.aload_n 0, 1) := by decide +kernel
theorem d86_5 : decode (cc 86) 5 = .ok (.bipush 12, 2) := by decide +kernel
theorem d86_7 : decode (cc 86) 7 = .ok (.newarray .int, 2) := by decide +kernel
theorem d86_9 : decode (cc 86) 9 = .ok (.putfield 7, 3) := by decide +kernel
theorem d86_12 : decode (cc 86) 12 = .ok (.aload_n 0, 1) := by decide +kernel
theorem d86_13 : decode (cc 86) 13 = .ok (.bipush 12, 2) := by decide +kernel
theorem d86_15 : decode (cc 86) 15 = .ok (.newarray .int, 2) := by decide +kernel
theorem d86_17 : decode (cc 86) 17 = .ok (.putfield 13, 3) := by decide +kernel
theorem d86_20 : decode (cc 86) 20 = .ok (.aload_n 0, 1) := by decide +kernel
theorem d86_21 : decode (cc 86) 21 = .ok (.bipush 12, 2) := by decide +kernel
theorem d86_23 : decode (cc 86) 23 = .ok (.newarray .int, 2) := by decide +kernel
theorem d86_25 : decode (cc 86) 25 = .ok (.putfield 16, 3) := by decide +kernel
theorem d86_28 : decode (cc 86) 28 = .ok (.aload_n 0, 1) := by decide +kernel
theorem d86_29 : decode (cc 86) 29 = .ok (.bipush 12, 2) := by decide +kernel
theorem d86_31 : decode (cc 86) 31 = .ok (.newarray .int, 2) := by decide +kernel
theorem d86_33 : decode (cc 86) 33 = .ok (.putfield 19, 3) := by decide +kernel
theorem d86_36 : decode (cc 86) 36 = .ok (.aload_n 0, 1) := by decide +kernel
theorem d86_37 : decode (cc 86) 37 = .ok (.bipush 12, 2) := by decide +kernel
theorem d86_39 : decode (cc 86) 39 = .ok (.newarray .int, 2) := by decide +kernel
theorem d86_41 : decode (cc 86) 41 = .ok (.putfield 22, 3) := by decide +kernel
theorem d86_44 : decode (cc 86) 44 = .ok (.aload_n 0, 1) := by decide +kernel
theorem d86_45 : decode (cc 86) 45 = .ok (.bipush 12, 2) := by decide +kernel
theorem d86_47 : decode (cc 86) 47 = .ok (.newarray .int, 2) := by decide +kernel
theorem d86_49 : decode (cc 86) 49 = .ok (.putfield 25, 3) := by decide +kernel
theorem d86_52 : decode (cc 86) 52 = .ok (.aload_n 0, 1) := by decide +kernel
theorem d86_53 : decode (cc 86) 53 = .ok (.bipush 12, 2) := by decide +kernel
theorem d86_55 : decode (cc 86) 55 = .ok (.newarray .int, 2) := by decide +kernel
theorem d86_57 : decode (cc 86) 57 = .ok (.putfield 28, 3) := by decide +kernel
theorem d86_60 : decode (cc 86) 60 = .ok (.aload_n 0, 1) := by decide +kernel
theorem d86_61 : decode (cc 86) 61 = .ok (.bipush 12, 2) := by decide +kernel
theorem d86_63 : decode (cc 86) 63 = .ok (.newarray .int, 2) := by decide +kernel
theorem d86_65 : decode (cc 86) 65 = .ok (.putfield 31, 3) := by decide +kernel
theorem d86_68 : decode (cc 86) 68 = .ok (.aload_n 0, 1) := by decide +kernel
theorem d86_69 : decode (cc 86) 69 = .ok (.bipush 12, 2) := by decide +kernel
theorem d86_71 : decode (cc 86) 71 = .ok (.newarray .int, 2) := by decide +kernel
theorem d86_73 : decode (cc 86) 73 = .ok (.putfield 34, 3) := by decide +kernel
theorem d86_76 : decode (cc 86) 76 = .ok (.aload_n 0, 1) := by decide +kernel
theorem d86_77 : decode (cc 86) 77 = .ok (.bipush 12, 2) := by decide +kernel
theorem d86_79 : decode (cc 86) 79 = .ok (.newarray .int, 2) := by decide +kernel
theorem d86_81 : decode (cc 86) 81 = .ok (.putfield 37, 3) := by decide +kernel
theorem d86_84 : decode (cc 86) 84 = .ok (.aload_n 0, 1) := by decide +kernel
theorem d86_85 : decode (cc 86) 85 = .ok (.sipush 144, 3) := by decide +kernel
theorem d86_88 : decode (cc 86) 88 = .ok (.newarray .int, 2) := by decide +kernel
theorem d86_90 : decode (cc 86) 90 = .ok (.putfield 40, 3) := by decide +kernel
theorem d86_93 : decode (cc 86) 93 = .ok (.aload_n 0, 1) := by decide +kernel
theorem d86_94 : decode (cc 86) 94 = .ok (.sipush 144, 3) := by decide +kernel
theorem d86_97 : decode (cc 86) 97 = .ok (.newarray .int, 2) := by decide +kernel
theorem d86_99 : decode (cc 86) 99 = .ok (.putfield 43, 3) := by decide +kernel
theorem d86_102 : decode (cc 86) 102 = .ok (.aload_n 0, 1) := by decide +kernel
theorem d86_103 : decode (cc 86) 103 = .ok (.sipush 144, 3) := by decide +kernel
theorem d86_106 : decode (cc 86) 106 = .ok (.newarray .int, 2) := by decide +kernel
theorem d86_108 : decode (cc 86) 108 = .ok (.putfield 46, 3) := by decide +kernel
theorem d86_111 : decode (cc 86) 111 = .ok (.aload_n 0, 1) := by decide +kernel
theorem d86_112 : decode (cc 86) 112 = .ok (.iconst 3, 1) := by decide +kernel
theorem d86_113 : decode (cc 86) 113 = .ok (.newarray .int, 2) := by decide +kernel
theorem d86_115 : decode (cc 86) 115 = .ok (.putfield 49, 3) := by decide +kernel
theorem d86_118 : decode (cc 86) 118 = .ok (.aload_n 0, 1) := by decide +kernel
theorem d86_119 : decode (cc 86) 119 = .ok (.bipush 72, 2) := by decide +kernel
theorem d86_121 : decode (cc 86) 121 = .ok (.newarray .int, 2) := by decide +kernel
theorem d86_123 : decode (cc 86) 123 = .ok (.putfield 52, 3) := by decide +kernel
theorem d86_126 : decode (cc 86) 126 = .ok (.aload_n 0, 1) := by decide +kernel
theorem d86_127 : decode (cc 86) 127 = .ok (.bipush 72, 2) := by decide +kernel
theorem d86_129 : decode (cc 86) 129 = .ok (.newarray .int, 2) := by decide +kernel
theorem d86_131 : decode (cc 86) 131 = .ok (.putfield 55, 3) := by decide +kernel
theorem d86_134 : decode (cc 86) 134 = .ok (.aload_n 0, 1) := by decide +kernel
theorem d86_135 : decode (cc 86) 135 = .ok (.bipush 72, 2) := by decide +kernel
theorem d86_137 : decode (cc 86) 137 = .ok (.newarray .int, 2) := by decide +kernel
theorem d86_139 : decode (cc 86) 139 = .ok (.putfield 58, 3) := by decide +kernel
theorem d86_142 : decode (cc 86) 142 = .ok (.aload_n 0, 1) := by decide +kernel
theorem d86_143 : decode (cc 86) 143 = .ok (.iconst 1, 1) := by decide +kernel
theorem d86_144 : decode (cc 86) 144 = .ok (.putfield 61, 3) := by decide +kernel
theorem d86_147 : decode (cc 86) 147 = .ok (.aload_n 0, 1) := by decide +kernel
theorem d86_148 : decode (cc 86) 148 = .ok (.bipush 12, 2) := by decide +kernel
theorem d86_150 : decode (cc 86) 150 = .ok (.newarray .boolean, 2) := by decide +kernel
theorem d86_152 : decode (cc 86) 152 = .ok (.putfield 65, 3) := by decide +kernel
theorem d86_155 : decode (cc 86) 155 = .ok (.aload_n 0, 1) := by decide +kernel
theorem d86_156 : decode (cc 86) 156 = .ok (.sipush 144, 3) := by decide +kernel
theorem d86_159 : decode (cc 86) 159 = .ok (.newarray .long, 2) := by decide +kernel
theorem d86_161 : decode (cc 86) 161 = .ok (.putfield 69, 3) := by decide +kernel
theorem d86_164 : decode (cc 86) 164 = .ok (.aload_n 0, 1) := by decide +kernel
theorem d86_165 : decode (cc 86) 165 = .ok (.sipush 144, 3) := by decide +kernel
theorem d86_168 : decode (cc 86) 168 = .ok (.newarray .long, 2) := by decide +kernel
theorem d86_170 : decode (cc 86) 170 = .ok (.putfield 73, 3) := by decide +kernel
theorem d86_173 : decode (cc 86) 173 = .ok (.aload_n 0, 1) := by decide +kernel
theorem d86_174 : decode (cc 86) 174 = .ok (.bipush 12, 2) := by decide +kernel
theorem d86_176 : decode (cc 86) 176 = .ok (.newarray .long, 2) := by decide +kernel
theorem d86_178 : decode (cc 86) 178 = .ok (.putfield 76, 3) := by decide +kernel
theorem d86_181 : decode (cc 86) 181 = .ok (.aload_n 0, 1) := by decide +kernel
theorem d86_182 : decode (cc 86) 182 = .ok (.bipush 13, 2) := by decide +kernel
theorem d86_184 : decode (cc 86) 184 = .ok (.newarray .long, 2) := by decide +kernel
theorem d86_186 : decode (cc 86) 186 = .ok (.putfield 79, 3) := by decide +kernel
theorem d86_189 : decode (cc 86) 189 = .ok (.aload_n 0, 1) := by decide +kernel
theorem d86_190 : decode (cc 86) 190 = .ok (.bipush 13, 2) := by decide +kernel
theorem d86_192 : decode (cc 86) 192 = .ok (.newarray .long, 2) := by decide +kernel
theorem d86_194 : decode (cc 86) 194 = .ok (.putfield 82, 3) := by decide +kernel
theorem d86_197 : decode (cc 86) 197 = .ok (.iconst 0, 1) := by decide +kernel
theorem d86_198 : decode (cc 86) 198 = .ok (.istore_n 1, 1) := by decide +kernel
theorem d86_199 : decode (cc 86) 199 = .ok (.iload_n 1, 1) := by decide +kernel
theorem d86_200 : decode (cc 86) 200 = .ok (.bipush 12, 2) := by decide +kernel
theorem d86_202 : decode (cc 86) 202 = .ok (.if_icmp .ge 16, 3) := by decide +kernel
theorem d86_205 : decode (cc 86) 205 = .ok (.aload_n 0, 1) := by decide +kernel
theorem d86_206 : decode (cc 86) 206 = .ok (.getfield 13, 3) := by decide +kernel
theorem d86_209 : decode (cc 86) 209 = .ok (.iload_n 1, 1) := by decide +kernel
theorem d86_210 : decode (cc 86) 210 = .ok (.iconst 1, 1) := by decide +kernel
theorem d86_211 : decode (cc 86) 211 = .ok (.iastore, 1) := by decide +kernel
theorem d86_212 : decode (cc 86) 212 = .ok (.iinc 1 1, 3) := by decide +kernel
theorem d86_215 : decode (cc 86) 215 = .ok (.goto (-16), 3) := by decide +kernel
theorem d86_218 : decode (cc 86) 218 = .ok (.return_, 1) := by decide +kernel
theorem d87_0 : decode (cc 87) 0 = .ok (.aload_n 0, 1) := by decide +kernel
theorem d87_1 : decode (cc 87) 1 = .ok (.getfield 85, 3) := by decide +kernel
theorem d87_4 : decode (cc 87) 4 = .ok (.ireturn, 1) := by decide +kernel
theorem d88_0 : decode (cc 88) 0 = .ok (.iload_n 2, 1) := by decide +kernel
theorem d88_1 : decode (cc 88) 1 = .ok (.iconst 0, 1) := by decide +kernel
theorem d88_2 : decode (cc 88) 2 = .ok (.iconst 3, 1) := by decide +kernel
theorem d88_3 : decode (cc 88) 3 = .ok (.invokestatic 89, 3) := by decide +kernel
theorem d88_6 : decode (cc 88) 6 = .ok (.ifCond .eq 40, 3) := by decide +kernel
theorem d88_9 : decode (cc 88) 9 = .ok (.iload_n 3, 1) := by decide +kernel
theorem d88_10 : decode (cc 88) 10 = .ok (.iconst 1, 1) := by decide +kernel
theorem d88_11 : decode (cc 88) 11 = .ok (.sipush 1000, 3) := by decide +kernel
theorem d88_14 : decode (cc 88) 14 = .ok (.invokestatic 89, 3) := by decide +kernel
theorem d88_17 : decode (cc 88) 17 = .ok (.ifCond .eq 29, 3) := by decide +kernel
theorem d88_20 : decode (cc 88) 20 = .ok (.iload 4, 2) := by decide +kernel
theorem d88_22 : decode (cc 88) 22 = .ok (.iconst 0, 1) := by decide +kernel
theorem d88_23 : decode (cc 88) 23 = .ok (.iconst 4, 1) := by decide +kernel
theorem d88_24 : decode (cc 88) 24 = .ok (.invokestatic 89, 3) := by decide +kernel
theorem d88_27 : decode (cc 88) 27 = .ok (.ifCond .eq 19, 3) := by decide +kernel
theorem d88_30 : decode (cc 88) 30 = .ok (.iload 5, 2) := by decide +kernel
theorem d88_32 : decode (cc 88) 32 = .ok (.iconst 0, 1) := by decide +kernel
theorem d88_33 : decode (cc 88) 33 = .ok (.sipush 1000, 3) := by decide +kernel
theorem d88_36 : decode (cc 88) 36 = .ok (.invokestatic 89, 3) := by decide +kernel
theorem d88_39 : decode (cc 88) 39 = .ok (.ifCond .eq 7, 3) := by decide +kernel
theorem d88_42 : decode (cc 88) 42 = .ok (.iconst 1, 1) := by decide +kernel
theorem d88_43 : decode (cc 88) 43 = .ok (.goto 4, 3) := by decide +kernel
theorem d88_46 : decode (cc 88) 46 = .ok (.iconst 0, 1) := by decide +kernel
theorem d88_47 : decode (cc 88) 47 = .ok (.istore 6, 2) := by decide +kernel
theorem d88_49 : decode (cc 88) 49 = .ok (.aload_n 0, 1) := by decide +kernel
theorem d88_50 : decode (cc 88) 50 = .ok (.iload_n 1, 1) := by decide +kernel
theorem d88_51 : decode (cc 88) 51 = .ok (.invokestatic 93, 3) := by decide +kernel
theorem d88_54 : decode (cc 88) 54 = .ok (.ifCond .ne 7, 3) := by decide +kernel
theorem d88_57 : decode (cc 88) 57 = .ok (.iconst 1, 1) := by decide +kernel
theorem d88_58 : decode (cc 88) 58 = .ok (.goto 13, 3) := by decide +kernel
theorem d88_61 : decode (cc 88) 61 = .ok (.iload 6, 2) := by decide +kernel
theorem d88_63 : decode (cc 88) 63 = .ok (.ifCond .ne 7, 3) := by decide +kernel
theorem d88_66 : decode (cc 88) 66 = .ok (.iconst 2, 1) := by decide +kernel
theorem d88_67 : decode (cc 88) 67 = .ok (.goto 4, 3) := by decide +kernel
theorem d88_70 : decode (cc 88) 70 = .ok (.iconst 0, 1) := by decide +kernel
theorem d88_71 : decode (cc 88) 71 = .ok (.invokevirtual 97, 3) := by decide +kernel
theorem d88_74 : decode (cc 88) 74 = .ok (.ifCond .ne 38, 3) := by decide +kernel
theorem d88_77 : decode (cc 88) 77 = .ok (.aload_n 0, 1) := by decide +kernel
theorem d88_78 : decode (cc 88) 78 = .ok (.getfield 7, 3) := by decide +kernel
theorem d88_81 : decode (cc 88) 81 = .ok (.iload_n 1, 1) := by decide +kernel
theorem d88_82 : decode (cc 88) 82 = .ok (.iload_n 2, 1) := by decide +kernel
theorem d88_83 : decode (cc 88) 83 = .ok (.iastore, 1) := by decide +kernel
theorem d88_84 : decode (cc 88) 84 = .ok (.aload_n 0, 1) := by decide +kernel
theorem d88_85 : decode (cc 88) 85 = .ok (.getfield 13, 3) := by decide +kernel
theorem d88_88 : decode (cc 88) 88 = .ok (.iload_n 1, 1) := by decide +kernel
theorem d88_89 : decode (cc 88) 89 = .ok (.iload_n 3, 1) := by decide +kernel
theorem d88_90 : decode (cc 88) 90 = .ok (.iastore, 1) := by decide +kernel
theorem d88_91 : decode (cc 88) 91 = .ok (.aload_n 0, 1) := by decide +kernel
theorem d88_92 : decode (cc 88) 92 = .ok (.getfield 16, 3) := by decide +kernel
theorem d88_95 : decode (cc 88) 95 = .ok (.iload_n 1, 1) := by decide +kernel
theorem d88_96 : decode (cc 88) 96 = .ok (.iload 4, 2) := by decide +kernel
theorem d88_98 : decode (cc 88) 98 = .ok (.iastore, 1) := by decide +kernel
theorem d88_99 : decode (cc 88) 99 = .ok (.aload_n 0, 1) := by decide +kernel
theorem d88_100 : decode (cc 88) 100 = .ok (.getfield 19, 3) := by decide +kernel
theorem d88_103 : decode (cc 88) 103 = .ok (.iload_n 1, 1) := by decide +kernel
theorem d88_104 : decode (cc 88) 104 = .ok (.iload 5, 2) := by decide +kernel
theorem d88_106 : decode (cc 88) 106 = .ok (.iastore, 1) := by decide +kernel
theorem d88_107 : decode (cc 88) 107 = .ok (.aload_n 0, 1) := by decide +kernel
theorem d88_108 : decode (cc 88) 108 = .ok (.iload_n 1, 1) := by decide +kernel
theorem d88_109 : decode (cc 88) 109 = .ok (.invokevirtual 100, 3) := by decide +kernel
theorem d88_112 : decode (cc 88) 112 = .ok (.return_, 1) := by decide +kernel
theorem d89_0 : decode (cc 89) 0 = .ok (.iload_n 0, 1) := by decide +kernel
theorem d89_1 : decode (cc 89) 1 = .ok (.iload_n 1, 1) := by decide +kernel
theorem d89_2 : decode (cc 89) 2 = .ok (.if_icmp .lt 12, 3) := by decide +kernel
theorem d89_5 : decode (cc 89) 5 = .ok (.iload_n 0, 1) := by decide +kernel
theorem d89_6 : decode (cc 89) 6 = .ok (.iload_n 2, 1) := by decide +kernel
theorem d89_7 : decode (cc 89) 7 = .ok (.if_icmp .gt 7, 3) := by decide +kernel
theorem d89_10 : decode (cc 89) 10 = .ok (.iconst 1, 1) := by decide +kernel
theorem d89_11 : decode (cc 89) 11 = .ok (.goto 4, 3) := by decide +kernel
theorem d89_14 : decode (cc 89) 14 = .ok (.iconst 0, 1) := by decide +kernel
theorem d89_15 : decode (cc 89) 15 = .ok (.ireturn, 1) := by decide +kernel
theorem d90_0 : decode (cc 90) 0 = .ok (.iload_n 0, 1) := by decide +kernel
theorem d90_1 : decode (cc 90) 1 = .ok (.iconst 0, 1) := by decide +kernel
theorem d90_2 : decode (cc 90) 2 = .ok (.bipush 11, 2) := by decide +kernel
theorem d90_4 : decode (cc 90) 4 = .ok (.invokestatic 89, 3) := by decide +kernel
theorem d90_7 : decode (cc 90) 7 = .ok (.ireturn, 1) := by decide +kernel
theorem d91_0 : decode (cc 91) 0 = .ok (.aload_n 0, 1) := by decide +kernel
theorem d91_1 : decode (cc 91) 1 = .ok (.iload_n 1, 1) := by decide +kernel
theorem d91_2 : decode (cc 91) 2 = .ok (.putfield 85, 3) := by decide +kernel
theorem d91_5 : decode (cc 91) 5 = .ok (.iload_n 1, 1) := by decide +kernel
theorem d91_6 : decode (cc 91) 6 = .ok (.ifCond .le 7, 3) := by decide +kernel
theorem d91_9 : decode (cc 91) 9 = .ok (.iconst 1, 1) := by decide +kernel
theorem d91_10 : decode (cc 91) 10 = .ok (.goto 4, 3) := by decide +kernel
theorem d91_13 : decode (cc 91) 13 = .ok (.iconst 0, 1) := by decide +kernel
theorem d91_14 : decode (cc 91) 14 = .ok (.ireturn, 1) := by decide +kernel
theorem d92_0 : decode (cc 92) 0 = .ok (.aload_n 0, 1) := by decide +kernel
theorem d92_1 : decode (cc 92) 1 = .ok (.getfield 65, 3) := by decide +kernel
theorem d92_4 : decode (cc 92) 4 = .ok (.iload_n 1, 1) := by decide +kernel
theorem d92_5 : decode (cc 92) 5 = .ok (.iconst 1, 1) := by decide +kernel
theorem d92_6 : decode (cc 92) 6 = .ok (.bastore, 1) := by decide +kernel
theorem d92_7 : decode (cc 92) 7 = .ok (.aload_n 0, 1) := by decide +kernel
theorem d92_8 : decode (cc 92) 8 = .ok (.iconst 1, 1) := by decide +kernel
theorem d92_9 : decode (cc 92) 9 = .ok (.putfield 61, 3) := by decide +kernel
theorem d92_12 : decode (cc 92) 12 = .ok (.return_, 1) := by decide +kernel
theorem d93_0 : decode (cc 93) 0 = .ok (.iload_n 2, 1) := by decide +kernel
theorem d93_1 : decode (cc 93) 1 = .ok (.iconst 0, 1) := by decide +kernel
theorem d93_2 : decode (cc 93) 2 = .ok (.sipush 200, 3) := by decide +kernel
theorem d93_5 : decode (cc 93) 5 = .ok (.invokestatic 89, 3) := by decide +kernel
theorem d93_8 : decode (cc 93) 8 = .ok (.ifCond .eq 28, 3) := by decide +kernel
theorem d93_11 : decode (cc 93) 11 = .ok (.iload_n 3, 1) := by decide +kernel
theorem d93_12 : decode (cc 93) 12 = .ok (.iconst 0, 1) := by decide +kernel
theorem d93_13 : decode (cc 93) 13 = .ok (.ldc 104, 2) := by decide +kernel
theorem d93_15 : decode (cc 93) 15 = .ok (.invokestatic 89, 3) := by decide +kernel
theorem d93_18 : decode (cc 93) 18 = .ok (.ifCond .eq 18, 3) := by decide +kernel
theorem d93_21 : decode (cc 93) 21 = .ok (.iload 4, 2) := by decide +kernel
theorem d93_23 : decode (cc 93) 23 = .ok (.iconst 0, 1) := by decide +kernel
theorem d93_24 : decode (cc 93) 24 = .ok (.bipush 100, 2) := by decide +kernel
theorem d93_26 : decode (cc 93) 26 = .ok (.invokestatic 89, 3) := by decide +kernel
theorem d93_29 : decode (cc 93) 29 = .ok (.ifCond .eq 7, 3) := by decide +kernel
theorem d93_32 : decode (cc 93) 32 = .ok (.iconst 1, 1) := by decide +kernel
theorem d93_33 : decode (cc 93) 33 = .ok (.goto 4, 3) := by decide +kernel
theorem d93_36 : decode (cc 93) 36 = .ok (.iconst 0, 1) := by decide +kernel
theorem d93_37 : decode (cc 93) 37 = .ok (.istore 5, 2) := by decide +kernel
theorem d93_39 : decode (cc 93) 39 = .ok (.aload_n 0, 1) := by decide +kernel
theorem d93_40 : decode (cc 93) 40 = .ok (.iload_n 1, 1) := by decide +kernel
theorem d93_41 : decode (cc 93) 41 = .ok (.invokestatic 93, 3) := by decide +kernel
theorem d93_44 : decode (cc 93) 44 = .ok (.ifCond .ne 7, 3) := by decide +kernel
theorem d93_47 : decode (cc 93) 47 = .ok (.iconst 1, 1) := by decide +kernel
theorem d93_48 : decode (cc 93) 48 = .ok (.goto 13, 3) := by decide +kernel
theorem d93_51 : decode (cc 93) 51 = .ok (.iload 5, 2) := by decide +kernel
theorem d93_53 : decode (cc 93) 53 = .ok (.ifCond .ne 7, 3) := by decide +kernel
theorem d93_56 : decode (cc 93) 56 = .ok (.iconst 2, 1) := by decide +kernel
theorem d93_57 : decode (cc 93) 57 = .ok (.goto 4, 3) := by decide +kernel
theorem d93_60 : decode (cc 93) 60 = .ok (.iconst 0, 1) := by decide +kernel
theorem d93_61 : decode (cc 93) 61 = .ok (.invokevirtual 97, 3) := by decide +kernel
theorem d93_64 : decode (cc 93) 64 = .ok (.ifCond .ne 30, 3) := by decide +kernel
theorem d93_67 : decode (cc 93) 67 = .ok (.aload_n 0, 1) := by decide +kernel
theorem d93_68 : decode (cc 93) 68 = .ok (.getfield 22, 3) := by decide +kernel
theorem d93_71 : decode (cc 93) 71 = .ok (.iload_n 1, 1) := by decide +kernel
theorem d93_72 : decode (cc 93) 72 = .ok (.iload_n 2, 1) := by decide +kernel
theorem d93_73 : decode (cc 93) 73 = .ok (.iastore, 1) := by decide +kernel
theorem d93_74 : decode (cc 93) 74 = .ok (.aload_n 0, 1) := by decide +kernel
theorem d93_75 : decode (cc 93) 75 = .ok (.getfield 25, 3) := by decide +kernel
theorem d93_78 : decode (cc 93) 78 = .ok (.iload_n 1, 1) := by decide +kernel
theorem d93_79 : decode (cc 93) 79 = .ok (.iload_n 3, 1) := by decide +kernel
theorem d93_80 : decode (cc 93) 80 = .ok (.iastore, 1) := by decide +kernel
theorem d93_81 : decode (cc 93) 81 = .ok (.aload_n 0, 1) := by decide +kernel
theorem d93_82 : decode (cc 93) 82 = .ok (.getfield 28, 3) := by decide +kernel
theorem d93_85 : decode (cc 93) 85 = .ok (.iload_n 1, 1) := by decide +kernel
theorem d93_86 : decode (cc 93) 86 = .ok (.iload 4, 2) := by decide +kernel
theorem d93_88 : decode (cc 93) 88 = .ok (.iastore, 1) := by decide +kernel
theorem d93_89 : decode (cc 93) 89 = .ok (.aload_n 0, 1) := by decide +kernel
theorem d93_90 : decode (cc 93) 90 = .ok (.iload_n 1, 1) := by decide +kernel
theorem d93_91 : decode (cc 93) 91 = .ok (.invokevirtual 100, 3) := by decide +kernel
theorem d93_94 : decode (cc 93) 94 = .ok (.return_, 1) := by decide +kernel
theorem d94_0 : decode (cc 94) 0 = .ok (.aload_n 0, 1) := by decide +kernel
theorem d94_1 : decode (cc 94) 1 = .ok (.iload_n 1, 1) := by decide +kernel
theorem d94_2 : decode (cc 94) 2 = .ok (.invokestatic 93, 3) := by decide +kernel
theorem d94_5 : decode (cc 94) 5 = .ok (.ifCond .eq 12, 3) := by decide +kernel
theorem d94_8 : decode (cc 94) 8 = .ok (.iload_n 2, 1) := by decide +kernel
theorem d94_9 : decode (cc 94) 9 = .ok (.iconst 0, 1) := by decide +kernel
theorem d94_10 : decode (cc 94) 10 = .ok (.iconst 2, 1) := by decide +kernel
theorem d94_11 : decode (cc 94) 11 = .ok (.invokestatic 89, 3) := by decide +kernel
theorem d94_14 : decode (cc 94) 14 = .ok (.ifCond .ne 7, 3) := by decide +kernel
theorem d94_17 : decode (cc 94) 17 = .ok (.iconst 1, 1) := by decide +kernel
theorem d94_18 : decode (cc 94) 18 = .ok (.goto 18, 3) := by decide +kernel
theorem d94_21 : decode (cc 94) 21 = .ok (.iload_n 3, 1) := by decide +kernel
theorem d94_22 : decode (cc 94) 22 = .ok (.iconst 0, 1) := by decide +kernel
theorem d94_23 : decode (cc 94) 23 = .ok (.bipush 9, 2) := by decide +kernel
theorem d94_25 : decode (cc 94) 25 = .ok (.invokestatic 89, 3) := by decide +kernel
theorem d94_28 : decode (cc 94) 28 = .ok (.ifCond .ne 7, 3) := by decide +kernel
theorem d94_31 : decode (cc 94) 31 = .ok (.iconst 2, 1) := by decide +kernel
theorem d94_32 : decode (cc 94) 32 = .ok (.goto 4, 3) := by decide +kernel
theorem d94_35 : decode (cc 94) 35 = .ok (.iconst 0, 1) := by decide +kernel
theorem d94_36 : decode (cc 94) 36 = .ok (.invokevirtual 97, 3) := by decide +kernel
theorem d94_39 : decode (cc 94) 39 = .ok (.ifCond .ne 17, 3) := by decide +kernel
theorem d94_42 : decode (cc 94) 42 = .ok (.aload_n 0, 1) := by decide +kernel
theorem d94_43 : decode (cc 94) 43 = .ok (.getfield 34, 3) := by decide +kernel
theorem d94_46 : decode (cc 94) 46 = .ok (.iload_n 1, 1) := by decide +kernel
theorem d94_47 : decode (cc 94) 47 = .ok (.iload_n 2, 1) := by decide +kernel
theorem d94_48 : decode (cc 94) 48 = .ok (.iastore, 1) := by decide +kernel
theorem d94_49 : decode (cc 94) 49 = .ok (.aload_n 0, 1) := by decide +kernel
theorem d94_50 : decode (cc 94) 50 = .ok (.getfield 37, 3) := by decide +kernel
theorem d94_53 : decode (cc 94) 53 = .ok (.iload_n 1, 1) := by decide +kernel
theorem d94_54 : decode (cc 94) 54 = .ok (.iload_n 3, 1) := by decide +kernel
theorem d94_55 : decode (cc 94) 55 = .ok (.iastore, 1) := by decide +kernel
theorem d94_56 : decode (cc 94) 56 = .ok (.return_, 1) := by decide +kernel
theorem d95_0 : decode (cc 95) 0 = .ok (.iload_n 3, 1) := by decide +kernel
theorem d95_1 : decode (cc 95) 1 = .ok (.ifCond .eq 26, 3) := by decide +kernel
theorem d95_4 : decode (cc 95) 4 = .ok (.iload 4, 2) := by decide +kernel
theorem d95_6 : decode (cc 95) 6 = .ok (.invokestatic 93, 3) := by decide +kernel
theorem d95_9 : decode (cc 95) 9 = .ok (.ifCond .eq 22, 3) := by decide +kernel
theorem d95_12 : decode (cc 95) 12 = .ok (.iload 5, 2) := by decide +kernel
theorem d95_14 : decode (cc 95) 14 = .ok (.invokestatic 93, 3) := by decide +kernel
theorem d95_17 : decode (cc 95) 17 = .ok (.ifCond .eq 14, 3) := by decide +kernel
theorem d95_20 : decode (cc 95) 20 = .ok (.iload 4, 2) := by decide +kernel
theorem d95_22 : decode (cc 95) 22 = .ok (.iload 5, 2) := by decide +kernel
theorem d95_24 : decode (cc 95) 24 = .ok (.if_icmp .gt 7, 3) := by decide +kernel
theorem d95_27 : decode (cc 95) 27 = .ok (.iconst 1, 1) := by decide +kernel
theorem d95_28 : decode (cc 95) 28 = .ok (.goto 4, 3) := by decide +kernel
theorem d95_31 : decode (cc 95) 31 = .ok (.iconst 0, 1) := by decide +kernel
theorem d95_32 : decode (cc 95) 32 = .ok (.istore 6, 2) := by decide +kernel
theorem d95_34 : decode (cc 95) 34 = .ok (.aload_n 0, 1) := by decide +kernel
theorem d95_35 : decode (cc 95) 35 = .ok (.iload_n 1, 1) := by decide +kernel
theorem d95_36 : decode (cc 95) 36 = .ok (.invokestatic 93, 3) := by decide +kernel
theorem d95_39 : decode (cc 95) 39 = .ok (.ifCond .eq 10, 3) := by decide +kernel
theorem d95_42 : decode (cc 95) 42 = .ok (.iload_n 2, 1) := by decide +kernel
theorem d95_43 : decode (cc 95) 43 = .ok (.invokestatic 93, 3) := by decide +kernel
theorem d95_46 : decode (cc 95) 46 = .ok (.ifCond .ne 7, 3) := by decide +kernel
theorem d95_49 : decode (cc 95) 49 = .ok (.iconst 1, 1) := by decide +kernel
theorem d95_50 : decode (cc 95) 50 = .ok (.goto 23, 3) := by decide +kernel
theorem d95_53 : decode (cc 95) 53 = .ok (.iload_n 3, 1) := by decide +kernel
theorem d95_54 : decode (cc 95) 54 = .ok (.iconst 0, 1) := by decide +kernel
theorem d95_55 : decode (cc 95) 55 = .ok (.bipush 9, 2) := by decide +kernel
theorem d95_57 : decode (cc 95) 57 = .ok (.invokestatic 89, 3) := by decide +kernel
theorem d95_60 : decode (cc 95) 60 = .ok (.ifCond .eq 8, 3) := by decide +kernel
theorem d95_63 : decode (cc 95) 63 = .ok (.iload 6, 2) := by decide +kernel
theorem d95_65 : decode (cc 95) 65 = .ok (.ifCond .ne 7, 3) := by decide +kernel
theorem d95_68 : decode (cc 95) 68 = .ok (.iconst 2, 1) := by decide +kernel
theorem d95_69 : decode (cc 95) 69 = .ok (.goto 4, 3) := by decide +kernel
theorem d95_72 : decode (cc 95) 72 = .ok (.iconst 0, 1) := by decide +kernel
theorem d95_73 : decode (cc 95) 73 = .ok (.invokevirtual 97, 3) := by decide +kernel
theorem d95_76 : decode (cc 95) 76 = .ok (.ifCond .eq 4, 3) := by decide +kernel
theorem d95_79 : decode (cc 95) 79 = .ok (.return_, 1) := by decide +kernel
theorem d95_80 : decode (cc 95) 80 = .ok (.bipush 12, 2) := by decide +kernel
theorem d95_82 : decode (cc 95) 82 = .ok (.iload_n 1, 1) := by decide +kernel
theorem d95_83 : decode (cc 95) 83 = .ok (.imul, 1) := by decide +kernel
theorem d95_84 : decode (cc 95) 84 = .ok (.iload_n 2, 1) := by decide +kernel
theorem d95_85 : decode (cc 95) 85 = .ok (.iadd, 1) := by decide +kernel
theorem d95_86 : decode (cc 95) 86 = .ok (.istore 7, 2) := by decide +kernel
theorem d95_88 : decode (cc 95) 88 = .ok (.aload_n 0, 1) := by decide +kernel
theorem d95_89 : decode (cc 95) 89 = .ok (.getfield 40, 3) := by decide +kernel
theorem d95_92 : decode (cc 95) 92 = .ok (.iload 7, 2) := by decide +kernel
theorem d95_94 : decode (cc 95) 94 = .ok (.iaload, 1) := by decide +kernel
theorem d95_95 : decode (cc 95) 95 = .ok (.istore 8, 2) := by decide +kernel
theorem d95_97 : decode (cc 95) 97 = .ok (.aload_n 0, 1) := by decide +kernel
theorem d95_98 : decode (cc 95) 98 = .ok (.getfield 43, 3) := by decide +kernel
theorem d95_101 : decode (cc 95) 101 = .ok (.iload 7, 2) := by decide +kernel
theorem d95_103 : decode (cc 95) 103 = .ok (.iaload, 1) := by decide +kernel
theorem d95_104 : decode (cc 95) 104 = .ok (.istore 9, 2) := by decide +kernel
theorem d95_106 : decode (cc 95) 106 = .ok (.aload_n 0, 1) := by decide +kernel
theorem d95_107 : decode (cc 95) 107 = .ok (.getfield 46, 3) := by decide +kernel
theorem d95_110 : decode (cc 95) 110 = .ok (.iload 7, 2) := by decide +kernel
theorem d95_112 : decode (cc 95) 112 = .ok (.iaload, 1) := by decide +kernel
theorem d95_113 : decode (cc 95) 113 = .ok (.istore 10, 2) := by decide +kernel
theorem d95_115 : decode (cc 95) 115 = .ok (.aload_n 0, 1) := by decide +kernel
theorem d95_116 : decode (cc 95) 116 = .ok (.iload_n 3, 1) := by decide +kernel
theorem d95_117 : decode (cc 95) 117 = .ok (.ifCond .le 21, 3) := by decide +kernel
theorem d95_120 : decode (cc 95) 120 = .ok (.iload 8, 2) := by decide +kernel
theorem d95_122 : decode (cc 95) 122 = .ok (.ifCond .ne 16, 3) := by decide +kernel
theorem d95_125 : decode (cc 95) 125 = .ok (.aload_n 0, 1) := by decide +kernel
theorem d95_126 : decode (cc 95) 126 = .ok (.getfield 109, 3) := by decide +kernel
theorem d95_129 : decode (cc 95) 129 = .ok (.bipush 24, 2) := by decide +kernel
theorem d95_131 : decode (cc 95) 131 = .ok (.if_icmp .ne 7, 3) := by decide +kernel
theorem d95_134 : decode (cc 95) 134 = .ok (.iconst 3, 1) := by decide +kernel
theorem d95_135 : decode (cc 95) 135 = .ok (.goto 4, 3) := by decide +kernel
theorem d95_138 : decode (cc 95) 138 = .ok (.iconst 0, 1) := by decide +kernel
theorem d95_139 : decode (cc 95) 139 = .ok (.invokevirtual 97, 3) := by decide +kernel
theorem d95_142 : decode (cc 95) 142 = .ok (.ifCond .eq 4, 3) := by decide +kernel
theorem d95_145 : decode (cc 95) 145 = .ok (.return_, 1) := by decide +kernel
theorem d95_146 : decode (cc 95) 146 = .ok (.aload_n 0, 1) := by decide +kernel
theorem d95_147 : decode (cc 95) 147 = .ok (.iload 7, 2) := by decide +kernel
theorem d95_149 : decode (cc 95) 149 = .ok (.iload_n 3, 1) := by decide +kernel
theorem d95_150 : decode (cc 95) 150 = .ok (.iload 4, 2) := by decide +kernel
theorem d95_152 : decode (cc 95) 152 = .ok (.iload 5, 2) := by decide +kernel
theorem d95_154 : decode (cc 95) 154 = .ok (.invokevirtual 112, 3) := by decide +kernel
theorem d95_157 : decode (cc 95) 157 = .ok (.aload_n 0, 1) := by decide +kernel
theorem d95_158 : decode (cc 95) 158 = .ok (.invokevirtual 116, 3) := by decide +kernel
theorem d95_161 : decode (cc 95) 161 = .ok (.ifCond .ne 21, 3) := by decide +kernel
theorem d95_164 : decode (cc 95) 164 = .ok (.aload_n 0, 1) := by decide +kernel
theorem d95_165 : decode (cc 95) 165 = .ok (.iload 7, 2) := by decide +kernel
theorem d95_167 : decode (cc 95) 167 = .ok (.iload 8, 2) := by decide +kernel
theorem d95_169 : decode (cc 95) 169 = .ok (.iload 9, 2) := by decide +kernel
theorem d95_171 : decode (cc 95) 171 = .ok (.iload 10, 2) := by decide +kernel
theorem d95_173 : decode (cc 95) 173 = .ok (.invokevirtual 112, 3) := by decide +kernel
theorem d95_176 : decode (cc 95) 176 = .ok (.aload_n 0, 1) := by decide +kernel
theorem d95_177 : decode (cc 95) 177 = .ok (.iconst 3, 1) := by decide +kernel
theorem d95_178 : decode (cc 95) 178 = .ok (.putfield 85, 3) := by decide +kernel
theorem d95_181 : decode (cc 95) 181 = .ok (.return_, 1) := by decide +kernel
theorem d95_182 : decode (cc 95) 182 = .ok (.aload_n 0, 1) := by decide +kernel
theorem d95_183 : decode (cc 95) 183 = .ok (.iload_n 2, 1) := by decide +kernel
theorem d95_184 : decode (cc 95) 184 = .ok (.invokevirtual 100, 3) := by decide +kernel
theorem d95_187 : decode (cc 95) 187 = .ok (.return_, 1) := by decide +kernel
theorem d96_0 : decode (cc 96) 0 = .ok (.aload_n 0, 1) := by decide +kernel
theorem d96_1 : decode (cc 96) 1 = .ok (.aload_n 0, 1) := by decide +kernel
theorem d96_2 : decode (cc 96) 2 = .ok (.getfield 109, 3) := by decide +kernel
theorem d96_5 : decode (cc 96) 5 = .ok (.iload_n 2, 1) := by decide +kernel
theorem d96_6 : decode (cc 96) 6 = .ok (.ifCond .le 7, 3) := by decide +kernel
theorem d96_9 : decode (cc 96) 9 = .ok (.iconst 1, 1) := by decide +kernel
theorem d96_10 : decode (cc 96) 10 = .ok (.goto 4, 3) := by decide +kernel
theorem d96_13 : decode (cc 96) 13 = .ok (.iconst 0, 1) := by decide +kernel
theorem d96_14 : decode (cc 96) 14 = .ok (.iadd, 1) := by decide +kernel
theorem d96_15 : decode (cc 96) 15 = .ok (.aload_n 0, 1) := by decide +kernel
theorem d96_16 : decode (cc 96) 16 = .ok (.getfield 40, 3) := by decide +kernel
theorem d96_19 : decode (cc 96) 19 = .ok (.iload_n 1, 1) := by decide +kernel
theorem d96_20 : decode (cc 96) 20 = .ok (.iaload, 1) := by decide +kernel
theorem d96_21 : decode (cc 96) 21 = .ok (.ifCond .le 7, 3) := by decide +kernel
theorem d96_24 : decode (cc 96) 24 = .ok (.iconst 1, 1) := by decide +kernel
theorem d96_25 : decode (cc 96) 25 = .ok (.goto 4, 3) := by decide +kernel
theorem d96_28 : decode (cc 96) 28 = .ok (.iconst 0, 1) := by decide +kernel
theorem d96_29 : decode (cc 96) 29 = .ok (.isub, 1) := by decide +kernel
theorem d96_30 : decode (cc 96) 30 = .ok (.putfield 109, 3) := by decide +kernel
theorem d96_33 : decode (cc 96) 33 = .ok (.aload_n 0, 1) := by decide +kernel
theorem d96_34 : decode (cc 96) 34 = .ok (.getfield 40, 3) := by decide +kernel
theorem d96_37 : decode (cc 96) 37 = .ok (.iload_n 1, 1) := by decide +kernel
theorem d96_38 : decode (cc 96) 38 = .ok (.iload_n 2, 1) := by decide +kernel
theorem d96_39 : decode (cc 96) 39 = .ok (.iastore, 1) := by decide +kernel
theorem d96_40 : decode (cc 96) 40 = .ok (.aload_n 0, 1) := by decide +kernel
theorem d96_41 : decode (cc 96) 41 = .ok (.getfield 43, 3) := by decide +kernel
theorem d96_44 : decode (cc 96) 44 = .ok (.iload_n 1, 1) := by decide +kernel
theorem d96_45 : decode (cc 96) 45 = .ok (.iload_n 3, 1) := by decide +kernel
theorem d96_46 : decode (cc 96) 46 = .ok (.iastore, 1) := by decide +kernel
theorem d96_47 : decode (cc 96) 47 = .ok (.aload_n 0, 1) := by decide +kernel
theorem d96_48 : decode (cc 96) 48 = .ok (.getfield 46, 3) := by decide +kernel
theorem d96_51 : decode (cc 96) 51 = .ok (.iload_n 1, 1) := by decide +kernel
theorem d96_52 : decode (cc 96) 52 = .ok (.iload 4, 2) := by decide +kernel
theorem d96_54 : decode (cc 96) 54 = .ok (.iastore, 1) := by decide +kernel
theorem d96_55 : decode (cc 96) 55 = .ok (.return_, 1) := by decide +kernel
theorem d97_0 : decode (cc 97) 0 = .ok (.iconst 1, 1) := by decide +kernel
theorem d97_1 : decode (cc 97) 1 = .ok (.istore_n 1, 1) := by decide +kernel
theorem d97_2 : decode (cc 97) 2 = .ok (.iconst 0, 1) := by decide +kernel
theorem d97_3 : decode (cc 97) 3 = .ok (.istore_n 2, 1) := by decide +kernel
theorem d97_4 : decode (cc 97) 4 = .ok (.iload_n 2, 1) := by decide +kernel
theorem d97_5 : decode (cc 97) 5 = .ok (.bipush 12, 2) := by decide +kernel
theorem d97_7 : decode (cc 97) 7 = .ok (.if_icmp .ge 28, 3) := by decide +kernel
theorem d97_10 : decode (cc 97) 10 = .ok (.iload_n 1, 1) := by decide +kernel
theorem d97_11 : decode (cc 97) 11 = .ok (.ifCond .eq 16, 3) := by decide +kernel
theorem d97_14 : decode (cc 97) 14 = .ok (.aload_n 0, 1) := by decide +kernel
theorem d97_15 : decode (cc 97) 15 = .ok (.iload_n 2, 1) := by decide +kernel
theorem d97_16 : decode (cc 97) 16 = .ok (.invokevirtual 105, 3) := by decide +kernel
theorem d97_19 : decode (cc 97) 19 = .ok (.iconst 4, 1) := by decide +kernel
theorem d97_20 : decode (cc 97) 20 = .ok (.if_icmp .gt 7, 3) := by decide +kernel
theorem d97_23 : decode (cc 97) 23 = .ok (.iconst 1, 1) := by decide +kernel
theorem d97_24 : decode (cc 97) 24 = .ok (.goto 4, 3) := by decide +kernel
theorem d97_27 : decode (cc 97) 27 = .ok (.iconst 0, 1) := by decide +kernel
theorem d97_28 : decode (cc 97) 28 = .ok (.istore_n 1, 1) := by decide +kernel
theorem d97_29 : decode (cc 97) 29 = .ok (.iinc 2 1, 3) := by decide +kernel
theorem d97_32 : decode (cc 97) 32 = .ok (.goto (-28), 3) := by decide +kernel
theorem d97_35 : decode (cc 97) 35 = .ok (.iload_n 1, 1) := by decide +kernel
theorem d97_36 : decode (cc 97) 36 = .ok (.ireturn, 1) := by decide +kernel
theorem d98_0 : decode (cc 98) 0 = .ok (.iconst 1, 1) := by decide +kernel
theorem d98_1 : decode (cc 98) 1 = .ok (.iload_n 1, 1) := by decide +kernel
theorem d98_2 : decode (cc 98) 2 = .ok (.ishl, 1) := by decide +kernel
theorem d98_3 : decode (cc 98) 3 = .ok (.istore_n 2, 1) := by decide +kernel
theorem d98_4 : decode (cc 98) 4 = .ok (.iconst (-1), 1) := by decide +kernel
theorem d98_5 : decode (cc 98) 5 = .ok (.istore_n 3, 1) := by decide +kernel
theorem d98_6 : decode (cc 98) 6 = .ok (.iload_n 2, 1) := by decide +kernel
theorem d98_7 : decode (cc 98) 7 = .ok (.ifCond .eq 90, 3) := by decide +kernel
theorem d98_10 : decode (cc 98) 10 = .ok (.iload_n 3, 1) := by decide +kernel
theorem d98_11 : decode (cc 98) 11 = .ok (.bipush 20, 2) := by decide +kernel
theorem d98_13 : decode (cc 98) 13 = .ok (.if_icmp .ge 84, 3) := by decide +kernel
theorem d98_16 : decode (cc 98) 16 = .ok (.iconst 0, 1) := by decide +kernel
theorem d98_17 : decode (cc 98) 17 = .ok (.istore 4, 2) := by decide +kernel
theorem d98_19 : decode (cc 98) 19 = .ok (.iconst 0, 1) := by decide +kernel
theorem d98_20 : decode (cc 98) 20 = .ok (.istore 5, 2) := by decide +kernel
theorem d98_22 : decode (cc 98) 22 = .ok (.iload 5, 2) := by decide +kernel
theorem d98_24 : decode (cc 98) 24 = .ok (.sipush 144, 3) := by decide +kernel
theorem d98_27 : decode (cc 98) 27 = .ok (.if_icmp .ge 61, 3) := by decide +kernel
theorem d98_30 : decode (cc 98) 30 = .ok (.aload_n 0, 1) := by decide +kernel
theorem d98_31 : decode (cc 98) 31 = .ok (.getfield 40, 3) := by decide +kernel
theorem d98_34 : decode (cc 98) 34 = .ok (.iload 5, 2) := by decide +kernel
theorem d98_36 : decode (cc 98) 36 = .ok (.iaload, 1) := by decide +kernel
theorem d98_37 : decode (cc 98) 37 = .ok (.ifCond .le 20, 3) := by decide +kernel
theorem d98_40 : decode (cc 98) 40 = .ok (.iload_n 2, 1) := by decide +kernel
theorem d98_41 : decode (cc 98) 41 = .ok (.iload 5, 2) := by decide +kernel
theorem d98_43 : decode (cc 98) 43 = .ok (.bipush 12, 2) := by decide +kernel
theorem d98_45 : decode (cc 98) 45 = .ok (.irem, 1) := by decide +kernel
theorem d98_46 : decode (cc 98) 46 = .ok (.ishr, 1) := by decide +kernel
theorem d98_47 : decode (cc 98) 47 = .ok (.iconst 1, 1) := by decide +kernel
theorem d98_48 : decode (cc 98) 48 = .ok (.iand, 1) := by decide +kernel
theorem d98_49 : decode (cc 98) 49 = .ok (.iconst 1, 1) := by decide +kernel
theorem d98_50 : decode (cc 98) 50 = .ok (.if_icmp .ne 7, 3) := by decide +kernel
theorem d98_53 : decode (cc 98) 53 = .ok (.iconst 1, 1) := by decide +kernel
theorem d98_54 : decode (cc 98) 54 = .ok (.goto 4, 3) := by decide +kernel
theorem d98_57 : decode (cc 98) 57 = .ok (.iconst 0, 1) := by decide +kernel
theorem d98_58 : decode (cc 98) 58 = .ok (.istore 6, 2) := by decide +kernel
theorem d98_60 : decode (cc 98) 60 = .ok (.iload 6, 2) := by decide +kernel
theorem d98_62 : decode (cc 98) 62 = .ok (.ifCond .eq 16, 3) := by decide +kernel
theorem d98_65 : decode (cc 98) 65 = .ok (.iload 4, 2) := by decide +kernel
theorem d98_67 : decode (cc 98) 67 = .ok (.iconst 1, 1) := by decide +kernel
theorem d98_68 : decode (cc 98) 68 = .ok (.iload 5, 2) := by decide +kernel
theorem d98_70 : decode (cc 98) 70 = .ok (.bipush 12, 2) := by decide +kernel
theorem d98_72 : decode (cc 98) 72 = .ok (.idiv, 1) := by decide +kernel
theorem d98_73 : decode (cc 98) 73 = .ok (.ishl, 1) := by decide +kernel
theorem d98_74 : decode (cc 98) 74 = .ok (.ior, 1) := by decide +kernel
theorem d98_75 : decode (cc 98) 75 = .ok (.goto 5, 3) := by decide +kernel
theorem d98_78 : decode (cc 98) 78 = .ok (.iload 4, 2) := by decide +kernel
theorem d98_80 : decode (cc 98) 80 = .ok (.istore 4, 2) := by decide +kernel
theorem d98_82 : decode (cc 98) 82 = .ok (.iinc 5 1, 3) := by decide +kernel
theorem d98_85 : decode (cc 98) 85 = .ok (.goto (-63), 3) := by decide +kernel
theorem d98_88 : decode (cc 98) 88 = .ok (.iload 4, 2) := by decide +kernel
theorem d98_90 : decode (cc 98) 90 = .ok (.istore_n 2, 1) := by decide +kernel
theorem d98_91 : decode (cc 98) 91 = .ok (.iinc 3 1, 3) := by decide +kernel
theorem d98_94 : decode (cc 98) 94 = .ok (.goto (-88), 3) := by decide +kernel
theorem d98_97 : decode (cc 98) 97 = .ok (.iload_n 3, 1) := by decide +kernel
theorem d98_98 : decode (cc 98) 98 = .ok (.bipush 20, 2) := by decide +kernel
theorem d98_100 : decode (cc 98) 100 = .ok (.if_icmp .lt 8, 3) := by decide +kernel
theorem d98_103 : decode (cc 98) 103 = .ok (.bipush 99, 2) := by decide +kernel
theorem d98_105 : decode (cc 98) 105 = .ok (.goto 4, 3) := by decide +kernel
theorem d98_108 : decode (cc 98) 108 = .ok (.iload_n 3, 1) := by decide +kernel
theorem d98_109 : decode (cc 98) 109 = .ok (.ireturn, 1) := by decide +kernel
theorem d99_0 : decode (cc 99) 0 = .ok (.aload_n 0, 1) := by decide +kernel
theorem d99_1 : decode (cc 99) 1 = .ok (.iload_n 1, 1) := by decide +kernel
theorem d99_2 : decode (cc 99) 2 = .ok (.invokestatic 93, 3) := by decide +kernel
theorem d99_5 : decode (cc 99) 5 = .ok (.ifCond .ne 7, 3) := by decide +kernel
theorem d99_8 : decode (cc 99) 8 = .ok (.iconst 1, 1) := by decide +kernel
theorem d99_9 : decode (cc 99) 9 = .ok (.goto 19, 3) := by decide +kernel
theorem d99_12 : decode (cc 99) 12 = .ok (.iload_n 2, 1) := by decide +kernel
theorem d99_13 : decode (cc 99) 13 = .ok (.iconst 0, 1) := by decide +kernel
theorem d99_14 : decode (cc 99) 14 = .ok (.sipush 10000, 3) := by decide +kernel
theorem d99_17 : decode (cc 99) 17 = .ok (.invokestatic 89, 3) := by decide +kernel
theorem d99_20 : decode (cc 99) 20 = .ok (.ifCond .ne 7, 3) := by decide +kernel
theorem d99_23 : decode (cc 99) 23 = .ok (.iconst 2, 1) := by decide +kernel
theorem d99_24 : decode (cc 99) 24 = .ok (.goto 4, 3) := by decide +kernel
theorem d99_27 : decode (cc 99) 27 = .ok (.iconst 0, 1) := by decide +kernel
theorem d99_28 : decode (cc 99) 28 = .ok (.invokevirtual 97, 3) := by decide +kernel
theorem d99_31 : decode (cc 99) 31 = .ok (.ifCond .eq 5, 3) := by decide +kernel
theorem d99_34 : decode (cc 99) 34 = .ok (.iconst 0, 1) := by decide +kernel
theorem d99_35 : decode (cc 99) 35 = .ok (.ireturn, 1) := by decide +kernel
theorem d99_36 : decode (cc 99) 36 = .ok (.aload_n 0, 1) := by decide +kernel
theorem d99_37 : decode (cc 99) 37 = .ok (.getfield 31, 3) := by decide +kernel
theorem d99_40 : decode (cc 99) 40 = .ok (.iload_n 1, 1) := by decide +kernel
theorem d99_41 : decode (cc 99) 41 = .ok (.iaload, 1) := by decide +kernel
theorem d99_42 : decode (cc 99) 42 = .ok (.istore_n 3, 1) := by decide +kernel
theorem d99_43 : decode (cc 99) 43 = .ok (.aload_n 0, 1) := by decide +kernel
theorem d99_44 : decode (cc 99) 44 = .ok (.getfield 31, 3) := by decide +kernel
theorem d99_47 : decode (cc 99) 47 = .ok (.iload_n 1, 1) := by decide +kernel
theorem d99_48 : decode (cc 99) 48 = .ok (.iload_n 2, 1) := by decide +kernel
theorem d99_49 : decode (cc 99) 49 = .ok (.iastore, 1) := by decide +kernel
theorem d99_50 : decode (cc 99) 50 = .ok (.aload_n 0, 1) := by decide +kernel
theorem d99_51 : decode (cc 99) 51 = .ok (.iload_n 1, 1) := by decide +kernel
theorem d99_52 : decode (cc 99) 52 = .ok (.invokevirtual 100, 3) := by decide +kernel
theorem d99_55 : decode (cc 99) 55 = .ok (.iload_n 3, 1) := by decide +kernel
theorem d99_56 : decode (cc 99) 56 = .ok (.ireturn, 1) := by decide +kernel
theorem d100_0 : decode (cc 100) 0 = .ok (.aload_n 0, 1) := by decide +kernel
theorem d100_1 : decode (cc 100) 1 = .ok (.iconst 0, 1) := by decide +kernel
theorem d100_2 : decode (cc 100) 2 = .ok (.iload_n 1, 1) := by decide +kernel
theorem d100_3 : decode (cc 100) 3 = .ok (.iload_n 2, 1) := by decide +kernel
theorem d100_4 : decode (cc 100) 4 = .ok (.iload_n 3, 1) := by decide +kernel
theorem d100_5 : decode (cc 100) 5 = .ok (.invokevirtual 124, 3) := by decide +kernel
theorem d100_8 : decode (cc 100) 8 = .ok (.ireturn, 1) := by decide +kernel
theorem d101_0 : decode (cc 101) 0 = .ok (.aload_n 0, 1) := by decide +kernel
theorem d101_1 : decode (cc 101) 1 = .ok (.iload_n 2, 1) := by decide +kernel
theorem d101_2 : decode (cc 101) 2 = .ok (.invokestatic 93, 3) := by decide +kernel
theorem d101_5 : decode (cc 101) 5 = .ok (.ifCond .eq 10, 3) := by decide +kernel
theorem d101_8 : decode (cc 101) 8 = .ok (.iload_n 3, 1) := by decide +kernel
theorem d101_9 : decode (cc 101) 9 = .ok (.invokestatic 93, 3) := by decide +kernel
theorem d101_12 : decode (cc 101) 12 = .ok (.ifCond .ne 7, 3) := by decide +kernel
theorem d101_15 : decode (cc 101) 15 = .ok (.iconst 1, 1) := by decide +kernel
theorem d101_16 : decode (cc 101) 16 = .ok (.goto 35, 3) := by decide +kernel
theorem d101_19 : decode (cc 101) 19 = .ok (.iload 4, 2) := by decide +kernel
theorem d101_21 : decode (cc 101) 21 = .ok (.iconst 0, 1) := by decide +kernel
theorem d101_22 : decode (cc 101) 22 = .ok (.sipush 1000, 3) := by decide +kernel
theorem d101_25 : decode (cc 101) 25 = .ok (.invokestatic 89, 3) := by decide +kernel
theorem d101_28 : decode (cc 101) 28 = .ok (.ifCond .ne 7, 3) := by decide +kernel
theorem d101_31 : decode (cc 101) 31 = .ok (.iconst 2, 1) := by decide +kernel
theorem d101_32 : decode (cc 101) 32 = .ok (.goto 19, 3) := by decide +kernel
theorem d101_35 : decode (cc 101) 35 = .ok (.aload_n 0, 1) := by decide +kernel
theorem d101_36 : decode (cc 101) 36 = .ok (.getfield 49, 3) := by decide +kernel
theorem d101_39 : decode (cc 101) 39 = .ok (.iload_n 1, 1) := by decide +kernel
theorem d101_40 : decode (cc 101) 40 = .ok (.iaload, 1) := by decide +kernel
theorem d101_41 : decode (cc 101) 41 = .ok (.bipush 24, 2) := by decide +kernel
theorem d101_43 : decode (cc 101) 43 = .ok (.if_icmp .ne 7, 3) := by decide +kernel
theorem d101_46 : decode (cc 101) 46 = .ok (.iconst 3, 1) := by decide +kernel
theorem d101_47 : decode (cc 101) 47 = .ok (.goto 4, 3) := by decide +kernel
theorem d101_50 : decode (cc 101) 50 = .ok (.iconst 0, 1) := by decide +kernel
theorem d101_51 : decode (cc 101) 51 = .ok (.invokevirtual 97, 3) := by decide +kernel
theorem d101_54 : decode (cc 101) 54 = .ok (.ifCond .eq 5, 3) := by decide +kernel
theorem d101_57 : decode (cc 101) 57 = .ok (.iconst 0, 1) := by decide +kernel
theorem d101_58 : decode (cc 101) 58 = .ok (.ireturn, 1) := by decide +kernel
theorem d101_59 : decode (cc 101) 59 = .ok (.aload_n 0, 1) := by decide +kernel
end
section
theorem d101_60 : decode (cc 101) 60 = .ok (.iload_n 2, 1) := by decide +kernel
theorem d101_61 : decode (cc 101) 61 = .ok (.invokevirtual 100, 3) := by decide +kernel
theorem d101_64 : decode (cc 101) 64 = .ok (.aload_n 0, 1) := by decide +kernel
theorem d101_65 : decode (cc 101) 65 = .ok (.iload_n 1, 1) := by decide +kernel
theorem d101_66 : decode (cc 101) 66 = .ok (.iload_n 2, 1) := by decide +kernel
theorem d101_67 : decode (cc 101) 67 = .ok (.iload_n 3, 1) := by decide +kernel
theorem d101_68 : decode (cc 101) 68 = .ok (.iload 4, 2) := by decide +kernel
theorem d101_70 : decode (cc 101) 70 = .ok (.invokevirtual 120, 3) := by decide +kernel
theorem d101_73 : decode (cc 101) 73 = .ok (.ireturn, 1) := by decide +kernel
theorem d102_0 : decode (cc 102) 0 = .ok (.bipush 24, 2) := by decide +kernel
theorem d102_2 : decode (cc 102) 2 = .ok (.iload_n 1, 1) := by decide +kernel
theorem d102_3 : decode (cc 102) 3 = .ok (.imul, 1) := by decide +kernel
theorem d102_4 : decode (cc 102) 4 = .ok (.aload_n 0, 1) := by decide +kernel
theorem d102_5 : decode (cc 102) 5 = .ok (.getfield 49, 3) := by decide +kernel
theorem d102_8 : decode (cc 102) 8 = .ok (.iload_n 1, 1) := by decide +kernel
theorem d102_9 : decode (cc 102) 9 = .ok (.iaload, 1) := by decide +kernel
theorem d102_10 : decode (cc 102) 10 = .ok (.iadd, 1) := by decide +kernel
theorem d102_11 : decode (cc 102) 11 = .ok (.istore 5, 2) := by decide +kernel
theorem d102_13 : decode (cc 102) 13 = .ok (.aload_n 0, 1) := by decide +kernel
theorem d102_14 : decode (cc 102) 14 = .ok (.getfield 52, 3) := by decide +kernel
theorem d102_17 : decode (cc 102) 17 = .ok (.iload 5, 2) := by decide +kernel
theorem d102_19 : decode (cc 102) 19 = .ok (.iload_n 2, 1) := by decide +kernel
theorem d102_20 : decode (cc 102) 20 = .ok (.iastore, 1) := by decide +kernel
theorem d102_21 : decode (cc 102) 21 = .ok (.aload_n 0, 1) := by decide +kernel
theorem d102_22 : decode (cc 102) 22 = .ok (.getfield 55, 3) := by decide +kernel
theorem d102_25 : decode (cc 102) 25 = .ok (.iload 5, 2) := by decide +kernel
theorem d102_27 : decode (cc 102) 27 = .ok (.iload_n 3, 1) := by decide +kernel
theorem d102_28 : decode (cc 102) 28 = .ok (.iastore, 1) := by decide +kernel
theorem d102_29 : decode (cc 102) 29 = .ok (.aload_n 0, 1) := by decide +kernel
theorem d102_30 : decode (cc 102) 30 = .ok (.getfield 58, 3) := by decide +kernel
theorem d102_33 : decode (cc 102) 33 = .ok (.iload 5, 2) := by decide +kernel
theorem d102_35 : decode (cc 102) 35 = .ok (.iload 4, 2) := by decide +kernel
theorem d102_37 : decode (cc 102) 37 = .ok (.iastore, 1) := by decide +kernel
theorem d102_38 : decode (cc 102) 38 = .ok (.aload_n 0, 1) := by decide +kernel
theorem d102_39 : decode (cc 102) 39 = .ok (.getfield 49, 3) := by decide +kernel
theorem d102_42 : decode (cc 102) 42 = .ok (.iload_n 1, 1) := by decide +kernel
theorem d102_43 : decode (cc 102) 43 = .ok (.dup2, 1) := by decide +kernel
theorem d102_44 : decode (cc 102) 44 = .ok (.iaload, 1) := by decide +kernel
theorem d102_45 : decode (cc 102) 45 = .ok (.iconst 1, 1) := by decide +kernel
theorem d102_46 : decode (cc 102) 46 = .ok (.iadd, 1) := by decide +kernel
theorem d102_47 : decode (cc 102) 47 = .ok (.iastore, 1) := by decide +kernel
theorem d102_48 : decode (cc 102) 48 = .ok (.aload_n 0, 1) := by decide +kernel
theorem d102_49 : decode (cc 102) 49 = .ok (.getfield 49, 3) := by decide +kernel
theorem d102_52 : decode (cc 102) 52 = .ok (.iload_n 1, 1) := by decide +kernel
theorem d102_53 : decode (cc 102) 53 = .ok (.iaload, 1) := by decide +kernel
theorem d102_54 : decode (cc 102) 54 = .ok (.iconst 1, 1) := by decide +kernel
theorem d102_55 : decode (cc 102) 55 = .ok (.isub, 1) := by decide +kernel
theorem d102_56 : decode (cc 102) 56 = .ok (.ireturn, 1) := by decide +kernel
theorem d103_0 : decode (cc 103) 0 = .ok (.aload_n 0, 1) := by decide +kernel
theorem d103_1 : decode (cc 103) 1 = .ok (.iconst 1, 1) := by decide +kernel
theorem d103_2 : decode (cc 103) 2 = .ok (.iload_n 1, 1) := by decide +kernel
theorem d103_3 : decode (cc 103) 3 = .ok (.iload_n 2, 1) := by decide +kernel
theorem d103_4 : decode (cc 103) 4 = .ok (.iload_n 3, 1) := by decide +kernel
theorem d103_5 : decode (cc 103) 5 = .ok (.invokevirtual 124, 3) := by decide +kernel
theorem d103_8 : decode (cc 103) 8 = .ok (.ireturn, 1) := by decide +kernel
theorem d104_0 : decode (cc 104) 0 = .ok (.iload_n 1, 1) := by decide +kernel
theorem d104_1 : decode (cc 104) 1 = .ok (.ifCond .eq 8, 3) := by decide +kernel
theorem d104_4 : decode (cc 104) 4 = .ok (.iload_n 1, 1) := by decide +kernel
theorem d104_5 : decode (cc 104) 5 = .ok (.iconst 1, 1) := by decide +kernel
theorem d104_6 : decode (cc 104) 6 = .ok (.if_icmp .ne 7, 3) := by decide +kernel
theorem d104_9 : decode (cc 104) 9 = .ok (.iconst 1, 1) := by decide +kernel
theorem d104_10 : decode (cc 104) 10 = .ok (.goto 4, 3) := by decide +kernel
theorem d104_13 : decode (cc 104) 13 = .ok (.iconst 0, 1) := by decide +kernel
theorem d104_14 : decode (cc 104) 14 = .ok (.istore 4, 2) := by decide +kernel
theorem d104_16 : decode (cc 104) 16 = .ok (.aload_n 0, 1) := by decide +kernel
theorem d104_17 : decode (cc 104) 17 = .ok (.iload 4, 2) := by decide +kernel
theorem d104_19 : decode (cc 104) 19 = .ok (.ifCond .ne 7, 3) := by decide +kernel
theorem d104_22 : decode (cc 104) 22 = .ok (.iconst 1, 1) := by decide +kernel
theorem d104_23 : decode (cc 104) 23 = .ok (.goto 39, 3) := by decide +kernel
theorem d104_26 : decode (cc 104) 26 = .ok (.iload_n 2, 1) := by decide +kernel
theorem d104_27 : decode (cc 104) 27 = .ok (.iconst 0, 1) := by decide +kernel
theorem d104_28 : decode (cc 104) 28 = .ok (.aload_n 0, 1) := by decide +kernel
theorem d104_29 : decode (cc 104) 29 = .ok (.getfield 49, 3) := by decide +kernel
theorem d104_32 : decode (cc 104) 32 = .ok (.iload_n 1, 1) := by decide +kernel
theorem d104_33 : decode (cc 104) 33 = .ok (.iaload, 1) := by decide +kernel
theorem d104_34 : decode (cc 104) 34 = .ok (.iconst 1, 1) := by decide +kernel
theorem d104_35 : decode (cc 104) 35 = .ok (.isub, 1) := by decide +kernel
theorem d104_36 : decode (cc 104) 36 = .ok (.invokestatic 89, 3) := by decide +kernel
theorem d104_39 : decode (cc 104) 39 = .ok (.ifCond .ne 7, 3) := by decide +kernel
theorem d104_42 : decode (cc 104) 42 = .ok (.iconst 2, 1) := by decide +kernel
theorem d104_43 : decode (cc 104) 43 = .ok (.goto 19, 3) := by decide +kernel
theorem d104_46 : decode (cc 104) 46 = .ok (.iload_n 3, 1) := by decide +kernel
theorem d104_47 : decode (cc 104) 47 = .ok (.iconst 0, 1) := by decide +kernel
theorem d104_48 : decode (cc 104) 48 = .ok (.sipush 1000, 3) := by decide +kernel
theorem d104_51 : decode (cc 104) 51 = .ok (.invokestatic 89, 3) := by decide +kernel
theorem d104_54 : decode (cc 104) 54 = .ok (.ifCond .ne 7, 3) := by decide +kernel
theorem d104_57 : decode (cc 104) 57 = .ok (.iconst 1, 1) := by decide +kernel
theorem d104_58 : decode (cc 104) 58 = .ok (.goto 4, 3) := by decide +kernel
theorem d104_61 : decode (cc 104) 61 = .ok (.iconst 0, 1) := by decide +kernel
theorem d104_62 : decode (cc 104) 62 = .ok (.invokevirtual 97, 3) := by decide +kernel
theorem d104_65 : decode (cc 104) 65 = .ok (.ifCond .eq 5, 3) := by decide +kernel
theorem d104_68 : decode (cc 104) 68 = .ok (.iconst 0, 1) := by decide +kernel
theorem d104_69 : decode (cc 104) 69 = .ok (.ireturn, 1) := by decide +kernel
theorem d104_70 : decode (cc 104) 70 = .ok (.bipush 24, 2) := by decide +kernel
theorem d104_72 : decode (cc 104) 72 = .ok (.iload_n 1, 1) := by decide +kernel
theorem d104_73 : decode (cc 104) 73 = .ok (.imul, 1) := by decide +kernel
theorem d104_74 : decode (cc 104) 74 = .ok (.iload_n 2, 1) := by decide +kernel
theorem d104_75 : decode (cc 104) 75 = .ok (.iadd, 1) := by decide +kernel
theorem d104_76 : decode (cc 104) 76 = .ok (.istore 5, 2) := by decide +kernel
theorem d104_78 : decode (cc 104) 78 = .ok (.aload_n 0, 1) := by decide +kernel
theorem d104_79 : decode (cc 104) 79 = .ok (.getfield 58, 3) := by decide +kernel
theorem d104_82 : decode (cc 104) 82 = .ok (.iload 5, 2) := by decide +kernel
theorem d104_84 : decode (cc 104) 84 = .ok (.iaload, 1) := by decide +kernel
theorem d104_85 : decode (cc 104) 85 = .ok (.istore 6, 2) := by decide +kernel
theorem d104_87 : decode (cc 104) 87 = .ok (.aload_n 0, 1) := by decide +kernel
theorem d104_88 : decode (cc 104) 88 = .ok (.getfield 58, 3) := by decide +kernel
theorem d104_91 : decode (cc 104) 91 = .ok (.iload 5, 2) := by decide +kernel
theorem d104_93 : decode (cc 104) 93 = .ok (.iload_n 3, 1) := by decide +kernel
theorem d104_94 : decode (cc 104) 94 = .ok (.iastore, 1) := by decide +kernel
theorem d104_95 : decode (cc 104) 95 = .ok (.aload_n 0, 1) := by decide +kernel
theorem d104_96 : decode (cc 104) 96 = .ok (.aload_n 0, 1) := by decide +kernel
theorem d104_97 : decode (cc 104) 97 = .ok (.getfield 52, 3) := by decide +kernel
theorem d104_100 : decode (cc 104) 100 = .ok (.iload 5, 2) := by decide +kernel
theorem d104_102 : decode (cc 104) 102 = .ok (.iaload, 1) := by decide +kernel
theorem d104_103 : decode (cc 104) 103 = .ok (.invokevirtual 100, 3) := by decide +kernel
theorem d104_106 : decode (cc 104) 106 = .ok (.iload 6, 2) := by decide +kernel
theorem d104_108 : decode (cc 104) 108 = .ok (.ireturn, 1) := by decide +kernel
theorem d105_0 : decode (cc 105) 0 = .ok (.aload_n 0, 1) := by decide +kernel
theorem d105_1 : decode (cc 105) 1 = .ok (.iconst 0, 1) := by decide +kernel
theorem d105_2 : decode (cc 105) 2 = .ok (.putfield 85, 3) := by decide +kernel
theorem d105_5 : decode (cc 105) 5 = .ok (.iconst 0, 1) := by decide +kernel
theorem d105_6 : decode (cc 105) 6 = .ok (.istore_n 1, 1) := by decide +kernel
theorem d105_7 : decode (cc 105) 7 = .ok (.iconst 0, 1) := by decide +kernel
theorem d105_8 : decode (cc 105) 8 = .ok (.istore_n 2, 1) := by decide +kernel
theorem d105_9 : decode (cc 105) 9 = .ok (.iload_n 2, 1) := by decide +kernel
theorem d105_10 : decode (cc 105) 10 = .ok (.iconst 5, 1) := by decide +kernel
theorem d105_11 : decode (cc 105) 11 = .ok (.if_icmp .ge 48, 3) := by decide +kernel
theorem d105_14 : decode (cc 105) 14 = .ok (.iconst 0, 1) := by decide +kernel
theorem d105_15 : decode (cc 105) 15 = .ok (.istore_n 3, 1) := by decide +kernel
theorem d105_16 : decode (cc 105) 16 = .ok (.iload_n 3, 1) := by decide +kernel
theorem d105_17 : decode (cc 105) 17 = .ok (.bipush 12, 2) := by decide +kernel
theorem d105_19 : decode (cc 105) 19 = .ok (.if_icmp .ge 34, 3) := by decide +kernel
theorem d105_22 : decode (cc 105) 22 = .ok (.aload_n 0, 1) := by decide +kernel
theorem d105_23 : decode (cc 105) 23 = .ok (.iload_n 3, 1) := by decide +kernel
theorem d105_24 : decode (cc 105) 24 = .ok (.invokevirtual 105, 3) := by decide +kernel
theorem d105_27 : decode (cc 105) 27 = .ok (.iload_n 2, 1) := by decide +kernel
theorem d105_28 : decode (cc 105) 28 = .ok (.if_icmp .ne 19, 3) := by decide +kernel
theorem d105_31 : decode (cc 105) 31 = .ok (.aload_n 0, 1) := by decide +kernel
theorem d105_32 : decode (cc 105) 32 = .ok (.iload_n 3, 1) := by decide +kernel
theorem d105_33 : decode (cc 105) 33 = .ok (.invokevirtual 176, 3) := by decide +kernel
theorem d105_36 : decode (cc 105) 36 = .ok (.ifCond .eq 9, 3) := by decide +kernel
theorem d105_39 : decode (cc 105) 39 = .ok (.iload_n 1, 1) := by decide +kernel
theorem d105_40 : decode (cc 105) 40 = .ok (.iconst 1, 1) := by decide +kernel
theorem d105_41 : decode (cc 105) 41 = .ok (.iadd, 1) := by decide +kernel
theorem d105_42 : decode (cc 105) 42 = .ok (.goto 4, 3) := by decide +kernel
theorem d105_45 : decode (cc 105) 45 = .ok (.iload_n 1, 1) := by decide +kernel
theorem d105_46 : decode (cc 105) 46 = .ok (.istore_n 1, 1) := by decide +kernel
theorem d105_47 : decode (cc 105) 47 = .ok (.iinc 3 1, 3) := by decide +kernel
theorem d105_50 : decode (cc 105) 50 = .ok (.goto (-34), 3) := by decide +kernel
theorem d105_53 : decode (cc 105) 53 = .ok (.iinc 2 1, 3) := by decide +kernel
theorem d105_56 : decode (cc 105) 56 = .ok (.goto (-47), 3) := by decide +kernel
theorem d105_59 : decode (cc 105) 59 = .ok (.aload_n 0, 1) := by decide +kernel
theorem d105_60 : decode (cc 105) 60 = .ok (.iconst 1, 1) := by decide +kernel
theorem d105_61 : decode (cc 105) 61 = .ok (.putfield 167, 3) := by decide +kernel
theorem d105_64 : decode (cc 105) 64 = .ok (.aload_n 0, 1) := by decide +kernel
theorem d105_65 : decode (cc 105) 65 = .ok (.iconst 0, 1) := by decide +kernel
theorem d105_66 : decode (cc 105) 66 = .ok (.putfield 61, 3) := by decide +kernel
theorem d105_69 : decode (cc 105) 69 = .ok (.iload_n 1, 1) := by decide +kernel
theorem d105_70 : decode (cc 105) 70 = .ok (.ireturn, 1) := by decide +kernel
theorem d106_0 : decode (cc 106) 0 = .ok (.aload_n 0, 1) := by decide +kernel
theorem d106_1 : decode (cc 106) 1 = .ok (.getfield 167, 3) := by decide +kernel
theorem d106_4 : decode (cc 106) 4 = .ok (.ifCond .eq 12, 3) := by decide +kernel
theorem d106_7 : decode (cc 106) 7 = .ok (.aload_n 0, 1) := by decide +kernel
theorem d106_8 : decode (cc 106) 8 = .ok (.getfield 65, 3) := by decide +kernel
theorem d106_11 : decode (cc 106) 11 = .ok (.iload_n 1, 1) := by decide +kernel
theorem d106_12 : decode (cc 106) 12 = .ok (.baload, 1) := by decide +kernel
theorem d106_13 : decode (cc 106) 13 = .ok (.ifCond .eq 7, 3) := by decide +kernel
theorem d106_16 : decode (cc 106) 16 = .ok (.iconst 1, 1) := by decide +kernel
theorem d106_17 : decode (cc 106) 17 = .ok (.goto 4, 3) := by decide +kernel
theorem d106_20 : decode (cc 106) 20 = .ok (.iconst 0, 1) := by decide +kernel
theorem d106_21 : decode (cc 106) 21 = .ok (.istore_n 2, 1) := by decide +kernel
theorem d106_22 : decode (cc 106) 22 = .ok (.iconst 0, 1) := by decide +kernel
theorem d106_23 : decode (cc 106) 23 = .ok (.istore_n 3, 1) := by decide +kernel
theorem d106_24 : decode (cc 106) 24 = .ok (.iload_n 3, 1) := by decide +kernel
theorem d106_25 : decode (cc 106) 25 = .ok (.bipush 12, 2) := by decide +kernel
theorem d106_27 : decode (cc 106) 27 = .ok (.if_icmp .ge 21, 3) := by decide +kernel
theorem d106_30 : decode (cc 106) 30 = .ok (.aload_n 0, 1) := by decide +kernel
theorem d106_31 : decode (cc 106) 31 = .ok (.getfield 76, 3) := by decide +kernel
theorem d106_34 : decode (cc 106) 34 = .ok (.iload_n 3, 1) := by decide +kernel
theorem d106_35 : decode (cc 106) 35 = .ok (.aload_n 0, 1) := by decide +kernel
theorem d106_36 : decode (cc 106) 36 = .ok (.iload_n 1, 1) := by decide +kernel
theorem d106_37 : decode (cc 106) 37 = .ok (.iload_n 3, 1) := by decide +kernel
theorem d106_38 : decode (cc 106) 38 = .ok (.invokevirtual 170, 3) := by decide +kernel
theorem d106_41 : decode (cc 106) 41 = .ok (.lastore, 1) := by decide +kernel
theorem d106_42 : decode (cc 106) 42 = .ok (.iinc 3 1, 3) := by decide +kernel
theorem d106_45 : decode (cc 106) 45 = .ok (.goto (-21), 3) := by decide +kernel
theorem d106_48 : decode (cc 106) 48 = .ok (.iconst 0, 1) := by decide +kernel
theorem d106_49 : decode (cc 106) 49 = .ok (.istore_n 3, 1) := by decide +kernel
theorem d106_50 : decode (cc 106) 50 = .ok (.iload_n 3, 1) := by decide +kernel
theorem d106_51 : decode (cc 106) 51 = .ok (.bipush 12, 2) := by decide +kernel
theorem d106_53 : decode (cc 106) 53 = .ok (.if_icmp .ge 57, 3) := by decide +kernel
theorem d106_56 : decode (cc 106) 56 = .ok (.iload_n 2, 1) := by decide +kernel
theorem d106_57 : decode (cc 106) 57 = .ok (.ifCond .ne 24, 3) := by decide +kernel
theorem d106_60 : decode (cc 106) 60 = .ok (.aload_n 0, 1) := by decide +kernel
theorem d106_61 : decode (cc 106) 61 = .ok (.getfield 76, 3) := by decide +kernel
theorem d106_64 : decode (cc 106) 64 = .ok (.iload_n 3, 1) := by decide +kernel
theorem d106_65 : decode (cc 106) 65 = .ok (.laload, 1) := by decide +kernel
theorem d106_66 : decode (cc 106) 66 = .ok (.aload_n 0, 1) := by decide +kernel
theorem d106_67 : decode (cc 106) 67 = .ok (.getfield 69, 3) := by decide +kernel
theorem d106_70 : decode (cc 106) 70 = .ok (.bipush 12, 2) := by decide +kernel
theorem d106_72 : decode (cc 106) 72 = .ok (.iload_n 1, 1) := by decide +kernel
theorem d106_73 : decode (cc 106) 73 = .ok (.imul, 1) := by decide +kernel
theorem d106_74 : decode (cc 106) 74 = .ok (.iload_n 3, 1) := by decide +kernel
theorem d106_75 : decode (cc 106) 75 = .ok (.iadd, 1) := by decide +kernel
theorem d106_76 : decode (cc 106) 76 = .ok (.laload, 1) := by decide +kernel
theorem d106_77 : decode (cc 106) 77 = .ok (.lcmp, 1) := by decide +kernel
theorem d106_78 : decode (cc 106) 78 = .ok (.ifCond .eq 7, 3) := by decide +kernel
theorem d106_81 : decode (cc 106) 81 = .ok (.iconst 1, 1) := by decide +kernel
theorem d106_82 : decode (cc 106) 82 = .ok (.goto 4, 3) := by decide +kernel
theorem d106_85 : decode (cc 106) 85 = .ok (.iconst 0, 1) := by decide +kernel
theorem d106_86 : decode (cc 106) 86 = .ok (.istore_n 2, 1) := by decide +kernel
theorem d106_87 : decode (cc 106) 87 = .ok (.aload_n 0, 1) := by decide +kernel
theorem d106_88 : decode (cc 106) 88 = .ok (.getfield 69, 3) := by decide +kernel
theorem d106_91 : decode (cc 106) 91 = .ok (.bipush 12, 2) := by decide +kernel
theorem d106_93 : decode (cc 106) 93 = .ok (.iload_n 1, 1) := by decide +kernel
theorem d106_94 : decode (cc 106) 94 = .ok (.imul, 1) := by decide +kernel
theorem d106_95 : decode (cc 106) 95 = .ok (.iload_n 3, 1) := by decide +kernel
theorem d106_96 : decode (cc 106) 96 = .ok (.iadd, 1) := by decide +kernel
theorem d106_97 : decode (cc 106) 97 = .ok (.aload_n 0, 1) := by decide +kernel
theorem d106_98 : decode (cc 106) 98 = .ok (.getfield 76, 3) := by decide +kernel
theorem d106_101 : decode (cc 106) 101 = .ok (.iload_n 3, 1) := by decide +kernel
theorem d106_102 : decode (cc 106) 102 = .ok (.laload, 1) := by decide +kernel
theorem d106_103 : decode (cc 106) 103 = .ok (.lastore, 1) := by decide +kernel
theorem d106_104 : decode (cc 106) 104 = .ok (.iinc 3 1, 3) := by decide +kernel
theorem d106_107 : decode (cc 106) 107 = .ok (.goto (-57), 3) := by decide +kernel
theorem d106_110 : decode (cc 106) 110 = .ok (.aload_n 0, 1) := by decide +kernel
theorem d106_111 : decode (cc 106) 111 = .ok (.iload_n 1, 1) := by decide +kernel
theorem d106_112 : decode (cc 106) 112 = .ok (.invokevirtual 173, 3) := by decide +kernel
theorem d106_115 : decode (cc 106) 115 = .ok (.aload_n 0, 1) := by decide +kernel
theorem d106_116 : decode (cc 106) 116 = .ok (.getfield 65, 3) := by decide +kernel
theorem d106_119 : decode (cc 106) 119 = .ok (.iload_n 1, 1) := by decide +kernel
theorem d106_120 : decode (cc 106) 120 = .ok (.iconst 0, 1) := by decide +kernel
theorem d106_121 : decode (cc 106) 121 = .ok (.bastore, 1) := by decide +kernel
theorem d106_122 : decode (cc 106) 122 = .ok (.iload_n 2, 1) := by decide +kernel
theorem d106_123 : decode (cc 106) 123 = .ok (.ireturn, 1) := by decide +kernel
theorem d107_0 : decode (cc 107) 0 = .ok (.aload_n 0, 1) := by decide +kernel
theorem d107_1 : decode (cc 107) 1 = .ok (.iconst 0, 1) := by decide +kernel
theorem d107_2 : decode (cc 107) 2 = .ok (.iload_n 1, 1) := by decide +kernel
theorem d107_3 : decode (cc 107) 3 = .ok (.iload_n 2, 1) := by decide +kernel
theorem d107_4 : decode (cc 107) 4 = .ok (.invokevirtual 127, 3) := by decide +kernel
theorem d107_7 : decode (cc 107) 7 = .ok (.iload_n 2, 1) := by decide +kernel
theorem d107_8 : decode (cc 107) 8 = .ok (.ifCond .le 15, 3) := by decide +kernel
theorem d107_11 : decode (cc 107) 11 = .ok (.aload_n 0, 1) := by decide +kernel
theorem d107_12 : decode (cc 107) 12 = .ok (.iconst 0, 1) := by decide +kernel
theorem d107_13 : decode (cc 107) 13 = .ok (.iload_n 1, 1) := by decide +kernel
theorem d107_14 : decode (cc 107) 14 = .ok (.iload_n 2, 1) := by decide +kernel
theorem d107_15 : decode (cc 107) 15 = .ok (.iconst 1, 1) := by decide +kernel
theorem d107_16 : decode (cc 107) 16 = .ok (.isub, 1) := by decide +kernel
theorem d107_17 : decode (cc 107) 17 = .ok (.invokevirtual 127, 3) := by decide +kernel
theorem d107_20 : decode (cc 107) 20 = .ok (.goto 4, 3) := by decide +kernel
theorem d107_23 : decode (cc 107) 23 = .ok (.lconst 0, 1) := by decide +kernel
theorem d107_24 : decode (cc 107) 24 = .ok (.lsub, 1) := by decide +kernel
theorem d107_25 : decode (cc 107) 25 = .ok (.lstore_n 3, 1) := by decide +kernel
theorem d107_26 : decode (cc 107) 26 = .ok (.iconst 0, 1) := by decide +kernel
theorem d107_27 : decode (cc 107) 27 = .ok (.istore 5, 2) := by decide +kernel
theorem d107_29 : decode (cc 107) 29 = .ok (.iload 5, 2) := by decide +kernel
theorem d107_31 : decode (cc 107) 31 = .ok (.bipush 12, 2) := by decide +kernel
theorem d107_33 : decode (cc 107) 33 = .ok (.if_icmp .ge 24, 3) := by decide +kernel
theorem d107_36 : decode (cc 107) 36 = .ok (.lload_n 3, 1) := by decide +kernel
theorem d107_37 : decode (cc 107) 37 = .ok (.aload_n 0, 1) := by decide +kernel
theorem d107_38 : decode (cc 107) 38 = .ok (.bipush 12, 2) := by decide +kernel
theorem d107_40 : decode (cc 107) 40 = .ok (.iload 5, 2) := by decide +kernel
theorem d107_42 : decode (cc 107) 42 = .ok (.imul, 1) := by decide +kernel
theorem d107_43 : decode (cc 107) 43 = .ok (.iload_n 1, 1) := by decide +kernel
theorem d107_44 : decode (cc 107) 44 = .ok (.iadd, 1) := by decide +kernel
theorem d107_45 : decode (cc 107) 45 = .ok (.iload_n 2, 1) := by decide +kernel
theorem d107_46 : decode (cc 107) 46 = .ok (.invokevirtual 139, 3) := by decide +kernel
theorem d107_49 : decode (cc 107) 49 = .ok (.ladd, 1) := by decide +kernel
theorem d107_50 : decode (cc 107) 50 = .ok (.lstore_n 3, 1) := by decide +kernel
theorem d107_51 : decode (cc 107) 51 = .ok (.iinc 5 1, 3) := by decide +kernel
theorem d107_54 : decode (cc 107) 54 = .ok (.goto (-25), 3) := by decide +kernel
theorem d107_57 : decode (cc 107) 57 = .ok (.lload_n 3, 1) := by decide +kernel
theorem d107_58 : decode (cc 107) 58 = .ok (.lreturn, 1) := by decide +kernel
theorem d108_0 : decode (cc 108) 0 = .ok (.lconst 0, 1) := by decide +kernel
theorem d108_1 : decode (cc 108) 1 = .ok (.lstore 4, 2) := by decide +kernel
theorem d108_3 : decode (cc 108) 3 = .ok (.bipush 24, 2) := by decide +kernel
theorem d108_5 : decode (cc 108) 5 = .ok (.iload_n 1, 1) := by decide +kernel
theorem d108_6 : decode (cc 108) 6 = .ok (.imul, 1) := by decide +kernel
theorem d108_7 : decode (cc 108) 7 = .ok (.istore 6, 2) := by decide +kernel
theorem d108_9 : decode (cc 108) 9 = .ok (.iload 6, 2) := by decide +kernel
theorem d108_11 : decode (cc 108) 11 = .ok (.bipush 24, 2) := by decide +kernel
theorem d108_13 : decode (cc 108) 13 = .ok (.iload_n 1, 1) := by decide +kernel
theorem d108_14 : decode (cc 108) 14 = .ok (.imul, 1) := by decide +kernel
theorem d108_15 : decode (cc 108) 15 = .ok (.aload_n 0, 1) := by decide +kernel
theorem d108_16 : decode (cc 108) 16 = .ok (.getfield 49, 3) := by decide +kernel
theorem d108_19 : decode (cc 108) 19 = .ok (.iload_n 1, 1) := by decide +kernel
theorem d108_20 : decode (cc 108) 20 = .ok (.iaload, 1) := by decide +kernel
theorem d108_21 : decode (cc 108) 21 = .ok (.iadd, 1) := by decide +kernel
theorem d108_22 : decode (cc 108) 22 = .ok (.if_icmp .ge 49, 3) := by decide +kernel
theorem d108_25 : decode (cc 108) 25 = .ok (.aload_n 0, 1) := by decide +kernel
theorem d108_26 : decode (cc 108) 26 = .ok (.getfield 52, 3) := by decide +kernel
theorem d108_29 : decode (cc 108) 29 = .ok (.iload 6, 2) := by decide +kernel
theorem d108_31 : decode (cc 108) 31 = .ok (.iaload, 1) := by decide +kernel
theorem d108_32 : decode (cc 108) 32 = .ok (.iload_n 2, 1) := by decide +kernel
theorem d108_33 : decode (cc 108) 33 = .ok (.if_icmp .ne 28, 3) := by decide +kernel
theorem d108_36 : decode (cc 108) 36 = .ok (.aload_n 0, 1) := by decide +kernel
theorem d108_37 : decode (cc 108) 37 = .ok (.getfield 55, 3) := by decide +kernel
theorem d108_40 : decode (cc 108) 40 = .ok (.iload 6, 2) := by decide +kernel
theorem d108_42 : decode (cc 108) 42 = .ok (.iaload, 1) := by decide +kernel
theorem d108_43 : decode (cc 108) 43 = .ok (.iload_n 3, 1) := by decide +kernel
theorem d108_44 : decode (cc 108) 44 = .ok (.if_icmp .gt 17, 3) := by decide +kernel
theorem d108_47 : decode (cc 108) 47 = .ok (.lload 4, 2) := by decide +kernel
theorem d108_49 : decode (cc 108) 49 = .ok (.aload_n 0, 1) := by decide +kernel
theorem d108_50 : decode (cc 108) 50 = .ok (.getfield 58, 3) := by decide +kernel
theorem d108_53 : decode (cc 108) 53 = .ok (.iload 6, 2) := by decide +kernel
theorem d108_55 : decode (cc 108) 55 = .ok (.iaload, 1) := by decide +kernel
theorem d108_56 : decode (cc 108) 56 = .ok (.i2l, 1) := by decide +kernel
theorem d108_57 : decode (cc 108) 57 = .ok (.ladd, 1) := by decide +kernel
theorem d108_58 : decode (cc 108) 58 = .ok (.goto 5, 3) := by decide +kernel
theorem d108_61 : decode (cc 108) 61 = .ok (.lload 4, 2) := by decide +kernel
theorem d108_63 : decode (cc 108) 63 = .ok (.lstore 4, 2) := by decide +kernel
theorem d108_65 : decode (cc 108) 65 = .ok (.iinc 6 1, 3) := by decide +kernel
theorem d108_68 : decode (cc 108) 68 = .ok (.goto (-59), 3) := by decide +kernel
theorem d108_71 : decode (cc 108) 71 = .ok (.lload 4, 2) := by decide +kernel
theorem d108_73 : decode (cc 108) 73 = .ok (.lreturn, 1) := by decide +kernel
theorem d109_0 : decode (cc 109) 0 = .ok (.iload_n 1, 1) := by decide +kernel
theorem d109_1 : decode (cc 109) 1 = .ok (.bipush 12, 2) := by decide +kernel
theorem d109_3 : decode (cc 109) 3 = .ok (.idiv, 1) := by decide +kernel
theorem d109_4 : decode (cc 109) 4 = .ok (.istore_n 3, 1) := by decide +kernel
theorem d109_5 : decode (cc 109) 5 = .ok (.iload_n 2, 1) := by decide +kernel
theorem d109_6 : decode (cc 109) 6 = .ok (.aload_n 0, 1) := by decide +kernel
theorem d109_7 : decode (cc 109) 7 = .ok (.getfield 16, 3) := by decide +kernel
theorem d109_10 : decode (cc 109) 10 = .ok (.iload_n 3, 1) := by decide +kernel
theorem d109_11 : decode (cc 109) 11 = .ok (.iaload, 1) := by decide +kernel
theorem d109_12 : decode (cc 109) 12 = .ok (.iadd, 1) := by decide +kernel
theorem d109_13 : decode (cc 109) 13 = .ok (.istore 4, 2) := by decide +kernel
theorem d109_15 : decode (cc 109) 15 = .ok (.aload_n 0, 1) := by decide +kernel
theorem d109_16 : decode (cc 109) 16 = .ok (.getfield 40, 3) := by decide +kernel
theorem d109_19 : decode (cc 109) 19 = .ok (.iload_n 1, 1) := by decide +kernel
theorem d109_20 : decode (cc 109) 20 = .ok (.iaload, 1) := by decide +kernel
theorem d109_21 : decode (cc 109) 21 = .ok (.ifCond .le 34, 3) := by decide +kernel
theorem d109_24 : decode (cc 109) 24 = .ok (.iload 4, 2) := by decide +kernel
theorem d109_26 : decode (cc 109) 26 = .ok (.bipush 12, 2) := by decide +kernel
theorem d109_28 : decode (cc 109) 28 = .ok (.if_icmp .ge 27, 3) := by decide +kernel
theorem d109_31 : decode (cc 109) 31 = .ok (.iload_n 2, 1) := by decide +kernel
theorem d109_32 : decode (cc 109) 32 = .ok (.aload_n 0, 1) := by decide +kernel
theorem d109_33 : decode (cc 109) 33 = .ok (.getfield 43, 3) := by decide +kernel
theorem d109_36 : decode (cc 109) 36 = .ok (.iload_n 1, 1) := by decide +kernel
theorem d109_37 : decode (cc 109) 37 = .ok (.iaload, 1) := by decide +kernel
theorem d109_38 : decode (cc 109) 38 = .ok (.if_icmp .lt 17, 3) := by decide +kernel
theorem d109_41 : decode (cc 109) 41 = .ok (.iload_n 2, 1) := by decide +kernel
theorem d109_42 : decode (cc 109) 42 = .ok (.aload_n 0, 1) := by decide +kernel
theorem d109_43 : decode (cc 109) 43 = .ok (.getfield 46, 3) := by decide +kernel
theorem d109_46 : decode (cc 109) 46 = .ok (.iload_n 1, 1) := by decide +kernel
theorem d109_47 : decode (cc 109) 47 = .ok (.iaload, 1) := by decide +kernel
theorem d109_48 : decode (cc 109) 48 = .ok (.if_icmp .gt 7, 3) := by decide +kernel
theorem d109_51 : decode (cc 109) 51 = .ok (.iconst 1, 1) := by decide +kernel
theorem d109_52 : decode (cc 109) 52 = .ok (.goto 4, 3) := by decide +kernel
theorem d109_55 : decode (cc 109) 55 = .ok (.iconst 0, 1) := by decide +kernel
theorem d109_56 : decode (cc 109) 56 = .ok (.istore 5, 2) := by decide +kernel
theorem d109_58 : decode (cc 109) 58 = .ok (.iload 5, 2) := by decide +kernel
theorem d109_60 : decode (cc 109) 60 = .ok (.ifCond .eq 18, 3) := by decide +kernel
theorem d109_63 : decode (cc 109) 63 = .ok (.aload_n 0, 1) := by decide +kernel
theorem d109_64 : decode (cc 109) 64 = .ok (.getfield 73, 3) := by decide +kernel
theorem d109_67 : decode (cc 109) 67 = .ok (.bipush 12, 2) := by decide +kernel
theorem d109_69 : decode (cc 109) 69 = .ok (.iload_n 3, 1) := by decide +kernel
theorem d109_70 : decode (cc 109) 70 = .ok (.imul, 1) := by decide +kernel
theorem d109_71 : decode (cc 109) 71 = .ok (.iload 4, 2) := by decide +kernel
theorem d109_73 : decode (cc 109) 73 = .ok (.iadd, 1) := by decide +kernel
theorem d109_74 : decode (cc 109) 74 = .ok (.laload, 1) := by decide +kernel
theorem d109_75 : decode (cc 109) 75 = .ok (.goto 4, 3) := by decide +kernel
theorem d109_78 : decode (cc 109) 78 = .ok (.lconst 0, 1) := by decide +kernel
theorem d109_79 : decode (cc 109) 79 = .ok (.lstore 6, 2) := by decide +kernel
theorem d109_81 : decode (cc 109) 81 = .ok (.lload 6, 2) := by decide +kernel
theorem d109_83 : decode (cc 109) 83 = .ok (.aload_n 0, 1) := by decide +kernel
theorem d109_84 : decode (cc 109) 84 = .ok (.getfield 40, 3) := by decide +kernel
theorem d109_87 : decode (cc 109) 87 = .ok (.iload_n 1, 1) := by decide +kernel
theorem d109_88 : decode (cc 109) 88 = .ok (.iaload, 1) := by decide +kernel
theorem d109_89 : decode (cc 109) 89 = .ok (.i2l, 1) := by decide +kernel
theorem d109_90 : decode (cc 109) 90 = .ok (.lmul, 1) := by decide +kernel
theorem d109_91 : decode (cc 109) 91 = .ok (.ldc2_w 135, 3) := by decide +kernel
theorem d109_94 : decode (cc 109) 94 = .ok (.aload_n 0, 1) := by decide +kernel
theorem d109_95 : decode (cc 109) 95 = .ok (.getfield 22, 3) := by decide +kernel
theorem d109_98 : decode (cc 109) 98 = .ok (.iload_n 1, 1) := by decide +kernel
theorem d109_99 : decode (cc 109) 99 = .ok (.bipush 12, 2) := by decide +kernel
theorem d109_101 : decode (cc 109) 101 = .ok (.irem, 1) := by decide +kernel
theorem d109_102 : decode (cc 109) 102 = .ok (.iaload, 1) := by decide +kernel
theorem d109_103 : decode (cc 109) 103 = .ok (.i2l, 1) := by decide +kernel
theorem d109_104 : decode (cc 109) 104 = .ok (.ladd, 1) := by decide +kernel
theorem d109_105 : decode (cc 109) 105 = .ok (.lmul, 1) := by decide +kernel
theorem d109_106 : decode (cc 109) 106 = .ok (.ldc2_w 137, 3) := by decide +kernel
theorem d109_109 : decode (cc 109) 109 = .ok (.ladd, 1) := by decide +kernel
theorem d109_110 : decode (cc 109) 110 = .ok (.ldc2_w 135, 3) := by decide +kernel
theorem d109_113 : decode (cc 109) 113 = .ok (.ldiv, 1) := by decide +kernel
theorem d109_114 : decode (cc 109) 114 = .ok (.lreturn, 1) := by decide +kernel
theorem d110_0 : decode (cc 110) 0 = .ok (.aload_n 0, 1) := by decide +kernel
theorem d110_1 : decode (cc 110) 1 = .ok (.iload_n 1, 1) := by decide +kernel
theorem d110_2 : decode (cc 110) 2 = .ok (.invokevirtual 157, 3) := by decide +kernel
theorem d110_5 : decode (cc 110) 5 = .ok (.aload_n 0, 1) := by decide +kernel
theorem d110_6 : decode (cc 110) 6 = .ok (.iload_n 1, 1) := by decide +kernel
theorem d110_7 : decode (cc 110) 7 = .ok (.invokevirtual 160, 3) := by decide +kernel
theorem d110_10 : decode (cc 110) 10 = .ok (.lconst 0, 1) := by decide +kernel
theorem d110_11 : decode (cc 110) 11 = .ok (.lstore_n 2, 1) := by decide +kernel
theorem d110_12 : decode (cc 110) 12 = .ok (.iconst 0, 1) := by decide +kernel
theorem d110_13 : decode (cc 110) 13 = .ok (.istore 4, 2) := by decide +kernel
theorem d110_15 : decode (cc 110) 15 = .ok (.iload 4, 2) := by decide +kernel
theorem d110_17 : decode (cc 110) 17 = .ok (.bipush 12, 2) := by decide +kernel
theorem d110_19 : decode (cc 110) 19 = .ok (.if_icmp .ge 65, 3) := by decide +kernel
theorem d110_22 : decode (cc 110) 22 = .ok (.iload 4, 2) := by decide +kernel
theorem d110_24 : decode (cc 110) 24 = .ok (.aload_n 0, 1) := by decide +kernel
theorem d110_25 : decode (cc 110) 25 = .ok (.getfield 16, 3) := by decide +kernel
theorem d110_28 : decode (cc 110) 28 = .ok (.iload_n 1, 1) := by decide +kernel
theorem d110_29 : decode (cc 110) 29 = .ok (.iaload, 1) := by decide +kernel
theorem d110_30 : decode (cc 110) 30 = .ok (.if_icmp .lt 26, 3) := by decide +kernel
theorem d110_33 : decode (cc 110) 33 = .ok (.aload_n 0, 1) := by decide +kernel
theorem d110_34 : decode (cc 110) 34 = .ok (.getfield 79, 3) := by decide +kernel
theorem d110_37 : decode (cc 110) 37 = .ok (.iload 4, 2) := by decide +kernel
theorem d110_39 : decode (cc 110) 39 = .ok (.laload, 1) := by decide +kernel
theorem d110_40 : decode (cc 110) 40 = .ok (.lload_n 2, 1) := by decide +kernel
theorem d110_41 : decode (cc 110) 41 = .ok (.lcmp, 1) := by decide +kernel
theorem d110_42 : decode (cc 110) 42 = .ok (.ifCond .le 14, 3) := by decide +kernel
theorem d110_45 : decode (cc 110) 45 = .ok (.aload_n 0, 1) := by decide +kernel
theorem d110_46 : decode (cc 110) 46 = .ok (.iload_n 1, 1) := by decide +kernel
theorem d110_47 : decode (cc 110) 47 = .ok (.iload 4, 2) := by decide +kernel
theorem d110_49 : decode (cc 110) 49 = .ok (.lload_n 2, 1) := by decide +kernel
theorem d110_50 : decode (cc 110) 50 = .ok (.invokevirtual 163, 3) := by decide +kernel
theorem d110_53 : decode (cc 110) 53 = .ok (.goto 4, 3) := by decide +kernel
theorem d110_56 : decode (cc 110) 56 = .ok (.lconst 0, 1) := by decide +kernel
theorem d110_57 : decode (cc 110) 57 = .ok (.lstore 5, 2) := by decide +kernel
theorem d110_59 : decode (cc 110) 59 = .ok (.aload_n 0, 1) := by decide +kernel
theorem d110_60 : decode (cc 110) 60 = .ok (.getfield 73, 3) := by decide +kernel
theorem d110_63 : decode (cc 110) 63 = .ok (.bipush 12, 2) := by decide +kernel
theorem d110_65 : decode (cc 110) 65 = .ok (.iload_n 1, 1) := by decide +kernel
theorem d110_66 : decode (cc 110) 66 = .ok (.imul, 1) := by decide +kernel
theorem d110_67 : decode (cc 110) 67 = .ok (.iload 4, 2) := by decide +kernel
theorem d110_69 : decode (cc 110) 69 = .ok (.iadd, 1) := by decide +kernel
theorem d110_70 : decode (cc 110) 70 = .ok (.lload 5, 2) := by decide +kernel
theorem d110_72 : decode (cc 110) 72 = .ok (.lastore, 1) := by decide +kernel
theorem d110_73 : decode (cc 110) 73 = .ok (.lload_n 2, 1) := by decide +kernel
theorem d110_74 : decode (cc 110) 74 = .ok (.lload 5, 2) := by decide +kernel
theorem d110_76 : decode (cc 110) 76 = .ok (.ladd, 1) := by decide +kernel
theorem d110_77 : decode (cc 110) 77 = .ok (.lstore_n 2, 1) := by decide +kernel
theorem d110_78 : decode (cc 110) 78 = .ok (.iinc 4 1, 3) := by decide +kernel
theorem d110_81 : decode (cc 110) 81 = .ok (.goto (-66), 3) := by decide +kernel
theorem d110_84 : decode (cc 110) 84 = .ok (.return_, 1) := by decide +kernel
theorem d111_0 : decode (cc 111) 0 = .ok (.iconst 0, 1) := by decide +kernel
theorem d111_1 : decode (cc 111) 1 = .ok (.istore_n 2, 1) := by decide +kernel
theorem d111_2 : decode (cc 111) 2 = .ok (.iload_n 2, 1) := by decide +kernel
theorem d111_3 : decode (cc 111) 3 = .ok (.bipush 12, 2) := by decide +kernel
theorem d111_5 : decode (cc 111) 5 = .ok (.if_icmp .ge 78, 3) := by decide +kernel
theorem d111_8 : decode (cc 111) 8 = .ok (.lconst 0, 1) := by decide +kernel
theorem d111_9 : decode (cc 111) 9 = .ok (.lstore_n 3, 1) := by decide +kernel
theorem d111_10 : decode (cc 111) 10 = .ok (.iconst 0, 1) := by decide +kernel
theorem d111_11 : decode (cc 111) 11 = .ok (.istore 5, 2) := by decide +kernel
theorem d111_13 : decode (cc 111) 13 = .ok (.iload 5, 2) := by decide +kernel
theorem d111_15 : decode (cc 111) 15 = .ok (.iload_n 2, 1) := by decide +kernel
theorem d111_16 : decode (cc 111) 16 = .ok (.if_icmp .gt 40, 3) := by decide +kernel
theorem d111_19 : decode (cc 111) 19 = .ok (.aload_n 0, 1) := by decide +kernel
theorem d111_20 : decode (cc 111) 20 = .ok (.getfield 19, 3) := by decide +kernel
theorem d111_23 : decode (cc 111) 23 = .ok (.iload_n 1, 1) := by decide +kernel
theorem d111_24 : decode (cc 111) 24 = .ok (.iaload, 1) := by decide +kernel
theorem d111_25 : decode (cc 111) 25 = .ok (.i2l, 1) := by decide +kernel
theorem d111_26 : decode (cc 111) 26 = .ok (.aload_n 0, 1) := by decide +kernel
theorem d111_27 : decode (cc 111) 27 = .ok (.iload_n 1, 1) := by decide +kernel
theorem d111_28 : decode (cc 111) 28 = .ok (.iload 5, 2) := by decide +kernel
theorem d111_30 : decode (cc 111) 30 = .ok (.invokevirtual 143, 3) := by decide +kernel
theorem d111_33 : decode (cc 111) 33 = .ok (.lsub, 1) := by decide +kernel
theorem d111_34 : decode (cc 111) 34 = .ok (.lstore 6, 2) := by decide +kernel
theorem d111_36 : decode (cc 111) 36 = .ok (.lload 6, 2) := by decide +kernel
theorem d111_38 : decode (cc 111) 38 = .ok (.lload_n 3, 1) := by decide +kernel
theorem d111_39 : decode (cc 111) 39 = .ok (.lcmp, 1) := by decide +kernel
theorem d111_40 : decode (cc 111) 40 = .ok (.ifCond .le 8, 3) := by decide +kernel
theorem d111_43 : decode (cc 111) 43 = .ok (.lload 6, 2) := by decide +kernel
theorem d111_45 : decode (cc 111) 45 = .ok (.goto 4, 3) := by decide +kernel
theorem d111_48 : decode (cc 111) 48 = .ok (.lload_n 3, 1) := by decide +kernel
theorem d111_49 : decode (cc 111) 49 = .ok (.lstore_n 3, 1) := by decide +kernel
theorem d111_50 : decode (cc 111) 50 = .ok (.iinc 5 1, 3) := by decide +kernel
theorem d111_53 : decode (cc 111) 53 = .ok (.goto (-40), 3) := by decide +kernel
theorem d111_56 : decode (cc 111) 56 = .ok (.aload_n 0, 1) := by decide +kernel
theorem d111_57 : decode (cc 111) 57 = .ok (.getfield 79, 3) := by decide +kernel
theorem d111_60 : decode (cc 111) 60 = .ok (.iload_n 2, 1) := by decide +kernel
theorem d111_61 : decode (cc 111) 61 = .ok (.iload_n 2, 1) := by decide +kernel
theorem d111_62 : decode (cc 111) 62 = .ok (.aload_n 0, 1) := by decide +kernel
theorem d111_63 : decode (cc 111) 63 = .ok (.getfield 16, 3) := by decide +kernel
theorem d111_66 : decode (cc 111) 66 = .ok (.iload_n 1, 1) := by decide +kernel
theorem d111_67 : decode (cc 111) 67 = .ok (.iaload, 1) := by decide +kernel
theorem d111_68 : decode (cc 111) 68 = .ok (.if_icmp .ge 7, 3) := by decide +kernel
theorem d111_71 : decode (cc 111) 71 = .ok (.lconst 0, 1) := by decide +kernel
theorem d111_72 : decode (cc 111) 72 = .ok (.goto 4, 3) := by decide +kernel
theorem d111_75 : decode (cc 111) 75 = .ok (.lload_n 3, 1) := by decide +kernel
theorem d111_76 : decode (cc 111) 76 = .ok (.lastore, 1) := by decide +kernel
theorem d111_77 : decode (cc 111) 77 = .ok (.iinc 2 1, 3) := by decide +kernel
theorem d111_80 : decode (cc 111) 80 = .ok (.goto (-78), 3) := by decide +kernel
theorem d111_83 : decode (cc 111) 83 = .ok (.return_, 1) := by decide +kernel
theorem d112_0 : decode (cc 112) 0 = .ok (.aload_n 0, 1) := by decide +kernel
theorem d112_1 : decode (cc 112) 1 = .ok (.getfield 31, 3) := by decide +kernel
theorem d112_4 : decode (cc 112) 4 = .ok (.iload_n 1, 1) := by decide +kernel
theorem d112_5 : decode (cc 112) 5 = .ok (.iaload, 1) := by decide +kernel
theorem d112_6 : decode (cc 112) 6 = .ok (.i2l, 1) := by decide +kernel
theorem d112_7 : decode (cc 112) 7 = .ok (.aload_n 0, 1) := by decide +kernel
theorem d112_8 : decode (cc 112) 8 = .ok (.iconst 1, 1) := by decide +kernel
theorem d112_9 : decode (cc 112) 9 = .ok (.iload_n 1, 1) := by decide +kernel
theorem d112_10 : decode (cc 112) 10 = .ok (.iload_n 2, 1) := by decide +kernel
theorem d112_11 : decode (cc 112) 11 = .ok (.invokevirtual 127, 3) := by decide +kernel
theorem d112_14 : decode (cc 112) 14 = .ok (.ladd, 1) := by decide +kernel
theorem d112_15 : decode (cc 112) 15 = .ok (.aload_n 0, 1) := by decide +kernel
theorem d112_16 : decode (cc 112) 16 = .ok (.getfield 69, 3) := by decide +kernel
theorem d112_19 : decode (cc 112) 19 = .ok (.iload_n 1, 1) := by decide +kernel
theorem d112_20 : decode (cc 112) 20 = .ok (.iload_n 2, 1) := by decide +kernel
theorem d112_21 : decode (cc 112) 21 = .ok (.invokestatic 131, 3) := by decide +kernel
theorem d112_24 : decode (cc 112) 24 = .ok (.lsub, 1) := by decide +kernel
theorem d112_25 : decode (cc 112) 25 = .ok (.lreturn, 1) := by decide +kernel
theorem d113_0 : decode (cc 113) 0 = .ok (.lconst 0, 1) := by decide +kernel
theorem d113_1 : decode (cc 113) 1 = .ok (.lstore_n 3, 1) := by decide +kernel
theorem d113_2 : decode (cc 113) 2 = .ok (.iconst 0, 1) := by decide +kernel
theorem d113_3 : decode (cc 113) 3 = .ok (.istore 5, 2) := by decide +kernel
theorem d113_5 : decode (cc 113) 5 = .ok (.iload 5, 2) := by decide +kernel
theorem d113_7 : decode (cc 113) 7 = .ok (.iload_n 2, 1) := by decide +kernel
theorem d113_8 : decode (cc 113) 8 = .ok (.if_icmp .gt 21, 3) := by decide +kernel
theorem d113_11 : decode (cc 113) 11 = .ok (.lload_n 3, 1) := by decide +kernel
theorem d113_12 : decode (cc 113) 12 = .ok (.aload_n 0, 1) := by decide +kernel
theorem d113_13 : decode (cc 113) 13 = .ok (.bipush 12, 2) := by decide +kernel
theorem d113_15 : decode (cc 113) 15 = .ok (.iload_n 1, 1) := by decide +kernel
theorem d113_16 : decode (cc 113) 16 = .ok (.imul, 1) := by decide +kernel
theorem d113_17 : decode (cc 113) 17 = .ok (.iload 5, 2) := by decide +kernel
theorem d113_19 : decode (cc 113) 19 = .ok (.iadd, 1) := by decide +kernel
theorem d113_20 : decode (cc 113) 20 = .ok (.laload, 1) := by decide +kernel
theorem d113_21 : decode (cc 113) 21 = .ok (.ladd, 1) := by decide +kernel
theorem d113_22 : decode (cc 113) 22 = .ok (.lstore_n 3, 1) := by decide +kernel
theorem d113_23 : decode (cc 113) 23 = .ok (.iinc 5 1, 3) := by decide +kernel
theorem d113_26 : decode (cc 113) 26 = .ok (.goto (-21), 3) := by decide +kernel
theorem d113_29 : decode (cc 113) 29 = .ok (.lload_n 3, 1) := by decide +kernel
theorem d113_30 : decode (cc 113) 30 = .ok (.lreturn, 1) := by decide +kernel
theorem d114_0 : decode (cc 114) 0 = .ok (.aload_n 0, 1) := by decide +kernel
theorem d114_1 : decode (cc 114) 1 = .ok (.getfield 82, 3) := by decide +kernel
theorem d114_4 : decode (cc 114) 4 = .ok (.bipush 12, 2) := by decide +kernel
theorem d114_6 : decode (cc 114) 6 = .ok (.lconst 0, 1) := by decide +kernel
theorem d114_7 : decode (cc 114) 7 = .ok (.lastore, 1) := by decide +kernel
theorem d114_8 : decode (cc 114) 8 = .ok (.bipush 11, 2) := by decide +kernel
theorem d114_10 : decode (cc 114) 10 = .ok (.istore_n 2, 1) := by decide +kernel
theorem d114_11 : decode (cc 114) 11 = .ok (.iload_n 2, 1) := by decide +kernel
theorem d114_12 : decode (cc 114) 12 = .ok (.aload_n 0, 1) := by decide +kernel
theorem d114_13 : decode (cc 114) 13 = .ok (.getfield 16, 3) := by decide +kernel
theorem d114_16 : decode (cc 114) 16 = .ok (.iload_n 1, 1) := by decide +kernel
theorem d114_17 : decode (cc 114) 17 = .ok (.iaload, 1) := by decide +kernel
theorem d114_18 : decode (cc 114) 18 = .ok (.if_icmp .lt 65, 3) := by decide +kernel
theorem d114_21 : decode (cc 114) 21 = .ok (.aload_n 0, 1) := by decide +kernel
theorem d114_22 : decode (cc 114) 22 = .ok (.iload_n 1, 1) := by decide +kernel
theorem d114_23 : decode (cc 114) 23 = .ok (.iload_n 2, 1) := by decide +kernel
theorem d114_24 : decode (cc 114) 24 = .ok (.invokevirtual 153, 3) := by decide +kernel
theorem d114_27 : decode (cc 114) 27 = .ok (.istore_n 3, 1) := by decide +kernel
theorem d114_28 : decode (cc 114) 28 = .ok (.aload_n 0, 1) := by decide +kernel
theorem d114_29 : decode (cc 114) 29 = .ok (.getfield 82, 3) := by decide +kernel
theorem d114_32 : decode (cc 114) 32 = .ok (.iload_n 2, 1) := by decide +kernel
theorem d114_33 : decode (cc 114) 33 = .ok (.aload_n 0, 1) := by decide +kernel
theorem d114_34 : decode (cc 114) 34 = .ok (.iload_n 2, 1) := by decide +kernel
theorem d114_35 : decode (cc 114) 35 = .ok (.invokevirtual 146, 3) := by decide +kernel
theorem d114_38 : decode (cc 114) 38 = .ok (.aload_n 0, 1) := by decide +kernel
theorem d114_39 : decode (cc 114) 39 = .ok (.iload_n 2, 1) := by decide +kernel
theorem d114_40 : decode (cc 114) 40 = .ok (.iconst 1, 1) := by decide +kernel
theorem d114_41 : decode (cc 114) 41 = .ok (.isub, 1) := by decide +kernel
theorem d114_42 : decode (cc 114) 42 = .ok (.invokevirtual 146, 3) := by decide +kernel
theorem d114_45 : decode (cc 114) 45 = .ok (.lcmp, 1) := by decide +kernel
theorem d114_46 : decode (cc 114) 46 = .ok (.ifCond .ne 14, 3) := by decide +kernel
theorem d114_49 : decode (cc 114) 49 = .ok (.aload_n 0, 1) := by decide +kernel
theorem d114_50 : decode (cc 114) 50 = .ok (.getfield 82, 3) := by decide +kernel
theorem d114_53 : decode (cc 114) 53 = .ok (.iload_n 2, 1) := by decide +kernel
theorem d114_54 : decode (cc 114) 54 = .ok (.iconst 1, 1) := by decide +kernel
theorem d114_55 : decode (cc 114) 55 = .ok (.iadd, 1) := by decide +kernel
theorem d114_56 : decode (cc 114) 56 = .ok (.laload, 1) := by decide +kernel
theorem d114_57 : decode (cc 114) 57 = .ok (.goto 19, 3) := by decide +kernel
theorem d114_60 : decode (cc 114) 60 = .ok (.aload_n 0, 1) := by decide +kernel
theorem d114_61 : decode (cc 114) 61 = .ok (.iload_n 1, 1) := by decide +kernel
theorem d114_62 : decode (cc 114) 62 = .ok (.iload_n 2, 1) := by decide +kernel
theorem d114_63 : decode (cc 114) 63 = .ok (.iload_n 3, 1) := by decide +kernel
theorem d114_64 : decode (cc 114) 64 = .ok (.invokevirtual 150, 3) := by decide +kernel
theorem d114_67 : decode (cc 114) 67 = .ok (.aload_n 0, 1) := by decide +kernel
theorem d114_68 : decode (cc 114) 68 = .ok (.getfield 82, 3) := by decide +kernel
theorem d114_71 : decode (cc 114) 71 = .ok (.iload_n 3, 1) := by decide +kernel
theorem d114_72 : decode (cc 114) 72 = .ok (.iconst 1, 1) := by decide +kernel
theorem d114_73 : decode (cc 114) 73 = .ok (.iadd, 1) := by decide +kernel
theorem d114_74 : decode (cc 114) 74 = .ok (.laload, 1) := by decide +kernel
theorem d114_75 : decode (cc 114) 75 = .ok (.ladd, 1) := by decide +kernel
theorem d114_76 : decode (cc 114) 76 = .ok (.lastore, 1) := by decide +kernel
theorem d114_77 : decode (cc 114) 77 = .ok (.iinc 2 (-1), 3) := by decide +kernel
theorem d114_80 : decode (cc 114) 80 = .ok (.goto (-69), 3) := by decide +kernel
theorem d114_83 : decode (cc 114) 83 = .ok (.return_, 1) := by decide +kernel
theorem d115_0 : decode (cc 115) 0 = .ok (.iload_n 2, 1) := by decide +kernel
theorem d115_1 : decode (cc 115) 1 = .ok (.istore_n 3, 1) := by decide +kernel
theorem d115_2 : decode (cc 115) 2 = .ok (.iload_n 2, 1) := by decide +kernel
theorem d115_3 : decode (cc 115) 3 = .ok (.istore 4, 2) := by decide +kernel
theorem d115_5 : decode (cc 115) 5 = .ok (.iload 4, 2) := by decide +kernel
theorem d115_7 : decode (cc 115) 7 = .ok (.bipush 12, 2) := by decide +kernel
theorem d115_9 : decode (cc 115) 9 = .ok (.if_icmp .ge 54, 3) := by decide +kernel
theorem d115_12 : decode (cc 115) 12 = .ok (.aload_n 0, 1) := by decide +kernel
theorem d115_13 : decode (cc 115) 13 = .ok (.iload_n 1, 1) := by decide +kernel
theorem d115_14 : decode (cc 115) 14 = .ok (.iload_n 2, 1) := by decide +kernel
theorem d115_15 : decode (cc 115) 15 = .ok (.iload 4, 2) := by decide +kernel
theorem d115_17 : decode (cc 115) 17 = .ok (.invokevirtual 150, 3) := by decide +kernel
theorem d115_20 : decode (cc 115) 20 = .ok (.aload_n 0, 1) := by decide +kernel
theorem d115_21 : decode (cc 115) 21 = .ok (.getfield 82, 3) := by decide +kernel
theorem d115_24 : decode (cc 115) 24 = .ok (.iload 4, 2) := by decide +kernel
theorem d115_26 : decode (cc 115) 26 = .ok (.iconst 1, 1) := by decide +kernel
theorem d115_27 : decode (cc 115) 27 = .ok (.iadd, 1) := by decide +kernel
theorem d115_28 : decode (cc 115) 28 = .ok (.laload, 1) := by decide +kernel
theorem d115_29 : decode (cc 115) 29 = .ok (.ladd, 1) := by decide +kernel
theorem d115_30 : decode (cc 115) 30 = .ok (.aload_n 0, 1) := by decide +kernel
theorem d115_31 : decode (cc 115) 31 = .ok (.iload_n 1, 1) := by decide +kernel
theorem d115_32 : decode (cc 115) 32 = .ok (.iload_n 2, 1) := by decide +kernel
theorem d115_33 : decode (cc 115) 33 = .ok (.iload_n 3, 1) := by decide +kernel
theorem d115_34 : decode (cc 115) 34 = .ok (.invokevirtual 150, 3) := by decide +kernel
theorem d115_37 : decode (cc 115) 37 = .ok (.aload_n 0, 1) := by decide +kernel
theorem d115_38 : decode (cc 115) 38 = .ok (.getfield 82, 3) := by decide +kernel
theorem d115_41 : decode (cc 115) 41 = .ok (.iload_n 3, 1) := by decide +kernel
theorem d115_42 : decode (cc 115) 42 = .ok (.iconst 1, 1) := by decide +kernel
theorem d115_43 : decode (cc 115) 43 = .ok (.iadd, 1) := by decide +kernel
theorem d115_44 : decode (cc 115) 44 = .ok (.laload, 1) := by decide +kernel
theorem d115_45 : decode (cc 115) 45 = .ok (.ladd, 1) := by decide +kernel
theorem d115_46 : decode (cc 115) 46 = .ok (.lcmp, 1) := by decide +kernel
theorem d115_47 : decode (cc 115) 47 = .ok (.ifCond .ge 8, 3) := by decide +kernel
theorem d115_50 : decode (cc 115) 50 = .ok (.iload 4, 2) := by decide +kernel
theorem d115_52 : decode (cc 115) 52 = .ok (.goto 4, 3) := by decide +kernel
theorem d115_55 : decode (cc 115) 55 = .ok (.iload_n 3, 1) := by decide +kernel
theorem d115_56 : decode (cc 115) 56 = .ok (.istore_n 3, 1) := by decide +kernel
theorem d115_57 : decode (cc 115) 57 = .ok (.iinc 4 1, 3) := by decide +kernel
theorem d115_60 : decode (cc 115) 60 = .ok (.goto (-55), 3) := by decide +kernel
theorem d115_63 : decode (cc 115) 63 = .ok (.iload_n 3, 1) := by decide +kernel
theorem d115_64 : decode (cc 115) 64 = .ok (.ireturn, 1) := by decide +kernel
theorem d116_0 : decode (cc 116) 0 = .ok (.lconst 0, 1) := by decide +kernel
theorem d116_1 : decode (cc 116) 1 = .ok (.lstore 4, 2) := by decide +kernel
theorem d116_3 : decode (cc 116) 3 = .ok (.iload_n 2, 1) := by decide +kernel
theorem d116_4 : decode (cc 116) 4 = .ok (.iconst 1, 1) := by decide +kernel
theorem d116_5 : decode (cc 116) 5 = .ok (.iadd, 1) := by decide +kernel
theorem d116_6 : decode (cc 116) 6 = .ok (.istore 6, 2) := by decide +kernel
theorem d116_8 : decode (cc 116) 8 = .ok (.iload 6, 2) := by decide +kernel
theorem d116_10 : decode (cc 116) 10 = .ok (.iload_n 3, 1) := by decide +kernel
theorem d116_11 : decode (cc 116) 11 = .ok (.if_icmp .gt 35, 3) := by decide +kernel
theorem d116_14 : decode (cc 116) 14 = .ok (.lload 4, 2) := by decide +kernel
theorem d116_16 : decode (cc 116) 16 = .ok (.iload 6, 2) := by decide +kernel
theorem d116_18 : decode (cc 116) 18 = .ok (.iload_n 2, 1) := by decide +kernel
theorem d116_19 : decode (cc 116) 19 = .ok (.isub, 1) := by decide +kernel
theorem d116_20 : decode (cc 116) 20 = .ok (.i2l, 1) := by decide +kernel
theorem d116_21 : decode (cc 116) 21 = .ok (.aload_n 0, 1) := by decide +kernel
theorem d116_22 : decode (cc 116) 22 = .ok (.iload 6, 2) := by decide +kernel
theorem d116_24 : decode (cc 116) 24 = .ok (.invokevirtual 146, 3) := by decide +kernel
theorem d116_27 : decode (cc 116) 27 = .ok (.aload_n 0, 1) := by decide +kernel
theorem d116_28 : decode (cc 116) 28 = .ok (.iload 6, 2) := by decide +kernel
theorem d116_30 : decode (cc 116) 30 = .ok (.iconst 1, 1) := by decide +kernel
theorem d116_31 : decode (cc 116) 31 = .ok (.isub, 1) := by decide +kernel
theorem d116_32 : decode (cc 116) 32 = .ok (.invokevirtual 146, 3) := by decide +kernel
theorem d116_35 : decode (cc 116) 35 = .ok (.lsub, 1) := by decide +kernel
theorem d116_36 : decode (cc 116) 36 = .ok (.lmul, 1) := by decide +kernel
theorem d116_37 : decode (cc 116) 37 = .ok (.ladd, 1) := by decide +kernel
theorem d116_38 : decode (cc 116) 38 = .ok (.lstore 4, 2) := by decide +kernel
theorem d116_40 : decode (cc 116) 40 = .ok (.iinc 6 1, 3) := by decide +kernel
theorem d116_43 : decode (cc 116) 43 = .ok (.goto (-35), 3) := by decide +kernel
theorem d116_46 : decode (cc 116) 46 = .ok (.aload_n 0, 1) := by decide +kernel
theorem d116_47 : decode (cc 116) 47 = .ok (.getfield 25, 3) := by decide +kernel
theorem d116_50 : decode (cc 116) 50 = .ok (.iload_n 1, 1) := by decide +kernel
theorem d116_51 : decode (cc 116) 51 = .ok (.iaload, 1) := by decide +kernel
theorem d116_52 : decode (cc 116) 52 = .ok (.i2l, 1) := by decide +kernel
theorem d116_53 : decode (cc 116) 53 = .ok (.aload_n 0, 1) := by decide +kernel
theorem d116_54 : decode (cc 116) 54 = .ok (.getfield 28, 3) := by decide +kernel
theorem d116_57 : decode (cc 116) 57 = .ok (.iload_n 1, 1) := by decide +kernel
theorem d116_58 : decode (cc 116) 58 = .ok (.iaload, 1) := by decide +kernel
theorem d116_59 : decode (cc 116) 59 = .ok (.i2l, 1) := by decide +kernel
theorem d116_60 : decode (cc 116) 60 = .ok (.lload 4, 2) := by decide +kernel
theorem d116_62 : decode (cc 116) 62 = .ok (.lmul, 1) := by decide +kernel
theorem d116_63 : decode (cc 116) 63 = .ok (.ladd, 1) := by decide +kernel
theorem d116_64 : decode (cc 116) 64 = .ok (.lreturn, 1) := by decide +kernel
theorem d117_0 : decode (cc 117) 0 = .ok (.iload_n 1, 1) := by decide +kernel
theorem d117_1 : decode (cc 117) 1 = .ok (.ifCond .ge 7, 3) := by decide +kernel
theorem d117_4 : decode (cc 117) 4 = .ok (.lconst 0, 1) := by decide +kernel
theorem d117_5 : decode (cc 117) 5 = .ok (.goto 9, 3) := by decide +kernel
theorem d117_8 : decode (cc 117) 8 = .ok (.aload_n 0, 1) := by decide +kernel
theorem d117_9 : decode (cc 117) 9 = .ok (.getfield 79, 3) := by decide +kernel
theorem d117_12 : decode (cc 117) 12 = .ok (.iload_n 1, 1) := by decide +kernel
theorem d117_13 : decode (cc 117) 13 = .ok (.laload, 1) := by decide +kernel
theorem d117_14 : decode (cc 117) 14 = .ok (.lreturn, 1) := by decide +kernel
theorem d118_0 : decode (cc 118) 0 = .ok (.aload_n 0, 1) := by decide +kernel
theorem d118_1 : decode (cc 118) 1 = .ok (.getfield 79, 3) := by decide +kernel
theorem d118_4 : decode (cc 118) 4 = .ok (.iload_n 2, 1) := by decide +kernel
theorem d118_5 : decode (cc 118) 5 = .ok (.laload, 1) := by decide +kernel
theorem d118_6 : decode (cc 118) 6 = .ok (.lload_n 3, 1) := by decide +kernel
theorem d118_7 : decode (cc 118) 7 = .ok (.lsub, 1) := by decide +kernel
theorem d118_8 : decode (cc 118) 8 = .ok (.lstore 5, 2) := by decide +kernel
theorem d118_10 : decode (cc 118) 10 = .ok (.aload_n 0, 1) := by decide +kernel
theorem d118_11 : decode (cc 118) 11 = .ok (.getfield 7, 3) := by decide +kernel
theorem d118_14 : decode (cc 118) 14 = .ok (.iload_n 1, 1) := by decide +kernel
theorem d118_15 : decode (cc 118) 15 = .ok (.iaload, 1) := by decide +kernel
theorem d118_16 : decode (cc 118) 16 = .ok (.tableswitch 98 0 2 #[28, 31, 60], 28) := by decide +kernel
theorem d118_44 : decode (cc 118) 44 = .ok (.lload 5, 2) := by decide +kernel
theorem d118_46 : decode (cc 118) 46 = .ok (.lreturn, 1) := by decide +kernel
theorem d118_47 : decode (cc 118) 47 = .ok (.lload 5, 2) := by decide +kernel
theorem d118_49 : decode (cc 118) 49 = .ok (.aload_n 0, 1) := by decide +kernel
theorem d118_50 : decode (cc 118) 50 = .ok (.getfield 13, 3) := by decide +kernel
theorem d118_53 : decode (cc 118) 53 = .ok (.iload_n 1, 1) := by decide +kernel
theorem d118_54 : decode (cc 118) 54 = .ok (.iaload, 1) := by decide +kernel
theorem d118_55 : decode (cc 118) 55 = .ok (.i2l, 1) := by decide +kernel
theorem d118_56 : decode (cc 118) 56 = .ok (.ladd, 1) := by decide +kernel
theorem d118_57 : decode (cc 118) 57 = .ok (.lconst 1, 1) := by decide +kernel
theorem d118_58 : decode (cc 118) 58 = .ok (.lsub, 1) := by decide +kernel
theorem d118_59 : decode (cc 118) 59 = .ok (.aload_n 0, 1) := by decide +kernel
theorem d118_60 : decode (cc 118) 60 = .ok (.getfield 13, 3) := by decide +kernel
theorem d118_63 : decode (cc 118) 63 = .ok (.iload_n 1, 1) := by decide +kernel
theorem d118_64 : decode (cc 118) 64 = .ok (.iaload, 1) := by decide +kernel
theorem d118_65 : decode (cc 118) 65 = .ok (.i2l, 1) := by decide +kernel
theorem d118_66 : decode (cc 118) 66 = .ok (.ldiv, 1) := by decide +kernel
theorem d118_67 : decode (cc 118) 67 = .ok (.aload_n 0, 1) := by decide +kernel
theorem d118_68 : decode (cc 118) 68 = .ok (.getfield 13, 3) := by decide +kernel
theorem d118_71 : decode (cc 118) 71 = .ok (.iload_n 1, 1) := by decide +kernel
theorem d118_72 : decode (cc 118) 72 = .ok (.iaload, 1) := by decide +kernel
theorem d118_73 : decode (cc 118) 73 = .ok (.i2l, 1) := by decide +kernel
theorem d118_74 : decode (cc 118) 74 = .ok (.lmul, 1) := by decide +kernel
theorem d118_75 : decode (cc 118) 75 = .ok (.lreturn, 1) := by decide +kernel
theorem d118_76 : decode (cc 118) 76 = .ok (.aload_n 0, 1) := by decide +kernel
theorem d118_77 : decode (cc 118) 77 = .ok (.getfield 79, 3) := by decide +kernel
theorem d118_80 : decode (cc 118) 80 = .ok (.iload_n 2, 1) := by decide +kernel
theorem d118_81 : decode (cc 118) 81 = .ok (.aload_n 0, 1) := by decide +kernel
theorem d118_82 : decode (cc 118) 82 = .ok (.getfield 13, 3) := by decide +kernel
theorem d118_85 : decode (cc 118) 85 = .ok (.iload_n 1, 1) := by decide +kernel
theorem d118_86 : decode (cc 118) 86 = .ok (.iaload, 1) := by decide +kernel
theorem d118_87 : decode (cc 118) 87 = .ok (.iadd, 1) := by decide +kernel
theorem d118_88 : decode (cc 118) 88 = .ok (.iconst 1, 1) := by decide +kernel
theorem d118_89 : decode (cc 118) 89 = .ok (.isub, 1) := by decide +kernel
theorem d118_90 : decode (cc 118) 90 = .ok (.bipush 12, 2) := by decide +kernel
theorem d118_92 : decode (cc 118) 92 = .ok (.if_icmp .ge 16, 3) := by decide +kernel
theorem d118_95 : decode (cc 118) 95 = .ok (.iload_n 2, 1) := by decide +kernel
theorem d118_96 : decode (cc 118) 96 = .ok (.aload_n 0, 1) := by decide +kernel
theorem d118_97 : decode (cc 118) 97 = .ok (.getfield 13, 3) := by decide +kernel
theorem d118_100 : decode (cc 118) 100 = .ok (.iload_n 1, 1) := by decide +kernel
theorem d118_101 : decode (cc 118) 101 = .ok (.iaload, 1) := by decide +kernel
theorem d118_102 : decode (cc 118) 102 = .ok (.iadd, 1) := by decide +kernel
theorem d118_103 : decode (cc 118) 103 = .ok (.iconst 1, 1) := by decide +kernel
theorem d118_104 : decode (cc 118) 104 = .ok (.isub, 1) := by decide +kernel
theorem d118_105 : decode (cc 118) 105 = .ok (.goto 5, 3) := by decide +kernel
theorem d118_108 : decode (cc 118) 108 = .ok (.bipush 11, 2) := by decide +kernel
theorem d118_110 : decode (cc 118) 110 = .ok (.laload, 1) := by decide +kernel
theorem d118_111 : decode (cc 118) 111 = .ok (.lload_n 3, 1) := by decide +kernel
theorem d118_112 : decode (cc 118) 112 = .ok (.lsub, 1) := by decide +kernel
theorem d118_113 : decode (cc 118) 113 = .ok (.lreturn, 1) := by decide +kernel
theorem d118_114 : decode (cc 118) 114 = .ok (.aload_n 0, 1) := by decide +kernel
theorem d118_115 : decode (cc 118) 115 = .ok (.getfield 79, 3) := by decide +kernel
theorem d118_118 : decode (cc 118) 118 = .ok (.aload_n 0, 1) := by decide +kernel
theorem d118_119 : decode (cc 118) 119 = .ok (.iload_n 1, 1) := by decide +kernel
theorem d118_120 : decode (cc 118) 120 = .ok (.iload_n 2, 1) := by decide +kernel
theorem d118_121 : decode (cc 118) 121 = .ok (.invokevirtual 153, 3) := by decide +kernel
theorem d118_124 : decode (cc 118) 124 = .ok (.laload, 1) := by decide +kernel
theorem d118_125 : decode (cc 118) 125 = .ok (.lload_n 3, 1) := by decide +kernel
theorem d118_126 : decode (cc 118) 126 = .ok (.lsub, 1) := by decide +kernel
theorem d118_127 : decode (cc 118) 127 = .ok (.lreturn, 1) := by decide +kernel
theorem d119_0 : decode (cc 119) 0 = .ok (.aload_n 0, 1) := by decide +kernel
theorem d119_1 : decode (cc 119) 1 = .ok (.iload_n 1, 1) := by decide +kernel
theorem d119_2 : decode (cc 119) 2 = .ok (.invokestatic 93, 3) := by decide +kernel
theorem d119_5 : decode (cc 119) 5 = .ok (.ifCond .eq 7, 3) := by decide +kernel
theorem d119_8 : decode (cc 119) 8 = .ok (.iconst 0, 1) := by decide +kernel
theorem d119_9 : decode (cc 119) 9 = .ok (.goto 4, 3) := by decide +kernel
theorem d119_12 : decode (cc 119) 12 = .ok (.iconst 1, 1) := by decide +kernel
theorem d119_13 : decode (cc 119) 13 = .ok (.invokevirtual 97, 3) := by decide +kernel
theorem d119_16 : decode (cc 119) 16 = .ok (.ifCond .eq 7, 3) := by decide +kernel
theorem d119_19 : decode (cc 119) 19 = .ok (.iconst 0, 1) := by decide +kernel
theorem d119_20 : decode (cc 119) 20 = .ok (.goto 8, 3) := by decide +kernel
theorem d119_23 : decode (cc 119) 23 = .ok (.aload_n 0, 1) := by decide +kernel
theorem d119_24 : decode (cc 119) 24 = .ok (.iload_n 1, 1) := by decide +kernel
theorem d119_25 : decode (cc 119) 25 = .ok (.invokevirtual 105, 3) := by decide +kernel
theorem d119_28 : decode (cc 119) 28 = .ok (.ireturn, 1) := by decide +kernel
theorem d120_0 : decode (cc 120) 0 = .ok (.aload_n 0, 1) := by decide +kernel
theorem d120_1 : decode (cc 120) 1 = .ok (.iload_n 1, 1) := by decide +kernel
theorem d120_2 : decode (cc 120) 2 = .ok (.iload_n 2, 1) := by decide +kernel
theorem d120_3 : decode (cc 120) 3 = .ok (.invokevirtual 179, 3) := by decide +kernel
theorem d120_6 : decode (cc 120) 6 = .ok (.ifCond .eq 7, 3) := by decide +kernel
theorem d120_9 : decode (cc 120) 9 = .ok (.lconst 0, 1) := by decide +kernel
theorem d120_10 : decode (cc 120) 10 = .ok (.goto 14, 3) := by decide +kernel
theorem d120_13 : decode (cc 120) 13 = .ok (.aload_n 0, 1) := by decide +kernel
theorem d120_14 : decode (cc 120) 14 = .ok (.getfield 69, 3) := by decide +kernel
theorem d120_17 : decode (cc 120) 17 = .ok (.bipush 12, 2) := by decide +kernel
theorem d120_19 : decode (cc 120) 19 = .ok (.iload_n 1, 1) := by decide +kernel
theorem d120_20 : decode (cc 120) 20 = .ok (.imul, 1) := by decide +kernel
theorem d120_21 : decode (cc 120) 21 = .ok (.iload_n 2, 1) := by decide +kernel
theorem d120_22 : decode (cc 120) 22 = .ok (.iadd, 1) := by decide +kernel
theorem d120_23 : decode (cc 120) 23 = .ok (.laload, 1) := by decide +kernel
theorem d120_24 : decode (cc 120) 24 = .ok (.lreturn, 1) := by decide +kernel
theorem d121_0 : decode (cc 121) 0 = .ok (.aload_n 0, 1) := by decide +kernel
theorem d121_1 : decode (cc 121) 1 = .ok (.iload_n 1, 1) := by decide +kernel
theorem d121_2 : decode (cc 121) 2 = .ok (.invokestatic 93, 3) := by decide +kernel
theorem d121_5 : decode (cc 121) 5 = .ok (.ifCond .eq 10, 3) := by decide +kernel
theorem d121_8 : decode (cc 121) 8 = .ok (.iload_n 2, 1) := by decide +kernel
theorem d121_9 : decode (cc 121) 9 = .ok (.invokestatic 93, 3) := by decide +kernel
theorem d121_12 : decode (cc 121) 12 = .ok (.ifCond .ne 7, 3) := by decide +kernel
theorem d121_15 : decode (cc 121) 15 = .ok (.iconst 1, 1) := by decide +kernel
theorem d121_16 : decode (cc 121) 16 = .ok (.goto 15, 3) := by decide +kernel
theorem d121_19 : decode (cc 121) 19 = .ok (.aload_n 0, 1) := by decide +kernel
theorem d121_20 : decode (cc 121) 20 = .ok (.getfield 61, 3) := by decide +kernel
theorem d121_23 : decode (cc 121) 23 = .ok (.ifCond .eq 7, 3) := by decide +kernel
theorem d121_26 : decode (cc 121) 26 = .ok (.iconst 2, 1) := by decide +kernel
theorem d121_27 : decode (cc 121) 27 = .ok (.goto 4, 3) := by decide +kernel
theorem d121_30 : decode (cc 121) 30 = .ok (.iconst 0, 1) := by decide +kernel
theorem d121_31 : decode (cc 121) 31 = .ok (.invokevirtual 97, 3) := by decide +kernel
theorem d121_34 : decode (cc 121) 34 = .ok (.ireturn, 1) := by decide +kernel
theorem d122_0 : decode (cc 122) 0 = .ok (.aload_n 0, 1) := by decide +kernel
theorem d122_1 : decode (cc 122) 1 = .ok (.iload_n 1, 1) := by decide +kernel
theorem d122_2 : decode (cc 122) 2 = .ok (.iload_n 2, 1) := by decide +kernel
theorem d122_3 : decode (cc 122) 3 = .ok (.invokevirtual 179, 3) := by decide +kernel
theorem d122_6 : decode (cc 122) 6 = .ok (.ifCond .eq 7, 3) := by decide +kernel
theorem d122_9 : decode (cc 122) 9 = .ok (.lconst 0, 1) := by decide +kernel
theorem d122_10 : decode (cc 122) 10 = .ok (.goto 14, 3) := by decide +kernel
theorem d122_13 : decode (cc 122) 13 = .ok (.aload_n 0, 1) := by decide +kernel
theorem d122_14 : decode (cc 122) 14 = .ok (.getfield 73, 3) := by decide +kernel
theorem d122_17 : decode (cc 122) 17 = .ok (.bipush 12, 2) := by decide +kernel
theorem d122_19 : decode (cc 122) 19 = .ok (.iload_n 1, 1) := by decide +kernel
theorem d122_20 : decode (cc 122) 20 = .ok (.imul, 1) := by decide +kernel
theorem d122_21 : decode (cc 122) 21 = .ok (.iload_n 2, 1) := by decide +kernel
theorem d122_22 : decode (cc 122) 22 = .ok (.iadd, 1) := by decide +kernel
theorem d122_23 : decode (cc 122) 23 = .ok (.laload, 1) := by decide +kernel
theorem d122_24 : decode (cc 122) 24 = .ok (.lreturn, 1) := by decide +kernel
theorem d123_0 : decode (cc 123) 0 = .ok (.aload_n 0, 1) := by decide +kernel
theorem d123_1 : decode (cc 123) 1 = .ok (.iload_n 1, 1) := by decide +kernel
theorem d123_2 : decode (cc 123) 2 = .ok (.iload_n 2, 1) := by decide +kernel
theorem d123_3 : decode (cc 123) 3 = .ok (.invokevirtual 179, 3) := by decide +kernel
theorem d123_6 : decode (cc 123) 6 = .ok (.ifCond .eq 7, 3) := by decide +kernel
theorem d123_9 : decode (cc 123) 9 = .ok (.lconst 0, 1) := by decide +kernel
theorem d123_10 : decode (cc 123) 10 = .ok (.goto 19, 3) := by decide +kernel
theorem d123_13 : decode (cc 123) 13 = .ok (.aload_n 0, 1) := by decide +kernel
theorem d123_14 : decode (cc 123) 14 = .ok (.iload_n 1, 1) := by decide +kernel
theorem d123_15 : decode (cc 123) 15 = .ok (.iload_n 2, 1) := by decide +kernel
theorem d123_16 : decode (cc 123) 16 = .ok (.invokevirtual 143, 3) := by decide +kernel
theorem d123_19 : decode (cc 123) 19 = .ok (.aload_n 0, 1) := by decide +kernel
theorem d123_20 : decode (cc 123) 20 = .ok (.getfield 73, 3) := by decide +kernel
theorem d123_23 : decode (cc 123) 23 = .ok (.iload_n 1, 1) := by decide +kernel
theorem d123_24 : decode (cc 123) 24 = .ok (.iload_n 2, 1) := by decide +kernel
theorem d123_25 : decode (cc 123) 25 = .ok (.invokestatic 131, 3) := by decide +kernel
theorem d123_28 : decode (cc 123) 28 = .ok (.ladd, 1) := by decide +kernel
theorem d123_29 : decode (cc 123) 29 = .ok (.lreturn, 1) := by decide +kernel
theorem d124_0 : decode (cc 124) 0 = .ok (.iload_n 1, 1) := by decide +kernel
theorem d124_1 : decode (cc 124) 1 = .ok (.iconst 0, 1) := by decide +kernel
theorem d124_2 : decode (cc 124) 2 = .ok (.aload_n 0, 1) := by decide +kernel
theorem d124_3 : decode (cc 124) 3 = .ok (.getfield 49, 3) := by decide +kernel
theorem d124_6 : decode (cc 124) 6 = .ok (.iconst 0, 1) := by decide +kernel
theorem d124_7 : decode (cc 124) 7 = .ok (.iaload, 1) := by decide +kernel
theorem d124_8 : decode (cc 124) 8 = .ok (.iconst 1, 1) := by decide +kernel
theorem d124_9 : decode (cc 124) 9 = .ok (.isub, 1) := by decide +kernel
theorem d124_10 : decode (cc 124) 10 = .ok (.invokestatic 89, 3) := by decide +kernel
theorem d124_13 : decode (cc 124) 13 = .ok (.istore 4, 2) := by decide +kernel
theorem d124_15 : decode (cc 124) 15 = .ok (.iload_n 2, 1) := by decide +kernel
theorem d124_16 : decode (cc 124) 16 = .ok (.ifCond .eq 34, 3) := by decide +kernel
theorem d124_19 : decode (cc 124) 19 = .ok (.iload_n 2, 1) := by decide +kernel
theorem d124_20 : decode (cc 124) 20 = .ok (.iconst 1, 1) := by decide +kernel
theorem d124_21 : decode (cc 124) 21 = .ok (.if_icmp .ne 22, 3) := by decide +kernel
theorem d124_24 : decode (cc 124) 24 = .ok (.iload_n 3, 1) := by decide +kernel
theorem d124_25 : decode (cc 124) 25 = .ok (.iconst 0, 1) := by decide +kernel
theorem d124_26 : decode (cc 124) 26 = .ok (.aload_n 0, 1) := by decide +kernel
theorem d124_27 : decode (cc 124) 27 = .ok (.getfield 49, 3) := by decide +kernel
theorem d124_30 : decode (cc 124) 30 = .ok (.iconst 1, 1) := by decide +kernel
theorem d124_31 : decode (cc 124) 31 = .ok (.iaload, 1) := by decide +kernel
theorem d124_32 : decode (cc 124) 32 = .ok (.iconst 1, 1) := by decide +kernel
theorem d124_33 : decode (cc 124) 33 = .ok (.isub, 1) := by decide +kernel
theorem d124_34 : decode (cc 124) 34 = .ok (.invokestatic 89, 3) := by decide +kernel
theorem d124_37 : decode (cc 124) 37 = .ok (.ifCond .eq 17, 3) := by decide +kernel
theorem d124_40 : decode (cc 124) 40 = .ok (.goto 10, 3) := by decide +kernel
theorem d124_43 : decode (cc 124) 43 = .ok (.iload_n 3, 1) := by decide +kernel
theorem d124_44 : decode (cc 124) 44 = .ok (.invokestatic 93, 3) := by decide +kernel
theorem d124_47 : decode (cc 124) 47 = .ok (.ifCond .eq 7, 3) := by decide +kernel
theorem d124_50 : decode (cc 124) 50 = .ok (.iconst 1, 1) := by decide +kernel
theorem d124_51 : decode (cc 124) 51 = .ok (.goto 4, 3) := by decide +kernel
theorem d124_54 : decode (cc 124) 54 = .ok (.iconst 0, 1) := by decide +kernel
theorem d124_55 : decode (cc 124) 55 = .ok (.istore 5, 2) := by decide +kernel
theorem d124_57 : decode (cc 124) 57 = .ok (.aload_n 0, 1) := by decide +kernel
theorem d124_58 : decode (cc 124) 58 = .ok (.iload 4, 2) := by decide +kernel
theorem d124_60 : decode (cc 124) 60 = .ok (.ifCond .ne 7, 3) := by decide +kernel
theorem d124_63 : decode (cc 124) 63 = .ok (.iconst 1, 1) := by decide +kernel
theorem d124_64 : decode (cc 124) 64 = .ok (.goto 37, 3) := by decide +kernel
theorem d124_67 : decode (cc 124) 67 = .ok (.iload_n 2, 1) := by decide +kernel
theorem d124_68 : decode (cc 124) 68 = .ok (.iconst 0, 1) := by decide +kernel
theorem d124_69 : decode (cc 124) 69 = .ok (.iconst 2, 1) := by decide +kernel
theorem d124_70 : decode (cc 124) 70 = .ok (.invokestatic 89, 3) := by decide +kernel
theorem d124_73 : decode (cc 124) 73 = .ok (.ifCond .ne 7, 3) := by decide +kernel
theorem d124_76 : decode (cc 124) 76 = .ok (.iconst 2, 1) := by decide +kernel
theorem d124_77 : decode (cc 124) 77 = .ok (.goto 24, 3) := by decide +kernel
theorem d124_80 : decode (cc 124) 80 = .ok (.iload 5, 2) := by decide +kernel
theorem d124_82 : decode (cc 124) 82 = .ok (.ifCond .ne 7, 3) := by decide +kernel
theorem d124_85 : decode (cc 124) 85 = .ok (.iconst 1, 1) := by decide +kernel
theorem d124_86 : decode (cc 124) 86 = .ok (.goto 15, 3) := by decide +kernel
theorem d124_89 : decode (cc 124) 89 = .ok (.aload_n 0, 1) := by decide +kernel
theorem d124_90 : decode (cc 124) 90 = .ok (.getfield 61, 3) := by decide +kernel
theorem d124_93 : decode (cc 124) 93 = .ok (.ifCond .eq 7, 3) := by decide +kernel
theorem d124_96 : decode (cc 124) 96 = .ok (.iconst 3, 1) := by decide +kernel
theorem d124_97 : decode (cc 124) 97 = .ok (.goto 4, 3) := by decide +kernel
theorem d124_100 : decode (cc 124) 100 = .ok (.iconst 0, 1) := by decide +kernel
theorem d124_101 : decode (cc 124) 101 = .ok (.invokevirtual 97, 3) := by decide +kernel
theorem d124_104 : decode (cc 124) 104 = .ok (.ifCond .eq 5, 3) := by decide +kernel
theorem d124_107 : decode (cc 124) 107 = .ok (.lconst 0, 1) := by decide +kernel
theorem d124_108 : decode (cc 124) 108 = .ok (.lreturn, 1) := by decide +kernel
theorem d124_109 : decode (cc 124) 109 = .ok (.aload_n 0, 1) := by decide +kernel
theorem d124_110 : decode (cc 124) 110 = .ok (.getfield 52, 3) := by decide +kernel
theorem d124_113 : decode (cc 124) 113 = .ok (.iload_n 1, 1) := by decide +kernel
theorem d124_114 : decode (cc 124) 114 = .ok (.iaload, 1) := by decide +kernel
theorem d124_115 : decode (cc 124) 115 = .ok (.istore 6, 2) := by decide +kernel
theorem d124_117 : decode (cc 124) 117 = .ok (.iload_n 2, 1) := by decide +kernel
theorem d124_118 : decode (cc 124) 118 = .ok (.iconst 1, 1) := by decide +kernel
theorem d124_119 : decode (cc 124) 119 = .ok (.if_icmp .ne 19, 3) := by decide +kernel
theorem d124_122 : decode (cc 124) 122 = .ok (.aload_n 0, 1) := by decide +kernel
theorem d124_123 : decode (cc 124) 123 = .ok (.getfield 52, 3) := by decide +kernel
theorem d124_126 : decode (cc 124) 126 = .ok (.bipush 24, 2) := by decide +kernel
theorem d124_128 : decode (cc 124) 128 = .ok (.iload_n 3, 1) := by decide +kernel
theorem d124_129 : decode (cc 124) 129 = .ok (.iadd, 1) := by decide +kernel
theorem d124_130 : decode (cc 124) 130 = .ok (.iaload, 1) := by decide +kernel
theorem d124_131 : decode (cc 124) 131 = .ok (.iload 6, 2) := by decide +kernel
theorem d124_133 : decode (cc 124) 133 = .ok (.if_icmp .eq 5, 3) := by decide +kernel
theorem d124_136 : decode (cc 124) 136 = .ok (.lconst 0, 1) := by decide +kernel
theorem d124_137 : decode (cc 124) 137 = .ok (.lreturn, 1) := by decide +kernel
theorem d124_138 : decode (cc 124) 138 = .ok (.aload_n 0, 1) := by decide +kernel
theorem d124_139 : decode (cc 124) 139 = .ok (.getfield 55, 3) := by decide +kernel
theorem d124_142 : decode (cc 124) 142 = .ok (.iload_n 1, 1) := by decide +kernel
theorem d124_143 : decode (cc 124) 143 = .ok (.iaload, 1) := by decide +kernel
theorem d124_144 : decode (cc 124) 144 = .ok (.ifCond .le 23, 3) := by decide +kernel
theorem d124_147 : decode (cc 124) 147 = .ok (.aload_n 0, 1) := by decide +kernel
theorem d124_148 : decode (cc 124) 148 = .ok (.getfield 69, 3) := by decide +kernel
theorem d124_151 : decode (cc 124) 151 = .ok (.iload 6, 2) := by decide +kernel
theorem d124_153 : decode (cc 124) 153 = .ok (.aload_n 0, 1) := by decide +kernel
theorem d124_154 : decode (cc 124) 154 = .ok (.getfield 55, 3) := by decide +kernel
theorem d124_157 : decode (cc 124) 157 = .ok (.iload_n 1, 1) := by decide +kernel
theorem d124_158 : decode (cc 124) 158 = .ok (.iaload, 1) := by decide +kernel
theorem d124_159 : decode (cc 124) 159 = .ok (.iconst 1, 1) := by decide +kernel
theorem d124_160 : decode (cc 124) 160 = .ok (.isub, 1) := by decide +kernel
theorem d124_161 : decode (cc 124) 161 = .ok (.invokestatic 131, 3) := by decide +kernel
theorem d124_164 : decode (cc 124) 164 = .ok (.goto 4, 3) := by decide +kernel
theorem d124_167 : decode (cc 124) 167 = .ok (.lconst 0, 1) := by decide +kernel
theorem d124_168 : decode (cc 124) 168 = .ok (.lstore 7, 2) := by decide +kernel
theorem d124_170 : decode (cc 124) 170 = .ok (.iconst 0, 1) := by decide +kernel
theorem d124_171 : decode (cc 124) 171 = .ok (.istore 9, 2) := by decide +kernel
theorem d124_173 : decode (cc 124) 173 = .ok (.iload 9, 2) := by decide +kernel
theorem d124_175 : decode (cc 124) 175 = .ok (.iload_n 1, 1) := by decide +kernel
theorem d124_176 : decode (cc 124) 176 = .ok (.if_icmp .ge 55, 3) := by decide +kernel
theorem d124_179 : decode (cc 124) 179 = .ok (.aload_n 0, 1) := by decide +kernel
theorem d124_180 : decode (cc 124) 180 = .ok (.getfield 52, 3) := by decide +kernel
theorem d124_183 : decode (cc 124) 183 = .ok (.iload 9, 2) := by decide +kernel
theorem d124_185 : decode (cc 124) 185 = .ok (.iaload, 1) := by decide +kernel
theorem d124_186 : decode (cc 124) 186 = .ok (.iload 6, 2) := by decide +kernel
theorem d124_188 : decode (cc 124) 188 = .ok (.if_icmp .ne 33, 3) := by decide +kernel
theorem d124_191 : decode (cc 124) 191 = .ok (.aload_n 0, 1) := by decide +kernel
theorem d124_192 : decode (cc 124) 192 = .ok (.getfield 55, 3) := by decide +kernel
theorem d124_195 : decode (cc 124) 195 = .ok (.iload 9, 2) := by decide +kernel
theorem d124_197 : decode (cc 124) 197 = .ok (.iaload, 1) := by decide +kernel
theorem d124_198 : decode (cc 124) 198 = .ok (.aload_n 0, 1) := by decide +kernel
theorem d124_199 : decode (cc 124) 199 = .ok (.getfield 55, 3) := by decide +kernel
theorem d124_202 : decode (cc 124) 202 = .ok (.iload_n 1, 1) := by decide +kernel
theorem d124_203 : decode (cc 124) 203 = .ok (.iaload, 1) := by decide +kernel
theorem d124_204 : decode (cc 124) 204 = .ok (.if_icmp .ne 17, 3) := by decide +kernel
theorem d124_207 : decode (cc 124) 207 = .ok (.lload 7, 2) := by decide +kernel
theorem d124_209 : decode (cc 124) 209 = .ok (.aload_n 0, 1) := by decide +kernel
theorem d124_210 : decode (cc 124) 210 = .ok (.getfield 58, 3) := by decide +kernel
theorem d124_213 : decode (cc 124) 213 = .ok (.iload 9, 2) := by decide +kernel
theorem d124_215 : decode (cc 124) 215 = .ok (.iaload, 1) := by decide +kernel
theorem d124_216 : decode (cc 124) 216 = .ok (.i2l, 1) := by decide +kernel
theorem d124_217 : decode (cc 124) 217 = .ok (.ladd, 1) := by decide +kernel
theorem d124_218 : decode (cc 124) 218 = .ok (.goto 5, 3) := by decide +kernel
theorem d124_221 : decode (cc 124) 221 = .ok (.lload 7, 2) := by decide +kernel
theorem d124_223 : decode (cc 124) 223 = .ok (.lstore 7, 2) := by decide +kernel
theorem d124_225 : decode (cc 124) 225 = .ok (.iinc 9 1, 3) := by decide +kernel
theorem d124_228 : decode (cc 124) 228 = .ok (.goto (-55), 3) := by decide +kernel
theorem d124_231 : decode (cc 124) 231 = .ok (.lload 7, 2) := by decide +kernel
theorem d124_233 : decode (cc 124) 233 = .ok (.aload_n 0, 1) := by decide +kernel
theorem d124_234 : decode (cc 124) 234 = .ok (.getfield 58, 3) := by decide +kernel
theorem d124_237 : decode (cc 124) 237 = .ok (.iload_n 1, 1) := by decide +kernel
theorem d124_238 : decode (cc 124) 238 = .ok (.iaload, 1) := by decide +kernel
theorem d124_239 : decode (cc 124) 239 = .ok (.i2l, 1) := by decide +kernel
theorem d124_240 : decode (cc 124) 240 = .ok (.ladd, 1) := by decide +kernel
theorem d124_241 : decode (cc 124) 241 = .ok (.lstore 9, 2) := by decide +kernel
theorem d124_243 : decode (cc 124) 243 = .ok (.iload_n 2, 1) := by decide +kernel
theorem d124_244 : decode (cc 124) 244 = .ok (.ifCond .ne 7, 3) := by decide +kernel
theorem d124_247 : decode (cc 124) 247 = .ok (.lconst 0, 1) := by decide +kernel
theorem d124_248 : decode (cc 124) 248 = .ok (.goto 11, 3) := by decide +kernel
theorem d124_251 : decode (cc 124) 251 = .ok (.aload_n 0, 1) := by decide +kernel
theorem d124_252 : decode (cc 124) 252 = .ok (.iload 6, 2) := by decide +kernel
theorem d124_254 : decode (cc 124) 254 = .ok (.iload_n 2, 1) := by decide +kernel
theorem d124_255 : decode (cc 124) 255 = .ok (.iload_n 3, 1) := by decide +kernel
theorem d124_256 : decode (cc 124) 256 = .ok (.invokevirtual 183, 3) := by decide +kernel
theorem d124_259 : decode (cc 124) 259 = .ok (.lstore 11, 2) := by decide +kernel
theorem d124_261 : decode (cc 124) 261 = .ok (.iload_n 2, 1) := by decide +kernel
theorem d124_262 : decode (cc 124) 262 = .ok (.ifCond .ne 14, 3) := by decide +kernel
theorem d124_265 : decode (cc 124) 265 = .ok (.aload_n 0, 1) := by decide +kernel
theorem d124_266 : decode (cc 124) 266 = .ok (.getfield 31, 3) := by decide +kernel
theorem d124_269 : decode (cc 124) 269 = .ok (.iload 6, 2) := by decide +kernel
theorem d124_271 : decode (cc 124) 271 = .ok (.iaload, 1) := by decide +kernel
theorem d124_272 : decode (cc 124) 272 = .ok (.i2l, 1) := by decide +kernel
theorem d124_273 : decode (cc 124) 273 = .ok (.goto 36, 3) := by decide +kernel
theorem d124_276 : decode (cc 124) 276 = .ok (.lload 11, 2) := by decide +kernel
theorem d124_278 : decode (cc 124) 278 = .ok (.iload_n 2, 1) := by decide +kernel
theorem d124_279 : decode (cc 124) 279 = .ok (.iconst 1, 1) := by decide +kernel
theorem d124_280 : decode (cc 124) 280 = .ok (.if_icmp .ne 16, 3) := by decide +kernel
theorem d124_283 : decode (cc 124) 283 = .ok (.aload_n 0, 1) := by decide +kernel
theorem d124_284 : decode (cc 124) 284 = .ok (.getfield 58, 3) := by decide +kernel
theorem d124_287 : decode (cc 124) 287 = .ok (.bipush 24, 2) := by decide +kernel
theorem d124_289 : decode (cc 124) 289 = .ok (.iload_n 3, 1) := by decide +kernel
theorem d124_290 : decode (cc 124) 290 = .ok (.iadd, 1) := by decide +kernel
theorem d124_291 : decode (cc 124) 291 = .ok (.iaload, 1) := by decide +kernel
theorem d124_292 : decode (cc 124) 292 = .ok (.i2l, 1) := by decide +kernel
theorem d124_293 : decode (cc 124) 293 = .ok (.goto 15, 3) := by decide +kernel
theorem d124_296 : decode (cc 124) 296 = .ok (.aload_n 0, 1) := by decide +kernel
theorem d124_297 : decode (cc 124) 297 = .ok (.getfield 73, 3) := by decide +kernel
theorem d124_300 : decode (cc 124) 300 = .ok (.bipush 12, 2) := by decide +kernel
theorem d124_302 : decode (cc 124) 302 = .ok (.iload 6, 2) := by decide +kernel
theorem d124_304 : decode (cc 124) 304 = .ok (.imul, 1) := by decide +kernel
theorem d124_305 : decode (cc 124) 305 = .ok (.iload_n 3, 1) := by decide +kernel
theorem d124_306 : decode (cc 124) 306 = .ok (.iadd, 1) := by decide +kernel
theorem d124_307 : decode (cc 124) 307 = .ok (.laload, 1) := by decide +kernel
theorem d124_308 : decode (cc 124) 308 = .ok (.ladd, 1) := by decide +kernel
theorem d124_309 : decode (cc 124) 309 = .ok (.lstore 13, 2) := by decide +kernel
theorem d124_311 : decode (cc 124) 311 = .ok (.lload 7, 2) := by decide +kernel
theorem d124_313 : decode (cc 124) 313 = .ok (.lload 11, 2) := by decide +kernel
theorem d124_315 : decode (cc 124) 315 = .ok (.lcmp, 1) := by decide +kernel
theorem d124_316 : decode (cc 124) 316 = .ok (.ifCond .le 8, 3) := by decide +kernel
theorem d124_319 : decode (cc 124) 319 = .ok (.lload 7, 2) := by decide +kernel
theorem d124_321 : decode (cc 124) 321 = .ok (.goto 5, 3) := by decide +kernel
theorem d124_324 : decode (cc 124) 324 = .ok (.lload 11, 2) := by decide +kernel
theorem d124_326 : decode (cc 124) 326 = .ok (.lstore 15, 2) := by decide +kernel
theorem d124_328 : decode (cc 124) 328 = .ok (.lload 9, 2) := by decide +kernel
theorem d124_330 : decode (cc 124) 330 = .ok (.lload 13, 2) := by decide +kernel
theorem d124_332 : decode (cc 124) 332 = .ok (.lcmp, 1) := by decide +kernel
theorem d124_333 : decode (cc 124) 333 = .ok (.ifCond .ge 8, 3) := by decide +kernel
theorem d124_336 : decode (cc 124) 336 = .ok (.lload 9, 2) := by decide +kernel
theorem d124_338 : decode (cc 124) 338 = .ok (.goto 5, 3) := by decide +kernel
theorem d124_341 : decode (cc 124) 341 = .ok (.lload 13, 2) := by decide +kernel
theorem d124_343 : decode (cc 124) 343 = .ok (.lstore 17, 2) := by decide +kernel
theorem d124_345 : decode (cc 124) 345 = .ok (.lload 17, 2) := by decide +kernel
theorem d124_347 : decode (cc 124) 347 = .ok (.lload 15, 2) := by decide +kernel
theorem d124_349 : decode (cc 124) 349 = .ok (.lcmp, 1) := by decide +kernel
theorem d124_350 : decode (cc 124) 350 = .ok (.ifCond .le 11, 3) := by decide +kernel
theorem d124_353 : decode (cc 124) 353 = .ok (.lload 17, 2) := by decide +kernel
theorem d124_355 : decode (cc 124) 355 = .ok (.lload 15, 2) := by decide +kernel
theorem d124_357 : decode (cc 124) 357 = .ok (.lsub, 1) := by decide +kernel
theorem d124_358 : decode (cc 124) 358 = .ok (.goto 4, 3) := by decide +kernel
theorem d124_361 : decode (cc 124) 361 = .ok (.lconst 0, 1) := by decide +kernel
theorem d124_362 : decode (cc 124) 362 = .ok (.lreturn, 1) := by decide +kernel
theorem d125_0 : decode (cc 125) 0 = .ok (.iload_n 2, 1) := by decide +kernel
theorem d125_1 : decode (cc 125) 1 = .ok (.iconst 1, 1) := by decide +kernel
theorem d125_2 : decode (cc 125) 2 = .ok (.if_icmp .ne 15, 3) := by decide +kernel
theorem d125_5 : decode (cc 125) 5 = .ok (.aload_n 0, 1) := by decide +kernel
theorem d125_6 : decode (cc 125) 6 = .ok (.getfield 55, 3) := by decide +kernel
theorem d125_9 : decode (cc 125) 9 = .ok (.bipush 24, 2) := by decide +kernel
theorem d125_11 : decode (cc 125) 11 = .ok (.iload_n 3, 1) := by decide +kernel
theorem d125_12 : decode (cc 125) 12 = .ok (.iadd, 1) := by decide +kernel
theorem d125_13 : decode (cc 125) 13 = .ok (.iaload, 1) := by decide +kernel
theorem d125_14 : decode (cc 125) 14 = .ok (.goto 4, 3) := by decide +kernel
theorem d125_17 : decode (cc 125) 17 = .ok (.iload_n 3, 1) := by decide +kernel
theorem d125_18 : decode (cc 125) 18 = .ok (.istore 4, 2) := by decide +kernel
theorem d125_20 : decode (cc 125) 20 = .ok (.aload_n 0, 1) := by decide +kernel
theorem d125_21 : decode (cc 125) 21 = .ok (.getfield 31, 3) := by decide +kernel
theorem d125_24 : decode (cc 125) 24 = .ok (.iload_n 1, 1) := by decide +kernel
theorem d125_25 : decode (cc 125) 25 = .ok (.iaload, 1) := by decide +kernel
theorem d125_26 : decode (cc 125) 26 = .ok (.i2l, 1) := by decide +kernel
theorem d125_27 : decode (cc 125) 27 = .ok (.lstore 5, 2) := by decide +kernel
theorem d125_29 : decode (cc 125) 29 = .ok (.bipush 24, 2) := by decide +kernel
theorem d125_31 : decode (cc 125) 31 = .ok (.istore 7, 2) := by decide +kernel
theorem d125_33 : decode (cc 125) 33 = .ok (.iload 7, 2) := by decide +kernel
theorem d125_35 : decode (cc 125) 35 = .ok (.bipush 24, 2) := by decide +kernel
theorem d125_37 : decode (cc 125) 37 = .ok (.aload_n 0, 1) := by decide +kernel
theorem d125_38 : decode (cc 125) 38 = .ok (.getfield 49, 3) := by decide +kernel
theorem d125_41 : decode (cc 125) 41 = .ok (.iconst 1, 1) := by decide +kernel
theorem d125_42 : decode (cc 125) 42 = .ok (.iaload, 1) := by decide +kernel
theorem d125_43 : decode (cc 125) 43 = .ok (.iadd, 1) := by decide +kernel
theorem d125_44 : decode (cc 125) 44 = .ok (.if_icmp .ge 88, 3) := by decide +kernel
theorem d125_47 : decode (cc 125) 47 = .ok (.aload_n 0, 1) := by decide +kernel
theorem d125_48 : decode (cc 125) 48 = .ok (.getfield 55, 3) := by decide +kernel
theorem d125_51 : decode (cc 125) 51 = .ok (.iload 7, 2) := by decide +kernel
theorem d125_53 : decode (cc 125) 53 = .ok (.iaload, 1) := by decide +kernel
theorem d125_54 : decode (cc 125) 54 = .ok (.iload 4, 2) := by decide +kernel
theorem d125_56 : decode (cc 125) 56 = .ok (.if_icmp .ne 21, 3) := by decide +kernel
theorem d125_59 : decode (cc 125) 59 = .ok (.iload_n 2, 1) := by decide +kernel
theorem d125_60 : decode (cc 125) 60 = .ok (.iconst 2, 1) := by decide +kernel
theorem d125_61 : decode (cc 125) 61 = .ok (.if_icmp .eq 12, 3) := by decide +kernel
theorem d125_64 : decode (cc 125) 64 = .ok (.iload 7, 2) := by decide +kernel
theorem d125_66 : decode (cc 125) 66 = .ok (.bipush 24, 2) := by decide +kernel
theorem d125_68 : decode (cc 125) 68 = .ok (.iload_n 3, 1) := by decide +kernel
theorem d125_69 : decode (cc 125) 69 = .ok (.iadd, 1) := by decide +kernel
theorem d125_70 : decode (cc 125) 70 = .ok (.if_icmp .ge 7, 3) := by decide +kernel
theorem d125_73 : decode (cc 125) 73 = .ok (.iconst 1, 1) := by decide +kernel
theorem d125_74 : decode (cc 125) 74 = .ok (.goto 4, 3) := by decide +kernel
theorem d125_77 : decode (cc 125) 77 = .ok (.iconst 0, 1) := by decide +kernel
theorem d125_78 : decode (cc 125) 78 = .ok (.istore 8, 2) := by decide +kernel
theorem d125_80 : decode (cc 125) 80 = .ok (.aload_n 0, 1) := by decide +kernel
theorem d125_81 : decode (cc 125) 81 = .ok (.getfield 52, 3) := by decide +kernel
theorem d125_84 : decode (cc 125) 84 = .ok (.iload 7, 2) := by decide +kernel
theorem d125_86 : decode (cc 125) 86 = .ok (.iaload, 1) := by decide +kernel
theorem d125_87 : decode (cc 125) 87 = .ok (.iload_n 1, 1) := by decide +kernel
theorem d125_88 : decode (cc 125) 88 = .ok (.if_icmp .ne 34, 3) := by decide +kernel
theorem d125_91 : decode (cc 125) 91 = .ok (.aload_n 0, 1) := by decide +kernel
theorem d125_92 : decode (cc 125) 92 = .ok (.getfield 55, 3) := by decide +kernel
theorem d125_95 : decode (cc 125) 95 = .ok (.iload 7, 2) := by decide +kernel
theorem d125_97 : decode (cc 125) 97 = .ok (.iaload, 1) := by decide +kernel
theorem d125_98 : decode (cc 125) 98 = .ok (.iload 4, 2) := by decide +kernel
theorem d125_100 : decode (cc 125) 100 = .ok (.if_icmp .lt 8, 3) := by decide +kernel
theorem d125_103 : decode (cc 125) 103 = .ok (.iload 8, 2) := by decide +kernel
theorem d125_105 : decode (cc 125) 105 = .ok (.ifCond .eq 17, 3) := by decide +kernel
theorem d125_108 : decode (cc 125) 108 = .ok (.lload 5, 2) := by decide +kernel
theorem d125_110 : decode (cc 125) 110 = .ok (.aload_n 0, 1) := by decide +kernel
theorem d125_111 : decode (cc 125) 111 = .ok (.getfield 58, 3) := by decide +kernel
theorem d125_114 : decode (cc 125) 114 = .ok (.iload 7, 2) := by decide +kernel
theorem d125_116 : decode (cc 125) 116 = .ok (.iaload, 1) := by decide +kernel
theorem d125_117 : decode (cc 125) 117 = .ok (.i2l, 1) := by decide +kernel
theorem d125_118 : decode (cc 125) 118 = .ok (.ladd, 1) := by decide +kernel
theorem d125_119 : decode (cc 125) 119 = .ok (.goto 5, 3) := by decide +kernel
theorem d125_122 : decode (cc 125) 122 = .ok (.lload 5, 2) := by decide +kernel
theorem d125_124 : decode (cc 125) 124 = .ok (.lstore 5, 2) := by decide +kernel
theorem d125_126 : decode (cc 125) 126 = .ok (.iinc 7 1, 3) := by decide +kernel
theorem d125_129 : decode (cc 125) 129 = .ok (.goto (-96), 3) := by decide +kernel
theorem d125_132 : decode (cc 125) 132 = .ok (.lload 5, 2) := by decide +kernel
theorem d125_134 : decode (cc 125) 134 = .ok (.iload 4, 2) := by decide +kernel
theorem d125_136 : decode (cc 125) 136 = .ok (.ifCond .le 18, 3) := by decide +kernel
theorem d125_139 : decode (cc 125) 139 = .ok (.aload_n 0, 1) := by decide +kernel
theorem d125_140 : decode (cc 125) 140 = .ok (.getfield 73, 3) := by decide +kernel
theorem d125_143 : decode (cc 125) 143 = .ok (.iload_n 1, 1) := by decide +kernel
theorem d125_144 : decode (cc 125) 144 = .ok (.iload 4, 2) := by decide +kernel
theorem d125_146 : decode (cc 125) 146 = .ok (.iconst 1, 1) := by decide +kernel
theorem d125_147 : decode (cc 125) 147 = .ok (.isub, 1) := by decide +kernel
theorem d125_148 : decode (cc 125) 148 = .ok (.invokestatic 131, 3) := by decide +kernel
theorem d125_151 : decode (cc 125) 151 = .ok (.goto 4, 3) := by decide +kernel
theorem d125_154 : decode (cc 125) 154 = .ok (.lconst 0, 1) := by decide +kernel
theorem d125_155 : decode (cc 125) 155 = .ok (.ladd, 1) := by decide +kernel
theorem d125_156 : decode (cc 125) 156 = .ok (.lreturn, 1) := by decide +kernel
theorem d126_0 : decode (cc 126) 0 = .ok (.aload_n 0, 1) := by decide +kernel
theorem d126_1 : decode (cc 126) 1 = .ok (.iload_n 1, 1) := by decide +kernel
theorem d126_2 : decode (cc 126) 2 = .ok (.invokestatic 93, 3) := by decide +kernel
theorem d126_5 : decode (cc 126) 5 = .ok (.ifCond .eq 10, 3) := by decide +kernel
theorem d126_8 : decode (cc 126) 8 = .ok (.iload_n 3, 1) := by decide +kernel
theorem d126_9 : decode (cc 126) 9 = .ok (.invokestatic 93, 3) := by decide +kernel
theorem d126_12 : decode (cc 126) 12 = .ok (.ifCond .ne 7, 3) := by decide +kernel
theorem d126_15 : decode (cc 126) 15 = .ok (.iconst 1, 1) := by decide +kernel
theorem d126_16 : decode (cc 126) 16 = .ok (.goto 30, 3) := by decide +kernel
theorem d126_19 : decode (cc 126) 19 = .ok (.iload_n 2, 1) := by decide +kernel
theorem d126_20 : decode (cc 126) 20 = .ok (.iconst 1, 1) := by decide +kernel
theorem d126_21 : decode (cc 126) 21 = .ok (.sipush 1000, 3) := by decide +kernel
theorem d126_24 : decode (cc 126) 24 = .ok (.invokestatic 89, 3) := by decide +kernel
theorem d126_27 : decode (cc 126) 27 = .ok (.ifCond .ne 7, 3) := by decide +kernel
theorem d126_30 : decode (cc 126) 30 = .ok (.iconst 2, 1) := by decide +kernel
theorem d126_31 : decode (cc 126) 31 = .ok (.goto 15, 3) := by decide +kernel
theorem d126_34 : decode (cc 126) 34 = .ok (.aload_n 0, 1) := by decide +kernel
theorem d126_35 : decode (cc 126) 35 = .ok (.getfield 61, 3) := by decide +kernel
theorem d126_38 : decode (cc 126) 38 = .ok (.ifCond .eq 7, 3) := by decide +kernel
theorem d126_41 : decode (cc 126) 41 = .ok (.iconst 3, 1) := by decide +kernel
theorem d126_42 : decode (cc 126) 42 = .ok (.goto 4, 3) := by decide +kernel
theorem d126_45 : decode (cc 126) 45 = .ok (.iconst 0, 1) := by decide +kernel
theorem d126_46 : decode (cc 126) 46 = .ok (.invokevirtual 97, 3) := by decide +kernel
theorem d126_49 : decode (cc 126) 49 = .ok (.ifCond .eq 5, 3) := by decide +kernel
theorem d126_52 : decode (cc 126) 52 = .ok (.iconst 0, 1) := by decide +kernel
theorem d126_53 : decode (cc 126) 53 = .ok (.ireturn, 1) := by decide +kernel
theorem d126_54 : decode (cc 126) 54 = .ok (.iload_n 3, 1) := by decide +kernel
theorem d126_55 : decode (cc 126) 55 = .ok (.istore 4, 2) := by decide +kernel
theorem d126_57 : decode (cc 126) 57 = .ok (.iload 4, 2) := by decide +kernel
theorem d126_59 : decode (cc 126) 59 = .ok (.bipush 12, 2) := by decide +kernel
theorem d126_61 : decode (cc 126) 61 = .ok (.if_icmp .ge 23, 3) := by decide +kernel
theorem d126_64 : decode (cc 126) 64 = .ok (.aload_n 0, 1) := by decide +kernel
theorem d126_65 : decode (cc 126) 65 = .ok (.iload_n 1, 1) := by decide +kernel
theorem d126_66 : decode (cc 126) 66 = .ok (.iload_n 2, 1) := by decide +kernel
theorem d126_67 : decode (cc 126) 67 = .ok (.iload 4, 2) := by decide +kernel
theorem d126_69 : decode (cc 126) 69 = .ok (.invokevirtual 186, 3) := by decide +kernel
theorem d126_72 : decode (cc 126) 72 = .ok (.ifCond .eq 6, 3) := by decide +kernel
theorem d126_75 : decode (cc 126) 75 = .ok (.iload 4, 2) := by decide +kernel
theorem d126_77 : decode (cc 126) 77 = .ok (.ireturn, 1) := by decide +kernel
theorem d126_78 : decode (cc 126) 78 = .ok (.iinc 4 1, 3) := by decide +kernel
theorem d126_81 : decode (cc 126) 81 = .ok (.goto (-24), 3) := by decide +kernel
theorem d126_84 : decode (cc 126) 84 = .ok (.iconst (-1), 1) := by decide +kernel
theorem d126_85 : decode (cc 126) 85 = .ok (.ireturn, 1) := by decide +kernel
theorem d127_0 : decode (cc 127) 0 = .ok (.iconst 1, 1) := by decide +kernel
theorem d127_1 : decode (cc 127) 1 = .ok (.istore 4, 2) := by decide +kernel
theorem d127_3 : decode (cc 127) 3 = .ok (.iload_n 3, 1) := by decide +kernel
theorem d127_4 : decode (cc 127) 4 = .ok (.istore 5, 2) := by decide +kernel
theorem d127_6 : decode (cc 127) 6 = .ok (.iload 5, 2) := by decide +kernel
theorem d127_8 : decode (cc 127) 8 = .ok (.bipush 12, 2) := by decide +kernel
theorem d127_10 : decode (cc 127) 10 = .ok (.if_icmp .ge 54, 3) := by decide +kernel
theorem d127_13 : decode (cc 127) 13 = .ok (.iload 4, 2) := by decide +kernel
theorem d127_15 : decode (cc 127) 15 = .ok (.ifCond .eq 40, 3) := by decide +kernel
theorem d127_18 : decode (cc 127) 18 = .ok (.aload_n 0, 1) := by decide +kernel
theorem d127_19 : decode (cc 127) 19 = .ok (.iload_n 1, 1) := by decide +kernel
theorem d127_20 : decode (cc 127) 20 = .ok (.iload 5, 2) := by decide +kernel
theorem d127_22 : decode (cc 127) 22 = .ok (.invokevirtual 143, 3) := by decide +kernel
theorem d127_25 : decode (cc 127) 25 = .ok (.aload_n 0, 1) := by decide +kernel
theorem d127_26 : decode (cc 127) 26 = .ok (.getfield 73, 3) := by decide +kernel
theorem d127_29 : decode (cc 127) 29 = .ok (.iload_n 1, 1) := by decide +kernel
theorem d127_30 : decode (cc 127) 30 = .ok (.iload 5, 2) := by decide +kernel
theorem d127_32 : decode (cc 127) 32 = .ok (.invokestatic 131, 3) := by decide +kernel
theorem d127_35 : decode (cc 127) 35 = .ok (.ladd, 1) := by decide +kernel
theorem d127_36 : decode (cc 127) 36 = .ok (.aload_n 0, 1) := by decide +kernel
theorem d127_37 : decode (cc 127) 37 = .ok (.iconst 2, 1) := by decide +kernel
theorem d127_38 : decode (cc 127) 38 = .ok (.iload_n 1, 1) := by decide +kernel
theorem d127_39 : decode (cc 127) 39 = .ok (.iload 5, 2) := by decide +kernel
theorem d127_41 : decode (cc 127) 41 = .ok (.invokevirtual 127, 3) := by decide +kernel
theorem d127_44 : decode (cc 127) 44 = .ok (.lsub, 1) := by decide +kernel
theorem d127_45 : decode (cc 127) 45 = .ok (.iload_n 2, 1) := by decide +kernel
theorem d127_46 : decode (cc 127) 46 = .ok (.i2l, 1) := by decide +kernel
theorem d127_47 : decode (cc 127) 47 = .ok (.lcmp, 1) := by decide +kernel
theorem d127_48 : decode (cc 127) 48 = .ok (.ifCond .lt 7, 3) := by decide +kernel
theorem d127_51 : decode (cc 127) 51 = .ok (.iconst 1, 1) := by decide +kernel
theorem d127_52 : decode (cc 127) 52 = .ok (.goto 4, 3) := by decide +kernel
theorem d127_55 : decode (cc 127) 55 = .ok (.iconst 0, 1) := by decide +kernel
theorem d127_56 : decode (cc 127) 56 = .ok (.istore 4, 2) := by decide +kernel
theorem d127_58 : decode (cc 127) 58 = .ok (.iinc 5 1, 3) := by decide +kernel
theorem d127_61 : decode (cc 127) 61 = .ok (.goto (-55), 3) := by decide +kernel
theorem d127_64 : decode (cc 127) 64 = .ok (.iload 4, 2) := by decide +kernel
theorem d127_66 : decode (cc 127) 66 = .ok (.ireturn, 1) := by decide +kernel
theorem d128_0 : decode (cc 128) 0 = .ok (.iload_n 1, 1) := by decide +kernel
theorem d128_1 : decode (cc 128) 1 = .ok (.invokestatic 93, 3) := by decide +kernel
theorem d128_4 : decode (cc 128) 4 = .ok (.ifCond .eq 14, 3) := by decide +kernel
theorem d128_7 : decode (cc 128) 7 = .ok (.iload_n 3, 1) := by decide +kernel
theorem d128_8 : decode (cc 128) 8 = .ok (.invokestatic 93, 3) := by decide +kernel
theorem d128_11 : decode (cc 128) 11 = .ok (.ifCond .eq 7, 3) := by decide +kernel
theorem d128_14 : decode (cc 128) 14 = .ok (.iconst 1, 1) := by decide +kernel
theorem d128_15 : decode (cc 128) 15 = .ok (.goto 4, 3) := by decide +kernel
theorem d128_18 : decode (cc 128) 18 = .ok (.iconst 0, 1) := by decide +kernel
theorem d128_19 : decode (cc 128) 19 = .ok (.istore 4, 2) := by decide +kernel
theorem d128_21 : decode (cc 128) 21 = .ok (.aload_n 0, 1) := by decide +kernel
theorem d128_22 : decode (cc 128) 22 = .ok (.iload 4, 2) := by decide +kernel
theorem d128_24 : decode (cc 128) 24 = .ok (.ifCond .ne 7, 3) := by decide +kernel
theorem d128_27 : decode (cc 128) 27 = .ok (.iconst 1, 1) := by decide +kernel
theorem d128_28 : decode (cc 128) 28 = .ok (.goto 41, 3) := by decide +kernel
theorem d128_31 : decode (cc 128) 31 = .ok (.iload_n 2, 1) := by decide +kernel
theorem d128_32 : decode (cc 128) 32 = .ok (.iconst 1, 1) := by decide +kernel
theorem d128_33 : decode (cc 128) 33 = .ok (.sipush 1000, 3) := by decide +kernel
theorem d128_36 : decode (cc 128) 36 = .ok (.invokestatic 89, 3) := by decide +kernel
theorem d128_39 : decode (cc 128) 39 = .ok (.ifCond .ne 7, 3) := by decide +kernel
theorem d128_42 : decode (cc 128) 42 = .ok (.iconst 2, 1) := by decide +kernel
theorem d128_43 : decode (cc 128) 43 = .ok (.goto 26, 3) := by decide +kernel
theorem d128_46 : decode (cc 128) 46 = .ok (.aload_n 0, 1) := by decide +kernel
theorem d128_47 : decode (cc 128) 47 = .ok (.getfield 61, 3) := by decide +kernel
theorem d128_50 : decode (cc 128) 50 = .ok (.ifCond .ne 14, 3) := by decide +kernel
theorem d128_53 : decode (cc 128) 53 = .ok (.aload_n 0, 1) := by decide +kernel
theorem d128_54 : decode (cc 128) 54 = .ok (.getfield 49, 3) := by decide +kernel
theorem d128_57 : decode (cc 128) 57 = .ok (.iconst 2, 1) := by decide +kernel
theorem d128_58 : decode (cc 128) 58 = .ok (.iaload, 1) := by decide +kernel
theorem d128_59 : decode (cc 128) 59 = .ok (.bipush 24, 2) := by decide +kernel
theorem d128_61 : decode (cc 128) 61 = .ok (.if_icmp .ne 7, 3) := by decide +kernel
theorem d128_64 : decode (cc 128) 64 = .ok (.iconst 3, 1) := by decide +kernel
theorem d128_65 : decode (cc 128) 65 = .ok (.goto 4, 3) := by decide +kernel
theorem d128_68 : decode (cc 128) 68 = .ok (.iconst 0, 1) := by decide +kernel
theorem d128_69 : decode (cc 128) 69 = .ok (.invokevirtual 97, 3) := by decide +kernel
theorem d128_72 : decode (cc 128) 72 = .ok (.ifCond .eq 5, 3) := by decide +kernel
theorem d128_75 : decode (cc 128) 75 = .ok (.iconst 0, 1) := by decide +kernel
theorem d128_76 : decode (cc 128) 76 = .ok (.ireturn, 1) := by decide +kernel
theorem d128_77 : decode (cc 128) 77 = .ok (.aload_n 0, 1) := by decide +kernel
theorem d128_78 : decode (cc 128) 78 = .ok (.iload_n 1, 1) := by decide +kernel
theorem d128_79 : decode (cc 128) 79 = .ok (.iload_n 2, 1) := by decide +kernel
theorem d128_80 : decode (cc 128) 80 = .ok (.iload_n 3, 1) := by decide +kernel
theorem d128_81 : decode (cc 128) 81 = .ok (.invokevirtual 186, 3) := by decide +kernel
theorem d128_84 : decode (cc 128) 84 = .ok (.ifCond .eq 14, 3) := by decide +kernel
theorem d128_87 : decode (cc 128) 87 = .ok (.aload_n 0, 1) := by decide +kernel
theorem d128_88 : decode (cc 128) 88 = .ok (.iconst 2, 1) := by decide +kernel
theorem d128_89 : decode (cc 128) 89 = .ok (.iload_n 1, 1) := by decide +kernel
theorem d128_90 : decode (cc 128) 90 = .ok (.iload_n 3, 1) := by decide +kernel
theorem d128_91 : decode (cc 128) 91 = .ok (.iload_n 2, 1) := by decide +kernel
theorem d128_92 : decode (cc 128) 92 = .ok (.invokevirtual 120, 3) := by decide +kernel
theorem d128_95 : decode (cc 128) 95 = .ok (.goto 4, 3) := by decide +kernel
theorem d128_98 : decode (cc 128) 98 = .ok (.iconst (-1), 1) := by decide +kernel
theorem d128_99 : decode (cc 128) 99 = .ok (.ireturn, 1) := by decide +kernel
theorem d129_0 : decode (cc 129) 0 = .ok (.aload_n 0, 1) := by decide +kernel
theorem d129_1 : decode (cc 129) 1 = .ok (.iload_n 1, 1) := by decide +kernel
theorem d129_2 : decode (cc 129) 2 = .ok (.iconst 0, 1) := by decide +kernel
theorem d129_3 : decode (cc 129) 3 = .ok (.aload_n 0, 1) := by decide +kernel
theorem d129_4 : decode (cc 129) 4 = .ok (.getfield 49, 3) := by decide +kernel
theorem d129_7 : decode (cc 129) 7 = .ok (.iconst 2, 1) := by decide +kernel
theorem d129_8 : decode (cc 129) 8 = .ok (.iaload, 1) := by decide +kernel
theorem d129_9 : decode (cc 129) 9 = .ok (.iconst 1, 1) := by decide +kernel
theorem d129_10 : decode (cc 129) 10 = .ok (.isub, 1) := by decide +kernel
theorem d129_11 : decode (cc 129) 11 = .ok (.invokestatic 89, 3) := by decide +kernel
theorem d129_14 : decode (cc 129) 14 = .ok (.ifCond .eq 7, 3) := by decide +kernel
theorem d129_17 : decode (cc 129) 17 = .ok (.iconst 0, 1) := by decide +kernel
theorem d129_18 : decode (cc 129) 18 = .ok (.goto 4, 3) := by decide +kernel
theorem d129_21 : decode (cc 129) 21 = .ok (.iconst 1, 1) := by decide +kernel
theorem d129_22 : decode (cc 129) 22 = .ok (.invokevirtual 97, 3) := by decide +kernel
theorem d129_25 : decode (cc 129) 25 = .ok (.ifCond .eq 5, 3) := by decide +kernel
theorem d129_28 : decode (cc 129) 28 = .ok (.iconst 0, 1) := by decide +kernel
theorem d129_29 : decode (cc 129) 29 = .ok (.ireturn, 1) := by decide +kernel
theorem d129_30 : decode (cc 129) 30 = .ok (.aload_n 0, 1) := by decide +kernel
theorem d129_31 : decode (cc 129) 31 = .ok (.getfield 58, 3) := by decide +kernel
theorem d129_34 : decode (cc 129) 34 = .ok (.bipush 48, 2) := by decide +kernel
theorem d129_36 : decode (cc 129) 36 = .ok (.iload_n 1, 1) := by decide +kernel
theorem d129_37 : decode (cc 129) 37 = .ok (.iadd, 1) := by decide +kernel
theorem d129_38 : decode (cc 129) 38 = .ok (.iaload, 1) := by decide +kernel
theorem d129_39 : decode (cc 129) 39 = .ok (.istore_n 2, 1) := by decide +kernel
theorem d129_40 : decode (cc 129) 40 = .ok (.aload_n 0, 1) := by decide +kernel
theorem d129_41 : decode (cc 129) 41 = .ok (.getfield 58, 3) := by decide +kernel
theorem d129_44 : decode (cc 129) 44 = .ok (.bipush 48, 2) := by decide +kernel
theorem d129_46 : decode (cc 129) 46 = .ok (.iload_n 1, 1) := by decide +kernel
theorem d129_47 : decode (cc 129) 47 = .ok (.iadd, 1) := by decide +kernel
theorem d129_48 : decode (cc 129) 48 = .ok (.iconst 0, 1) := by decide +kernel
theorem d129_49 : decode (cc 129) 49 = .ok (.iastore, 1) := by decide +kernel
theorem d129_50 : decode (cc 129) 50 = .ok (.iload_n 2, 1) := by decide +kernel
theorem d129_51 : decode (cc 129) 51 = .ok (.ireturn, 1) := by decide +kernel
theorem d130_0 : decode (cc 130) 0 = .ok (.aload_n 0, 1) := by decide +kernel
theorem d130_1 : decode (cc 130) 1 = .ok (.iload_n 1, 1) := by decide +kernel
theorem d130_2 : decode (cc 130) 2 = .ok (.iconst 0, 1) := by decide +kernel
theorem d130_3 : decode (cc 130) 3 = .ok (.iconst 2, 1) := by decide +kernel
theorem d130_4 : decode (cc 130) 4 = .ok (.invokestatic 89, 3) := by decide +kernel
theorem d130_7 : decode (cc 130) 7 = .ok (.ifCond .eq 10, 3) := by decide +kernel
theorem d130_10 : decode (cc 130) 10 = .ok (.iload_n 2, 1) := by decide +kernel
theorem d130_11 : decode (cc 130) 11 = .ok (.invokestatic 93, 3) := by decide +kernel
theorem d130_14 : decode (cc 130) 14 = .ok (.ifCond .ne 7, 3) := by decide +kernel
theorem d130_17 : decode (cc 130) 17 = .ok (.iconst 1, 1) := by decide +kernel
theorem d130_18 : decode (cc 130) 18 = .ok (.goto 15, 3) := by decide +kernel
theorem d130_21 : decode (cc 130) 21 = .ok (.aload_n 0, 1) := by decide +kernel
theorem d130_22 : decode (cc 130) 22 = .ok (.getfield 61, 3) := by decide +kernel
theorem d130_25 : decode (cc 130) 25 = .ok (.ifCond .eq 7, 3) := by decide +kernel
theorem d130_28 : decode (cc 130) 28 = .ok (.iconst 2, 1) := by decide +kernel
theorem d130_29 : decode (cc 130) 29 = .ok (.goto 4, 3) := by decide +kernel
theorem d130_32 : decode (cc 130) 32 = .ok (.iconst 0, 1) := by decide +kernel
theorem d130_33 : decode (cc 130) 33 = .ok (.invokevirtual 97, 3) := by decide +kernel
theorem d130_36 : decode (cc 130) 36 = .ok (.ifCond .eq 5, 3) := by decide +kernel
theorem d130_39 : decode (cc 130) 39 = .ok (.lconst 0, 1) := by decide +kernel
theorem d130_40 : decode (cc 130) 40 = .ok (.lreturn, 1) := by decide +kernel
theorem d130_41 : decode (cc 130) 41 = .ok (.lconst 0, 1) := by decide +kernel
theorem d130_42 : decode (cc 130) 42 = .ok (.lstore_n 3, 1) := by decide +kernel
end
section
theorem d130_43 : decode (cc 130) 43 = .ok (.iconst 0, 1) := by decide +kernel
theorem d130_44 : decode (cc 130) 44 = .ok (.istore 5, 2) := by decide +kernel
theorem d130_46 : decode (cc 130) 46 = .ok (.iload 5, 2) := by decide +kernel
theorem d130_48 : decode (cc 130) 48 = .ok (.bipush 12, 2) := by decide +kernel
theorem d130_50 : decode (cc 130) 50 = .ok (.if_icmp .ge 67, 3) := by decide +kernel
theorem d130_53 : decode (cc 130) 53 = .ok (.iload_n 2, 1) := by decide +kernel
theorem d130_54 : decode (cc 130) 54 = .ok (.aload_n 0, 1) := by decide +kernel
theorem d130_55 : decode (cc 130) 55 = .ok (.getfield 16, 3) := by decide +kernel
theorem d130_58 : decode (cc 130) 58 = .ok (.iload 5, 2) := by decide +kernel
theorem d130_60 : decode (cc 130) 60 = .ok (.iaload, 1) := by decide +kernel
theorem d130_61 : decode (cc 130) 61 = .ok (.iadd, 1) := by decide +kernel
theorem d130_62 : decode (cc 130) 62 = .ok (.istore 6, 2) := by decide +kernel
theorem d130_64 : decode (cc 130) 64 = .ok (.aload_n 0, 1) := by decide +kernel
theorem d130_65 : decode (cc 130) 65 = .ok (.getfield 34, 3) := by decide +kernel
theorem d130_68 : decode (cc 130) 68 = .ok (.iload 5, 2) := by decide +kernel
theorem d130_70 : decode (cc 130) 70 = .ok (.iaload, 1) := by decide +kernel
theorem d130_71 : decode (cc 130) 71 = .ok (.iload_n 1, 1) := by decide +kernel
theorem d130_72 : decode (cc 130) 72 = .ok (.if_icmp .ne 37, 3) := by decide +kernel
theorem d130_75 : decode (cc 130) 75 = .ok (.iload 6, 2) := by decide +kernel
theorem d130_77 : decode (cc 130) 77 = .ok (.bipush 12, 2) := by decide +kernel
theorem d130_79 : decode (cc 130) 79 = .ok (.if_icmp .ge 30, 3) := by decide +kernel
theorem d130_82 : decode (cc 130) 82 = .ok (.lload_n 3, 1) := by decide +kernel
theorem d130_83 : decode (cc 130) 83 = .ok (.aload_n 0, 1) := by decide +kernel
theorem d130_84 : decode (cc 130) 84 = .ok (.getfield 37, 3) := by decide +kernel
theorem d130_87 : decode (cc 130) 87 = .ok (.iload 5, 2) := by decide +kernel
theorem d130_89 : decode (cc 130) 89 = .ok (.iaload, 1) := by decide +kernel
theorem d130_90 : decode (cc 130) 90 = .ok (.i2l, 1) := by decide +kernel
theorem d130_91 : decode (cc 130) 91 = .ok (.aload_n 0, 1) := by decide +kernel
theorem d130_92 : decode (cc 130) 92 = .ok (.getfield 73, 3) := by decide +kernel
theorem d130_95 : decode (cc 130) 95 = .ok (.bipush 12, 2) := by decide +kernel
theorem d130_97 : decode (cc 130) 97 = .ok (.iload 5, 2) := by decide +kernel
theorem d130_99 : decode (cc 130) 99 = .ok (.imul, 1) := by decide +kernel
theorem d130_100 : decode (cc 130) 100 = .ok (.iload 6, 2) := by decide +kernel
theorem d130_102 : decode (cc 130) 102 = .ok (.iadd, 1) := by decide +kernel
theorem d130_103 : decode (cc 130) 103 = .ok (.laload, 1) := by decide +kernel
theorem d130_104 : decode (cc 130) 104 = .ok (.lmul, 1) := by decide +kernel
theorem d130_105 : decode (cc 130) 105 = .ok (.ladd, 1) := by decide +kernel
theorem d130_106 : decode (cc 130) 106 = .ok (.goto 4, 3) := by decide +kernel
theorem d130_109 : decode (cc 130) 109 = .ok (.lload_n 3, 1) := by decide +kernel
theorem d130_110 : decode (cc 130) 110 = .ok (.lstore_n 3, 1) := by decide +kernel
theorem d130_111 : decode (cc 130) 111 = .ok (.iinc 5 1, 3) := by decide +kernel
theorem d130_114 : decode (cc 130) 114 = .ok (.goto (-68), 3) := by decide +kernel
theorem d130_117 : decode (cc 130) 117 = .ok (.lload_n 3, 1) := by decide +kernel
theorem d130_118 : decode (cc 130) 118 = .ok (.lreturn, 1) := by decide +kernel
theorem d131_0 : decode (cc 131) 0 = .ok (.aload_n 0, 1) := by decide +kernel
theorem d131_1 : decode (cc 131) 1 = .ok (.iload_n 1, 1) := by decide +kernel
theorem d131_2 : decode (cc 131) 2 = .ok (.iconst 4, 1) := by decide +kernel
theorem d131_3 : decode (cc 131) 3 = .ok (.if_icmp .ne 14, 3) := by decide +kernel
theorem d131_6 : decode (cc 131) 6 = .ok (.aload_n 0, 1) := by decide +kernel
theorem d131_7 : decode (cc 131) 7 = .ok (.getfield 61, 3) := by decide +kernel
theorem d131_10 : decode (cc 131) 10 = .ok (.ifCond .eq 7, 3) := by decide +kernel
theorem d131_13 : decode (cc 131) 13 = .ok (.iconst 1, 1) := by decide +kernel
theorem d131_14 : decode (cc 131) 14 = .ok (.goto 4, 3) := by decide +kernel
theorem d131_17 : decode (cc 131) 17 = .ok (.iconst 0, 1) := by decide +kernel
theorem d131_18 : decode (cc 131) 18 = .ok (.invokevirtual 97, 3) := by decide +kernel
theorem d131_21 : decode (cc 131) 21 = .ok (.ifCond .eq 5, 3) := by decide +kernel
theorem d131_24 : decode (cc 131) 24 = .ok (.iconst 0, 1) := by decide +kernel
theorem d131_25 : decode (cc 131) 25 = .ok (.ireturn, 1) := by decide +kernel
theorem d131_26 : decode (cc 131) 26 = .ok (.iload_n 1, 1) := by decide +kernel
theorem d131_27 : decode (cc 131) 27 = .ok (.tableswitch 81 0 5 #[37, 42, 49, 56, 63, 68], 37) := by decide +kernel
theorem d131_64 : decode (cc 131) 64 = .ok (.aload_n 0, 1) := by decide +kernel
theorem d131_65 : decode (cc 131) 65 = .ok (.getfield 109, 3) := by decide +kernel
theorem d131_68 : decode (cc 131) 68 = .ok (.ireturn, 1) := by decide +kernel
theorem d131_69 : decode (cc 131) 69 = .ok (.aload_n 0, 1) := by decide +kernel
theorem d131_70 : decode (cc 131) 70 = .ok (.getfield 49, 3) := by decide +kernel
theorem d131_73 : decode (cc 131) 73 = .ok (.iconst 0, 1) := by decide +kernel
theorem d131_74 : decode (cc 131) 74 = .ok (.iaload, 1) := by decide +kernel
theorem d131_75 : decode (cc 131) 75 = .ok (.ireturn, 1) := by decide +kernel
theorem d131_76 : decode (cc 131) 76 = .ok (.aload_n 0, 1) := by decide +kernel
theorem d131_77 : decode (cc 131) 77 = .ok (.getfield 49, 3) := by decide +kernel
theorem d131_80 : decode (cc 131) 80 = .ok (.iconst 1, 1) := by decide +kernel
theorem d131_81 : decode (cc 131) 81 = .ok (.iaload, 1) := by decide +kernel
theorem d131_82 : decode (cc 131) 82 = .ok (.ireturn, 1) := by decide +kernel
theorem d131_83 : decode (cc 131) 83 = .ok (.aload_n 0, 1) := by decide +kernel
theorem d131_84 : decode (cc 131) 84 = .ok (.getfield 49, 3) := by decide +kernel
theorem d131_87 : decode (cc 131) 87 = .ok (.iconst 2, 1) := by decide +kernel
theorem d131_88 : decode (cc 131) 88 = .ok (.iaload, 1) := by decide +kernel
theorem d131_89 : decode (cc 131) 89 = .ok (.ireturn, 1) := by decide +kernel
theorem d131_90 : decode (cc 131) 90 = .ok (.aload_n 0, 1) := by decide +kernel
theorem d131_91 : decode (cc 131) 91 = .ok (.invokevirtual 189, 3) := by decide +kernel
theorem d131_94 : decode (cc 131) 94 = .ok (.ireturn, 1) := by decide +kernel
theorem d131_95 : decode (cc 131) 95 = .ok (.aload_n 0, 1) := by decide +kernel
theorem d131_96 : decode (cc 131) 96 = .ok (.getfield 61, 3) := by decide +kernel
theorem d131_99 : decode (cc 131) 99 = .ok (.ifCond .eq 7, 3) := by decide +kernel
theorem d131_102 : decode (cc 131) 102 = .ok (.iconst 1, 1) := by decide +kernel
theorem d131_103 : decode (cc 131) 103 = .ok (.goto 4, 3) := by decide +kernel
theorem d131_106 : decode (cc 131) 106 = .ok (.iconst 0, 1) := by decide +kernel
theorem d131_107 : decode (cc 131) 107 = .ok (.ireturn, 1) := by decide +kernel
theorem d131_108 : decode (cc 131) 108 = .ok (.iconst (-1), 1) := by decide +kernel
theorem d131_109 : decode (cc 131) 109 = .ok (.ireturn, 1) := by decide +kernel
theorem d132_0 : decode (cc 132) 0 = .ok (.iconst 0, 1) := by decide +kernel
theorem d132_1 : decode (cc 132) 1 = .ok (.istore_n 1, 1) := by decide +kernel
theorem d132_2 : decode (cc 132) 2 = .ok (.iconst 0, 1) := by decide +kernel
theorem d132_3 : decode (cc 132) 3 = .ok (.istore_n 2, 1) := by decide +kernel
theorem d132_4 : decode (cc 132) 4 = .ok (.iload_n 2, 1) := by decide +kernel
theorem d132_5 : decode (cc 132) 5 = .ok (.bipush 12, 2) := by decide +kernel
theorem d132_7 : decode (cc 132) 7 = .ok (.if_icmp .ge 72, 3) := by decide +kernel
theorem d132_10 : decode (cc 132) 10 = .ok (.iconst 0, 1) := by decide +kernel
theorem d132_11 : decode (cc 132) 11 = .ok (.istore_n 3, 1) := by decide +kernel
theorem d132_12 : decode (cc 132) 12 = .ok (.iconst 0, 1) := by decide +kernel
theorem d132_13 : decode (cc 132) 13 = .ok (.istore 4, 2) := by decide +kernel
theorem d132_15 : decode (cc 132) 15 = .ok (.iload 4, 2) := by decide +kernel
theorem d132_17 : decode (cc 132) 17 = .ok (.bipush 12, 2) := by decide +kernel
theorem d132_19 : decode (cc 132) 19 = .ok (.if_icmp .ge 42, 3) := by decide +kernel
theorem d132_22 : decode (cc 132) 22 = .ok (.iload_n 3, 1) := by decide +kernel
theorem d132_23 : decode (cc 132) 23 = .ok (.ifCond .ne 26, 3) := by decide +kernel
theorem d132_26 : decode (cc 132) 26 = .ok (.aload_n 0, 1) := by decide +kernel
theorem d132_27 : decode (cc 132) 27 = .ok (.iload_n 2, 1) := by decide +kernel
theorem d132_28 : decode (cc 132) 28 = .ok (.iload 4, 2) := by decide +kernel
theorem d132_30 : decode (cc 132) 30 = .ok (.invokevirtual 143, 3) := by decide +kernel
theorem d132_33 : decode (cc 132) 33 = .ok (.aload_n 0, 1) := by decide +kernel
theorem d132_34 : decode (cc 132) 34 = .ok (.getfield 73, 3) := by decide +kernel
theorem d132_37 : decode (cc 132) 37 = .ok (.iload_n 2, 1) := by decide +kernel
theorem d132_38 : decode (cc 132) 38 = .ok (.iload 4, 2) := by decide +kernel
theorem d132_40 : decode (cc 132) 40 = .ok (.invokestatic 131, 3) := by decide +kernel
theorem d132_43 : decode (cc 132) 43 = .ok (.ladd, 1) := by decide +kernel
theorem d132_44 : decode (cc 132) 44 = .ok (.lconst 0, 1) := by decide +kernel
theorem d132_45 : decode (cc 132) 45 = .ok (.lcmp, 1) := by decide +kernel
theorem d132_46 : decode (cc 132) 46 = .ok (.ifCond .ge 7, 3) := by decide +kernel
theorem d132_49 : decode (cc 132) 49 = .ok (.iconst 1, 1) := by decide +kernel
theorem d132_50 : decode (cc 132) 50 = .ok (.goto 4, 3) := by decide +kernel
theorem d132_53 : decode (cc 132) 53 = .ok (.iconst 0, 1) := by decide +kernel
theorem d132_54 : decode (cc 132) 54 = .ok (.istore_n 3, 1) := by decide +kernel
theorem d132_55 : decode (cc 132) 55 = .ok (.iinc 4 1, 3) := by decide +kernel
theorem d132_58 : decode (cc 132) 58 = .ok (.goto (-43), 3) := by decide +kernel
theorem d132_61 : decode (cc 132) 61 = .ok (.iload_n 3, 1) := by decide +kernel
theorem d132_62 : decode (cc 132) 62 = .ok (.ifCond .eq 9, 3) := by decide +kernel
theorem d132_65 : decode (cc 132) 65 = .ok (.iload_n 1, 1) := by decide +kernel
theorem d132_66 : decode (cc 132) 66 = .ok (.iconst 1, 1) := by decide +kernel
theorem d132_67 : decode (cc 132) 67 = .ok (.iadd, 1) := by decide +kernel
theorem d132_68 : decode (cc 132) 68 = .ok (.goto 4, 3) := by decide +kernel
theorem d132_71 : decode (cc 132) 71 = .ok (.iload_n 1, 1) := by decide +kernel
theorem d132_72 : decode (cc 132) 72 = .ok (.istore_n 1, 1) := by decide +kernel
theorem d132_73 : decode (cc 132) 73 = .ok (.iinc 2 1, 3) := by decide +kernel
theorem d132_76 : decode (cc 132) 76 = .ok (.goto (-72), 3) := by decide +kernel
theorem d132_79 : decode (cc 132) 79 = .ok (.iload_n 1, 1) := by decide +kernel
theorem d132_80 : decode (cc 132) 80 = .ok (.ireturn, 1) := by decide +kernel
theorem d133_0 : decode (cc 133) 0 = .ok (.new 8, 3) := by decide +kernel
theorem d133_3 : decode (cc 133) 3 = .ok (.dup, 1) := by decide +kernel
theorem d133_4 : decode (cc 133) 4 = .ok (.invokespecial 77, 3) := by decide +kernel
theorem d133_7 : decode (cc 133) 7 = .ok (.astore_n 1, 1) := by decide +kernel
theorem d133_8 : decode (cc 133) 8 = .ok (.new 78, 3) := by decide +kernel
theorem d133_11 : decode (cc 133) 11 = .ok (.dup, 1) := by decide +kernel
theorem d133_12 : decode (cc 133) 12 = .ok (.invokespecial 80, 3) := by decide +kernel
theorem d133_15 : decode (cc 133) 15 = .ok (.astore_n 2, 1) := by decide +kernel
theorem d133_16 : decode (cc 133) 16 = .ok (.iconst 1, 1) := by decide +kernel
theorem d133_17 : decode (cc 133) 17 = .ok (.newarray .long, 2) := by decide +kernel
theorem d133_19 : decode (cc 133) 19 = .ok (.astore_n 3, 1) := by decide +kernel
theorem d133_20 : decode (cc 133) 20 = .ok (.iconst 0, 1) := by decide +kernel
theorem d133_21 : decode (cc 133) 21 = .ok (.istore 4, 2) := by decide +kernel
theorem d133_23 : decode (cc 133) 23 = .ok (.iload 4, 2) := by decide +kernel
theorem d133_25 : decode (cc 133) 25 = .ok (.aload_n 0, 1) := by decide +kernel
theorem d133_26 : decode (cc 133) 26 = .ok (.arraylength, 1) := by decide +kernel
theorem d133_27 : decode (cc 133) 27 = .ok (.bipush 6, 2) := by decide +kernel
theorem d133_29 : decode (cc 133) 29 = .ok (.isub, 1) := by decide +kernel
theorem d133_30 : decode (cc 133) 30 = .ok (.if_icmp .gt 1404, 3) := by decide +kernel
theorem d133_33 : decode (cc 133) 33 = .ok (.aload_n 0, 1) := by decide +kernel
theorem d133_34 : decode (cc 133) 34 = .ok (.iload 4, 2) := by decide +kernel
theorem d133_36 : decode (cc 133) 36 = .ok (.iaload, 1) := by decide +kernel
theorem d133_37 : decode (cc 133) 37 = .ok (.bipush 31, 2) := by decide +kernel
theorem d133_39 : decode (cc 133) 39 = .ok (.iand, 1) := by decide +kernel
theorem d133_40 : decode (cc 133) 40 = .ok (.tableswitch 1388 0 18 #[92, 176, 248, 308, 392, 460, 540, 620, 700, 713, 769, 836, 903, 970, 1049, 1129, 1209, 1265, 1332], 92) := by decide +kernel
theorem d133_132 : decode (cc 133) 132 = .ok (.aload_n 1, 1) := by decide +kernel
theorem d133_133 : decode (cc 133) 133 = .ok (.aload_n 0, 1) := by decide +kernel
theorem d133_134 : decode (cc 133) 134 = .ok (.iload 4, 2) := by decide +kernel
theorem d133_136 : decode (cc 133) 136 = .ok (.iconst 1, 1) := by decide +kernel
theorem d133_137 : decode (cc 133) 137 = .ok (.iadd, 1) := by decide +kernel
theorem d133_138 : decode (cc 133) 138 = .ok (.iaload, 1) := by decide +kernel
theorem d133_139 : decode (cc 133) 139 = .ok (.aload_n 0, 1) := by decide +kernel
theorem d133_140 : decode (cc 133) 140 = .ok (.iload 4, 2) := by decide +kernel
theorem d133_142 : decode (cc 133) 142 = .ok (.iconst 2, 1) := by decide +kernel
theorem d133_143 : decode (cc 133) 143 = .ok (.iadd, 1) := by decide +kernel
theorem d133_144 : decode (cc 133) 144 = .ok (.iaload, 1) := by decide +kernel
theorem d133_145 : decode (cc 133) 145 = .ok (.aload_n 0, 1) := by decide +kernel
theorem d133_146 : decode (cc 133) 146 = .ok (.iload 4, 2) := by decide +kernel
theorem d133_148 : decode (cc 133) 148 = .ok (.iconst 3, 1) := by decide +kernel
theorem d133_149 : decode (cc 133) 149 = .ok (.iadd, 1) := by decide +kernel
theorem d133_150 : decode (cc 133) 150 = .ok (.iaload, 1) := by decide +kernel
theorem d133_151 : decode (cc 133) 151 = .ok (.aload_n 0, 1) := by decide +kernel
theorem d133_152 : decode (cc 133) 152 = .ok (.iload 4, 2) := by decide +kernel
theorem d133_154 : decode (cc 133) 154 = .ok (.iconst 4, 1) := by decide +kernel
theorem d133_155 : decode (cc 133) 155 = .ok (.iadd, 1) := by decide +kernel
theorem d133_156 : decode (cc 133) 156 = .ok (.iaload, 1) := by decide +kernel
theorem d133_157 : decode (cc 133) 157 = .ok (.aload_n 0, 1) := by decide +kernel
theorem d133_158 : decode (cc 133) 158 = .ok (.iload 4, 2) := by decide +kernel
theorem d133_160 : decode (cc 133) 160 = .ok (.iconst 5, 1) := by decide +kernel
theorem d133_161 : decode (cc 133) 161 = .ok (.iadd, 1) := by decide +kernel
theorem d133_162 : decode (cc 133) 162 = .ok (.iaload, 1) := by decide +kernel
theorem d133_163 : decode (cc 133) 163 = .ok (.invokestatic 81, 3) := by decide +kernel
theorem d133_166 : decode (cc 133) 166 = .ok (.istore 5, 2) := by decide +kernel
theorem d133_168 : decode (cc 133) 168 = .ok (.aload_n 2, 1) := by decide +kernel
theorem d133_169 : decode (cc 133) 169 = .ok (.aload_n 0, 1) := by decide +kernel
theorem d133_170 : decode (cc 133) 170 = .ok (.iload 4, 2) := by decide +kernel
theorem d133_172 : decode (cc 133) 172 = .ok (.iconst 1, 1) := by decide +kernel
theorem d133_173 : decode (cc 133) 173 = .ok (.iadd, 1) := by decide +kernel
theorem d133_174 : decode (cc 133) 174 = .ok (.iaload, 1) := by decide +kernel
theorem d133_175 : decode (cc 133) 175 = .ok (.aload_n 0, 1) := by decide +kernel
theorem d133_176 : decode (cc 133) 176 = .ok (.iload 4, 2) := by decide +kernel
theorem d133_178 : decode (cc 133) 178 = .ok (.iconst 2, 1) := by decide +kernel
theorem d133_179 : decode (cc 133) 179 = .ok (.iadd, 1) := by decide +kernel
theorem d133_180 : decode (cc 133) 180 = .ok (.iaload, 1) := by decide +kernel
theorem d133_181 : decode (cc 133) 181 = .ok (.aload_n 0, 1) := by decide +kernel
theorem d133_182 : decode (cc 133) 182 = .ok (.iload 4, 2) := by decide +kernel
theorem d133_184 : decode (cc 133) 184 = .ok (.iconst 3, 1) := by decide +kernel
theorem d133_185 : decode (cc 133) 185 = .ok (.iadd, 1) := by decide +kernel
theorem d133_186 : decode (cc 133) 186 = .ok (.iaload, 1) := by decide +kernel
theorem d133_187 : decode (cc 133) 187 = .ok (.aload_n 0, 1) := by decide +kernel
theorem d133_188 : decode (cc 133) 188 = .ok (.iload 4, 2) := by decide +kernel
theorem d133_190 : decode (cc 133) 190 = .ok (.iconst 4, 1) := by decide +kernel
theorem d133_191 : decode (cc 133) 191 = .ok (.iadd, 1) := by decide +kernel
theorem d133_192 : decode (cc 133) 192 = .ok (.iaload, 1) := by decide +kernel
theorem d133_193 : decode (cc 133) 193 = .ok (.aload_n 0, 1) := by decide +kernel
theorem d133_194 : decode (cc 133) 194 = .ok (.iload 4, 2) := by decide +kernel
theorem d133_196 : decode (cc 133) 196 = .ok (.iconst 5, 1) := by decide +kernel
theorem d133_197 : decode (cc 133) 197 = .ok (.iadd, 1) := by decide +kernel
theorem d133_198 : decode (cc 133) 198 = .ok (.iaload, 1) := by decide +kernel
theorem d133_199 : decode (cc 133) 199 = .ok (.invokevirtual 86, 3) := by decide +kernel
theorem d133_202 : decode (cc 133) 202 = .ok (.aload_n 2, 1) := by decide +kernel
theorem d133_203 : decode (cc 133) 203 = .ok (.invokevirtual 87, 3) := by decide +kernel
theorem d133_206 : decode (cc 133) 206 = .ok (.iload 5, 2) := by decide +kernel
theorem d133_208 : decode (cc 133) 208 = .ok (.if_icmp .eq 5, 3) := by decide +kernel
theorem d133_211 : decode (cc 133) 211 = .ok (.iconst 0, 1) := by decide +kernel
theorem d133_212 : decode (cc 133) 212 = .ok (.ireturn, 1) := by decide +kernel
theorem d133_213 : decode (cc 133) 213 = .ok (.goto 1215, 3) := by decide +kernel
theorem d133_216 : decode (cc 133) 216 = .ok (.aload_n 1, 1) := by decide +kernel
theorem d133_217 : decode (cc 133) 217 = .ok (.aload_n 0, 1) := by decide +kernel
theorem d133_218 : decode (cc 133) 218 = .ok (.iload 4, 2) := by decide +kernel
theorem d133_220 : decode (cc 133) 220 = .ok (.iconst 1, 1) := by decide +kernel
theorem d133_221 : decode (cc 133) 221 = .ok (.iadd, 1) := by decide +kernel
theorem d133_222 : decode (cc 133) 222 = .ok (.iaload, 1) := by decide +kernel
theorem d133_223 : decode (cc 133) 223 = .ok (.aload_n 0, 1) := by decide +kernel
theorem d133_224 : decode (cc 133) 224 = .ok (.iload 4, 2) := by decide +kernel
theorem d133_226 : decode (cc 133) 226 = .ok (.iconst 2, 1) := by decide +kernel
theorem d133_227 : decode (cc 133) 227 = .ok (.iadd, 1) := by decide +kernel
theorem d133_228 : decode (cc 133) 228 = .ok (.iaload, 1) := by decide +kernel
theorem d133_229 : decode (cc 133) 229 = .ok (.aload_n 0, 1) := by decide +kernel
theorem d133_230 : decode (cc 133) 230 = .ok (.iload 4, 2) := by decide +kernel
theorem d133_232 : decode (cc 133) 232 = .ok (.iconst 3, 1) := by decide +kernel
theorem d133_233 : decode (cc 133) 233 = .ok (.iadd, 1) := by decide +kernel
theorem d133_234 : decode (cc 133) 234 = .ok (.iaload, 1) := by decide +kernel
theorem d133_235 : decode (cc 133) 235 = .ok (.aload_n 0, 1) := by decide +kernel
theorem d133_236 : decode (cc 133) 236 = .ok (.iload 4, 2) := by decide +kernel
theorem d133_238 : decode (cc 133) 238 = .ok (.iconst 4, 1) := by decide +kernel
theorem d133_239 : decode (cc 133) 239 = .ok (.iadd, 1) := by decide +kernel
theorem d133_240 : decode (cc 133) 240 = .ok (.iaload, 1) := by decide +kernel
theorem d133_241 : decode (cc 133) 241 = .ok (.invokestatic 91, 3) := by decide +kernel
theorem d133_244 : decode (cc 133) 244 = .ok (.istore 5, 2) := by decide +kernel
theorem d133_246 : decode (cc 133) 246 = .ok (.aload_n 2, 1) := by decide +kernel
theorem d133_247 : decode (cc 133) 247 = .ok (.aload_n 0, 1) := by decide +kernel
theorem d133_248 : decode (cc 133) 248 = .ok (.iload 4, 2) := by decide +kernel
theorem d133_250 : decode (cc 133) 250 = .ok (.iconst 1, 1) := by decide +kernel
theorem d133_251 : decode (cc 133) 251 = .ok (.iadd, 1) := by decide +kernel
theorem d133_252 : decode (cc 133) 252 = .ok (.iaload, 1) := by decide +kernel
theorem d133_253 : decode (cc 133) 253 = .ok (.aload_n 0, 1) := by decide +kernel
theorem d133_254 : decode (cc 133) 254 = .ok (.iload 4, 2) := by decide +kernel
theorem d133_256 : decode (cc 133) 256 = .ok (.iconst 2, 1) := by decide +kernel
theorem d133_257 : decode (cc 133) 257 = .ok (.iadd, 1) := by decide +kernel
theorem d133_258 : decode (cc 133) 258 = .ok (.iaload, 1) := by decide +kernel
theorem d133_259 : decode (cc 133) 259 = .ok (.aload_n 0, 1) := by decide +kernel
theorem d133_260 : decode (cc 133) 260 = .ok (.iload 4, 2) := by decide +kernel
theorem d133_262 : decode (cc 133) 262 = .ok (.iconst 3, 1) := by decide +kernel
theorem d133_263 : decode (cc 133) 263 = .ok (.iadd, 1) := by decide +kernel
theorem d133_264 : decode (cc 133) 264 = .ok (.iaload, 1) := by decide +kernel
theorem d133_265 : decode (cc 133) 265 = .ok (.aload_n 0, 1) := by decide +kernel
theorem d133_266 : decode (cc 133) 266 = .ok (.iload 4, 2) := by decide +kernel
theorem d133_268 : decode (cc 133) 268 = .ok (.iconst 4, 1) := by decide +kernel
theorem d133_269 : decode (cc 133) 269 = .ok (.iadd, 1) := by decide +kernel
theorem d133_270 : decode (cc 133) 270 = .ok (.iaload, 1) := by decide +kernel
theorem d133_271 : decode (cc 133) 271 = .ok (.invokevirtual 94, 3) := by decide +kernel
theorem d133_274 : decode (cc 133) 274 = .ok (.aload_n 2, 1) := by decide +kernel
theorem d133_275 : decode (cc 133) 275 = .ok (.invokevirtual 87, 3) := by decide +kernel
theorem d133_278 : decode (cc 133) 278 = .ok (.iload 5, 2) := by decide +kernel
theorem d133_280 : decode (cc 133) 280 = .ok (.if_icmp .eq 5, 3) := by decide +kernel
theorem d133_283 : decode (cc 133) 283 = .ok (.iconst 0, 1) := by decide +kernel
theorem d133_284 : decode (cc 133) 284 = .ok (.ireturn, 1) := by decide +kernel
theorem d133_285 : decode (cc 133) 285 = .ok (.goto 1143, 3) := by decide +kernel
theorem d133_288 : decode (cc 133) 288 = .ok (.aload_n 1, 1) := by decide +kernel
theorem d133_289 : decode (cc 133) 289 = .ok (.aload_n 0, 1) := by decide +kernel
theorem d133_290 : decode (cc 133) 290 = .ok (.iload 4, 2) := by decide +kernel
theorem d133_292 : decode (cc 133) 292 = .ok (.iconst 1, 1) := by decide +kernel
theorem d133_293 : decode (cc 133) 293 = .ok (.iadd, 1) := by decide +kernel
theorem d133_294 : decode (cc 133) 294 = .ok (.iaload, 1) := by decide +kernel
theorem d133_295 : decode (cc 133) 295 = .ok (.aload_n 0, 1) := by decide +kernel
theorem d133_296 : decode (cc 133) 296 = .ok (.iload 4, 2) := by decide +kernel
theorem d133_298 : decode (cc 133) 298 = .ok (.iconst 2, 1) := by decide +kernel
theorem d133_299 : decode (cc 133) 299 = .ok (.iadd, 1) := by decide +kernel
theorem d133_300 : decode (cc 133) 300 = .ok (.iaload, 1) := by decide +kernel
theorem d133_301 : decode (cc 133) 301 = .ok (.aload_n 0, 1) := by decide +kernel
theorem d133_302 : decode (cc 133) 302 = .ok (.iload 4, 2) := by decide +kernel
theorem d133_304 : decode (cc 133) 304 = .ok (.iconst 3, 1) := by decide +kernel
theorem d133_305 : decode (cc 133) 305 = .ok (.iadd, 1) := by decide +kernel
theorem d133_306 : decode (cc 133) 306 = .ok (.iaload, 1) := by decide +kernel
theorem d133_307 : decode (cc 133) 307 = .ok (.invokestatic 95, 3) := by decide +kernel
theorem d133_310 : decode (cc 133) 310 = .ok (.istore 5, 2) := by decide +kernel
theorem d133_312 : decode (cc 133) 312 = .ok (.aload_n 2, 1) := by decide +kernel
theorem d133_313 : decode (cc 133) 313 = .ok (.aload_n 0, 1) := by decide +kernel
theorem d133_314 : decode (cc 133) 314 = .ok (.iload 4, 2) := by decide +kernel
theorem d133_316 : decode (cc 133) 316 = .ok (.iconst 1, 1) := by decide +kernel
theorem d133_317 : decode (cc 133) 317 = .ok (.iadd, 1) := by decide +kernel
theorem d133_318 : decode (cc 133) 318 = .ok (.iaload, 1) := by decide +kernel
theorem d133_319 : decode (cc 133) 319 = .ok (.aload_n 0, 1) := by decide +kernel
theorem d133_320 : decode (cc 133) 320 = .ok (.iload 4, 2) := by decide +kernel
theorem d133_322 : decode (cc 133) 322 = .ok (.iconst 2, 1) := by decide +kernel
theorem d133_323 : decode (cc 133) 323 = .ok (.iadd, 1) := by decide +kernel
theorem d133_324 : decode (cc 133) 324 = .ok (.iaload, 1) := by decide +kernel
theorem d133_325 : decode (cc 133) 325 = .ok (.aload_n 0, 1) := by decide +kernel
theorem d133_326 : decode (cc 133) 326 = .ok (.iload 4, 2) := by decide +kernel
theorem d133_328 : decode (cc 133) 328 = .ok (.iconst 3, 1) := by decide +kernel
theorem d133_329 : decode (cc 133) 329 = .ok (.iadd, 1) := by decide +kernel
theorem d133_330 : decode (cc 133) 330 = .ok (.iaload, 1) := by decide +kernel
theorem d133_331 : decode (cc 133) 331 = .ok (.invokevirtual 98, 3) := by decide +kernel
theorem d133_334 : decode (cc 133) 334 = .ok (.aload_n 2, 1) := by decide +kernel
theorem d133_335 : decode (cc 133) 335 = .ok (.invokevirtual 87, 3) := by decide +kernel
theorem d133_338 : decode (cc 133) 338 = .ok (.iload 5, 2) := by decide +kernel
theorem d133_340 : decode (cc 133) 340 = .ok (.if_icmp .eq 5, 3) := by decide +kernel
theorem d133_343 : decode (cc 133) 343 = .ok (.iconst 0, 1) := by decide +kernel
theorem d133_344 : decode (cc 133) 344 = .ok (.ireturn, 1) := by decide +kernel
theorem d133_345 : decode (cc 133) 345 = .ok (.goto 1083, 3) := by decide +kernel
theorem d133_348 : decode (cc 133) 348 = .ok (.aload_n 1, 1) := by decide +kernel
theorem d133_349 : decode (cc 133) 349 = .ok (.aload_n 0, 1) := by decide +kernel
theorem d133_350 : decode (cc 133) 350 = .ok (.iload 4, 2) := by decide +kernel
theorem d133_352 : decode (cc 133) 352 = .ok (.iconst 1, 1) := by decide +kernel
theorem d133_353 : decode (cc 133) 353 = .ok (.iadd, 1) := by decide +kernel
theorem d133_354 : decode (cc 133) 354 = .ok (.iaload, 1) := by decide +kernel
theorem d133_355 : decode (cc 133) 355 = .ok (.aload_n 0, 1) := by decide +kernel
theorem d133_356 : decode (cc 133) 356 = .ok (.iload 4, 2) := by decide +kernel
theorem d133_358 : decode (cc 133) 358 = .ok (.iconst 2, 1) := by decide +kernel
theorem d133_359 : decode (cc 133) 359 = .ok (.iadd, 1) := by decide +kernel
theorem d133_360 : decode (cc 133) 360 = .ok (.iaload, 1) := by decide +kernel
theorem d133_361 : decode (cc 133) 361 = .ok (.aload_n 0, 1) := by decide +kernel
theorem d133_362 : decode (cc 133) 362 = .ok (.iload 4, 2) := by decide +kernel
theorem d133_364 : decode (cc 133) 364 = .ok (.iconst 3, 1) := by decide +kernel
theorem d133_365 : decode (cc 133) 365 = .ok (.iadd, 1) := by decide +kernel
theorem d133_366 : decode (cc 133) 366 = .ok (.iaload, 1) := by decide +kernel
theorem d133_367 : decode (cc 133) 367 = .ok (.aload_n 0, 1) := by decide +kernel
theorem d133_368 : decode (cc 133) 368 = .ok (.iload 4, 2) := by decide +kernel
theorem d133_370 : decode (cc 133) 370 = .ok (.iconst 4, 1) := by decide +kernel
theorem d133_371 : decode (cc 133) 371 = .ok (.iadd, 1) := by decide +kernel
theorem d133_372 : decode (cc 133) 372 = .ok (.iaload, 1) := by decide +kernel
theorem d133_373 : decode (cc 133) 373 = .ok (.aload_n 0, 1) := by decide +kernel
theorem d133_374 : decode (cc 133) 374 = .ok (.iload 4, 2) := by decide +kernel
theorem d133_376 : decode (cc 133) 376 = .ok (.iconst 5, 1) := by decide +kernel
theorem d133_377 : decode (cc 133) 377 = .ok (.iadd, 1) := by decide +kernel
theorem d133_378 : decode (cc 133) 378 = .ok (.iaload, 1) := by decide +kernel
theorem d133_379 : decode (cc 133) 379 = .ok (.invokestatic 99, 3) := by decide +kernel
theorem d133_382 : decode (cc 133) 382 = .ok (.istore 5, 2) := by decide +kernel
theorem d133_384 : decode (cc 133) 384 = .ok (.aload_n 2, 1) := by decide +kernel
theorem d133_385 : decode (cc 133) 385 = .ok (.aload_n 0, 1) := by decide +kernel
theorem d133_386 : decode (cc 133) 386 = .ok (.iload 4, 2) := by decide +kernel
theorem d133_388 : decode (cc 133) 388 = .ok (.iconst 1, 1) := by decide +kernel
theorem d133_389 : decode (cc 133) 389 = .ok (.iadd, 1) := by decide +kernel
theorem d133_390 : decode (cc 133) 390 = .ok (.iaload, 1) := by decide +kernel
theorem d133_391 : decode (cc 133) 391 = .ok (.aload_n 0, 1) := by decide +kernel
theorem d133_392 : decode (cc 133) 392 = .ok (.iload 4, 2) := by decide +kernel
theorem d133_394 : decode (cc 133) 394 = .ok (.iconst 2, 1) := by decide +kernel
theorem d133_395 : decode (cc 133) 395 = .ok (.iadd, 1) := by decide +kernel
theorem d133_396 : decode (cc 133) 396 = .ok (.iaload, 1) := by decide +kernel
theorem d133_397 : decode (cc 133) 397 = .ok (.aload_n 0, 1) := by decide +kernel
theorem d133_398 : decode (cc 133) 398 = .ok (.iload 4, 2) := by decide +kernel
theorem d133_400 : decode (cc 133) 400 = .ok (.iconst 3, 1) := by decide +kernel
theorem d133_401 : decode (cc 133) 401 = .ok (.iadd, 1) := by decide +kernel
theorem d133_402 : decode (cc 133) 402 = .ok (.iaload, 1) := by decide +kernel
theorem d133_403 : decode (cc 133) 403 = .ok (.aload_n 0, 1) := by decide +kernel
theorem d133_404 : decode (cc 133) 404 = .ok (.iload 4, 2) := by decide +kernel
theorem d133_406 : decode (cc 133) 406 = .ok (.iconst 4, 1) := by decide +kernel
theorem d133_407 : decode (cc 133) 407 = .ok (.iadd, 1) := by decide +kernel
theorem d133_408 : decode (cc 133) 408 = .ok (.iaload, 1) := by decide +kernel
theorem d133_409 : decode (cc 133) 409 = .ok (.aload_n 0, 1) := by decide +kernel
theorem d133_410 : decode (cc 133) 410 = .ok (.iload 4, 2) := by decide +kernel
theorem d133_412 : decode (cc 133) 412 = .ok (.iconst 5, 1) := by decide +kernel
theorem d133_413 : decode (cc 133) 413 = .ok (.iadd, 1) := by decide +kernel
theorem d133_414 : decode (cc 133) 414 = .ok (.iaload, 1) := by decide +kernel
theorem d133_415 : decode (cc 133) 415 = .ok (.invokevirtual 101, 3) := by decide +kernel
theorem d133_418 : decode (cc 133) 418 = .ok (.aload_n 2, 1) := by decide +kernel
theorem d133_419 : decode (cc 133) 419 = .ok (.invokevirtual 87, 3) := by decide +kernel
theorem d133_422 : decode (cc 133) 422 = .ok (.iload 5, 2) := by decide +kernel
theorem d133_424 : decode (cc 133) 424 = .ok (.if_icmp .eq 5, 3) := by decide +kernel
theorem d133_427 : decode (cc 133) 427 = .ok (.iconst 0, 1) := by decide +kernel
theorem d133_428 : decode (cc 133) 428 = .ok (.ireturn, 1) := by decide +kernel
theorem d133_429 : decode (cc 133) 429 = .ok (.goto 999, 3) := by decide +kernel
theorem d133_432 : decode (cc 133) 432 = .ok (.aload_n 1, 1) := by decide +kernel
theorem d133_433 : decode (cc 133) 433 = .ok (.aload_n 0, 1) := by decide +kernel
theorem d133_434 : decode (cc 133) 434 = .ok (.iload 4, 2) := by decide +kernel
theorem d133_436 : decode (cc 133) 436 = .ok (.iconst 1, 1) := by decide +kernel
theorem d133_437 : decode (cc 133) 437 = .ok (.iadd, 1) := by decide +kernel
theorem d133_438 : decode (cc 133) 438 = .ok (.iaload, 1) := by decide +kernel
theorem d133_439 : decode (cc 133) 439 = .ok (.aload_n 0, 1) := by decide +kernel
theorem d133_440 : decode (cc 133) 440 = .ok (.iload 4, 2) := by decide +kernel
theorem d133_442 : decode (cc 133) 442 = .ok (.iconst 2, 1) := by decide +kernel
theorem d133_443 : decode (cc 133) 443 = .ok (.iadd, 1) := by decide +kernel
theorem d133_444 : decode (cc 133) 444 = .ok (.iaload, 1) := by decide +kernel
theorem d133_445 : decode (cc 133) 445 = .ok (.aload_n 3, 1) := by decide +kernel
theorem d133_446 : decode (cc 133) 446 = .ok (.invokestatic 102, 3) := by decide +kernel
theorem d133_449 : decode (cc 133) 449 = .ok (.istore 5, 2) := by decide +kernel
theorem d133_451 : decode (cc 133) 451 = .ok (.aload_n 2, 1) := by decide +kernel
theorem d133_452 : decode (cc 133) 452 = .ok (.aload_n 0, 1) := by decide +kernel
theorem d133_453 : decode (cc 133) 453 = .ok (.iload 4, 2) := by decide +kernel
theorem d133_455 : decode (cc 133) 455 = .ok (.iconst 1, 1) := by decide +kernel
theorem d133_456 : decode (cc 133) 456 = .ok (.iadd, 1) := by decide +kernel
theorem d133_457 : decode (cc 133) 457 = .ok (.iaload, 1) := by decide +kernel
theorem d133_458 : decode (cc 133) 458 = .ok (.aload_n 0, 1) := by decide +kernel
theorem d133_459 : decode (cc 133) 459 = .ok (.iload 4, 2) := by decide +kernel
theorem d133_461 : decode (cc 133) 461 = .ok (.iconst 2, 1) := by decide +kernel
theorem d133_462 : decode (cc 133) 462 = .ok (.iadd, 1) := by decide +kernel
theorem d133_463 : decode (cc 133) 463 = .ok (.iaload, 1) := by decide +kernel
theorem d133_464 : decode (cc 133) 464 = .ok (.invokevirtual 105, 3) := by decide +kernel
theorem d133_467 : decode (cc 133) 467 = .ok (.istore 6, 2) := by decide +kernel
theorem d133_469 : decode (cc 133) 469 = .ok (.aload_n 2, 1) := by decide +kernel
theorem d133_470 : decode (cc 133) 470 = .ok (.invokevirtual 87, 3) := by decide +kernel
theorem d133_473 : decode (cc 133) 473 = .ok (.iload 5, 2) := by decide +kernel
theorem d133_475 : decode (cc 133) 475 = .ok (.if_icmp .eq 5, 3) := by decide +kernel
theorem d133_478 : decode (cc 133) 478 = .ok (.iconst 0, 1) := by decide +kernel
theorem d133_479 : decode (cc 133) 479 = .ok (.ireturn, 1) := by decide +kernel
theorem d133_480 : decode (cc 133) 480 = .ok (.iload 5, 2) := by decide +kernel
theorem d133_482 : decode (cc 133) 482 = .ok (.ifCond .ne 15, 3) := by decide +kernel
theorem d133_485 : decode (cc 133) 485 = .ok (.aload_n 3, 1) := by decide +kernel
theorem d133_486 : decode (cc 133) 486 = .ok (.iconst 0, 1) := by decide +kernel
theorem d133_487 : decode (cc 133) 487 = .ok (.laload, 1) := by decide +kernel
theorem d133_488 : decode (cc 133) 488 = .ok (.iload 6, 2) := by decide +kernel
theorem d133_490 : decode (cc 133) 490 = .ok (.i2l, 1) := by decide +kernel
theorem d133_491 : decode (cc 133) 491 = .ok (.lcmp, 1) := by decide +kernel
theorem d133_492 : decode (cc 133) 492 = .ok (.ifCond .eq 5, 3) := by decide +kernel
theorem d133_495 : decode (cc 133) 495 = .ok (.iconst 0, 1) := by decide +kernel
theorem d133_496 : decode (cc 133) 496 = .ok (.ireturn, 1) := by decide +kernel
theorem d133_497 : decode (cc 133) 497 = .ok (.goto 931, 3) := by decide +kernel
theorem d133_500 : decode (cc 133) 500 = .ok (.aload_n 1, 1) := by decide +kernel
theorem d133_501 : decode (cc 133) 501 = .ok (.aload_n 0, 1) := by decide +kernel
theorem d133_502 : decode (cc 133) 502 = .ok (.iload 4, 2) := by decide +kernel
theorem d133_504 : decode (cc 133) 504 = .ok (.iconst 1, 1) := by decide +kernel
theorem d133_505 : decode (cc 133) 505 = .ok (.iadd, 1) := by decide +kernel
theorem d133_506 : decode (cc 133) 506 = .ok (.iaload, 1) := by decide +kernel
theorem d133_507 : decode (cc 133) 507 = .ok (.aload_n 0, 1) := by decide +kernel
theorem d133_508 : decode (cc 133) 508 = .ok (.iload 4, 2) := by decide +kernel
theorem d133_510 : decode (cc 133) 510 = .ok (.iconst 2, 1) := by decide +kernel
theorem d133_511 : decode (cc 133) 511 = .ok (.iadd, 1) := by decide +kernel
theorem d133_512 : decode (cc 133) 512 = .ok (.iaload, 1) := by decide +kernel
theorem d133_513 : decode (cc 133) 513 = .ok (.aload_n 0, 1) := by decide +kernel
theorem d133_514 : decode (cc 133) 514 = .ok (.iload 4, 2) := by decide +kernel
theorem d133_516 : decode (cc 133) 516 = .ok (.iconst 3, 1) := by decide +kernel
theorem d133_517 : decode (cc 133) 517 = .ok (.iadd, 1) := by decide +kernel
theorem d133_518 : decode (cc 133) 518 = .ok (.iaload, 1) := by decide +kernel
theorem d133_519 : decode (cc 133) 519 = .ok (.aload_n 3, 1) := by decide +kernel
theorem d133_520 : decode (cc 133) 520 = .ok (.invokestatic 106, 3) := by decide +kernel
theorem d133_523 : decode (cc 133) 523 = .ok (.istore 5, 2) := by decide +kernel
theorem d133_525 : decode (cc 133) 525 = .ok (.aload_n 2, 1) := by decide +kernel
theorem d133_526 : decode (cc 133) 526 = .ok (.aload_n 0, 1) := by decide +kernel
theorem d133_527 : decode (cc 133) 527 = .ok (.iload 4, 2) := by decide +kernel
theorem d133_529 : decode (cc 133) 529 = .ok (.iconst 1, 1) := by decide +kernel
theorem d133_530 : decode (cc 133) 530 = .ok (.iadd, 1) := by decide +kernel
theorem d133_531 : decode (cc 133) 531 = .ok (.iaload, 1) := by decide +kernel
theorem d133_532 : decode (cc 133) 532 = .ok (.aload_n 0, 1) := by decide +kernel
theorem d133_533 : decode (cc 133) 533 = .ok (.iload 4, 2) := by decide +kernel
theorem d133_535 : decode (cc 133) 535 = .ok (.iconst 2, 1) := by decide +kernel
theorem d133_536 : decode (cc 133) 536 = .ok (.iadd, 1) := by decide +kernel
theorem d133_537 : decode (cc 133) 537 = .ok (.iaload, 1) := by decide +kernel
theorem d133_538 : decode (cc 133) 538 = .ok (.aload_n 0, 1) := by decide +kernel
theorem d133_539 : decode (cc 133) 539 = .ok (.iload 4, 2) := by decide +kernel
theorem d133_541 : decode (cc 133) 541 = .ok (.iconst 3, 1) := by decide +kernel
theorem d133_542 : decode (cc 133) 542 = .ok (.iadd, 1) := by decide +kernel
theorem d133_543 : decode (cc 133) 543 = .ok (.iaload, 1) := by decide +kernel
theorem d133_544 : decode (cc 133) 544 = .ok (.invokevirtual 109, 3) := by decide +kernel
theorem d133_547 : decode (cc 133) 547 = .ok (.istore 6, 2) := by decide +kernel
theorem d133_549 : decode (cc 133) 549 = .ok (.aload_n 2, 1) := by decide +kernel
theorem d133_550 : decode (cc 133) 550 = .ok (.invokevirtual 87, 3) := by decide +kernel
theorem d133_553 : decode (cc 133) 553 = .ok (.iload 5, 2) := by decide +kernel
theorem d133_555 : decode (cc 133) 555 = .ok (.if_icmp .eq 5, 3) := by decide +kernel
theorem d133_558 : decode (cc 133) 558 = .ok (.iconst 0, 1) := by decide +kernel
theorem d133_559 : decode (cc 133) 559 = .ok (.ireturn, 1) := by decide +kernel
theorem d133_560 : decode (cc 133) 560 = .ok (.iload 5, 2) := by decide +kernel
theorem d133_562 : decode (cc 133) 562 = .ok (.ifCond .ne 15, 3) := by decide +kernel
theorem d133_565 : decode (cc 133) 565 = .ok (.aload_n 3, 1) := by decide +kernel
theorem d133_566 : decode (cc 133) 566 = .ok (.iconst 0, 1) := by decide +kernel
theorem d133_567 : decode (cc 133) 567 = .ok (.laload, 1) := by decide +kernel
theorem d133_568 : decode (cc 133) 568 = .ok (.iload 6, 2) := by decide +kernel
theorem d133_570 : decode (cc 133) 570 = .ok (.i2l, 1) := by decide +kernel
theorem d133_571 : decode (cc 133) 571 = .ok (.lcmp, 1) := by decide +kernel
theorem d133_572 : decode (cc 133) 572 = .ok (.ifCond .eq 5, 3) := by decide +kernel
theorem d133_575 : decode (cc 133) 575 = .ok (.iconst 0, 1) := by decide +kernel
theorem d133_576 : decode (cc 133) 576 = .ok (.ireturn, 1) := by decide +kernel
theorem d133_577 : decode (cc 133) 577 = .ok (.goto 851, 3) := by decide +kernel
theorem d133_580 : decode (cc 133) 580 = .ok (.aload_n 1, 1) := by decide +kernel
theorem d133_581 : decode (cc 133) 581 = .ok (.aload_n 0, 1) := by decide +kernel
theorem d133_582 : decode (cc 133) 582 = .ok (.iload 4, 2) := by decide +kernel
theorem d133_584 : decode (cc 133) 584 = .ok (.iconst 1, 1) := by decide +kernel
theorem d133_585 : decode (cc 133) 585 = .ok (.iadd, 1) := by decide +kernel
theorem d133_586 : decode (cc 133) 586 = .ok (.iaload, 1) := by decide +kernel
theorem d133_587 : decode (cc 133) 587 = .ok (.aload_n 0, 1) := by decide +kernel
theorem d133_588 : decode (cc 133) 588 = .ok (.iload 4, 2) := by decide +kernel
theorem d133_590 : decode (cc 133) 590 = .ok (.iconst 2, 1) := by decide +kernel
theorem d133_591 : decode (cc 133) 591 = .ok (.iadd, 1) := by decide +kernel
theorem d133_592 : decode (cc 133) 592 = .ok (.iaload, 1) := by decide +kernel
theorem d133_593 : decode (cc 133) 593 = .ok (.aload_n 0, 1) := by decide +kernel
theorem d133_594 : decode (cc 133) 594 = .ok (.iload 4, 2) := by decide +kernel
theorem d133_596 : decode (cc 133) 596 = .ok (.iconst 3, 1) := by decide +kernel
theorem d133_597 : decode (cc 133) 597 = .ok (.iadd, 1) := by decide +kernel
theorem d133_598 : decode (cc 133) 598 = .ok (.iaload, 1) := by decide +kernel
theorem d133_599 : decode (cc 133) 599 = .ok (.aload_n 3, 1) := by decide +kernel
theorem d133_600 : decode (cc 133) 600 = .ok (.invokestatic 110, 3) := by decide +kernel
theorem d133_603 : decode (cc 133) 603 = .ok (.istore 5, 2) := by decide +kernel
theorem d133_605 : decode (cc 133) 605 = .ok (.aload_n 2, 1) := by decide +kernel
theorem d133_606 : decode (cc 133) 606 = .ok (.aload_n 0, 1) := by decide +kernel
theorem d133_607 : decode (cc 133) 607 = .ok (.iload 4, 2) := by decide +kernel
theorem d133_609 : decode (cc 133) 609 = .ok (.iconst 1, 1) := by decide +kernel
theorem d133_610 : decode (cc 133) 610 = .ok (.iadd, 1) := by decide +kernel
theorem d133_611 : decode (cc 133) 611 = .ok (.iaload, 1) := by decide +kernel
theorem d133_612 : decode (cc 133) 612 = .ok (.aload_n 0, 1) := by decide +kernel
theorem d133_613 : decode (cc 133) 613 = .ok (.iload 4, 2) := by decide +kernel
theorem d133_615 : decode (cc 133) 615 = .ok (.iconst 2, 1) := by decide +kernel
theorem d133_616 : decode (cc 133) 616 = .ok (.iadd, 1) := by decide +kernel
theorem d133_617 : decode (cc 133) 617 = .ok (.iaload, 1) := by decide +kernel
theorem d133_618 : decode (cc 133) 618 = .ok (.aload_n 0, 1) := by decide +kernel
theorem d133_619 : decode (cc 133) 619 = .ok (.iload 4, 2) := by decide +kernel
theorem d133_621 : decode (cc 133) 621 = .ok (.iconst 3, 1) := by decide +kernel
theorem d133_622 : decode (cc 133) 622 = .ok (.iadd, 1) := by decide +kernel
theorem d133_623 : decode (cc 133) 623 = .ok (.iaload, 1) := by decide +kernel
theorem d133_624 : decode (cc 133) 624 = .ok (.invokevirtual 112, 3) := by decide +kernel
theorem d133_627 : decode (cc 133) 627 = .ok (.istore 6, 2) := by decide +kernel
theorem d133_629 : decode (cc 133) 629 = .ok (.aload_n 2, 1) := by decide +kernel
theorem d133_630 : decode (cc 133) 630 = .ok (.invokevirtual 87, 3) := by decide +kernel
theorem d133_633 : decode (cc 133) 633 = .ok (.iload 5, 2) := by decide +kernel
theorem d133_635 : decode (cc 133) 635 = .ok (.if_icmp .eq 5, 3) := by decide +kernel
theorem d133_638 : decode (cc 133) 638 = .ok (.iconst 0, 1) := by decide +kernel
theorem d133_639 : decode (cc 133) 639 = .ok (.ireturn, 1) := by decide +kernel
theorem d133_640 : decode (cc 133) 640 = .ok (.iload 5, 2) := by decide +kernel
theorem d133_642 : decode (cc 133) 642 = .ok (.ifCond .ne 15, 3) := by decide +kernel
theorem d133_645 : decode (cc 133) 645 = .ok (.aload_n 3, 1) := by decide +kernel
theorem d133_646 : decode (cc 133) 646 = .ok (.iconst 0, 1) := by decide +kernel
theorem d133_647 : decode (cc 133) 647 = .ok (.laload, 1) := by decide +kernel
theorem d133_648 : decode (cc 133) 648 = .ok (.iload 6, 2) := by decide +kernel
theorem d133_650 : decode (cc 133) 650 = .ok (.i2l, 1) := by decide +kernel
theorem d133_651 : decode (cc 133) 651 = .ok (.lcmp, 1) := by decide +kernel
theorem d133_652 : decode (cc 133) 652 = .ok (.ifCond .eq 5, 3) := by decide +kernel
theorem d133_655 : decode (cc 133) 655 = .ok (.iconst 0, 1) := by decide +kernel
theorem d133_656 : decode (cc 133) 656 = .ok (.ireturn, 1) := by decide +kernel
theorem d133_657 : decode (cc 133) 657 = .ok (.goto 771, 3) := by decide +kernel
theorem d133_660 : decode (cc 133) 660 = .ok (.aload_n 1, 1) := by decide +kernel
theorem d133_661 : decode (cc 133) 661 = .ok (.aload_n 0, 1) := by decide +kernel
theorem d133_662 : decode (cc 133) 662 = .ok (.iload 4, 2) := by decide +kernel
theorem d133_664 : decode (cc 133) 664 = .ok (.iconst 1, 1) := by decide +kernel
theorem d133_665 : decode (cc 133) 665 = .ok (.iadd, 1) := by decide +kernel
theorem d133_666 : decode (cc 133) 666 = .ok (.iaload, 1) := by decide +kernel
theorem d133_667 : decode (cc 133) 667 = .ok (.aload_n 0, 1) := by decide +kernel
theorem d133_668 : decode (cc 133) 668 = .ok (.iload 4, 2) := by decide +kernel
theorem d133_670 : decode (cc 133) 670 = .ok (.iconst 2, 1) := by decide +kernel
theorem d133_671 : decode (cc 133) 671 = .ok (.iadd, 1) := by decide +kernel
theorem d133_672 : decode (cc 133) 672 = .ok (.iaload, 1) := by decide +kernel
theorem d133_673 : decode (cc 133) 673 = .ok (.aload_n 0, 1) := by decide +kernel
theorem d133_674 : decode (cc 133) 674 = .ok (.iload 4, 2) := by decide +kernel
theorem d133_676 : decode (cc 133) 676 = .ok (.iconst 3, 1) := by decide +kernel
theorem d133_677 : decode (cc 133) 677 = .ok (.iadd, 1) := by decide +kernel
theorem d133_678 : decode (cc 133) 678 = .ok (.iaload, 1) := by decide +kernel
theorem d133_679 : decode (cc 133) 679 = .ok (.aload_n 3, 1) := by decide +kernel
theorem d133_680 : decode (cc 133) 680 = .ok (.invokestatic 113, 3) := by decide +kernel
theorem d133_683 : decode (cc 133) 683 = .ok (.istore 5, 2) := by decide +kernel
theorem d133_685 : decode (cc 133) 685 = .ok (.aload_n 2, 1) := by decide +kernel
theorem d133_686 : decode (cc 133) 686 = .ok (.aload_n 0, 1) := by decide +kernel
theorem d133_687 : decode (cc 133) 687 = .ok (.iload 4, 2) := by decide +kernel
theorem d133_689 : decode (cc 133) 689 = .ok (.iconst 1, 1) := by decide +kernel
theorem d133_690 : decode (cc 133) 690 = .ok (.iadd, 1) := by decide +kernel
theorem d133_691 : decode (cc 133) 691 = .ok (.iaload, 1) := by decide +kernel
theorem d133_692 : decode (cc 133) 692 = .ok (.aload_n 0, 1) := by decide +kernel
theorem d133_693 : decode (cc 133) 693 = .ok (.iload 4, 2) := by decide +kernel
theorem d133_695 : decode (cc 133) 695 = .ok (.iconst 2, 1) := by decide +kernel
theorem d133_696 : decode (cc 133) 696 = .ok (.iadd, 1) := by decide +kernel
theorem d133_697 : decode (cc 133) 697 = .ok (.iaload, 1) := by decide +kernel
theorem d133_698 : decode (cc 133) 698 = .ok (.aload_n 0, 1) := by decide +kernel
theorem d133_699 : decode (cc 133) 699 = .ok (.iload 4, 2) := by decide +kernel
theorem d133_701 : decode (cc 133) 701 = .ok (.iconst 3, 1) := by decide +kernel
theorem d133_702 : decode (cc 133) 702 = .ok (.iadd, 1) := by decide +kernel
theorem d133_703 : decode (cc 133) 703 = .ok (.iaload, 1) := by decide +kernel
theorem d133_704 : decode (cc 133) 704 = .ok (.invokevirtual 115, 3) := by decide +kernel
theorem d133_707 : decode (cc 133) 707 = .ok (.istore 6, 2) := by decide +kernel
theorem d133_709 : decode (cc 133) 709 = .ok (.aload_n 2, 1) := by decide +kernel
theorem d133_710 : decode (cc 133) 710 = .ok (.invokevirtual 87, 3) := by decide +kernel
theorem d133_713 : decode (cc 133) 713 = .ok (.iload 5, 2) := by decide +kernel
theorem d133_715 : decode (cc 133) 715 = .ok (.if_icmp .eq 5, 3) := by decide +kernel
theorem d133_718 : decode (cc 133) 718 = .ok (.iconst 0, 1) := by decide +kernel
theorem d133_719 : decode (cc 133) 719 = .ok (.ireturn, 1) := by decide +kernel
theorem d133_720 : decode (cc 133) 720 = .ok (.iload 5, 2) := by decide +kernel
theorem d133_722 : decode (cc 133) 722 = .ok (.ifCond .ne 15, 3) := by decide +kernel
theorem d133_725 : decode (cc 133) 725 = .ok (.aload_n 3, 1) := by decide +kernel
theorem d133_726 : decode (cc 133) 726 = .ok (.iconst 0, 1) := by decide +kernel
theorem d133_727 : decode (cc 133) 727 = .ok (.laload, 1) := by decide +kernel
theorem d133_728 : decode (cc 133) 728 = .ok (.iload 6, 2) := by decide +kernel
theorem d133_730 : decode (cc 133) 730 = .ok (.i2l, 1) := by decide +kernel
theorem d133_731 : decode (cc 133) 731 = .ok (.lcmp, 1) := by decide +kernel
theorem d133_732 : decode (cc 133) 732 = .ok (.ifCond .eq 5, 3) := by decide +kernel
theorem d133_735 : decode (cc 133) 735 = .ok (.iconst 0, 1) := by decide +kernel
theorem d133_736 : decode (cc 133) 736 = .ok (.ireturn, 1) := by decide +kernel
theorem d133_737 : decode (cc 133) 737 = .ok (.goto 691, 3) := by decide +kernel
theorem d133_740 : decode (cc 133) 740 = .ok (.aload_n 1, 1) := by decide +kernel
theorem d133_741 : decode (cc 133) 741 = .ok (.invokevirtual 116, 3) := by decide +kernel
theorem d133_744 : decode (cc 133) 744 = .ok (.aload_n 2, 1) := by decide +kernel
theorem d133_745 : decode (cc 133) 745 = .ok (.invokevirtual 119, 3) := by decide +kernel
theorem d133_748 : decode (cc 133) 748 = .ok (.if_icmp .eq 680, 3) := by decide +kernel
theorem d133_751 : decode (cc 133) 751 = .ok (.iconst 0, 1) := by decide +kernel
theorem d133_752 : decode (cc 133) 752 = .ok (.ireturn, 1) := by decide +kernel
theorem d133_753 : decode (cc 133) 753 = .ok (.aload_n 1, 1) := by decide +kernel
theorem d133_754 : decode (cc 133) 754 = .ok (.aload_n 0, 1) := by decide +kernel
theorem d133_755 : decode (cc 133) 755 = .ok (.iload 4, 2) := by decide +kernel
theorem d133_757 : decode (cc 133) 757 = .ok (.iconst 1, 1) := by decide +kernel
theorem d133_758 : decode (cc 133) 758 = .ok (.iadd, 1) := by decide +kernel
theorem d133_759 : decode (cc 133) 759 = .ok (.iaload, 1) := by decide +kernel
theorem d133_760 : decode (cc 133) 760 = .ok (.aload_n 3, 1) := by decide +kernel
theorem d133_761 : decode (cc 133) 761 = .ok (.invokestatic 120, 3) := by decide +kernel
theorem d133_764 : decode (cc 133) 764 = .ok (.istore 5, 2) := by decide +kernel
theorem d133_766 : decode (cc 133) 766 = .ok (.aload_n 2, 1) := by decide +kernel
theorem d133_767 : decode (cc 133) 767 = .ok (.aload_n 0, 1) := by decide +kernel
theorem d133_768 : decode (cc 133) 768 = .ok (.iload 4, 2) := by decide +kernel
theorem d133_770 : decode (cc 133) 770 = .ok (.iconst 1, 1) := by decide +kernel
theorem d133_771 : decode (cc 133) 771 = .ok (.iadd, 1) := by decide +kernel
theorem d133_772 : decode (cc 133) 772 = .ok (.iaload, 1) := by decide +kernel
theorem d133_773 : decode (cc 133) 773 = .ok (.invokevirtual 123, 3) := by decide +kernel
theorem d133_776 : decode (cc 133) 776 = .ok (.istore 6, 2) := by decide +kernel
theorem d133_778 : decode (cc 133) 778 = .ok (.aload_n 2, 1) := by decide +kernel
theorem d133_779 : decode (cc 133) 779 = .ok (.invokevirtual 87, 3) := by decide +kernel
theorem d133_782 : decode (cc 133) 782 = .ok (.iload 5, 2) := by decide +kernel
theorem d133_784 : decode (cc 133) 784 = .ok (.if_icmp .eq 5, 3) := by decide +kernel
theorem d133_787 : decode (cc 133) 787 = .ok (.iconst 0, 1) := by decide +kernel
theorem d133_788 : decode (cc 133) 788 = .ok (.ireturn, 1) := by decide +kernel
theorem d133_789 : decode (cc 133) 789 = .ok (.iload 5, 2) := by decide +kernel
theorem d133_791 : decode (cc 133) 791 = .ok (.ifCond .ne 15, 3) := by decide +kernel
theorem d133_794 : decode (cc 133) 794 = .ok (.aload_n 3, 1) := by decide +kernel
theorem d133_795 : decode (cc 133) 795 = .ok (.iconst 0, 1) := by decide +kernel
theorem d133_796 : decode (cc 133) 796 = .ok (.laload, 1) := by decide +kernel
theorem d133_797 : decode (cc 133) 797 = .ok (.iload 6, 2) := by decide +kernel
theorem d133_799 : decode (cc 133) 799 = .ok (.i2l, 1) := by decide +kernel
theorem d133_800 : decode (cc 133) 800 = .ok (.lcmp, 1) := by decide +kernel
theorem d133_801 : decode (cc 133) 801 = .ok (.ifCond .eq 5, 3) := by decide +kernel
theorem d133_804 : decode (cc 133) 804 = .ok (.iconst 0, 1) := by decide +kernel
theorem d133_805 : decode (cc 133) 805 = .ok (.ireturn, 1) := by decide +kernel
theorem d133_806 : decode (cc 133) 806 = .ok (.goto 622, 3) := by decide +kernel
theorem d133_809 : decode (cc 133) 809 = .ok (.aload_n 1, 1) := by decide +kernel
theorem d133_810 : decode (cc 133) 810 = .ok (.aload_n 0, 1) := by decide +kernel
theorem d133_811 : decode (cc 133) 811 = .ok (.iload 4, 2) := by decide +kernel
theorem d133_813 : decode (cc 133) 813 = .ok (.iconst 1, 1) := by decide +kernel
theorem d133_814 : decode (cc 133) 814 = .ok (.iadd, 1) := by decide +kernel
theorem d133_815 : decode (cc 133) 815 = .ok (.iaload, 1) := by decide +kernel
theorem d133_816 : decode (cc 133) 816 = .ok (.aload_n 0, 1) := by decide +kernel
theorem d133_817 : decode (cc 133) 817 = .ok (.iload 4, 2) := by decide +kernel
theorem d133_819 : decode (cc 133) 819 = .ok (.iconst 2, 1) := by decide +kernel
theorem d133_820 : decode (cc 133) 820 = .ok (.iadd, 1) := by decide +kernel
theorem d133_821 : decode (cc 133) 821 = .ok (.iaload, 1) := by decide +kernel
theorem d133_822 : decode (cc 133) 822 = .ok (.aload_n 3, 1) := by decide +kernel
theorem d133_823 : decode (cc 133) 823 = .ok (.invokestatic 124, 3) := by decide +kernel
theorem d133_826 : decode (cc 133) 826 = .ok (.istore 5, 2) := by decide +kernel
theorem d133_828 : decode (cc 133) 828 = .ok (.aload_n 2, 1) := by decide +kernel
theorem d133_829 : decode (cc 133) 829 = .ok (.aload_n 0, 1) := by decide +kernel
theorem d133_830 : decode (cc 133) 830 = .ok (.iload 4, 2) := by decide +kernel
theorem d133_832 : decode (cc 133) 832 = .ok (.iconst 1, 1) := by decide +kernel
theorem d133_833 : decode (cc 133) 833 = .ok (.iadd, 1) := by decide +kernel
theorem d133_834 : decode (cc 133) 834 = .ok (.iaload, 1) := by decide +kernel
theorem d133_835 : decode (cc 133) 835 = .ok (.aload_n 0, 1) := by decide +kernel
theorem d133_836 : decode (cc 133) 836 = .ok (.iload 4, 2) := by decide +kernel
theorem d133_838 : decode (cc 133) 838 = .ok (.iconst 2, 1) := by decide +kernel
theorem d133_839 : decode (cc 133) 839 = .ok (.iadd, 1) := by decide +kernel
theorem d133_840 : decode (cc 133) 840 = .ok (.iaload, 1) := by decide +kernel
theorem d133_841 : decode (cc 133) 841 = .ok (.invokevirtual 126, 3) := by decide +kernel
theorem d133_844 : decode (cc 133) 844 = .ok (.lstore 6, 2) := by decide +kernel
theorem d133_846 : decode (cc 133) 846 = .ok (.aload_n 2, 1) := by decide +kernel
theorem d133_847 : decode (cc 133) 847 = .ok (.invokevirtual 87, 3) := by decide +kernel
theorem d133_850 : decode (cc 133) 850 = .ok (.iload 5, 2) := by decide +kernel
theorem d133_852 : decode (cc 133) 852 = .ok (.if_icmp .eq 5, 3) := by decide +kernel
theorem d133_855 : decode (cc 133) 855 = .ok (.iconst 0, 1) := by decide +kernel
theorem d133_856 : decode (cc 133) 856 = .ok (.ireturn, 1) := by decide +kernel
theorem d133_857 : decode (cc 133) 857 = .ok (.iload 5, 2) := by decide +kernel
theorem d133_859 : decode (cc 133) 859 = .ok (.ifCond .ne 14, 3) := by decide +kernel
theorem d133_862 : decode (cc 133) 862 = .ok (.aload_n 3, 1) := by decide +kernel
theorem d133_863 : decode (cc 133) 863 = .ok (.iconst 0, 1) := by decide +kernel
theorem d133_864 : decode (cc 133) 864 = .ok (.laload, 1) := by decide +kernel
theorem d133_865 : decode (cc 133) 865 = .ok (.lload 6, 2) := by decide +kernel
theorem d133_867 : decode (cc 133) 867 = .ok (.lcmp, 1) := by decide +kernel
theorem d133_868 : decode (cc 133) 868 = .ok (.ifCond .eq 5, 3) := by decide +kernel
theorem d133_871 : decode (cc 133) 871 = .ok (.iconst 0, 1) := by decide +kernel
theorem d133_872 : decode (cc 133) 872 = .ok (.ireturn, 1) := by decide +kernel
theorem d133_873 : decode (cc 133) 873 = .ok (.goto 555, 3) := by decide +kernel
theorem d133_876 : decode (cc 133) 876 = .ok (.aload_n 1, 1) := by decide +kernel
theorem d133_877 : decode (cc 133) 877 = .ok (.aload_n 0, 1) := by decide +kernel
theorem d133_878 : decode (cc 133) 878 = .ok (.iload 4, 2) := by decide +kernel
theorem d133_880 : decode (cc 133) 880 = .ok (.iconst 1, 1) := by decide +kernel
theorem d133_881 : decode (cc 133) 881 = .ok (.iadd, 1) := by decide +kernel
theorem d133_882 : decode (cc 133) 882 = .ok (.iaload, 1) := by decide +kernel
theorem d133_883 : decode (cc 133) 883 = .ok (.aload_n 0, 1) := by decide +kernel
theorem d133_884 : decode (cc 133) 884 = .ok (.iload 4, 2) := by decide +kernel
theorem d133_886 : decode (cc 133) 886 = .ok (.iconst 2, 1) := by decide +kernel
theorem d133_887 : decode (cc 133) 887 = .ok (.iadd, 1) := by decide +kernel
theorem d133_888 : decode (cc 133) 888 = .ok (.iaload, 1) := by decide +kernel
theorem d133_889 : decode (cc 133) 889 = .ok (.aload_n 3, 1) := by decide +kernel
theorem d133_890 : decode (cc 133) 890 = .ok (.invokestatic 127, 3) := by decide +kernel
theorem d133_893 : decode (cc 133) 893 = .ok (.istore 5, 2) := by decide +kernel
theorem d133_895 : decode (cc 133) 895 = .ok (.aload_n 2, 1) := by decide +kernel
theorem d133_896 : decode (cc 133) 896 = .ok (.aload_n 0, 1) := by decide +kernel
theorem d133_897 : decode (cc 133) 897 = .ok (.iload 4, 2) := by decide +kernel
theorem d133_899 : decode (cc 133) 899 = .ok (.iconst 1, 1) := by decide +kernel
theorem d133_900 : decode (cc 133) 900 = .ok (.iadd, 1) := by decide +kernel
theorem d133_901 : decode (cc 133) 901 = .ok (.iaload, 1) := by decide +kernel
theorem d133_902 : decode (cc 133) 902 = .ok (.aload_n 0, 1) := by decide +kernel
theorem d133_903 : decode (cc 133) 903 = .ok (.iload 4, 2) := by decide +kernel
theorem d133_905 : decode (cc 133) 905 = .ok (.iconst 2, 1) := by decide +kernel
theorem d133_906 : decode (cc 133) 906 = .ok (.iadd, 1) := by decide +kernel
theorem d133_907 : decode (cc 133) 907 = .ok (.iaload, 1) := by decide +kernel
theorem d133_908 : decode (cc 133) 908 = .ok (.invokevirtual 129, 3) := by decide +kernel
theorem d133_911 : decode (cc 133) 911 = .ok (.lstore 6, 2) := by decide +kernel
theorem d133_913 : decode (cc 133) 913 = .ok (.aload_n 2, 1) := by decide +kernel
theorem d133_914 : decode (cc 133) 914 = .ok (.invokevirtual 87, 3) := by decide +kernel
theorem d133_917 : decode (cc 133) 917 = .ok (.iload 5, 2) := by decide +kernel
theorem d133_919 : decode (cc 133) 919 = .ok (.if_icmp .eq 5, 3) := by decide +kernel
theorem d133_922 : decode (cc 133) 922 = .ok (.iconst 0, 1) := by decide +kernel
theorem d133_923 : decode (cc 133) 923 = .ok (.ireturn, 1) := by decide +kernel
theorem d133_924 : decode (cc 133) 924 = .ok (.iload 5, 2) := by decide +kernel
theorem d133_926 : decode (cc 133) 926 = .ok (.ifCond .ne 14, 3) := by decide +kernel
theorem d133_929 : decode (cc 133) 929 = .ok (.aload_n 3, 1) := by decide +kernel
theorem d133_930 : decode (cc 133) 930 = .ok (.iconst 0, 1) := by decide +kernel
theorem d133_931 : decode (cc 133) 931 = .ok (.laload, 1) := by decide +kernel
theorem d133_932 : decode (cc 133) 932 = .ok (.lload 6, 2) := by decide +kernel
theorem d133_934 : decode (cc 133) 934 = .ok (.lcmp, 1) := by decide +kernel
theorem d133_935 : decode (cc 133) 935 = .ok (.ifCond .eq 5, 3) := by decide +kernel
theorem d133_938 : decode (cc 133) 938 = .ok (.iconst 0, 1) := by decide +kernel
theorem d133_939 : decode (cc 133) 939 = .ok (.ireturn, 1) := by decide +kernel
theorem d133_940 : decode (cc 133) 940 = .ok (.goto 488, 3) := by decide +kernel
theorem d133_943 : decode (cc 133) 943 = .ok (.aload_n 1, 1) := by decide +kernel
theorem d133_944 : decode (cc 133) 944 = .ok (.aload_n 0, 1) := by decide +kernel
theorem d133_945 : decode (cc 133) 945 = .ok (.iload 4, 2) := by decide +kernel
theorem d133_947 : decode (cc 133) 947 = .ok (.iconst 1, 1) := by decide +kernel
theorem d133_948 : decode (cc 133) 948 = .ok (.iadd, 1) := by decide +kernel
theorem d133_949 : decode (cc 133) 949 = .ok (.iaload, 1) := by decide +kernel
theorem d133_950 : decode (cc 133) 950 = .ok (.aload_n 0, 1) := by decide +kernel
theorem d133_951 : decode (cc 133) 951 = .ok (.iload 4, 2) := by decide +kernel
theorem d133_953 : decode (cc 133) 953 = .ok (.iconst 2, 1) := by decide +kernel
theorem d133_954 : decode (cc 133) 954 = .ok (.iadd, 1) := by decide +kernel
theorem d133_955 : decode (cc 133) 955 = .ok (.iaload, 1) := by decide +kernel
theorem d133_956 : decode (cc 133) 956 = .ok (.aload_n 3, 1) := by decide +kernel
theorem d133_957 : decode (cc 133) 957 = .ok (.invokestatic 130, 3) := by decide +kernel
theorem d133_960 : decode (cc 133) 960 = .ok (.istore 5, 2) := by decide +kernel
theorem d133_962 : decode (cc 133) 962 = .ok (.aload_n 2, 1) := by decide +kernel
theorem d133_963 : decode (cc 133) 963 = .ok (.aload_n 0, 1) := by decide +kernel
theorem d133_964 : decode (cc 133) 964 = .ok (.iload 4, 2) := by decide +kernel
theorem d133_966 : decode (cc 133) 966 = .ok (.iconst 1, 1) := by decide +kernel
theorem d133_967 : decode (cc 133) 967 = .ok (.iadd, 1) := by decide +kernel
theorem d133_968 : decode (cc 133) 968 = .ok (.iaload, 1) := by decide +kernel
theorem d133_969 : decode (cc 133) 969 = .ok (.aload_n 0, 1) := by decide +kernel
theorem d133_970 : decode (cc 133) 970 = .ok (.iload 4, 2) := by decide +kernel
theorem d133_972 : decode (cc 133) 972 = .ok (.iconst 2, 1) := by decide +kernel
theorem d133_973 : decode (cc 133) 973 = .ok (.iadd, 1) := by decide +kernel
theorem d133_974 : decode (cc 133) 974 = .ok (.iaload, 1) := by decide +kernel
theorem d133_975 : decode (cc 133) 975 = .ok (.invokevirtual 132, 3) := by decide +kernel
theorem d133_978 : decode (cc 133) 978 = .ok (.lstore 6, 2) := by decide +kernel
theorem d133_980 : decode (cc 133) 980 = .ok (.aload_n 2, 1) := by decide +kernel
theorem d133_981 : decode (cc 133) 981 = .ok (.invokevirtual 87, 3) := by decide +kernel
theorem d133_984 : decode (cc 133) 984 = .ok (.iload 5, 2) := by decide +kernel
theorem d133_986 : decode (cc 133) 986 = .ok (.if_icmp .eq 5, 3) := by decide +kernel
theorem d133_989 : decode (cc 133) 989 = .ok (.iconst 0, 1) := by decide +kernel
theorem d133_990 : decode (cc 133) 990 = .ok (.ireturn, 1) := by decide +kernel
theorem d133_991 : decode (cc 133) 991 = .ok (.iload 5, 2) := by decide +kernel
theorem d133_993 : decode (cc 133) 993 = .ok (.ifCond .ne 14, 3) := by decide +kernel
theorem d133_996 : decode (cc 133) 996 = .ok (.aload_n 3, 1) := by decide +kernel
theorem d133_997 : decode (cc 133) 997 = .ok (.iconst 0, 1) := by decide +kernel
theorem d133_998 : decode (cc 133) 998 = .ok (.laload, 1) := by decide +kernel
theorem d133_999 : decode (cc 133) 999 = .ok (.lload 6, 2) := by decide +kernel
theorem d133_1001 : decode (cc 133) 1001 = .ok (.lcmp, 1) := by decide +kernel
theorem d133_1002 : decode (cc 133) 1002 = .ok (.ifCond .eq 5, 3) := by decide +kernel
theorem d133_1005 : decode (cc 133) 1005 = .ok (.iconst 0, 1) := by decide +kernel
theorem d133_1006 : decode (cc 133) 1006 = .ok (.ireturn, 1) := by decide +kernel
theorem d133_1007 : decode (cc 133) 1007 = .ok (.goto 421, 3) := by decide +kernel
theorem d133_1010 : decode (cc 133) 1010 = .ok (.aload_n 1, 1) := by decide +kernel
theorem d133_1011 : decode (cc 133) 1011 = .ok (.aload_n 0, 1) := by decide +kernel
theorem d133_1012 : decode (cc 133) 1012 = .ok (.iload 4, 2) := by decide +kernel
theorem d133_1014 : decode (cc 133) 1014 = .ok (.iconst 1, 1) := by decide +kernel
theorem d133_1015 : decode (cc 133) 1015 = .ok (.iadd, 1) := by decide +kernel
theorem d133_1016 : decode (cc 133) 1016 = .ok (.iaload, 1) := by decide +kernel
theorem d133_1017 : decode (cc 133) 1017 = .ok (.aload_n 0, 1) := by decide +kernel
theorem d133_1018 : decode (cc 133) 1018 = .ok (.iload 4, 2) := by decide +kernel
theorem d133_1020 : decode (cc 133) 1020 = .ok (.iconst 2, 1) := by decide +kernel
theorem d133_1021 : decode (cc 133) 1021 = .ok (.iadd, 1) := by decide +kernel
theorem d133_1022 : decode (cc 133) 1022 = .ok (.iaload, 1) := by decide +kernel
theorem d133_1023 : decode (cc 133) 1023 = .ok (.aload_n 0, 1) := by decide +kernel
theorem d133_1024 : decode (cc 133) 1024 = .ok (.iload 4, 2) := by decide +kernel
theorem d133_1026 : decode (cc 133) 1026 = .ok (.iconst 3, 1) := by decide +kernel
theorem d133_1027 : decode (cc 133) 1027 = .ok (.iadd, 1) := by decide +kernel
theorem d133_1028 : decode (cc 133) 1028 = .ok (.iaload, 1) := by decide +kernel
theorem d133_1029 : decode (cc 133) 1029 = .ok (.aload_n 3, 1) := by decide +kernel
theorem d133_1030 : decode (cc 133) 1030 = .ok (.invokestatic 133, 3) := by decide +kernel
theorem d133_1033 : decode (cc 133) 1033 = .ok (.istore 5, 2) := by decide +kernel
theorem d133_1035 : decode (cc 133) 1035 = .ok (.aload_n 2, 1) := by decide +kernel
theorem d133_1036 : decode (cc 133) 1036 = .ok (.aload_n 0, 1) := by decide +kernel
theorem d133_1037 : decode (cc 133) 1037 = .ok (.iload 4, 2) := by decide +kernel
theorem d133_1039 : decode (cc 133) 1039 = .ok (.iconst 1, 1) := by decide +kernel
theorem d133_1040 : decode (cc 133) 1040 = .ok (.iadd, 1) := by decide +kernel
theorem d133_1041 : decode (cc 133) 1041 = .ok (.iaload, 1) := by decide +kernel
theorem d133_1042 : decode (cc 133) 1042 = .ok (.aload_n 0, 1) := by decide +kernel
theorem d133_1043 : decode (cc 133) 1043 = .ok (.iload 4, 2) := by decide +kernel
theorem d133_1045 : decode (cc 133) 1045 = .ok (.iconst 2, 1) := by decide +kernel
theorem d133_1046 : decode (cc 133) 1046 = .ok (.iadd, 1) := by decide +kernel
theorem d133_1047 : decode (cc 133) 1047 = .ok (.iaload, 1) := by decide +kernel
theorem d133_1048 : decode (cc 133) 1048 = .ok (.aload_n 0, 1) := by decide +kernel
theorem d133_1049 : decode (cc 133) 1049 = .ok (.iload 4, 2) := by decide +kernel
theorem d133_1051 : decode (cc 133) 1051 = .ok (.iconst 3, 1) := by decide +kernel
theorem d133_1052 : decode (cc 133) 1052 = .ok (.iadd, 1) := by decide +kernel
theorem d133_1053 : decode (cc 133) 1053 = .ok (.iaload, 1) := by decide +kernel
theorem d133_1054 : decode (cc 133) 1054 = .ok (.invokevirtual 135, 3) := by decide +kernel
theorem d133_1057 : decode (cc 133) 1057 = .ok (.lstore 6, 2) := by decide +kernel
theorem d133_1059 : decode (cc 133) 1059 = .ok (.aload_n 2, 1) := by decide +kernel
theorem d133_1060 : decode (cc 133) 1060 = .ok (.invokevirtual 87, 3) := by decide +kernel
theorem d133_1063 : decode (cc 133) 1063 = .ok (.iload 5, 2) := by decide +kernel
theorem d133_1065 : decode (cc 133) 1065 = .ok (.if_icmp .eq 5, 3) := by decide +kernel
theorem d133_1068 : decode (cc 133) 1068 = .ok (.iconst 0, 1) := by decide +kernel
theorem d133_1069 : decode (cc 133) 1069 = .ok (.ireturn, 1) := by decide +kernel
theorem d133_1070 : decode (cc 133) 1070 = .ok (.iload 5, 2) := by decide +kernel
theorem d133_1072 : decode (cc 133) 1072 = .ok (.ifCond .ne 14, 3) := by decide +kernel
theorem d133_1075 : decode (cc 133) 1075 = .ok (.aload_n 3, 1) := by decide +kernel
theorem d133_1076 : decode (cc 133) 1076 = .ok (.iconst 0, 1) := by decide +kernel
theorem d133_1077 : decode (cc 133) 1077 = .ok (.laload, 1) := by decide +kernel
theorem d133_1078 : decode (cc 133) 1078 = .ok (.lload 6, 2) := by decide +kernel
theorem d133_1080 : decode (cc 133) 1080 = .ok (.lcmp, 1) := by decide +kernel
theorem d133_1081 : decode (cc 133) 1081 = .ok (.ifCond .eq 5, 3) := by decide +kernel
theorem d133_1084 : decode (cc 133) 1084 = .ok (.iconst 0, 1) := by decide +kernel
theorem d133_1085 : decode (cc 133) 1085 = .ok (.ireturn, 1) := by decide +kernel
theorem d133_1086 : decode (cc 133) 1086 = .ok (.goto 342, 3) := by decide +kernel
theorem d133_1089 : decode (cc 133) 1089 = .ok (.aload_n 1, 1) := by decide +kernel
theorem d133_1090 : decode (cc 133) 1090 = .ok (.aload_n 0, 1) := by decide +kernel
theorem d133_1091 : decode (cc 133) 1091 = .ok (.iload 4, 2) := by decide +kernel
theorem d133_1093 : decode (cc 133) 1093 = .ok (.iconst 1, 1) := by decide +kernel
theorem d133_1094 : decode (cc 133) 1094 = .ok (.iadd, 1) := by decide +kernel
theorem d133_1095 : decode (cc 133) 1095 = .ok (.iaload, 1) := by decide +kernel
theorem d133_1096 : decode (cc 133) 1096 = .ok (.aload_n 0, 1) := by decide +kernel
theorem d133_1097 : decode (cc 133) 1097 = .ok (.iload 4, 2) := by decide +kernel
theorem d133_1099 : decode (cc 133) 1099 = .ok (.iconst 2, 1) := by decide +kernel
theorem d133_1100 : decode (cc 133) 1100 = .ok (.iadd, 1) := by decide +kernel
theorem d133_1101 : decode (cc 133) 1101 = .ok (.iaload, 1) := by decide +kernel
theorem d133_1102 : decode (cc 133) 1102 = .ok (.aload_n 0, 1) := by decide +kernel
theorem d133_1103 : decode (cc 133) 1103 = .ok (.iload 4, 2) := by decide +kernel
theorem d133_1105 : decode (cc 133) 1105 = .ok (.iconst 3, 1) := by decide +kernel
theorem d133_1106 : decode (cc 133) 1106 = .ok (.iadd, 1) := by decide +kernel
theorem d133_1107 : decode (cc 133) 1107 = .ok (.iaload, 1) := by decide +kernel
theorem d133_1108 : decode (cc 133) 1108 = .ok (.aload_n 3, 1) := by decide +kernel
theorem d133_1109 : decode (cc 133) 1109 = .ok (.invokestatic 136, 3) := by decide +kernel
theorem d133_1112 : decode (cc 133) 1112 = .ok (.istore 5, 2) := by decide +kernel
theorem d133_1114 : decode (cc 133) 1114 = .ok (.aload_n 2, 1) := by decide +kernel
theorem d133_1115 : decode (cc 133) 1115 = .ok (.aload_n 0, 1) := by decide +kernel
theorem d133_1116 : decode (cc 133) 1116 = .ok (.iload 4, 2) := by decide +kernel
theorem d133_1118 : decode (cc 133) 1118 = .ok (.iconst 1, 1) := by decide +kernel
theorem d133_1119 : decode (cc 133) 1119 = .ok (.iadd, 1) := by decide +kernel
theorem d133_1120 : decode (cc 133) 1120 = .ok (.iaload, 1) := by decide +kernel
theorem d133_1121 : decode (cc 133) 1121 = .ok (.aload_n 0, 1) := by decide +kernel
theorem d133_1122 : decode (cc 133) 1122 = .ok (.iload 4, 2) := by decide +kernel
theorem d133_1124 : decode (cc 133) 1124 = .ok (.iconst 2, 1) := by decide +kernel
theorem d133_1125 : decode (cc 133) 1125 = .ok (.iadd, 1) := by decide +kernel
theorem d133_1126 : decode (cc 133) 1126 = .ok (.iaload, 1) := by decide +kernel
theorem d133_1127 : decode (cc 133) 1127 = .ok (.aload_n 0, 1) := by decide +kernel
theorem d133_1128 : decode (cc 133) 1128 = .ok (.iload 4, 2) := by decide +kernel
theorem d133_1130 : decode (cc 133) 1130 = .ok (.iconst 3, 1) := by decide +kernel
theorem d133_1131 : decode (cc 133) 1131 = .ok (.iadd, 1) := by decide +kernel
theorem d133_1132 : decode (cc 133) 1132 = .ok (.iaload, 1) := by decide +kernel
theorem d133_1133 : decode (cc 133) 1133 = .ok (.invokevirtual 138, 3) := by decide +kernel
theorem d133_1136 : decode (cc 133) 1136 = .ok (.istore 6, 2) := by decide +kernel
theorem d133_1138 : decode (cc 133) 1138 = .ok (.aload_n 2, 1) := by decide +kernel
theorem d133_1139 : decode (cc 133) 1139 = .ok (.invokevirtual 87, 3) := by decide +kernel
theorem d133_1142 : decode (cc 133) 1142 = .ok (.iload 5, 2) := by decide +kernel
theorem d133_1144 : decode (cc 133) 1144 = .ok (.if_icmp .eq 5, 3) := by decide +kernel
theorem d133_1147 : decode (cc 133) 1147 = .ok (.iconst 0, 1) := by decide +kernel
theorem d133_1148 : decode (cc 133) 1148 = .ok (.ireturn, 1) := by decide +kernel
theorem d133_1149 : decode (cc 133) 1149 = .ok (.iload 5, 2) := by decide +kernel
theorem d133_1151 : decode (cc 133) 1151 = .ok (.ifCond .ne 15, 3) := by decide +kernel
theorem d133_1154 : decode (cc 133) 1154 = .ok (.aload_n 3, 1) := by decide +kernel
theorem d133_1155 : decode (cc 133) 1155 = .ok (.iconst 0, 1) := by decide +kernel
theorem d133_1156 : decode (cc 133) 1156 = .ok (.laload, 1) := by decide +kernel
theorem d133_1157 : decode (cc 133) 1157 = .ok (.iload 6, 2) := by decide +kernel
theorem d133_1159 : decode (cc 133) 1159 = .ok (.i2l, 1) := by decide +kernel
theorem d133_1160 : decode (cc 133) 1160 = .ok (.lcmp, 1) := by decide +kernel
theorem d133_1161 : decode (cc 133) 1161 = .ok (.ifCond .eq 5, 3) := by decide +kernel
theorem d133_1164 : decode (cc 133) 1164 = .ok (.iconst 0, 1) := by decide +kernel
theorem d133_1165 : decode (cc 133) 1165 = .ok (.ireturn, 1) := by decide +kernel
theorem d133_1166 : decode (cc 133) 1166 = .ok (.goto 262, 3) := by decide +kernel
theorem d133_1169 : decode (cc 133) 1169 = .ok (.aload_n 1, 1) := by decide +kernel
theorem d133_1170 : decode (cc 133) 1170 = .ok (.aload_n 0, 1) := by decide +kernel
theorem d133_1171 : decode (cc 133) 1171 = .ok (.iload 4, 2) := by decide +kernel
theorem d133_1173 : decode (cc 133) 1173 = .ok (.iconst 1, 1) := by decide +kernel
theorem d133_1174 : decode (cc 133) 1174 = .ok (.iadd, 1) := by decide +kernel
theorem d133_1175 : decode (cc 133) 1175 = .ok (.iaload, 1) := by decide +kernel
theorem d133_1176 : decode (cc 133) 1176 = .ok (.aload_n 0, 1) := by decide +kernel
theorem d133_1177 : decode (cc 133) 1177 = .ok (.iload 4, 2) := by decide +kernel
theorem d133_1179 : decode (cc 133) 1179 = .ok (.iconst 2, 1) := by decide +kernel
theorem d133_1180 : decode (cc 133) 1180 = .ok (.iadd, 1) := by decide +kernel
theorem d133_1181 : decode (cc 133) 1181 = .ok (.iaload, 1) := by decide +kernel
theorem d133_1182 : decode (cc 133) 1182 = .ok (.aload_n 0, 1) := by decide +kernel
theorem d133_1183 : decode (cc 133) 1183 = .ok (.iload 4, 2) := by decide +kernel
theorem d133_1185 : decode (cc 133) 1185 = .ok (.iconst 3, 1) := by decide +kernel
theorem d133_1186 : decode (cc 133) 1186 = .ok (.iadd, 1) := by decide +kernel
theorem d133_1187 : decode (cc 133) 1187 = .ok (.iaload, 1) := by decide +kernel
theorem d133_1188 : decode (cc 133) 1188 = .ok (.aload_n 3, 1) := by decide +kernel
theorem d133_1189 : decode (cc 133) 1189 = .ok (.invokestatic 139, 3) := by decide +kernel
theorem d133_1192 : decode (cc 133) 1192 = .ok (.istore 5, 2) := by decide +kernel
theorem d133_1194 : decode (cc 133) 1194 = .ok (.aload_n 2, 1) := by decide +kernel
theorem d133_1195 : decode (cc 133) 1195 = .ok (.aload_n 0, 1) := by decide +kernel
theorem d133_1196 : decode (cc 133) 1196 = .ok (.iload 4, 2) := by decide +kernel
theorem d133_1198 : decode (cc 133) 1198 = .ok (.iconst 1, 1) := by decide +kernel
theorem d133_1199 : decode (cc 133) 1199 = .ok (.iadd, 1) := by decide +kernel
theorem d133_1200 : decode (cc 133) 1200 = .ok (.iaload, 1) := by decide +kernel
theorem d133_1201 : decode (cc 133) 1201 = .ok (.aload_n 0, 1) := by decide +kernel
theorem d133_1202 : decode (cc 133) 1202 = .ok (.iload 4, 2) := by decide +kernel
theorem d133_1204 : decode (cc 133) 1204 = .ok (.iconst 2, 1) := by decide +kernel
theorem d133_1205 : decode (cc 133) 1205 = .ok (.iadd, 1) := by decide +kernel
theorem d133_1206 : decode (cc 133) 1206 = .ok (.iaload, 1) := by decide +kernel
theorem d133_1207 : decode (cc 133) 1207 = .ok (.aload_n 0, 1) := by decide +kernel
theorem d133_1208 : decode (cc 133) 1208 = .ok (.iload 4, 2) := by decide +kernel
theorem d133_1210 : decode (cc 133) 1210 = .ok (.iconst 3, 1) := by decide +kernel
theorem d133_1211 : decode (cc 133) 1211 = .ok (.iadd, 1) := by decide +kernel
theorem d133_1212 : decode (cc 133) 1212 = .ok (.iaload, 1) := by decide +kernel
theorem d133_1213 : decode (cc 133) 1213 = .ok (.invokevirtual 141, 3) := by decide +kernel
theorem d133_1216 : decode (cc 133) 1216 = .ok (.istore 6, 2) := by decide +kernel
theorem d133_1218 : decode (cc 133) 1218 = .ok (.aload_n 2, 1) := by decide +kernel
theorem d133_1219 : decode (cc 133) 1219 = .ok (.invokevirtual 87, 3) := by decide +kernel
theorem d133_1222 : decode (cc 133) 1222 = .ok (.iload 5, 2) := by decide +kernel
theorem d133_1224 : decode (cc 133) 1224 = .ok (.if_icmp .eq 5, 3) := by decide +kernel
theorem d133_1227 : decode (cc 133) 1227 = .ok (.iconst 0, 1) := by decide +kernel
theorem d133_1228 : decode (cc 133) 1228 = .ok (.ireturn, 1) := by decide +kernel
theorem d133_1229 : decode (cc 133) 1229 = .ok (.iload 5, 2) := by decide +kernel
theorem d133_1231 : decode (cc 133) 1231 = .ok (.ifCond .ne 15, 3) := by decide +kernel
theorem d133_1234 : decode (cc 133) 1234 = .ok (.aload_n 3, 1) := by decide +kernel
theorem d133_1235 : decode (cc 133) 1235 = .ok (.iconst 0, 1) := by decide +kernel
theorem d133_1236 : decode (cc 133) 1236 = .ok (.laload, 1) := by decide +kernel
theorem d133_1237 : decode (cc 133) 1237 = .ok (.iload 6, 2) := by decide +kernel
theorem d133_1239 : decode (cc 133) 1239 = .ok (.i2l, 1) := by decide +kernel
theorem d133_1240 : decode (cc 133) 1240 = .ok (.lcmp, 1) := by decide +kernel
theorem d133_1241 : decode (cc 133) 1241 = .ok (.ifCond .eq 5, 3) := by decide +kernel
theorem d133_1244 : decode (cc 133) 1244 = .ok (.iconst 0, 1) := by decide +kernel
theorem d133_1245 : decode (cc 133) 1245 = .ok (.ireturn, 1) := by decide +kernel
theorem d133_1246 : decode (cc 133) 1246 = .ok (.goto 182, 3) := by decide +kernel
theorem d133_1249 : decode (cc 133) 1249 = .ok (.aload_n 1, 1) := by decide +kernel
theorem d133_1250 : decode (cc 133) 1250 = .ok (.aload_n 0, 1) := by decide +kernel
theorem d133_1251 : decode (cc 133) 1251 = .ok (.iload 4, 2) := by decide +kernel
theorem d133_1253 : decode (cc 133) 1253 = .ok (.iconst 1, 1) := by decide +kernel
theorem d133_1254 : decode (cc 133) 1254 = .ok (.iadd, 1) := by decide +kernel
theorem d133_1255 : decode (cc 133) 1255 = .ok (.iaload, 1) := by decide +kernel
theorem d133_1256 : decode (cc 133) 1256 = .ok (.aload_n 3, 1) := by decide +kernel
theorem d133_1257 : decode (cc 133) 1257 = .ok (.invokestatic 142, 3) := by decide +kernel
theorem d133_1260 : decode (cc 133) 1260 = .ok (.istore 5, 2) := by decide +kernel
theorem d133_1262 : decode (cc 133) 1262 = .ok (.aload_n 2, 1) := by decide +kernel
theorem d133_1263 : decode (cc 133) 1263 = .ok (.aload_n 0, 1) := by decide +kernel
theorem d133_1264 : decode (cc 133) 1264 = .ok (.iload 4, 2) := by decide +kernel
theorem d133_1266 : decode (cc 133) 1266 = .ok (.iconst 1, 1) := by decide +kernel
theorem d133_1267 : decode (cc 133) 1267 = .ok (.iadd, 1) := by decide +kernel
theorem d133_1268 : decode (cc 133) 1268 = .ok (.iaload, 1) := by decide +kernel
theorem d133_1269 : decode (cc 133) 1269 = .ok (.invokevirtual 144, 3) := by decide +kernel
theorem d133_1272 : decode (cc 133) 1272 = .ok (.istore 6, 2) := by decide +kernel
theorem d133_1274 : decode (cc 133) 1274 = .ok (.aload_n 2, 1) := by decide +kernel
theorem d133_1275 : decode (cc 133) 1275 = .ok (.invokevirtual 87, 3) := by decide +kernel
theorem d133_1278 : decode (cc 133) 1278 = .ok (.iload 5, 2) := by decide +kernel
theorem d133_1280 : decode (cc 133) 1280 = .ok (.if_icmp .eq 5, 3) := by decide +kernel
theorem d133_1283 : decode (cc 133) 1283 = .ok (.iconst 0, 1) := by decide +kernel
theorem d133_1284 : decode (cc 133) 1284 = .ok (.ireturn, 1) := by decide +kernel
theorem d133_1285 : decode (cc 133) 1285 = .ok (.iload 5, 2) := by decide +kernel
theorem d133_1287 : decode (cc 133) 1287 = .ok (.ifCond .ne 15, 3) := by decide +kernel
theorem d133_1290 : decode (cc 133) 1290 = .ok (.aload_n 3, 1) := by decide +kernel
theorem d133_1291 : decode (cc 133) 1291 = .ok (.iconst 0, 1) := by decide +kernel
theorem d133_1292 : decode (cc 133) 1292 = .ok (.laload, 1) := by decide +kernel
theorem d133_1293 : decode (cc 133) 1293 = .ok (.iload 6, 2) := by decide +kernel
theorem d133_1295 : decode (cc 133) 1295 = .ok (.i2l, 1) := by decide +kernel
theorem d133_1296 : decode (cc 133) 1296 = .ok (.lcmp, 1) := by decide +kernel
theorem d133_1297 : decode (cc 133) 1297 = .ok (.ifCond .eq 5, 3) := by decide +kernel
theorem d133_1300 : decode (cc 133) 1300 = .ok (.iconst 0, 1) := by decide +kernel
theorem d133_1301 : decode (cc 133) 1301 = .ok (.ireturn, 1) := by decide +kernel
theorem d133_1302 : decode (cc 133) 1302 = .ok (.goto 126, 3) := by decide +kernel
theorem d133_1305 : decode (cc 133) 1305 = .ok (.aload_n 1, 1) := by decide +kernel
theorem d133_1306 : decode (cc 133) 1306 = .ok (.aload_n 0, 1) := by decide +kernel
theorem d133_1307 : decode (cc 133) 1307 = .ok (.iload 4, 2) := by decide +kernel
theorem d133_1309 : decode (cc 133) 1309 = .ok (.iconst 1, 1) := by decide +kernel
theorem d133_1310 : decode (cc 133) 1310 = .ok (.iadd, 1) := by decide +kernel
theorem d133_1311 : decode (cc 133) 1311 = .ok (.iaload, 1) := by decide +kernel
theorem d133_1312 : decode (cc 133) 1312 = .ok (.aload_n 0, 1) := by decide +kernel
theorem d133_1313 : decode (cc 133) 1313 = .ok (.iload 4, 2) := by decide +kernel
theorem d133_1315 : decode (cc 133) 1315 = .ok (.iconst 2, 1) := by decide +kernel
theorem d133_1316 : decode (cc 133) 1316 = .ok (.iadd, 1) := by decide +kernel
theorem d133_1317 : decode (cc 133) 1317 = .ok (.iaload, 1) := by decide +kernel
theorem d133_1318 : decode (cc 133) 1318 = .ok (.aload_n 3, 1) := by decide +kernel
theorem d133_1319 : decode (cc 133) 1319 = .ok (.invokestatic 145, 3) := by decide +kernel
theorem d133_1322 : decode (cc 133) 1322 = .ok (.istore 5, 2) := by decide +kernel
theorem d133_1324 : decode (cc 133) 1324 = .ok (.aload_n 2, 1) := by decide +kernel
theorem d133_1325 : decode (cc 133) 1325 = .ok (.aload_n 0, 1) := by decide +kernel
theorem d133_1326 : decode (cc 133) 1326 = .ok (.iload 4, 2) := by decide +kernel
theorem d133_1328 : decode (cc 133) 1328 = .ok (.iconst 1, 1) := by decide +kernel
theorem d133_1329 : decode (cc 133) 1329 = .ok (.iadd, 1) := by decide +kernel
theorem d133_1330 : decode (cc 133) 1330 = .ok (.iaload, 1) := by decide +kernel
theorem d133_1331 : decode (cc 133) 1331 = .ok (.aload_n 0, 1) := by decide +kernel
theorem d133_1332 : decode (cc 133) 1332 = .ok (.iload 4, 2) := by decide +kernel
theorem d133_1334 : decode (cc 133) 1334 = .ok (.iconst 2, 1) := by decide +kernel
theorem d133_1335 : decode (cc 133) 1335 = .ok (.iadd, 1) := by decide +kernel
theorem d133_1336 : decode (cc 133) 1336 = .ok (.iaload, 1) := by decide +kernel
theorem d133_1337 : decode (cc 133) 1337 = .ok (.invokevirtual 147, 3) := by decide +kernel
theorem d133_1340 : decode (cc 133) 1340 = .ok (.lstore 6, 2) := by decide +kernel
theorem d133_1342 : decode (cc 133) 1342 = .ok (.aload_n 2, 1) := by decide +kernel
theorem d133_1343 : decode (cc 133) 1343 = .ok (.invokevirtual 87, 3) := by decide +kernel
theorem d133_1346 : decode (cc 133) 1346 = .ok (.iload 5, 2) := by decide +kernel
theorem d133_1348 : decode (cc 133) 1348 = .ok (.if_icmp .eq 5, 3) := by decide +kernel
theorem d133_1351 : decode (cc 133) 1351 = .ok (.iconst 0, 1) := by decide +kernel
theorem d133_1352 : decode (cc 133) 1352 = .ok (.ireturn, 1) := by decide +kernel
theorem d133_1353 : decode (cc 133) 1353 = .ok (.iload 5, 2) := by decide +kernel
theorem d133_1355 : decode (cc 133) 1355 = .ok (.ifCond .ne 14, 3) := by decide +kernel
theorem d133_1358 : decode (cc 133) 1358 = .ok (.aload_n 3, 1) := by decide +kernel
theorem d133_1359 : decode (cc 133) 1359 = .ok (.iconst 0, 1) := by decide +kernel
theorem d133_1360 : decode (cc 133) 1360 = .ok (.laload, 1) := by decide +kernel
theorem d133_1361 : decode (cc 133) 1361 = .ok (.lload 6, 2) := by decide +kernel
theorem d133_1363 : decode (cc 133) 1363 = .ok (.lcmp, 1) := by decide +kernel
theorem d133_1364 : decode (cc 133) 1364 = .ok (.ifCond .eq 5, 3) := by decide +kernel
theorem d133_1367 : decode (cc 133) 1367 = .ok (.iconst 0, 1) := by decide +kernel
theorem d133_1368 : decode (cc 133) 1368 = .ok (.ireturn, 1) := by decide +kernel
theorem d133_1369 : decode (cc 133) 1369 = .ok (.goto 59, 3) := by decide +kernel
theorem d133_1372 : decode (cc 133) 1372 = .ok (.aload_n 1, 1) := by decide +kernel
theorem d133_1373 : decode (cc 133) 1373 = .ok (.aload_n 0, 1) := by decide +kernel
theorem d133_1374 : decode (cc 133) 1374 = .ok (.iload 4, 2) := by decide +kernel
theorem d133_1376 : decode (cc 133) 1376 = .ok (.iconst 1, 1) := by decide +kernel
theorem d133_1377 : decode (cc 133) 1377 = .ok (.iadd, 1) := by decide +kernel
theorem d133_1378 : decode (cc 133) 1378 = .ok (.iaload, 1) := by decide +kernel
theorem d133_1379 : decode (cc 133) 1379 = .ok (.aload_n 3, 1) := by decide +kernel
theorem d133_1380 : decode (cc 133) 1380 = .ok (.invokestatic 148, 3) := by decide +kernel
theorem d133_1383 : decode (cc 133) 1383 = .ok (.istore 5, 2) := by decide +kernel
theorem d133_1385 : decode (cc 133) 1385 = .ok (.aload_n 2, 1) := by decide +kernel
theorem d133_1386 : decode (cc 133) 1386 = .ok (.aload_n 0, 1) := by decide +kernel
theorem d133_1387 : decode (cc 133) 1387 = .ok (.iload 4, 2) := by decide +kernel
theorem d133_1389 : decode (cc 133) 1389 = .ok (.iconst 1, 1) := by decide +kernel
theorem d133_1390 : decode (cc 133) 1390 = .ok (.iadd, 1) := by decide +kernel
theorem d133_1391 : decode (cc 133) 1391 = .ok (.iaload, 1) := by decide +kernel
theorem d133_1392 : decode (cc 133) 1392 = .ok (.invokevirtual 150, 3) := by decide +kernel
theorem d133_1395 : decode (cc 133) 1395 = .ok (.istore 6, 2) := by decide +kernel
theorem d133_1397 : decode (cc 133) 1397 = .ok (.aload_n 2, 1) := by decide +kernel
theorem d133_1398 : decode (cc 133) 1398 = .ok (.invokevirtual 87, 3) := by decide +kernel
theorem d133_1401 : decode (cc 133) 1401 = .ok (.iload 5, 2) := by decide +kernel
theorem d133_1403 : decode (cc 133) 1403 = .ok (.if_icmp .eq 5, 3) := by decide +kernel
theorem d133_1406 : decode (cc 133) 1406 = .ok (.iconst 0, 1) := by decide +kernel
theorem d133_1407 : decode (cc 133) 1407 = .ok (.ireturn, 1) := by decide +kernel
theorem d133_1408 : decode (cc 133) 1408 = .ok (.iload 5, 2) := by decide +kernel
theorem d133_1410 : decode (cc 133) 1410 = .ok (.ifCond .ne 15, 3) := by decide +kernel
theorem d133_1413 : decode (cc 133) 1413 = .ok (.aload_n 3, 1) := by decide +kernel
theorem d133_1414 : decode (cc 133) 1414 = .ok (.iconst 0, 1) := by decide +kernel
theorem d133_1415 : decode (cc 133) 1415 = .ok (.laload, 1) := by decide +kernel
theorem d133_1416 : decode (cc 133) 1416 = .ok (.iload 6, 2) := by decide +kernel
theorem d133_1418 : decode (cc 133) 1418 = .ok (.i2l, 1) := by decide +kernel
theorem d133_1419 : decode (cc 133) 1419 = .ok (.lcmp, 1) := by decide +kernel
theorem d133_1420 : decode (cc 133) 1420 = .ok (.ifCond .eq 5, 3) := by decide +kernel
theorem d133_1423 : decode (cc 133) 1423 = .ok (.iconst 0, 1) := by decide +kernel
theorem d133_1424 : decode (cc 133) 1424 = .ok (.ireturn, 1) := by decide +kernel
theorem d133_1425 : decode (cc 133) 1425 = .ok (.goto 3, 3) := by decide +kernel
theorem d133_1428 : decode (cc 133) 1428 = .ok (.iinc 4 6, 3) := by decide +kernel
theorem d133_1431 : decode (cc 133) 1431 = .ok (.goto (-1408), 3) := by decide +kernel
theorem d133_1434 : decode (cc 133) 1434 = .ok (.iconst 1, 1) := by decide +kernel
theorem d133_1435 : decode (cc 133) 1435 = .ok (.ireturn, 1) := by decide +kernel
end
section
-- ===== ends and calls in the finished world =====
def QP (v : Option AV) (N : TN) (L : TL) : QT := fun o w => o = .inl v ∧ w = wd N L
def Q0 (P : TN → TL → Prop) : QT := fun o w => o = .inl none ∧ ∃ (N : TN) (L : TL), w = wd N L ∧ P N L
def QZ (P : Nat → TN → TL → Prop) : QT := fun o w => ∃ (z : Nat) (N : TN) (L : TL), o = .inl (some (aN z)) ∧ w = wd N L ∧ P z N L
def QJ (P : Int64 → TN → TL → Prop) : QT := fun o w => ∃ (z : Int64) (N : TN) (L : TL), o = .inl (some (aL z)) ∧ w = wd N L ∧ P z N L
def QE (E : String) (P : TN → TL → Prop) : QT := fun o w => o = .inr E ∧ ∃ (N : TN) (L : TL), w = wd N L ∧ P N L
theorem hzW {N : TN} {L : TL} {a b : Nat} : (wd N L).2.1 = true → a = b := fun h => by cases h
def icZ : ClassFile.Cond → Int → Int → Prop
  | .eq, x, y => x = y
  | .ne, x, y => ¬ x = y
  | .lt, x, y => x < y
  | .ge, x, y => y ≤ x
  | .gt, x, y => y < x
  | .le, x, y => x ≤ y
theorem icPZ {cd : ClassFile.Cond} {x y : Int32} {a b : Int} (hx : x.toInt = a) (hy : y.toInt = b) : icP cd x y ↔ icZ cd a b := by
  subst hx hy
  cases cd <;> simp only [icP, icZ, Int32.lt_iff_toInt_lt, Int32.le_iff_toInt_le, Int32.toInt_inj]
theorem bT {cd : ClassFile.Cond} {x y : Int32} {a b : Int} (hx : x.toInt = a) (hy : y.toInt = b) (h : icP cd x y) : icZ cd a b := (icPZ hx hy).mp h
theorem bF {cd : ClassFile.Cond} {x y : Int32} {a b : Int} (hx : x.toInt = a) (hy : y.toInt = b) (h : ¬ icP cd x y) : ¬ icZ cd a b := fun q => h ((icPZ hx hy).mpr q)
theorem nI_sub {a b : Nat} (h : b ≤ a) : nI a - nI b = nI (a - b) := by
  have h1 : nI (a - b) + nI b = nI a := by rw [nI_add, Nat.sub_add_cancel h]
  rw [← h1, Int32.add_sub_cancel]
theorem nI_dec {a : Nat} (h : 0 < a) : nI a + Int32.ofInt (-1) = nI (a - 1) := by
  have h1 : nI a - nI 1 = nI (a - 1) := nI_sub h
  rw [← h1, Int32.sub_eq_add_neg]
  rfl
theorem i_nI {x : Int32} {n : Nat} (h : x.toInt = (n : Int)) : x = nI n := by
  have h31 : n < 2 ^ 31 := by
    have := Int32.toInt_lt x
    omega
  exact Int32.toInt_inj.mp (by rw [h, nI_toInt h31])
theorem i_nI2 {x : Int32} (h : 0 ≤ x.toInt) : x = nI x.toInt.toNat := i_nI (by omega)
theorem tn_nI {n : Nat} (h : n < 2 ^ 31) : tn (nI n) = n := by
  simp [tn, nI, Int32.toBitVec_ofNat]
  omega
section Rules
variable {sc : XT} {k pc : Nat} {lv : List (Nat × AV)} {st rst : List AV} {N : TN} {L : TL} {w : NW} {cells slots : Nat} {Q : QT}
theorem Sem.pick (js : List Nat) {lv' : List (Nat × AV)} (h : js.filterMap (fun j => lv[j]?) = lv') (kk : Sem sc k pc lv' st w cells slots Q) : Sem sc k pc lv st w cells slots Q := by
  refine Sem.lsub (fun q hq => ?_) kk
  subst h
  obtain ⟨j, _, h2⟩ := List.mem_filterMap.mp hq
  exact List.mem_of_getElem? h2
theorem Sem.loc0 {i n : Nat} {x : Int32} (h : x = nI n) (kk : Sem sc k pc ((i, aN n) :: lv) st w cells slots Q) : Sem sc k pc ((i, aI x) :: lv) st w cells slots Q := by
  subst h
  exact Sem.eqv (lv' := (i, aN n) :: lv) (st' := st) (fun _ _ hq => hq) (fun _ => rfl) kk
theorem Sem.locNI {i n : Nat} {x : Int32} (h : nI n = x) (kk : Sem sc k pc ((i, aI x) :: lv) st w cells slots Q) : Sem sc k pc ((i, aN n) :: lv) st w cells slots Q := by
  subst h
  exact Sem.eqv (lv' := (i, aI (nI n)) :: lv) (st' := st) (fun _ _ hq => hq) (fun _ => rfl) kk
theorem Sem.topNI {n : Nat} {x : Int32} (h : nI n = x) (kk : Sem sc k pc lv (aI x :: st) w cells slots Q) : Sem sc k pc lv (aN n :: st) w cells slots Q := by
  subst h
  exact Sem.eqv (lv' := lv) (st' := aI (nI n) :: st) (fun _ _ hq => hq) (fun _ => rfl) kk
theorem Sem.loc0N {i n n' : Nat} (h : n = n') (kk : Sem sc k pc ((i, aN n') :: lv) st w cells slots Q) : Sem sc k pc ((i, aN n) :: lv) st w cells slots Q := by
  subst h; exact kk
theorem Sem.loc0L {i : Nat} {n n' : Int64} (h : n = n') (kk : Sem sc k pc ((i, aL n') :: lv) st w cells slots Q) : Sem sc k pc ((i, aL n) :: lv) st w cells slots Q := by
  subst h; exact kk
theorem Sem.loc0I {i : Nat} {n n' : Int32} (h : n = n') (kk : Sem sc k pc ((i, aI n') :: lv) st w cells slots Q) : Sem sc k pc ((i, aI n) :: lv) st w cells slots Q := by
  subst h; exact kk
theorem SemX.up {E : String} (hnh : hh k = []) (hc : cells ≤ mc k) (hs : slots ≤ ms k) (hQ : Q (.inr E) (wd N L)) : SemX sc k pc lv E (wd N L) cells slots Q :=
  SemX.out (by rw [hnh]; intro x hx; cases hx) hc hs rfl hQ
theorem Sem.cVp1 {idx k' t i : Nat} {as : List AV} {c' s' : Nat} {a : AV} {N1 : TN} {L1 : TL} (hd : decode (cc k) pc = .ok (.invokevirtual idx, 3)) (hM : MK k') (hnh : hh k' = []) (hco : Cond.code (yn k') (cc k') (mL k') (rt k') ∈ AW_) (hlk : Cond.methodLink (RN (mo k)) idx (yn k') ∈ AW_) (him : Cond.instanceMethod (yn k') ∈ AW_) (hse : Cond.selects (RN (mo k')) (yn k') (yn k') ∈ AW_) (hkt : kd t = (3, mo k')) (hv : vld NN t i) (hlen : ((aR t i :: as).map ct1).sum ≤ mL k') (hn : as.length = np k') (hrs : (rst.map ct1).sum ≤ 8) (hfr : fr k' + 1 ≤ fr k) (hlo : 8 + (mL k' + 11) + lo k' ≤ lo k) (he1 : cells + mc k' = c') (he2 : slots + ms k' = s') (hc : c' ≤ mc k) (hs : s' ≤ ms k) (hS : Sem sc k' 0 (aArgs 0 (aR t i :: as)) [] (wd N L) 0 0 (QP (some a) N1 L1)) (kk : Sem sc k (pc + 3) lv (a :: rst) (wd N1 L1) c' s' Q) : Sem sc k pc lv (as.reverse ++ aR t i :: rst) (wd N L) cells slots Q := by
  subst he1 he2
  exact Sem.callV (as := as) (rst := rst) hd hM hnh hco hlk him hse hkt hv rfl (fun v w' h => by obtain ⟨_, rfl⟩ := h; rfl) (fun E w' h => by obtain ⟨h1, _⟩ := h; cases h1) hlen hn hrs hfr hlo hc hs hS (fun v w' h => by obtain ⟨h1, rfl⟩ := h; cases h1; exact kk) (fun E w' h => by obtain ⟨h1, _⟩ := h; cases h1)
theorem Sem.cVp0 {idx k' t i : Nat} {as : List AV} {c' s' : Nat} {N1 : TN} {L1 : TL} (hd : decode (cc k) pc = .ok (.invokevirtual idx, 3)) (hM : MK k') (hnh : hh k' = []) (hco : Cond.code (yn k') (cc k') (mL k') (rt k') ∈ AW_) (hlk : Cond.methodLink (RN (mo k)) idx (yn k') ∈ AW_) (him : Cond.instanceMethod (yn k') ∈ AW_) (hse : Cond.selects (RN (mo k')) (yn k') (yn k') ∈ AW_) (hkt : kd t = (3, mo k')) (hv : vld NN t i) (hlen : ((aR t i :: as).map ct1).sum ≤ mL k') (hn : as.length = np k') (hrs : (rst.map ct1).sum ≤ 8) (hfr : fr k' + 1 ≤ fr k) (hlo : 8 + (mL k' + 11) + lo k' ≤ lo k) (he1 : cells + mc k' = c') (he2 : slots + ms k' = s') (hc : c' ≤ mc k) (hs : s' ≤ ms k) (hS : Sem sc k' 0 (aArgs 0 (aR t i :: as)) [] (wd N L) 0 0 (QP none N1 L1)) (kk : Sem sc k (pc + 3) lv rst (wd N1 L1) c' s' Q) : Sem sc k pc lv (as.reverse ++ aR t i :: rst) (wd N L) cells slots Q := by
  subst he1 he2
  exact Sem.callV (as := as) (rst := rst) hd hM hnh hco hlk him hse hkt hv rfl (fun v w' h => by obtain ⟨_, rfl⟩ := h; rfl) (fun E w' h => by obtain ⟨h1, _⟩ := h; cases h1) hlen hn hrs hfr hlo hc hs hS (fun v w' h => by obtain ⟨h1, rfl⟩ := h; cases h1; exact kk) (fun E w' h => by obtain ⟨h1, _⟩ := h; cases h1)
theorem Sem.cVm0 {idx k' t i : Nat} {as : List AV} {c' s' : Nat} {P : TN → TL → Prop} (hd : decode (cc k) pc = .ok (.invokevirtual idx, 3)) (hM : MK k') (hnh : hh k' = []) (hco : Cond.code (yn k') (cc k') (mL k') (rt k') ∈ AW_) (hlk : Cond.methodLink (RN (mo k)) idx (yn k') ∈ AW_) (him : Cond.instanceMethod (yn k') ∈ AW_) (hse : Cond.selects (RN (mo k')) (yn k') (yn k') ∈ AW_) (hkt : kd t = (3, mo k')) (hv : vld NN t i) (hlen : ((aR t i :: as).map ct1).sum ≤ mL k') (hn : as.length = np k') (hrs : (rst.map ct1).sum ≤ 8) (hfr : fr k' + 1 ≤ fr k) (hlo : 8 + (mL k' + 11) + lo k' ≤ lo k) (he1 : cells + mc k' = c') (he2 : slots + ms k' = s') (hc : c' ≤ mc k) (hs : s' ≤ ms k) (hS : Sem sc k' 0 (aArgs 0 (aR t i :: as)) [] (wd N L) 0 0 (Q0 P)) (kk : ∀ (N' : TN) (L' : TL), P N' L' → Sem sc k (pc + 3) lv rst (wd N' L') c' s' Q) : Sem sc k pc lv (as.reverse ++ aR t i :: rst) (wd N L) cells slots Q := by
  subst he1 he2
  exact Sem.callV (as := as) (rst := rst) hd hM hnh hco hlk him hse hkt hv rfl (fun v w' h => by obtain ⟨_, _, _, rfl, _⟩ := h; rfl) (fun E w' h => by obtain ⟨h1, _⟩ := h; cases h1) hlen hn hrs hfr hlo hc hs hS (fun v w' h => by obtain ⟨h1, N', L', rfl, h2⟩ := h; cases h1; exact kk N' L' h2) (fun E w' h => by obtain ⟨h1, _⟩ := h; cases h1)
theorem Sem.cVmN {idx k' t i : Nat} {as : List AV} {c' s' : Nat} {P : Nat → TN → TL → Prop} (hd : decode (cc k) pc = .ok (.invokevirtual idx, 3)) (hM : MK k') (hnh : hh k' = []) (hco : Cond.code (yn k') (cc k') (mL k') (rt k') ∈ AW_) (hlk : Cond.methodLink (RN (mo k)) idx (yn k') ∈ AW_) (him : Cond.instanceMethod (yn k') ∈ AW_) (hse : Cond.selects (RN (mo k')) (yn k') (yn k') ∈ AW_) (hkt : kd t = (3, mo k')) (hv : vld NN t i) (hlen : ((aR t i :: as).map ct1).sum ≤ mL k') (hn : as.length = np k') (hrs : (rst.map ct1).sum ≤ 8) (hfr : fr k' + 1 ≤ fr k) (hlo : 8 + (mL k' + 11) + lo k' ≤ lo k) (he1 : cells + mc k' = c') (he2 : slots + ms k' = s') (hc : c' ≤ mc k) (hs : s' ≤ ms k) (hS : Sem sc k' 0 (aArgs 0 (aR t i :: as)) [] (wd N L) 0 0 (QZ P)) (kk : ∀ (z : Nat) (N' : TN) (L' : TL), P z N' L' → Sem sc k (pc + 3) lv (aN z :: rst) (wd N' L') c' s' Q) : Sem sc k pc lv (as.reverse ++ aR t i :: rst) (wd N L) cells slots Q := by
  subst he1 he2
  exact Sem.callV (as := as) (rst := rst) hd hM hnh hco hlk him hse hkt hv rfl (fun v w' h => by obtain ⟨_, _, _, _, rfl, _⟩ := h; rfl) (fun E w' h => by obtain ⟨_, _, _, h1, _⟩ := h; cases h1) hlen hn hrs hfr hlo hc hs hS (fun v w' h => by obtain ⟨z, N', L', h1, rfl, h2⟩ := h; cases h1; exact kk z N' L' h2) (fun E w' h => by obtain ⟨_, _, _, h1, _⟩ := h; cases h1)
theorem Sem.cVmL {idx k' t i : Nat} {as : List AV} {c' s' : Nat} {P : Int64 → TN → TL → Prop} (hd : decode (cc k) pc = .ok (.invokevirtual idx, 3)) (hM : MK k') (hnh : hh k' = []) (hco : Cond.code (yn k') (cc k') (mL k') (rt k') ∈ AW_) (hlk : Cond.methodLink (RN (mo k)) idx (yn k') ∈ AW_) (him : Cond.instanceMethod (yn k') ∈ AW_) (hse : Cond.selects (RN (mo k')) (yn k') (yn k') ∈ AW_) (hkt : kd t = (3, mo k')) (hv : vld NN t i) (hlen : ((aR t i :: as).map ct1).sum ≤ mL k') (hn : as.length = np k') (hrs : (rst.map ct1).sum ≤ 8) (hfr : fr k' + 1 ≤ fr k) (hlo : 8 + (mL k' + 11) + lo k' ≤ lo k) (he1 : cells + mc k' = c') (he2 : slots + ms k' = s') (hc : c' ≤ mc k) (hs : s' ≤ ms k) (hS : Sem sc k' 0 (aArgs 0 (aR t i :: as)) [] (wd N L) 0 0 (QJ P)) (kk : ∀ (z : Int64) (N' : TN) (L' : TL), P z N' L' → Sem sc k (pc + 3) lv (aL z :: rst) (wd N' L') c' s' Q) : Sem sc k pc lv (as.reverse ++ aR t i :: rst) (wd N L) cells slots Q := by
  subst he1 he2
  exact Sem.callV (as := as) (rst := rst) hd hM hnh hco hlk him hse hkt hv rfl (fun v w' h => by obtain ⟨_, _, _, _, rfl, _⟩ := h; rfl) (fun E w' h => by obtain ⟨_, _, _, h1, _⟩ := h; cases h1) hlen hn hrs hfr hlo hc hs hS (fun v w' h => by obtain ⟨z, N', L', h1, rfl, h2⟩ := h; cases h1; exact kk z N' L' h2) (fun E w' h => by obtain ⟨_, _, _, h1, _⟩ := h; cases h1)
theorem Sem.cVx {idx k' t i : Nat} {as : List AV} {c' s' : Nat} {E : String} {P : TN → TL → Prop} (hd : decode (cc k) pc = .ok (.invokevirtual idx, 3)) (hM : MK k') (hnh : hh k' = []) (hco : Cond.code (yn k') (cc k') (mL k') (rt k') ∈ AW_) (hlk : Cond.methodLink (RN (mo k)) idx (yn k') ∈ AW_) (him : Cond.instanceMethod (yn k') ∈ AW_) (hse : Cond.selects (RN (mo k')) (yn k') (yn k') ∈ AW_) (hkt : kd t = (3, mo k')) (hv : vld NN t i) (hlen : ((aR t i :: as).map ct1).sum ≤ mL k') (hn : as.length = np k') (hrs : (rst.map ct1).sum ≤ 8) (hfr : fr k' + 1 ≤ fr k) (hlo : 8 + (mL k' + 11) + lo k' ≤ lo k) (he1 : cells + mc k' = c') (he2 : slots + ms k' = s') (hc : c' ≤ mc k) (hs : s' ≤ ms k) (hS : Sem sc k' 0 (aArgs 0 (aR t i :: as)) [] (wd N L) 0 0 (QE E P)) (kk : ∀ (N' : TN) (L' : TL), P N' L' → SemX sc k pc lv E (wd N' L') c' s' Q) : Sem sc k pc lv (as.reverse ++ aR t i :: rst) (wd N L) cells slots Q := by
  subst he1 he2
  exact Sem.callV (as := as) (rst := rst) hd hM hnh hco hlk him hse hkt hv rfl (fun v w' h => by obtain ⟨h1, _⟩ := h; cases h1) (fun E0 w' h => by obtain ⟨_, _, _, rfl, _⟩ := h; rfl) hlen hn hrs hfr hlo hc hs hS (fun v w' h => by obtain ⟨h1, _⟩ := h; cases h1) (fun E0 w' h => by obtain ⟨h1, N', L', rfl, h2⟩ := h; cases h1; exact kk N' L' h2)
theorem Sem.cSp1 {idx k' : Nat} {as : List AV} {c' s' : Nat} {a : AV} {N1 : TN} {L1 : TL} (hd : decode (cc k) pc = .ok (.invokestatic idx, 3)) (hM : MK k') (hnh : hh k' = []) (hco : Cond.code (yn k') (cc k') (mL k') (rt k') ∈ AW_) (hlk : Cond.methodLink (RN (mo k)) idx (yn k') ∈ AW_) (hstt : Cond.static (yn k') ∈ AW_) (hlen : ((as).map ct1).sum ≤ mL k') (hn : as.length = np k') (hrs : (rst.map ct1).sum ≤ 8) (hfr : fr k' + 1 ≤ fr k) (hlo : 8 + (mL k' + 11) + lo k' ≤ lo k) (he1 : cells + mc k' = c') (he2 : slots + ms k' = s') (hc : c' ≤ mc k) (hs : s' ≤ ms k) (hS : Sem sc k' 0 (aArgs 0 (as)) [] (wd N L) 0 0 (QP (some a) N1 L1)) (kk : Sem sc k (pc + 3) lv (a :: rst) (wd N1 L1) c' s' Q) : Sem sc k pc lv (as.reverse ++ rst) (wd N L) cells slots Q := by
  subst he1 he2
  exact Sem.callS (as := as) (rst := rst) hd hM hnh hco hlk hstt rfl (fun v w' h => by obtain ⟨_, rfl⟩ := h; rfl) (fun E w' h => by obtain ⟨h1, _⟩ := h; cases h1) hlen hn hrs hfr hlo hc hs hS (fun v w' h => by obtain ⟨h1, rfl⟩ := h; cases h1; exact kk) (fun E w' h => by obtain ⟨h1, _⟩ := h; cases h1)
theorem Sem.cSp0 {idx k' : Nat} {as : List AV} {c' s' : Nat} {N1 : TN} {L1 : TL} (hd : decode (cc k) pc = .ok (.invokestatic idx, 3)) (hM : MK k') (hnh : hh k' = []) (hco : Cond.code (yn k') (cc k') (mL k') (rt k') ∈ AW_) (hlk : Cond.methodLink (RN (mo k)) idx (yn k') ∈ AW_) (hstt : Cond.static (yn k') ∈ AW_) (hlen : ((as).map ct1).sum ≤ mL k') (hn : as.length = np k') (hrs : (rst.map ct1).sum ≤ 8) (hfr : fr k' + 1 ≤ fr k) (hlo : 8 + (mL k' + 11) + lo k' ≤ lo k) (he1 : cells + mc k' = c') (he2 : slots + ms k' = s') (hc : c' ≤ mc k) (hs : s' ≤ ms k) (hS : Sem sc k' 0 (aArgs 0 (as)) [] (wd N L) 0 0 (QP none N1 L1)) (kk : Sem sc k (pc + 3) lv rst (wd N1 L1) c' s' Q) : Sem sc k pc lv (as.reverse ++ rst) (wd N L) cells slots Q := by
  subst he1 he2
  exact Sem.callS (as := as) (rst := rst) hd hM hnh hco hlk hstt rfl (fun v w' h => by obtain ⟨_, rfl⟩ := h; rfl) (fun E w' h => by obtain ⟨h1, _⟩ := h; cases h1) hlen hn hrs hfr hlo hc hs hS (fun v w' h => by obtain ⟨h1, rfl⟩ := h; cases h1; exact kk) (fun E w' h => by obtain ⟨h1, _⟩ := h; cases h1)
theorem Sem.cSm0 {idx k' : Nat} {as : List AV} {c' s' : Nat} {P : TN → TL → Prop} (hd : decode (cc k) pc = .ok (.invokestatic idx, 3)) (hM : MK k') (hnh : hh k' = []) (hco : Cond.code (yn k') (cc k') (mL k') (rt k') ∈ AW_) (hlk : Cond.methodLink (RN (mo k)) idx (yn k') ∈ AW_) (hstt : Cond.static (yn k') ∈ AW_) (hlen : ((as).map ct1).sum ≤ mL k') (hn : as.length = np k') (hrs : (rst.map ct1).sum ≤ 8) (hfr : fr k' + 1 ≤ fr k) (hlo : 8 + (mL k' + 11) + lo k' ≤ lo k) (he1 : cells + mc k' = c') (he2 : slots + ms k' = s') (hc : c' ≤ mc k) (hs : s' ≤ ms k) (hS : Sem sc k' 0 (aArgs 0 (as)) [] (wd N L) 0 0 (Q0 P)) (kk : ∀ (N' : TN) (L' : TL), P N' L' → Sem sc k (pc + 3) lv rst (wd N' L') c' s' Q) : Sem sc k pc lv (as.reverse ++ rst) (wd N L) cells slots Q := by
  subst he1 he2
  exact Sem.callS (as := as) (rst := rst) hd hM hnh hco hlk hstt rfl (fun v w' h => by obtain ⟨_, _, _, rfl, _⟩ := h; rfl) (fun E w' h => by obtain ⟨h1, _⟩ := h; cases h1) hlen hn hrs hfr hlo hc hs hS (fun v w' h => by obtain ⟨h1, N', L', rfl, h2⟩ := h; cases h1; exact kk N' L' h2) (fun E w' h => by obtain ⟨h1, _⟩ := h; cases h1)
theorem Sem.cSmN {idx k' : Nat} {as : List AV} {c' s' : Nat} {P : Nat → TN → TL → Prop} (hd : decode (cc k) pc = .ok (.invokestatic idx, 3)) (hM : MK k') (hnh : hh k' = []) (hco : Cond.code (yn k') (cc k') (mL k') (rt k') ∈ AW_) (hlk : Cond.methodLink (RN (mo k)) idx (yn k') ∈ AW_) (hstt : Cond.static (yn k') ∈ AW_) (hlen : ((as).map ct1).sum ≤ mL k') (hn : as.length = np k') (hrs : (rst.map ct1).sum ≤ 8) (hfr : fr k' + 1 ≤ fr k) (hlo : 8 + (mL k' + 11) + lo k' ≤ lo k) (he1 : cells + mc k' = c') (he2 : slots + ms k' = s') (hc : c' ≤ mc k) (hs : s' ≤ ms k) (hS : Sem sc k' 0 (aArgs 0 (as)) [] (wd N L) 0 0 (QZ P)) (kk : ∀ (z : Nat) (N' : TN) (L' : TL), P z N' L' → Sem sc k (pc + 3) lv (aN z :: rst) (wd N' L') c' s' Q) : Sem sc k pc lv (as.reverse ++ rst) (wd N L) cells slots Q := by
  subst he1 he2
  exact Sem.callS (as := as) (rst := rst) hd hM hnh hco hlk hstt rfl (fun v w' h => by obtain ⟨_, _, _, _, rfl, _⟩ := h; rfl) (fun E w' h => by obtain ⟨_, _, _, h1, _⟩ := h; cases h1) hlen hn hrs hfr hlo hc hs hS (fun v w' h => by obtain ⟨z, N', L', h1, rfl, h2⟩ := h; cases h1; exact kk z N' L' h2) (fun E w' h => by obtain ⟨_, _, _, h1, _⟩ := h; cases h1)
theorem Sem.cSmL {idx k' : Nat} {as : List AV} {c' s' : Nat} {P : Int64 → TN → TL → Prop} (hd : decode (cc k) pc = .ok (.invokestatic idx, 3)) (hM : MK k') (hnh : hh k' = []) (hco : Cond.code (yn k') (cc k') (mL k') (rt k') ∈ AW_) (hlk : Cond.methodLink (RN (mo k)) idx (yn k') ∈ AW_) (hstt : Cond.static (yn k') ∈ AW_) (hlen : ((as).map ct1).sum ≤ mL k') (hn : as.length = np k') (hrs : (rst.map ct1).sum ≤ 8) (hfr : fr k' + 1 ≤ fr k) (hlo : 8 + (mL k' + 11) + lo k' ≤ lo k) (he1 : cells + mc k' = c') (he2 : slots + ms k' = s') (hc : c' ≤ mc k) (hs : s' ≤ ms k) (hS : Sem sc k' 0 (aArgs 0 (as)) [] (wd N L) 0 0 (QJ P)) (kk : ∀ (z : Int64) (N' : TN) (L' : TL), P z N' L' → Sem sc k (pc + 3) lv (aL z :: rst) (wd N' L') c' s' Q) : Sem sc k pc lv (as.reverse ++ rst) (wd N L) cells slots Q := by
  subst he1 he2
  exact Sem.callS (as := as) (rst := rst) hd hM hnh hco hlk hstt rfl (fun v w' h => by obtain ⟨_, _, _, _, rfl, _⟩ := h; rfl) (fun E w' h => by obtain ⟨_, _, _, h1, _⟩ := h; cases h1) hlen hn hrs hfr hlo hc hs hS (fun v w' h => by obtain ⟨z, N', L', h1, rfl, h2⟩ := h; cases h1; exact kk z N' L' h2) (fun E w' h => by obtain ⟨_, _, _, h1, _⟩ := h; cases h1)
theorem Sem.cSx {idx k' : Nat} {as : List AV} {c' s' : Nat} {E : String} {P : TN → TL → Prop} (hd : decode (cc k) pc = .ok (.invokestatic idx, 3)) (hM : MK k') (hnh : hh k' = []) (hco : Cond.code (yn k') (cc k') (mL k') (rt k') ∈ AW_) (hlk : Cond.methodLink (RN (mo k)) idx (yn k') ∈ AW_) (hstt : Cond.static (yn k') ∈ AW_) (hlen : ((as).map ct1).sum ≤ mL k') (hn : as.length = np k') (hrs : (rst.map ct1).sum ≤ 8) (hfr : fr k' + 1 ≤ fr k) (hlo : 8 + (mL k' + 11) + lo k' ≤ lo k) (he1 : cells + mc k' = c') (he2 : slots + ms k' = s') (hc : c' ≤ mc k) (hs : s' ≤ ms k) (hS : Sem sc k' 0 (aArgs 0 (as)) [] (wd N L) 0 0 (QE E P)) (kk : ∀ (N' : TN) (L' : TL), P N' L' → SemX sc k pc lv E (wd N' L') c' s' Q) : Sem sc k pc lv (as.reverse ++ rst) (wd N L) cells slots Q := by
  subst he1 he2
  exact Sem.callS (as := as) (rst := rst) hd hM hnh hco hlk hstt rfl (fun v w' h => by obtain ⟨h1, _⟩ := h; cases h1) (fun E0 w' h => by obtain ⟨_, _, _, rfl, _⟩ := h; rfl) hlen hn hrs hfr hlo hc hs hS (fun v w' h => by obtain ⟨h1, _⟩ := h; cases h1) (fun E0 w' h => by obtain ⟨h1, N', L', rfl, h2⟩ := h; cases h1; exact kk N' L' h2)
theorem Sem.cHp1 {idx k' : Nat} {as : List AV} {c' s' : Nat} {a : AV} {N1 : TN} {L1 : TL} (hd : decode (cc k) pc = .ok (.invokestatic idx, 3)) (hM : MK k') (hco : Cond.codeWith (yn k') (cc k') (mL k') (rt k') (hh k') ∈ AW_) (hlk : Cond.methodLink (RN (mo k)) idx (yn k') ∈ AW_) (hstt : Cond.static (yn k') ∈ AW_) (hlen : ((as).map ct1).sum ≤ mL k') (hn : as.length = np k') (hrs : (rst.map ct1).sum ≤ 8) (hfr : fr k' + 1 ≤ fr k) (hlo : 8 + (mL k' + 11) + lo k' ≤ lo k) (he1 : cells + mc k' = c') (he2 : slots + ms k' = s') (hc : c' ≤ mc k) (hs : s' ≤ ms k) (hS : Sem sc k' 0 (aArgs 0 (as)) [] (wd N L) 0 0 (QP (some a) N1 L1)) (kk : Sem sc k (pc + 3) lv (a :: rst) (wd N1 L1) c' s' Q) : Sem sc k pc lv (as.reverse ++ rst) (wd N L) cells slots Q := by
  subst he1 he2
  exact Sem.callSH (as := as) (rst := rst) hd hM hco hlk hstt rfl (fun v w' h => by obtain ⟨_, rfl⟩ := h; rfl) (fun E w' h => by obtain ⟨h1, _⟩ := h; cases h1) hlen hn hrs hfr hlo hc hs hS (fun v w' h => by obtain ⟨h1, rfl⟩ := h; cases h1; exact kk) (fun E w' h => by obtain ⟨h1, _⟩ := h; cases h1)
theorem Sem.cHp0 {idx k' : Nat} {as : List AV} {c' s' : Nat} {N1 : TN} {L1 : TL} (hd : decode (cc k) pc = .ok (.invokestatic idx, 3)) (hM : MK k') (hco : Cond.codeWith (yn k') (cc k') (mL k') (rt k') (hh k') ∈ AW_) (hlk : Cond.methodLink (RN (mo k)) idx (yn k') ∈ AW_) (hstt : Cond.static (yn k') ∈ AW_) (hlen : ((as).map ct1).sum ≤ mL k') (hn : as.length = np k') (hrs : (rst.map ct1).sum ≤ 8) (hfr : fr k' + 1 ≤ fr k) (hlo : 8 + (mL k' + 11) + lo k' ≤ lo k) (he1 : cells + mc k' = c') (he2 : slots + ms k' = s') (hc : c' ≤ mc k) (hs : s' ≤ ms k) (hS : Sem sc k' 0 (aArgs 0 (as)) [] (wd N L) 0 0 (QP none N1 L1)) (kk : Sem sc k (pc + 3) lv rst (wd N1 L1) c' s' Q) : Sem sc k pc lv (as.reverse ++ rst) (wd N L) cells slots Q := by
  subst he1 he2
  exact Sem.callSH (as := as) (rst := rst) hd hM hco hlk hstt rfl (fun v w' h => by obtain ⟨_, rfl⟩ := h; rfl) (fun E w' h => by obtain ⟨h1, _⟩ := h; cases h1) hlen hn hrs hfr hlo hc hs hS (fun v w' h => by obtain ⟨h1, rfl⟩ := h; cases h1; exact kk) (fun E w' h => by obtain ⟨h1, _⟩ := h; cases h1)
theorem Sem.cHm0 {idx k' : Nat} {as : List AV} {c' s' : Nat} {P : TN → TL → Prop} (hd : decode (cc k) pc = .ok (.invokestatic idx, 3)) (hM : MK k') (hco : Cond.codeWith (yn k') (cc k') (mL k') (rt k') (hh k') ∈ AW_) (hlk : Cond.methodLink (RN (mo k)) idx (yn k') ∈ AW_) (hstt : Cond.static (yn k') ∈ AW_) (hlen : ((as).map ct1).sum ≤ mL k') (hn : as.length = np k') (hrs : (rst.map ct1).sum ≤ 8) (hfr : fr k' + 1 ≤ fr k) (hlo : 8 + (mL k' + 11) + lo k' ≤ lo k) (he1 : cells + mc k' = c') (he2 : slots + ms k' = s') (hc : c' ≤ mc k) (hs : s' ≤ ms k) (hS : Sem sc k' 0 (aArgs 0 (as)) [] (wd N L) 0 0 (Q0 P)) (kk : ∀ (N' : TN) (L' : TL), P N' L' → Sem sc k (pc + 3) lv rst (wd N' L') c' s' Q) : Sem sc k pc lv (as.reverse ++ rst) (wd N L) cells slots Q := by
  subst he1 he2
  exact Sem.callSH (as := as) (rst := rst) hd hM hco hlk hstt rfl (fun v w' h => by obtain ⟨_, _, _, rfl, _⟩ := h; rfl) (fun E w' h => by obtain ⟨h1, _⟩ := h; cases h1) hlen hn hrs hfr hlo hc hs hS (fun v w' h => by obtain ⟨h1, N', L', rfl, h2⟩ := h; cases h1; exact kk N' L' h2) (fun E w' h => by obtain ⟨h1, _⟩ := h; cases h1)
theorem Sem.cHmN {idx k' : Nat} {as : List AV} {c' s' : Nat} {P : Nat → TN → TL → Prop} (hd : decode (cc k) pc = .ok (.invokestatic idx, 3)) (hM : MK k') (hco : Cond.codeWith (yn k') (cc k') (mL k') (rt k') (hh k') ∈ AW_) (hlk : Cond.methodLink (RN (mo k)) idx (yn k') ∈ AW_) (hstt : Cond.static (yn k') ∈ AW_) (hlen : ((as).map ct1).sum ≤ mL k') (hn : as.length = np k') (hrs : (rst.map ct1).sum ≤ 8) (hfr : fr k' + 1 ≤ fr k) (hlo : 8 + (mL k' + 11) + lo k' ≤ lo k) (he1 : cells + mc k' = c') (he2 : slots + ms k' = s') (hc : c' ≤ mc k) (hs : s' ≤ ms k) (hS : Sem sc k' 0 (aArgs 0 (as)) [] (wd N L) 0 0 (QZ P)) (kk : ∀ (z : Nat) (N' : TN) (L' : TL), P z N' L' → Sem sc k (pc + 3) lv (aN z :: rst) (wd N' L') c' s' Q) : Sem sc k pc lv (as.reverse ++ rst) (wd N L) cells slots Q := by
  subst he1 he2
  exact Sem.callSH (as := as) (rst := rst) hd hM hco hlk hstt rfl (fun v w' h => by obtain ⟨_, _, _, _, rfl, _⟩ := h; rfl) (fun E w' h => by obtain ⟨_, _, _, h1, _⟩ := h; cases h1) hlen hn hrs hfr hlo hc hs hS (fun v w' h => by obtain ⟨z, N', L', h1, rfl, h2⟩ := h; cases h1; exact kk z N' L' h2) (fun E w' h => by obtain ⟨_, _, _, h1, _⟩ := h; cases h1)
theorem Sem.cHmL {idx k' : Nat} {as : List AV} {c' s' : Nat} {P : Int64 → TN → TL → Prop} (hd : decode (cc k) pc = .ok (.invokestatic idx, 3)) (hM : MK k') (hco : Cond.codeWith (yn k') (cc k') (mL k') (rt k') (hh k') ∈ AW_) (hlk : Cond.methodLink (RN (mo k)) idx (yn k') ∈ AW_) (hstt : Cond.static (yn k') ∈ AW_) (hlen : ((as).map ct1).sum ≤ mL k') (hn : as.length = np k') (hrs : (rst.map ct1).sum ≤ 8) (hfr : fr k' + 1 ≤ fr k) (hlo : 8 + (mL k' + 11) + lo k' ≤ lo k) (he1 : cells + mc k' = c') (he2 : slots + ms k' = s') (hc : c' ≤ mc k) (hs : s' ≤ ms k) (hS : Sem sc k' 0 (aArgs 0 (as)) [] (wd N L) 0 0 (QJ P)) (kk : ∀ (z : Int64) (N' : TN) (L' : TL), P z N' L' → Sem sc k (pc + 3) lv (aL z :: rst) (wd N' L') c' s' Q) : Sem sc k pc lv (as.reverse ++ rst) (wd N L) cells slots Q := by
  subst he1 he2
  exact Sem.callSH (as := as) (rst := rst) hd hM hco hlk hstt rfl (fun v w' h => by obtain ⟨_, _, _, _, rfl, _⟩ := h; rfl) (fun E w' h => by obtain ⟨_, _, _, h1, _⟩ := h; cases h1) hlen hn hrs hfr hlo hc hs hS (fun v w' h => by obtain ⟨z, N', L', h1, rfl, h2⟩ := h; cases h1; exact kk z N' L' h2) (fun E w' h => by obtain ⟨_, _, _, h1, _⟩ := h; cases h1)
theorem Sem.cHx {idx k' : Nat} {as : List AV} {c' s' : Nat} {E : String} {P : TN → TL → Prop} (hd : decode (cc k) pc = .ok (.invokestatic idx, 3)) (hM : MK k') (hco : Cond.codeWith (yn k') (cc k') (mL k') (rt k') (hh k') ∈ AW_) (hlk : Cond.methodLink (RN (mo k)) idx (yn k') ∈ AW_) (hstt : Cond.static (yn k') ∈ AW_) (hlen : ((as).map ct1).sum ≤ mL k') (hn : as.length = np k') (hrs : (rst.map ct1).sum ≤ 8) (hfr : fr k' + 1 ≤ fr k) (hlo : 8 + (mL k' + 11) + lo k' ≤ lo k) (he1 : cells + mc k' = c') (he2 : slots + ms k' = s') (hc : c' ≤ mc k) (hs : s' ≤ ms k) (hS : Sem sc k' 0 (aArgs 0 (as)) [] (wd N L) 0 0 (QE E P)) (kk : ∀ (N' : TN) (L' : TL), P N' L' → SemX sc k pc lv E (wd N' L') c' s' Q) : Sem sc k pc lv (as.reverse ++ rst) (wd N L) cells slots Q := by
  subst he1 he2
  exact Sem.callSH (as := as) (rst := rst) hd hM hco hlk hstt rfl (fun v w' h => by obtain ⟨h1, _⟩ := h; cases h1) (fun E0 w' h => by obtain ⟨_, _, _, rfl, _⟩ := h; rfl) hlen hn hrs hfr hlo hc hs hS (fun v w' h => by obtain ⟨h1, _⟩ := h; cases h1) (fun E0 w' h => by obtain ⟨h1, N', L', rfl, h2⟩ := h; cases h1; exact kk N' L' h2)
end Rules
end
section
-- ===== words of the picture: sums, rows =====
abbrev q64 (n : Nat) : Int64 := (nI n).toInt64
def sm (f : Nat → Int64) : Nat → Int64
  | 0 => 0
  | n + 1 => sm f n + f n
theorem sm_congr {f g : Nat → Int64} {n : Nat} (h : ∀ k, k < n → f k = g k) : sm f n = sm g n := by
  induction n with
  | zero => rfl
  | succ n ih => simp only [sm]; rw [ih (fun k hk => h k (by omega)), h n (by omega)]
theorem sm_add (f g : Nat → Int64) (n : Nat) : sm (fun k => f k + g k) n = sm f n + sm g n := by
  induction n with
  | zero => rfl
  | succ n ih => simp only [sm]; rw [ih]; ac_rfl
theorem sm_zero (n : Nat) : sm (fun _ => 0) n = 0 := by
  induction n with
  | zero => rfl
  | succ n ih => simp only [sm]; rw [ih]; rfl
def upW (L : TL) (t i n : Nat) (f : Nat → Int64) : TL := fun t' i' j => if t' = t ∧ i' = i ∧ j < n then f j else L t' i' j
def upV (N : TN) (t i n : Nat) (f : Nat → Nat) : TN := fun t' i' j => if t' = t ∧ i' = i ∧ j < n then f j else N t' i' j
theorem upW_at {L : TL} {t i n j : Nat} {f : Nat → Int64} (h : j < n) : upW L t i n f t i j = f j := if_pos ⟨rfl, rfl, h⟩
theorem upV_at {N : TN} {t i n j : Nat} {f : Nat → Nat} (h : j < n) : upV N t i n f t i j = f j := if_pos ⟨rfl, rfl, h⟩
theorem upW_ne {L : TL} {t i n t' i' j : Nat} {f : Nat → Int64} (h : ¬ (t' = t ∧ i' = i ∧ j < n)) : upW L t i n f t' i' j = L t' i' j := if_neg h
theorem upV_ne {N : TN} {t i n t' i' j : Nat} {f : Nat → Nat} (h : ¬ (t' = t ∧ i' = i ∧ j < n)) : upV N t i n f t' i' j = N t' i' j := if_neg h
theorem upW_0 {L : TL} {t i : Nat} {f : Nat → Int64} : upW L t i 0 f = L := by
  funext t' i' j; simp [upW]
theorem upV_0 {N : TN} {t i : Nat} {f : Nat → Nat} : upV N t i 0 f = N := by
  funext t' i' j; simp [upV]
theorem upW_s {L : TL} {t i n : Nat} {f : Nat → Int64} {x : Int64} (h : x = f n) : upL (upW L t i n f) t i n x = upW L t i (n + 1) f := by
  subst h
  funext t' i' j
  simp only [upL, upW]
  by_cases h1 : t' = t ∧ i' = i
  · obtain ⟨rfl, rfl⟩ := h1
    by_cases h2 : j = n
    · subst h2; simp
    · by_cases h3 : j < n
      · have : j < n + 1 := by omega
        simp [h2, h3, this]
      · have : ¬ j < n + 1 := by omega
        simp [h2, h3, this]
  · have a1 : ∀ P : Prop, ¬ (t' = t ∧ i' = i ∧ P) := fun P q => h1 ⟨q.1, q.2.1⟩
    simp [a1]
theorem upV_s {N : TN} {t i n : Nat} {f : Nat → Nat} {x : Nat} (h : x = f n) : upN (upV N t i n f) t i n x = upV N t i (n + 1) f := by
  subst h
  funext t' i' j
  simp only [upN, upV]
  by_cases h1 : t' = t ∧ i' = i
  · obtain ⟨rfl, rfl⟩ := h1
    by_cases h2 : j = n
    · subst h2; simp
    · by_cases h3 : j < n
      · have : j < n + 1 := by omega
        simp [h2, h3, this]
      · have : ¬ j < n + 1 := by omega
        simp [h2, h3, this]
  · have a1 : ∀ P : Prop, ¬ (t' = t ∧ i' = i ∧ P) := fun P q => h1 ⟨q.1, q.2.1⟩
    simp [a1]
theorem upW_cg {L : TL} {t i n : Nat} {f g : Nat → Int64} (h : ∀ j, j < n → f j = g j) : upW L t i n f = upW L t i n g := by
  funext t' i' j
  simp only [upW]
  by_cases h1 : t' = t ∧ i' = i ∧ j < n
  · rw [if_pos h1, if_pos h1, h j h1.2.2]
  · rw [if_neg h1, if_neg h1]
theorem upW_ex {L : TL} {t i n j : Nat} {f : Nat → Int64} {x : Int64} (hj : j < n) : upL (upW L t i n f) t i j x = upW L t i n (fun q => if q = j then x else f q) := by
  funext t' i' q
  simp only [upL, upW]
  by_cases h1 : t' = t ∧ i' = i
  · obtain ⟨rfl, rfl⟩ := h1
    by_cases h2 : q = j
    · subst h2; simp [hj]
    · simp [h2]
  · have a1 : ∀ P : Prop, ¬ (t' = t ∧ i' = i ∧ P) := fun P q => h1 ⟨q.1, q.2.1⟩
    simp [a1]
theorem upW_id {L : TL} {t i n : Nat} : upW L t i n (fun j => L t i j) = L := by
  funext t' i' j
  simp only [upW]
  by_cases h1 : t' = t ∧ i' = i ∧ j < n
  · rw [if_pos h1, h1.1, h1.2.1]
  · rw [if_neg h1]
theorem upW_2 {L : TL} {t i n : Nat} {f g : Nat → Int64} : upW (upW L t i n f) t i n g = upW L t i n g := by
  funext t' i' j
  simp only [upW]
  by_cases h1 : t' = t ∧ i' = i ∧ j < n
  · rw [if_pos h1, if_pos h1]
  · rw [if_neg h1, if_neg h1, if_neg h1]
theorem q64_toInt {n : Nat} (h : n < 2 ^ 31) : (q64 n).toInt = (n : Int) := by
  rw [q64, Int32.toInt_toInt64, nI_toInt h]
theorem q64_ne {n : Nat} (h0 : 0 < n) (h : n < 2 ^ 31) : ¬ q64 n = 0 := by
  intro e
  have h1 := congrArg Int64.toInt e
  rw [q64_toInt h] at h1
  have h2 : (0 : Int64).toInt = 0 := rfl
  omega
theorem q64_add {a b : Nat} (h : a + b < 2 ^ 31) : q64 (a + b) = q64 a + q64 b := by
  apply Int64.toInt_inj.mp
  rw [q64_toInt h, Int64.toInt_add, q64_toInt (by omega), q64_toInt (by omega), Int.bmod_eq_of_le] <;> omega
/-- what a book holds of an item ahead of week u -/
def bsm (I W M : Nat → Nat) (i u n : Nat) : Int64 := sm (fun k => if I k = i ∧ W k < u then q64 (M k) else 0) n
/-- what a book holds of an item in week w -/
def bat (I W M : Nat → Nat) (i w n : Nat) : Int64 := sm (fun k => if I k = i ∧ W k = w then q64 (M k) else 0) n
def scr (n : Int64) (s : Nat) : Int64 := (n * q64 (1000 + s) + Int64.ofNat 999) / Int64.ofNat 1000
noncomputable def bo (P : Prop) : Nat := @ite Nat P (Classical.propDecidable P) 1 0
theorem bo_t {P : Prop} (h : P) : bo P = 1 := by unfold bo; exact if_pos h
theorem bo_f {P : Prop} (h : ¬ P) : bo P = 0 := by unfold bo; exact if_neg h
theorem bo_le (P : Prop) : bo P ≤ 1 := by
  rcases Classical.em P with h | h
  · rw [bo_t h]; exact Nat.le_refl 1
  · rw [bo_f h]; exact Nat.zero_le 1
theorem bo_cg {P Q : Prop} (h : P ↔ Q) : bo P = bo Q := by rw [propext h]
theorem all_s {P : Nat → Prop} {n : Nat} (h : ∀ v, v < n → P v) (hn : P n) : ∀ v, v < n + 1 → P v := fun v hv => by
  rcases Nat.lt_or_ge v n with q | q
  · exact h v q
  · have e : v = n := by omega
    subst e; exact hn
end
section
-- ===== the picture of netting =====
def mx (a b : Int64) : Int64 := if b < a then a else b
def barA (st : Nat) (br gr : Nat → Int64) : Nat → Int64
  | 0 => q64 st
  | w + 1 => barA st br gr w + (br w - gr w)
def mosA (D : Nat → Nat) (br gr : Nat → Int64) : Nat → Int64
  | 0 => 0
  | w + 1 => mx (mosA D br gr w) (q64 (D 3) - barA (D 7) br gr (w + 1))
def bareF (D : Nat → Nat) (br gr : Nat → Int64) (w : Nat) : Int64 := barA (D 7) br gr (w + 1)
def needF (D : Nat → Nat) (br gr : Nat → Int64) (w : Nat) : Int64 := if w < D 2 then 0 else mosA D br gr (w + 1)
def prv (nd : Nat → Int64) (w : Nat) : Int64 := if w < 1 then 0 else nd (w - 1)
def wai (nd : Nat → Int64) (w : Nat) : Nat → Int64
  | 0 => 0
  | n + 1 => wai nd w n + q64 n * (nd (w + n) - prv nd (w + n))
/-- what a lot of week w costs that goes to week w + n -/
def cs (D : Nat → Nat) (nd : Nat → Int64) (w n : Nat) : Int64 := q64 (D 5) + q64 (D 6) * wai nd w (n + 1)
def pk (D : Nat → Nat) (nd bt : Nat → Int64) (w : Nat) : Nat → Int64 × Nat
  | 0 => (0, 0)
  | n + 1 => if n = 0 ∨ cs D nd w n + bt (w + n + 1) < (pk D nd bt w n).1 then (cs D nd w n + bt (w + n + 1), w + n) else pk D nd bt w n
theorem pk_cg {D : Nat → Nat} {nd bt bt' : Nat → Int64} {w n : Nat} (h : ∀ q, w < q → q ≤ w + n → bt q = bt' q) : pk D nd bt w n = pk D nd bt' w n := by
  induction n with
  | zero => rfl
  | succ n ih =>
    simp only [pk]
    rw [ih (fun q h1 h2 => h q h1 (by omega)), h (w + n + 1) (by omega) (by omega)]
theorem pk_at {D : Nat → Nat} {nd bt : Nat → Int64} {w n : Nat} (h : 0 < n) : w ≤ (pk D nd bt w n).2 ∧ (pk D nd bt w n).2 < w + n := by
  induction n with
  | zero => omega
  | succ n ih =>
    simp only [pk]
    split
    · constructor
      · show w ≤ w + n; omega
      · show w + n < w + (n + 1); omega
    · rename_i h1
      have := ih (by omega)
      omega
/-- best, m weeks from the end -/
def bst (D : Nat → Nat) (nd : Nat → Int64) : Nat → Nat → Int64
  | 0 => fun _ => 0
  | m + 1 => fun q => if q = 11 - m then (if nd q = prv nd q then bst D nd m (q + 1) else (pk D nd (bst D nd m) q (m + 1)).1) else bst D nd m q
def bestF (D : Nat → Nat) (nd : Nat → Int64) (q : Nat) : Int64 := bst D nd 12 q
theorem bst_st {D : Nat → Nat} {nd : Nat → Int64} {m n q : Nat} (hm : m ≤ n) (hn : n ≤ 12) (hq : 12 - m ≤ q) : bst D nd n q = bst D nd m q := by
  induction n with
  | zero =>
    have : m = 0 := by omega
    subst this; rfl
  | succ n ih =>
    by_cases h : m = n + 1
    · subst h; rfl
    · simp only [bst]
      rw [if_neg (by omega)]
      exact ih (by omega) (by omega)
theorem best_12 {D : Nat → Nat} {nd : Nat → Int64} : bestF D nd 12 = 0 := by
  unfold bestF
  rw [bst_st (m := 0) (by omega) (by omega) (by omega)]
  rfl
theorem best_w {D : Nat → Nat} {nd : Nat → Int64} {w : Nat} (h : w < 12) : bestF D nd w = if nd w = prv nd w then bestF D nd (w + 1) else (pk D nd (bestF D nd) w (12 - w)).1 := by
  have e1 : bestF D nd w = bst D nd (12 - w) w := bst_st (by omega) (by omega) (by omega)
  have e2 : 12 - w = (11 - w) + 1 := by omega
  rw [e1, e2]
  simp only [bst]
  rw [if_pos (by omega)]
  have e3 : bst D nd (11 - w) (w + 1) = bestF D nd (w + 1) := (bst_st (by omega) (by omega) (by omega)).symm
  rw [e3, pk_cg (bt' := bestF D nd) (fun q h1 h2 => (bst_st (by omega) (by omega) (by omega)).symm)]
def lastF (D : Nat → Nat) (nd : Nat → Int64) (w : Nat) : Nat := (pk D nd (bestF D nd) w (12 - w)).2
def lmu (n : Nat) (x : Int64) : Int64 := if n < 1 then x else (x + q64 n - Int64.ofNat 1) / q64 n * q64 n
def lotF (D : Nat → Nat) (nd : Nat → Int64) (w : Nat) (got : Int64) : Int64 :=
  if D 0 = 1 then lmu (D 1) (nd w - got) else if D 0 = 2 then nd (if 11 < w + D 1 - 1 then 11 else w + D 1 - 1) - got else if D 0 = 3 then nd (lastF D nd w) - got else nd w - got
def plO (D : Nat → Nat) (nd : Nat → Int64) (w : Nat) (got : Int64) : Int64 := if nd w ≤ got then 0 else lotF D nd w got
def gotA (D : Nat → Nat) (nd : Nat → Int64) : Nat → Int64
  | 0 => 0
  | w + 1 => gotA D nd w + plO D nd w (gotA D nd w)
def planF (D : Nat → Nat) (br gr : Nat → Int64) (w : Nat) : Int64 := plO D (needF D br gr) w (gotA D (needF D br gr) w)
def balF (D : Nat → Nat) (br gr : Nat → Int64) (w : Nat) : Int64 := bareF D br gr w + gotA D (needF D br gr) (w + 1)
theorem upLW {L : TL} {t i n t' i' j : Nat} {f : Nat → Int64} {x : Int64} (h : t' ≠ t) : upL (upW L t i n f) t' i' j x = upW (upL L t' i' j x) t i n f := by
  funext a b c
  simp only [upL, upW]
  by_cases h1 : a = t'
  · subst h1
    have a1 : ∀ P : Prop, ¬ (a = t ∧ P) := fun P q => h q.1
    simp [a1]
  · have a1 : ∀ P : Prop, ¬ (a = t' ∧ P) := fun P q => h1 q.1
    simp [a1]
theorem upNV {L : TN} {t i n t' i' j : Nat} {f : Nat → Nat} {x : Nat} (h : t' ≠ t) : upN (upV L t i n f) t' i' j x = upV (upN L t' i' j x) t i n f := by
  funext a b c
  simp only [upN, upV]
  by_cases h1 : a = t'
  · subst h1
    have a1 : ∀ P : Prop, ¬ (a = t ∧ P) := fun P q => h q.1
    simp [a1]
  · have a1 : ∀ P : Prop, ¬ (a = t' ∧ P) := fun P q => h1 q.1
    simp [a1]
theorem upL_at {L : TL} {t i j : Nat} {x : Int64} : upL L t i j x t i j = x := if_pos ⟨rfl, rfl, rfl⟩
theorem upN_at {L : TN} {t i j : Nat} {x : Nat} : upN L t i j x t i j = x := if_pos ⟨rfl, rfl, rfl⟩
theorem upL_ne {L : TL} {t i j t' i' j' : Nat} {x : Int64} (h : ¬ (t' = t ∧ i' = i ∧ j' = j)) : upL L t i j x t' i' j' = L t' i' j' := if_neg h
theorem upN_ne {L : TN} {t i j t' i' j' : Nat} {x : Nat} (h : ¬ (t' = t ∧ i' = i ∧ j' = j)) : upN L t i j x t' i' j' = L t' i' j' := if_neg h
theorem upL_2 {L : TL} {t i j : Nat} {x y : Int64} : upL (upL L t i j x) t i j y = upL L t i j y := by
  funext a b c
  simp only [upL]
  split <;> rfl
theorem upN_2 {L : TN} {t i j : Nat} {x y : Nat} : upN (upN L t i j x) t i j y = upN L t i j y := by
  funext a b c
  simp only [upN]
  split <;> rfl
theorem upW_s2 {L : TL} {t1 t2 i1 i2 n : Nat} {f g : Nat → Int64} {x y : Int64} (ht : t1 ≠ t2) (h1 : x = f n) (h2 : y = g n) : upL (upL (upW (upW L t1 i1 n f) t2 i2 n g) t1 i1 n x) t2 i2 n y = upW (upW L t1 i1 (n + 1) f) t2 i2 (n + 1) g := by
  rw [upLW ht, upW_s h1, upW_s h2]
theorem dec_toInt {a : Nat} (h : a < 2 ^ 31) : (nI a + Int32.ofInt (-1)).toInt = (a : Int) - 1 := by
  rcases Nat.eq_zero_or_pos a with q | q
  · subst q; decide
  · rw [nI_dec q, nI_toInt (by omega)]; omega
theorem mx_l (a b : Int64) : a ≤ mx a b := by
  unfold mx
  split
  · exact Int64.le_refl a
  · rename_i h; exact Int64.not_lt.mp h
theorem mx_r (a b : Int64) : b ≤ mx a b := by
  unfold mx
  split
  · rename_i h; exact Int64.le_of_lt h
  · exact Int64.le_refl b
theorem mosA_mono {D : Nat → Nat} {br gr : Nat → Int64} {v w : Nat} (h : v ≤ w) : mosA D br gr v ≤ mosA D br gr w := by
  induction w with
  | zero => have : v = 0 := by omega
            subst this; exact Int64.le_refl _
  | succ w ih =>
    by_cases q : v = w + 1
    · subst q; exact Int64.le_refl _
    · exact Int64.le_trans (ih (by omega)) (mx_l _ _)
theorem needF_mono {D : Nat → Nat} {br gr : Nat → Int64} {v w : Nat} (h : v ≤ w) : needF D br gr v ≤ needF D br gr w := by
  unfold needF
  by_cases h1 : v < D 2
  · rw [if_pos h1]
    by_cases h2 : w < D 2
    · rw [if_pos h2]; exact Int64.le_refl _
    · rw [if_neg h2]; exact mosA_mono (v := 0) (by omega)
  · rw [if_neg h1, if_neg (by omega)]
    exact mosA_mono (by omega)
theorem prv_0 {nd : Nat → Int64} : prv nd 0 = 0 := rfl
theorem prv_s {nd : Nat → Int64} {w : Nat} : prv nd (w + 1) = nd w := by
  unfold prv
  rw [if_neg (by omega)]
  rfl
theorem lastF_at {D : Nat → Nat} {nd : Nat → Int64} {w : Nat} (h : w < 12) : w ≤ lastF D nd w ∧ lastF D nd w < 12 := by
  have := pk_at (D := D) (nd := nd) (bt := bestF D nd) (w := w) (n := 12 - w) (by omega)
  unfold lastF
  omega
theorem got_prv {D : Nat → Nat} {br gr : Nat → Int64} (h3 : D 0 = 3) {w : Nat} (h : w ≤ 12) : prv (needF D br gr) w ≤ gotA D (needF D br gr) w := by
  induction w with
  | zero => exact Int64.le_refl _
  | succ w ih =>
    rw [prv_s]
    simp only [gotA, plO]
    split
    · rename_i h1; rw [Int64.add_zero]; exact h1
    · simp only [lotF]
      rw [if_neg (by omega), if_neg (by omega), if_pos h3]
      have e : ∀ a b : Int64, a + (b - a) = b := fun a b => by rw [Int64.add_comm, Int64.sub_add_cancel]
      rw [e]
      exact needF_mono (lastF_at (by omega)).1
theorem needF_ge {D : Nat → Nat} {br gr : Nat → Int64} {w : Nat} (h : ¬ w < D 2) : needF D br gr w = mosA D br gr (w + 1) := if_neg h
theorem needF_lt {D : Nat → Nat} {br gr : Nat → Int64} {w : Nat} (h : w < D 2) : needF D br gr w = 0 := if_pos h
section Cg
variable {D D' : Nat → Nat} {nd nd' : Nat → Int64}
theorem prv_cg (h : ∀ q, q < 12 → nd q = nd' q) {w : Nat} (hw : w ≤ 12) : prv nd w = prv nd' w := by
  unfold prv
  split
  · rfl
  · exact h _ (by omega)
theorem wai_cg (h : ∀ q, q < 12 → nd q = nd' q) {w n : Nat} (hw : w + n ≤ 12) : wai nd w n = wai nd' w n := by
  induction n with
  | zero => rfl
  | succ n ih => simp only [wai]; rw [ih (by omega), h _ (by omega), prv_cg h (by omega)]
theorem cs_cg (h5 : D 5 = D' 5) (h6 : D 6 = D' 6) (h : ∀ q, q < 12 → nd q = nd' q) {w n : Nat} (hw : w + n < 12) : cs D nd w n = cs D' nd' w n := by
  unfold cs
  rw [h5, h6, wai_cg h (by omega)]
theorem pk_cg2 (h5 : D 5 = D' 5) (h6 : D 6 = D' 6) (h : ∀ q, q < 12 → nd q = nd' q) {bt bt' : Nat → Int64} {w n : Nat} (hb : ∀ q, w < q → q ≤ w + n → bt q = bt' q) (hw : w + n ≤ 12) : pk D nd bt w n = pk D' nd' bt' w n := by
  induction n with
  | zero => rfl
  | succ n ih =>
    simp only [pk]
    rw [ih (fun q h1 h2 => hb q h1 (by omega)) (by omega), hb (w + n + 1) (by omega) (by omega), cs_cg h5 h6 h (by omega)]
theorem bst_cg (h5 : D 5 = D' 5) (h6 : D 6 = D' 6) (h : ∀ q, q < 12 → nd q = nd' q) {m : Nat} (hm : m ≤ 12) : bst D nd m = bst D' nd' m := by
  induction m with
  | zero => rfl
  | succ m ih =>
    funext q
    simp only [bst]
    rw [ih (by omega)]
    by_cases hq : q = 11 - m
    · rw [if_pos hq, if_pos hq, h q (by omega), prv_cg h (by omega), pk_cg2 h5 h6 h (bt' := bst D' nd' m) (fun _ _ _ => rfl) (by omega)]
    · rw [if_neg hq, if_neg hq]
theorem bestF_cg (h5 : D 5 = D' 5) (h6 : D 6 = D' 6) (h : ∀ q, q < 12 → nd q = nd' q) : bestF D nd = bestF D' nd' := bst_cg h5 h6 h (by omega)
theorem lastF_cg (h5 : D 5 = D' 5) (h6 : D 6 = D' 6) (h : ∀ q, q < 12 → nd q = nd' q) {w : Nat} (hw : w < 12) : lastF D nd w = lastF D' nd' w := by
  unfold lastF
  rw [bestF_cg h5 h6 h, pk_cg2 h5 h6 h (bt' := bestF D' nd') (fun _ _ _ => rfl) (by omega)]
theorem lotF_cg (hD : ∀ f, f < 8 → D f = D' f) (h : ∀ q, q < 12 → nd q = nd' q) {w : Nat} (hw : w < 12) (g : Int64) : lotF D nd w g = lotF D' nd' w g := by
  unfold lotF
  rw [hD 0 (by omega), hD 1 (by omega), h w hw, lastF_cg (hD 5 (by omega)) (hD 6 (by omega)) h hw, h (lastF D' nd' w) (lastF_at hw).2]
  split
  · rfl
  · split
    · congr 1
      split
      · exact h _ (by omega)
      · exact h _ (by omega)
    · rfl
theorem gotA_cg (hD : ∀ f, f < 8 → D f = D' f) (h : ∀ q, q < 12 → nd q = nd' q) {w : Nat} (hw : w ≤ 12) : gotA D nd w = gotA D' nd' w := by
  induction w with
  | zero => rfl
  | succ w ih => simp only [gotA, plO]; rw [ih (by omega), h w (by omega), lotF_cg hD h (by omega)]
variable {br br' gr gr' : Nat → Int64}
theorem barA_cg (hD : ∀ f, f < 8 → D f = D' f) (hb : ∀ q, q < 12 → br q = br' q) (hg : ∀ q, q < 12 → gr q = gr' q) {w : Nat} (hw : w ≤ 12) : barA (D 7) br gr w = barA (D' 7) br' gr' w := by
  induction w with
  | zero => simp only [barA]; rw [hD 7 (by omega)]
  | succ w ih => simp only [barA]; rw [ih (by omega), hb w (by omega), hg w (by omega)]
theorem mosA_cg (hD : ∀ f, f < 8 → D f = D' f) (hb : ∀ q, q < 12 → br q = br' q) (hg : ∀ q, q < 12 → gr q = gr' q) {w : Nat} (hw : w ≤ 12) : mosA D br gr w = mosA D' br' gr' w := by
  induction w with
  | zero => rfl
  | succ w ih => simp only [mosA]; rw [ih (by omega), barA_cg hD hb hg hw, hD 3 (by omega)]
theorem needF_cg (hD : ∀ f, f < 8 → D f = D' f) (hb : ∀ q, q < 12 → br q = br' q) (hg : ∀ q, q < 12 → gr q = gr' q) : ∀ w, w < 12 → needF D br gr w = needF D' br' gr' w := by
  intro w hw
  unfold needF
  rw [hD 2 (by omega), mosA_cg hD hb hg (by omega)]
theorem planF_cg (hD : ∀ f, f < 8 → D f = D' f) (hb : ∀ q, q < 12 → br q = br' q) (hg : ∀ q, q < 12 → gr q = gr' q) {w : Nat} (hw : w < 12) : planF D br gr w = planF D' br' gr' w := by
  unfold planF plO
  rw [gotA_cg hD (needF_cg hD hb hg) (by omega), needF_cg hD hb hg w hw, lotF_cg hD (needF_cg hD hb hg) hw]
theorem balF_cg (hD : ∀ f, f < 8 → D f = D' f) (hb : ∀ q, q < 12 → br q = br' q) (hg : ∀ q, q < 12 → gr q = gr' q) {w : Nat} (hw : w < 12) : balF D br gr w = balF D' br' gr' w := by
  unfold balF bareF
  rw [gotA_cg hD (needF_cg hD hb hg) (by omega), barA_cg hD hb hg (by omega)]
end Cg
end
section
-- ===== the picture of planning, over the class's numbers (the model is seen through mN, mL) =====
def askG (pr fr to ld sc : Nat) (pl : Nat → Int64) (w : Nat) : Int64 :=
  if pr = 0 then 0 else if fr ≤ w ∧ w ≤ to then scr ((if w + ld < 12 then pl (w + ld) else 0) * q64 pr) sc else 0
def askF (N : TN) (L : TL) (p i w : Nat) : Int64 := askG (N 3 0 (p * 12 + i)) (N 4 0 (p * 12 + i)) (N 5 0 (p * 12 + i)) (N 19 p 2) (N 19 i 4) (L 21 p) w
def dmF (N : TN) (i w : Nat) : Int64 := bat (N 9 0) (N 10 0) (N 11 0) i w (N 8 0 3)
def brF (N : TN) (i w : Nat) : Int64 := bat (N 9 1) (N 10 1) (N 11 1) i w (N 8 1 3)
def grF (N : TN) (L : TL) (i w : Nat) : Int64 := dmF N i w + sm (fun p => askF N L p i w) 12
/-- what is told of an item, of a book, of the bill, keeps its ranges -/
def CI (N : TN) (i : Nat) : Prop := N 19 i 0 ≤ 3 ∧ 1 ≤ N 19 i 1 ∧ N 19 i 1 ≤ 1000 ∧ N 19 i 2 ≤ 4 ∧ N 19 i 3 ≤ 1000 ∧ N 19 i 4 ≤ 200 ∧ N 19 i 5 ≤ 100000 ∧ N 19 i 6 ≤ 100 ∧ N 19 i 7 ≤ 10000 ∧ N 19 i 8 ≤ 2 ∧ N 19 i 9 ≤ 9 ∧ N 19 i 10 ≤ 1
def CB (N : TN) (b : Nat) : Prop := N 8 b 3 ≤ 24 ∧ (∀ k, k < N 8 b 3 → N 9 b k < 12) ∧ (∀ k, k < N 8 b 3 → N 10 b k < 12) ∧ ∀ k, k < N 8 b 3 → N 11 b k ≤ 1000
def CL (N : TN) : Prop := N 2 0 5 ≤ 24 ∧ (∀ c, c < 144 → N 3 0 c ≤ 9) ∧ (∀ c, c < 144 → ¬ N 3 0 c = 0 → N 4 0 c < 12 ∧ N 5 0 c < 12) ∧ ∀ i, i < 12 → N 6 0 i ≤ 4
def CD (N : TN) : Prop := (∀ i, i < 12 → CI N i) ∧ (∀ b, b < 3 → CB N b) ∧ CL N
/-- an item that isn't told has the plan that its numbers make -/
def PC (N : TN) (L : TL) : Prop := ∀ i, i < 12 → N 19 i 10 = 0 → ∀ w, w < 12 → L 21 i w = planF (N 19 i) (brF N i) (L 20 i) w ∧ L 22 i w = balF (N 19 i) (brF N i) (L 20 i) w
theorem askG_cg {pr fr to ld sc : Nat} {pl pl' : Nat → Int64} (h : ∀ q, q < 12 → pl q = pl' q) (w : Nat) : askG pr fr to ld sc pl w = askG pr fr to ld sc pl' w := by
  unfold askG
  by_cases hw : w + ld < 12
  · rw [if_pos hw, if_pos hw, h _ hw]
  · rw [if_neg hw, if_neg hw]
/-- the same numbers of item, books and bill (told aside) -/
def SD (N N' : TN) : Prop := (∀ i f, i < 12 → f < 10 → N' 19 i f = N 19 i f) ∧ (∀ b, b < 3 → N' 8 b 3 = N 8 b 3 ∧ ∀ k, k < N 8 b 3 → N' 9 b k = N 9 b k ∧ N' 10 b k = N 10 b k ∧ N' 11 b k = N 11 b k) ∧ (∀ c, c < 144 → N' 3 0 c = N 3 0 c ∧ (¬ N 3 0 c = 0 → N' 4 0 c = N 4 0 c ∧ N' 5 0 c = N 5 0 c)) ∧ (∀ i, i < 12 → N' 6 0 i = N 6 0 i)
theorem SD.refl (N : TN) : SD N N := ⟨fun _ _ _ _ => rfl, fun _ _ => ⟨rfl, fun _ _ => ⟨rfl, rfl, rfl⟩⟩, fun _ _ => ⟨rfl, fun _ => ⟨rfl, rfl⟩⟩, fun _ _ => rfl⟩
theorem SD.symm {N N' : TN} (h : SD N N') : SD N' N := by
  obtain ⟨h1, h2, h3, h4⟩ := h
  refine ⟨fun i f a b => (h1 i f a b).symm, fun b hb => ?_, fun c hc => ?_, fun i hi => (h4 i hi).symm⟩
  · obtain ⟨a1, a2⟩ := h2 b hb
    refine ⟨a1.symm, fun k hk => ?_⟩
    obtain ⟨b1, b2, b3⟩ := a2 k (a1 ▸ hk)
    exact ⟨b1.symm, b2.symm, b3.symm⟩
  · obtain ⟨a1, a2⟩ := h3 c hc
    refine ⟨a1.symm, fun hn => ?_⟩
    obtain ⟨b1, b2⟩ := a2 (a1 ▸ hn)
    exact ⟨b1.symm, b2.symm⟩
theorem SD.trans {N N' N2 : TN} (h : SD N N') (g : SD N' N2) : SD N N2 := by
  obtain ⟨h1, h2, h3, h4⟩ := h
  obtain ⟨g1, g2, g3, g4⟩ := g
  refine ⟨fun i f a b => (g1 i f a b).trans (h1 i f a b), fun b hb => ?_, fun c hc => ?_, fun i hi => (g4 i hi).trans (h4 i hi)⟩
  · obtain ⟨a1, a2⟩ := h2 b hb
    obtain ⟨b1, b2⟩ := g2 b hb
    refine ⟨b1.trans a1, fun k hk => ?_⟩
    obtain ⟨c1, c2, c3⟩ := a2 k hk
    obtain ⟨e1, e2, e3⟩ := b2 k (by omega)
    exact ⟨e1.trans c1, e2.trans c2, e3.trans c3⟩
  · obtain ⟨a1, a2⟩ := h3 c hc
    obtain ⟨b1, b2⟩ := g3 c hc
    refine ⟨b1.trans a1, fun hn => ?_⟩
    obtain ⟨c1, c2⟩ := a2 hn
    obtain ⟨e1, e2⟩ := b2 (by rw [a1]; exact hn)
    exact ⟨e1.trans c1, e2.trans c2⟩
theorem bat_cg {I W M I' W' M' : Nat → Nat} {i w n : Nat} (h : ∀ k, k < n → I' k = I k ∧ W' k = W k ∧ M' k = M k) : bat I' W' M' i w n = bat I W M i w n :=
  sm_congr (fun k hk => by obtain ⟨a, b, c⟩ := h k hk; rw [a, b, c])
theorem bsm_cg {I W M I' W' M' : Nat → Nat} {i w n : Nat} (h : ∀ k, k < n → I' k = I k ∧ W' k = W k ∧ M' k = M k) : bsm I' W' M' i w n = bsm I W M i w n :=
  sm_congr (fun k hk => by obtain ⟨a, b, c⟩ := h k hk; rw [a, b, c])
theorem SD.dm {N N' : TN} (h : SD N N') (i w : Nat) : dmF N' i w = dmF N i w := by
  unfold dmF
  obtain ⟨a, b⟩ := h.2.1 0 (by omega)
  rw [a]; exact bat_cg b
theorem SD.br {N N' : TN} (h : SD N N') (i w : Nat) : brF N' i w = brF N i w := by
  unfold brF
  obtain ⟨a, b⟩ := h.2.1 1 (by omega)
  rw [a]; exact bat_cg b
theorem SD.ask {N N' : TN} (h : SD N N') {L L' : TL} {p i : Nat} (hp : p < 12) (hi : i < 12) (hL : ∀ q, q < 12 → L' 21 p q = L 21 p q) (w : Nat) : askF N' L' p i w = askF N L p i w := by
  unfold askF
  obtain ⟨a, b⟩ := h.2.2.1 (p * 12 + i) (by omega)
  rw [a, h.1 p 2 hp (by omega), h.1 i 4 hi (by omega), askG_cg hL]
  by_cases h0 : N 3 0 (p * 12 + i) = 0
  · unfold askG; rw [if_pos h0, if_pos h0]
  · obtain ⟨c, d⟩ := b h0
    rw [c, d]
theorem SD.gr {N N' : TN} (h : SD N N') {L L' : TL} {i : Nat} (hi : i < 12) (hL : ∀ p q, p < 12 → q < 12 → L' 21 p q = L 21 p q) (w : Nat) : grF N' L' i w = grF N L i w := by
  unfold grF
  rw [h.dm, sm_congr (fun p hp => h.ask hp hi (fun q hq => hL p q hp hq) w)]
theorem CD.of {N N' : TN} (h : CD N) (g : SD N N') (ht : ∀ i, i < 12 → N' 19 i 10 ≤ 1) (hn : N' 2 0 5 ≤ 24) : CD N' := by
  obtain ⟨h1, h2, h3⟩ := h
  obtain ⟨g1, g2, g3, g4⟩ := g
  refine ⟨fun i hi => ?_, fun b hb => ?_, hn, fun c hc => ?_, fun c hc h0 => ?_, fun i hi => ?_⟩
  · obtain ⟨a0, a1, a2, a3, a4, a5, a6, a7, a8, a9, a10, a11⟩ := h1 i hi
    unfold CI
    rw [g1 i 0 hi (by omega), g1 i 1 hi (by omega), g1 i 2 hi (by omega), g1 i 3 hi (by omega), g1 i 4 hi (by omega), g1 i 5 hi (by omega), g1 i 6 hi (by omega), g1 i 7 hi (by omega), g1 i 8 hi (by omega), g1 i 9 hi (by omega)]
    exact ⟨a0, a1, a2, a3, a4, a5, a6, a7, a8, a9, a10, ht i hi⟩
  · obtain ⟨a0, a1, a2, a3⟩ := h2 b hb
    obtain ⟨b0, b1⟩ := g2 b hb
    unfold CB
    rw [b0]
    refine ⟨a0, fun k hk => ?_, fun k hk => ?_, fun k hk => ?_⟩
    · rw [(b1 k hk).1]; exact a1 k hk
    · rw [(b1 k hk).2.1]; exact a2 k hk
    · rw [(b1 k hk).2.2]; exact a3 k hk
  · rw [(g3 c hc).1]; exact h3.2.1 c hc
  · have e := (g3 c hc).1
    rw [e] at h0
    obtain ⟨a, b⟩ := (g3 c hc).2 h0
    rw [a, b]
    exact h3.2.2.1 c hc h0
  · rw [g4 i hi]; exact h3.2.2.2 i hi
theorem askF_in {N : TN} {L : TL} {p i w : Nat} (h0 : ¬ N 3 0 (p * 12 + i) = 0) (h : N 4 0 (p * 12 + i) ≤ w ∧ w ≤ N 5 0 (p * 12 + i)) : askF N L p i w = scr ((if w + N 19 p 2 < 12 then L 21 p (w + N 19 p 2) else 0) * q64 (N 3 0 (p * 12 + i))) (N 19 i 4) := by
  unfold askF askG
  rw [if_neg h0, if_pos h]
theorem askF_out {N : TN} {L : TL} {p i w : Nat} (h : ¬ (N 4 0 (p * 12 + i) ≤ w ∧ w ≤ N 5 0 (p * 12 + i))) : askF N L p i w = 0 := by
  unfold askF askG
  rw [if_neg h]
  split <;> rfl
theorem askF_no {N : TN} {L : TL} {p i w : Nat} (h : N 3 0 (p * 12 + i) = 0) : askF N L p i w = 0 := by
  unfold askF askG
  rw [if_pos h]
theorem upW_skip {L : TL} {t i n : Nat} {f : Nat → Int64} (h : f n = L t i n) : upW L t i n f = upW L t i (n + 1) f := by
  funext a b c
  simp only [upW]
  by_cases e : a = t ∧ b = i ∧ c = n
  · obtain ⟨rfl, rfl, rfl⟩ := e
    rw [if_neg (by omega), if_pos (by omega), h]
  · by_cases e2 : a = t ∧ b = i ∧ c < n
    · rw [if_pos e2, if_pos (by omega)]
    · rw [if_neg e2, if_neg (by omega)]
end
section
-- ===== the class: checks =====
theorem m11 {sc : XT} (N : TN) (L : TL) (p c : Nat) : Sem sc 11 0 [(0, aN p), (1, aN c)] [] (wd N L) 0 0 (QP (some (aN (p * 12 + c))) N L) := by
  refine Sem.seg [(.iload_n 0, 0, 0), (.bipush 12, 0, 0), (.imul, 0, 0), (.iload_n 1, 0, 0), (.iadd, 0, 0)] ⟨⟨d11_0, trivial⟩, ⟨d11_1, trivial⟩, ⟨d11_3, trivial⟩, ⟨d11_4, trivial⟩, ⟨d11_5, trivial⟩, trivial⟩ (lv' := [(0, aN p), (1, aN c)]) (st' := [aN ((p * 12) + c)]) (w' := wd N L) (P := []) rfl (trivial) (pc' := 6) rfl ?_
  exact Sem.iret rfl d11_6 (Or.inl rfl) (by decide) (by decide) hzW ⟨rfl, rfl⟩

theorem m25o {sc : XT} (N : TN) (L : TL) (x : Int32) (h0 : 0 ≤ x.toInt) (h1 : x.toInt < 12) : Sem sc 25 0 [(0, aI x)] [] (wd N L) 0 0 (QP none N L) := by
  refine Sem.seg [(.iload_n 0, 0, 0)] ⟨⟨d25_0, trivial⟩, trivial⟩ (lv' := [(0, aI x)]) (st' := [aI x]) (w' := wd N L) (P := []) rfl (trivial) (pc' := 1) rfl ?_
  refine Sem.ifc (tgt := 10) d25_1 (by decide) rfl (fun b1 => ?_) (fun b1 => ?_)
  · exfalso; have b1_ : x.toInt < 0 := bT rfl rfl b1; omega
  · have b1_ : ¬ (x.toInt < 0) := bF rfl rfl b1
    refine Sem.seg [(.iload_n 0, 0, 0), (.bipush 12, 0, 0)] ⟨⟨d25_4, trivial⟩, ⟨d25_5, trivial⟩, trivial⟩ (lv' := [(0, aI x)]) (st' := [aN 12, aI x]) (w' := wd N L) (P := []) rfl (trivial) (pc' := 7) rfl ?_
    refine Sem.icmp (tgt := 20) d25_7 (by decide) rfl rfl (fun b2 => ?_) (fun b2 => ?_)
    · have b2_ : x.toInt < 12 := bT rfl (nI_toInt (by decide)) b2
      exact Sem.vret d25_20 rfl (by decide) (by decide) hzW ⟨rfl, rfl⟩
    · exfalso; have b2_ : ¬ (x.toInt < 12) := bF rfl (nI_toInt (by decide)) b2; omega

theorem m25x {sc : XT} (N : TN) (L : TL) (x : Int32) (h : x.toInt < 0 ∨ 12 ≤ x.toInt) : Sem sc 25 0 [(0, aI x)] [] (wd N L) 0 0 (QE (EX 0) (fun N' L' => N' = N ∧ L' = L)) := by
  refine Sem.seg [(.iload_n 0, 0, 0)] ⟨⟨d25_0, trivial⟩, trivial⟩ (lv' := [(0, aI x)]) (st' := [aI x]) (w' := wd N L) (P := []) rfl (trivial) (pc' := 1) rfl ?_
  refine Sem.ifc (tgt := 10) d25_1 (by decide) rfl (fun b1 => ?_) (fun b1 => ?_)
  · have b1_ : x.toInt < 0 := bT rfl rfl b1
    exact Sem.thr 0 (by decide) (text := "no such item") rfl d25_10 d25_13 d25_14 d25_16 d25_19 cl4_196 inE0 itE0 (List.mem_of_getElem? (i := 0) rfl) lk4_200 rfl (by decide) (by decide) (by decide) (by decide) rfl ⟨rfl, _, _, rfl, by exact ⟨rfl, rfl⟩⟩
  · have b1_ : ¬ (x.toInt < 0) := bF rfl rfl b1
    refine Sem.seg [(.iload_n 0, 0, 0), (.bipush 12, 0, 0)] ⟨⟨d25_4, trivial⟩, ⟨d25_5, trivial⟩, trivial⟩ (lv' := [(0, aI x)]) (st' := [aN 12, aI x]) (w' := wd N L) (P := []) rfl (trivial) (pc' := 7) rfl ?_
    refine Sem.icmp (tgt := 20) d25_7 (by decide) rfl rfl (fun b2 => ?_) (fun b2 => ?_)
    · exfalso; have b2_ : x.toInt < 12 := bT rfl (nI_toInt (by decide)) b2; omega
    · have b2_ : ¬ (x.toInt < 12) := bF rfl (nI_toInt (by decide)) b2
      exact Sem.thr 0 (by decide) (text := "no such item") rfl d25_10 d25_13 d25_14 d25_16 d25_19 cl4_196 inE0 itE0 (List.mem_of_getElem? (i := 0) rfl) lk4_200 rfl (by decide) (by decide) (by decide) (by decide) rfl ⟨rfl, _, _, rfl, by exact ⟨rfl, rfl⟩⟩

theorem m45o {sc : XT} (N : TN) (L : TL) (x : Int32) (h0 : 0 ≤ x.toInt) (h1 : x.toInt < 12) : Sem sc 45 0 [(0, aI x)] [] (wd N L) 0 0 (QP none N L) := by
  refine Sem.seg [(.iload_n 0, 0, 0)] ⟨⟨d45_0, trivial⟩, trivial⟩ (lv' := [(0, aI x)]) (st' := [aI x]) (w' := wd N L) (P := []) rfl (trivial) (pc' := 1) rfl ?_
  refine Sem.ifc (tgt := 10) d45_1 (by decide) rfl (fun b1 => ?_) (fun b1 => ?_)
  · exfalso; have b1_ : x.toInt < 0 := bT rfl rfl b1; omega
  · have b1_ : ¬ (x.toInt < 0) := bF rfl rfl b1
    refine Sem.seg [(.iload_n 0, 0, 0), (.bipush 12, 0, 0)] ⟨⟨d45_4, trivial⟩, ⟨d45_5, trivial⟩, trivial⟩ (lv' := [(0, aI x)]) (st' := [aN 12, aI x]) (w' := wd N L) (P := []) rfl (trivial) (pc' := 7) rfl ?_
    refine Sem.icmp (tgt := 20) d45_7 (by decide) rfl rfl (fun b2 => ?_) (fun b2 => ?_)
    · have b2_ : x.toInt < 12 := bT rfl (nI_toInt (by decide)) b2
      exact Sem.vret d45_20 rfl (by decide) (by decide) hzW ⟨rfl, rfl⟩
    · exfalso; have b2_ : ¬ (x.toInt < 12) := bF rfl (nI_toInt (by decide)) b2; omega

theorem m45x {sc : XT} (N : TN) (L : TL) (x : Int32) (h : x.toInt < 0 ∨ 12 ≤ x.toInt) : Sem sc 45 0 [(0, aI x)] [] (wd N L) 0 0 (QE (EX 0) (fun N' L' => N' = N ∧ L' = L)) := by
  refine Sem.seg [(.iload_n 0, 0, 0)] ⟨⟨d45_0, trivial⟩, trivial⟩ (lv' := [(0, aI x)]) (st' := [aI x]) (w' := wd N L) (P := []) rfl (trivial) (pc' := 1) rfl ?_
  refine Sem.ifc (tgt := 10) d45_1 (by decide) rfl (fun b1 => ?_) (fun b1 => ?_)
  · have b1_ : x.toInt < 0 := bT rfl rfl b1
    exact Sem.thr 0 (by decide) (text := "no such week") rfl d45_10 d45_13 d45_14 d45_16 d45_19 cl4_196 inE0 itE0 (List.mem_of_getElem? (i := 4) rfl) lk4_200 rfl (by decide) (by decide) (by decide) (by decide) rfl ⟨rfl, _, _, rfl, by exact ⟨rfl, rfl⟩⟩
  · have b1_ : ¬ (x.toInt < 0) := bF rfl rfl b1
    refine Sem.seg [(.iload_n 0, 0, 0), (.bipush 12, 0, 0)] ⟨⟨d45_4, trivial⟩, ⟨d45_5, trivial⟩, trivial⟩ (lv' := [(0, aI x)]) (st' := [aN 12, aI x]) (w' := wd N L) (P := []) rfl (trivial) (pc' := 7) rfl ?_
    refine Sem.icmp (tgt := 20) d45_7 (by decide) rfl rfl (fun b2 => ?_) (fun b2 => ?_)
    · exfalso; have b2_ : x.toInt < 12 := bT rfl (nI_toInt (by decide)) b2; omega
    · have b2_ : ¬ (x.toInt < 12) := bF rfl (nI_toInt (by decide)) b2
      exact Sem.thr 0 (by decide) (text := "no such week") rfl d45_10 d45_13 d45_14 d45_16 d45_19 cl4_196 inE0 itE0 (List.mem_of_getElem? (i := 4) rfl) lk4_200 rfl (by decide) (by decide) (by decide) (by decide) rfl ⟨rfl, _, _, rfl, by exact ⟨rfl, rfl⟩⟩

theorem m31o {sc : XT} (N : TN) (L : TL) (x : Int32) (h0 : 0 ≤ x.toInt) (h1 : x.toInt < 3) : Sem sc 31 0 [(0, aI x)] [] (wd N L) 0 0 (QP none N L) := by
  refine Sem.seg [(.iload_n 0, 0, 0)] ⟨⟨d31_0, trivial⟩, trivial⟩ (lv' := [(0, aI x)]) (st' := [aI x]) (w' := wd N L) (P := []) rfl (trivial) (pc' := 1) rfl ?_
  refine Sem.ifc (tgt := 9) d31_1 (by decide) rfl (fun b1 => ?_) (fun b1 => ?_)
  · exfalso; have b1_ : x.toInt < 0 := bT rfl rfl b1; omega
  · have b1_ : ¬ (x.toInt < 0) := bF rfl rfl b1
    refine Sem.seg [(.iload_n 0, 0, 0), (.iconst 3, 0, 0)] ⟨⟨d31_4, trivial⟩, ⟨d31_5, trivial⟩, trivial⟩ (lv' := [(0, aI x)]) (st' := [aN 3, aI x]) (w' := wd N L) (P := []) rfl (trivial) (pc' := 6) rfl ?_
    refine Sem.icmp (tgt := 19) d31_6 (by decide) rfl rfl (fun b2 => ?_) (fun b2 => ?_)
    · have b2_ : x.toInt < 3 := bT rfl (nI_toInt (by decide)) b2
      exact Sem.vret d31_19 rfl (by decide) (by decide) hzW ⟨rfl, rfl⟩
    · exfalso; have b2_ : ¬ (x.toInt < 3) := bF rfl (nI_toInt (by decide)) b2; omega

theorem m31x {sc : XT} (N : TN) (L : TL) (x : Int32) (h : x.toInt < 0 ∨ 3 ≤ x.toInt) : Sem sc 31 0 [(0, aI x)] [] (wd N L) 0 0 (QE (EX 0) (fun N' L' => N' = N ∧ L' = L)) := by
  refine Sem.seg [(.iload_n 0, 0, 0)] ⟨⟨d31_0, trivial⟩, trivial⟩ (lv' := [(0, aI x)]) (st' := [aI x]) (w' := wd N L) (P := []) rfl (trivial) (pc' := 1) rfl ?_
  refine Sem.ifc (tgt := 9) d31_1 (by decide) rfl (fun b1 => ?_) (fun b1 => ?_)
  · have b1_ : x.toInt < 0 := bT rfl rfl b1
    exact Sem.thr 0 (by decide) (text := "no such centre") rfl d31_9 d31_12 d31_13 d31_15 d31_18 cl4_196 inE0 itE0 (List.mem_of_getElem? (i := 2) rfl) lk4_200 rfl (by decide) (by decide) (by decide) (by decide) rfl ⟨rfl, _, _, rfl, by exact ⟨rfl, rfl⟩⟩
  · have b1_ : ¬ (x.toInt < 0) := bF rfl rfl b1
    refine Sem.seg [(.iload_n 0, 0, 0), (.iconst 3, 0, 0)] ⟨⟨d31_4, trivial⟩, ⟨d31_5, trivial⟩, trivial⟩ (lv' := [(0, aI x)]) (st' := [aN 3, aI x]) (w' := wd N L) (P := []) rfl (trivial) (pc' := 6) rfl ?_
    refine Sem.icmp (tgt := 19) d31_6 (by decide) rfl rfl (fun b2 => ?_) (fun b2 => ?_)
    · exfalso; have b2_ : x.toInt < 3 := bT rfl (nI_toInt (by decide)) b2; omega
    · have b2_ : ¬ (x.toInt < 3) := bF rfl (nI_toInt (by decide)) b2
      exact Sem.thr 0 (by decide) (text := "no such centre") rfl d31_9 d31_12 d31_13 d31_15 d31_18 cl4_196 inE0 itE0 (List.mem_of_getElem? (i := 2) rfl) lk4_200 rfl (by decide) (by decide) (by decide) (by decide) rfl ⟨rfl, _, _, rfl, by exact ⟨rfl, rfl⟩⟩

theorem m26o {sc : XT} (N : TN) (L : TL) (x : Int32) (a b : Nat) (ha : a < 2 ^ 31) (hb : b < 2 ^ 31) (h0 : (a : Int) ≤ x.toInt) (h1 : x.toInt ≤ (b : Int)) : Sem sc 26 0 [(0, aI x), (1, aN a), (2, aN b)] [] (wd N L) 0 0 (QP none N L) := by
  refine Sem.seg [(.iload_n 0, 0, 0), (.iload_n 1, 0, 0)] ⟨⟨d26_0, trivial⟩, ⟨d26_1, trivial⟩, trivial⟩ (lv' := [(0, aI x), (1, aN a), (2, aN b)]) (st' := [aN a, aI x]) (w' := wd N L) (P := []) rfl (trivial) (pc' := 2) rfl ?_
  refine Sem.icmp (tgt := 10) d26_2 (by decide) rfl rfl (fun b1 => ?_) (fun b1 => ?_)
  · exfalso; have b1_ : x.toInt < ((a : Nat) : Int) := bT rfl (nI_toInt (show a < 2 ^ 31 by omega)) b1; omega
  · have b1_ : ¬ (x.toInt < ((a : Nat) : Int)) := bF rfl (nI_toInt (show a < 2 ^ 31 by omega)) b1
    refine Sem.seg [(.iload_n 0, 0, 0), (.iload_n 2, 0, 0)] ⟨⟨d26_5, trivial⟩, ⟨d26_6, trivial⟩, trivial⟩ (lv' := [(0, aI x), (1, aN a), (2, aN b)]) (st' := [aN b, aI x]) (w' := wd N L) (P := []) rfl (trivial) (pc' := 7) rfl ?_
    refine Sem.icmp (tgt := 20) d26_7 (by decide) rfl rfl (fun b2 => ?_) (fun b2 => ?_)
    · have b2_ : x.toInt ≤ ((b : Nat) : Int) := bT rfl (nI_toInt (show b < 2 ^ 31 by omega)) b2
      exact Sem.vret d26_20 rfl (by decide) (by decide) hzW ⟨rfl, rfl⟩
    · exfalso; have b2_ : ¬ (x.toInt ≤ ((b : Nat) : Int)) := bF rfl (nI_toInt (show b < 2 ^ 31 by omega)) b2; omega

theorem m26x {sc : XT} (N : TN) (L : TL) (x : Int32) (a b : Nat) (ha : a < 2 ^ 31) (hb : b < 2 ^ 31) (h : x.toInt < (a : Int) ∨ (b : Int) < x.toInt) : Sem sc 26 0 [(0, aI x), (1, aN a), (2, aN b)] [] (wd N L) 0 0 (QE (EX 1) (fun N' L' => N' = N ∧ L' = L)) := by
  refine Sem.seg [(.iload_n 0, 0, 0), (.iload_n 1, 0, 0)] ⟨⟨d26_0, trivial⟩, ⟨d26_1, trivial⟩, trivial⟩ (lv' := [(0, aI x), (1, aN a), (2, aN b)]) (st' := [aN a, aI x]) (w' := wd N L) (P := []) rfl (trivial) (pc' := 2) rfl ?_
  refine Sem.icmp (tgt := 10) d26_2 (by decide) rfl rfl (fun b1 => ?_) (fun b1 => ?_)
  · have b1_ : x.toInt < ((a : Nat) : Int) := bT rfl (nI_toInt (show a < 2 ^ 31 by omega)) b1
    exact Sem.thr 1 (by decide) (text := "a value out of its range") rfl d26_10 d26_13 d26_14 d26_16 d26_19 cl4_207 inE1 itE1 (List.mem_of_getElem? (i := 1) rfl) lk4_211 rfl (by decide) (by decide) (by decide) (by decide) rfl ⟨rfl, _, _, rfl, by exact ⟨rfl, rfl⟩⟩
  · have b1_ : ¬ (x.toInt < ((a : Nat) : Int)) := bF rfl (nI_toInt (show a < 2 ^ 31 by omega)) b1
    refine Sem.seg [(.iload_n 0, 0, 0), (.iload_n 2, 0, 0)] ⟨⟨d26_5, trivial⟩, ⟨d26_6, trivial⟩, trivial⟩ (lv' := [(0, aI x), (1, aN a), (2, aN b)]) (st' := [aN b, aI x]) (w' := wd N L) (P := []) rfl (trivial) (pc' := 7) rfl ?_
    refine Sem.icmp (tgt := 20) d26_7 (by decide) rfl rfl (fun b2 => ?_) (fun b2 => ?_)
    · exfalso; have b2_ : x.toInt ≤ ((b : Nat) : Int) := bT rfl (nI_toInt (show b < 2 ^ 31 by omega)) b2; omega
    · have b2_ : ¬ (x.toInt ≤ ((b : Nat) : Int)) := bF rfl (nI_toInt (show b < 2 ^ 31 by omega)) b2
      exact Sem.thr 1 (by decide) (text := "a value out of its range") rfl d26_10 d26_13 d26_14 d26_16 d26_19 cl4_207 inE1 itE1 (List.mem_of_getElem? (i := 1) rfl) lk4_211 rfl (by decide) (by decide) (by decide) (by decide) rfl ⟨rfl, _, _, rfl, by exact ⟨rfl, rfl⟩⟩

theorem m51o {sc : XT} (N : TN) (L : TL) (b : Nat) (hb : b < 3) (x : Int32) (hs : N 8 b 3 < 2 ^ 31) (h0 : 0 ≤ x.toInt) (h1 : x.toInt < (N 8 b 3 : Int)) : Sem sc 51 0 [(0, aR 8 b), (1, aI x)] [] (wd N L) 0 0 (QP none N L) := by
  refine Sem.seg [(.iload_n 1, 0, 0)] ⟨⟨d51_0, trivial⟩, trivial⟩ (lv' := [(0, aR 8 b), (1, aI x)]) (st' := [aI x]) (w' := wd N L) (P := []) rfl (trivial) (pc' := 1) rfl ?_
  refine Sem.ifc (tgt := 12) d51_1 (by decide) rfl (fun b1 => ?_) (fun b1 => ?_)
  · exfalso; have b1_ : x.toInt < 0 := bT rfl rfl b1; omega
  · have b1_ : ¬ (x.toInt < 0) := bF rfl rfl b1
    refine Sem.seg [(.iload_n 1, 0, 0), (.aload_n 0, 0, 0), (.getfield 187, 1, 3)] ⟨⟨d51_4, trivial⟩, ⟨d51_5, trivial⟩, ⟨d51_6, gf4_187⟩, trivial⟩ (lv' := [(0, aR 8 b), (1, aI x)]) (st' := [aN (N 8 b 3), aI x]) (w' := wd N L) (P := [vld NN 8 b]) rfl (vN (t := 8) (i := b) (show b < 3 by omega)) (pc' := 9) rfl ?_
    refine Sem.icmp (tgt := 22) d51_9 (by decide) rfl rfl (fun b2 => ?_) (fun b2 => ?_)
    · have b2_ : x.toInt < ((N 8 b 3 : Nat) : Int) := bT rfl (nI_toInt (show N 8 b 3 < 2 ^ 31 by omega)) b2
      exact Sem.vret d51_22 rfl (by decide) (by decide) hzW ⟨rfl, rfl⟩
    · exfalso; have b2_ : ¬ (x.toInt < ((N 8 b 3 : Nat) : Int)) := bF rfl (nI_toInt (show N 8 b 3 < 2 ^ 31 by omega)) b2; omega

theorem m51x {sc : XT} (N : TN) (L : TL) (b : Nat) (hb : b < 3) (x : Int32) (hs : N 8 b 3 < 2 ^ 31) (h : x.toInt < 0 ∨ (N 8 b 3 : Int) ≤ x.toInt) : Sem sc 51 0 [(0, aR 8 b), (1, aI x)] [] (wd N L) 0 0 (QE (EX 0) (fun N' L' => N' = N ∧ L' = L)) := by
  refine Sem.seg [(.iload_n 1, 0, 0)] ⟨⟨d51_0, trivial⟩, trivial⟩ (lv' := [(0, aR 8 b), (1, aI x)]) (st' := [aI x]) (w' := wd N L) (P := []) rfl (trivial) (pc' := 1) rfl ?_
  refine Sem.ifc (tgt := 12) d51_1 (by decide) rfl (fun b1 => ?_) (fun b1 => ?_)
  · have b1_ : x.toInt < 0 := bT rfl rfl b1
    exact Sem.thr 0 (by decide) (text := "no such number") rfl d51_12 d51_15 d51_16 d51_18 d51_21 cl4_196 inE0 itE0 (List.mem_of_getElem? (i := 6) rfl) lk4_200 rfl (by decide) (by decide) (by decide) (by decide) rfl ⟨rfl, _, _, rfl, by exact ⟨rfl, rfl⟩⟩
  · have b1_ : ¬ (x.toInt < 0) := bF rfl rfl b1
    refine Sem.seg [(.iload_n 1, 0, 0), (.aload_n 0, 0, 0), (.getfield 187, 1, 3)] ⟨⟨d51_4, trivial⟩, ⟨d51_5, trivial⟩, ⟨d51_6, gf4_187⟩, trivial⟩ (lv' := [(0, aR 8 b), (1, aI x)]) (st' := [aN (N 8 b 3), aI x]) (w' := wd N L) (P := [vld NN 8 b]) rfl (vN (t := 8) (i := b) (show b < 3 by omega)) (pc' := 9) rfl ?_
    refine Sem.icmp (tgt := 22) d51_9 (by decide) rfl rfl (fun b2 => ?_) (fun b2 => ?_)
    · exfalso; have b2_ : x.toInt < ((N 8 b 3 : Nat) : Int) := bT rfl (nI_toInt (show N 8 b 3 < 2 ^ 31 by omega)) b2; omega
    · have b2_ : ¬ (x.toInt < ((N 8 b 3 : Nat) : Int)) := bF rfl (nI_toInt (show N 8 b 3 < 2 ^ 31 by omega)) b2
      exact Sem.thr 0 (by decide) (text := "no such number") rfl d51_12 d51_15 d51_16 d51_18 d51_21 cl4_196 inE0 itE0 (List.mem_of_getElem? (i := 6) rfl) lk4_200 rfl (by decide) (by decide) (by decide) (by decide) rfl ⟨rfl, _, _, rfl, by exact ⟨rfl, rfl⟩⟩

theorem m47 {sc : XT} (N : TN) (L : TL) (b : Nat) (hb : b < 3) (hs : N 8 b 3 < 2 ^ 31) : Sem sc 47 0 [(0, aR 8 b)] [] (wd N L) 0 0 (QP (some (aN (if N 8 b 3 < 24 then 0 else 1))) N L) := by
  refine Sem.seg [(.aload_n 0, 0, 0), (.getfield 21, 1, 3), (.bipush 24, 0, 0)] ⟨⟨d47_0, trivial⟩, ⟨d47_1, gf1_21⟩, ⟨d47_4, trivial⟩, trivial⟩ (lv' := [(0, aR 8 b)]) (st' := [aN 24, aN (N 8 b 3)]) (w' := wd N L) (P := [vld NN 8 b]) rfl (vN (t := 8) (i := b) (show b < 3 by omega)) (pc' := 6) rfl ?_
  refine Sem.icmpN (tgt := 13) d47_6 (by decide) (show N 8 b 3 < 2 ^ 31 by omega) (by decide) (fun b1 => ?_) (fun b1 => ?_)
  · have b1_ : N 8 b 3 < 24 := b1
    refine Sem.seg [(.iconst 0, 0, 0)] ⟨⟨d47_13, trivial⟩, trivial⟩ (lv' := [(0, aR 8 b)]) (st' := [aN 0]) (w' := wd N L) (P := []) rfl (trivial) (pc' := 14) rfl ?_
    exact Sem.iret rfl d47_14 (Or.inr ⟨rfl, by decide⟩) (by decide) (by decide) hzW ⟨congrArg (fun z => Sum.inl (some (aN z))) (show 0 = (if N 8 b 3 < 24 then 0 else 1) by first | rw [if_pos (by omega)] | rw [if_neg (by omega)]), rfl⟩
  · have b1_ : ¬ (N 8 b 3 < 24) := b1
    refine Sem.seg [(.iconst 1, 0, 0)] ⟨⟨d47_9, trivial⟩, trivial⟩ (lv' := [(0, aR 8 b)]) (st' := [aN 1]) (w' := wd N L) (P := []) rfl (trivial) (pc' := 10) rfl ?_
    refine Sem.goto (tgt := 14) d47_10 (by decide) ?_
    exact Sem.iret rfl d47_14 (Or.inr ⟨rfl, by decide⟩) (by decide) (by decide) hzW ⟨congrArg (fun z => Sum.inl (some (aN z))) (show 1 = (if N 8 b 3 < 24 then 0 else 1) by first | rw [if_pos (by omega)] | rw [if_neg (by omega)]), rfl⟩

theorem m46o {sc : XT} (N : TN) (L : TL) (b : Nat) (hb : b < 3) (hs : N 8 b 3 < 24) : Sem sc 46 0 [(0, aR 8 b)] [] (wd N L) 0 0 (QP none N L) := by
  refine Sem.seg [(.aload_n 0, 0, 0)] ⟨⟨d46_0, trivial⟩, trivial⟩ (lv' := [(0, aR 8 b)]) (st' := [aR 8 b]) (w' := wd N L) (P := []) rfl (trivial) (pc' := 1) rfl ?_
  refine Sem.cVp1 (t := 8) (i := b) (as := []) (rst := []) (c' := 0) (s' := 0) d46_1 mk47 rfl co47 lk4_212 im47 se47 rfl (vN (t := 8) (i := b) (show b < 3 by omega)) (show 1 ≤ mL 47 by decide) rfl (show 0 ≤ 8 by decide) (by decide) (by decide) rfl rfl (by decide) (by decide) (m47 N L b hb (by omega)) ?_
  refine Sem.topNN (show (if N 8 b 3 < 24 then 0 else 1) = 0 from if_pos hs) ?_
  refine Sem.ifN (tgt := 17) d46_4 (by decide) (by decide) (fun b1 => ?_) (fun b1 => ?_)
  rotate_left
  · exact absurd (show 0 = 0 from by decide) b1
  exact Sem.vret d46_17 rfl (by decide) (by decide) hzW ⟨rfl, rfl⟩

theorem m46x {sc : XT} (N : TN) (L : TL) (b : Nat) (hb : b < 3) (hs : N 8 b 3 < 2 ^ 31) (h : 24 ≤ N 8 b 3) : Sem sc 46 0 [(0, aR 8 b)] [] (wd N L) 0 0 (QE (EX 2) (fun N' L' => N' = N ∧ L' = L)) := by
  refine Sem.seg [(.aload_n 0, 0, 0)] ⟨⟨d46_0, trivial⟩, trivial⟩ (lv' := [(0, aR 8 b)]) (st' := [aR 8 b]) (w' := wd N L) (P := []) rfl (trivial) (pc' := 1) rfl ?_
  refine Sem.cVp1 (t := 8) (i := b) (as := []) (rst := []) (c' := 0) (s' := 0) d46_1 mk47 rfl co47 lk4_212 im47 se47 rfl (vN (t := 8) (i := b) (show b < 3 by omega)) (show 1 ≤ mL 47 by decide) rfl (show 0 ≤ 8 by decide) (by decide) (by decide) rfl rfl (by decide) (by decide) (m47 N L b hb hs) ?_
  refine Sem.topNN (show (if N 8 b 3 < 24 then 0 else 1) = 1 from if_neg (by omega)) ?_
  refine Sem.ifN (tgt := 17) d46_4 (by decide) (by decide) (fun b1 => ?_) (fun b1 => ?_)
  · exact absurd (show 1 = 0 from b1) (by decide)
  exact Sem.thr 2 (by decide) (text := "the book is full") rfl d46_7 d46_10 d46_11 d46_13 d46_16 cl4_109 inE2 itE2 (List.mem_of_getElem? (i := 5) rfl) lk4_113 rfl (by decide) (by decide) (by decide) (by decide) rfl ⟨rfl, _, _, rfl, by exact ⟨rfl, rfl⟩⟩

theorem m24n {sc : XT} (N : TN) (L : TL) (n : Nat) (h : n < 12) : Sem sc 24 0 [(0, aR 0 0), (1, aN n)] [] (wd N L) 0 0 (QP (some (aR 19 n)) N L) := by
  refine Sem.seg [(.iload_n 1, 0, 0)] ⟨⟨d24_0, trivial⟩, trivial⟩ (lv' := [(0, aR 0 0), (1, aN n)]) (st' := [aN n]) (w' := wd N L) (P := []) rfl (trivial) (pc' := 1) rfl ?_
  refine Sem.cSp0 (as := [aN n]) (rst := []) (c' := 1) (s' := 6) d24_1 mk25 rfl co25 lk4_95 ss25 (show 1 ≤ mL 25 by decide) rfl (show 0 ≤ 8 by decide) (by decide) (by decide) rfl rfl (by decide) (by decide) (Sem.eqv (lv' := [(0, aI (nI n))]) (st' := []) (fun _ _ h => h) (fun _ => rfl) (m25o N L (nI n) (by rw [nI_toInt (by omega)]; omega) (by rw [nI_toInt (by omega)]; omega))) ?_
  refine Sem.seg [(.aload_n 0, 0, 0), (.getfield 11, 4, 0), (.iload_n 1, 0, 0), (.aaload, 0, 0)] ⟨⟨d24_4, trivial⟩, ⟨d24_5, gf4_11⟩, ⟨d24_8, trivial⟩, ⟨d24_9, trivial⟩, trivial⟩ (lv' := [(0, aR 0 0), (1, aN n)]) (st' := [aR 19 n]) (w' := wd N L) (P := [vld NN 0 0, vld NN 1 0, n < 12]) rfl (⟨vN (t := 0) (i := 0) (by decide), vN (t := 1) (i := 0) (by decide), (show n < 12 by omega)⟩) (pc' := 10) rfl ?_
  exact Sem.aret rfl d24_10 rfl (Or.inl ⟨_, rfl⟩) (by decide) (by decide) hzW ⟨rfl, rfl⟩

theorem m24o {sc : XT} (N : TN) (L : TL) (n : Nat) (x : Int32) (hx : x = nI n) (h : n < 12) : Sem sc 24 0 [(0, aR 0 0), (1, aI x)] [] (wd N L) 0 0 (QP (some (aR 19 n)) N L) := by
  subst hx
  exact Sem.eqv (lv' := [(0, aR 0 0), (1, aN n)]) (st' := []) (fun _ _ h => h) (fun _ => rfl) (m24n N L n h)

theorem m24x {sc : XT} (N : TN) (L : TL) (x : Int32) (h : x.toInt < 0 ∨ 12 ≤ x.toInt) : Sem sc 24 0 [(0, aR 0 0), (1, aI x)] [] (wd N L) 0 0 (QE (EX 0) (fun N' L' => N' = N ∧ L' = L)) := by
  refine Sem.seg [(.iload_n 1, 0, 0)] ⟨⟨d24_0, trivial⟩, trivial⟩ (lv' := [(0, aR 0 0), (1, aI x)]) (st' := [aI x]) (w' := wd N L) (P := []) rfl (trivial) (pc' := 1) rfl ?_
  refine Sem.cSx (as := [aI x]) (rst := []) (c' := 1) (s' := 6) d24_1 mk25 rfl co25 lk4_95 ss25 (show 1 ≤ mL 25 by decide) rfl (show 0 ≤ 8 by decide) (by decide) (by decide) rfl rfl (by decide) (by decide) (m25x N L x h) ?_
  intro N_ L_ hq_
  exact SemX.up rfl (by decide) (by decide) ⟨rfl, _, _, rfl, by obtain ⟨rfl, rfl⟩ := hq_; exact ⟨rfl, rfl⟩⟩
end
section
-- ===== the class: leaves =====
theorem m12 {sc : XT} (N : TN) (L : TL) (i w : Nat) (hi : i < 12) (hw : w < 12) (hl : N 19 i 2 ≤ 4) : Sem sc 12 0 [(0, aR 19 i), (1, aN w)] [] (wd N L) 0 0 (QP (some (aL (if w + N 19 i 2 < 12 then L 21 i (w + N 19 i 2) else 0))) N L) := by
  refine Sem.seg [(.iload_n 1, 0, 0), (.aload_n 0, 0, 0), (.getfield 29, 2, 2), (.iadd, 0, 0), (.istore_n 2, 0, 0), (.iload_n 2, 0, 0)] ⟨⟨d12_0, trivial⟩, ⟨d12_1, trivial⟩, ⟨d12_2, gf2_29⟩, ⟨d12_5, trivial⟩, ⟨d12_6, trivial⟩, ⟨d12_7, trivial⟩, trivial⟩ (lv' := [(2, aN (w + (N 19 i 2))), (0, aR 19 i), (1, aN w)]) (st' := [aN (w + (N 19 i 2))]) (w' := wd N L) (P := [vld NN 19 i]) rfl (vN (t := 19) (i := i) (show i < 12 by omega)) (pc' := 8) rfl ?_
  refine Sem.ifN (tgt := 26) d12_8 (by decide) (show w + (N 19 i 2) < 2 ^ 31 by omega) (fun b1 => ?_) (fun b1 => ?_)
  · exfalso; have b1_ : w + (N 19 i 2) < 0 := b1; omega
  · have b1_ : ¬ (w + (N 19 i 2) < 0) := b1
    refine Sem.seg [(.iload_n 2, 0, 0), (.bipush 12, 0, 0)] ⟨⟨d12_11, trivial⟩, ⟨d12_12, trivial⟩, trivial⟩ (lv' := [(2, aN (w + (N 19 i 2))), (0, aR 19 i), (1, aN w)]) (st' := [aN 12, aN (w + (N 19 i 2))]) (w' := wd N L) (P := []) rfl (trivial) (pc' := 14) rfl ?_
    refine Sem.icmpN (tgt := 26) d12_14 (by decide) (show w + (N 19 i 2) < 2 ^ 31 by omega) (by decide) (fun b2 => ?_) (fun b2 => ?_)
    · have b2_ : 12 ≤ w + (N 19 i 2) := b2
      refine Sem.seg [(.lconst 0, 0, 0)] ⟨⟨d12_26, trivial⟩, trivial⟩ (lv' := [(2, aN (w + (N 19 i 2))), (0, aR 19 i), (1, aN w)]) (st' := [aL (Int64.ofNat 0)]) (w' := wd N L) (P := []) rfl (trivial) (pc' := 27) rfl ?_
      exact Sem.lret d12_27 rfl (by decide) (by decide) hzW ⟨congrArg (fun z => Sum.inl (some (aL z))) (show Int64.ofNat 0 = (if w + N 19 i 2 < 12 then L 21 i (w + N 19 i 2) else 0) by first | (rw [if_pos (by omega)]; done) | (rw [if_neg (by omega)]; rfl)), rfl⟩
    · have b2_ : ¬ (12 ≤ w + (N 19 i 2)) := b2
      refine Sem.seg [(.aload_n 0, 0, 0), (.getfield 23, 2, 12), (.iload_n 2, 0, 0), (.laload, 0, 0)] ⟨⟨d12_17, trivial⟩, ⟨d12_18, gf2_23⟩, ⟨d12_21, trivial⟩, ⟨d12_22, trivial⟩, trivial⟩ (lv' := [(2, aN (w + (N 19 i 2))), (0, aR 19 i), (1, aN w)]) (st' := [aL (L 21 i (w + (N 19 i 2)))]) (w' := wd N L) (P := [vld NN 19 i, vld NN 21 i, w + (N 19 i 2) < 12]) rfl (⟨vN (t := 19) (i := i) (show i < 12 by omega), vN (t := 21) (i := i) (show i < 12 by omega), (show w + (N 19 i 2) < 12 by omega)⟩) (pc' := 23) rfl ?_
      refine Sem.goto (tgt := 27) d12_23 (by decide) ?_
      exact Sem.lret d12_27 rfl (by decide) (by decide) hzW ⟨congrArg (fun z => Sum.inl (some (aL z))) (show L 21 i (w + (N 19 i 2)) = (if w + N 19 i 2 < 12 then L 21 i (w + N 19 i 2) else 0) by first | (rw [if_pos (by omega)]; done) | (rw [if_neg (by omega)]; rfl)), rfl⟩

theorem m13 {sc : XT} (N : TN) (L : TL) (i : Nat) (n : Int64) (hi : i < 12) : Sem sc 13 0 [(0, aR 19 i), (1, aL n)] [] (wd N L) 0 0 (QP (some (aL (scr n (N 19 i 4)))) N L) := by
  refine Sem.seg [(.lload_n 1, 0, 0), (.sipush 1000, 0, 0), (.aload_n 0, 0, 0), (.getfield 32, 2, 4), (.iadd, 0, 0), (.i2l, 0, 0), (.lmul, 0, 0), (.ldc2_w 35, 999, 0), (.ladd, 0, 0), (.ldc2_w 37, 1000, 0), (.ldiv, 0, 0)] ⟨⟨d13_0, trivial⟩, ⟨d13_1, trivial⟩, ⟨d13_4, trivial⟩, ⟨d13_5, gf2_32⟩, ⟨d13_8, trivial⟩, ⟨d13_9, trivial⟩, ⟨d13_10, trivial⟩, ⟨d13_11, cn2_35⟩, ⟨d13_14, trivial⟩, ⟨d13_15, cn2_37⟩, ⟨d13_18, trivial⟩, trivial⟩ (lv' := [(0, aR 19 i), (1, aL n)]) (st' := [aL (((n * ((nI (1000 + (N 19 i 4))).toInt64)) + (Int64.ofNat 999)) / (Int64.ofNat 1000))]) (w' := wd N L) (P := [vld NN 19 i, ¬ (Int64.ofNat 1000) = 0]) rfl (⟨vN (t := 19) (i := i) (show i < 12 by omega), (by decide : ¬ (Int64.ofNat 1000 = 0))⟩) (pc' := 19) rfl ?_
  exact Sem.lret d13_19 rfl (by decide) (by decide) hzW ⟨congrArg (fun z => Sum.inl (some (aL z))) (show ((n * ((nI (1000 + (N 19 i 4))).toInt64)) + (Int64.ofNat 999)) / (Int64.ofNat 1000) = scr n (N 19 i 4) by rfl), rfl⟩

theorem m18 {sc : XT} (N : TN) (L : TL) (w : Nat) (hw : w < 13) : Sem sc 18 0 [(0, aR 12 0), (1, aN w)] [] (wd N L) 0 0 (QP (some (aL (if w < 1 then 0 else L 14 0 (w - 1)))) N L) := by
  refine Sem.seg [(.iload_n 1, 0, 0), (.iconst 1, 0, 0)] ⟨⟨d18_0, trivial⟩, ⟨d18_1, trivial⟩, trivial⟩ (lv' := [(0, aR 12 0), (1, aN w)]) (st' := [aN 1, aN w]) (w' := wd N L) (P := []) rfl (trivial) (pc' := 2) rfl ?_
  refine Sem.icmpN (tgt := 9) d18_2 (by decide) (show w < 2 ^ 31 by omega) (by decide) (fun b1 => ?_) (fun b1 => ?_)
  · have b1_ : 1 ≤ w := b1
    refine Sem.seg [(.aload_n 0, 0, 0), (.getfield 15, 3, 1), (.iload_n 1, 0, 0), (.iconst 1, 0, 0), (.isub, 0, 0)] ⟨⟨d18_9, trivial⟩, ⟨d18_10, gf3_15⟩, ⟨d18_13, trivial⟩, ⟨d18_14, trivial⟩, ⟨d18_15, trivial⟩, trivial⟩ (lv' := [(0, aR 12 0), (1, aN w)]) (st' := [aI ((nI w) - (nI 1)), aR 14 0]) (w' := wd N L) (P := [vld NN 12 0]) rfl (vN (t := 12) (i := 0) (by decide)) (pc' := 16) rfl ?_
    refine Sem.topN (show (nI w) - (nI 1) = nI (w - 1) from nI_sub (by omega)) ?_
    refine Sem.seg [(.laload, 0, 0)] ⟨⟨d18_16, trivial⟩, trivial⟩ (lv' := [(0, aR 12 0), (1, aN w)]) (st' := [aL (L 14 0 (w - 1))]) (w' := wd N L) (P := [vld NN 14 0, w - 1 < 12]) rfl (⟨vN (t := 14) (i := 0) (by decide), (show w - 1 < 12 by omega)⟩) (pc' := 17) rfl ?_
    exact Sem.lret d18_17 rfl (by decide) (by decide) hzW ⟨congrArg (fun z => Sum.inl (some (aL z))) (show L 14 0 (w - 1) = (if w < 1 then 0 else L 14 0 (w - 1)) by first | (rw [if_pos (by omega)]; rfl) | (rw [if_neg (by omega)]; done)), rfl⟩
  · have b1_ : ¬ (1 ≤ w) := b1
    refine Sem.seg [(.lconst 0, 0, 0)] ⟨⟨d18_5, trivial⟩, trivial⟩ (lv' := [(0, aR 12 0), (1, aN w)]) (st' := [aL (Int64.ofNat 0)]) (w' := wd N L) (P := []) rfl (trivial) (pc' := 6) rfl ?_
    refine Sem.goto (tgt := 17) d18_6 (by decide) ?_
    exact Sem.lret d18_17 rfl (by decide) (by decide) hzW ⟨congrArg (fun z => Sum.inl (some (aL z))) (show Int64.ofNat 0 = (if w < 1 then 0 else L 14 0 (w - 1)) by first | (rw [if_pos (by omega)]; rfl) | (rw [if_neg (by omega)]; done)), rfl⟩

theorem m21 {sc : XT} (N : TN) (L : TL) (n : Nat) (x : Int64) (hn : n < 2 ^ 31) : Sem sc 21 0 [(0, aN n), (1, aL x)] [] (wd N L) 0 0 (QP (some (aL (if n < 1 then x else (x + q64 n - Int64.ofNat 1) / q64 n * q64 n))) N L) := by
  refine Sem.seg [(.iload_n 0, 0, 0), (.iconst 1, 0, 0)] ⟨⟨d21_0, trivial⟩, ⟨d21_1, trivial⟩, trivial⟩ (lv' := [(0, aN n), (1, aL x)]) (st' := [aN 1, aN n]) (w' := wd N L) (P := []) rfl (trivial) (pc' := 2) rfl ?_
  refine Sem.icmpN (tgt := 9) d21_2 (by decide) (show n < 2 ^ 31 by omega) (by decide) (fun b1 => ?_) (fun b1 => ?_)
  · have b1_ : 1 ≤ n := b1
    refine Sem.seg [(.lload_n 1, 0, 0), (.iload_n 0, 0, 0), (.i2l, 0, 0), (.ladd, 0, 0), (.lconst 1, 0, 0), (.lsub, 0, 0), (.iload_n 0, 0, 0), (.i2l, 0, 0), (.ldiv, 0, 0), (.iload_n 0, 0, 0), (.i2l, 0, 0), (.lmul, 0, 0)] ⟨⟨d21_9, trivial⟩, ⟨d21_10, trivial⟩, ⟨d21_11, trivial⟩, ⟨d21_12, trivial⟩, ⟨d21_13, trivial⟩, ⟨d21_14, trivial⟩, ⟨d21_15, trivial⟩, ⟨d21_16, trivial⟩, ⟨d21_17, trivial⟩, ⟨d21_18, trivial⟩, ⟨d21_19, trivial⟩, ⟨d21_20, trivial⟩, trivial⟩ (lv' := [(0, aN n), (1, aL x)]) (st' := [aL ((((x + ((nI n).toInt64)) - (Int64.ofNat 1)) / ((nI n).toInt64)) * ((nI n).toInt64))]) (w' := wd N L) (P := [¬ ((nI n).toInt64) = 0]) rfl ((by exact q64_ne (by omega) hn)) (pc' := 21) rfl ?_
    exact Sem.lret d21_21 rfl (by decide) (by decide) hzW ⟨congrArg (fun z => Sum.inl (some (aL z))) (show (((x + ((nI n).toInt64)) - (Int64.ofNat 1)) / ((nI n).toInt64)) * ((nI n).toInt64) = (if n < 1 then x else (x + q64 n - Int64.ofNat 1) / q64 n * q64 n) by first | (rw [if_pos (by omega)]; done) | (rw [if_neg (by omega)]; done)), rfl⟩
  · have b1_ : ¬ (1 ≤ n) := b1
    refine Sem.seg [(.lload_n 1, 0, 0)] ⟨⟨d21_5, trivial⟩, trivial⟩ (lv' := [(0, aN n), (1, aL x)]) (st' := [aL x]) (w' := wd N L) (P := []) rfl (trivial) (pc' := 6) rfl ?_
    refine Sem.goto (tgt := 21) d21_6 (by decide) ?_
    exact Sem.lret d21_21 rfl (by decide) (by decide) hzW ⟨congrArg (fun z => Sum.inl (some (aL z))) (show x = (if n < 1 then x else (x + q64 n - Int64.ofNat 1) / q64 n * q64 n) by first | (rw [if_pos (by omega)]; done) | (rw [if_neg (by omega)]; done)), rfl⟩

theorem m52 {sc : XT} (N : TN) (L : TL) (b k n : Nat) (hb : b < 3) (hk : k < 24) : Sem sc 52 0 [(0, aR 8 b), (1, aN k), (2, aN n)] [] (wd N L) 0 0 (QP (some (aN (N 11 b k))) (upN N 11 b k n) L) := by
  refine Sem.seg [(.aload_n 0, 0, 0), (.getfield 18, 1, 2), (.iload_n 1, 0, 0), (.iaload, 0, 0), (.istore_n 3, 0, 0), (.aload_n 0, 0, 0), (.getfield 18, 1, 2), (.iload_n 1, 0, 0), (.iload_n 2, 0, 0), (.iastore, 0, 0), (.iload_n 3, 0, 0)] ⟨⟨d52_0, trivial⟩, ⟨d52_1, gf1_18⟩, ⟨d52_4, trivial⟩, ⟨d52_5, trivial⟩, ⟨d52_6, trivial⟩, ⟨d52_7, trivial⟩, ⟨d52_8, gf1_18⟩, ⟨d52_11, trivial⟩, ⟨d52_12, trivial⟩, ⟨d52_13, trivial⟩, ⟨d52_14, trivial⟩, trivial⟩ (lv' := [(3, aN (N 11 b k)), (0, aR 8 b), (1, aN k), (2, aN n)]) (st' := [aN (N 11 b k)]) (w' := wd (upN N 11 b k n) L) (P := [vld NN 8 b, vld NN 11 b, k < 24, vld NN 8 b, vld NN 11 b, k < 24]) rfl (⟨vN (t := 8) (i := b) (show b < 3 by omega), vN (t := 11) (i := b) (show b < 3 by omega), (show k < 24 by omega), vN (t := 8) (i := b) (show b < 3 by omega), vN (t := 11) (i := b) (show b < 3 by omega), (show k < 24 by omega)⟩) (pc' := 15) rfl ?_
  exact Sem.iret rfl d52_15 (Or.inl rfl) (by decide) (by decide) hzW ⟨rfl, rfl⟩

theorem m48 {sc : XT} (N : TN) (L : TL) (b i w n : Nat) (hb : b < 3) (hk : N 8 b 3 < 24) : Sem sc 48 0 [(0, aR 8 b), (1, aN i), (2, aN w), (3, aN n)] [] (wd N L) 0 0 (QP (some (aN (N 8 b 3))) (upN (upN (upN (upN N 9 b (N 8 b 3) i) 10 b (N 8 b 3) w) 11 b (N 8 b 3) n) 8 b 3 (N 8 b 3 + 1)) L) := by
  refine Sem.seg [(.aload_n 0, 0, 0)] ⟨⟨d48_0, trivial⟩, trivial⟩ (lv' := [(0, aR 8 b), (1, aN i), (2, aN w), (3, aN n)]) (st' := [aR 8 b]) (w' := wd N L) (P := []) rfl (trivial) (pc' := 1) rfl ?_
  refine Sem.cVp1 (t := 8) (i := b) (as := []) (rst := []) (c' := 0) (s' := 0) d48_1 mk47 rfl co47 lk1_25 im47 se47 rfl (vN (t := 8) (i := b) (show b < 3 by omega)) (show 1 ≤ mL 47 by decide) rfl (show 0 ≤ 8 by decide) (by decide) (by decide) rfl rfl (by decide) (by decide) (m47 N L b hb (by omega)) ?_
  refine Sem.topNN (show (if N 8 b 3 < 24 then 0 else 1) = 0 from if_pos hk) ?_
  refine Sem.ifN (tgt := 9) d48_4 (by decide) (by decide) (fun b1 => ?_) (fun b1 => ?_)
  rotate_left
  · exact absurd (show 0 = 0 from by decide) b1
  refine Sem.seg [(.aload_n 0, 0, 0), (.getfield 9, 1, 0), (.aload_n 0, 0, 0), (.getfield 21, 1, 3), (.iload_n 1, 0, 0), (.iastore, 0, 0), (.aload_n 0, 0, 0), (.getfield 15, 1, 1), (.aload_n 0, 0, 0), (.getfield 21, 1, 3), (.iload_n 2, 0, 0), (.iastore, 0, 0), (.aload_n 0, 0, 0), (.getfield 18, 1, 2), (.aload_n 0, 0, 0), (.getfield 21, 1, 3), (.iload_n 3, 0, 0), (.iastore, 0, 0), (.aload_n 0, 0, 0), (.dup, 0, 0), (.getfield 21, 1, 3), (.iconst 1, 0, 0), (.iadd, 0, 0), (.putfield 21, 1, 3), (.aload_n 0, 0, 0), (.getfield 21, 1, 3)] ⟨⟨d48_9, trivial⟩, ⟨d48_10, gf1_9⟩, ⟨d48_13, trivial⟩, ⟨d48_14, gf1_21⟩, ⟨d48_17, trivial⟩, ⟨d48_18, trivial⟩, ⟨d48_19, trivial⟩, ⟨d48_20, gf1_15⟩, ⟨d48_23, trivial⟩, ⟨d48_24, gf1_21⟩, ⟨d48_27, trivial⟩, ⟨d48_28, trivial⟩, ⟨d48_29, trivial⟩, ⟨d48_30, gf1_18⟩, ⟨d48_33, trivial⟩, ⟨d48_34, gf1_21⟩, ⟨d48_37, trivial⟩, ⟨d48_38, trivial⟩, ⟨d48_39, trivial⟩, ⟨d48_40, trivial⟩, ⟨d48_41, gf1_21⟩, ⟨d48_44, trivial⟩, ⟨d48_45, trivial⟩, ⟨d48_46, gf1_21⟩, ⟨d48_49, trivial⟩, ⟨d48_50, gf1_21⟩, trivial⟩ (lv' := [(0, aR 8 b), (1, aN i), (2, aN w), (3, aN n)]) (st' := [aN ((upN (upN (upN (upN N 9 b (N 8 b 3) i) 10 b (N 8 b 3) w) 11 b (N 8 b 3) n) 8 b 3 ((N 8 b 3) + 1)) 8 b 3)]) (w' := wd (upN (upN (upN (upN N 9 b (N 8 b 3) i) 10 b (N 8 b 3) w) 11 b (N 8 b 3) n) 8 b 3 ((N 8 b 3) + 1)) L) (P := [vld NN 8 b, vld NN 8 b, vld NN 9 b, N 8 b 3 < 24, vld NN 8 b, vld NN 8 b, vld NN 10 b, N 8 b 3 < 24, vld NN 8 b, vld NN 8 b, vld NN 11 b, N 8 b 3 < 24, vld NN 8 b, vld NN 8 b, vld NN 8 b]) rfl (⟨vN (t := 8) (i := b) (show b < 3 by omega), vN (t := 8) (i := b) (show b < 3 by omega), vN (t := 9) (i := b) (show b < 3 by omega), (show N 8 b 3 < 24 by omega), vN (t := 8) (i := b) (show b < 3 by omega), vN (t := 8) (i := b) (show b < 3 by omega), vN (t := 10) (i := b) (show b < 3 by omega), (show N 8 b 3 < 24 by omega), vN (t := 8) (i := b) (show b < 3 by omega), vN (t := 8) (i := b) (show b < 3 by omega), vN (t := 11) (i := b) (show b < 3 by omega), (show N 8 b 3 < 24 by omega), vN (t := 8) (i := b) (show b < 3 by omega), vN (t := 8) (i := b) (show b < 3 by omega), vN (t := 8) (i := b) (show b < 3 by omega)⟩) (pc' := 53) rfl ?_
  refine Sem.topNN (show (upN (upN (upN (upN N 9 b (N 8 b 3) i) 10 b (N 8 b 3) w) 11 b (N 8 b 3) n) 8 b 3 ((N 8 b 3) + 1)) 8 b 3 = (N 8 b 3) + 1 by simp [upN, upL]) ?_
  refine Sem.seg [(.iconst 1, 0, 0), (.isub, 0, 0)] ⟨⟨d48_53, trivial⟩, ⟨d48_54, trivial⟩, trivial⟩ (lv' := [(0, aR 8 b), (1, aN i), (2, aN w), (3, aN n)]) (st' := [aI ((nI ((N 8 b 3) + 1)) - (nI 1))]) (w' := wd (upN (upN (upN (upN N 9 b (N 8 b 3) i) 10 b (N 8 b 3) w) 11 b (N 8 b 3) n) 8 b 3 ((N 8 b 3) + 1)) L) (P := []) rfl (trivial) (pc' := 55) rfl ?_
  refine Sem.topN (show (nI ((N 8 b 3) + 1)) - (nI 1) = nI (N 8 b 3) from nI_sub (a := N 8 b 3 + 1) (b := 1) (by omega)) ?_
  exact Sem.iret rfl d48_55 (Or.inl rfl) (by decide) (by decide) hzW ⟨rfl, rfl⟩

theorem m14 {sc : XT} (N : TN) (L : TL) (i : Nat) (hi : i < 12) : Sem sc 14 0 [(0, aR 19 i), (1, aR 17 0)] [] (wd N L) 0 0 (QP (some (aN (bo (∀ w, w < 12 → L 20 i w = L 17 0 w)))) N L) := by
  refine Sem.seg [(.iconst 0, 0, 0), (.istore_n 2, 0, 0)] ⟨⟨d14_0, trivial⟩, ⟨d14_1, trivial⟩, trivial⟩ (lv' := [(2, aN 0), (0, aR 19 i), (1, aR 17 0)]) (st' := []) (w' := wd N L) (P := []) rfl (trivial) (pc' := 2) rfl ?_
  have lp : ∀ (d : Nat) (w : Nat), 12 - w = d → (w ≤ 12) → (∀ v, v < w → L 20 i v = L 17 0 v) → Sem sc 14 2 [(0, aR 19 i), (1, aR 17 0), (2, aN w)] [] (wd N L) 0 0 (QP (some (aN (bo (∀ w, w < 12 → L 20 i w = L 17 0 w)))) N L) := by
    intro d
    induction d using Nat.strongRecOn with
    | ind d ih =>
      intro w hd hw ha
      refine Sem.seg [(.iload_n 2, 0, 0), (.bipush 12, 0, 0)] ⟨⟨d14_2, trivial⟩, ⟨d14_3, trivial⟩, trivial⟩ (lv' := [(0, aR 19 i), (1, aR 17 0), (2, aN w)]) (st' := [aN 12, aN w]) (w' := wd N L) (P := []) rfl (trivial) (pc' := 5) rfl ?_
      refine Sem.icmpN (tgt := 29) d14_5 (by decide) (show w < 2 ^ 31 by omega) (by decide) (fun b1 => ?_) (fun b1 => ?_)
      · have b1_ : 12 ≤ w := b1
        refine Sem.seg [(.iconst 1, 0, 0)] ⟨⟨d14_29, trivial⟩, trivial⟩ (lv' := [(0, aR 19 i), (1, aR 17 0), (2, aN w)]) (st' := [aN 1]) (w' := wd N L) (P := []) rfl (trivial) (pc' := 30) rfl ?_
        exact Sem.iret rfl d14_30 (Or.inr ⟨rfl, by decide⟩) (by decide) (by decide) hzW ⟨congrArg (fun z => Sum.inl (some (aN z))) (show 1 = bo (∀ w, w < 12 → L 20 i w = L 17 0 w) by rw [bo_t (fun v hv => ha v (by omega))]), rfl⟩
      · have b1_ : ¬ (12 ≤ w) := b1
        refine Sem.seg [(.aload_n 0, 0, 0), (.getfield 19, 2, 11), (.iload_n 2, 0, 0), (.laload, 0, 0), (.aload_n 1, 0, 0), (.iload_n 2, 0, 0), (.laload, 0, 0)] ⟨⟨d14_8, trivial⟩, ⟨d14_9, gf2_19⟩, ⟨d14_12, trivial⟩, ⟨d14_13, trivial⟩, ⟨d14_14, trivial⟩, ⟨d14_15, trivial⟩, ⟨d14_16, trivial⟩, trivial⟩ (lv' := [(0, aR 19 i), (1, aR 17 0), (2, aN w)]) (st' := [aL (L 17 0 w), aL (L 20 i w)]) (w' := wd N L) (P := [vld NN 19 i, vld NN 20 i, w < 12, vld NN 17 0, w < 12]) rfl (⟨vN (t := 19) (i := i) (show i < 12 by omega), vN (t := 20) (i := i) (show i < 12 by omega), (show w < 12 by omega), vN (t := 17) (i := 0) (by decide), (show w < 12 by omega)⟩) (pc' := 17) rfl ?_
        refine Sem.lcmp (tgt := 23) d14_17 d14_18 (by decide) (fun b2 => ?_) (fun b2 => ?_)
        · have b2_ : L 20 i w = L 17 0 w := b2
          refine Sem.seg [(.iinc 2 1, 0, 0)] ⟨⟨d14_23, trivial⟩, trivial⟩ (lv' := [(2, aN (w + 1)), (0, aR 19 i), (1, aR 17 0)]) (st' := []) (w' := wd N L) (P := []) rfl (trivial) (pc' := 26) rfl ?_
          refine Sem.goto (tgt := 2) d14_26 (by decide) ?_
          refine Sem.pick [1, 2, 0] (lv' := [(0, aR 19 i), (1, aR 17 0), (2, aN (w + 1))]) rfl ?_
          exact ih _ (by omega) (w + 1) rfl (by omega) (all_s ha b2_)
        · have b2_ : ¬ (L 20 i w = L 17 0 w) := b2
          refine Sem.seg [(.iconst 0, 0, 0)] ⟨⟨d14_21, trivial⟩, trivial⟩ (lv' := [(0, aR 19 i), (1, aR 17 0), (2, aN w)]) (st' := [aN 0]) (w' := wd N L) (P := []) rfl (trivial) (pc' := 22) rfl ?_
          exact Sem.iret rfl d14_22 (Or.inr ⟨rfl, by decide⟩) (by decide) (by decide) hzW ⟨congrArg (fun z => Sum.inl (some (aN z))) (show 0 = bo (∀ w, w < 12 → L 20 i w = L 17 0 w) by rw [bo_f (fun q => b2_ (q w (by omega)))]), rfl⟩
  refine Sem.pick [1, 2, 0] (lv' := [(0, aR 19 i), (1, aR 17 0), (2, aN 0)]) rfl ?_
  exact lp _ 0 rfl (by omega) (fun v hv => absurd hv (by omega))

theorem m85 {sc : XT} (N : TN) (L : TL) (i : Nat) (hi : i < 12) : Sem sc 85 0 [(0, aR 19 i)] [] (wd N L) 0 0 (QP (some (aN (bo (¬ ∀ w, w < 12 → ¬ L 22 i w < 0)))) N L) := by
  refine Sem.seg [(.iconst 0, 0, 0), (.istore_n 1, 0, 0)] ⟨⟨d85_0, trivial⟩, ⟨d85_1, trivial⟩, trivial⟩ (lv' := [(1, aN 0), (0, aR 19 i)]) (st' := []) (w' := wd N L) (P := []) rfl (trivial) (pc' := 2) rfl ?_
  have lp : ∀ (d : Nat) (w : Nat), 12 - w = d → (w ≤ 12) → (∀ v, v < w → ¬ L 22 i v < 0) → Sem sc 85 2 [(0, aR 19 i), (1, aN w)] [] (wd N L) 0 0 (QP (some (aN (bo (¬ ∀ w, w < 12 → ¬ L 22 i w < 0)))) N L) := by
    intro d
    induction d using Nat.strongRecOn with
    | ind d ih =>
      intro w hd hw ha
      refine Sem.seg [(.iload_n 1, 0, 0), (.bipush 12, 0, 0)] ⟨⟨d85_2, trivial⟩, ⟨d85_3, trivial⟩, trivial⟩ (lv' := [(0, aR 19 i), (1, aN w)]) (st' := [aN 12, aN w]) (w' := wd N L) (P := []) rfl (trivial) (pc' := 5) rfl ?_
      refine Sem.icmpN (tgt := 27) d85_5 (by decide) (show w < 2 ^ 31 by omega) (by decide) (fun b1 => ?_) (fun b1 => ?_)
      · have b1_ : 12 ≤ w := b1
        refine Sem.seg [(.iconst 0, 0, 0)] ⟨⟨d85_27, trivial⟩, trivial⟩ (lv' := [(0, aR 19 i), (1, aN w)]) (st' := [aN 0]) (w' := wd N L) (P := []) rfl (trivial) (pc' := 28) rfl ?_
        exact Sem.iret rfl d85_28 (Or.inr ⟨rfl, by decide⟩) (by decide) (by decide) hzW ⟨congrArg (fun z => Sum.inl (some (aN z))) (show 0 = bo (¬ ∀ w, w < 12 → ¬ L 22 i w < 0) by rw [bo_f (fun q => q (fun v hv => ha v (by omega)))]), rfl⟩
      · have b1_ : ¬ (12 ≤ w) := b1
        refine Sem.seg [(.aload_n 0, 0, 0), (.getfield 26, 2, 13), (.iload_n 1, 0, 0), (.laload, 0, 0), (.lconst 0, 0, 0)] ⟨⟨d85_8, trivial⟩, ⟨d85_9, gf2_26⟩, ⟨d85_12, trivial⟩, ⟨d85_13, trivial⟩, ⟨d85_14, trivial⟩, trivial⟩ (lv' := [(0, aR 19 i), (1, aN w)]) (st' := [aL (Int64.ofNat 0), aL (L 22 i w)]) (w' := wd N L) (P := [vld NN 19 i, vld NN 22 i, w < 12]) rfl (⟨vN (t := 19) (i := i) (show i < 12 by omega), vN (t := 22) (i := i) (show i < 12 by omega), (show w < 12 by omega)⟩) (pc' := 15) rfl ?_
        refine Sem.lcmp (tgt := 21) d85_15 d85_16 (by decide) (fun b2 => ?_) (fun b2 => ?_)
        · have b2_ : Int64.ofNat 0 ≤ L 22 i w := b2
          refine Sem.seg [(.iinc 1 1, 0, 0)] ⟨⟨d85_21, trivial⟩, trivial⟩ (lv' := [(1, aN (w + 1)), (0, aR 19 i)]) (st' := []) (w' := wd N L) (P := []) rfl (trivial) (pc' := 24) rfl ?_
          refine Sem.goto (tgt := 2) d85_24 (by decide) ?_
          refine Sem.pick [1, 0] (lv' := [(0, aR 19 i), (1, aN (w + 1))]) rfl ?_
          exact ih _ (by omega) (w + 1) rfl (by omega) (all_s ha (Int64.not_lt.mpr b2_))
        · have b2_ : ¬ (Int64.ofNat 0 ≤ L 22 i w) := b2
          refine Sem.seg [(.iconst 1, 0, 0)] ⟨⟨d85_19, trivial⟩, trivial⟩ (lv' := [(0, aR 19 i), (1, aN w)]) (st' := [aN 1]) (w' := wd N L) (P := []) rfl (trivial) (pc' := 20) rfl ?_
          exact Sem.iret rfl d85_20 (Or.inr ⟨rfl, by decide⟩) (by decide) (by decide) hzW ⟨congrArg (fun z => Sum.inl (some (aN z))) (show 1 = bo (¬ ∀ w, w < 12 → ¬ L 22 i w < 0) by rw [bo_t (fun q => q w (by omega) (Int64.not_le.mp b2_))]), rfl⟩
  refine Sem.pick [1, 0] (lv' := [(0, aR 19 i), (1, aN 0)]) rfl ?_
  exact lp _ 0 rfl (by omega) (fun v hv => absurd hv (by omega))

theorem m60 {sc : XT} (N : TN) (L : TL) (ht : ∀ i, i < 12 → N 19 i 10 ≤ 1) : Sem sc 60 0 [(0, aR 0 0)] [] (wd N L) 0 0 (QP (some (aN (bo (¬ ∀ i, i < 12 → N 19 i 10 = 0)))) N L) := by
  refine Sem.seg [(.iconst 0, 0, 0), (.istore_n 1, 0, 0)] ⟨⟨d60_0, trivial⟩, ⟨d60_1, trivial⟩, trivial⟩ (lv' := [(1, aN 0), (0, aR 0 0)]) (st' := []) (w' := wd N L) (P := []) rfl (trivial) (pc' := 2) rfl ?_
  have lp : ∀ (d : Nat) (w : Nat), 12 - w = d → (w ≤ 12) → (∀ v, v < w → N 19 v 10 = 0) → Sem sc 60 2 [(0, aR 0 0), (1, aN w)] [] (wd N L) 0 0 (QP (some (aN (bo (¬ ∀ i, i < 12 → N 19 i 10 = 0)))) N L) := by
    intro d
    induction d using Nat.strongRecOn with
    | ind d ih =>
      intro w hd hw ha
      refine Sem.seg [(.iload_n 1, 0, 0), (.bipush 12, 0, 0)] ⟨⟨d60_2, trivial⟩, ⟨d60_3, trivial⟩, trivial⟩ (lv' := [(0, aR 0 0), (1, aN w)]) (st' := [aN 12, aN w]) (w' := wd N L) (P := []) rfl (trivial) (pc' := 5) rfl ?_
      refine Sem.icmpN (tgt := 28) d60_5 (by decide) (show w < 2 ^ 31 by omega) (by decide) (fun b1 => ?_) (fun b1 => ?_)
      · have b1_ : 12 ≤ w := b1
        refine Sem.seg [(.iconst 0, 0, 0)] ⟨⟨d60_28, trivial⟩, trivial⟩ (lv' := [(0, aR 0 0), (1, aN w)]) (st' := [aN 0]) (w' := wd N L) (P := []) rfl (trivial) (pc' := 29) rfl ?_
        exact Sem.iret rfl d60_29 (Or.inr ⟨rfl, by decide⟩) (by decide) (by decide) hzW ⟨congrArg (fun z => Sum.inl (some (aN z))) (show 0 = bo (¬ ∀ i, i < 12 → N 19 i 10 = 0) by rw [bo_f (fun q => q (fun v hv => ha v (by omega)))]), rfl⟩
      · have b1_ : ¬ (12 ≤ w) := b1
        have ht_ := ht w (by omega)
        refine Sem.seg [(.aload_n 0, 0, 0), (.getfield 11, 4, 0), (.iload_n 1, 0, 0), (.aaload, 0, 0), (.getfield 71, 2, 10)] ⟨⟨d60_8, trivial⟩, ⟨d60_9, gf4_11⟩, ⟨d60_12, trivial⟩, ⟨d60_13, trivial⟩, ⟨d60_14, gf4_71⟩, trivial⟩ (lv' := [(0, aR 0 0), (1, aN w)]) (st' := [aN (N 19 w 10)]) (w' := wd N L) (P := [vld NN 0 0, vld NN 1 0, w < 12, vld NN 19 w]) rfl (⟨vN (t := 0) (i := 0) (by decide), vN (t := 1) (i := 0) (by decide), (show w < 12 by omega), vN (t := 19) (i := w) (show w < 12 by omega)⟩) (pc' := 17) rfl ?_
        refine Sem.ifN (tgt := 22) d60_17 (by decide) (show N 19 w 10 < 2 ^ 31 by omega) (fun b2 => ?_) (fun b2 => ?_)
        · have b2_ : N 19 w 10 = 0 := b2
          refine Sem.seg [(.iinc 1 1, 0, 0)] ⟨⟨d60_22, trivial⟩, trivial⟩ (lv' := [(1, aN (w + 1)), (0, aR 0 0)]) (st' := []) (w' := wd N L) (P := []) rfl (trivial) (pc' := 25) rfl ?_
          refine Sem.goto (tgt := 2) d60_25 (by decide) ?_
          refine Sem.pick [1, 0] (lv' := [(0, aR 0 0), (1, aN (w + 1))]) rfl ?_
          exact ih _ (by omega) (w + 1) rfl (by omega) (all_s ha b2_)
        · have b2_ : ¬ (N 19 w 10 = 0) := b2
          refine Sem.seg [(.iconst 1, 0, 0)] ⟨⟨d60_20, trivial⟩, trivial⟩ (lv' := [(0, aR 0 0), (1, aN w)]) (st' := [aN 1]) (w' := wd N L) (P := []) rfl (trivial) (pc' := 21) rfl ?_
          exact Sem.iret rfl d60_21 (Or.inr ⟨rfl, by decide⟩) (by decide) (by decide) hzW ⟨congrArg (fun z => Sum.inl (some (aN z))) (show 1 = bo (¬ ∀ i, i < 12 → N 19 i 10 = 0) by rw [bo_t (fun q => b2_ (q w (by omega)))]), rfl⟩
  refine Sem.pick [1, 0] (lv' := [(0, aR 0 0), (1, aN 0)]) rfl ?_
  exact lp _ 0 rfl (by omega) (fun v hv => absurd hv (by omega))

theorem m70g {sc : XT} (N : TN) (L : TL) (i u : Nat) (x : Int32) (hi : i < 12) (hx : x.toInt = (u : Int) - 1) (hu : u ≤ 12) : Sem sc 70 0 [(0, aR 20 i), (1, aI x)] [] (wd N L) 0 0 (QP (some (aL (sm (L 20 i) u))) N L) := by
  refine Sem.seg [(.lconst 0, 0, 0), (.lstore_n 2, 0, 0), (.iconst 0, 0, 0), (.istore 4, 0, 0)] ⟨⟨d70_0, trivial⟩, ⟨d70_1, trivial⟩, ⟨d70_2, trivial⟩, ⟨d70_3, trivial⟩, trivial⟩ (lv' := [(4, aN 0), (2, aL (Int64.ofNat 0)), (0, aR 20 i), (1, aI x)]) (st' := []) (w' := wd N L) (P := []) rfl (trivial) (pc' := 5) rfl ?_
  have lp : ∀ (d : Nat) (w : Nat) (s : Int64), 12 - w = d → (w ≤ u) → (s = sm (L 20 i) w) → Sem sc 70 5 [(0, aR 20 i), (1, aI x), (2, aL s), (4, aN w)] [] (wd N L) 0 0 (QP (some (aL (sm (L 20 i) u))) N L) := by
    intro d
    induction d using Nat.strongRecOn with
    | ind d ih =>
      intro w s hd hw hs
      refine Sem.seg [(.iload 4, 0, 0), (.bipush 12, 0, 0)] ⟨⟨d70_5, trivial⟩, ⟨d70_7, trivial⟩, trivial⟩ (lv' := [(0, aR 20 i), (1, aI x), (2, aL s), (4, aN w)]) (st' := [aN 12, aN w]) (w' := wd N L) (P := []) rfl (trivial) (pc' := 9) rfl ?_
      refine Sem.icmpN (tgt := 31) d70_9 (by decide) (show w < 2 ^ 31 by omega) (by decide) (fun b1 => ?_) (fun b1 => ?_)
      · have b1_ : 12 ≤ w := b1
        refine Sem.seg [(.lload_n 2, 0, 0)] ⟨⟨d70_31, trivial⟩, trivial⟩ (lv' := [(0, aR 20 i), (1, aI x), (2, aL s), (4, aN w)]) (st' := [aL s]) (w' := wd N L) (P := []) rfl (trivial) (pc' := 32) rfl ?_
        exact Sem.lret d70_32 rfl (by decide) (by decide) hzW ⟨congrArg (fun z => Sum.inl (some (aL z))) (show s = sm (L 20 i) u by rw [hs, show w = u by omega]), rfl⟩
      · have b1_ : ¬ (12 ≤ w) := b1
        refine Sem.seg [(.iload 4, 0, 0), (.iload_n 1, 0, 0)] ⟨⟨d70_12, trivial⟩, ⟨d70_14, trivial⟩, trivial⟩ (lv' := [(0, aR 20 i), (1, aI x), (2, aL s), (4, aN w)]) (st' := [aI x, aN w]) (w' := wd N L) (P := []) rfl (trivial) (pc' := 15) rfl ?_
        refine Sem.icmp (tgt := 31) d70_15 (by decide) rfl rfl (fun b2 => ?_) (fun b2 => ?_)
        · have b2_ : x.toInt < ((w : Nat) : Int) := bT (nI_toInt (show w < 2 ^ 31 by omega)) rfl b2
          refine Sem.seg [(.lload_n 2, 0, 0)] ⟨⟨d70_31, trivial⟩, trivial⟩ (lv' := [(0, aR 20 i), (1, aI x), (2, aL s), (4, aN w)]) (st' := [aL s]) (w' := wd N L) (P := []) rfl (trivial) (pc' := 32) rfl ?_
          exact Sem.lret d70_32 rfl (by decide) (by decide) hzW ⟨congrArg (fun z => Sum.inl (some (aL z))) (show s = sm (L 20 i) u by rw [hs, show w = u by omega]), rfl⟩
        · have b2_ : ¬ (x.toInt < ((w : Nat) : Int)) := bF (nI_toInt (show w < 2 ^ 31 by omega)) rfl b2
          refine Sem.seg [(.lload_n 2, 0, 0), (.aload_n 0, 0, 0), (.iload 4, 0, 0), (.laload, 0, 0), (.ladd, 0, 0), (.lstore_n 2, 0, 0), (.iinc 4 1, 0, 0)] ⟨⟨d70_18, trivial⟩, ⟨d70_19, trivial⟩, ⟨d70_20, trivial⟩, ⟨d70_22, trivial⟩, ⟨d70_23, trivial⟩, ⟨d70_24, trivial⟩, ⟨d70_25, trivial⟩, trivial⟩ (lv' := [(4, aN (w + 1)), (2, aL (s + (L 20 i w))), (0, aR 20 i), (1, aI x)]) (st' := []) (w' := wd N L) (P := [vld NN 20 i, w < 12]) rfl (⟨vN (t := 20) (i := i) (show i < 12 by omega), (show w < 12 by omega)⟩) (pc' := 28) rfl ?_
          refine Sem.goto (tgt := 5) d70_28 (by decide) ?_
          refine Sem.pick [2, 3, 1, 0] (lv' := [(0, aR 20 i), (1, aI x), (2, aL (s + (L 20 i w))), (4, aN (w + 1))]) rfl ?_
          exact ih _ (by omega) (w + 1) (s + (L 20 i w)) rfl (by omega) (by rw [hs]; rfl)
  refine Sem.pick [2, 3, 1, 0] (lv' := [(0, aR 20 i), (1, aI x), (2, aL (Int64.ofNat 0)), (4, aN 0)]) rfl ?_
  exact lp _ 0 (Int64.ofNat 0) rfl (by omega) (rfl)

theorem m70p {sc : XT} (N : TN) (L : TL) (i u : Nat) (x : Int32) (hi : i < 12) (hx : x.toInt = (u : Int) - 1) (hu : u ≤ 12) : Sem sc 70 0 [(0, aR 21 i), (1, aI x)] [] (wd N L) 0 0 (QP (some (aL (sm (L 21 i) u))) N L) := by
  refine Sem.seg [(.lconst 0, 0, 0), (.lstore_n 2, 0, 0), (.iconst 0, 0, 0), (.istore 4, 0, 0)] ⟨⟨d70_0, trivial⟩, ⟨d70_1, trivial⟩, ⟨d70_2, trivial⟩, ⟨d70_3, trivial⟩, trivial⟩ (lv' := [(4, aN 0), (2, aL (Int64.ofNat 0)), (0, aR 21 i), (1, aI x)]) (st' := []) (w' := wd N L) (P := []) rfl (trivial) (pc' := 5) rfl ?_
  have lp : ∀ (d : Nat) (w : Nat) (s : Int64), 12 - w = d → (w ≤ u) → (s = sm (L 21 i) w) → Sem sc 70 5 [(0, aR 21 i), (1, aI x), (2, aL s), (4, aN w)] [] (wd N L) 0 0 (QP (some (aL (sm (L 21 i) u))) N L) := by
    intro d
    induction d using Nat.strongRecOn with
    | ind d ih =>
      intro w s hd hw hs
      refine Sem.seg [(.iload 4, 0, 0), (.bipush 12, 0, 0)] ⟨⟨d70_5, trivial⟩, ⟨d70_7, trivial⟩, trivial⟩ (lv' := [(0, aR 21 i), (1, aI x), (2, aL s), (4, aN w)]) (st' := [aN 12, aN w]) (w' := wd N L) (P := []) rfl (trivial) (pc' := 9) rfl ?_
      refine Sem.icmpN (tgt := 31) d70_9 (by decide) (show w < 2 ^ 31 by omega) (by decide) (fun b1 => ?_) (fun b1 => ?_)
      · have b1_ : 12 ≤ w := b1
        refine Sem.seg [(.lload_n 2, 0, 0)] ⟨⟨d70_31, trivial⟩, trivial⟩ (lv' := [(0, aR 21 i), (1, aI x), (2, aL s), (4, aN w)]) (st' := [aL s]) (w' := wd N L) (P := []) rfl (trivial) (pc' := 32) rfl ?_
        exact Sem.lret d70_32 rfl (by decide) (by decide) hzW ⟨congrArg (fun z => Sum.inl (some (aL z))) (show s = sm (L 21 i) u by rw [hs, show w = u by omega]), rfl⟩
      · have b1_ : ¬ (12 ≤ w) := b1
        refine Sem.seg [(.iload 4, 0, 0), (.iload_n 1, 0, 0)] ⟨⟨d70_12, trivial⟩, ⟨d70_14, trivial⟩, trivial⟩ (lv' := [(0, aR 21 i), (1, aI x), (2, aL s), (4, aN w)]) (st' := [aI x, aN w]) (w' := wd N L) (P := []) rfl (trivial) (pc' := 15) rfl ?_
        refine Sem.icmp (tgt := 31) d70_15 (by decide) rfl rfl (fun b2 => ?_) (fun b2 => ?_)
        · have b2_ : x.toInt < ((w : Nat) : Int) := bT (nI_toInt (show w < 2 ^ 31 by omega)) rfl b2
          refine Sem.seg [(.lload_n 2, 0, 0)] ⟨⟨d70_31, trivial⟩, trivial⟩ (lv' := [(0, aR 21 i), (1, aI x), (2, aL s), (4, aN w)]) (st' := [aL s]) (w' := wd N L) (P := []) rfl (trivial) (pc' := 32) rfl ?_
          exact Sem.lret d70_32 rfl (by decide) (by decide) hzW ⟨congrArg (fun z => Sum.inl (some (aL z))) (show s = sm (L 21 i) u by rw [hs, show w = u by omega]), rfl⟩
        · have b2_ : ¬ (x.toInt < ((w : Nat) : Int)) := bF (nI_toInt (show w < 2 ^ 31 by omega)) rfl b2
          refine Sem.seg [(.lload_n 2, 0, 0), (.aload_n 0, 0, 0), (.iload 4, 0, 0), (.laload, 0, 0), (.ladd, 0, 0), (.lstore_n 2, 0, 0), (.iinc 4 1, 0, 0)] ⟨⟨d70_18, trivial⟩, ⟨d70_19, trivial⟩, ⟨d70_20, trivial⟩, ⟨d70_22, trivial⟩, ⟨d70_23, trivial⟩, ⟨d70_24, trivial⟩, ⟨d70_25, trivial⟩, trivial⟩ (lv' := [(4, aN (w + 1)), (2, aL (s + (L 21 i w))), (0, aR 21 i), (1, aI x)]) (st' := []) (w' := wd N L) (P := [vld NN 21 i, w < 12]) rfl (⟨vN (t := 21) (i := i) (show i < 12 by omega), (show w < 12 by omega)⟩) (pc' := 28) rfl ?_
          refine Sem.goto (tgt := 5) d70_28 (by decide) ?_
          refine Sem.pick [2, 3, 1, 0] (lv' := [(0, aR 21 i), (1, aI x), (2, aL (s + (L 21 i w))), (4, aN (w + 1))]) rfl ?_
          exact ih _ (by omega) (w + 1) (s + (L 21 i w)) rfl (by omega) (by rw [hs]; rfl)
  refine Sem.pick [2, 3, 1, 0] (lv' := [(0, aR 21 i), (1, aI x), (2, aL (Int64.ofNat 0)), (4, aN 0)]) rfl ?_
  exact lp _ 0 (Int64.ofNat 0) rfl (by omega) (rfl)

theorem m68 {sc : XT} (N : TN) (L : TL) (b i u : Nat) (x : Int32) (hb : b < 3) (hi : i < 12) (hx : x.toInt = (u : Int) - 1) (hs : N 8 b 3 ≤ 24) (hI : ∀ k, k < N 8 b 3 → N 9 b k < 12) (hW : ∀ k, k < N 8 b 3 → N 10 b k < 12) : Sem sc 68 0 [(0, aR 8 b), (1, aN i), (2, aI x)] [] (wd N L) 0 0 (QP (some (aL (bsm (N 9 b) (N 10 b) (N 11 b) i u (N 8 b 3)))) N L) := by
  refine Sem.seg [(.lconst 0, 0, 0), (.lstore_n 3, 0, 0), (.iconst 0, 0, 0), (.istore 5, 0, 0)] ⟨⟨d68_0, trivial⟩, ⟨d68_1, trivial⟩, ⟨d68_2, trivial⟩, ⟨d68_3, trivial⟩, trivial⟩ (lv' := [(5, aN 0), (3, aL (Int64.ofNat 0)), (0, aR 8 b), (1, aN i), (2, aI x)]) (st' := []) (w' := wd N L) (P := []) rfl (trivial) (pc' := 5) rfl ?_
  have lp : ∀ (d : Nat) (k : Nat) (s : Int64), N 8 b 3 - k = d → (k ≤ N 8 b 3) → (s = bsm (N 9 b) (N 10 b) (N 11 b) i u k) → Sem sc 68 5 [(0, aR 8 b), (1, aN i), (2, aI x), (3, aL s), (5, aN k)] [] (wd N L) 0 0 (QP (some (aL (bsm (N 9 b) (N 10 b) (N 11 b) i u (N 8 b 3)))) N L) := by
    intro d
    induction d using Nat.strongRecOn with
    | ind d ih =>
      intro k s hd hk hS
      refine Sem.seg [(.iload 5, 0, 0), (.aload_n 0, 0, 0), (.getfield 21, 1, 3)] ⟨⟨d68_5, trivial⟩, ⟨d68_7, trivial⟩, ⟨d68_8, gf1_21⟩, trivial⟩ (lv' := [(0, aR 8 b), (1, aN i), (2, aI x), (3, aL s), (5, aN k)]) (st' := [aN (N 8 b 3), aN k]) (w' := wd N L) (P := [vld NN 8 b]) rfl (vN (t := 8) (i := b) (show b < 3 by omega)) (pc' := 11) rfl ?_
      refine Sem.icmpN (tgt := 53) d68_11 (by decide) (show k < 2 ^ 31 by omega) (show N 8 b 3 < 2 ^ 31 by omega) (fun b1 => ?_) (fun b1 => ?_)
      · have b1_ : N 8 b 3 ≤ k := b1
        refine Sem.seg [(.lload_n 3, 0, 0)] ⟨⟨d68_53, trivial⟩, trivial⟩ (lv' := [(0, aR 8 b), (1, aN i), (2, aI x), (3, aL s), (5, aN k)]) (st' := [aL s]) (w' := wd N L) (P := []) rfl (trivial) (pc' := 54) rfl ?_
        exact Sem.lret d68_54 rfl (by decide) (by decide) hzW ⟨congrArg (fun z => Sum.inl (some (aL z))) (show s = bsm (N 9 b) (N 10 b) (N 11 b) i u (N 8 b 3) by rw [hS, show k = N 8 b 3 by omega]), rfl⟩
      · have b1_ : ¬ (N 8 b 3 ≤ k) := b1
        have hI_ := hI k (by omega)
        have hW_ := hW k (by omega)
        refine Sem.seg [(.aload_n 0, 0, 0), (.getfield 9, 1, 0), (.iload 5, 0, 0), (.iaload, 0, 0), (.iload_n 1, 0, 0)] ⟨⟨d68_14, trivial⟩, ⟨d68_15, gf1_9⟩, ⟨d68_18, trivial⟩, ⟨d68_20, trivial⟩, ⟨d68_21, trivial⟩, trivial⟩ (lv' := [(0, aR 8 b), (1, aN i), (2, aI x), (3, aL s), (5, aN k)]) (st' := [aN i, aN (N 9 b k)]) (w' := wd N L) (P := [vld NN 8 b, vld NN 9 b, k < 24]) rfl (⟨vN (t := 8) (i := b) (show b < 3 by omega), vN (t := 9) (i := b) (show b < 3 by omega), (show k < 24 by omega)⟩) (pc' := 22) rfl ?_
        refine Sem.icmpN (tgt := 47) d68_22 (by decide) (show N 9 b k < 2 ^ 31 by omega) (show i < 2 ^ 31 by omega) (fun b2 => ?_) (fun b2 => ?_)
        · have b2_ : ¬ N 9 b k = i := b2
          refine Sem.seg [(.iinc 5 1, 0, 0)] ⟨⟨d68_47, trivial⟩, trivial⟩ (lv' := [(5, aN (k + 1)), (0, aR 8 b), (1, aN i), (2, aI x), (3, aL s)]) (st' := []) (w' := wd N L) (P := []) rfl (trivial) (pc' := 50) rfl ?_
          refine Sem.goto (tgt := 5) d68_50 (by decide) ?_
          refine Sem.pick [1, 2, 3, 4, 0] (lv' := [(0, aR 8 b), (1, aN i), (2, aI x), (3, aL s), (5, aN (k + 1))]) rfl ?_
          exact ih _ (by omega) (k + 1) s rfl (by omega) (by simp only [bsm, sm] at hS ⊢; rw [hS]; first | rw [if_pos (by omega)] | (rw [if_neg (by omega)]; simp))
        · have b2_ : ¬ (¬ N 9 b k = i) := b2
          refine Sem.seg [(.aload_n 0, 0, 0), (.getfield 15, 1, 1), (.iload 5, 0, 0), (.iaload, 0, 0), (.iload_n 2, 0, 0)] ⟨⟨d68_25, trivial⟩, ⟨d68_26, gf1_15⟩, ⟨d68_29, trivial⟩, ⟨d68_31, trivial⟩, ⟨d68_32, trivial⟩, trivial⟩ (lv' := [(0, aR 8 b), (1, aN i), (2, aI x), (3, aL s), (5, aN k)]) (st' := [aI x, aN (N 10 b k)]) (w' := wd N L) (P := [vld NN 8 b, vld NN 10 b, k < 24]) rfl (⟨vN (t := 8) (i := b) (show b < 3 by omega), vN (t := 10) (i := b) (show b < 3 by omega), (show k < 24 by omega)⟩) (pc' := 33) rfl ?_
          refine Sem.icmp (tgt := 47) d68_33 (by decide) rfl rfl (fun b3 => ?_) (fun b3 => ?_)
          · have b3_ : x.toInt < ((N 10 b k : Nat) : Int) := bT (nI_toInt (show N 10 b k < 2 ^ 31 by omega)) rfl b3
            refine Sem.seg [(.iinc 5 1, 0, 0)] ⟨⟨d68_47, trivial⟩, trivial⟩ (lv' := [(5, aN (k + 1)), (0, aR 8 b), (1, aN i), (2, aI x), (3, aL s)]) (st' := []) (w' := wd N L) (P := []) rfl (trivial) (pc' := 50) rfl ?_
            refine Sem.goto (tgt := 5) d68_50 (by decide) ?_
            refine Sem.pick [1, 2, 3, 4, 0] (lv' := [(0, aR 8 b), (1, aN i), (2, aI x), (3, aL s), (5, aN (k + 1))]) rfl ?_
            exact ih _ (by omega) (k + 1) s rfl (by omega) (by simp only [bsm, sm] at hS ⊢; rw [hS]; first | rw [if_pos (by omega)] | (rw [if_neg (by omega)]; simp))
          · have b3_ : ¬ (x.toInt < ((N 10 b k : Nat) : Int)) := bF (nI_toInt (show N 10 b k < 2 ^ 31 by omega)) rfl b3
            refine Sem.seg [(.lload_n 3, 0, 0), (.aload_n 0, 0, 0), (.getfield 18, 1, 2), (.iload 5, 0, 0), (.iaload, 0, 0), (.i2l, 0, 0), (.ladd, 0, 0), (.lstore_n 3, 0, 0), (.iinc 5 1, 0, 0)] ⟨⟨d68_36, trivial⟩, ⟨d68_37, trivial⟩, ⟨d68_38, gf1_18⟩, ⟨d68_41, trivial⟩, ⟨d68_43, trivial⟩, ⟨d68_44, trivial⟩, ⟨d68_45, trivial⟩, ⟨d68_46, trivial⟩, ⟨d68_47, trivial⟩, trivial⟩ (lv' := [(5, aN (k + 1)), (3, aL (s + ((nI (N 11 b k)).toInt64))), (0, aR 8 b), (1, aN i), (2, aI x)]) (st' := []) (w' := wd N L) (P := [vld NN 8 b, vld NN 11 b, k < 24]) rfl (⟨vN (t := 8) (i := b) (show b < 3 by omega), vN (t := 11) (i := b) (show b < 3 by omega), (show k < 24 by omega)⟩) (pc' := 50) rfl ?_
            refine Sem.goto (tgt := 5) d68_50 (by decide) ?_
            refine Sem.pick [2, 3, 4, 1, 0] (lv' := [(0, aR 8 b), (1, aN i), (2, aI x), (3, aL (s + ((nI (N 11 b k)).toInt64))), (5, aN (k + 1))]) rfl ?_
            exact ih _ (by omega) (k + 1) (s + ((nI (N 11 b k)).toInt64)) rfl (by omega) (by simp only [bsm, sm] at hS ⊢; rw [hS]; first | rw [if_pos (by omega)] | (rw [if_neg (by omega)]; simp))
  refine Sem.pick [2, 3, 4, 1, 0] (lv' := [(0, aR 8 b), (1, aN i), (2, aI x), (3, aL (Int64.ofNat 0)), (5, aN 0)]) rfl ?_
  exact lp _ 0 (Int64.ofNat 0) rfl (by omega) (rfl)

theorem m69 {sc : XT} (N : TN) (L : TL) (b n : Nat) (hb : b < 3) (hs : N 8 b 3 ≤ 24) (hI : ∀ k, k < N 8 b 3 → N 9 b k < 12) (hW : ∀ k, k < N 8 b 3 → N 10 b k < 12) (hn : n < N 8 b 3) : Sem sc 69 0 [(0, aR 8 b), (1, aN n)] [] (wd N L) 0 0 (QP (some (aL (bat (N 9 b) (N 10 b) (N 11 b) (N 9 b n) (N 10 b n) n))) N L) := by
  refine Sem.seg [(.lconst 0, 0, 0), (.lstore_n 2, 0, 0), (.iconst 0, 0, 0), (.istore 4, 0, 0)] ⟨⟨d69_0, trivial⟩, ⟨d69_1, trivial⟩, ⟨d69_2, trivial⟩, ⟨d69_3, trivial⟩, trivial⟩ (lv' := [(4, aN 0), (2, aL (Int64.ofNat 0)), (0, aR 8 b), (1, aN n)]) (st' := []) (w' := wd N L) (P := []) rfl (trivial) (pc' := 5) rfl ?_
  have lp : ∀ (d : Nat) (k : Nat) (s : Int64), n - k = d → (k ≤ n) → (s = bat (N 9 b) (N 10 b) (N 11 b) (N 9 b n) (N 10 b n) k) → Sem sc 69 5 [(0, aR 8 b), (1, aN n), (2, aL s), (4, aN k)] [] (wd N L) 0 0 (QP (some (aL (bat (N 9 b) (N 10 b) (N 11 b) (N 9 b n) (N 10 b n) n))) N L) := by
    intro d
    induction d using Nat.strongRecOn with
    | ind d ih =>
      intro k s hd hk hS
      refine Sem.seg [(.iload 4, 0, 0), (.iload_n 1, 0, 0)] ⟨⟨d69_5, trivial⟩, ⟨d69_7, trivial⟩, trivial⟩ (lv' := [(0, aR 8 b), (1, aN n), (2, aL s), (4, aN k)]) (st' := [aN n, aN k]) (w' := wd N L) (P := []) rfl (trivial) (pc' := 8) rfl ?_
      refine Sem.icmpN (tgt := 60) d69_8 (by decide) (show k < 2 ^ 31 by omega) (show n < 2 ^ 31 by omega) (fun b1 => ?_) (fun b1 => ?_)
      · have b1_ : n ≤ k := b1
        refine Sem.seg [(.lload_n 2, 0, 0)] ⟨⟨d69_60, trivial⟩, trivial⟩ (lv' := [(0, aR 8 b), (1, aN n), (2, aL s), (4, aN k)]) (st' := [aL s]) (w' := wd N L) (P := []) rfl (trivial) (pc' := 61) rfl ?_
        exact Sem.lret d69_61 rfl (by decide) (by decide) hzW ⟨congrArg (fun z => Sum.inl (some (aL z))) (show s = bat (N 9 b) (N 10 b) (N 11 b) (N 9 b n) (N 10 b n) n by rw [hS, show k = n by omega]), rfl⟩
      · have b1_ : ¬ (n ≤ k) := b1
        have hI_ := hI k (by omega)
        have hW_ := hW k (by omega)
        have hI2_ := hI n (by omega)
        have hW2_ := hW n (by omega)
        refine Sem.seg [(.aload_n 0, 0, 0), (.getfield 9, 1, 0), (.iload 4, 0, 0), (.iaload, 0, 0), (.aload_n 0, 0, 0), (.getfield 9, 1, 0), (.iload_n 1, 0, 0), (.iaload, 0, 0)] ⟨⟨d69_11, trivial⟩, ⟨d69_12, gf1_9⟩, ⟨d69_15, trivial⟩, ⟨d69_17, trivial⟩, ⟨d69_18, trivial⟩, ⟨d69_19, gf1_9⟩, ⟨d69_22, trivial⟩, ⟨d69_23, trivial⟩, trivial⟩ (lv' := [(0, aR 8 b), (1, aN n), (2, aL s), (4, aN k)]) (st' := [aN (N 9 b n), aN (N 9 b k)]) (w' := wd N L) (P := [vld NN 8 b, vld NN 9 b, k < 24, vld NN 8 b, vld NN 9 b, n < 24]) rfl (⟨vN (t := 8) (i := b) (show b < 3 by omega), vN (t := 9) (i := b) (show b < 3 by omega), (show k < 24 by omega), vN (t := 8) (i := b) (show b < 3 by omega), vN (t := 9) (i := b) (show b < 3 by omega), (show n < 24 by omega)⟩) (pc' := 24) rfl ?_
        refine Sem.icmpN (tgt := 54) d69_24 (by decide) (show N 9 b k < 2 ^ 31 by omega) (show N 9 b n < 2 ^ 31 by omega) (fun b2 => ?_) (fun b2 => ?_)
        · have b2_ : ¬ N 9 b k = N 9 b n := b2
          refine Sem.seg [(.iinc 4 1, 0, 0)] ⟨⟨d69_54, trivial⟩, trivial⟩ (lv' := [(4, aN (k + 1)), (0, aR 8 b), (1, aN n), (2, aL s)]) (st' := []) (w' := wd N L) (P := []) rfl (trivial) (pc' := 57) rfl ?_
          refine Sem.goto (tgt := 5) d69_57 (by decide) ?_
          refine Sem.pick [1, 2, 3, 0] (lv' := [(0, aR 8 b), (1, aN n), (2, aL s), (4, aN (k + 1))]) rfl ?_
          exact ih _ (by omega) (k + 1) s rfl (by omega) (by simp only [bat, sm] at hS ⊢; rw [hS]; first | rw [if_pos (by omega)] | (rw [if_neg (by omega)]; simp))
        · have b2_ : ¬ (¬ N 9 b k = N 9 b n) := b2
          refine Sem.seg [(.aload_n 0, 0, 0), (.getfield 15, 1, 1), (.iload 4, 0, 0), (.iaload, 0, 0), (.aload_n 0, 0, 0), (.getfield 15, 1, 1), (.iload_n 1, 0, 0), (.iaload, 0, 0)] ⟨⟨d69_27, trivial⟩, ⟨d69_28, gf1_15⟩, ⟨d69_31, trivial⟩, ⟨d69_33, trivial⟩, ⟨d69_34, trivial⟩, ⟨d69_35, gf1_15⟩, ⟨d69_38, trivial⟩, ⟨d69_39, trivial⟩, trivial⟩ (lv' := [(0, aR 8 b), (1, aN n), (2, aL s), (4, aN k)]) (st' := [aN (N 10 b n), aN (N 10 b k)]) (w' := wd N L) (P := [vld NN 8 b, vld NN 10 b, k < 24, vld NN 8 b, vld NN 10 b, n < 24]) rfl (⟨vN (t := 8) (i := b) (show b < 3 by omega), vN (t := 10) (i := b) (show b < 3 by omega), (show k < 24 by omega), vN (t := 8) (i := b) (show b < 3 by omega), vN (t := 10) (i := b) (show b < 3 by omega), (show n < 24 by omega)⟩) (pc' := 40) rfl ?_
          refine Sem.icmpN (tgt := 54) d69_40 (by decide) (show N 10 b k < 2 ^ 31 by omega) (show N 10 b n < 2 ^ 31 by omega) (fun b3 => ?_) (fun b3 => ?_)
          · have b3_ : ¬ N 10 b k = N 10 b n := b3
            refine Sem.seg [(.iinc 4 1, 0, 0)] ⟨⟨d69_54, trivial⟩, trivial⟩ (lv' := [(4, aN (k + 1)), (0, aR 8 b), (1, aN n), (2, aL s)]) (st' := []) (w' := wd N L) (P := []) rfl (trivial) (pc' := 57) rfl ?_
            refine Sem.goto (tgt := 5) d69_57 (by decide) ?_
            refine Sem.pick [1, 2, 3, 0] (lv' := [(0, aR 8 b), (1, aN n), (2, aL s), (4, aN (k + 1))]) rfl ?_
            exact ih _ (by omega) (k + 1) s rfl (by omega) (by simp only [bat, sm] at hS ⊢; rw [hS]; first | rw [if_pos (by omega)] | (rw [if_neg (by omega)]; simp))
          · have b3_ : ¬ (¬ N 10 b k = N 10 b n) := b3
            refine Sem.seg [(.lload_n 2, 0, 0), (.aload_n 0, 0, 0), (.getfield 18, 1, 2), (.iload 4, 0, 0), (.iaload, 0, 0), (.i2l, 0, 0), (.ladd, 0, 0), (.lstore_n 2, 0, 0), (.iinc 4 1, 0, 0)] ⟨⟨d69_43, trivial⟩, ⟨d69_44, trivial⟩, ⟨d69_45, gf1_18⟩, ⟨d69_48, trivial⟩, ⟨d69_50, trivial⟩, ⟨d69_51, trivial⟩, ⟨d69_52, trivial⟩, ⟨d69_53, trivial⟩, ⟨d69_54, trivial⟩, trivial⟩ (lv' := [(4, aN (k + 1)), (2, aL (s + ((nI (N 11 b k)).toInt64))), (0, aR 8 b), (1, aN n)]) (st' := []) (w' := wd N L) (P := [vld NN 8 b, vld NN 11 b, k < 24]) rfl (⟨vN (t := 8) (i := b) (show b < 3 by omega), vN (t := 11) (i := b) (show b < 3 by omega), (show k < 24 by omega)⟩) (pc' := 57) rfl ?_
            refine Sem.goto (tgt := 5) d69_57 (by decide) ?_
            refine Sem.pick [2, 3, 1, 0] (lv' := [(0, aR 8 b), (1, aN n), (2, aL (s + ((nI (N 11 b k)).toInt64))), (4, aN (k + 1))]) rfl ?_
            exact ih _ (by omega) (k + 1) (s + ((nI (N 11 b k)).toInt64)) rfl (by omega) (by simp only [bat, sm] at hS ⊢; rw [hS]; first | rw [if_pos (by omega)] | (rw [if_neg (by omega)]; simp))
  refine Sem.pick [2, 3, 1, 0] (lv' := [(0, aR 8 b), (1, aN n), (2, aL (Int64.ofNat 0)), (4, aN 0)]) rfl ?_
  exact lp _ 0 (Int64.ofNat 0) rfl (by omega) (rfl)

theorem m8_17 {sc : XT} (N : TN) (L : TL) : Sem sc 8 0 [(0, aR 17 0), (1, aL 0)] [] (wd N L) 0 0 (QP none N (upW L 17 0 12 (fun _ => 0))) := by
  refine Sem.seg [(.iconst 0, 0, 0), (.istore_n 3, 0, 0), (.aload_n 0, 0, 0), (.arraylength, 0, 0), (.istore 4, 0, 0)] ⟨⟨d8_0, trivial⟩, ⟨d8_1, trivial⟩, ⟨d8_2, trivial⟩, ⟨d8_3, trivial⟩, ⟨d8_4, trivial⟩, trivial⟩ (lv' := [(4, aN 12), (3, aN 0), (0, aR 17 0), (1, aL 0)]) (st' := []) (w' := wd N L) (P := [vld NN 17 0]) rfl (vN (t := 17) (i := 0) (by decide)) (pc' := 6) rfl ?_
  have lp : ∀ (d : Nat) (k : Nat) (L1 : TL), 12 - k = d → (k ≤ 12) → (L1 = upW L 17 0 k (fun _ => 0)) → Sem sc 8 6 [(0, aR 17 0), (1, aL 0), (3, aN k), (4, aN 12)] [] (wd N L1) 0 0 (QP none N (upW L 17 0 12 (fun _ => 0))) := by
    intro d
    induction d using Nat.strongRecOn with
    | ind d ih =>
      intro k L1 hd hk hL
      refine Sem.seg [(.iload_n 3, 0, 0), (.iload 4, 0, 0)] ⟨⟨d8_6, trivial⟩, ⟨d8_7, trivial⟩, trivial⟩ (lv' := [(0, aR 17 0), (1, aL 0), (3, aN k), (4, aN 12)]) (st' := [aN 12, aN k]) (w' := wd N L1) (P := []) rfl (trivial) (pc' := 9) rfl ?_
      refine Sem.icmpN (tgt := 22) d8_9 (by decide) (show k < 2 ^ 31 by omega) (by decide) (fun b1 => ?_) (fun b1 => ?_)
      · have b1_ : 12 ≤ k := b1
        have hk_ : k = 12 := by omega
        subst hk_
        subst hL
        exact Sem.vret d8_22 rfl (by decide) (by decide) hzW ⟨rfl, rfl⟩
      · have b1_ : ¬ (12 ≤ k) := b1
        refine Sem.seg [(.aload_n 0, 0, 0), (.iload_n 3, 0, 0), (.lload_n 1, 0, 0), (.lastore, 0, 0), (.iinc 3 1, 0, 0)] ⟨⟨d8_12, trivial⟩, ⟨d8_13, trivial⟩, ⟨d8_14, trivial⟩, ⟨d8_15, trivial⟩, ⟨d8_16, trivial⟩, trivial⟩ (lv' := [(3, aN (k + 1)), (0, aR 17 0), (1, aL 0), (4, aN 12)]) (st' := []) (w' := wd N (upL L1 17 0 k 0)) (P := [vld NN 17 0, k < 12]) rfl (⟨vN (t := 17) (i := 0) (by decide), (show k < 12 by omega)⟩) (pc' := 19) rfl ?_
        refine Sem.goto (tgt := 6) d8_19 (by decide) ?_
        refine Sem.pick [1, 2, 0, 3] (lv' := [(0, aR 17 0), (1, aL 0), (3, aN (k + 1)), (4, aN 12)]) rfl ?_
        exact ih _ (by omega) (k + 1) (upL L1 17 0 k 0) rfl (by omega) (by rw [hL]; exact upW_s rfl)
  refine Sem.pick [2, 3, 1, 0] (lv' := [(0, aR 17 0), (1, aL 0), (3, aN 0), (4, aN 12)]) rfl ?_
  exact lp _ 0 L rfl (by omega) (upW_0.symm)

theorem m8_18 {sc : XT} (N : TN) (L : TL) : Sem sc 8 0 [(0, aR 18 0), (1, aL 0)] [] (wd N L) 0 0 (QP none N (upW L 18 0 12 (fun _ => 0))) := by
  refine Sem.seg [(.iconst 0, 0, 0), (.istore_n 3, 0, 0), (.aload_n 0, 0, 0), (.arraylength, 0, 0), (.istore 4, 0, 0)] ⟨⟨d8_0, trivial⟩, ⟨d8_1, trivial⟩, ⟨d8_2, trivial⟩, ⟨d8_3, trivial⟩, ⟨d8_4, trivial⟩, trivial⟩ (lv' := [(4, aN 12), (3, aN 0), (0, aR 18 0), (1, aL 0)]) (st' := []) (w' := wd N L) (P := [vld NN 18 0]) rfl (vN (t := 18) (i := 0) (by decide)) (pc' := 6) rfl ?_
  have lp : ∀ (d : Nat) (k : Nat) (L1 : TL), 12 - k = d → (k ≤ 12) → (L1 = upW L 18 0 k (fun _ => 0)) → Sem sc 8 6 [(0, aR 18 0), (1, aL 0), (3, aN k), (4, aN 12)] [] (wd N L1) 0 0 (QP none N (upW L 18 0 12 (fun _ => 0))) := by
    intro d
    induction d using Nat.strongRecOn with
    | ind d ih =>
      intro k L1 hd hk hL
      refine Sem.seg [(.iload_n 3, 0, 0), (.iload 4, 0, 0)] ⟨⟨d8_6, trivial⟩, ⟨d8_7, trivial⟩, trivial⟩ (lv' := [(0, aR 18 0), (1, aL 0), (3, aN k), (4, aN 12)]) (st' := [aN 12, aN k]) (w' := wd N L1) (P := []) rfl (trivial) (pc' := 9) rfl ?_
      refine Sem.icmpN (tgt := 22) d8_9 (by decide) (show k < 2 ^ 31 by omega) (by decide) (fun b1 => ?_) (fun b1 => ?_)
      · have b1_ : 12 ≤ k := b1
        have hk_ : k = 12 := by omega
        subst hk_
        subst hL
        exact Sem.vret d8_22 rfl (by decide) (by decide) hzW ⟨rfl, rfl⟩
      · have b1_ : ¬ (12 ≤ k) := b1
        refine Sem.seg [(.aload_n 0, 0, 0), (.iload_n 3, 0, 0), (.lload_n 1, 0, 0), (.lastore, 0, 0), (.iinc 3 1, 0, 0)] ⟨⟨d8_12, trivial⟩, ⟨d8_13, trivial⟩, ⟨d8_14, trivial⟩, ⟨d8_15, trivial⟩, ⟨d8_16, trivial⟩, trivial⟩ (lv' := [(3, aN (k + 1)), (0, aR 18 0), (1, aL 0), (4, aN 12)]) (st' := []) (w' := wd N (upL L1 18 0 k 0)) (P := [vld NN 18 0, k < 12]) rfl (⟨vN (t := 18) (i := 0) (by decide), (show k < 12 by omega)⟩) (pc' := 19) rfl ?_
        refine Sem.goto (tgt := 6) d8_19 (by decide) ?_
        refine Sem.pick [1, 2, 0, 3] (lv' := [(0, aR 18 0), (1, aL 0), (3, aN (k + 1)), (4, aN 12)]) rfl ?_
        exact ih _ (by omega) (k + 1) (upL L1 18 0 k 0) rfl (by omega) (by rw [hL]; exact upW_s rfl)
  refine Sem.pick [2, 3, 1, 0] (lv' := [(0, aR 18 0), (1, aL 0), (3, aN 0), (4, aN 12)]) rfl ?_
  exact lp _ 0 L rfl (by omega) (upW_0.symm)

theorem m37 {sc : XT} (N : TN) (L : TL) : Sem sc 37 0 [(0, aR 7 0), (1, aN 0)] [] (wd N L) 0 0 (QP none (upV N 7 0 12 (fun _ => 0)) L) := by
  refine Sem.seg [(.iconst 0, 0, 0), (.istore_n 2, 0, 0), (.aload_n 0, 0, 0), (.arraylength, 0, 0), (.istore_n 3, 0, 0)] ⟨⟨d37_0, trivial⟩, ⟨d37_1, trivial⟩, ⟨d37_2, trivial⟩, ⟨d37_3, trivial⟩, ⟨d37_4, trivial⟩, trivial⟩ (lv' := [(3, aN 12), (2, aN 0), (0, aR 7 0), (1, aN 0)]) (st' := []) (w' := wd N L) (P := [vld NN 7 0]) rfl (vN (t := 7) (i := 0) (by decide)) (pc' := 5) rfl ?_
  have lp : ∀ (d : Nat) (k : Nat) (N1 : TN), 12 - k = d → (k ≤ 12) → (N1 = upV N 7 0 k (fun _ => 0)) → Sem sc 37 5 [(0, aR 7 0), (1, aN 0), (2, aN k), (3, aN 12)] [] (wd N1 L) 0 0 (QP none (upV N 7 0 12 (fun _ => 0)) L) := by
    intro d
    induction d using Nat.strongRecOn with
    | ind d ih =>
      intro k N1 hd hk hL
      refine Sem.seg [(.iload_n 2, 0, 0), (.iload_n 3, 0, 0)] ⟨⟨d37_5, trivial⟩, ⟨d37_6, trivial⟩, trivial⟩ (lv' := [(0, aR 7 0), (1, aN 0), (2, aN k), (3, aN 12)]) (st' := [aN 12, aN k]) (w' := wd N1 L) (P := []) rfl (trivial) (pc' := 7) rfl ?_
      refine Sem.icmpN (tgt := 20) d37_7 (by decide) (show k < 2 ^ 31 by omega) (by decide) (fun b1 => ?_) (fun b1 => ?_)
      · have b1_ : 12 ≤ k := b1
        have hk_ : k = 12 := by omega
        subst hk_
        subst hL
        exact Sem.vret d37_20 rfl (by decide) (by decide) hzW ⟨rfl, rfl⟩
      · have b1_ : ¬ (12 ≤ k) := b1
        refine Sem.seg [(.aload_n 0, 0, 0), (.iload_n 2, 0, 0), (.iload_n 1, 0, 0), (.iastore, 0, 0), (.iinc 2 1, 0, 0)] ⟨⟨d37_10, trivial⟩, ⟨d37_11, trivial⟩, ⟨d37_12, trivial⟩, ⟨d37_13, trivial⟩, ⟨d37_14, trivial⟩, trivial⟩ (lv' := [(2, aN (k + 1)), (0, aR 7 0), (1, aN 0), (3, aN 12)]) (st' := []) (w' := wd (upN N1 7 0 k 0) L) (P := [vld NN 7 0, k < 12]) rfl (⟨vN (t := 7) (i := 0) (by decide), (show k < 12 by omega)⟩) (pc' := 17) rfl ?_
        refine Sem.goto (tgt := 5) d37_17 (by decide) ?_
        refine Sem.pick [1, 2, 0, 3] (lv' := [(0, aR 7 0), (1, aN 0), (2, aN (k + 1)), (3, aN 12)]) rfl ?_
        exact ih _ (by omega) (k + 1) (upN N1 7 0 k 0) rfl (by omega) (by rw [hL]; exact upV_s rfl)
  refine Sem.pick [2, 3, 1, 0] (lv' := [(0, aR 7 0), (1, aN 0), (2, aN 0), (3, aN 12)]) rfl ?_
  exact lp _ 0 N rfl (by omega) (upV_0.symm)

theorem m9_17 {sc : XT} (N : TN) (L : TL) (i : Nat) (hi : i < 12) (hs : N 8 0 3 ≤ 24) (hI : ∀ k, k < N 8 0 3 → N 9 0 k < 12) (hW : ∀ k, k < N 8 0 3 → N 10 0 k < 12) : Sem sc 9 0 [(0, aR 8 0), (1, aR 17 0), (2, aN i)] [] (wd N L) 0 0 (QP none N (upW L 17 0 12 (fun w => L 17 0 w + bat (N 9 0) (N 10 0) (N 11 0) i w (N 8 0 3)))) := by
  refine Sem.seg [(.iconst 0, 0, 0), (.istore_n 3, 0, 0)] ⟨⟨d9_0, trivial⟩, ⟨d9_1, trivial⟩, trivial⟩ (lv' := [(3, aN 0), (0, aR 8 0), (1, aR 17 0), (2, aN i)]) (st' := []) (w' := wd N L) (P := []) rfl (trivial) (pc' := 2) rfl ?_
  have lp : ∀ (d : Nat) (k : Nat) (L1 : TL), N 8 0 3 - k = d → (k ≤ N 8 0 3) → (L1 = upW L 17 0 12 (fun w => L 17 0 w + bat (N 9 0) (N 10 0) (N 11 0) i w k)) → Sem sc 9 2 [(0, aR 8 0), (1, aR 17 0), (2, aN i), (3, aN k)] [] (wd N L1) 0 0 (QP none N (upW L 17 0 12 (fun w => L 17 0 w + bat (N 9 0) (N 10 0) (N 11 0) i w (N 8 0 3)))) := by
    intro d
    induction d using Nat.strongRecOn with
    | ind d ih =>
      intro k L1 hd hk hL
      refine Sem.seg [(.iload_n 3, 0, 0), (.aload_n 0, 0, 0), (.getfield 21, 1, 3)] ⟨⟨d9_2, trivial⟩, ⟨d9_3, trivial⟩, ⟨d9_4, gf1_21⟩, trivial⟩ (lv' := [(0, aR 8 0), (1, aR 17 0), (2, aN i), (3, aN k)]) (st' := [aN (N 8 0 3), aN k]) (w' := wd N L1) (P := [vld NN 8 0]) rfl (vN (t := 8) (i := 0) (by decide)) (pc' := 7) rfl ?_
      refine Sem.icmpN (tgt := 44) d9_7 (by decide) (show k < 2 ^ 31 by omega) (show N 8 0 3 < 2 ^ 31 by omega) (fun b1 => ?_) (fun b1 => ?_)
      · have b1_ : N 8 0 3 ≤ k := b1
        have hk_ : k = N 8 0 3 := by omega
        subst hk_
        subst hL
        exact Sem.vret d9_44 rfl (by decide) (by decide) hzW ⟨rfl, rfl⟩
      · have b1_ : ¬ (N 8 0 3 ≤ k) := b1
        have hI_ := hI k (by omega)
        have hW_ := hW k (by omega)
        refine Sem.seg [(.aload_n 0, 0, 0), (.getfield 9, 1, 0), (.iload_n 3, 0, 0), (.iaload, 0, 0), (.iload_n 2, 0, 0)] ⟨⟨d9_10, trivial⟩, ⟨d9_11, gf1_9⟩, ⟨d9_14, trivial⟩, ⟨d9_15, trivial⟩, ⟨d9_16, trivial⟩, trivial⟩ (lv' := [(0, aR 8 0), (1, aR 17 0), (2, aN i), (3, aN k)]) (st' := [aN i, aN (N 9 0 k)]) (w' := wd N L1) (P := [vld NN 8 0, vld NN 9 0, k < 24]) rfl (⟨vN (t := 8) (i := 0) (by decide), vN (t := 9) (i := 0) (by decide), (show k < 24 by omega)⟩) (pc' := 17) rfl ?_
        refine Sem.icmpN (tgt := 38) d9_17 (by decide) (show N 9 0 k < 2 ^ 31 by omega) (show i < 2 ^ 31 by omega) (fun b2 => ?_) (fun b2 => ?_)
        · have b2_ : ¬ N 9 0 k = i := b2
          refine Sem.seg [(.iinc 3 1, 0, 0)] ⟨⟨d9_38, trivial⟩, trivial⟩ (lv' := [(3, aN (k + 1)), (0, aR 8 0), (1, aR 17 0), (2, aN i)]) (st' := []) (w' := wd N L1) (P := []) rfl (trivial) (pc' := 41) rfl ?_
          refine Sem.goto (tgt := 2) d9_41 (by decide) ?_
          refine Sem.pick [1, 2, 3, 0] (lv' := [(0, aR 8 0), (1, aR 17 0), (2, aN i), (3, aN (k + 1))]) rfl ?_
          exact ih _ (by omega) (k + 1) L1 rfl (by omega) (by rw [hL]; refine upW_cg (fun j _ => ?_); simp only [bat, sm]; rw [if_neg (by omega)]; simp)
        · have b2_ : ¬ (¬ N 9 0 k = i) := b2
          refine Sem.seg [(.aload_n 1, 0, 0), (.aload_n 0, 0, 0), (.getfield 15, 1, 1), (.iload_n 3, 0, 0), (.iaload, 0, 0), (.dup2, 0, 0), (.laload, 0, 0), (.aload_n 0, 0, 0), (.getfield 18, 1, 2), (.iload_n 3, 0, 0), (.iaload, 0, 0), (.i2l, 0, 0), (.ladd, 0, 0), (.lastore, 0, 0), (.iinc 3 1, 0, 0)] ⟨⟨d9_20, trivial⟩, ⟨d9_21, trivial⟩, ⟨d9_22, gf1_15⟩, ⟨d9_25, trivial⟩, ⟨d9_26, trivial⟩, ⟨d9_27, trivial⟩, ⟨d9_28, trivial⟩, ⟨d9_29, trivial⟩, ⟨d9_30, gf1_18⟩, ⟨d9_33, trivial⟩, ⟨d9_34, trivial⟩, ⟨d9_35, trivial⟩, ⟨d9_36, trivial⟩, ⟨d9_37, trivial⟩, ⟨d9_38, trivial⟩, trivial⟩ (lv' := [(3, aN (k + 1)), (0, aR 8 0), (1, aR 17 0), (2, aN i)]) (st' := []) (w' := wd N (upL L1 17 0 (N 10 0 k) ((L1 17 0 (N 10 0 k)) + ((nI (N 11 0 k)).toInt64)))) (P := [vld NN 8 0, vld NN 10 0, k < 24, vld NN 17 0, N 10 0 k < 12, vld NN 8 0, vld NN 11 0, k < 24, vld NN 17 0, N 10 0 k < 12]) rfl (⟨vN (t := 8) (i := 0) (by decide), vN (t := 10) (i := 0) (by decide), (show k < 24 by omega), vN (t := 17) (i := 0) (by decide), (show N 10 0 k < 12 by omega), vN (t := 8) (i := 0) (by decide), vN (t := 11) (i := 0) (by decide), (show k < 24 by omega), vN (t := 17) (i := 0) (by decide), (show N 10 0 k < 12 by omega)⟩) (pc' := 41) rfl ?_
          refine Sem.goto (tgt := 2) d9_41 (by decide) ?_
          refine Sem.pick [1, 2, 3, 0] (lv' := [(0, aR 8 0), (1, aR 17 0), (2, aN i), (3, aN (k + 1))]) rfl ?_
          exact ih _ (by omega) (k + 1) (upL L1 17 0 (N 10 0 k) ((L1 17 0 (N 10 0 k)) + ((nI (N 11 0 k)).toInt64))) rfl (by omega) (by rw [hL]; rw [upW_at hW_, upW_ex hW_]; refine upW_cg (fun j _ => ?_); simp only [bat, sm]; by_cases hj : j = N 10 0 k; subst hj; rw [if_pos rfl, if_pos ⟨by omega, rfl⟩, Int64.add_assoc]; rw [if_neg hj, if_neg (by omega)]; simp)
  refine Sem.pick [1, 2, 3, 0] (lv' := [(0, aR 8 0), (1, aR 17 0), (2, aN i), (3, aN 0)]) rfl ?_
  exact lp _ 0 L rfl (by omega) (by rw [upW_cg (g := fun j => L 17 0 j) (fun j _ => by simp [bat, sm])]; exact upW_id.symm)

theorem m9_18 {sc : XT} (N : TN) (L : TL) (i : Nat) (hi : i < 12) (hs : N 8 1 3 ≤ 24) (hI : ∀ k, k < N 8 1 3 → N 9 1 k < 12) (hW : ∀ k, k < N 8 1 3 → N 10 1 k < 12) : Sem sc 9 0 [(0, aR 8 1), (1, aR 18 0), (2, aN i)] [] (wd N L) 0 0 (QP none N (upW L 18 0 12 (fun w => L 18 0 w + bat (N 9 1) (N 10 1) (N 11 1) i w (N 8 1 3)))) := by
  refine Sem.seg [(.iconst 0, 0, 0), (.istore_n 3, 0, 0)] ⟨⟨d9_0, trivial⟩, ⟨d9_1, trivial⟩, trivial⟩ (lv' := [(3, aN 0), (0, aR 8 1), (1, aR 18 0), (2, aN i)]) (st' := []) (w' := wd N L) (P := []) rfl (trivial) (pc' := 2) rfl ?_
  have lp : ∀ (d : Nat) (k : Nat) (L1 : TL), N 8 1 3 - k = d → (k ≤ N 8 1 3) → (L1 = upW L 18 0 12 (fun w => L 18 0 w + bat (N 9 1) (N 10 1) (N 11 1) i w k)) → Sem sc 9 2 [(0, aR 8 1), (1, aR 18 0), (2, aN i), (3, aN k)] [] (wd N L1) 0 0 (QP none N (upW L 18 0 12 (fun w => L 18 0 w + bat (N 9 1) (N 10 1) (N 11 1) i w (N 8 1 3)))) := by
    intro d
    induction d using Nat.strongRecOn with
    | ind d ih =>
      intro k L1 hd hk hL
      refine Sem.seg [(.iload_n 3, 0, 0), (.aload_n 0, 0, 0), (.getfield 21, 1, 3)] ⟨⟨d9_2, trivial⟩, ⟨d9_3, trivial⟩, ⟨d9_4, gf1_21⟩, trivial⟩ (lv' := [(0, aR 8 1), (1, aR 18 0), (2, aN i), (3, aN k)]) (st' := [aN (N 8 1 3), aN k]) (w' := wd N L1) (P := [vld NN 8 1]) rfl (vN (t := 8) (i := 1) (by decide)) (pc' := 7) rfl ?_
      refine Sem.icmpN (tgt := 44) d9_7 (by decide) (show k < 2 ^ 31 by omega) (show N 8 1 3 < 2 ^ 31 by omega) (fun b1 => ?_) (fun b1 => ?_)
      · have b1_ : N 8 1 3 ≤ k := b1
        have hk_ : k = N 8 1 3 := by omega
        subst hk_
        subst hL
        exact Sem.vret d9_44 rfl (by decide) (by decide) hzW ⟨rfl, rfl⟩
      · have b1_ : ¬ (N 8 1 3 ≤ k) := b1
        have hI_ := hI k (by omega)
        have hW_ := hW k (by omega)
        refine Sem.seg [(.aload_n 0, 0, 0), (.getfield 9, 1, 0), (.iload_n 3, 0, 0), (.iaload, 0, 0), (.iload_n 2, 0, 0)] ⟨⟨d9_10, trivial⟩, ⟨d9_11, gf1_9⟩, ⟨d9_14, trivial⟩, ⟨d9_15, trivial⟩, ⟨d9_16, trivial⟩, trivial⟩ (lv' := [(0, aR 8 1), (1, aR 18 0), (2, aN i), (3, aN k)]) (st' := [aN i, aN (N 9 1 k)]) (w' := wd N L1) (P := [vld NN 8 1, vld NN 9 1, k < 24]) rfl (⟨vN (t := 8) (i := 1) (by decide), vN (t := 9) (i := 1) (by decide), (show k < 24 by omega)⟩) (pc' := 17) rfl ?_
        refine Sem.icmpN (tgt := 38) d9_17 (by decide) (show N 9 1 k < 2 ^ 31 by omega) (show i < 2 ^ 31 by omega) (fun b2 => ?_) (fun b2 => ?_)
        · have b2_ : ¬ N 9 1 k = i := b2
          refine Sem.seg [(.iinc 3 1, 0, 0)] ⟨⟨d9_38, trivial⟩, trivial⟩ (lv' := [(3, aN (k + 1)), (0, aR 8 1), (1, aR 18 0), (2, aN i)]) (st' := []) (w' := wd N L1) (P := []) rfl (trivial) (pc' := 41) rfl ?_
          refine Sem.goto (tgt := 2) d9_41 (by decide) ?_
          refine Sem.pick [1, 2, 3, 0] (lv' := [(0, aR 8 1), (1, aR 18 0), (2, aN i), (3, aN (k + 1))]) rfl ?_
          exact ih _ (by omega) (k + 1) L1 rfl (by omega) (by rw [hL]; refine upW_cg (fun j _ => ?_); simp only [bat, sm]; rw [if_neg (by omega)]; simp)
        · have b2_ : ¬ (¬ N 9 1 k = i) := b2
          refine Sem.seg [(.aload_n 1, 0, 0), (.aload_n 0, 0, 0), (.getfield 15, 1, 1), (.iload_n 3, 0, 0), (.iaload, 0, 0), (.dup2, 0, 0), (.laload, 0, 0), (.aload_n 0, 0, 0), (.getfield 18, 1, 2), (.iload_n 3, 0, 0), (.iaload, 0, 0), (.i2l, 0, 0), (.ladd, 0, 0), (.lastore, 0, 0), (.iinc 3 1, 0, 0)] ⟨⟨d9_20, trivial⟩, ⟨d9_21, trivial⟩, ⟨d9_22, gf1_15⟩, ⟨d9_25, trivial⟩, ⟨d9_26, trivial⟩, ⟨d9_27, trivial⟩, ⟨d9_28, trivial⟩, ⟨d9_29, trivial⟩, ⟨d9_30, gf1_18⟩, ⟨d9_33, trivial⟩, ⟨d9_34, trivial⟩, ⟨d9_35, trivial⟩, ⟨d9_36, trivial⟩, ⟨d9_37, trivial⟩, ⟨d9_38, trivial⟩, trivial⟩ (lv' := [(3, aN (k + 1)), (0, aR 8 1), (1, aR 18 0), (2, aN i)]) (st' := []) (w' := wd N (upL L1 18 0 (N 10 1 k) ((L1 18 0 (N 10 1 k)) + ((nI (N 11 1 k)).toInt64)))) (P := [vld NN 8 1, vld NN 10 1, k < 24, vld NN 18 0, N 10 1 k < 12, vld NN 8 1, vld NN 11 1, k < 24, vld NN 18 0, N 10 1 k < 12]) rfl (⟨vN (t := 8) (i := 1) (by decide), vN (t := 10) (i := 1) (by decide), (show k < 24 by omega), vN (t := 18) (i := 0) (by decide), (show N 10 1 k < 12 by omega), vN (t := 8) (i := 1) (by decide), vN (t := 11) (i := 1) (by decide), (show k < 24 by omega), vN (t := 18) (i := 0) (by decide), (show N 10 1 k < 12 by omega)⟩) (pc' := 41) rfl ?_
          refine Sem.goto (tgt := 2) d9_41 (by decide) ?_
          refine Sem.pick [1, 2, 3, 0] (lv' := [(0, aR 8 1), (1, aR 18 0), (2, aN i), (3, aN (k + 1))]) rfl ?_
          exact ih _ (by omega) (k + 1) (upL L1 18 0 (N 10 1 k) ((L1 18 0 (N 10 1 k)) + ((nI (N 11 1 k)).toInt64))) rfl (by omega) (by rw [hL]; rw [upW_at hW_, upW_ex hW_]; refine upW_cg (fun j _ => ?_); simp only [bat, sm]; by_cases hj : j = N 10 1 k; subst hj; rw [if_pos rfl, if_pos ⟨by omega, rfl⟩, Int64.add_assoc]; rw [if_neg hj, if_neg (by omega)]; simp)
  refine Sem.pick [1, 2, 3, 0] (lv' := [(0, aR 8 1), (1, aR 18 0), (2, aN i), (3, aN 0)]) rfl ?_
  exact lp _ 0 L rfl (by omega) (by rw [upW_cg (g := fun j => L 18 0 j) (fun j _ => by simp [bat, sm])]; exact upW_id.symm)
end
section
-- ===== the class: netting =====
theorem m16 {sc : XT} (N : TN) (L : TL) (i : Nat) (hi : i < 12) (hl : N 19 i 2 < 2 ^ 31) : Sem sc 16 0 [(0, aR 12 0), (1, aR 19 i), (2, aR 18 0)] [] (wd N L) 0 0 (QP none N (upW (upW L 13 0 12 (bareF (N 19 i) (L 18 0) (L 20 i))) 14 0 12 (needF (N 19 i) (L 18 0) (L 20 i)))) := by
  refine Sem.seg [(.aload_n 1, 0, 0), (.getfield 49, 2, 7), (.i2l, 0, 0), (.lstore_n 3, 0, 0), (.lconst 0, 0, 0), (.lstore 5, 0, 0), (.iconst 0, 0, 0), (.istore 7, 0, 0)] ⟨⟨d16_0, trivial⟩, ⟨d16_1, gf3_49⟩, ⟨d16_4, trivial⟩, ⟨d16_5, trivial⟩, ⟨d16_6, trivial⟩, ⟨d16_7, trivial⟩, ⟨d16_9, trivial⟩, ⟨d16_10, trivial⟩, trivial⟩ (lv' := [(7, aN 0), (5, aL (Int64.ofNat 0)), (3, aL ((nI (N 19 i 7)).toInt64)), (0, aR 12 0), (1, aR 19 i), (2, aR 18 0)]) (st' := []) (w' := wd N L) (P := [vld NN 19 i]) rfl (vN (t := 19) (i := i) (show i < 12 by omega)) (pc' := 12) rfl ?_
  have lp : ∀ (d : Nat) (w : Nat) (l m : Int64), 12 - w = d → (w ≤ 12) → (l = barA (N 19 i 7) (L 18 0) (L 20 i) w) → (m = mosA (N 19 i) (L 18 0) (L 20 i) w) → Sem sc 16 12 [(0, aR 12 0), (1, aR 19 i), (2, aR 18 0), (3, aL l), (5, aL m), (7, aN w)] [] (wd N (upW (upW L 13 0 w (bareF (N 19 i) (L 18 0) (L 20 i))) 14 0 w (needF (N 19 i) (L 18 0) (L 20 i)))) 0 0 (QP none N (upW (upW L 13 0 12 (bareF (N 19 i) (L 18 0) (L 20 i))) 14 0 12 (needF (N 19 i) (L 18 0) (L 20 i)))) := by
    intro d
    induction d using Nat.strongRecOn with
    | ind d ih =>
      intro w l m hd hw h1 h2
      refine Sem.seg [(.iload 7, 0, 0), (.bipush 12, 0, 0)] ⟨⟨d16_12, trivial⟩, ⟨d16_14, trivial⟩, trivial⟩ (lv' := [(0, aR 12 0), (1, aR 19 i), (2, aR 18 0), (3, aL l), (5, aL m), (7, aN w)]) (st' := [aN 12, aN w]) (w' := wd N (upW (upW L 13 0 w (bareF (N 19 i) (L 18 0) (L 20 i))) 14 0 w (needF (N 19 i) (L 18 0) (L 20 i)))) (P := []) rfl (trivial) (pc' := 16) rfl ?_
      refine Sem.icmpN (tgt := 84) d16_16 (by decide) (show w < 2 ^ 31 by omega) (by decide) (fun b1 => ?_) (fun b1 => ?_)
      · have b1_ : 12 ≤ w := b1
        obtain rfl : w = 12 := by omega
        exact Sem.vret d16_84 rfl (by decide) (by decide) hzW ⟨rfl, rfl⟩
      · have b1_ : ¬ (12 ≤ w) := b1
        refine Sem.seg [(.lload_n 3, 0, 0), (.aload_n 2, 0, 0), (.iload 7, 0, 0), (.laload, 0, 0), (.aload_n 1, 0, 0), (.getfield 52, 2, 11), (.iload 7, 0, 0), (.laload, 0, 0), (.lsub, 0, 0), (.ladd, 0, 0), (.lstore_n 3, 0, 0), (.aload_n 0, 0, 0), (.getfield 9, 3, 0), (.iload 7, 0, 0), (.lload_n 3, 0, 0), (.lastore, 0, 0), (.lload 5, 0, 0), (.aload_n 1, 0, 0), (.getfield 55, 2, 3), (.i2l, 0, 0), (.lload_n 3, 0, 0), (.lsub, 0, 0)] ⟨⟨d16_19, trivial⟩, ⟨d16_20, trivial⟩, ⟨d16_21, trivial⟩, ⟨d16_23, trivial⟩, ⟨d16_24, trivial⟩, ⟨d16_25, gf3_52⟩, ⟨d16_28, trivial⟩, ⟨d16_30, trivial⟩, ⟨d16_31, trivial⟩, ⟨d16_32, trivial⟩, ⟨d16_33, trivial⟩, ⟨d16_34, trivial⟩, ⟨d16_35, gf3_9⟩, ⟨d16_38, trivial⟩, ⟨d16_40, trivial⟩, ⟨d16_41, trivial⟩, ⟨d16_42, trivial⟩, ⟨d16_44, trivial⟩, ⟨d16_45, gf3_55⟩, ⟨d16_48, trivial⟩, ⟨d16_49, trivial⟩, ⟨d16_50, trivial⟩, trivial⟩ (lv' := [(3, aL (l + ((L 18 0 w) - (L 20 i w)))), (0, aR 12 0), (1, aR 19 i), (2, aR 18 0), (5, aL m), (7, aN w)]) (st' := [aL (((nI (N 19 i 3)).toInt64) - (l + ((L 18 0 w) - (L 20 i w)))), aL m]) (w' := wd N (upL (upW (upW L 13 0 w (bareF (N 19 i) (L 18 0) (L 20 i))) 14 0 w (needF (N 19 i) (L 18 0) (L 20 i))) 13 0 w (l + ((L 18 0 w) - (L 20 i w))))) (P := [vld NN 18 0, w < 12, vld NN 19 i, vld NN 20 i, w < 12, vld NN 12 0, vld NN 13 0, w < 12, vld NN 19 i]) rfl (⟨vN (t := 18) (i := 0) (by decide), (show w < 12 by omega), vN (t := 19) (i := i) (show i < 12 by omega), vN (t := 20) (i := i) (show i < 12 by omega), (show w < 12 by omega), vN (t := 12) (i := 0) (by decide), vN (t := 13) (i := 0) (by decide), (show w < 12 by omega), vN (t := 19) (i := i) (show i < 12 by omega)⟩) (pc' := 51) rfl ?_
        refine Sem.maxL d16_51 lk3_58 w_static_LibMathLoosemax_longx inMath w_code_LibMathLoosemax_longx (by decide) (show 0 + 15 ≤ lo 16 by decide) (by decide) (by decide) ?_
        refine Sem.seg [(.lstore 5, 0, 0), (.aload_n 0, 0, 0), (.getfield 15, 3, 1), (.iload 7, 0, 0), (.iload 7, 0, 0), (.aload_n 1, 0, 0), (.getfield 64, 2, 2)] ⟨⟨d16_54, trivial⟩, ⟨d16_56, trivial⟩, ⟨d16_57, gf3_15⟩, ⟨d16_60, trivial⟩, ⟨d16_62, trivial⟩, ⟨d16_64, trivial⟩, ⟨d16_65, gf3_64⟩, trivial⟩ (lv' := [(5, aL (if ((nI (N 19 i 3)).toInt64) - (l + ((L 18 0 w) - (L 20 i w))) < m then m else ((nI (N 19 i 3)).toInt64) - (l + ((L 18 0 w) - (L 20 i w))))), (3, aL (l + ((L 18 0 w) - (L 20 i w)))), (0, aR 12 0), (1, aR 19 i), (2, aR 18 0), (7, aN w)]) (st' := [aN (N 19 i 2), aN w, aN w, aR 14 0]) (w' := wd N (upL (upW (upW L 13 0 w (bareF (N 19 i) (L 18 0) (L 20 i))) 14 0 w (needF (N 19 i) (L 18 0) (L 20 i))) 13 0 w (l + ((L 18 0 w) - (L 20 i w))))) (P := [vld NN 12 0, vld NN 19 i]) rfl (⟨vN (t := 12) (i := 0) (by decide), vN (t := 19) (i := i) (show i < 12 by omega)⟩) (pc' := 68) rfl ?_
        refine Sem.icmpN (tgt := 75) d16_68 (by decide) (show w < 2 ^ 31 by omega) (show N 19 i 2 < 2 ^ 31 by omega) (fun b2 => ?_) (fun b2 => ?_)
        · have b2_ : N 19 i 2 ≤ w := b2
          refine Sem.seg [(.lload 5, 0, 0), (.lastore, 0, 0), (.iinc 7 1, 0, 0)] ⟨⟨d16_75, trivial⟩, ⟨d16_77, trivial⟩, ⟨d16_78, trivial⟩, trivial⟩ (lv' := [(7, aN (w + 1)), (5, aL (if ((nI (N 19 i 3)).toInt64) - (l + ((L 18 0 w) - (L 20 i w))) < m then m else ((nI (N 19 i 3)).toInt64) - (l + ((L 18 0 w) - (L 20 i w))))), (3, aL (l + ((L 18 0 w) - (L 20 i w)))), (0, aR 12 0), (1, aR 19 i), (2, aR 18 0)]) (st' := []) (w' := wd N (upL (upL (upW (upW L 13 0 w (bareF (N 19 i) (L 18 0) (L 20 i))) 14 0 w (needF (N 19 i) (L 18 0) (L 20 i))) 13 0 w (l + ((L 18 0 w) - (L 20 i w)))) 14 0 w (if ((nI (N 19 i 3)).toInt64) - (l + ((L 18 0 w) - (L 20 i w))) < m then m else ((nI (N 19 i 3)).toInt64) - (l + ((L 18 0 w) - (L 20 i w)))))) (P := [vld NN 14 0, w < 12]) rfl (⟨vN (t := 14) (i := 0) (by decide), (show w < 12 by omega)⟩) (pc' := 81) rfl ?_
          refine Sem.goto (tgt := 12) d16_81 (by decide) ?_
          refine Sem.pick [3, 4, 5, 2, 1, 0] (lv' := [(0, aR 12 0), (1, aR 19 i), (2, aR 18 0), (3, aL (l + ((L 18 0 w) - (L 20 i w)))), (5, aL (if ((nI (N 19 i 3)).toInt64) - (l + ((L 18 0 w) - (L 20 i w))) < m then m else ((nI (N 19 i 3)).toInt64) - (l + ((L 18 0 w) - (L 20 i w))))), (7, aN (w + 1))]) rfl ?_
          refine Sem.weq (congrArg (fun z => wd N z) (show upL (upL (upW (upW L 13 0 w (bareF (N 19 i) (L 18 0) (L 20 i))) 14 0 w (needF (N 19 i) (L 18 0) (L 20 i))) 13 0 w (l + ((L 18 0 w) - (L 20 i w)))) 14 0 w (if ((nI (N 19 i 3)).toInt64) - (l + ((L 18 0 w) - (L 20 i w))) < m then m else ((nI (N 19 i 3)).toInt64) - (l + ((L 18 0 w) - (L 20 i w)))) = upW (upW L 13 0 (w + 1) (bareF (N 19 i) (L 18 0) (L 20 i))) 14 0 (w + 1) (needF (N 19 i) (L 18 0) (L 20 i)) from upW_s2 (by decide) (by rw [h1]; rfl) (by rw [needF_ge (by omega), h1, h2]; rfl))) ?_
          exact ih _ (by omega) (w + 1) (l + ((L 18 0 w) - (L 20 i w))) (if ((nI (N 19 i 3)).toInt64) - (l + ((L 18 0 w) - (L 20 i w))) < m then m else ((nI (N 19 i 3)).toInt64) - (l + ((L 18 0 w) - (L 20 i w)))) rfl (by omega) (by rw [h1]; rfl) (by rw [h1, h2]; rfl)
        · have b2_ : ¬ (N 19 i 2 ≤ w) := b2
          refine Sem.seg [(.lconst 0, 0, 0)] ⟨⟨d16_71, trivial⟩, trivial⟩ (lv' := [(5, aL (if ((nI (N 19 i 3)).toInt64) - (l + ((L 18 0 w) - (L 20 i w))) < m then m else ((nI (N 19 i 3)).toInt64) - (l + ((L 18 0 w) - (L 20 i w))))), (3, aL (l + ((L 18 0 w) - (L 20 i w)))), (0, aR 12 0), (1, aR 19 i), (2, aR 18 0), (7, aN w)]) (st' := [aL (Int64.ofNat 0), aN w, aR 14 0]) (w' := wd N (upL (upW (upW L 13 0 w (bareF (N 19 i) (L 18 0) (L 20 i))) 14 0 w (needF (N 19 i) (L 18 0) (L 20 i))) 13 0 w (l + ((L 18 0 w) - (L 20 i w))))) (P := []) rfl (trivial) (pc' := 72) rfl ?_
          refine Sem.goto (tgt := 77) d16_72 (by decide) ?_
          refine Sem.seg [(.lastore, 0, 0), (.iinc 7 1, 0, 0)] ⟨⟨d16_77, trivial⟩, ⟨d16_78, trivial⟩, trivial⟩ (lv' := [(7, aN (w + 1)), (5, aL (if ((nI (N 19 i 3)).toInt64) - (l + ((L 18 0 w) - (L 20 i w))) < m then m else ((nI (N 19 i 3)).toInt64) - (l + ((L 18 0 w) - (L 20 i w))))), (3, aL (l + ((L 18 0 w) - (L 20 i w)))), (0, aR 12 0), (1, aR 19 i), (2, aR 18 0)]) (st' := []) (w' := wd N (upL (upL (upW (upW L 13 0 w (bareF (N 19 i) (L 18 0) (L 20 i))) 14 0 w (needF (N 19 i) (L 18 0) (L 20 i))) 13 0 w (l + ((L 18 0 w) - (L 20 i w)))) 14 0 w (Int64.ofNat 0))) (P := [vld NN 14 0, w < 12]) rfl (⟨vN (t := 14) (i := 0) (by decide), (show w < 12 by omega)⟩) (pc' := 81) rfl ?_
          refine Sem.goto (tgt := 12) d16_81 (by decide) ?_
          refine Sem.pick [3, 4, 5, 2, 1, 0] (lv' := [(0, aR 12 0), (1, aR 19 i), (2, aR 18 0), (3, aL (l + ((L 18 0 w) - (L 20 i w)))), (5, aL (if ((nI (N 19 i 3)).toInt64) - (l + ((L 18 0 w) - (L 20 i w))) < m then m else ((nI (N 19 i 3)).toInt64) - (l + ((L 18 0 w) - (L 20 i w))))), (7, aN (w + 1))]) rfl ?_
          refine Sem.weq (congrArg (fun z => wd N z) (show upL (upL (upW (upW L 13 0 w (bareF (N 19 i) (L 18 0) (L 20 i))) 14 0 w (needF (N 19 i) (L 18 0) (L 20 i))) 13 0 w (l + ((L 18 0 w) - (L 20 i w)))) 14 0 w (Int64.ofNat 0) = upW (upW L 13 0 (w + 1) (bareF (N 19 i) (L 18 0) (L 20 i))) 14 0 (w + 1) (needF (N 19 i) (L 18 0) (L 20 i)) from upW_s2 (by decide) (by rw [h1]; rfl) (by rw [needF_lt (by omega)]; rfl))) ?_
          exact ih _ (by omega) (w + 1) (l + ((L 18 0 w) - (L 20 i w))) (if ((nI (N 19 i 3)).toInt64) - (l + ((L 18 0 w) - (L 20 i w))) < m then m else ((nI (N 19 i 3)).toInt64) - (l + ((L 18 0 w) - (L 20 i w)))) rfl (by omega) (by rw [h1]; rfl) (by rw [h1, h2]; rfl)
  refine Sem.pick [3, 4, 5, 2, 1, 0] (lv' := [(0, aR 12 0), (1, aR 19 i), (2, aR 18 0), (3, aL ((nI (N 19 i 7)).toInt64)), (5, aL (Int64.ofNat 0)), (7, aN 0)]) rfl ?_
  refine Sem.weq (congrArg (fun z => wd N z) (show L = upW (upW L 13 0 0 (bareF (N 19 i) (L 18 0) (L 20 i))) 14 0 0 (needF (N 19 i) (L 18 0) (L 20 i)) from by rw [upW_0, upW_0])) ?_
  exact lp _ 0 ((nI (N 19 i 7)).toInt64) (Int64.ofNat 0) rfl (by omega) (rfl) (rfl)

theorem m19 {sc : XT} (N : TN) (L : TL) (i w : Nat) (hi : i < 12) (hw : w < 12) : Sem sc 19 0 [(0, aR 12 0), (1, aR 19 i), (2, aN w)] [] (wd N L) 0 0 (QP none (upN N 16 0 w (pk (N 19 i) (L 14 0) (L 15 0) w (12 - w)).2) (upL L 15 0 w (pk (N 19 i) (L 14 0) (L 15 0) w (12 - w)).1)) := by
  refine Sem.seg [(.lconst 0, 0, 0), (.lstore_n 3, 0, 0), (.iload_n 2, 0, 0), (.istore 5, 0, 0)] ⟨⟨d19_0, trivial⟩, ⟨d19_1, trivial⟩, ⟨d19_2, trivial⟩, ⟨d19_3, trivial⟩, trivial⟩ (lv' := [(5, aN w), (3, aL (Int64.ofNat 0)), (0, aR 12 0), (1, aR 19 i), (2, aN w)]) (st' := []) (w' := wd N L) (P := []) rfl (trivial) (pc' := 5) rfl ?_
  have lp : ∀ (d : Nat) (j n : Nat) (a : Int64) (N1 : TN) (L1 : TL), 12 - j = d → (j = w + n) → (j ≤ 12) → (a = wai (L 14 0) w n) → (N1 = if n = 0 then N else upN N 16 0 w (pk (N 19 i) (L 14 0) (L 15 0) w n).2) → (L1 = if n = 0 then L else upL L 15 0 w (pk (N 19 i) (L 14 0) (L 15 0) w n).1) → Sem sc 19 5 [(0, aR 12 0), (1, aR 19 i), (2, aN w), (3, aL a), (5, aN j)] [] (wd N1 L1) 0 0 (QP none (upN N 16 0 w (pk (N 19 i) (L 14 0) (L 15 0) w (12 - w)).2) (upL L 15 0 w (pk (N 19 i) (L 14 0) (L 15 0) w (12 - w)).1)) := by
    intro d
    induction d using Nat.strongRecOn with
    | ind d ih =>
      intro j n a N1 L1 hd hj hj2 ha hN hL
      refine Sem.seg [(.iload 5, 0, 0), (.bipush 12, 0, 0)] ⟨⟨d19_5, trivial⟩, ⟨d19_7, trivial⟩, trivial⟩ (lv' := [(0, aR 12 0), (1, aR 19 i), (2, aN w), (3, aL a), (5, aN j)]) (st' := [aN 12, aN j]) (w' := wd N1 L1) (P := []) rfl (trivial) (pc' := 9) rfl ?_
      refine Sem.icmpN (tgt := 100) d19_9 (by decide) (show j < 2 ^ 31 by omega) (by decide) (fun b1 => ?_) (fun b1 => ?_)
      · have b1_ : 12 ≤ j := b1
        obtain rfl : n = 12 - w := by omega
        rw [if_neg (by omega)] at hN hL
        subst hN hL
        exact Sem.vret d19_100 rfl (by decide) (by decide) hzW ⟨rfl, rfl⟩
      · have b1_ : ¬ (12 ≤ j) := b1
        have e14 : ∀ q, L1 14 0 q = L 14 0 q := fun q => by rw [hL]; split <;> first | rfl | exact upL_ne (by omega)
        have e15 : L1 15 0 (j + 1) = L 15 0 (j + 1) := by rw [hL]; split <;> first | rfl | exact upL_ne (by omega)
        have e19 : ∀ f, N1 19 i f = N 19 i f := fun f => by rw [hN]; split <;> first | rfl | exact upN_ne (by omega)
        have hq : (if j < 1 then 0 else L1 14 0 (j - 1)) = prv (L 14 0) j := by simp only [prv, e14]
        refine Sem.seg [(.lload_n 3, 0, 0), (.iload 5, 0, 0), (.iload_n 2, 0, 0), (.isub, 0, 0)] ⟨⟨d19_12, trivial⟩, ⟨d19_13, trivial⟩, ⟨d19_15, trivial⟩, ⟨d19_16, trivial⟩, trivial⟩ (lv' := [(0, aR 12 0), (1, aR 19 i), (2, aN w), (3, aL a), (5, aN j)]) (st' := [aI ((nI j) - (nI w)), aL a]) (w' := wd N1 L1) (P := []) rfl (trivial) (pc' := 17) rfl ?_
        refine Sem.topN (show (nI j) - (nI w) = nI n from by rw [hj, nI_sub (by omega)]; congr 1; omega) ?_
        refine Sem.seg [(.i2l, 0, 0), (.aload_n 0, 0, 0), (.getfield 15, 3, 1), (.iload 5, 0, 0), (.laload, 0, 0), (.aload_n 0, 0, 0), (.iload 5, 0, 0)] ⟨⟨d19_17, trivial⟩, ⟨d19_18, trivial⟩, ⟨d19_19, gf3_15⟩, ⟨d19_22, trivial⟩, ⟨d19_24, trivial⟩, ⟨d19_25, trivial⟩, ⟨d19_26, trivial⟩, trivial⟩ (lv' := [(0, aR 12 0), (1, aR 19 i), (2, aN w), (3, aL a), (5, aN j)]) (st' := [aN j, aR 12 0, aL (L1 14 0 j), aL ((nI n).toInt64), aL a]) (w' := wd N1 L1) (P := [vld NN 12 0, vld NN 14 0, j < 12]) rfl (⟨vN (t := 12) (i := 0) (by decide), vN (t := 14) (i := 0) (by decide), (show j < 12 by omega)⟩) (pc' := 28) rfl ?_
        refine Sem.cVp1 (t := 12) (i := 0) (as := [aN j]) (rst := [aL (L1 14 0 j), aL ((nI n).toInt64), aL a]) (c' := 0) (s' := 0) d19_28 mk18 rfl co18 lk3_78 im18 se18 rfl (vN (t := 12) (i := 0) (by decide)) (show 2 ≤ mL 18 by decide) rfl (show 6 ≤ 8 by decide) (by decide) (by decide) rfl rfl (by decide) (by decide) (m18 N1 L1 j (by omega)) ?_
        refine Sem.seg [(.lsub, 0, 0), (.lmul, 0, 0), (.ladd, 0, 0)] ⟨⟨d19_31, trivial⟩, ⟨d19_32, trivial⟩, ⟨d19_33, trivial⟩, trivial⟩ (lv' := [(0, aR 12 0), (1, aR 19 i), (2, aN w), (3, aL a), (5, aN j)]) (st' := [aL (a + (((nI n).toInt64) * ((L1 14 0 j) - (if j < 1 then 0 else L1 14 0 (j - 1)))))]) (w' := wd N1 L1) (P := []) rfl (trivial) (pc' := 34) rfl ?_
        refine Sem.topLL (show a + (((nI n).toInt64) * ((L1 14 0 j) - (if j < 1 then 0 else L1 14 0 (j - 1)))) = wai (L 14 0) w (n + 1) from by rw [ha, e14, hq, hj]; rfl) ?_
        refine Sem.seg [(.lstore_n 3, 0, 0), (.aload_n 1, 0, 0), (.getfield 86, 2, 5), (.i2l, 0, 0), (.aload_n 1, 0, 0), (.getfield 89, 2, 6), (.i2l, 0, 0), (.lload_n 3, 0, 0), (.lmul, 0, 0), (.ladd, 0, 0), (.aload_n 0, 0, 0), (.getfield 18, 3, 2), (.iload 5, 0, 0), (.iconst 1, 0, 0), (.iadd, 0, 0), (.laload, 0, 0), (.ladd, 0, 0)] ⟨⟨d19_34, trivial⟩, ⟨d19_35, trivial⟩, ⟨d19_36, gf3_86⟩, ⟨d19_39, trivial⟩, ⟨d19_40, trivial⟩, ⟨d19_41, gf3_89⟩, ⟨d19_44, trivial⟩, ⟨d19_45, trivial⟩, ⟨d19_46, trivial⟩, ⟨d19_47, trivial⟩, ⟨d19_48, trivial⟩, ⟨d19_49, gf3_18⟩, ⟨d19_52, trivial⟩, ⟨d19_54, trivial⟩, ⟨d19_55, trivial⟩, ⟨d19_56, trivial⟩, ⟨d19_57, trivial⟩, trivial⟩ (lv' := [(3, aL (wai (L 14 0) w (n + 1))), (0, aR 12 0), (1, aR 19 i), (2, aN w), (5, aN j)]) (st' := [aL ((((nI (N1 19 i 5)).toInt64) + (((nI (N1 19 i 6)).toInt64) * (wai (L 14 0) w (n + 1)))) + (L1 15 0 (j + 1)))]) (w' := wd N1 L1) (P := [vld NN 19 i, vld NN 19 i, vld NN 12 0, vld NN 15 0, j + 1 < 13]) rfl (⟨vN (t := 19) (i := i) (show i < 12 by omega), vN (t := 19) (i := i) (show i < 12 by omega), vN (t := 12) (i := 0) (by decide), vN (t := 15) (i := 0) (by decide), (show j + 1 < 13 by omega)⟩) (pc' := 58) rfl ?_
        refine Sem.topLL (show (((nI (N1 19 i 5)).toInt64) + (((nI (N1 19 i 6)).toInt64) * (wai (L 14 0) w (n + 1)))) + (L1 15 0 (j + 1)) = cs (N 19 i) (L 14 0) w n + L 15 0 (w + n + 1) from by rw [e19, e19, e15, hj]; rfl) ?_
        refine Sem.seg [(.lstore 6, 0, 0), (.iload 5, 0, 0), (.iload_n 2, 0, 0)] ⟨⟨d19_58, trivial⟩, ⟨d19_60, trivial⟩, ⟨d19_62, trivial⟩, trivial⟩ (lv' := [(6, aL (cs (N 19 i) (L 14 0) w n + L 15 0 (w + n + 1))), (3, aL (wai (L 14 0) w (n + 1))), (0, aR 12 0), (1, aR 19 i), (2, aN w), (5, aN j)]) (st' := [aN w, aN j]) (w' := wd N1 L1) (P := []) rfl (trivial) (pc' := 63) rfl ?_
        refine Sem.icmpN (tgt := 78) d19_63 (by decide) (show j < 2 ^ 31 by omega) (show w < 2 ^ 31 by omega) (fun b2 => ?_) (fun b2 => ?_)
        · have b2_ : j = w := b2
          have hup : n = 0 ∨ cs (N 19 i) (L 14 0) w n + L 15 0 (w + n + 1) < (pk (N 19 i) (L 14 0) (L 15 0) w n).1 := by first | exact Or.inl (by omega) | exact Or.inr (Int64.not_le.mp (by assumption))
          refine Sem.seg [(.aload_n 0, 0, 0), (.getfield 18, 3, 2), (.iload_n 2, 0, 0), (.lload 6, 0, 0), (.lastore, 0, 0), (.aload_n 0, 0, 0), (.getfield 21, 3, 3), (.iload_n 2, 0, 0), (.iload 5, 0, 0), (.iastore, 0, 0)] ⟨⟨d19_78, trivial⟩, ⟨d19_79, gf3_18⟩, ⟨d19_82, trivial⟩, ⟨d19_83, trivial⟩, ⟨d19_85, trivial⟩, ⟨d19_86, trivial⟩, ⟨d19_87, gf3_21⟩, ⟨d19_90, trivial⟩, ⟨d19_91, trivial⟩, ⟨d19_93, trivial⟩, trivial⟩ (lv' := [(6, aL (cs (N 19 i) (L 14 0) w n + L 15 0 (w + n + 1))), (3, aL (wai (L 14 0) w (n + 1))), (0, aR 12 0), (1, aR 19 i), (2, aN w), (5, aN j)]) (st' := []) (w' := wd (upN N1 16 0 w j) (upL L1 15 0 w (cs (N 19 i) (L 14 0) w n + L 15 0 (w + n + 1)))) (P := [vld NN 12 0, vld NN 15 0, w < 13, vld NN 12 0, vld NN 16 0, w < 12]) rfl (⟨vN (t := 12) (i := 0) (by decide), vN (t := 15) (i := 0) (by decide), (show w < 13 by omega), vN (t := 12) (i := 0) (by decide), vN (t := 16) (i := 0) (by decide), (show w < 12 by omega)⟩) (pc' := 94) rfl ?_
          
          refine Sem.seg [(.iinc 5 1, 0, 0)] ⟨⟨d19_94, trivial⟩, trivial⟩ (lv' := [(5, aN (j + 1)), (6, aL (cs (N 19 i) (L 14 0) w n + L 15 0 (w + n + 1))), (3, aL (wai (L 14 0) w (n + 1))), (0, aR 12 0), (1, aR 19 i), (2, aN w)]) (st' := []) (w' := wd (upN N1 16 0 w j) (upL L1 15 0 w (cs (N 19 i) (L 14 0) w n + L 15 0 (w + n + 1)))) (P := []) rfl (trivial) (pc' := 97) rfl ?_
          refine Sem.goto (tgt := 5) d19_97 (by decide) ?_
          refine Sem.pick [3, 4, 5, 2, 0] (lv' := [(0, aR 12 0), (1, aR 19 i), (2, aN w), (3, aL (wai (L 14 0) w (n + 1))), (5, aN (j + 1))]) rfl ?_
          exact ih _ (by omega) (j + 1) (n + 1) (wai (L 14 0) w (n + 1)) (upN N1 16 0 w j) (upL L1 15 0 w (cs (N 19 i) (L 14 0) w n + L 15 0 (w + n + 1))) rfl (by omega) (by omega) (rfl) (by rw [if_neg (by omega), hN]; simp only [pk]; rw [if_pos hup]; show _ = upN N 16 0 w (w + n); rw [← hj]; split <;> first | rfl | exact upN_2) (by rw [if_neg (by omega), hL]; simp only [pk]; rw [if_pos hup]; split <;> first | rfl | exact upL_2)
        · have b2_ : ¬ (j = w) := b2
          refine Sem.seg [(.lload 6, 0, 0), (.aload_n 0, 0, 0), (.getfield 18, 3, 2), (.iload_n 2, 0, 0), (.laload, 0, 0)] ⟨⟨d19_66, trivial⟩, ⟨d19_68, trivial⟩, ⟨d19_69, gf3_18⟩, ⟨d19_72, trivial⟩, ⟨d19_73, trivial⟩, trivial⟩ (lv' := [(6, aL (cs (N 19 i) (L 14 0) w n + L 15 0 (w + n + 1))), (3, aL (wai (L 14 0) w (n + 1))), (0, aR 12 0), (1, aR 19 i), (2, aN w), (5, aN j)]) (st' := [aL (L1 15 0 w), aL (cs (N 19 i) (L 14 0) w n + L 15 0 (w + n + 1))]) (w' := wd N1 L1) (P := [vld NN 12 0, vld NN 15 0, w < 13]) rfl (⟨vN (t := 12) (i := 0) (by decide), vN (t := 15) (i := 0) (by decide), (show w < 13 by omega)⟩) (pc' := 74) rfl ?_
          refine Sem.topLL (show L1 15 0 w = (pk (N 19 i) (L 14 0) (L 15 0) w n).1 from by rw [hL, if_neg (by omega)]; exact upL_at) ?_
          refine Sem.lcmp (tgt := 94) d19_74 d19_75 (by decide) (fun b3 => ?_) (fun b3 => ?_)
          · have b3_ : (pk (N 19 i) (L 14 0) (L 15 0) w n).1 ≤ cs (N 19 i) (L 14 0) w n + L 15 0 (w + n + 1) := b3
            have hno : ¬ (n = 0 ∨ cs (N 19 i) (L 14 0) w n + L 15 0 (w + n + 1) < (pk (N 19 i) (L 14 0) (L 15 0) w n).1) := by
              rintro (q | q)
              · omega
              · exact Int64.not_lt.mpr (by assumption) q
            refine Sem.seg [(.iinc 5 1, 0, 0)] ⟨⟨d19_94, trivial⟩, trivial⟩ (lv' := [(5, aN (j + 1)), (6, aL (cs (N 19 i) (L 14 0) w n + L 15 0 (w + n + 1))), (3, aL (wai (L 14 0) w (n + 1))), (0, aR 12 0), (1, aR 19 i), (2, aN w)]) (st' := []) (w' := wd N1 L1) (P := []) rfl (trivial) (pc' := 97) rfl ?_
            refine Sem.goto (tgt := 5) d19_97 (by decide) ?_
            refine Sem.pick [3, 4, 5, 2, 0] (lv' := [(0, aR 12 0), (1, aR 19 i), (2, aN w), (3, aL (wai (L 14 0) w (n + 1))), (5, aN (j + 1))]) rfl ?_
            exact ih _ (by omega) (j + 1) (n + 1) (wai (L 14 0) w (n + 1)) N1 L1 rfl (by omega) (by omega) (rfl) (by rw [if_neg (by omega), hN, if_neg (by omega)]; simp only [pk]; rw [if_neg hno]) (by rw [if_neg (by omega), hL, if_neg (by omega)]; simp only [pk]; rw [if_neg hno])
          · have b3_ : ¬ ((pk (N 19 i) (L 14 0) (L 15 0) w n).1 ≤ cs (N 19 i) (L 14 0) w n + L 15 0 (w + n + 1)) := b3
            have hup : n = 0 ∨ cs (N 19 i) (L 14 0) w n + L 15 0 (w + n + 1) < (pk (N 19 i) (L 14 0) (L 15 0) w n).1 := by first | exact Or.inl (by omega) | exact Or.inr (Int64.not_le.mp (by assumption))
            refine Sem.seg [(.aload_n 0, 0, 0), (.getfield 18, 3, 2), (.iload_n 2, 0, 0), (.lload 6, 0, 0), (.lastore, 0, 0), (.aload_n 0, 0, 0), (.getfield 21, 3, 3), (.iload_n 2, 0, 0), (.iload 5, 0, 0), (.iastore, 0, 0)] ⟨⟨d19_78, trivial⟩, ⟨d19_79, gf3_18⟩, ⟨d19_82, trivial⟩, ⟨d19_83, trivial⟩, ⟨d19_85, trivial⟩, ⟨d19_86, trivial⟩, ⟨d19_87, gf3_21⟩, ⟨d19_90, trivial⟩, ⟨d19_91, trivial⟩, ⟨d19_93, trivial⟩, trivial⟩ (lv' := [(6, aL (cs (N 19 i) (L 14 0) w n + L 15 0 (w + n + 1))), (3, aL (wai (L 14 0) w (n + 1))), (0, aR 12 0), (1, aR 19 i), (2, aN w), (5, aN j)]) (st' := []) (w' := wd (upN N1 16 0 w j) (upL L1 15 0 w (cs (N 19 i) (L 14 0) w n + L 15 0 (w + n + 1)))) (P := [vld NN 12 0, vld NN 15 0, w < 13, vld NN 12 0, vld NN 16 0, w < 12]) rfl (⟨vN (t := 12) (i := 0) (by decide), vN (t := 15) (i := 0) (by decide), (show w < 13 by omega), vN (t := 12) (i := 0) (by decide), vN (t := 16) (i := 0) (by decide), (show w < 12 by omega)⟩) (pc' := 94) rfl ?_
            
            refine Sem.seg [(.iinc 5 1, 0, 0)] ⟨⟨d19_94, trivial⟩, trivial⟩ (lv' := [(5, aN (j + 1)), (6, aL (cs (N 19 i) (L 14 0) w n + L 15 0 (w + n + 1))), (3, aL (wai (L 14 0) w (n + 1))), (0, aR 12 0), (1, aR 19 i), (2, aN w)]) (st' := []) (w' := wd (upN N1 16 0 w j) (upL L1 15 0 w (cs (N 19 i) (L 14 0) w n + L 15 0 (w + n + 1)))) (P := []) rfl (trivial) (pc' := 97) rfl ?_
            refine Sem.goto (tgt := 5) d19_97 (by decide) ?_
            refine Sem.pick [3, 4, 5, 2, 0] (lv' := [(0, aR 12 0), (1, aR 19 i), (2, aN w), (3, aL (wai (L 14 0) w (n + 1))), (5, aN (j + 1))]) rfl ?_
            exact ih _ (by omega) (j + 1) (n + 1) (wai (L 14 0) w (n + 1)) (upN N1 16 0 w j) (upL L1 15 0 w (cs (N 19 i) (L 14 0) w n + L 15 0 (w + n + 1))) rfl (by omega) (by omega) (rfl) (by rw [if_neg (by omega), hN]; simp only [pk]; rw [if_pos hup]; show _ = upN N 16 0 w (w + n); rw [← hj]; split <;> first | rfl | exact upN_2) (by rw [if_neg (by omega), hL]; simp only [pk]; rw [if_pos hup]; split <;> first | rfl | exact upL_2)
  refine Sem.pick [2, 3, 4, 1, 0] (lv' := [(0, aR 12 0), (1, aR 19 i), (2, aN w), (3, aL (Int64.ofNat 0)), (5, aN w)]) rfl ?_
  exact lp _ w 0 (Int64.ofNat 0) N L rfl (rfl) (by omega) (rfl) (rfl) (rfl)

theorem m17 {sc : XT} (N : TN) (L : TL) (i : Nat) (hi : i < 12) : Sem sc 17 0 [(0, aR 12 0), (1, aR 19 i)] [] (wd N L) 0 0 (Q0 fun N' L' => (∀ t a b, t ≠ 16 → N' t a b = N t a b) ∧ (∀ t a b, t ≠ 15 → L' t a b = L t a b) ∧ ∀ q, q < 12 → ¬ L 14 0 q = prv (L 14 0) q → N' 16 0 q = lastF (N 19 i) (L 14 0) q) := by
  refine Sem.seg [(.aload_n 0, 0, 0), (.getfield 18, 3, 2), (.bipush 12, 0, 0), (.lconst 0, 0, 0), (.lastore, 0, 0), (.bipush 11, 0, 0), (.istore_n 2, 0, 0)] ⟨⟨d17_0, trivial⟩, ⟨d17_1, gf3_18⟩, ⟨d17_4, trivial⟩, ⟨d17_6, trivial⟩, ⟨d17_7, trivial⟩, ⟨d17_8, trivial⟩, ⟨d17_10, trivial⟩, trivial⟩ (lv' := [(2, aN 11), (0, aR 12 0), (1, aR 19 i)]) (st' := []) (w' := wd N (upL L 15 0 12 (Int64.ofNat 0))) (P := [vld NN 12 0, vld NN 15 0, 12 < 13]) rfl (⟨vN (t := 12) (i := 0) (by decide), vN (t := 15) (i := 0) (by decide), (by decide : (12 : Nat) < 13)⟩) (pc' := 11) rfl ?_
  have lp : ∀ (d : Nat) (m : Nat) (x : Int32) (N1 : TN) (L1 : TL), m = d → (m ≤ 12) → (x.toInt = (m : Int) - 1) → (∀ t a b, t ≠ 16 → N1 t a b = N t a b) → (∀ t a b, t ≠ 15 → L1 t a b = L t a b) → (∀ q, m ≤ q → q ≤ 12 → L1 15 0 q = bestF (N 19 i) (L 14 0) q) → (∀ q, m ≤ q → q < 12 → ¬ L 14 0 q = prv (L 14 0) q → N1 16 0 q = lastF (N 19 i) (L 14 0) q) → Sem sc 17 11 [(0, aR 12 0), (1, aR 19 i), (2, aI x)] [] (wd N1 L1) 0 0 (Q0 fun N' L' => (∀ t a b, t ≠ 16 → N' t a b = N t a b) ∧ (∀ t a b, t ≠ 15 → L' t a b = L t a b) ∧ ∀ q, q < 12 → ¬ L 14 0 q = prv (L 14 0) q → N' 16 0 q = lastF (N 19 i) (L 14 0) q) := by
    intro d
    induction d using Nat.strongRecOn with
    | ind d ih =>
      intro m x N1 L1 hd hm hx fN fL hb hl
      refine Sem.seg [(.iload_n 2, 0, 0)] ⟨⟨d17_11, trivial⟩, trivial⟩ (lv' := [(0, aR 12 0), (1, aR 19 i), (2, aI x)]) (st' := [aI x]) (w' := wd N1 L1) (P := []) rfl (trivial) (pc' := 12) rfl ?_
      refine Sem.ifc (tgt := 59) d17_12 (by decide) rfl (fun b1 => ?_) (fun b1 => ?_)
      · have b1_ : x.toInt < 0 := bT rfl rfl b1
        exact Sem.vret d17_59 rfl (by decide) (by decide) hzW ⟨rfl, _, _, rfl, by exact ⟨fN, fL, fun q h1 h2 => hl q (by omega) h1 h2⟩⟩
      · have b1_ : ¬ (x.toInt < 0) := bF rfl rfl b1
        have e19 : N1 19 i = N 19 i := funext fun f => fN 19 i f (by decide)
        have e14 : L1 14 0 = L 14 0 := funext fun f => fL 14 0 f (by decide)
        have hpk : pk (N1 19 i) (L1 14 0) (L1 15 0) (m - 1) (12 - (m - 1)) = pk (N 19 i) (L 14 0) (bestF (N 19 i) (L 14 0)) (m - 1) (12 - (m - 1)) := by
          rw [e19, e14]; exact pk_cg (fun q h1 h2 => hb q (by omega) (by omega))
        have hpv : (if m - 1 < 1 then 0 else L1 14 0 (m - 1 - 1)) = prv (L 14 0) (m - 1) := by rw [e14]; rfl
        refine Sem.pick [2, 0, 1] (lv' := [(2, aI x), (0, aR 12 0), (1, aR 19 i)]) rfl ?_
        refine Sem.loc0 (show x = nI (m - 1) from i_nI (by omega)) ?_
        refine Sem.seg [(.aload_n 0, 0, 0), (.getfield 15, 3, 1), (.iload_n 2, 0, 0), (.laload, 0, 0), (.aload_n 0, 0, 0), (.iload_n 2, 0, 0)] ⟨⟨d17_15, trivial⟩, ⟨d17_16, gf3_15⟩, ⟨d17_19, trivial⟩, ⟨d17_20, trivial⟩, ⟨d17_21, trivial⟩, ⟨d17_22, trivial⟩, trivial⟩ (lv' := [(2, aN (m - 1)), (0, aR 12 0), (1, aR 19 i)]) (st' := [aN (m - 1), aR 12 0, aL (L1 14 0 (m - 1))]) (w' := wd N1 L1) (P := [vld NN 12 0, vld NN 14 0, m - 1 < 12]) rfl (⟨vN (t := 12) (i := 0) (by decide), vN (t := 14) (i := 0) (by decide), (show m - 1 < 12 by omega)⟩) (pc' := 23) rfl ?_
        refine Sem.cVp1 (t := 12) (i := 0) (as := [aN (m - 1)]) (rst := [aL (L1 14 0 (m - 1))]) (c' := 0) (s' := 0) d17_23 mk18 rfl co18 lk3_78 im18 se18 rfl (vN (t := 12) (i := 0) (by decide)) (show 2 ≤ mL 18 by decide) rfl (show 2 ≤ 8 by decide) (by decide) (by decide) rfl rfl (by decide) (by decide) (m18 N1 L1 (m - 1) (by omega)) ?_
        refine Sem.lcmp (tgt := 47) d17_26 d17_27 (by decide) (fun b2 => ?_) (fun b2 => ?_)
        · have b2_ : ¬ L1 14 0 (m - 1) = if m - 1 < 1 then 0 else L1 14 0 (m - 1 - 1) := b2
          have hE : ¬ L 14 0 (m - 1) = prv (L 14 0) (m - 1) := by rw [← hpv, ← e14]; assumption
          refine Sem.seg [(.aload_n 0, 0, 0), (.aload_n 1, 0, 0), (.iload_n 2, 0, 0)] ⟨⟨d17_47, trivial⟩, ⟨d17_48, trivial⟩, ⟨d17_49, trivial⟩, trivial⟩ (lv' := [(2, aN (m - 1)), (0, aR 12 0), (1, aR 19 i)]) (st' := [aN (m - 1), aR 19 i, aR 12 0]) (w' := wd N1 L1) (P := []) rfl (trivial) (pc' := 50) rfl ?_
          refine Sem.cVp0 (t := 12) (i := 0) (as := [aR 19 i, aN (m - 1)]) (rst := []) (c' := 0) (s' := 0) d17_50 mk19 rfl co19 lk3_82 im19 se19 rfl (vN (t := 12) (i := 0) (by decide)) (show 3 ≤ mL 19 by decide) rfl (show 0 ≤ 8 by decide) (by decide) (by decide) rfl rfl (by decide) (by decide) (m19 N1 L1 i (m - 1) hi (by omega)) ?_
          refine Sem.seg [(.iinc 2 (-1), 0, 0)] ⟨⟨d17_53, trivial⟩, trivial⟩ (lv' := [(2, aI (nI (m - 1) + Int32.ofInt (-1))), (0, aR 12 0), (1, aR 19 i)]) (st' := []) (w' := wd (upN N1 16 0 (m - 1) ((pk (N1 19 i) (L1 14 0) (L1 15 0) (m - 1) (12 - (m - 1))).2)) (upL L1 15 0 (m - 1) ((pk (N1 19 i) (L1 14 0) (L1 15 0) (m - 1) (12 - (m - 1))).1))) (P := []) rfl (trivial) (pc' := 56) rfl ?_
          refine Sem.goto (tgt := 11) d17_56 (by decide) ?_
          refine Sem.pick [1, 2, 0] (lv' := [(0, aR 12 0), (1, aR 19 i), (2, aI (nI (m - 1) + Int32.ofInt (-1)))]) rfl ?_
          exact ih _ (by omega) (m - 1) (nI (m - 1) + Int32.ofInt (-1)) (upN N1 16 0 (m - 1) ((pk (N1 19 i) (L1 14 0) (L1 15 0) (m - 1) (12 - (m - 1))).2)) (upL L1 15 0 (m - 1) ((pk (N1 19 i) (L1 14 0) (L1 15 0) (m - 1) (12 - (m - 1))).1)) rfl (by omega) (by rw [dec_toInt (by omega)]) (fun t a b h => (upN_ne (by omega)).trans (fN t a b h)) (fun t a b h => (upL_ne (by omega)).trans (fL t a b h)) (fun q h1 h2 => by
                by_cases e : q = m - 1
                · subst e
                  rw [upL_at, best_w (by omega), if_neg hE, hpk]
                · exact (upL_ne (by omega)).trans (hb q (by omega) h2)) (fun q h1 h2 h3 => by
                by_cases e : q = m - 1
                · subst e; rw [upN_at, hpk]; rfl
                · exact (upN_ne (by omega)).trans (hl q (by omega) h2 h3))
        · have b2_ : ¬ (¬ L1 14 0 (m - 1) = if m - 1 < 1 then 0 else L1 14 0 (m - 1 - 1)) := b2
          have hE : L 14 0 (m - 1) = prv (L 14 0) (m - 1) := by rw [← hpv, ← e14]; exact Classical.not_not.mp (by assumption)
          refine Sem.seg [(.aload_n 0, 0, 0), (.getfield 18, 3, 2), (.iload_n 2, 0, 0), (.aload_n 0, 0, 0), (.getfield 18, 3, 2), (.iload_n 2, 0, 0), (.iconst 1, 0, 0), (.iadd, 0, 0), (.laload, 0, 0), (.lastore, 0, 0)] ⟨⟨d17_30, trivial⟩, ⟨d17_31, gf3_18⟩, ⟨d17_34, trivial⟩, ⟨d17_35, trivial⟩, ⟨d17_36, gf3_18⟩, ⟨d17_39, trivial⟩, ⟨d17_40, trivial⟩, ⟨d17_41, trivial⟩, ⟨d17_42, trivial⟩, ⟨d17_43, trivial⟩, trivial⟩ (lv' := [(2, aN (m - 1)), (0, aR 12 0), (1, aR 19 i)]) (st' := []) (w' := wd N1 (upL L1 15 0 (m - 1) (L1 15 0 ((m - 1) + 1)))) (P := [vld NN 12 0, vld NN 12 0, vld NN 15 0, (m - 1) + 1 < 13, vld NN 15 0, m - 1 < 13]) rfl (⟨vN (t := 12) (i := 0) (by decide), vN (t := 12) (i := 0) (by decide), vN (t := 15) (i := 0) (by decide), (show (m - 1) + 1 < 13 by omega), vN (t := 15) (i := 0) (by decide), (show m - 1 < 13 by omega)⟩) (pc' := 44) rfl ?_
          refine Sem.goto (tgt := 53) d17_44 (by decide) ?_
          refine Sem.seg [(.iinc 2 (-1), 0, 0)] ⟨⟨d17_53, trivial⟩, trivial⟩ (lv' := [(2, aI (nI (m - 1) + Int32.ofInt (-1))), (0, aR 12 0), (1, aR 19 i)]) (st' := []) (w' := wd N1 (upL L1 15 0 (m - 1) (L1 15 0 ((m - 1) + 1)))) (P := []) rfl (trivial) (pc' := 56) rfl ?_
          refine Sem.goto (tgt := 11) d17_56 (by decide) ?_
          refine Sem.pick [1, 2, 0] (lv' := [(0, aR 12 0), (1, aR 19 i), (2, aI (nI (m - 1) + Int32.ofInt (-1)))]) rfl ?_
          exact ih _ (by omega) (m - 1) (nI (m - 1) + Int32.ofInt (-1)) N1 (upL L1 15 0 (m - 1) (L1 15 0 ((m - 1) + 1))) rfl (by omega) (by rw [dec_toInt (by omega)]) (fN) (fun t a b h => (upL_ne (by omega)).trans (fL t a b h)) (fun q h1 h2 => by
                by_cases e : q = m - 1
                · subst e
                  rw [upL_at, best_w (by omega), hb _ (by omega) (by omega), if_pos hE]
                · exact (upL_ne (by omega)).trans (hb q (by omega) h2)) (fun q h1 h2 h3 => by
                by_cases e : q = m - 1
                · subst e; exact absurd hE h3
                · exact hl q (by omega) h2 h3)
  refine Sem.pick [0, 1, 2] (lv' := [(2, aN 11), (0, aR 12 0), (1, aR 19 i)]) rfl ?_
  refine Sem.locNI (show nI 11 = nI 11 from rfl) ?_
  refine Sem.pick [1, 2, 0] (lv' := [(0, aR 12 0), (1, aR 19 i), (2, aI (nI 11))]) rfl ?_
  exact lp _ 12 (nI 11) N (upL L 15 0 12 (Int64.ofNat 0)) rfl (by omega) (by rw [nI_toInt (by decide)]; decide) (fun t a b _ => rfl) (fun t a b h => upL_ne (by omega)) (fun q h1 h2 => by have e : q = 12 := (by omega); subst e; rw [best_12]; exact upL_at) (fun q h1 h2 => absurd h1 (by omega))

def lotC (N : TN) (L : TL) (i w : Nat) (g : Int64) : Int64 :=
  if N 19 i 0 = 1 then lmu (N 19 i 1) (L 14 0 w - g) else if N 19 i 0 = 2 then L 14 0 (if 11 < w + N 19 i 1 - 1 then 11 else w + N 19 i 1 - 1) - g else if N 19 i 0 = 3 then L 14 0 (N 16 0 w) - g else L 14 0 w - g

theorem m20 {sc : XT} (N : TN) (L : TL) (i w : Nat) (g : Int64) (hi : i < 12) (hw : w < 12) (hr : N 19 i 0 = 0 ∨ N 19 i 0 = 1 ∨ N 19 i 0 = 2 ∨ N 19 i 0 = 3) (hz : 1 ≤ N 19 i 1 ∧ N 19 i 1 ≤ 1000) (hk : N 19 i 0 = 3 → N 16 0 w < 12) : Sem sc 20 0 [(0, aR 12 0), (1, aR 19 i), (2, aN w), (3, aL g)] [] (wd N L) 0 0 (QP (some (aL (lotC N L i w g))) N L) := by
  refine Sem.seg [(.aload_n 1, 0, 0), (.getfield 29, 2, 0)] ⟨⟨d20_0, trivial⟩, ⟨d20_1, gf3_29⟩, trivial⟩ (lv' := [(0, aR 12 0), (1, aR 19 i), (2, aN w), (3, aL g)]) (st' := [aN (N 19 i 0)]) (w' := wd N L) (P := [vld NN 19 i]) rfl (vN (t := 19) (i := i) (show i < 12 by first | omega | assumption)) (pc' := 4) rfl ?_
  rcases hr with hr | hr | hr | hr
  · refine Sem.topNN hr ?_
    refine Sem.tabOut rfl d20_4 (Or.inl (by decide)) (tgt := 83) (by decide) ?_
    refine Sem.seg [(.aload_n 0, 0, 0), (.getfield 15, 3, 1), (.iload_n 2, 0, 0), (.laload, 0, 0), (.lload_n 3, 0, 0), (.lsub, 0, 0)] ⟨⟨d20_83, trivial⟩, ⟨d20_84, gf3_15⟩, ⟨d20_87, trivial⟩, ⟨d20_88, trivial⟩, ⟨d20_89, trivial⟩, ⟨d20_90, trivial⟩, trivial⟩ (lv' := [(0, aR 12 0), (1, aR 19 i), (2, aN w), (3, aL g)]) (st' := [aL ((L 14 0 w) - g)]) (w' := wd N L) (P := [vld NN 12 0, vld NN 14 0, w < 12]) rfl (⟨vN (t := 12) (i := 0) (by decide), vN (t := 14) (i := 0) (by decide), (show w < 12 by first | omega | assumption)⟩) (pc' := 91) rfl ?_
    exact Sem.lret d20_91 rfl (by decide) (by decide) hzW ⟨congrArg (fun z => Sum.inl (some (aL z))) (show (L 14 0 w) - g = lotC N L i w g by unfold lotC; simp [hr]), rfl⟩
  · refine Sem.topNN hr ?_
    refine Sem.tabIn rfl d20_4 (by decide) (by decide) (off := 28) rfl (tgt := 32) (by decide) ?_
    refine Sem.seg [(.aload_n 1, 0, 0), (.getfield 67, 2, 1), (.aload_n 0, 0, 0), (.getfield 15, 3, 1), (.iload_n 2, 0, 0), (.laload, 0, 0), (.lload_n 3, 0, 0), (.lsub, 0, 0)] ⟨⟨d20_32, trivial⟩, ⟨d20_33, gf3_67⟩, ⟨d20_36, trivial⟩, ⟨d20_37, gf3_15⟩, ⟨d20_40, trivial⟩, ⟨d20_41, trivial⟩, ⟨d20_42, trivial⟩, ⟨d20_43, trivial⟩, trivial⟩ (lv' := [(0, aR 12 0), (1, aR 19 i), (2, aN w), (3, aL g)]) (st' := [aL ((L 14 0 w) - g), aN (N 19 i 1)]) (w' := wd N L) (P := [vld NN 19 i, vld NN 12 0, vld NN 14 0, w < 12]) rfl (⟨vN (t := 19) (i := i) (show i < 12 by first | omega | assumption), vN (t := 12) (i := 0) (by decide), vN (t := 14) (i := 0) (by decide), (show w < 12 by first | omega | assumption)⟩) (pc' := 44) rfl ?_
    refine Sem.cSp1 (as := [aN (N 19 i 1), aL ((L 14 0 w) - g)]) (rst := []) (c' := 0) (s' := 0) d20_44 mk21 rfl co21 lk3_70 ss21 (show 3 ≤ mL 21 by decide) rfl (show 0 ≤ 8 by decide) (by decide) (by decide) rfl rfl (by decide) (by decide) (m21 N L (N 19 i 1) (L 14 0 w - g) (by omega)) ?_
    exact Sem.lret d20_47 rfl (by decide) (by decide) hzW ⟨congrArg (fun z => Sum.inl (some (aL z))) (show lmu (N 19 i 1) (L 14 0 w - g) = lotC N L i w g by unfold lotC; simp [hr]), rfl⟩
  · refine Sem.topNN hr ?_
    refine Sem.tabIn rfl d20_4 (by decide) (by decide) (off := 44) rfl (tgt := 48) (by decide) ?_
    refine Sem.seg [(.aload_n 0, 0, 0), (.getfield 15, 3, 1), (.iload_n 2, 0, 0), (.aload_n 1, 0, 0), (.getfield 67, 2, 1), (.iadd, 0, 0), (.iconst 1, 0, 0), (.isub, 0, 0)] ⟨⟨d20_48, trivial⟩, ⟨d20_49, gf3_15⟩, ⟨d20_52, trivial⟩, ⟨d20_53, trivial⟩, ⟨d20_54, gf3_67⟩, ⟨d20_57, trivial⟩, ⟨d20_58, trivial⟩, ⟨d20_59, trivial⟩, trivial⟩ (lv' := [(0, aR 12 0), (1, aR 19 i), (2, aN w), (3, aL g)]) (st' := [aI ((nI (w + (N 19 i 1))) - (nI 1)), aR 14 0]) (w' := wd N L) (P := [vld NN 12 0, vld NN 19 i]) rfl (⟨vN (t := 12) (i := 0) (by decide), vN (t := 19) (i := i) (show i < 12 by first | omega | assumption)⟩) (pc' := 60) rfl ?_
    refine Sem.topN (show (nI (w + (N 19 i 1))) - (nI 1) = nI (w + N 19 i 1 - 1) from nI_sub (by omega)) ?_
    refine Sem.seg [(.bipush 11, 0, 0)] ⟨⟨d20_60, trivial⟩, trivial⟩ (lv' := [(0, aR 12 0), (1, aR 19 i), (2, aN w), (3, aL g)]) (st' := [aN 11, aN (w + N 19 i 1 - 1), aR 14 0]) (w' := wd N L) (P := []) rfl (trivial) (pc' := 62) rfl ?_
    refine Sem.minN (show w + N 19 i 1 - 1 < 2 ^ 31 by first | omega | assumption) (by decide) d20_62 lk3_74 w_static_LibMathminname inMath w_code_LibMathminname (by decide) (show 1 + 13 ≤ lo 20 by decide) (by decide) (by decide) ?_
    refine Sem.topNN (show (if 11 < w + N 19 i 1 - 1 then 11 else w + N 19 i 1 - 1) = (if 11 < w + N 19 i 1 - 1 then 11 else w + N 19 i 1 - 1) from rfl) ?_
    have h11 : (if 11 < w + N 19 i 1 - 1 then 11 else w + N 19 i 1 - 1) < 12 := by split <;> omega
    refine Sem.seg [(.laload, 0, 0), (.lload_n 3, 0, 0), (.lsub, 0, 0)] ⟨⟨d20_65, trivial⟩, ⟨d20_66, trivial⟩, ⟨d20_67, trivial⟩, trivial⟩ (lv' := [(0, aR 12 0), (1, aR 19 i), (2, aN w), (3, aL g)]) (st' := [aL ((L 14 0 (if 11 < w + N 19 i 1 - 1 then 11 else w + N 19 i 1 - 1)) - g)]) (w' := wd N L) (P := [vld NN 14 0, (if 11 < w + N 19 i 1 - 1 then 11 else w + N 19 i 1 - 1) < 12]) rfl (⟨vN (t := 14) (i := 0) (by decide), (show (if 11 < w + N 19 i 1 - 1 then 11 else w + N 19 i 1 - 1) < 12 by first | omega | assumption)⟩) (pc' := 68) rfl ?_
    exact Sem.lret d20_68 rfl (by decide) (by decide) hzW ⟨congrArg (fun z => Sum.inl (some (aL z))) (show (L 14 0 (if 11 < w + N 19 i 1 - 1 then 11 else w + N 19 i 1 - 1)) - g = lotC N L i w g by unfold lotC; simp [hr]), rfl⟩
  · refine Sem.topNN hr ?_
    refine Sem.tabIn rfl d20_4 (by decide) (by decide) (off := 65) rfl (tgt := 69) (by decide) ?_
    refine Sem.seg [(.aload_n 0, 0, 0), (.getfield 15, 3, 1), (.aload_n 0, 0, 0), (.getfield 21, 3, 3), (.iload_n 2, 0, 0)] ⟨⟨d20_69, trivial⟩, ⟨d20_70, gf3_15⟩, ⟨d20_73, trivial⟩, ⟨d20_74, gf3_21⟩, ⟨d20_77, trivial⟩, trivial⟩ (lv' := [(0, aR 12 0), (1, aR 19 i), (2, aN w), (3, aL g)]) (st' := [aN w, aR 16 0, aR 14 0]) (w' := wd N L) (P := [vld NN 12 0, vld NN 12 0]) rfl (⟨vN (t := 12) (i := 0) (by decide), vN (t := 12) (i := 0) (by decide)⟩) (pc' := 78) rfl ?_
    have hk_ := hk hr
    refine Sem.seg [(.iaload, 0, 0), (.laload, 0, 0), (.lload_n 3, 0, 0), (.lsub, 0, 0)] ⟨⟨d20_78, trivial⟩, ⟨d20_79, trivial⟩, ⟨d20_80, trivial⟩, ⟨d20_81, trivial⟩, trivial⟩ (lv' := [(0, aR 12 0), (1, aR 19 i), (2, aN w), (3, aL g)]) (st' := [aL ((L 14 0 (N 16 0 w)) - g)]) (w' := wd N L) (P := [vld NN 16 0, w < 12, vld NN 14 0, N 16 0 w < 12]) rfl (⟨vN (t := 16) (i := 0) (by decide), (show w < 12 by first | omega | assumption), vN (t := 14) (i := 0) (by decide), (show N 16 0 w < 12 by first | omega | assumption)⟩) (pc' := 82) rfl ?_
    exact Sem.lret d20_82 rfl (by decide) (by decide) hzW ⟨congrArg (fun z => Sum.inl (some (aL z))) (show (L 14 0 (N 16 0 w)) - g = lotC N L i w g by unfold lotC; simp [hr]), rfl⟩

theorem lotC_F {N N1 : TN} {L1 : TL} {i w : Nat} {g : Int64} {nd : Nat → Int64} (fN : ∀ t a b, t ≠ 16 → N1 t a b = N t a b) (h14 : ∀ q, q < 12 → L1 14 0 q = nd q) (hw : w < 12) (hz : 1 ≤ N 19 i 1 ∧ N 19 i 1 ≤ 1000) (h16 : N 19 i 0 = 3 → N1 16 0 w = lastF (N 19 i) nd w) : lotC N1 L1 i w g = lotF (N 19 i) nd w g := by
  unfold lotC lotF
  rw [fN 19 i 0 (by decide), fN 19 i 1 (by decide), h14 w hw]
  split
  · rfl
  · split
    · congr 1
      exact h14 _ (by split <;> omega)
    · split
      · rename_i h3
        rw [h16 h3, h14 _ (lastF_at hw).2]
      · rfl

theorem m15 {sc : XT} (N : TN) (L : TL) (i : Nat) (hi : i < 12) (hl : N 19 i 2 ≤ 4) (hr : N 19 i 0 = 0 ∨ N 19 i 0 = 1 ∨ N 19 i 0 = 2 ∨ N 19 i 0 = 3) (hz : 1 ≤ N 19 i 1 ∧ N 19 i 1 ≤ 1000) : Sem sc 15 0 [(0, aR 12 0), (1, aR 19 i), (2, aR 18 0)] [] (wd N L) 0 0 (Q0 fun N' L' => (∀ t a b, t ≠ 16 → N' t a b = N t a b) ∧ (∀ t a b, t ≠ 13 → t ≠ 14 → t ≠ 15 → ¬ (t = 21 ∧ a = i) → ¬ (t = 22 ∧ a = i) → L' t a b = L t a b) ∧ ∀ q, q < 12 → L' 21 i q = planF (N 19 i) (L 18 0) (L 20 i) q ∧ L' 22 i q = balF (N 19 i) (L 18 0) (L 20 i) q) := by
  refine Sem.seg [(.aload_n 0, 0, 0), (.aload_n 1, 0, 0), (.aload_n 2, 0, 0)] ⟨⟨d15_0, trivial⟩, ⟨d15_1, trivial⟩, ⟨d15_2, trivial⟩, trivial⟩ (lv' := [(0, aR 12 0), (1, aR 19 i), (2, aR 18 0)]) (st' := [aR 18 0, aR 19 i, aR 12 0]) (w' := wd N L) (P := []) rfl (trivial) (pc' := 3) rfl ?_
  refine Sem.cVp0 (t := 12) (i := 0) (as := [aR 19 i, aR 18 0]) (rst := []) (c' := 0) (s' := 0) d15_3 mk16 rfl co16 lk3_25 im16 se16 rfl (vN (t := 12) (i := 0) (by decide)) (show 3 ≤ mL 16 by decide) rfl (show 0 ≤ 8 by decide) (by decide) (by decide) rfl rfl (by decide) (by decide) (m16 N L i hi (by omega)) ?_
  refine Sem.seg [(.aload_n 1, 0, 0), (.getfield 29, 2, 0), (.iconst 3, 0, 0)] ⟨⟨d15_6, trivial⟩, ⟨d15_7, gf3_29⟩, ⟨d15_10, trivial⟩, trivial⟩ (lv' := [(0, aR 12 0), (1, aR 19 i), (2, aR 18 0)]) (st' := [aN 3, aN (N 19 i 0)]) (w' := wd N (upW (upW L 13 0 12 (bareF (N 19 i) (L 18 0) (L 20 i))) 14 0 12 (needF (N 19 i) (L 18 0) (L 20 i)))) (P := [vld NN 19 i]) rfl (vN (t := 19) (i := i) (show i < 12 by omega)) (pc' := 11) rfl ?_
  refine Sem.icmpN (tgt := 19) d15_11 (by decide) (show N 19 i 0 < 2 ^ 31 by omega) (by decide) (fun b1 => ?_) (fun b1 => ?_)
  · have b1_ : ¬ N 19 i 0 = 3 := b1
    refine Sem.seg [(.lconst 0, 0, 0), (.lstore_n 3, 0, 0), (.iconst 0, 0, 0), (.istore 5, 0, 0)] ⟨⟨d15_19, trivial⟩, ⟨d15_20, trivial⟩, ⟨d15_21, trivial⟩, ⟨d15_22, trivial⟩, trivial⟩ (lv' := [(5, aN 0), (3, aL (Int64.ofNat 0)), (0, aR 12 0), (1, aR 19 i), (2, aR 18 0)]) (st' := []) (w' := wd N (upW (upW L 13 0 12 (bareF (N 19 i) (L 18 0) (L 20 i))) 14 0 12 (needF (N 19 i) (L 18 0) (L 20 i)))) (P := []) rfl (trivial) (pc' := 24) rfl ?_
    have lp : ∀ (d : Nat) (w : Nat) (g : Int64) (N1 : TN) (L1 : TL), 12 - w = d → (w ≤ 12) → (g = gotA (N 19 i) (needF (N 19 i) (L 18 0) (L 20 i)) w) → ((∀ t a b, t ≠ 16 → N1 t a b = N t a b)) → ((∀ t a b, t ≠ 13 → t ≠ 14 → t ≠ 15 → ¬ (t = 21 ∧ a = i) → ¬ (t = 22 ∧ a = i) → L1 t a b = L t a b)) → (∀ q, q < 12 → L1 13 0 q = (bareF (N 19 i) (L 18 0) (L 20 i)) q) → (∀ q, q < 12 → L1 14 0 q = (needF (N 19 i) (L 18 0) (L 20 i)) q) → (N 19 i 0 = 3 → ∀ q, q < 12 → ¬ (needF (N 19 i) (L 18 0) (L 20 i)) q = prv (needF (N 19 i) (L 18 0) (L 20 i)) q → N1 16 0 q = lastF (N 19 i) (needF (N 19 i) (L 18 0) (L 20 i)) q) → (∀ q, q < w → L1 21 i q = planF (N 19 i) (L 18 0) (L 20 i) q ∧ L1 22 i q = balF (N 19 i) (L 18 0) (L 20 i) q) → Sem sc 15 24 [(0, aR 12 0), (1, aR 19 i), (3, aL g), (5, aN w)] [] (wd N1 L1) 0 0 (Q0 fun N' L' => (∀ t a b, t ≠ 16 → N' t a b = N t a b) ∧ (∀ t a b, t ≠ 13 → t ≠ 14 → t ≠ 15 → ¬ (t = 21 ∧ a = i) → ¬ (t = 22 ∧ a = i) → L' t a b = L t a b) ∧ ∀ q, q < 12 → L' 21 i q = planF (N 19 i) (L 18 0) (L 20 i) q ∧ L' 22 i q = balF (N 19 i) (L 18 0) (L 20 i) q) := by
      intro d
      induction d using Nat.strongRecOn with
      | ind d ih =>
        intro w g N1 L1 hd hw hg fN fL h13 h14 h16 hq
        refine Sem.seg [(.iload 5, 0, 0), (.bipush 12, 0, 0)] ⟨⟨d15_24, trivial⟩, ⟨d15_26, trivial⟩, trivial⟩ (lv' := [(0, aR 12 0), (1, aR 19 i), (3, aL g), (5, aN w)]) (st' := [aN 12, aN w]) (w' := wd N1 L1) (P := []) rfl (trivial) (pc' := 28) rfl ?_
        refine Sem.icmpN (tgt := 94) d15_28 (by decide) (show w < 2 ^ 31 by omega) (by decide) (fun b2 => ?_) (fun b2 => ?_)
        · have b2_ : 12 ≤ w := b2
          exact Sem.vret d15_94 rfl (by decide) (by decide) hzW ⟨rfl, _, _, rfl, by exact ⟨fN, fL, fun q h => hq q (by omega)⟩⟩
        · have b2_ : ¬ (12 ≤ w) := b2
          have e14 := h14 w (by omega)
          refine Sem.seg [(.aload_n 1, 0, 0), (.getfield 39, 2, 12), (.iload 5, 0, 0), (.aload_n 0, 0, 0), (.getfield 15, 3, 1), (.iload 5, 0, 0), (.laload, 0, 0), (.lload_n 3, 0, 0)] ⟨⟨d15_31, trivial⟩, ⟨d15_32, gf3_39⟩, ⟨d15_35, trivial⟩, ⟨d15_37, trivial⟩, ⟨d15_38, gf3_15⟩, ⟨d15_41, trivial⟩, ⟨d15_43, trivial⟩, ⟨d15_44, trivial⟩, trivial⟩ (lv' := [(0, aR 12 0), (1, aR 19 i), (3, aL g), (5, aN w)]) (st' := [aL g, aL (L1 14 0 w), aN w, aR 21 i]) (w' := wd N1 L1) (P := [vld NN 19 i, vld NN 12 0, vld NN 14 0, w < 12]) rfl (⟨vN (t := 19) (i := i) (show i < 12 by omega), vN (t := 12) (i := 0) (by decide), vN (t := 14) (i := 0) (by decide), (show w < 12 by omega)⟩) (pc' := 45) rfl ?_
          refine Sem.lcmp (tgt := 60) d15_45 d15_46 (by decide) (fun b3 => ?_) (fun b3 => ?_)
          · have b3_ : L1 14 0 w ≤ g := b3
            refine Sem.seg [(.lconst 0, 0, 0)] ⟨⟨d15_60, trivial⟩, trivial⟩ (lv' := [(0, aR 12 0), (1, aR 19 i), (3, aL g), (5, aN w)]) (st' := [aL (Int64.ofNat 0), aN w, aR 21 i]) (w' := wd N1 L1) (P := []) rfl (trivial) (pc' := 61) rfl ?_
            have hq1 : Int64.ofNat 0 = planF (N 19 i) (L 18 0) (L 20 i) w := by
              show _ = plO _ _ _ _
              unfold plO
              rw [← hg, ← e14]
              first
              | (rw [if_pos (by assumption)]; rfl)
              | (rw [if_neg (by assumption), lotC_F fN h14 (by omega) hz (fun h => h16 h w (by omega) (hne h))])
            refine Sem.seg [(.lastore, 0, 0), (.lload_n 3, 0, 0), (.aload_n 1, 0, 0), (.getfield 39, 2, 12), (.iload 5, 0, 0), (.laload, 0, 0)] ⟨⟨d15_61, trivial⟩, ⟨d15_62, trivial⟩, ⟨d15_63, trivial⟩, ⟨d15_64, gf3_39⟩, ⟨d15_67, trivial⟩, ⟨d15_69, trivial⟩, trivial⟩ (lv' := [(0, aR 12 0), (1, aR 19 i), (3, aL g), (5, aN w)]) (st' := [aL ((upL L1 21 i w (Int64.ofNat 0)) 21 i w), aL g]) (w' := wd N1 (upL L1 21 i w (Int64.ofNat 0))) (P := [vld NN 21 i, w < 12, vld NN 19 i, vld NN 21 i, w < 12]) rfl (⟨vN (t := 21) (i := i) (show i < 12 by omega), (show w < 12 by omega), vN (t := 19) (i := i) (show i < 12 by omega), vN (t := 21) (i := i) (show i < 12 by omega), (show w < 12 by omega)⟩) (pc' := 70) rfl ?_
            refine Sem.topLL (show (upL L1 21 i w (Int64.ofNat 0)) 21 i w = Int64.ofNat 0 by simp [upN, upL]) ?_
            refine Sem.seg [(.ladd, 0, 0), (.lstore_n 3, 0, 0), (.aload_n 1, 0, 0), (.getfield 46, 2, 13), (.iload 5, 0, 0), (.aload_n 0, 0, 0), (.getfield 9, 3, 0), (.iload 5, 0, 0), (.laload, 0, 0), (.lload_n 3, 0, 0), (.ladd, 0, 0), (.lastore, 0, 0), (.iinc 5 1, 0, 0)] ⟨⟨d15_70, trivial⟩, ⟨d15_71, trivial⟩, ⟨d15_72, trivial⟩, ⟨d15_73, gf3_46⟩, ⟨d15_76, trivial⟩, ⟨d15_78, trivial⟩, ⟨d15_79, gf3_9⟩, ⟨d15_82, trivial⟩, ⟨d15_84, trivial⟩, ⟨d15_85, trivial⟩, ⟨d15_86, trivial⟩, ⟨d15_87, trivial⟩, ⟨d15_88, trivial⟩, trivial⟩ (lv' := [(5, aN (w + 1)), (3, aL (g + (Int64.ofNat 0))), (0, aR 12 0), (1, aR 19 i)]) (st' := []) (w' := wd N1 (upL (upL L1 21 i w (Int64.ofNat 0)) 22 i w ((L1 13 0 w) + (g + (Int64.ofNat 0))))) (P := [vld NN 19 i, vld NN 12 0, vld NN 13 0, w < 12, vld NN 22 i, w < 12]) rfl (⟨vN (t := 19) (i := i) (show i < 12 by omega), vN (t := 12) (i := 0) (by decide), vN (t := 13) (i := 0) (by decide), (show w < 12 by omega), vN (t := 22) (i := i) (show i < 12 by omega), (show w < 12 by omega)⟩) (pc' := 91) rfl ?_
            refine Sem.goto (tgt := 24) d15_91 (by decide) ?_
            refine Sem.pick [2, 3, 1, 0] (lv' := [(0, aR 12 0), (1, aR 19 i), (3, aL (g + (Int64.ofNat 0))), (5, aN (w + 1))]) rfl ?_
            exact ih _ (by omega) (w + 1) (g + (Int64.ofNat 0)) N1 (upL (upL L1 21 i w (Int64.ofNat 0)) 22 i w ((L1 13 0 w) + (g + (Int64.ofNat 0)))) rfl (by omega) (by rw [hq1, hg]; rfl) (fN) (fun t a b h1 h2 h3 h4 h5 => (upL_ne (by omega)).trans ((upL_ne (by omega)).trans (fL t a b h1 h2 h3 h4 h5))) (fun q h => (upL_ne (by omega)).trans ((upL_ne (by omega)).trans (h13 q h))) (fun q h => (upL_ne (by omega)).trans ((upL_ne (by omega)).trans (h14 q h))) (h16) (all_s (fun q h => ⟨(upL_ne (by omega)).trans ((upL_ne (by omega)).trans (hq q h).1), (upL_ne (by omega)).trans ((upL_ne (by omega)).trans (hq q h).2)⟩) ⟨(upL_ne (by omega)).trans (upL_at.trans (hq1.trans rfl)), upL_at.trans (by rw [h13 w (by omega), hq1, hg]; rfl)⟩)
          · have b3_ : ¬ (L1 14 0 w ≤ g) := b3
            have hne : N 19 i 0 = 3 → ¬ (needF (N 19 i) (L 18 0) (L 20 i)) w = prv (needF (N 19 i) (L 18 0) (L 20 i)) w := fun h3 e => by
              have := got_prv (D := N 19 i) (br := L 18 0) (gr := L 20 i) h3 (w := w) (by omega)
              rw [← e, ← hg, ← e14] at this
              exact absurd this (by assumption)
            refine Sem.seg [(.aload_n 0, 0, 0), (.aload_n 1, 0, 0), (.iload 5, 0, 0), (.lload_n 3, 0, 0)] ⟨⟨d15_49, trivial⟩, ⟨d15_50, trivial⟩, ⟨d15_51, trivial⟩, ⟨d15_53, trivial⟩, trivial⟩ (lv' := [(0, aR 12 0), (1, aR 19 i), (3, aL g), (5, aN w)]) (st' := [aL g, aN w, aR 19 i, aR 12 0, aN w, aR 21 i]) (w' := wd N1 L1) (P := []) rfl (trivial) (pc' := 54) rfl ?_
            refine Sem.cVp1 (t := 12) (i := 0) (as := [aR 19 i, aN w, aL g]) (rst := [aN w, aR 21 i]) (c' := 0) (s' := 0) d15_54 mk20 rfl co20 lk3_42 im20 se20 rfl (vN (t := 12) (i := 0) (by decide)) (show 5 ≤ mL 20 by decide) rfl (show 2 ≤ 8 by decide) (by decide) (by decide) rfl rfl (by decide) (by decide) (m20 N1 L1 i w g hi (by omega) (by rw [fN 19 i 0 (by decide)]; exact hr) (by rw [fN 19 i 1 (by decide)]; exact hz) (fun h => by rw [fN 19 i 0 (by decide)] at h; rw [h16 h w (by omega) (hne h)]; exact (lastF_at (by omega)).2)) ?_
            refine Sem.goto (tgt := 61) d15_57 (by decide) ?_
            have hq1 : lotC N1 L1 i w g = planF (N 19 i) (L 18 0) (L 20 i) w := by
              show _ = plO _ _ _ _
              unfold plO
              rw [← hg, ← e14]
              first
              | (rw [if_pos (by assumption)]; rfl)
              | (rw [if_neg (by assumption), lotC_F fN h14 (by omega) hz (fun h => h16 h w (by omega) (hne h))])
            refine Sem.seg [(.lastore, 0, 0), (.lload_n 3, 0, 0), (.aload_n 1, 0, 0), (.getfield 39, 2, 12), (.iload 5, 0, 0), (.laload, 0, 0)] ⟨⟨d15_61, trivial⟩, ⟨d15_62, trivial⟩, ⟨d15_63, trivial⟩, ⟨d15_64, gf3_39⟩, ⟨d15_67, trivial⟩, ⟨d15_69, trivial⟩, trivial⟩ (lv' := [(0, aR 12 0), (1, aR 19 i), (3, aL g), (5, aN w)]) (st' := [aL ((upL L1 21 i w (lotC N1 L1 i w g)) 21 i w), aL g]) (w' := wd N1 (upL L1 21 i w (lotC N1 L1 i w g))) (P := [vld NN 21 i, w < 12, vld NN 19 i, vld NN 21 i, w < 12]) rfl (⟨vN (t := 21) (i := i) (show i < 12 by omega), (show w < 12 by omega), vN (t := 19) (i := i) (show i < 12 by omega), vN (t := 21) (i := i) (show i < 12 by omega), (show w < 12 by omega)⟩) (pc' := 70) rfl ?_
            refine Sem.topLL (show (upL L1 21 i w (lotC N1 L1 i w g)) 21 i w = lotC N1 L1 i w g by simp [upN, upL]) ?_
            refine Sem.seg [(.ladd, 0, 0), (.lstore_n 3, 0, 0), (.aload_n 1, 0, 0), (.getfield 46, 2, 13), (.iload 5, 0, 0), (.aload_n 0, 0, 0), (.getfield 9, 3, 0), (.iload 5, 0, 0), (.laload, 0, 0), (.lload_n 3, 0, 0), (.ladd, 0, 0), (.lastore, 0, 0), (.iinc 5 1, 0, 0)] ⟨⟨d15_70, trivial⟩, ⟨d15_71, trivial⟩, ⟨d15_72, trivial⟩, ⟨d15_73, gf3_46⟩, ⟨d15_76, trivial⟩, ⟨d15_78, trivial⟩, ⟨d15_79, gf3_9⟩, ⟨d15_82, trivial⟩, ⟨d15_84, trivial⟩, ⟨d15_85, trivial⟩, ⟨d15_86, trivial⟩, ⟨d15_87, trivial⟩, ⟨d15_88, trivial⟩, trivial⟩ (lv' := [(5, aN (w + 1)), (3, aL (g + (lotC N1 L1 i w g))), (0, aR 12 0), (1, aR 19 i)]) (st' := []) (w' := wd N1 (upL (upL L1 21 i w (lotC N1 L1 i w g)) 22 i w ((L1 13 0 w) + (g + (lotC N1 L1 i w g))))) (P := [vld NN 19 i, vld NN 12 0, vld NN 13 0, w < 12, vld NN 22 i, w < 12]) rfl (⟨vN (t := 19) (i := i) (show i < 12 by omega), vN (t := 12) (i := 0) (by decide), vN (t := 13) (i := 0) (by decide), (show w < 12 by omega), vN (t := 22) (i := i) (show i < 12 by omega), (show w < 12 by omega)⟩) (pc' := 91) rfl ?_
            refine Sem.goto (tgt := 24) d15_91 (by decide) ?_
            refine Sem.pick [2, 3, 1, 0] (lv' := [(0, aR 12 0), (1, aR 19 i), (3, aL (g + (lotC N1 L1 i w g))), (5, aN (w + 1))]) rfl ?_
            exact ih _ (by omega) (w + 1) (g + (lotC N1 L1 i w g)) N1 (upL (upL L1 21 i w (lotC N1 L1 i w g)) 22 i w ((L1 13 0 w) + (g + (lotC N1 L1 i w g)))) rfl (by omega) (by rw [hq1, hg]; rfl) (fN) (fun t a b h1 h2 h3 h4 h5 => (upL_ne (by omega)).trans ((upL_ne (by omega)).trans (fL t a b h1 h2 h3 h4 h5))) (fun q h => (upL_ne (by omega)).trans ((upL_ne (by omega)).trans (h13 q h))) (fun q h => (upL_ne (by omega)).trans ((upL_ne (by omega)).trans (h14 q h))) (h16) (all_s (fun q h => ⟨(upL_ne (by omega)).trans ((upL_ne (by omega)).trans (hq q h).1), (upL_ne (by omega)).trans ((upL_ne (by omega)).trans (hq q h).2)⟩) ⟨(upL_ne (by omega)).trans (upL_at.trans (hq1.trans rfl)), upL_at.trans (by rw [h13 w (by omega), hq1, hg]; rfl)⟩)
    refine Sem.pick [2, 3, 1, 0] (lv' := [(0, aR 12 0), (1, aR 19 i), (3, aL (Int64.ofNat 0)), (5, aN 0)]) rfl ?_
    exact lp _ 0 (Int64.ofNat 0) N (upW (upW L 13 0 12 (bareF (N 19 i) (L 18 0) (L 20 i))) 14 0 12 (needF (N 19 i) (L 18 0) (L 20 i))) rfl (by omega) (rfl) (fun t a b _ => rfl) (fun t a b h1 h2 _ _ _ => (upW_ne (by omega)).trans (upW_ne (by omega))) (fun q h => (upW_ne (by omega)).trans (upW_at h)) (fun q h => upW_at h) (fun h => absurd h (by omega)) (fun q h => absurd h (by omega))
  · have b1_ : ¬ (¬ N 19 i 0 = 3) := b1
    refine Sem.seg [(.aload_n 0, 0, 0), (.aload_n 1, 0, 0)] ⟨⟨d15_14, trivial⟩, ⟨d15_15, trivial⟩, trivial⟩ (lv' := [(0, aR 12 0), (1, aR 19 i), (2, aR 18 0)]) (st' := [aR 19 i, aR 12 0]) (w' := wd N (upW (upW L 13 0 12 (bareF (N 19 i) (L 18 0) (L 20 i))) 14 0 12 (needF (N 19 i) (L 18 0) (L 20 i)))) (P := []) rfl (trivial) (pc' := 16) rfl ?_
    refine Sem.cVm0 (t := 12) (i := 0) (as := [aR 19 i]) (rst := []) (c' := 0) (s' := 0) d15_16 mk17 rfl co17 lk3_35 im17 se17 rfl (vN (t := 12) (i := 0) (by decide)) (show 2 ≤ mL 17 by decide) rfl (show 0 ≤ 8 by decide) (by decide) (by decide) rfl rfl (by decide) (by decide) (m17 N (upW (upW L 13 0 12 (bareF (N 19 i) (L 18 0) (L 20 i))) 14 0 12 (needF (N 19 i) (L 18 0) (L 20 i))) i hi) ?_
    rintro N1 L1 ⟨gN, gL, g16⟩
    have hnd : ∀ q, q < 12 → (upW (upW L 13 0 12 (bareF (N 19 i) (L 18 0) (L 20 i))) 14 0 12 (needF (N 19 i) (L 18 0) (L 20 i))) 14 0 q = (needF (N 19 i) (L 18 0) (L 20 i)) q := fun q h => upW_at h
    have hpv : ∀ q, q < 12 → prv ((upW (upW L 13 0 12 (bareF (N 19 i) (L 18 0) (L 20 i))) 14 0 12 (needF (N 19 i) (L 18 0) (L 20 i))) 14 0) q = prv (needF (N 19 i) (L 18 0) (L 20 i)) q := fun q h => prv_cg hnd (by omega)
    have hla : ∀ q, q < 12 → lastF (N 19 i) ((upW (upW L 13 0 12 (bareF (N 19 i) (L 18 0) (L 20 i))) 14 0 12 (needF (N 19 i) (L 18 0) (L 20 i))) 14 0) q = lastF (N 19 i) (needF (N 19 i) (L 18 0) (L 20 i)) q := fun q h => lastF_cg rfl rfl hnd h
    refine Sem.seg [(.lconst 0, 0, 0), (.lstore_n 3, 0, 0), (.iconst 0, 0, 0), (.istore 5, 0, 0)] ⟨⟨d15_19, trivial⟩, ⟨d15_20, trivial⟩, ⟨d15_21, trivial⟩, ⟨d15_22, trivial⟩, trivial⟩ (lv' := [(5, aN 0), (3, aL (Int64.ofNat 0)), (0, aR 12 0), (1, aR 19 i), (2, aR 18 0)]) (st' := []) (w' := wd N1 L1) (P := []) rfl (trivial) (pc' := 24) rfl ?_
    have lp : ∀ (d : Nat) (w : Nat) (g : Int64) (N1 : TN) (L1 : TL), 12 - w = d → (w ≤ 12) → (g = gotA (N 19 i) (needF (N 19 i) (L 18 0) (L 20 i)) w) → ((∀ t a b, t ≠ 16 → N1 t a b = N t a b)) → ((∀ t a b, t ≠ 13 → t ≠ 14 → t ≠ 15 → ¬ (t = 21 ∧ a = i) → ¬ (t = 22 ∧ a = i) → L1 t a b = L t a b)) → (∀ q, q < 12 → L1 13 0 q = (bareF (N 19 i) (L 18 0) (L 20 i)) q) → (∀ q, q < 12 → L1 14 0 q = (needF (N 19 i) (L 18 0) (L 20 i)) q) → (N 19 i 0 = 3 → ∀ q, q < 12 → ¬ (needF (N 19 i) (L 18 0) (L 20 i)) q = prv (needF (N 19 i) (L 18 0) (L 20 i)) q → N1 16 0 q = lastF (N 19 i) (needF (N 19 i) (L 18 0) (L 20 i)) q) → (∀ q, q < w → L1 21 i q = planF (N 19 i) (L 18 0) (L 20 i) q ∧ L1 22 i q = balF (N 19 i) (L 18 0) (L 20 i) q) → Sem sc 15 24 [(0, aR 12 0), (1, aR 19 i), (3, aL g), (5, aN w)] [] (wd N1 L1) 0 0 (Q0 fun N' L' => (∀ t a b, t ≠ 16 → N' t a b = N t a b) ∧ (∀ t a b, t ≠ 13 → t ≠ 14 → t ≠ 15 → ¬ (t = 21 ∧ a = i) → ¬ (t = 22 ∧ a = i) → L' t a b = L t a b) ∧ ∀ q, q < 12 → L' 21 i q = planF (N 19 i) (L 18 0) (L 20 i) q ∧ L' 22 i q = balF (N 19 i) (L 18 0) (L 20 i) q) := by
      intro d
      induction d using Nat.strongRecOn with
      | ind d ih =>
        intro w g N1 L1 hd hw hg fN fL h13 h14 h16 hq
        refine Sem.seg [(.iload 5, 0, 0), (.bipush 12, 0, 0)] ⟨⟨d15_24, trivial⟩, ⟨d15_26, trivial⟩, trivial⟩ (lv' := [(0, aR 12 0), (1, aR 19 i), (3, aL g), (5, aN w)]) (st' := [aN 12, aN w]) (w' := wd N1 L1) (P := []) rfl (trivial) (pc' := 28) rfl ?_
        refine Sem.icmpN (tgt := 94) d15_28 (by decide) (show w < 2 ^ 31 by omega) (by decide) (fun b4 => ?_) (fun b4 => ?_)
        · have b4_ : 12 ≤ w := b4
          exact Sem.vret d15_94 rfl (by decide) (by decide) hzW ⟨rfl, _, _, rfl, by exact ⟨fN, fL, fun q h => hq q (by omega)⟩⟩
        · have b4_ : ¬ (12 ≤ w) := b4
          have e14 := h14 w (by omega)
          refine Sem.seg [(.aload_n 1, 0, 0), (.getfield 39, 2, 12), (.iload 5, 0, 0), (.aload_n 0, 0, 0), (.getfield 15, 3, 1), (.iload 5, 0, 0), (.laload, 0, 0), (.lload_n 3, 0, 0)] ⟨⟨d15_31, trivial⟩, ⟨d15_32, gf3_39⟩, ⟨d15_35, trivial⟩, ⟨d15_37, trivial⟩, ⟨d15_38, gf3_15⟩, ⟨d15_41, trivial⟩, ⟨d15_43, trivial⟩, ⟨d15_44, trivial⟩, trivial⟩ (lv' := [(0, aR 12 0), (1, aR 19 i), (3, aL g), (5, aN w)]) (st' := [aL g, aL (L1 14 0 w), aN w, aR 21 i]) (w' := wd N1 L1) (P := [vld NN 19 i, vld NN 12 0, vld NN 14 0, w < 12]) rfl (⟨vN (t := 19) (i := i) (show i < 12 by omega), vN (t := 12) (i := 0) (by decide), vN (t := 14) (i := 0) (by decide), (show w < 12 by omega)⟩) (pc' := 45) rfl ?_
          refine Sem.lcmp (tgt := 60) d15_45 d15_46 (by decide) (fun b5 => ?_) (fun b5 => ?_)
          · have b5_ : L1 14 0 w ≤ g := b5
            refine Sem.seg [(.lconst 0, 0, 0)] ⟨⟨d15_60, trivial⟩, trivial⟩ (lv' := [(0, aR 12 0), (1, aR 19 i), (3, aL g), (5, aN w)]) (st' := [aL (Int64.ofNat 0), aN w, aR 21 i]) (w' := wd N1 L1) (P := []) rfl (trivial) (pc' := 61) rfl ?_
            have hq1 : Int64.ofNat 0 = planF (N 19 i) (L 18 0) (L 20 i) w := by
              show _ = plO _ _ _ _
              unfold plO
              rw [← hg, ← e14]
              first
              | (rw [if_pos (by assumption)]; rfl)
              | (rw [if_neg (by assumption), lotC_F fN h14 (by omega) hz (fun h => h16 h w (by omega) (hne h))])
            refine Sem.seg [(.lastore, 0, 0), (.lload_n 3, 0, 0), (.aload_n 1, 0, 0), (.getfield 39, 2, 12), (.iload 5, 0, 0), (.laload, 0, 0)] ⟨⟨d15_61, trivial⟩, ⟨d15_62, trivial⟩, ⟨d15_63, trivial⟩, ⟨d15_64, gf3_39⟩, ⟨d15_67, trivial⟩, ⟨d15_69, trivial⟩, trivial⟩ (lv' := [(0, aR 12 0), (1, aR 19 i), (3, aL g), (5, aN w)]) (st' := [aL ((upL L1 21 i w (Int64.ofNat 0)) 21 i w), aL g]) (w' := wd N1 (upL L1 21 i w (Int64.ofNat 0))) (P := [vld NN 21 i, w < 12, vld NN 19 i, vld NN 21 i, w < 12]) rfl (⟨vN (t := 21) (i := i) (show i < 12 by omega), (show w < 12 by omega), vN (t := 19) (i := i) (show i < 12 by omega), vN (t := 21) (i := i) (show i < 12 by omega), (show w < 12 by omega)⟩) (pc' := 70) rfl ?_
            refine Sem.topLL (show (upL L1 21 i w (Int64.ofNat 0)) 21 i w = Int64.ofNat 0 by simp [upN, upL]) ?_
            refine Sem.seg [(.ladd, 0, 0), (.lstore_n 3, 0, 0), (.aload_n 1, 0, 0), (.getfield 46, 2, 13), (.iload 5, 0, 0), (.aload_n 0, 0, 0), (.getfield 9, 3, 0), (.iload 5, 0, 0), (.laload, 0, 0), (.lload_n 3, 0, 0), (.ladd, 0, 0), (.lastore, 0, 0), (.iinc 5 1, 0, 0)] ⟨⟨d15_70, trivial⟩, ⟨d15_71, trivial⟩, ⟨d15_72, trivial⟩, ⟨d15_73, gf3_46⟩, ⟨d15_76, trivial⟩, ⟨d15_78, trivial⟩, ⟨d15_79, gf3_9⟩, ⟨d15_82, trivial⟩, ⟨d15_84, trivial⟩, ⟨d15_85, trivial⟩, ⟨d15_86, trivial⟩, ⟨d15_87, trivial⟩, ⟨d15_88, trivial⟩, trivial⟩ (lv' := [(5, aN (w + 1)), (3, aL (g + (Int64.ofNat 0))), (0, aR 12 0), (1, aR 19 i)]) (st' := []) (w' := wd N1 (upL (upL L1 21 i w (Int64.ofNat 0)) 22 i w ((L1 13 0 w) + (g + (Int64.ofNat 0))))) (P := [vld NN 19 i, vld NN 12 0, vld NN 13 0, w < 12, vld NN 22 i, w < 12]) rfl (⟨vN (t := 19) (i := i) (show i < 12 by omega), vN (t := 12) (i := 0) (by decide), vN (t := 13) (i := 0) (by decide), (show w < 12 by omega), vN (t := 22) (i := i) (show i < 12 by omega), (show w < 12 by omega)⟩) (pc' := 91) rfl ?_
            refine Sem.goto (tgt := 24) d15_91 (by decide) ?_
            refine Sem.pick [2, 3, 1, 0] (lv' := [(0, aR 12 0), (1, aR 19 i), (3, aL (g + (Int64.ofNat 0))), (5, aN (w + 1))]) rfl ?_
            exact ih _ (by omega) (w + 1) (g + (Int64.ofNat 0)) N1 (upL (upL L1 21 i w (Int64.ofNat 0)) 22 i w ((L1 13 0 w) + (g + (Int64.ofNat 0)))) rfl (by omega) (by rw [hq1, hg]; rfl) (fN) (fun t a b h1 h2 h3 h4 h5 => (upL_ne (by omega)).trans ((upL_ne (by omega)).trans (fL t a b h1 h2 h3 h4 h5))) (fun q h => (upL_ne (by omega)).trans ((upL_ne (by omega)).trans (h13 q h))) (fun q h => (upL_ne (by omega)).trans ((upL_ne (by omega)).trans (h14 q h))) (h16) (all_s (fun q h => ⟨(upL_ne (by omega)).trans ((upL_ne (by omega)).trans (hq q h).1), (upL_ne (by omega)).trans ((upL_ne (by omega)).trans (hq q h).2)⟩) ⟨(upL_ne (by omega)).trans (upL_at.trans (hq1.trans rfl)), upL_at.trans (by rw [h13 w (by omega), hq1, hg]; rfl)⟩)
          · have b5_ : ¬ (L1 14 0 w ≤ g) := b5
            have hne : N 19 i 0 = 3 → ¬ (needF (N 19 i) (L 18 0) (L 20 i)) w = prv (needF (N 19 i) (L 18 0) (L 20 i)) w := fun h3 e => by
              have := got_prv (D := N 19 i) (br := L 18 0) (gr := L 20 i) h3 (w := w) (by omega)
              rw [← e, ← hg, ← e14] at this
              exact absurd this (by assumption)
            refine Sem.seg [(.aload_n 0, 0, 0), (.aload_n 1, 0, 0), (.iload 5, 0, 0), (.lload_n 3, 0, 0)] ⟨⟨d15_49, trivial⟩, ⟨d15_50, trivial⟩, ⟨d15_51, trivial⟩, ⟨d15_53, trivial⟩, trivial⟩ (lv' := [(0, aR 12 0), (1, aR 19 i), (3, aL g), (5, aN w)]) (st' := [aL g, aN w, aR 19 i, aR 12 0, aN w, aR 21 i]) (w' := wd N1 L1) (P := []) rfl (trivial) (pc' := 54) rfl ?_
            refine Sem.cVp1 (t := 12) (i := 0) (as := [aR 19 i, aN w, aL g]) (rst := [aN w, aR 21 i]) (c' := 0) (s' := 0) d15_54 mk20 rfl co20 lk3_42 im20 se20 rfl (vN (t := 12) (i := 0) (by decide)) (show 5 ≤ mL 20 by decide) rfl (show 2 ≤ 8 by decide) (by decide) (by decide) rfl rfl (by decide) (by decide) (m20 N1 L1 i w g hi (by omega) (by rw [fN 19 i 0 (by decide)]; exact hr) (by rw [fN 19 i 1 (by decide)]; exact hz) (fun h => by rw [fN 19 i 0 (by decide)] at h; rw [h16 h w (by omega) (hne h)]; exact (lastF_at (by omega)).2)) ?_
            refine Sem.goto (tgt := 61) d15_57 (by decide) ?_
            have hq1 : lotC N1 L1 i w g = planF (N 19 i) (L 18 0) (L 20 i) w := by
              show _ = plO _ _ _ _
              unfold plO
              rw [← hg, ← e14]
              first
              | (rw [if_pos (by assumption)]; rfl)
              | (rw [if_neg (by assumption), lotC_F fN h14 (by omega) hz (fun h => h16 h w (by omega) (hne h))])
            refine Sem.seg [(.lastore, 0, 0), (.lload_n 3, 0, 0), (.aload_n 1, 0, 0), (.getfield 39, 2, 12), (.iload 5, 0, 0), (.laload, 0, 0)] ⟨⟨d15_61, trivial⟩, ⟨d15_62, trivial⟩, ⟨d15_63, trivial⟩, ⟨d15_64, gf3_39⟩, ⟨d15_67, trivial⟩, ⟨d15_69, trivial⟩, trivial⟩ (lv' := [(0, aR 12 0), (1, aR 19 i), (3, aL g), (5, aN w)]) (st' := [aL ((upL L1 21 i w (lotC N1 L1 i w g)) 21 i w), aL g]) (w' := wd N1 (upL L1 21 i w (lotC N1 L1 i w g))) (P := [vld NN 21 i, w < 12, vld NN 19 i, vld NN 21 i, w < 12]) rfl (⟨vN (t := 21) (i := i) (show i < 12 by omega), (show w < 12 by omega), vN (t := 19) (i := i) (show i < 12 by omega), vN (t := 21) (i := i) (show i < 12 by omega), (show w < 12 by omega)⟩) (pc' := 70) rfl ?_
            refine Sem.topLL (show (upL L1 21 i w (lotC N1 L1 i w g)) 21 i w = lotC N1 L1 i w g by simp [upN, upL]) ?_
            refine Sem.seg [(.ladd, 0, 0), (.lstore_n 3, 0, 0), (.aload_n 1, 0, 0), (.getfield 46, 2, 13), (.iload 5, 0, 0), (.aload_n 0, 0, 0), (.getfield 9, 3, 0), (.iload 5, 0, 0), (.laload, 0, 0), (.lload_n 3, 0, 0), (.ladd, 0, 0), (.lastore, 0, 0), (.iinc 5 1, 0, 0)] ⟨⟨d15_70, trivial⟩, ⟨d15_71, trivial⟩, ⟨d15_72, trivial⟩, ⟨d15_73, gf3_46⟩, ⟨d15_76, trivial⟩, ⟨d15_78, trivial⟩, ⟨d15_79, gf3_9⟩, ⟨d15_82, trivial⟩, ⟨d15_84, trivial⟩, ⟨d15_85, trivial⟩, ⟨d15_86, trivial⟩, ⟨d15_87, trivial⟩, ⟨d15_88, trivial⟩, trivial⟩ (lv' := [(5, aN (w + 1)), (3, aL (g + (lotC N1 L1 i w g))), (0, aR 12 0), (1, aR 19 i)]) (st' := []) (w' := wd N1 (upL (upL L1 21 i w (lotC N1 L1 i w g)) 22 i w ((L1 13 0 w) + (g + (lotC N1 L1 i w g))))) (P := [vld NN 19 i, vld NN 12 0, vld NN 13 0, w < 12, vld NN 22 i, w < 12]) rfl (⟨vN (t := 19) (i := i) (show i < 12 by omega), vN (t := 12) (i := 0) (by decide), vN (t := 13) (i := 0) (by decide), (show w < 12 by omega), vN (t := 22) (i := i) (show i < 12 by omega), (show w < 12 by omega)⟩) (pc' := 91) rfl ?_
            refine Sem.goto (tgt := 24) d15_91 (by decide) ?_
            refine Sem.pick [2, 3, 1, 0] (lv' := [(0, aR 12 0), (1, aR 19 i), (3, aL (g + (lotC N1 L1 i w g))), (5, aN (w + 1))]) rfl ?_
            exact ih _ (by omega) (w + 1) (g + (lotC N1 L1 i w g)) N1 (upL (upL L1 21 i w (lotC N1 L1 i w g)) 22 i w ((L1 13 0 w) + (g + (lotC N1 L1 i w g)))) rfl (by omega) (by rw [hq1, hg]; rfl) (fN) (fun t a b h1 h2 h3 h4 h5 => (upL_ne (by omega)).trans ((upL_ne (by omega)).trans (fL t a b h1 h2 h3 h4 h5))) (fun q h => (upL_ne (by omega)).trans ((upL_ne (by omega)).trans (h13 q h))) (fun q h => (upL_ne (by omega)).trans ((upL_ne (by omega)).trans (h14 q h))) (h16) (all_s (fun q h => ⟨(upL_ne (by omega)).trans ((upL_ne (by omega)).trans (hq q h).1), (upL_ne (by omega)).trans ((upL_ne (by omega)).trans (hq q h).2)⟩) ⟨(upL_ne (by omega)).trans (upL_at.trans (hq1.trans rfl)), upL_at.trans (by rw [h13 w (by omega), hq1, hg]; rfl)⟩)
    refine Sem.pick [2, 3, 1, 0] (lv' := [(0, aR 12 0), (1, aR 19 i), (3, aL (Int64.ofNat 0)), (5, aN 0)]) rfl ?_
    exact lp _ 0 (Int64.ofNat 0) N1 L1 rfl (by omega) (rfl) (gN) (fun t a b h1 h2 h3 _ _ => (gL t a b h3).trans ((upW_ne (by omega)).trans (upW_ne (by omega)))) (fun q h => (gL 13 0 q (by decide)).trans ((upW_ne (by omega)).trans (upW_at h))) (fun q h => (gL 14 0 q (by decide)).trans (upW_at h)) (fun _ q h1 h2 => (g16 q h1 (by rw [hnd q h1, hpv q h1]; exact h2)).trans (hla q h1)) (fun q h => absurd h (by omega))
end
section
-- ===== the class: gross needs =====
theorem m10 {sc : XT} (N : TN) (L : TL) (p i : Nat) (hp : p < 12) (hi : i < 12) (hc : CD N) : Sem sc 10 0 [(0, aR 0 0), (1, aN p), (2, aN i)] [] (wd N L) 0 0 (QP none N (upW L 17 0 12 (fun w => L 17 0 w + askF N L p i w))) := by
  have hl := (hc.1 p hp).2.2.2.1
  have h9 := hc.2.2.2.1 (p * 12 + i) (by omega)
  refine Sem.seg [(.iload_n 1, 0, 0), (.iload_n 2, 0, 0)] ⟨⟨d10_0, trivial⟩, ⟨d10_1, trivial⟩, trivial⟩ (lv' := [(0, aR 0 0), (1, aN p), (2, aN i)]) (st' := [aN i, aN p]) (w' := wd N L) (P := []) rfl (trivial) (pc' := 2) rfl ?_
  refine Sem.cSp1 (as := [aN p, aN i]) (rst := []) (c' := 0) (s' := 0) d10_2 mk11 rfl co11 lk4_98 ss11 (show 2 ≤ mL 11 by decide) rfl (show 0 ≤ 8 by decide) (by decide) (by decide) rfl rfl (by decide) (by decide) (m11 N L p i) ?_
  refine Sem.seg [(.istore_n 3, 0, 0), (.aload_n 0, 0, 0), (.getfield 18, 4, 1), (.getfield 250, 0, 0), (.iload_n 3, 0, 0), (.iaload, 0, 0)] ⟨⟨d10_5, trivial⟩, ⟨d10_6, trivial⟩, ⟨d10_7, gf4_18⟩, ⟨d10_10, gf4_250⟩, ⟨d10_13, trivial⟩, ⟨d10_14, trivial⟩, trivial⟩ (lv' := [(3, aN ((p * 12) + i)), (0, aR 0 0), (1, aN p), (2, aN i)]) (st' := [aN (N 3 0 ((p * 12) + i))]) (w' := wd N L) (P := [vld NN 0 0, vld NN 2 0, vld NN 3 0, (p * 12) + i < 144]) rfl (⟨vN (t := 0) (i := 0) (by decide), vN (t := 2) (i := 0) (by decide), vN (t := 3) (i := 0) (by decide), (show (p * 12) + i < 144 by omega)⟩) (pc' := 15) rfl ?_
  refine Sem.ifN (tgt := 19) d10_15 (by decide) (show N 3 0 ((p * 12) + i) < 2 ^ 31 by omega) (fun b1 => ?_) (fun b1 => ?_)
  · have b1_ : ¬ N 3 0 ((p * 12) + i) = 0 := b1
    have h0 : ¬ N 3 0 (p * 12 + i) = 0 := by assumption
    obtain ⟨h4, h5⟩ := hc.2.2.2.2.1 (p * 12 + i) (by omega) h0
    refine Sem.seg [(.aload_n 0, 0, 0), (.getfield 11, 4, 0), (.iload_n 1, 0, 0), (.aaload, 0, 0), (.astore 4, 0, 0), (.iconst 0, 0, 0), (.istore 5, 0, 0)] ⟨⟨d10_19, trivial⟩, ⟨d10_20, gf4_11⟩, ⟨d10_23, trivial⟩, ⟨d10_24, trivial⟩, ⟨d10_25, trivial⟩, ⟨d10_27, trivial⟩, ⟨d10_28, trivial⟩, trivial⟩ (lv' := [(5, aN 0), (4, aR 19 p), (3, aN ((p * 12) + i)), (0, aR 0 0), (1, aN p), (2, aN i)]) (st' := []) (w' := wd N L) (P := [vld NN 0 0, vld NN 1 0, p < 12]) rfl (⟨vN (t := 0) (i := 0) (by decide), vN (t := 1) (i := 0) (by decide), (show p < 12 by omega)⟩) (pc' := 30) rfl ?_
    have lp : ∀ (d : Nat) (w : Nat) (L1 : TL), 12 - w = d → (w ≤ 12) → (L1 = upW L 17 0 w (fun w => L 17 0 w + askF N L p i w)) → Sem sc 10 30 [(0, aR 0 0), (2, aN i), (3, aN ((p * 12) + i)), (4, aR 19 p), (5, aN w)] [] (wd N L1) 0 0 (QP none N (upW L 17 0 12 (fun w => L 17 0 w + askF N L p i w))) := by
      intro d
      induction d using Nat.strongRecOn with
      | ind d ih =>
        intro w L1 hd hw hL
        refine Sem.seg [(.iload 5, 0, 0), (.bipush 12, 0, 0)] ⟨⟨d10_30, trivial⟩, ⟨d10_32, trivial⟩, trivial⟩ (lv' := [(0, aR 0 0), (2, aN i), (3, aN ((p * 12) + i)), (4, aR 19 p), (5, aN w)]) (st' := [aN 12, aN w]) (w' := wd N L1) (P := []) rfl (trivial) (pc' := 34) rfl ?_
        refine Sem.icmpN (tgt := 108) d10_34 (by decide) (show w < 2 ^ 31 by omega) (by decide) (fun b2 => ?_) (fun b2 => ?_)
        · have b2_ : 12 ≤ w := b2
          obtain rfl : w = 12 := by omega
          subst hL
          exact Sem.vret d10_108 rfl (by decide) (by decide) hzW ⟨rfl, rfl⟩
        · have b2_ : ¬ (12 ≤ w) := b2
          have e21 : ∀ q, L1 21 p q = L 21 p q := fun q => by rw [hL]; exact upW_ne (by omega)
          refine Sem.seg [(.iload 5, 0, 0), (.aload_n 0, 0, 0), (.getfield 18, 4, 1), (.getfield 253, 0, 1), (.iload_n 3, 0, 0), (.iaload, 0, 0)] ⟨⟨d10_37, trivial⟩, ⟨d10_39, trivial⟩, ⟨d10_40, gf4_18⟩, ⟨d10_43, gf4_253⟩, ⟨d10_46, trivial⟩, ⟨d10_47, trivial⟩, trivial⟩ (lv' := [(0, aR 0 0), (2, aN i), (3, aN ((p * 12) + i)), (4, aR 19 p), (5, aN w)]) (st' := [aN (N 4 0 ((p * 12) + i)), aN w]) (w' := wd N L1) (P := [vld NN 0 0, vld NN 2 0, vld NN 4 0, (p * 12) + i < 144]) rfl (⟨vN (t := 0) (i := 0) (by decide), vN (t := 2) (i := 0) (by decide), vN (t := 4) (i := 0) (by decide), (show (p * 12) + i < 144 by omega)⟩) (pc' := 48) rfl ?_
          refine Sem.icmpN (tgt := 102) d10_48 (by decide) (show w < 2 ^ 31 by omega) (show N 4 0 ((p * 12) + i) < 2 ^ 31 by omega) (fun b3 => ?_) (fun b3 => ?_)
          · have b3_ : w < N 4 0 ((p * 12) + i) := b3
            have hA : askF N L p i w = 0 := askF_out (by omega)
            refine Sem.seg [(.iinc 5 1, 0, 0)] ⟨⟨d10_102, trivial⟩, trivial⟩ (lv' := [(5, aN (w + 1)), (0, aR 0 0), (2, aN i), (3, aN ((p * 12) + i)), (4, aR 19 p)]) (st' := []) (w' := wd N L1) (P := []) rfl (trivial) (pc' := 105) rfl ?_
            refine Sem.goto (tgt := 30) d10_105 (by decide) ?_
            refine Sem.pick [1, 2, 3, 4, 0] (lv' := [(0, aR 0 0), (2, aN i), (3, aN ((p * 12) + i)), (4, aR 19 p), (5, aN (w + 1))]) rfl ?_
            exact ih _ (by omega) (w + 1) L1 rfl (by omega) (by rw [hL]; exact upW_skip (by simp only [hA]; simp))
          · have b3_ : ¬ (w < N 4 0 ((p * 12) + i)) := b3
            refine Sem.seg [(.iload 5, 0, 0), (.aload_n 0, 0, 0), (.getfield 18, 4, 1), (.getfield 256, 0, 2), (.iload_n 3, 0, 0), (.iaload, 0, 0)] ⟨⟨d10_51, trivial⟩, ⟨d10_53, trivial⟩, ⟨d10_54, gf4_18⟩, ⟨d10_57, gf4_256⟩, ⟨d10_60, trivial⟩, ⟨d10_61, trivial⟩, trivial⟩ (lv' := [(0, aR 0 0), (2, aN i), (3, aN ((p * 12) + i)), (4, aR 19 p), (5, aN w)]) (st' := [aN (N 5 0 ((p * 12) + i)), aN w]) (w' := wd N L1) (P := [vld NN 0 0, vld NN 2 0, vld NN 5 0, (p * 12) + i < 144]) rfl (⟨vN (t := 0) (i := 0) (by decide), vN (t := 2) (i := 0) (by decide), vN (t := 5) (i := 0) (by decide), (show (p * 12) + i < 144 by omega)⟩) (pc' := 62) rfl ?_
            refine Sem.icmpN (tgt := 102) d10_62 (by decide) (show w < 2 ^ 31 by omega) (show N 5 0 ((p * 12) + i) < 2 ^ 31 by omega) (fun b4 => ?_) (fun b4 => ?_)
            · have b4_ : N 5 0 ((p * 12) + i) < w := b4
              have hA : askF N L p i w = 0 := askF_out (by omega)
              refine Sem.seg [(.iinc 5 1, 0, 0)] ⟨⟨d10_102, trivial⟩, trivial⟩ (lv' := [(5, aN (w + 1)), (0, aR 0 0), (2, aN i), (3, aN ((p * 12) + i)), (4, aR 19 p)]) (st' := []) (w' := wd N L1) (P := []) rfl (trivial) (pc' := 105) rfl ?_
              refine Sem.goto (tgt := 30) d10_105 (by decide) ?_
              refine Sem.pick [1, 2, 3, 4, 0] (lv' := [(0, aR 0 0), (2, aN i), (3, aN ((p * 12) + i)), (4, aR 19 p), (5, aN (w + 1))]) rfl ?_
              exact ih _ (by omega) (w + 1) L1 rfl (by omega) (by rw [hL]; exact upW_skip (by simp only [hA]; simp))
            · have b4_ : ¬ (N 5 0 ((p * 12) + i) < w) := b4
              refine Sem.seg [(.aload_n 0, 0, 0), (.getfield 42, 4, 6), (.iload 5, 0, 0), (.dup2, 0, 0), (.laload, 0, 0), (.aload_n 0, 0, 0), (.getfield 11, 4, 0), (.iload_n 2, 0, 0), (.aaload, 0, 0), (.aload 4, 0, 0), (.iload 5, 0, 0)] ⟨⟨d10_65, trivial⟩, ⟨d10_66, gf4_42⟩, ⟨d10_69, trivial⟩, ⟨d10_71, trivial⟩, ⟨d10_72, trivial⟩, ⟨d10_73, trivial⟩, ⟨d10_74, gf4_11⟩, ⟨d10_77, trivial⟩, ⟨d10_78, trivial⟩, ⟨d10_79, trivial⟩, ⟨d10_81, trivial⟩, trivial⟩ (lv' := [(0, aR 0 0), (2, aN i), (3, aN ((p * 12) + i)), (4, aR 19 p), (5, aN w)]) (st' := [aN w, aR 19 p, aR 19 i, aL (L1 17 0 w), aN w, aR 17 0]) (w' := wd N L1) (P := [vld NN 0 0, vld NN 17 0, w < 12, vld NN 0 0, vld NN 1 0, i < 12]) rfl (⟨vN (t := 0) (i := 0) (by decide), vN (t := 17) (i := 0) (by decide), (show w < 12 by omega), vN (t := 0) (i := 0) (by decide), vN (t := 1) (i := 0) (by decide), (show i < 12 by omega)⟩) (pc' := 83) rfl ?_
              refine Sem.cVp1 (t := 19) (i := p) (as := [aN w]) (rst := [aR 19 i, aL (L1 17 0 w), aN w, aR 17 0]) (c' := 0) (s' := 0) d10_83 mk12 rfl co12 lk4_180 im12 se12 rfl (vN (t := 19) (i := p) (show p < 12 by omega)) (show 2 ≤ mL 12 by decide) rfl (show 5 ≤ 8 by decide) (by decide) (by decide) rfl rfl (by decide) (by decide) (m12 N L1 p w hp (by omega) hl) ?_
              refine Sem.seg [(.aload_n 0, 0, 0), (.getfield 18, 4, 1), (.getfield 250, 0, 0), (.iload_n 3, 0, 0), (.iaload, 0, 0), (.i2l, 0, 0), (.lmul, 0, 0)] ⟨⟨d10_86, trivial⟩, ⟨d10_87, gf4_18⟩, ⟨d10_90, gf4_250⟩, ⟨d10_93, trivial⟩, ⟨d10_94, trivial⟩, ⟨d10_95, trivial⟩, ⟨d10_96, trivial⟩, trivial⟩ (lv' := [(0, aR 0 0), (2, aN i), (3, aN ((p * 12) + i)), (4, aR 19 p), (5, aN w)]) (st' := [aL ((if w + N 19 p 2 < 12 then L1 21 p (w + N 19 p 2) else 0) * ((nI (N 3 0 ((p * 12) + i))).toInt64)), aR 19 i, aL (L1 17 0 w), aN w, aR 17 0]) (w' := wd N L1) (P := [vld NN 0 0, vld NN 2 0, vld NN 3 0, (p * 12) + i < 144]) rfl (⟨vN (t := 0) (i := 0) (by decide), vN (t := 2) (i := 0) (by decide), vN (t := 3) (i := 0) (by decide), (show (p * 12) + i < 144 by omega)⟩) (pc' := 97) rfl ?_
              refine Sem.cVp1 (t := 19) (i := i) (as := [aL ((if w + N 19 p 2 < 12 then L1 21 p (w + N 19 p 2) else 0) * ((nI (N 3 0 ((p * 12) + i))).toInt64))]) (rst := [aL (L1 17 0 w), aN w, aR 17 0]) (c' := 0) (s' := 0) d10_97 mk13 rfl co13 lk4_259 im13 se13 rfl (vN (t := 19) (i := i) (show i < 12 by omega)) (show 3 ≤ mL 13 by decide) rfl (show 4 ≤ 8 by decide) (by decide) (by decide) rfl rfl (by decide) (by decide) (m13 N L1 i ((if w + N 19 p 2 < 12 then L1 21 p (w + N 19 p 2) else 0) * ((nI (N 3 0 ((p * 12) + i))).toInt64)) hi) ?_
              refine Sem.seg [(.ladd, 0, 0), (.lastore, 0, 0)] ⟨⟨d10_100, trivial⟩, ⟨d10_101, trivial⟩, trivial⟩ (lv' := [(0, aR 0 0), (2, aN i), (3, aN ((p * 12) + i)), (4, aR 19 p), (5, aN w)]) (st' := []) (w' := wd N (upL L1 17 0 w ((L1 17 0 w) + (scr ((if w + N 19 p 2 < 12 then L1 21 p (w + N 19 p 2) else 0) * ((nI (N 3 0 ((p * 12) + i))).toInt64)) (N 19 i 4))))) (P := [vld NN 17 0, w < 12]) rfl (⟨vN (t := 17) (i := 0) (by decide), (show w < 12 by omega)⟩) (pc' := 102) rfl ?_
              have hA : scr ((if w + N 19 p 2 < 12 then L1 21 p (w + N 19 p 2) else 0) * (nI (N 3 0 ((p * 12) + i))).toInt64) (N 19 i 4) = askF N L p i w := by
                rw [askF_in h0 (by omega), e21]
              refine Sem.seg [(.iinc 5 1, 0, 0)] ⟨⟨d10_102, trivial⟩, trivial⟩ (lv' := [(5, aN (w + 1)), (0, aR 0 0), (2, aN i), (3, aN ((p * 12) + i)), (4, aR 19 p)]) (st' := []) (w' := wd N (upL L1 17 0 w ((L1 17 0 w) + (scr ((if w + N 19 p 2 < 12 then L1 21 p (w + N 19 p 2) else 0) * ((nI (N 3 0 ((p * 12) + i))).toInt64)) (N 19 i 4))))) (P := []) rfl (trivial) (pc' := 105) rfl ?_
              refine Sem.goto (tgt := 30) d10_105 (by decide) ?_
              refine Sem.pick [1, 2, 3, 4, 0] (lv' := [(0, aR 0 0), (2, aN i), (3, aN ((p * 12) + i)), (4, aR 19 p), (5, aN (w + 1))]) rfl ?_
              exact ih _ (by omega) (w + 1) (upL L1 17 0 w ((L1 17 0 w) + (scr ((if w + N 19 p 2 < 12 then L1 21 p (w + N 19 p 2) else 0) * ((nI (N 3 0 ((p * 12) + i))).toInt64)) (N 19 i 4)))) rfl (by omega) (by rw [hA, hL]; exact upW_s (by rw [upW_ne (by omega)]))
    refine Sem.pick [3, 5, 2, 1, 0] (lv' := [(0, aR 0 0), (2, aN i), (3, aN ((p * 12) + i)), (4, aR 19 p), (5, aN 0)]) rfl ?_
    exact lp _ 0 L rfl (by omega) (upW_0.symm)
  · have b1_ : ¬ (¬ N 3 0 ((p * 12) + i) = 0) := b1
    have hz : (fun w => L 17 0 w + askF N L p i w) = fun w => L 17 0 w := by
      funext w
      rw [askF_no (by omega)]
      simp
    rw [hz, upW_id]
    exact Sem.vret d10_18 rfl (by decide) (by decide) hzW ⟨rfl, rfl⟩

theorem m7 {sc : XT} (N : TN) (L : TL) (i : Nat) (hi : i < 12) (hc : CD N) : Sem sc 7 0 [(0, aR 0 0), (1, aN i)] [] (wd N L) 0 0 (QP none N (upW L 17 0 12 (grF N L i))) := by
  refine Sem.seg [(.aload_n 0, 0, 0), (.getfield 42, 4, 6), (.lconst 0, 0, 0)] ⟨⟨d7_0, trivial⟩, ⟨d7_1, gf4_42⟩, ⟨d7_4, trivial⟩, trivial⟩ (lv' := [(0, aR 0 0), (1, aN i)]) (st' := [aL (Int64.ofNat 0), aR 17 0]) (w' := wd N L) (P := [vld NN 0 0]) rfl (vN (t := 0) (i := 0) (by decide)) (pc' := 5) rfl ?_
  refine Sem.cSp0 (as := [aR 17 0, aL (Int64.ofNat 0)]) (rst := []) (c' := 0) (s' := 0) d7_5 mk8 rfl co8 lk4_232 ss8 (show 3 ≤ mL 8 by decide) rfl (show 0 ≤ 8 by decide) (by decide) (by decide) rfl rfl (by decide) (by decide) (m8_17 N L) ?_
  refine Sem.seg [(.aload_n 0, 0, 0), (.getfield 25, 4, 2), (.aload_n 0, 0, 0), (.getfield 42, 4, 6), (.iload_n 1, 0, 0)] ⟨⟨d7_8, trivial⟩, ⟨d7_9, gf4_25⟩, ⟨d7_12, trivial⟩, ⟨d7_13, gf4_42⟩, ⟨d7_16, trivial⟩, trivial⟩ (lv' := [(0, aR 0 0), (1, aN i)]) (st' := [aN i, aR 17 0, aR 8 0]) (w' := wd N (upW L 17 0 12 (fun _ => 0))) (P := [vld NN 0 0, vld NN 0 0]) rfl (⟨vN (t := 0) (i := 0) (by decide), vN (t := 0) (i := 0) (by decide)⟩) (pc' := 17) rfl ?_
  refine Sem.cVp0 (t := 8) (i := 0) (as := [aR 17 0, aN i]) (rst := []) (c' := 0) (s' := 0) d7_17 mk9 rfl co9 lk4_238 im9 se9 rfl (vN (t := 8) (i := 0) (by decide)) (show 3 ≤ mL 9 by decide) rfl (show 0 ≤ 8 by decide) (by decide) (by decide) rfl rfl (by decide) (by decide) (m9_17 N (upW L 17 0 12 (fun _ => 0)) i hi (hc.2.1 0 (by decide)).1 (hc.2.1 0 (by decide)).2.1 (hc.2.1 0 (by decide)).2.2.1) ?_
  refine Sem.seg [(.iconst 0, 0, 0), (.istore_n 2, 0, 0)] ⟨⟨d7_20, trivial⟩, ⟨d7_21, trivial⟩, trivial⟩ (lv' := [(2, aN 0), (0, aR 0 0), (1, aN i)]) (st' := []) (w' := wd N (upW (upW L 17 0 12 (fun _ => 0)) 17 0 12 (fun w => (upW L 17 0 12 (fun _ => 0)) 17 0 w + bat (N 9 0) (N 10 0) (N 11 0) i w (N 8 0 3)))) (P := []) rfl (trivial) (pc' := 22) rfl ?_
  have lp : ∀ (d : Nat) (p : Nat), 12 - p = d → (p ≤ 12) → Sem sc 7 22 [(0, aR 0 0), (1, aN i), (2, aN p)] [] (wd N (upW L 17 0 12 (fun w => dmF N i w + sm (fun z => askF N L z i w) p))) 0 0 (QP none N (upW L 17 0 12 (grF N L i))) := by
    intro d
    induction d using Nat.strongRecOn with
    | ind d ih =>
      intro p hd hp
      refine Sem.seg [(.iload_n 2, 0, 0), (.bipush 12, 0, 0)] ⟨⟨d7_22, trivial⟩, ⟨d7_23, trivial⟩, trivial⟩ (lv' := [(0, aR 0 0), (1, aN i), (2, aN p)]) (st' := [aN 12, aN p]) (w' := wd N (upW L 17 0 12 (fun w => dmF N i w + sm (fun z => askF N L z i w) p))) (P := []) rfl (trivial) (pc' := 25) rfl ?_
      refine Sem.icmpN (tgt := 40) d7_25 (by decide) (show p < 2 ^ 31 by omega) (by decide) (fun b1 => ?_) (fun b1 => ?_)
      · have b1_ : 12 ≤ p := b1
        obtain rfl : p = 12 := by omega
        exact Sem.vret d7_40 rfl (by decide) (by decide) hzW ⟨rfl, rfl⟩
      · have b1_ : ¬ (12 ≤ p) := b1
        refine Sem.seg [(.aload_n 0, 0, 0), (.iload_n 2, 0, 0), (.iload_n 1, 0, 0)] ⟨⟨d7_28, trivial⟩, ⟨d7_29, trivial⟩, ⟨d7_30, trivial⟩, trivial⟩ (lv' := [(0, aR 0 0), (1, aN i), (2, aN p)]) (st' := [aN i, aN p, aR 0 0]) (w' := wd N (upW L 17 0 12 (fun w => dmF N i w + sm (fun z => askF N L z i w) p))) (P := []) rfl (trivial) (pc' := 31) rfl ?_
        refine Sem.cVp0 (t := 0) (i := 0) (as := [aN p, aN i]) (rst := []) (c' := 0) (s' := 0) d7_31 mk10 rfl co10 lk4_246 im10 se10 rfl (vN (t := 0) (i := 0) (by decide)) (show 3 ≤ mL 10 by decide) rfl (show 0 ≤ 8 by decide) (by decide) (by decide) rfl rfl (by decide) (by decide) (m10 N (upW L 17 0 12 (fun w => dmF N i w + sm (fun z => askF N L z i w) p)) p i (by omega) hi hc) ?_
        refine Sem.seg [(.iinc 2 1, 0, 0)] ⟨⟨d7_34, trivial⟩, trivial⟩ (lv' := [(2, aN (p + 1)), (0, aR 0 0), (1, aN i)]) (st' := []) (w' := wd N (upW (upW L 17 0 12 (fun w => dmF N i w + sm (fun z => askF N L z i w) p)) 17 0 12 (fun w => (upW L 17 0 12 (fun w => dmF N i w + sm (fun z => askF N L z i w) p)) 17 0 w + askF N (upW L 17 0 12 (fun w => dmF N i w + sm (fun z => askF N L z i w) p)) p i w))) (P := []) rfl (trivial) (pc' := 37) rfl ?_
        refine Sem.goto (tgt := 22) d7_37 (by decide) ?_
        refine Sem.pick [1, 2, 0] (lv' := [(0, aR 0 0), (1, aN i), (2, aN (p + 1))]) rfl ?_
        refine Sem.weq (congrArg (fun z => wd N z) (show upW (upW L 17 0 12 (fun w => dmF N i w + sm (fun z => askF N L z i w) p)) 17 0 12 (fun w => (upW L 17 0 12 (fun w => dmF N i w + sm (fun z => askF N L z i w) p)) 17 0 w + askF N (upW L 17 0 12 (fun w => dmF N i w + sm (fun z => askF N L z i w) p)) p i w) = upW L 17 0 12 (fun w => dmF N i w + sm (fun z => askF N L z i w) (p + 1)) from by rw [upW_2]; refine upW_cg (fun j hj => ?_); rw [upW_at hj]; simp only [sm]; rw [Int64.add_assoc]; rfl)) ?_
        exact ih _ (by omega) (p + 1) rfl (by omega)
  refine Sem.pick [1, 2, 0] (lv' := [(0, aR 0 0), (1, aN i), (2, aN 0)]) rfl ?_
  refine Sem.weq (congrArg (fun z => wd N z) (show upW (upW L 17 0 12 (fun _ => 0)) 17 0 12 (fun w => (upW L 17 0 12 (fun _ => 0)) 17 0 w + bat (N 9 0) (N 10 0) (N 11 0) i w (N 8 0 3)) = upW L 17 0 12 (fun w => dmF N i w + sm (fun z => askF N L z i w) 0) from by rw [upW_2]; refine upW_cg (fun j hj => ?_); rw [upW_at hj]; simp [sm, dmF])) ?_
  exact lp _ 0 rfl (by omega)
end
section
-- ===== the class: an item planned anew =====
/-- what planning an item anew leaves -/
def PA (N : TN) (L : TL) (i z : Nat) (N' : TN) (L' : TL) : Prop :=
  (∀ t a b, t ≠ 16 → ¬ (t = 19 ∧ a = i ∧ b = 10) → N' t a b = N t a b) ∧ N' 19 i 10 = 0 ∧
  (∀ t a b, t ≠ 13 → t ≠ 14 → t ≠ 15 → t ≠ 17 → t ≠ 18 → ¬ (t = 20 ∧ a = i) → ¬ (t = 21 ∧ a = i) → ¬ (t = 22 ∧ a = i) → L' t a b = L t a b) ∧
  (∀ w, w < 12 → L' 20 i w = grF N L i w ∧ L' 21 i w = planF (N 19 i) (brF N i) (grF N L i) w ∧ L' 22 i w = balF (N 19 i) (brF N i) (grF N L i) w) ∧
  z = bo (¬ N 19 i 10 = 0 ∨ ¬ ∀ w, w < 12 → grF N L i w = L 20 i w)

theorem m6 {sc : XT} (N : TN) (L : TL) (i : Nat) (hi : i < 12) (hc : CD N) (hp : PC N L) : Sem sc 6 0 [(0, aR 0 0), (1, aN i)] [] (wd N L) 0 0 (QZ (PA N L i)) := by
  obtain ⟨i0, i1, i2, i3, _, _, _, _, _, _, _, i11⟩ := hc.1 i hi
  refine Sem.seg [(.aload_n 0, 0, 0), (.getfield 11, 4, 0), (.iload_n 1, 0, 0), (.aaload, 0, 0), (.astore_n 2, 0, 0), (.aload_n 0, 0, 0), (.iload_n 1, 0, 0)] ⟨⟨d6_0, trivial⟩, ⟨d6_1, gf4_11⟩, ⟨d6_4, trivial⟩, ⟨d6_5, trivial⟩, ⟨d6_6, trivial⟩, ⟨d6_7, trivial⟩, ⟨d6_8, trivial⟩, trivial⟩ (lv' := [(2, aR 19 i), (0, aR 0 0), (1, aN i)]) (st' := [aN i, aR 0 0]) (w' := wd N L) (P := [vld NN 0 0, vld NN 1 0, i < 12]) rfl (⟨vN (t := 0) (i := 0) (by decide), vN (t := 1) (i := 0) (by decide), (show i < 12 by first | omega | exact Nat.lt_of_le_of_lt (bo_le _) (by decide))⟩) (pc' := 9) rfl ?_
  refine Sem.cVp0 (t := 0) (i := 0) (as := [aN i]) (rst := []) (c' := 0) (s' := 0) d6_9 mk7 rfl co7 lk4_219 im7 se7 rfl (vN (t := 0) (i := 0) (by decide)) (show 2 ≤ mL 7 by decide) rfl (show 0 ≤ 8 by decide) (by decide) (by decide) rfl rfl (by decide) (by decide) (m7 N L i hi hc) ?_
  refine Sem.seg [(.aload_n 2, 0, 0), (.getfield 71, 2, 10)] ⟨⟨d6_12, trivial⟩, ⟨d6_13, gf4_71⟩, trivial⟩ (lv' := [(2, aR 19 i), (0, aR 0 0), (1, aN i)]) (st' := [aN (N 19 i 10)]) (w' := wd N (upW L 17 0 12 (grF N L i))) (P := [vld NN 19 i]) rfl (vN (t := 19) (i := i) (show i < 12 by first | omega | exact Nat.lt_of_le_of_lt (bo_le _) (by decide))) (pc' := 16) rfl ?_
  refine Sem.ifN (tgt := 32) d6_16 (by decide) (show N 19 i 10 < 2 ^ 31 by first | omega | exact Nat.lt_of_le_of_lt (bo_le _) (by decide)) (fun b1 => ?_) (fun b1 => ?_)
  · have b1_ : ¬ N 19 i 10 = 0 := b1
    have hcd : ¬ N 19 i 10 = 0 ∨ ¬ ∀ w, w < 12 → grF N L i w = L 20 i w := by
      first
      | exact Or.inl (by assumption)
      | exact Or.inr (fun h => by
          have : bo (∀ w, w < 12 → (upW L 17 0 12 (grF N L i)) 20 i w = (upW L 17 0 12 (grF N L i)) 17 0 w) = 1 := bo_t (fun w hw => ((h w hw).symm.trans (upW_at hw).symm))
          omega)
    refine Sem.seg [(.aload_n 0, 0, 0), (.getfield 42, 4, 6), (.iconst 0, 0, 0), (.aload_n 2, 0, 0), (.getfield 149, 2, 11), (.iconst 0, 0, 0), (.bipush 12, 0, 0)] ⟨⟨d6_32, trivial⟩, ⟨d6_33, gf4_42⟩, ⟨d6_36, trivial⟩, ⟨d6_37, trivial⟩, ⟨d6_38, gf4_149⟩, ⟨d6_41, trivial⟩, ⟨d6_42, trivial⟩, trivial⟩ (lv' := [(2, aR 19 i), (0, aR 0 0), (1, aN i)]) (st' := [aN 12, aN 0, aR 20 i, aN 0, aR 17 0]) (w' := wd N (upW L 17 0 12 (grF N L i))) (P := [vld NN 0 0, vld NN 19 i]) rfl (⟨vN (t := 0) (i := 0) (by decide), vN (t := 19) (i := i) (show i < 12 by first | omega | exact Nat.lt_of_le_of_lt (bo_le _) (by decide))⟩) (pc' := 44) rfl ?_
    refine Sem.copyL d6_44 lk4_226 w_native_arraycopyName w_static_arraycopyName inSys rfl rfl (vN (t := 17) (i := 0) (by decide)) (vN (t := 20) (i := i) (show i < 12 by first | omega | exact Nat.lt_of_le_of_lt (bo_le _) (by decide))) (by decide) (by decide) (by decide) (show 0 + (nativeFrameWords "java/lang/System" "arraycopy" 5 + 11) ≤ lo 6 by decide) ?_
    refine Sem.weq (show wCL (wd N (upW L 17 0 12 (grF N L i))) 17 0 20 i 12 = wd N (upW (upW L 17 0 12 (grF N L i)) 20 i 12 ((upW L 17 0 12 (grF N L i)) 17 0)) from rfl) ?_
    refine Sem.seg [(.aload_n 0, 0, 0), (.getfield 46, 4, 7), (.lconst 0, 0, 0)] ⟨⟨d6_47, trivial⟩, ⟨d6_48, gf4_46⟩, ⟨d6_51, trivial⟩, trivial⟩ (lv' := [(2, aR 19 i), (0, aR 0 0), (1, aN i)]) (st' := [aL (Int64.ofNat 0), aR 18 0]) (w' := wd N (upW (upW L 17 0 12 (grF N L i)) 20 i 12 ((upW L 17 0 12 (grF N L i)) 17 0))) (P := [vld NN 0 0]) rfl (vN (t := 0) (i := 0) (by decide)) (pc' := 52) rfl ?_
    refine Sem.cSp0 (as := [aR 18 0, aL (Int64.ofNat 0)]) (rst := []) (c' := 0) (s' := 0) d6_52 mk8 rfl co8 lk4_232 ss8 (show 3 ≤ mL 8 by decide) rfl (show 0 ≤ 8 by decide) (by decide) (by decide) rfl rfl (by decide) (by decide) (m8_18 N (upW (upW L 17 0 12 (grF N L i)) 20 i 12 ((upW L 17 0 12 (grF N L i)) 17 0))) ?_
    refine Sem.seg [(.aload_n 0, 0, 0), (.getfield 29, 4, 3), (.aload_n 0, 0, 0), (.getfield 46, 4, 7), (.iload_n 1, 0, 0)] ⟨⟨d6_55, trivial⟩, ⟨d6_56, gf4_29⟩, ⟨d6_59, trivial⟩, ⟨d6_60, gf4_46⟩, ⟨d6_63, trivial⟩, trivial⟩ (lv' := [(2, aR 19 i), (0, aR 0 0), (1, aN i)]) (st' := [aN i, aR 18 0, aR 8 1]) (w' := wd N (upW (upW (upW L 17 0 12 (grF N L i)) 20 i 12 ((upW L 17 0 12 (grF N L i)) 17 0)) 18 0 12 (fun _ => 0))) (P := [vld NN 0 0, vld NN 0 0]) rfl (⟨vN (t := 0) (i := 0) (by decide), vN (t := 0) (i := 0) (by decide)⟩) (pc' := 64) rfl ?_
    refine Sem.cVp0 (t := 8) (i := 1) (as := [aR 18 0, aN i]) (rst := []) (c' := 0) (s' := 0) d6_64 mk9 rfl co9 lk4_238 im9 se9 rfl (vN (t := 8) (i := 1) (by decide)) (show 3 ≤ mL 9 by decide) rfl (show 0 ≤ 8 by decide) (by decide) (by decide) rfl rfl (by decide) (by decide) (m9_18 N (upW (upW (upW L 17 0 12 (grF N L i)) 20 i 12 ((upW L 17 0 12 (grF N L i)) 17 0)) 18 0 12 (fun _ => 0)) i hi (hc.2.1 1 (by decide)).1 (hc.2.1 1 (by decide)).2.1 (hc.2.1 1 (by decide)).2.2.1) ?_
    refine Sem.seg [(.aload_n 0, 0, 0), (.getfield 38, 4, 5), (.aload_n 2, 0, 0), (.aload_n 0, 0, 0), (.getfield 46, 4, 7)] ⟨⟨d6_67, trivial⟩, ⟨d6_68, gf4_38⟩, ⟨d6_71, trivial⟩, ⟨d6_72, trivial⟩, ⟨d6_73, gf4_46⟩, trivial⟩ (lv' := [(2, aR 19 i), (0, aR 0 0), (1, aN i)]) (st' := [aR 18 0, aR 19 i, aR 12 0]) (w' := wd N (upW (upW (upW (upW L 17 0 12 (grF N L i)) 20 i 12 ((upW L 17 0 12 (grF N L i)) 17 0)) 18 0 12 (fun _ => 0)) 18 0 12 (fun w => (upW (upW (upW L 17 0 12 (grF N L i)) 20 i 12 ((upW L 17 0 12 (grF N L i)) 17 0)) 18 0 12 (fun _ => 0)) 18 0 w + bat (N 9 1) (N 10 1) (N 11 1) i w (N 8 1 3)))) (P := [vld NN 0 0, vld NN 0 0]) rfl (⟨vN (t := 0) (i := 0) (by decide), vN (t := 0) (i := 0) (by decide)⟩) (pc' := 76) rfl ?_
    refine Sem.cVm0 (t := 12) (i := 0) (as := [aR 19 i, aR 18 0]) (rst := []) (c' := 0) (s' := 0) d6_76 mk15 rfl co15 lk4_242 im15 se15 rfl (vN (t := 12) (i := 0) (by decide)) (show 3 ≤ mL 15 by decide) rfl (show 0 ≤ 8 by decide) (by decide) (by decide) rfl rfl (by decide) (by decide) (m15 N (upW (upW (upW (upW L 17 0 12 (grF N L i)) 20 i 12 ((upW L 17 0 12 (grF N L i)) 17 0)) 18 0 12 (fun _ => 0)) 18 0 12 (fun w => (upW (upW (upW L 17 0 12 (grF N L i)) 20 i 12 ((upW L 17 0 12 (grF N L i)) 17 0)) 18 0 12 (fun _ => 0)) 18 0 w + bat (N 9 1) (N 10 1) (N 11 1) i w (N 8 1 3))) i hi i3 (by omega) ⟨i1, i2⟩) ?_
    rintro N1 L1 ⟨fN, fL, hq⟩
    have hbr : ∀ w, w < 12 → (upW (upW (upW (upW L 17 0 12 (grF N L i)) 20 i 12 ((upW L 17 0 12 (grF N L i)) 17 0)) 18 0 12 (fun _ => 0)) 18 0 12 (fun w => (upW (upW (upW L 17 0 12 (grF N L i)) 20 i 12 ((upW L 17 0 12 (grF N L i)) 17 0)) 18 0 12 (fun _ => 0)) 18 0 w + bat (N 9 1) (N 10 1) (N 11 1) i w (N 8 1 3))) 18 0 w = brF N i w := fun w hw => by rw [upW_at hw, upW_at hw, Int64.zero_add]; rfl
    have hgr : ∀ w, w < 12 → (upW (upW (upW (upW L 17 0 12 (grF N L i)) 20 i 12 ((upW L 17 0 12 (grF N L i)) 17 0)) 18 0 12 (fun _ => 0)) 18 0 12 (fun w => (upW (upW (upW L 17 0 12 (grF N L i)) 20 i 12 ((upW L 17 0 12 (grF N L i)) 17 0)) 18 0 12 (fun _ => 0)) 18 0 w + bat (N 9 1) (N 10 1) (N 11 1) i w (N 8 1 3))) 20 i w = grF N L i w := fun w hw => by rw [upW_ne (by omega), upW_ne (by omega), upW_at hw, upW_at hw]
    refine Sem.seg [(.aload_n 2, 0, 0), (.iconst 0, 0, 0), (.putfield 71, 2, 10), (.iconst 1, 0, 0)] ⟨⟨d6_79, trivial⟩, ⟨d6_80, trivial⟩, ⟨d6_81, gf4_71⟩, ⟨d6_84, trivial⟩, trivial⟩ (lv' := [(2, aR 19 i), (0, aR 0 0), (1, aN i)]) (st' := [aN 1]) (w' := wd (upN N1 19 i 10 0) L1) (P := [vld NN 19 i, 0 = 0 ∨ 0 = 1]) rfl (⟨vN (t := 19) (i := i) (show i < 12 by first | omega | exact Nat.lt_of_le_of_lt (bo_le _) (by decide)), (show (0 : Nat) = 0 ∨ (0 : Nat) = 1 by decide)⟩) (pc' := 85) rfl ?_
    exact Sem.iret rfl d6_85 (Or.inr ⟨rfl, by decide⟩) (by decide) (by decide) hzW ⟨_, _, _, rfl, rfl, by exact ⟨fun t a b h1 h2 => (upN_ne (by omega)).trans (fN t a b h1), upN_at, fun t a b h1 h2 h3 h4 h5 h6 h7 h8 => (fL t a b h1 h2 h3 h7 h8).trans (by rw [upW_ne (by omega), upW_ne (by omega), upW_ne (by omega), upW_ne (by omega)]), fun w hw => by
            refine ⟨(fL 20 i w (by omega) (by omega) (by omega) (by omega) (by omega)).trans (hgr w hw), (hq w hw).1.trans ?_, (hq w hw).2.trans ?_⟩
            · exact planF_cg (fun _ _ => rfl) hbr hgr hw
            · exact balF_cg (fun _ _ => rfl) hbr hgr hw, (bo_t hcd).symm⟩⟩
  · have b1_ : ¬ (¬ N 19 i 10 = 0) := b1
    refine Sem.seg [(.aload_n 2, 0, 0), (.aload_n 0, 0, 0), (.getfield 42, 4, 6)] ⟨⟨d6_19, trivial⟩, ⟨d6_20, trivial⟩, ⟨d6_21, gf4_42⟩, trivial⟩ (lv' := [(2, aR 19 i), (0, aR 0 0), (1, aN i)]) (st' := [aR 17 0, aR 19 i]) (w' := wd N (upW L 17 0 12 (grF N L i))) (P := [vld NN 0 0]) rfl (vN (t := 0) (i := 0) (by decide)) (pc' := 24) rfl ?_
    refine Sem.cVp1 (t := 19) (i := i) (as := [aR 17 0]) (rst := []) (c' := 0) (s' := 0) d6_24 mk14 rfl co14 lk4_222 im14 se14 rfl (vN (t := 19) (i := i) (show i < 12 by first | omega | exact Nat.lt_of_le_of_lt (bo_le _) (by decide))) (show 2 ≤ mL 14 by decide) rfl (show 0 ≤ 8 by decide) (by decide) (by decide) rfl rfl (by decide) (by decide) (m14 N (upW L 17 0 12 (grF N L i)) i hi) ?_
    refine Sem.ifN (tgt := 32) d6_27 (by decide) (show bo (∀ w, w < 12 → (upW L 17 0 12 (grF N L i)) 20 i w = (upW L 17 0 12 (grF N L i)) 17 0 w) < 2 ^ 31 by first | omega | exact Nat.lt_of_le_of_lt (bo_le _) (by decide)) (fun b2 => ?_) (fun b2 => ?_)
    · have b2_ : bo (∀ w, w < 12 → (upW L 17 0 12 (grF N L i)) 20 i w = (upW L 17 0 12 (grF N L i)) 17 0 w) = 0 := b2
      have hcd : ¬ N 19 i 10 = 0 ∨ ¬ ∀ w, w < 12 → grF N L i w = L 20 i w := by
        first
        | exact Or.inl (by assumption)
        | exact Or.inr (fun h => by
            have : bo (∀ w, w < 12 → (upW L 17 0 12 (grF N L i)) 20 i w = (upW L 17 0 12 (grF N L i)) 17 0 w) = 1 := bo_t (fun w hw => ((h w hw).symm.trans (upW_at hw).symm))
            omega)
      refine Sem.seg [(.aload_n 0, 0, 0), (.getfield 42, 4, 6), (.iconst 0, 0, 0), (.aload_n 2, 0, 0), (.getfield 149, 2, 11), (.iconst 0, 0, 0), (.bipush 12, 0, 0)] ⟨⟨d6_32, trivial⟩, ⟨d6_33, gf4_42⟩, ⟨d6_36, trivial⟩, ⟨d6_37, trivial⟩, ⟨d6_38, gf4_149⟩, ⟨d6_41, trivial⟩, ⟨d6_42, trivial⟩, trivial⟩ (lv' := [(2, aR 19 i), (0, aR 0 0), (1, aN i)]) (st' := [aN 12, aN 0, aR 20 i, aN 0, aR 17 0]) (w' := wd N (upW L 17 0 12 (grF N L i))) (P := [vld NN 0 0, vld NN 19 i]) rfl (⟨vN (t := 0) (i := 0) (by decide), vN (t := 19) (i := i) (show i < 12 by first | omega | exact Nat.lt_of_le_of_lt (bo_le _) (by decide))⟩) (pc' := 44) rfl ?_
      refine Sem.copyL d6_44 lk4_226 w_native_arraycopyName w_static_arraycopyName inSys rfl rfl (vN (t := 17) (i := 0) (by decide)) (vN (t := 20) (i := i) (show i < 12 by first | omega | exact Nat.lt_of_le_of_lt (bo_le _) (by decide))) (by decide) (by decide) (by decide) (show 0 + (nativeFrameWords "java/lang/System" "arraycopy" 5 + 11) ≤ lo 6 by decide) ?_
      refine Sem.weq (show wCL (wd N (upW L 17 0 12 (grF N L i))) 17 0 20 i 12 = wd N (upW (upW L 17 0 12 (grF N L i)) 20 i 12 ((upW L 17 0 12 (grF N L i)) 17 0)) from rfl) ?_
      refine Sem.seg [(.aload_n 0, 0, 0), (.getfield 46, 4, 7), (.lconst 0, 0, 0)] ⟨⟨d6_47, trivial⟩, ⟨d6_48, gf4_46⟩, ⟨d6_51, trivial⟩, trivial⟩ (lv' := [(2, aR 19 i), (0, aR 0 0), (1, aN i)]) (st' := [aL (Int64.ofNat 0), aR 18 0]) (w' := wd N (upW (upW L 17 0 12 (grF N L i)) 20 i 12 ((upW L 17 0 12 (grF N L i)) 17 0))) (P := [vld NN 0 0]) rfl (vN (t := 0) (i := 0) (by decide)) (pc' := 52) rfl ?_
      refine Sem.cSp0 (as := [aR 18 0, aL (Int64.ofNat 0)]) (rst := []) (c' := 0) (s' := 0) d6_52 mk8 rfl co8 lk4_232 ss8 (show 3 ≤ mL 8 by decide) rfl (show 0 ≤ 8 by decide) (by decide) (by decide) rfl rfl (by decide) (by decide) (m8_18 N (upW (upW L 17 0 12 (grF N L i)) 20 i 12 ((upW L 17 0 12 (grF N L i)) 17 0))) ?_
      refine Sem.seg [(.aload_n 0, 0, 0), (.getfield 29, 4, 3), (.aload_n 0, 0, 0), (.getfield 46, 4, 7), (.iload_n 1, 0, 0)] ⟨⟨d6_55, trivial⟩, ⟨d6_56, gf4_29⟩, ⟨d6_59, trivial⟩, ⟨d6_60, gf4_46⟩, ⟨d6_63, trivial⟩, trivial⟩ (lv' := [(2, aR 19 i), (0, aR 0 0), (1, aN i)]) (st' := [aN i, aR 18 0, aR 8 1]) (w' := wd N (upW (upW (upW L 17 0 12 (grF N L i)) 20 i 12 ((upW L 17 0 12 (grF N L i)) 17 0)) 18 0 12 (fun _ => 0))) (P := [vld NN 0 0, vld NN 0 0]) rfl (⟨vN (t := 0) (i := 0) (by decide), vN (t := 0) (i := 0) (by decide)⟩) (pc' := 64) rfl ?_
      refine Sem.cVp0 (t := 8) (i := 1) (as := [aR 18 0, aN i]) (rst := []) (c' := 0) (s' := 0) d6_64 mk9 rfl co9 lk4_238 im9 se9 rfl (vN (t := 8) (i := 1) (by decide)) (show 3 ≤ mL 9 by decide) rfl (show 0 ≤ 8 by decide) (by decide) (by decide) rfl rfl (by decide) (by decide) (m9_18 N (upW (upW (upW L 17 0 12 (grF N L i)) 20 i 12 ((upW L 17 0 12 (grF N L i)) 17 0)) 18 0 12 (fun _ => 0)) i hi (hc.2.1 1 (by decide)).1 (hc.2.1 1 (by decide)).2.1 (hc.2.1 1 (by decide)).2.2.1) ?_
      refine Sem.seg [(.aload_n 0, 0, 0), (.getfield 38, 4, 5), (.aload_n 2, 0, 0), (.aload_n 0, 0, 0), (.getfield 46, 4, 7)] ⟨⟨d6_67, trivial⟩, ⟨d6_68, gf4_38⟩, ⟨d6_71, trivial⟩, ⟨d6_72, trivial⟩, ⟨d6_73, gf4_46⟩, trivial⟩ (lv' := [(2, aR 19 i), (0, aR 0 0), (1, aN i)]) (st' := [aR 18 0, aR 19 i, aR 12 0]) (w' := wd N (upW (upW (upW (upW L 17 0 12 (grF N L i)) 20 i 12 ((upW L 17 0 12 (grF N L i)) 17 0)) 18 0 12 (fun _ => 0)) 18 0 12 (fun w => (upW (upW (upW L 17 0 12 (grF N L i)) 20 i 12 ((upW L 17 0 12 (grF N L i)) 17 0)) 18 0 12 (fun _ => 0)) 18 0 w + bat (N 9 1) (N 10 1) (N 11 1) i w (N 8 1 3)))) (P := [vld NN 0 0, vld NN 0 0]) rfl (⟨vN (t := 0) (i := 0) (by decide), vN (t := 0) (i := 0) (by decide)⟩) (pc' := 76) rfl ?_
      refine Sem.cVm0 (t := 12) (i := 0) (as := [aR 19 i, aR 18 0]) (rst := []) (c' := 0) (s' := 0) d6_76 mk15 rfl co15 lk4_242 im15 se15 rfl (vN (t := 12) (i := 0) (by decide)) (show 3 ≤ mL 15 by decide) rfl (show 0 ≤ 8 by decide) (by decide) (by decide) rfl rfl (by decide) (by decide) (m15 N (upW (upW (upW (upW L 17 0 12 (grF N L i)) 20 i 12 ((upW L 17 0 12 (grF N L i)) 17 0)) 18 0 12 (fun _ => 0)) 18 0 12 (fun w => (upW (upW (upW L 17 0 12 (grF N L i)) 20 i 12 ((upW L 17 0 12 (grF N L i)) 17 0)) 18 0 12 (fun _ => 0)) 18 0 w + bat (N 9 1) (N 10 1) (N 11 1) i w (N 8 1 3))) i hi i3 (by omega) ⟨i1, i2⟩) ?_
      rintro N1 L1 ⟨fN, fL, hq⟩
      have hbr : ∀ w, w < 12 → (upW (upW (upW (upW L 17 0 12 (grF N L i)) 20 i 12 ((upW L 17 0 12 (grF N L i)) 17 0)) 18 0 12 (fun _ => 0)) 18 0 12 (fun w => (upW (upW (upW L 17 0 12 (grF N L i)) 20 i 12 ((upW L 17 0 12 (grF N L i)) 17 0)) 18 0 12 (fun _ => 0)) 18 0 w + bat (N 9 1) (N 10 1) (N 11 1) i w (N 8 1 3))) 18 0 w = brF N i w := fun w hw => by rw [upW_at hw, upW_at hw, Int64.zero_add]; rfl
      have hgr : ∀ w, w < 12 → (upW (upW (upW (upW L 17 0 12 (grF N L i)) 20 i 12 ((upW L 17 0 12 (grF N L i)) 17 0)) 18 0 12 (fun _ => 0)) 18 0 12 (fun w => (upW (upW (upW L 17 0 12 (grF N L i)) 20 i 12 ((upW L 17 0 12 (grF N L i)) 17 0)) 18 0 12 (fun _ => 0)) 18 0 w + bat (N 9 1) (N 10 1) (N 11 1) i w (N 8 1 3))) 20 i w = grF N L i w := fun w hw => by rw [upW_ne (by omega), upW_ne (by omega), upW_at hw, upW_at hw]
      refine Sem.seg [(.aload_n 2, 0, 0), (.iconst 0, 0, 0), (.putfield 71, 2, 10), (.iconst 1, 0, 0)] ⟨⟨d6_79, trivial⟩, ⟨d6_80, trivial⟩, ⟨d6_81, gf4_71⟩, ⟨d6_84, trivial⟩, trivial⟩ (lv' := [(2, aR 19 i), (0, aR 0 0), (1, aN i)]) (st' := [aN 1]) (w' := wd (upN N1 19 i 10 0) L1) (P := [vld NN 19 i, 0 = 0 ∨ 0 = 1]) rfl (⟨vN (t := 19) (i := i) (show i < 12 by first | omega | exact Nat.lt_of_le_of_lt (bo_le _) (by decide)), (show (0 : Nat) = 0 ∨ (0 : Nat) = 1 by decide)⟩) (pc' := 85) rfl ?_
      exact Sem.iret rfl d6_85 (Or.inr ⟨rfl, by decide⟩) (by decide) (by decide) hzW ⟨_, _, _, rfl, rfl, by exact ⟨fun t a b h1 h2 => (upN_ne (by omega)).trans (fN t a b h1), upN_at, fun t a b h1 h2 h3 h4 h5 h6 h7 h8 => (fL t a b h1 h2 h3 h7 h8).trans (by rw [upW_ne (by omega), upW_ne (by omega), upW_ne (by omega), upW_ne (by omega)]), fun w hw => by
              refine ⟨(fL 20 i w (by omega) (by omega) (by omega) (by omega) (by omega)).trans (hgr w hw), (hq w hw).1.trans ?_, (hq w hw).2.trans ?_⟩
              · exact planF_cg (fun _ _ => rfl) hbr hgr hw
              · exact balF_cg (fun _ _ => rfl) hbr hgr hw, (bo_t hcd).symm⟩⟩
    · have b2_ : ¬ (bo (∀ w, w < 12 → (upW L 17 0 12 (grF N L i)) 20 i w = (upW L 17 0 12 (grF N L i)) 17 0 w) = 0) := b2
      have hG : ∀ w, w < 12 → (upW L 17 0 12 (grF N L i)) 20 i w = (upW L 17 0 12 (grF N L i)) 17 0 w := Classical.byContradiction fun h => (by assumption : ¬ bo (∀ w, w < 12 → (upW L 17 0 12 (grF N L i)) 20 i w = (upW L 17 0 12 (grF N L i)) 17 0 w) = 0) (bo_f h)
      have hG2 : ∀ w, w < 12 → L 20 i w = grF N L i w := fun w hw => (hG w hw).trans (upW_at hw)
      refine Sem.seg [(.iconst 0, 0, 0)] ⟨⟨d6_30, trivial⟩, trivial⟩ (lv' := [(2, aR 19 i), (0, aR 0 0), (1, aN i)]) (st' := [aN 0]) (w' := wd N (upW L 17 0 12 (grF N L i))) (P := []) rfl (trivial) (pc' := 31) rfl ?_
      exact Sem.iret rfl d6_31 (Or.inr ⟨rfl, by decide⟩) (by decide) (by decide) hzW ⟨_, _, _, rfl, rfl, by exact ⟨fun _ _ _ _ _ => rfl, by omega, fun t a b h1 h2 h3 h4 h5 h6 h7 h8 => upW_ne (by omega), fun w hw => by
              obtain ⟨a1, a2⟩ := hp i hi (by omega) w hw
              refine ⟨(upW_ne (by omega)).trans (hG2 w hw), (upW_ne (by omega)).trans ?_, (upW_ne (by omega)).trans ?_⟩
              · rw [a1]; exact planF_cg (fun _ _ => rfl) (fun _ _ => rfl) hG2 hw
              · rw [a2]; exact balF_cg (fun _ _ => rfl) (fun _ _ => rfl) hG2 hw, (bo_f (fun h => by
              rcases h with h | h
              · omega
              · exact h (fun w hw => (hG2 w hw).symm))).symm⟩⟩
end
section
-- ===== replanning as a picture =====
noncomputable def stp (X : TN × TL × Nat) (i : Nat) : TN × TL × Nat :=
  (upN X.1 19 i 10 0, upW (upW X.2.1 20 i 12 (grF X.1 X.2.1 i)) 21 i 12 (planF (X.1 19 i) (brF X.1 i) (grF X.1 X.2.1 i)), X.2.2 + bo (¬ X.1 19 i 10 = 0 ∨ ¬ ∀ w, w < 12 → grF X.1 X.2.1 i w = X.2.1 20 i w))
noncomputable def rpI (lv : Nat → Nat) (l : Nat) (X : TN × TL × Nat) : Nat → TN × TL × Nat
  | 0 => X
  | n + 1 => if lv n = l then stp (rpI lv l X n) n else rpI lv l X n
noncomputable def rpL (lv : Nat → Nat) (X : TN × TL × Nat) : Nat → TN × TL × Nat
  | 0 => X
  | l + 1 => rpI lv l (rpL lv X l) 12
/-- the world (N, L) shows the picture X -/
def RA (N : TN) (L : TL) (X : TN × TL × Nat) : Prop := SD X.1 N ∧ (∀ i, i < 12 → N 19 i 10 = X.1 19 i 10) ∧ ∀ i w, i < 12 → w < 12 → L 20 i w = X.2.1 20 i w ∧ L 21 i w = X.2.1 21 i w
theorem RA.gr {N : TN} {L : TL} {X : TN × TL × Nat} (h : RA N L X) {i : Nat} (hi : i < 12) (w : Nat) : grF N L i w = grF X.1 X.2.1 i w :=
  h.1.gr hi (fun p q hp hq => (h.2.2 p q hp hq).2) w
theorem SD.pl {N N' : TN} (h : SD N N') {i : Nat} (hi : i < 12) {g g' : Nat → Int64} (hg : ∀ q, q < 12 → g' q = g q) {w : Nat} (hw : w < 12) : planF (N' 19 i) (brF N' i) g' w = planF (N 19 i) (brF N i) g w :=
  planF_cg (fun f hf => h.1 i f hi (by omega)) (fun q _ => h.br i q) hg hw
theorem SD.bl {N N' : TN} (h : SD N N') {i : Nat} (hi : i < 12) {g g' : Nat → Int64} (hg : ∀ q, q < 12 → g' q = g q) {w : Nat} (hw : w < 12) : balF (N' 19 i) (brF N' i) g' w = balF (N 19 i) (brF N i) g w :=
  balF_cg (fun f hf => h.1 i f hi (by omega)) (fun q _ => h.br i q) hg hw
theorem SD_told {N : TN} {i x : Nat} : SD N (upN N 19 i 10 x) := by
  refine ⟨fun a f _ _ => upN_ne (by omega), fun b _ => ⟨upN_ne (by omega), fun k _ => ⟨upN_ne (by omega), upN_ne (by omega), upN_ne (by omega)⟩⟩, fun c _ => ⟨upN_ne (by omega), fun _ => ⟨upN_ne (by omega), upN_ne (by omega)⟩⟩, fun a _ => upN_ne (by omega)⟩
theorem PA.sd {N N' : TN} {L L' : TL} {i z : Nat} (h : PA N L i z N' L') : SD N N' := by
  have f := h.1
  exact ⟨fun a b _ _ => f _ _ _ (by omega) (by omega), fun b _ => ⟨f _ _ _ (by omega) (by omega), fun k _ => ⟨f _ _ _ (by omega) (by omega), f _ _ _ (by omega) (by omega), f _ _ _ (by omega) (by omega)⟩⟩, fun c _ => ⟨f _ _ _ (by omega) (by omega), fun _ => ⟨f _ _ _ (by omega) (by omega), f _ _ _ (by omega) (by omega)⟩⟩, fun a _ => f _ _ _ (by omega) (by omega)⟩
theorem PA.ra {N N' : TN} {L L' : TL} {i z : Nat} {X : TN × TL × Nat} (hi : i < 12) (hR : RA N L X) (h : PA N L i z N' L') : RA N' L' (stp X i) ∧ (stp X i).2.2 = X.2.2 + z := by
  obtain ⟨fN, h10, fL, hq, hz⟩ := id h
  refine ⟨⟨(SD_told.symm.trans hR.1).trans h.sd, fun a ha => ?_, fun a w ha hw => ?_⟩, ?_⟩
  · by_cases e : a = i
    · subst e; rw [h10]; exact upN_at.symm
    · rw [fN 19 a 10 (by omega) (by omega), hR.2.1 a ha]; exact (upN_ne (by omega)).symm
  · obtain ⟨r1, r2⟩ := hR.2.2 a w ha hw
    by_cases e : a = i
    · subst e
      obtain ⟨q1, q2, _⟩ := hq w hw
      refine ⟨q1.trans ?_, q2.trans ?_⟩
      · rw [hR.gr ha]; simp only [stp]; rw [upW_ne (by omega), upW_at hw]
      · rw [hR.1.pl ha (fun q _ => hR.gr ha q) hw]; simp only [stp]; rw [upW_at hw]
    · refine ⟨(fL 20 a w (by omega) (by omega) (by omega) (by omega) (by omega) (by omega) (by omega) (by omega)).trans (r1.trans ?_), (fL 21 a w (by omega) (by omega) (by omega) (by omega) (by omega) (by omega) (by omega) (by omega)).trans (r2.trans ?_)⟩
      · simp only [stp]; rw [upW_ne (by omega), upW_ne (by omega)]
      · simp only [stp]; rw [upW_ne (by omega), upW_ne (by omega)]
  · show X.2.2 + _ = X.2.2 + z
    rw [hz, hR.2.1 i hi]
    congr 1
    apply bo_cg
    constructor
    · rintro (q | q)
      · exact Or.inl q
      · exact Or.inr (fun e => q (fun w hw => by rw [← hR.gr hi, e w hw, (hR.2.2 i w hi hw).1]))
    · rintro (q | q)
      · exact Or.inl q
      · exact Or.inr (fun e => q (fun w hw => by rw [hR.gr hi, e w hw, (hR.2.2 i w hi hw).1]))
theorem PA.pc {N N' : TN} {L L' : TL} {i z : Nat} (hi : i < 12) (hP : PC N L) (h : PA N L i z N' L') : PC N' L' := by
  obtain ⟨fN, h10, fL, hq, hz⟩ := id h
  intro a ha h0 w hw
  by_cases e : a = i
  · subst e
    obtain ⟨q1, q2, q3⟩ := hq w hw
    have hg : ∀ q, q < 12 → L' 20 a q = grF N L a q := fun q h => (hq q h).1
    exact ⟨q2.trans (h.sd.pl ha hg hw).symm, q3.trans (h.sd.bl ha hg hw).symm⟩
  · have h0' : N 19 a 10 = 0 := by rw [← fN 19 a 10 (by omega) (by omega)]; exact h0
    obtain ⟨p1, p2⟩ := hP a ha h0' w hw
    have hg : ∀ q, q < 12 → L' 20 a q = L 20 a q := fun q _ => fL 20 a q (by omega) (by omega) (by omega) (by omega) (by omega) (by omega) (by omega) (by omega)
    refine ⟨(fL 21 a w (by omega) (by omega) (by omega) (by omega) (by omega) (by omega) (by omega) (by omega)).trans (p1.trans (h.sd.pl ha hg hw).symm), (fL 22 a w (by omega) (by omega) (by omega) (by omega) (by omega) (by omega) (by omega) (by omega)).trans (p2.trans (h.sd.bl ha hg hw).symm)⟩
end
section
-- ===== the class: replanning =====
theorem RA.cd {N N' : TN} {L L' : TL} {i z : Nat} (hc : CD N) (h : PA N L i z N' L') : CD N' := by
  refine hc.of h.sd (fun a ha => ?_) (by rw [h.1 2 0 5 (by omega) (by omega)]; exact hc.2.2.1)
  by_cases e : a = i
  · subst e; rw [h.2.1]; omega
  · rw [h.1 19 a 10 (by omega) (by omega)]; exact (hc.1 a ha).2.2.2.2.2.2.2.2.2.2.2

theorem m5 {sc : XT} (N : TN) (L : TL) (hc : CD N) (hp : PC N L) : Sem sc 5 0 [(0, aR 0 0)] [] (wd N L) 0 0 (QZ fun z N' L' => z = (rpL (N 6 0) (N, L, 0) 5).2.2 ∧ RA N' L' (rpL (N 6 0) (N, L, 0) 5) ∧ PC N' L' ∧ (∀ t a b, t ≠ 16 → ¬ (t = 19 ∧ a < 12 ∧ b = 10) → N' t a b = N t a b) ∧ (∀ t a b, t ≠ 13 → t ≠ 14 → t ≠ 15 → t ≠ 17 → t ≠ 18 → t ≠ 20 → t ≠ 21 → t ≠ 22 → L' t a b = L t a b) ∧ CD N') := by
  refine Sem.seg [(.iconst 0, 0, 0), (.istore_n 1, 0, 0), (.iconst 0, 0, 0), (.istore_n 2, 0, 0)] ⟨⟨d5_0, trivial⟩, ⟨d5_1, trivial⟩, ⟨d5_2, trivial⟩, ⟨d5_3, trivial⟩, trivial⟩ (lv' := [(2, aN 0), (1, aN 0), (0, aR 0 0)]) (st' := []) (w' := wd N L) (P := []) rfl (trivial) (pc' := 4) rfl ?_
  have lpa : ∀ (d : Nat) (l c : Nat) (N1 : TN) (L1 : TL), 5 - l = d → (l ≤ 5) → (c = (rpL (N 6 0) (N, L, 0) l).2.2) → (RA N1 L1 (rpL (N 6 0) (N, L, 0) l)) → (PC N1 L1) → ((∀ t a b, t ≠ 16 → ¬ (t = 19 ∧ a < 12 ∧ b = 10) → N1 t a b = N t a b)) → ((∀ t a b, t ≠ 13 → t ≠ 14 → t ≠ 15 → t ≠ 17 → t ≠ 18 → t ≠ 20 → t ≠ 21 → t ≠ 22 → L1 t a b = L t a b)) → (CD N1) → Sem sc 5 4 [(0, aR 0 0), (1, aN c), (2, aN l)] [] (wd N1 L1) 0 0 (QZ fun z N' L' => z = (rpL (N 6 0) (N, L, 0) 5).2.2 ∧ RA N' L' (rpL (N 6 0) (N, L, 0) 5) ∧ PC N' L' ∧ (∀ t a b, t ≠ 16 → ¬ (t = 19 ∧ a < 12 ∧ b = 10) → N' t a b = N t a b) ∧ (∀ t a b, t ≠ 13 → t ≠ 14 → t ≠ 15 → t ≠ 17 → t ≠ 18 → t ≠ 20 → t ≠ 21 → t ≠ 22 → L' t a b = L t a b) ∧ CD N') := by
    intro da
    induction da using Nat.strongRecOn with
    | ind da iha =>
      intro l c N1 L1 hda hl hca hR1 hP1 fN1 fL1 hc1
      refine Sem.seg [(.iload_n 2, 0, 0), (.iconst 4, 0, 0)] ⟨⟨d5_4, trivial⟩, ⟨d5_5, trivial⟩, trivial⟩ (lv' := [(0, aR 0 0), (1, aN c), (2, aN l)]) (st' := [aN 4, aN l]) (w' := wd N1 L1) (P := []) rfl (trivial) (pc' := 6) rfl ?_
      refine Sem.icmpN (tgt := 53) d5_6 (by decide) (show l < 2 ^ 31 by omega) (by decide) (fun b1 => ?_) (fun b1 => ?_)
      · have b1_ : 4 < l := b1
        obtain rfl : l = 5 := by omega
        refine Sem.seg [(.iload_n 1, 0, 0)] ⟨⟨d5_53, trivial⟩, trivial⟩ (lv' := [(0, aR 0 0), (1, aN c), (2, aN 5)]) (st' := [aN c]) (w' := wd N1 L1) (P := []) rfl (trivial) (pc' := 54) rfl ?_
        exact Sem.iret rfl d5_54 (Or.inl rfl) (by decide) (by decide) hzW ⟨_, _, _, rfl, rfl, by exact ⟨hca, hR1, hP1, fN1, fL1, hc1⟩⟩
      · have b1_ : ¬ (4 < l) := b1
        refine Sem.seg [(.iconst 0, 0, 0), (.istore_n 3, 0, 0)] ⟨⟨d5_9, trivial⟩, ⟨d5_10, trivial⟩, trivial⟩ (lv' := [(3, aN 0), (0, aR 0 0), (1, aN c), (2, aN l)]) (st' := []) (w' := wd N1 L1) (P := []) rfl (trivial) (pc' := 11) rfl ?_
        have lpb : ∀ (d : Nat) (n c : Nat) (N2 : TN) (L2 : TL), 12 - n = d → (n ≤ 12) → (c = (rpI (N 6 0) l (rpL (N 6 0) (N, L, 0) l) n).2.2) → (RA N2 L2 (rpI (N 6 0) l (rpL (N 6 0) (N, L, 0) l) n)) → (PC N2 L2) → ((∀ t a b, t ≠ 16 → ¬ (t = 19 ∧ a < 12 ∧ b = 10) → N2 t a b = N t a b)) → ((∀ t a b, t ≠ 13 → t ≠ 14 → t ≠ 15 → t ≠ 17 → t ≠ 18 → t ≠ 20 → t ≠ 21 → t ≠ 22 → L2 t a b = L t a b)) → (CD N2) → Sem sc 5 11 [(0, aR 0 0), (1, aN c), (2, aN l), (3, aN n)] [] (wd N2 L2) 0 0 (QZ fun z N' L' => z = (rpL (N 6 0) (N, L, 0) 5).2.2 ∧ RA N' L' (rpL (N 6 0) (N, L, 0) 5) ∧ PC N' L' ∧ (∀ t a b, t ≠ 16 → ¬ (t = 19 ∧ a < 12 ∧ b = 10) → N' t a b = N t a b) ∧ (∀ t a b, t ≠ 13 → t ≠ 14 → t ≠ 15 → t ≠ 17 → t ≠ 18 → t ≠ 20 → t ≠ 21 → t ≠ 22 → L' t a b = L t a b) ∧ CD N') := by
          intro db
          induction db using Nat.strongRecOn with
          | ind db ihb =>
            intro n c N2 L2 hdb hn hcb hR2 hP2 fN2 fL2 hc2
            refine Sem.seg [(.iload_n 3, 0, 0), (.bipush 12, 0, 0)] ⟨⟨d5_11, trivial⟩, ⟨d5_12, trivial⟩, trivial⟩ (lv' := [(0, aR 0 0), (1, aN c), (2, aN l), (3, aN n)]) (st' := [aN 12, aN n]) (w' := wd N2 L2) (P := []) rfl (trivial) (pc' := 14) rfl ?_
            refine Sem.icmpN (tgt := 47) d5_14 (by decide) (show n < 2 ^ 31 by omega) (by decide) (fun b2 => ?_) (fun b2 => ?_)
            · have b2_ : 12 ≤ n := b2
              obtain rfl : n = 12 := by omega
              refine Sem.seg [(.iinc 2 1, 0, 0)] ⟨⟨d5_47, trivial⟩, trivial⟩ (lv' := [(2, aN (l + 1)), (0, aR 0 0), (1, aN c), (3, aN 12)]) (st' := []) (w' := wd N2 L2) (P := []) rfl (trivial) (pc' := 50) rfl ?_
              refine Sem.goto (tgt := 4) d5_50 (by decide) ?_
              refine Sem.pick [1, 2, 0] (lv' := [(0, aR 0 0), (1, aN c), (2, aN (l + 1))]) rfl ?_
              exact iha _ (by omega) (l + 1) c N2 L2 rfl (by omega) (hcb) (hR2) (hP2) (fN2) (fL2) (hc2)
            · have b2_ : ¬ (12 ≤ n) := b2
              have e6 : N2 6 0 n = N 6 0 n := fN2 6 0 n (by omega) (by omega)
              have e4 : N 6 0 n ≤ 4 := hc.2.2.2.2.2 n (by omega)
              refine Sem.seg [(.aload_n 0, 0, 0), (.getfield 18, 4, 1), (.getfield 137, 0, 3), (.iload_n 3, 0, 0), (.iaload, 0, 0), (.iload_n 2, 0, 0)] ⟨⟨d5_17, trivial⟩, ⟨d5_18, gf4_18⟩, ⟨d5_21, gf4_137⟩, ⟨d5_24, trivial⟩, ⟨d5_25, trivial⟩, ⟨d5_26, trivial⟩, trivial⟩ (lv' := [(0, aR 0 0), (1, aN c), (2, aN l), (3, aN n)]) (st' := [aN l, aN (N2 6 0 n)]) (w' := wd N2 L2) (P := [vld NN 0 0, vld NN 2 0, vld NN 6 0, n < 12]) rfl (⟨vN (t := 0) (i := 0) (by decide), vN (t := 2) (i := 0) (by decide), vN (t := 6) (i := 0) (by decide), (show n < 12 by omega)⟩) (pc' := 27) rfl ?_
              refine Sem.icmpN (tgt := 41) d5_27 (by decide) (show N2 6 0 n < 2 ^ 31 by omega) (show l < 2 ^ 31 by omega) (fun b3 => ?_) (fun b3 => ?_)
              · have b3_ : ¬ N2 6 0 n = l := b3
                refine Sem.seg [(.iinc 3 1, 0, 0)] ⟨⟨d5_41, trivial⟩, trivial⟩ (lv' := [(3, aN (n + 1)), (0, aR 0 0), (1, aN c), (2, aN l)]) (st' := []) (w' := wd N2 L2) (P := []) rfl (trivial) (pc' := 44) rfl ?_
                refine Sem.goto (tgt := 11) d5_44 (by decide) ?_
                refine Sem.pick [1, 2, 3, 0] (lv' := [(0, aR 0 0), (1, aN c), (2, aN l), (3, aN (n + 1))]) rfl ?_
                exact ihb _ (by omega) (n + 1) c N2 L2 rfl (by omega) (by simp only [rpI]; rw [if_neg (by omega)]; exact hcb) (by simp only [rpI]; rw [if_neg (by omega)]; exact hR2) (hP2) (fN2) (fL2) (hc2)
              · have b3_ : ¬ (¬ N2 6 0 n = l) := b3
                refine Sem.seg [(.aload_n 0, 0, 0), (.iload_n 3, 0, 0)] ⟨⟨d5_30, trivial⟩, ⟨d5_31, trivial⟩, trivial⟩ (lv' := [(0, aR 0 0), (1, aN c), (2, aN l), (3, aN n)]) (st' := [aN n, aR 0 0]) (w' := wd N2 L2) (P := []) rfl (trivial) (pc' := 32) rfl ?_
                refine Sem.cVmN (t := 0) (i := 0) (as := [aN n]) (rst := []) (c' := 0) (s' := 0) d5_32 mk6 rfl co6 lk4_140 im6 se6 rfl (vN (t := 0) (i := 0) (by decide)) (show 2 ≤ mL 6 by decide) rfl (show 0 ≤ 8 by decide) (by decide) (by decide) rfl rfl (by decide) (by decide) (m6 N2 L2 n (by omega) hc2 hP2) ?_
                rintro z N3 L3 hpa
                obtain ⟨r1, r2⟩ := hpa.ra (by omega) hR2
                have hz1 : z ≤ 1 := by rw [hpa.2.2.2.2]; exact bo_le _
                refine Sem.ifN (tgt := 41) d5_35 (by decide) (show z < 2 ^ 31 by omega) (fun b4 => ?_) (fun b4 => ?_)
                · have b4_ : z = 0 := b4
                  refine Sem.seg [(.iinc 3 1, 0, 0)] ⟨⟨d5_41, trivial⟩, trivial⟩ (lv' := [(3, aN (n + 1)), (0, aR 0 0), (1, aN c), (2, aN l)]) (st' := []) (w' := wd N3 L3) (P := []) rfl (trivial) (pc' := 44) rfl ?_
                  refine Sem.goto (tgt := 11) d5_44 (by decide) ?_
                  refine Sem.pick [1, 2, 3, 0] (lv' := [(0, aR 0 0), (1, aN c), (2, aN l), (3, aN (n + 1))]) rfl ?_
                  exact ihb _ (by omega) (n + 1) c N3 L3 rfl (by omega) (by simp only [rpI]; rw [if_pos (by omega), r2, ← hcb]; omega) (by simp only [rpI]; rw [if_pos (by omega)]; exact r1) (hpa.pc (by omega) hP2) (fun t a b h1 h2 => (hpa.1 t a b h1 (by omega)).trans (fN2 t a b h1 h2)) (fun t a b h1 h2 h3 h4 h5 h6 h7 h8 => (hpa.2.2.1 t a b h1 h2 h3 h4 h5 (by omega) (by omega) (by omega)).trans (fL2 t a b h1 h2 h3 h4 h5 h6 h7 h8)) (RA.cd hc2 hpa)
                · have b4_ : ¬ (z = 0) := b4
                  refine Sem.seg [(.iinc 1 1, 0, 0), (.iinc 3 1, 0, 0)] ⟨⟨d5_38, trivial⟩, ⟨d5_41, trivial⟩, trivial⟩ (lv' := [(3, aN (n + 1)), (1, aN (c + 1)), (0, aR 0 0), (2, aN l)]) (st' := []) (w' := wd N3 L3) (P := []) rfl (trivial) (pc' := 44) rfl ?_
                  refine Sem.goto (tgt := 11) d5_44 (by decide) ?_
                  refine Sem.pick [2, 1, 3, 0] (lv' := [(0, aR 0 0), (1, aN (c + 1)), (2, aN l), (3, aN (n + 1))]) rfl ?_
                  exact ihb _ (by omega) (n + 1) (c + 1) N3 L3 rfl (by omega) (by simp only [rpI]; rw [if_pos (by omega), r2, ← hcb]; omega) (by simp only [rpI]; rw [if_pos (by omega)]; exact r1) (hpa.pc (by omega) hP2) (fun t a b h1 h2 => (hpa.1 t a b h1 (by omega)).trans (fN2 t a b h1 h2)) (fun t a b h1 h2 h3 h4 h5 h6 h7 h8 => (hpa.2.2.1 t a b h1 h2 h3 h4 h5 (by omega) (by omega) (by omega)).trans (fL2 t a b h1 h2 h3 h4 h5 h6 h7 h8)) (RA.cd hc2 hpa)
        refine Sem.pick [1, 2, 3, 0] (lv' := [(0, aR 0 0), (1, aN c), (2, aN l), (3, aN 0)]) rfl ?_
        exact lpb _ 0 c N1 L1 rfl (by omega) (hca) (hR1) (hP1) (fN1) (fL1) (hc1)
  refine Sem.pick [2, 1, 0] (lv' := [(0, aR 0 0), (1, aN 0), (2, aN 0)]) rfl ?_
  exact lpa _ 0 0 N L rfl (by omega) (rfl) (⟨SD.refl N, fun _ _ => rfl, fun _ _ _ _ => ⟨rfl, rfl⟩⟩) (hp) (fun _ _ _ _ _ => rfl) (fun _ _ _ _ _ _ _ _ _ _ _ => rfl) (hc)
end
