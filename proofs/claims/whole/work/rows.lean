section
-- ===== PART A: goes FIRST, ahead of the names: the tables' words, and 'selects' of the private methods out of them =====
/-- a private method of a class that the tables say can be made, by its rows of tables_1 -/
def lw_okq (q : MethodName × Nat) : Prop := (q.1.cls ≠ "java/lang/invoke/MethodHandle" ∧ q.1.cls ≠ "java/lang/invoke/VarHandle") ∧ Cond.instantiable q.1.cls q.2 ∈ tables_1 ∧ Cond.privateMethod q.1 ∈ tables_1 ∧ Cond.instanceMethod q.1 ∈ tables_1
theorem lw_p0 : lw_okq (⟨"NettedPlans", "planAnew", "(I)Z"⟩, 8) := ⟨⟨by decide +kernel, by decide +kernel⟩, List.mem_of_getElem? (i := 17) (by decide +kernel), List.mem_of_getElem? (i := 195) (by decide +kernel), List.mem_of_getElem? (i := 196) (by decide +kernel)⟩
theorem lw_p1 : lw_okq (⟨"NettedPlans", "collectGross", "(I)V"⟩, 8) := ⟨⟨by decide +kernel, by decide +kernel⟩, List.mem_of_getElem? (i := 17) (by decide +kernel), List.mem_of_getElem? (i := 199) (by decide +kernel), List.mem_of_getElem? (i := 200) (by decide +kernel)⟩
theorem lw_p2 : lw_okq (⟨"NettedPlans", "askForParts", "(II)V"⟩, 8) := ⟨⟨by decide +kernel, by decide +kernel⟩, List.mem_of_getElem? (i := 17) (by decide +kernel), List.mem_of_getElem? (i := 210) (by decide +kernel), List.mem_of_getElem? (i := 211) (by decide +kernel)⟩
theorem lw_p3 : lw_okq (⟨"NettedPlans$Netting", "findNeeds", "(LNettedPlans$Item;[J)V"⟩, 4) := ⟨⟨by decide +kernel, by decide +kernel⟩, List.mem_of_getElem? (i := 81) (by decide +kernel), List.mem_of_getElem? (i := 238) (by decide +kernel), List.mem_of_getElem? (i := 239) (by decide +kernel)⟩
theorem lw_p4 : lw_okq (⟨"NettedPlans$Netting", "findCheapestLots", "(LNettedPlans$Item;)V"⟩, 4) := ⟨⟨by decide +kernel, by decide +kernel⟩, List.mem_of_getElem? (i := 81) (by decide +kernel), List.mem_of_getElem? (i := 245) (by decide +kernel), List.mem_of_getElem? (i := 246) (by decide +kernel)⟩
theorem lw_p5 : lw_okq (⟨"NettedPlans$Netting", "needBefore", "(I)J"⟩, 4) := ⟨⟨by decide +kernel, by decide +kernel⟩, List.mem_of_getElem? (i := 81) (by decide +kernel), List.mem_of_getElem? (i := 249) (by decide +kernel), List.mem_of_getElem? (i := 250) (by decide +kernel)⟩
theorem lw_p6 : lw_okq (⟨"NettedPlans$Netting", "findCheapestLot", "(LNettedPlans$Item;I)V"⟩, 4) := ⟨⟨by decide +kernel, by decide +kernel⟩, List.mem_of_getElem? (i := 81) (by decide +kernel), List.mem_of_getElem? (i := 253) (by decide +kernel), List.mem_of_getElem? (i := 254) (by decide +kernel)⟩
theorem lw_p7 : lw_okq (⟨"NettedPlans$Netting", "lot", "(LNettedPlans$Item;IJ)J"⟩, 4) := ⟨⟨by decide +kernel, by decide +kernel⟩, List.mem_of_getElem? (i := 81) (by decide +kernel), List.mem_of_getElem? (i := 257) (by decide +kernel), List.mem_of_getElem? (i := 258) (by decide +kernel)⟩
theorem lw_p8 : lw_okq (⟨"NettedPlans", "known", "(I)LNettedPlans$Item;"⟩, 8) := ⟨⟨by decide +kernel, by decide +kernel⟩, List.mem_of_getElem? (i := 17) (by decide +kernel), List.mem_of_getElem? (i := 276) (by decide +kernel), List.mem_of_getElem? (i := 277) (by decide +kernel)⟩
theorem lw_p9 : lw_okq (⟨"java/lang/Throwable", "fillInStackTrace", "(I)Ljava/lang/Throwable;"⟩, 6) := ⟨⟨by decide +kernel, by decide +kernel⟩, List.mem_of_getElem? (i := 321) (by decide +kernel), List.mem_of_getElem? (i := 319) (by decide +kernel), List.mem_of_getElem? (i := 320) (by decide +kernel)⟩
theorem lw_p10 : lw_okq (⟨"NettedPlans$Bill", "setLevels", "()V"⟩, 6) := ⟨⟨by decide +kernel, by decide +kernel⟩, List.mem_of_getElem? (i := 27) (by decide +kernel), List.mem_of_getElem? (i := 401) (by decide +kernel), List.mem_of_getElem? (i := 402) (by decide +kernel)⟩
theorem lw_p11 : lw_okq (⟨"NettedPlans$Bill", "highestLevel", "(I)I"⟩, 6) := ⟨⟨by decide +kernel, by decide +kernel⟩, List.mem_of_getElem? (i := 27) (by decide +kernel), List.mem_of_getElem? (i := 405) (by decide +kernel), List.mem_of_getElem? (i := 406) (by decide +kernel)⟩
theorem lw_p12 : lw_okq (⟨"NettedPlans", "tellNew", "(LNettedPlans$Book;III)I"⟩, 8) := ⟨⟨by decide +kernel, by decide +kernel⟩, List.mem_of_getElem? (i := 17) (by decide +kernel), List.mem_of_getElem? (i := 455) (by decide +kernel), List.mem_of_getElem? (i := 456) (by decide +kernel)⟩
theorem lw_p13 : lw_okq (⟨"NettedPlans", "checkPlanned", "()V"⟩, 8) := ⟨⟨by decide +kernel, by decide +kernel⟩, List.mem_of_getElem? (i := 17) (by decide +kernel), List.mem_of_getElem? (i := 512) (by decide +kernel), List.mem_of_getElem? (i := 513) (by decide +kernel)⟩
theorem lw_p14 : lw_okq (⟨"NettedPlans", "isTold", "()Z"⟩, 8) := ⟨⟨by decide +kernel, by decide +kernel⟩, List.mem_of_getElem? (i := 17) (by decide +kernel), List.mem_of_getElem? (i := 516) (by decide +kernel), List.mem_of_getElem? (i := 517) (by decide +kernel)⟩
theorem lw_p15 : lw_okq (⟨"NettedPlans", "pegOfOrder", "(II)J"⟩, 8) := ⟨⟨by decide +kernel, by decide +kernel⟩, List.mem_of_getElem? (i := 17) (by decide +kernel), List.mem_of_getElem? (i := 542) (by decide +kernel), List.mem_of_getElem? (i := 543) (by decide +kernel)⟩
def lw_privs_1 : List (MethodName × Nat) := [(⟨"NettedPlans", "planAnew", "(I)Z"⟩, 8), (⟨"NettedPlans", "collectGross", "(I)V"⟩, 8), (⟨"NettedPlans", "askForParts", "(II)V"⟩, 8), (⟨"NettedPlans$Netting", "findNeeds", "(LNettedPlans$Item;[J)V"⟩, 4), (⟨"NettedPlans$Netting", "findCheapestLots", "(LNettedPlans$Item;)V"⟩, 4), (⟨"NettedPlans$Netting", "needBefore", "(I)J"⟩, 4), (⟨"NettedPlans$Netting", "findCheapestLot", "(LNettedPlans$Item;I)V"⟩, 4), (⟨"NettedPlans$Netting", "lot", "(LNettedPlans$Item;IJ)J"⟩, 4), (⟨"NettedPlans", "known", "(I)LNettedPlans$Item;"⟩, 8), (⟨"java/lang/Throwable", "fillInStackTrace", "(I)Ljava/lang/Throwable;"⟩, 6), (⟨"NettedPlans$Bill", "setLevels", "()V"⟩, 6), (⟨"NettedPlans$Bill", "highestLevel", "(I)I"⟩, 6), (⟨"NettedPlans", "tellNew", "(LNettedPlans$Book;III)I"⟩, 8), (⟨"NettedPlans", "checkPlanned", "()V"⟩, 8), (⟨"NettedPlans", "isTold", "()Z"⟩, 8), (⟨"NettedPlans", "pegOfOrder", "(II)J"⟩, 8)]
theorem lw_r1 : ∀ q ∈ lw_privs_1, lw_okq q := List.forall_mem_cons.mpr ⟨lw_p0, List.forall_mem_cons.mpr ⟨lw_p1, List.forall_mem_cons.mpr ⟨lw_p2, List.forall_mem_cons.mpr ⟨lw_p3, List.forall_mem_cons.mpr ⟨lw_p4, List.forall_mem_cons.mpr ⟨lw_p5, List.forall_mem_cons.mpr ⟨lw_p6, List.forall_mem_cons.mpr ⟨lw_p7, List.forall_mem_cons.mpr ⟨lw_p8, List.forall_mem_cons.mpr ⟨lw_p9, List.forall_mem_cons.mpr ⟨lw_p10, List.forall_mem_cons.mpr ⟨lw_p11, List.forall_mem_cons.mpr ⟨lw_p12, List.forall_mem_cons.mpr ⟨lw_p13, List.forall_mem_cons.mpr ⟨lw_p14, List.forall_mem_cons.mpr ⟨lw_p15, fun _ h => absurd h List.not_mem_nil⟩⟩⟩⟩⟩⟩⟩⟩⟩⟩⟩⟩⟩⟩⟩⟩
theorem lw_p16 : lw_okq (⟨"NettedPlans", "pegOfUnits", "(IJJ)J"⟩, 8) := ⟨⟨by decide +kernel, by decide +kernel⟩, List.mem_of_getElem? (i := 17) (by decide +kernel), List.mem_of_getElem? (i := 557) (by decide +kernel), List.mem_of_getElem? (i := 558) (by decide +kernel)⟩
theorem lw_p17 : lw_okq (⟨"NettedPlans", "pegOfReceipt", "(II)J"⟩, 8) := ⟨⟨by decide +kernel, by decide +kernel⟩, List.mem_of_getElem? (i := 17) (by decide +kernel), List.mem_of_getElem? (i := 565) (by decide +kernel), List.mem_of_getElem? (i := 566) (by decide +kernel)⟩
theorem lw_p18 : lw_okq (⟨"NettedPlans", "leastTrueWeek", "(III)I"⟩, 8) := ⟨⟨by decide +kernel, by decide +kernel⟩, List.mem_of_getElem? (i := 17) (by decide +kernel), List.mem_of_getElem? (i := 576) (by decide +kernel), List.mem_of_getElem? (i := 577) (by decide +kernel)⟩
theorem lw_p19 : lw_okq (⟨"NettedPlans", "itemsRunShort", "()I"⟩, 8) := ⟨⟨by decide +kernel, by decide +kernel⟩, List.mem_of_getElem? (i := 17) (by decide +kernel), List.mem_of_getElem? (i := 608) (by decide +kernel), List.mem_of_getElem? (i := 609) (by decide +kernel)⟩
theorem lw_p20 : lw_okq (⟨"NettedPlansModel", "refused", "(I)Z"⟩, 27) := ⟨⟨by decide +kernel, by decide +kernel⟩, List.mem_of_getElem? (i := 616) (by decide +kernel), List.mem_of_getElem? (i := 719) (by decide +kernel), List.mem_of_getElem? (i := 720) (by decide +kernel)⟩
theorem lw_p21 : lw_okq (⟨"NettedPlansModel", "tell", "(I)V"⟩, 27) := ⟨⟨by decide +kernel, by decide +kernel⟩, List.mem_of_getElem? (i := 616) (by decide +kernel), List.mem_of_getElem? (i := 723) (by decide +kernel), List.mem_of_getElem? (i := 724) (by decide +kernel)⟩
theorem lw_p22 : lw_okq (⟨"NettedPlansModel", "setLine", "(IIII)V"⟩, 27) := ⟨⟨by decide +kernel, by decide +kernel⟩, List.mem_of_getElem? (i := 616) (by decide +kernel), List.mem_of_getElem? (i := 740) (by decide +kernel), List.mem_of_getElem? (i := 741) (by decide +kernel)⟩
theorem lw_p23 : lw_okq (⟨"NettedPlansModel", "isSound", "()Z"⟩, 27) := ⟨⟨by decide +kernel, by decide +kernel⟩, List.mem_of_getElem? (i := 616) (by decide +kernel), List.mem_of_getElem? (i := 744) (by decide +kernel), List.mem_of_getElem? (i := 745) (by decide +kernel)⟩
theorem lw_p24 : lw_okq (⟨"NettedPlansModel", "levelOf", "(I)I"⟩, 27) := ⟨⟨by decide +kernel, by decide +kernel⟩, List.mem_of_getElem? (i := 616) (by decide +kernel), List.mem_of_getElem? (i := 748) (by decide +kernel), List.mem_of_getElem? (i := 749) (by decide +kernel)⟩
theorem lw_p25 : lw_okq (⟨"NettedPlansModel", "addTold", "(IIII)I"⟩, 27) := ⟨⟨by decide +kernel, by decide +kernel⟩, List.mem_of_getElem? (i := 616) (by decide +kernel), List.mem_of_getElem? (i := 760) (by decide +kernel), List.mem_of_getElem? (i := 761) (by decide +kernel)⟩
theorem lw_p26 : lw_okq (⟨"NettedPlansModel", "add", "(IIII)I"⟩, 27) := ⟨⟨by decide +kernel, by decide +kernel⟩, List.mem_of_getElem? (i := 616) (by decide +kernel), List.mem_of_getElem? (i := 764) (by decide +kernel), List.mem_of_getElem? (i := 765) (by decide +kernel)⟩
theorem lw_p27 : lw_okq (⟨"NettedPlansModel", "net", "(I)Z"⟩, 27) := ⟨⟨by decide +kernel, by decide +kernel⟩, List.mem_of_getElem? (i := 616) (by decide +kernel), List.mem_of_getElem? (i := 780) (by decide +kernel), List.mem_of_getElem? (i := 781) (by decide +kernel)⟩
theorem lw_p28 : lw_okq (⟨"NettedPlansModel", "grossOf", "(II)J"⟩, 27) := ⟨⟨by decide +kernel, by decide +kernel⟩, List.mem_of_getElem? (i := 616) (by decide +kernel), List.mem_of_getElem? (i := 784) (by decide +kernel), List.mem_of_getElem? (i := 785) (by decide +kernel)⟩
theorem lw_p29 : lw_okq (⟨"NettedPlansModel", "sumOf", "(III)J"⟩, 27) := ⟨⟨by decide +kernel, by decide +kernel⟩, List.mem_of_getElem? (i := 616) (by decide +kernel), List.mem_of_getElem? (i := 788) (by decide +kernel), List.mem_of_getElem? (i := 789) (by decide +kernel)⟩
theorem lw_p30 : lw_okq (⟨"NettedPlansModel", "asks", "(II)J"⟩, 27) := ⟨⟨by decide +kernel, by decide +kernel⟩, List.mem_of_getElem? (i := 616) (by decide +kernel), List.mem_of_getElem? (i := 792) (by decide +kernel), List.mem_of_getElem? (i := 793) (by decide +kernel)⟩
theorem lw_p31 : lw_okq (⟨"NettedPlansModel", "plan", "(I)V"⟩, 27) := ⟨⟨by decide +kernel, by decide +kernel⟩, List.mem_of_getElem? (i := 616) (by decide +kernel), List.mem_of_getElem? (i := 798) (by decide +kernel), List.mem_of_getElem? (i := 799) (by decide +kernel)⟩
def lw_privs_2 : List (MethodName × Nat) := [(⟨"NettedPlans", "pegOfUnits", "(IJJ)J"⟩, 8), (⟨"NettedPlans", "pegOfReceipt", "(II)J"⟩, 8), (⟨"NettedPlans", "leastTrueWeek", "(III)I"⟩, 8), (⟨"NettedPlans", "itemsRunShort", "()I"⟩, 8), (⟨"NettedPlansModel", "refused", "(I)Z"⟩, 27), (⟨"NettedPlansModel", "tell", "(I)V"⟩, 27), (⟨"NettedPlansModel", "setLine", "(IIII)V"⟩, 27), (⟨"NettedPlansModel", "isSound", "()Z"⟩, 27), (⟨"NettedPlansModel", "levelOf", "(I)I"⟩, 27), (⟨"NettedPlansModel", "addTold", "(IIII)I"⟩, 27), (⟨"NettedPlansModel", "add", "(IIII)I"⟩, 27), (⟨"NettedPlansModel", "net", "(I)Z"⟩, 27), (⟨"NettedPlansModel", "grossOf", "(II)J"⟩, 27), (⟨"NettedPlansModel", "sumOf", "(III)J"⟩, 27), (⟨"NettedPlansModel", "asks", "(II)J"⟩, 27), (⟨"NettedPlansModel", "plan", "(I)V"⟩, 27)]
theorem lw_r2 : ∀ q ∈ lw_privs_2, lw_okq q := List.forall_mem_cons.mpr ⟨lw_p16, List.forall_mem_cons.mpr ⟨lw_p17, List.forall_mem_cons.mpr ⟨lw_p18, List.forall_mem_cons.mpr ⟨lw_p19, List.forall_mem_cons.mpr ⟨lw_p20, List.forall_mem_cons.mpr ⟨lw_p21, List.forall_mem_cons.mpr ⟨lw_p22, List.forall_mem_cons.mpr ⟨lw_p23, List.forall_mem_cons.mpr ⟨lw_p24, List.forall_mem_cons.mpr ⟨lw_p25, List.forall_mem_cons.mpr ⟨lw_p26, List.forall_mem_cons.mpr ⟨lw_p27, List.forall_mem_cons.mpr ⟨lw_p28, List.forall_mem_cons.mpr ⟨lw_p29, List.forall_mem_cons.mpr ⟨lw_p30, List.forall_mem_cons.mpr ⟨lw_p31, fun _ h => absurd h List.not_mem_nil⟩⟩⟩⟩⟩⟩⟩⟩⟩⟩⟩⟩⟩⟩⟩⟩
theorem lw_p32 : lw_okq (⟨"NettedPlansModel", "findNeeds", "(I)V"⟩, 27) := ⟨⟨by decide +kernel, by decide +kernel⟩, List.mem_of_getElem? (i := 616) (by decide +kernel), List.mem_of_getElem? (i := 802) (by decide +kernel), List.mem_of_getElem? (i := 803) (by decide +kernel)⟩
theorem lw_p33 : lw_okq (⟨"NettedPlansModel", "bare", "(II)J"⟩, 27) := ⟨⟨by decide +kernel, by decide +kernel⟩, List.mem_of_getElem? (i := 616) (by decide +kernel), List.mem_of_getElem? (i := 806) (by decide +kernel), List.mem_of_getElem? (i := 807) (by decide +kernel)⟩
theorem lw_p34 : lw_okq (⟨"NettedPlansModel", "findBest", "(I)V"⟩, 27) := ⟨⟨by decide +kernel, by decide +kernel⟩, List.mem_of_getElem? (i := 616) (by decide +kernel), List.mem_of_getElem? (i := 813) (by decide +kernel), List.mem_of_getElem? (i := 814) (by decide +kernel)⟩
theorem lw_p35 : lw_okq (⟨"NettedPlansModel", "lastOf", "(II)I"⟩, 27) := ⟨⟨by decide +kernel, by decide +kernel⟩, List.mem_of_getElem? (i := 616) (by decide +kernel), List.mem_of_getElem? (i := 817) (by decide +kernel), List.mem_of_getElem? (i := 818) (by decide +kernel)⟩
theorem lw_p36 : lw_okq (⟨"NettedPlansModel", "cost", "(III)J"⟩, 27) := ⟨⟨by decide +kernel, by decide +kernel⟩, List.mem_of_getElem? (i := 616) (by decide +kernel), List.mem_of_getElem? (i := 821) (by decide +kernel), List.mem_of_getElem? (i := 822) (by decide +kernel)⟩
theorem lw_p37 : lw_okq (⟨"NettedPlansModel", "needOf", "(I)J"⟩, 27) := ⟨⟨by decide +kernel, by decide +kernel⟩, List.mem_of_getElem? (i := 616) (by decide +kernel), List.mem_of_getElem? (i := 825) (by decide +kernel), List.mem_of_getElem? (i := 826) (by decide +kernel)⟩
theorem lw_p38 : lw_okq (⟨"NettedPlansModel", "lot", "(IIJ)J"⟩, 27) := ⟨⟨by decide +kernel, by decide +kernel⟩, List.mem_of_getElem? (i := 616) (by decide +kernel), List.mem_of_getElem? (i := 829) (by decide +kernel), List.mem_of_getElem? (i := 830) (by decide +kernel)⟩
theorem lw_p39 : lw_okq (⟨"NettedPlansModel", "isWrong", "(II)Z"⟩, 27) := ⟨⟨by decide +kernel, by decide +kernel⟩, List.mem_of_getElem? (i := 616) (by decide +kernel), List.mem_of_getElem? (i := 841) (by decide +kernel), List.mem_of_getElem? (i := 842) (by decide +kernel)⟩
theorem lw_p40 : lw_okq (⟨"NettedPlansModel", "supplied", "(III)J"⟩, 27) := ⟨⟨by decide +kernel, by decide +kernel⟩, List.mem_of_getElem? (i := 616) (by decide +kernel), List.mem_of_getElem? (i := 857) (by decide +kernel), List.mem_of_getElem? (i := 858) (by decide +kernel)⟩
theorem lw_p41 : lw_okq (⟨"NettedPlansModel", "isTrue", "(III)Z"⟩, 27) := ⟨⟨by decide +kernel, by decide +kernel⟩, List.mem_of_getElem? (i := 616) (by decide +kernel), List.mem_of_getElem? (i := 865) (by decide +kernel), List.mem_of_getElem? (i := 866) (by decide +kernel)⟩
theorem lw_p42 : lw_okq (⟨"NettedPlansModel", "shortItems", "()I"⟩, 27) := ⟨⟨by decide +kernel, by decide +kernel⟩, List.mem_of_getElem? (i := 616) (by decide +kernel), List.mem_of_getElem? (i := 885) (by decide +kernel), List.mem_of_getElem? (i := 886) (by decide +kernel)⟩
def lw_privs_3 : List (MethodName × Nat) := [(⟨"NettedPlansModel", "findNeeds", "(I)V"⟩, 27), (⟨"NettedPlansModel", "bare", "(II)J"⟩, 27), (⟨"NettedPlansModel", "findBest", "(I)V"⟩, 27), (⟨"NettedPlansModel", "lastOf", "(II)I"⟩, 27), (⟨"NettedPlansModel", "cost", "(III)J"⟩, 27), (⟨"NettedPlansModel", "needOf", "(I)J"⟩, 27), (⟨"NettedPlansModel", "lot", "(IIJ)J"⟩, 27), (⟨"NettedPlansModel", "isWrong", "(II)Z"⟩, 27), (⟨"NettedPlansModel", "supplied", "(III)J"⟩, 27), (⟨"NettedPlansModel", "isTrue", "(III)Z"⟩, 27), (⟨"NettedPlansModel", "shortItems", "()I"⟩, 27)]
theorem lw_r3 : ∀ q ∈ lw_privs_3, lw_okq q := List.forall_mem_cons.mpr ⟨lw_p32, List.forall_mem_cons.mpr ⟨lw_p33, List.forall_mem_cons.mpr ⟨lw_p34, List.forall_mem_cons.mpr ⟨lw_p35, List.forall_mem_cons.mpr ⟨lw_p36, List.forall_mem_cons.mpr ⟨lw_p37, List.forall_mem_cons.mpr ⟨lw_p38, List.forall_mem_cons.mpr ⟨lw_p39, List.forall_mem_cons.mpr ⟨lw_p40, List.forall_mem_cons.mpr ⟨lw_p41, List.forall_mem_cons.mpr ⟨lw_p42, fun _ h => absurd h List.not_mem_nil⟩⟩⟩⟩⟩⟩⟩⟩⟩⟩⟩
def lw_privs : List (MethodName × Nat) := lw_privs_1 ++ (lw_privs_2 ++ (lw_privs_3))
def lw_tbl : List Cond := k2_sels lw_privs ++ tables_1
theorem lw_privs_ok : ∀ q ∈ lw_privs, lw_okq q := by
  show ∀ q ∈ lw_privs_1 ++ (lw_privs_2 ++ (lw_privs_3)), lw_okq q
  exact List.forall_mem_append.mpr ⟨lw_r1, List.forall_mem_append.mpr ⟨lw_r2, lw_r3⟩⟩
-- ===== end of PART A; then your names; then what follows =====
end
section
-- the tables of this class, reference and law: by program out of the Statement and the listing
def RN (o : Nat) : String := ["NettedPlans$Bill", "NettedPlans$Book", "NettedPlans$Item", "NettedPlans$Netting", "NettedPlans", "NettedPlansModel", "NettedPlansLaw", "java/util/Arrays"].getD o ""
def TT0 : u_T := fun k => [("NettedPlans$Bill", "per", "[I", true), ("NettedPlans$Bill", "from", "[I", true), ("NettedPlans$Bill", "to", "[I", true), ("NettedPlans$Bill", "levels", "[I", true), ("NettedPlans$Bill", "trial", "[I", true), ("NettedPlans$Bill", "lines", "I", false)].getD k ("", "", "", false)
def ty0 : Nat → FieldType := fun k => [.array .int, .array .int, .array .int, .array .int, .array .int, .int].getD k .int
def TT1 : u_T := fun k => [("NettedPlans$Book", "items", "[I", true), ("NettedPlans$Book", "weeks", "[I", true), ("NettedPlans$Book", "quantities", "[I", true), ("NettedPlans$Book", "size", "I", false)].getD k ("", "", "", false)
def ty1 : Nat → FieldType := fun k => [.array .int, .array .int, .array .int, .int].getD k .int
def TT2 : u_T := fun k => [("NettedPlans$Item", "rule", "I", false), ("NettedPlans$Item", "size", "I", false), ("NettedPlans$Item", "lead", "I", false), ("NettedPlans$Item", "safety", "I", false), ("NettedPlans$Item", "scrap", "I", false), ("NettedPlans$Item", "setup", "I", false), ("NettedPlans$Item", "hold", "I", false), ("NettedPlans$Item", "stock", "I", false), ("NettedPlans$Item", "centre", "I", false), ("NettedPlans$Item", "hours", "I", false), ("NettedPlans$Item", "told", "Z", false), ("NettedPlans$Item", "gross", "[J", true), ("NettedPlans$Item", "planned", "[J", true), ("NettedPlans$Item", "balance", "[J", true)].getD k ("", "", "", false)
def ty2 : Nat → FieldType := fun k => [.int, .int, .int, .int, .int, .int, .int, .int, .int, .int, .boolean, .array .long, .array .long, .array .long].getD k .int
def TT3 : u_T := fun k => [("NettedPlans$Netting", "bare", "[J", true), ("NettedPlans$Netting", "need", "[J", true), ("NettedPlans$Netting", "best", "[J", true), ("NettedPlans$Netting", "lastOfLot", "[I", true)].getD k ("", "", "", false)
def ty3 : Nat → FieldType := fun k => [.array .long, .array .long, .array .long, .array .int].getD k .int
def TT4 : u_T := fun k => [("NettedPlans", "items", "[LNettedPlans$Item;", true), ("NettedPlans", "bill", "LNettedPlans$Bill;", true), ("NettedPlans", "demands", "LNettedPlans$Book;", true), ("NettedPlans", "orders", "LNettedPlans$Book;", true), ("NettedPlans", "reservations", "LNettedPlans$Book;", true), ("NettedPlans", "netting", "LNettedPlans$Netting;", true), ("NettedPlans", "asked", "[J", true), ("NettedPlans", "brought", "[J", true)].getD k ("", "", "", false)
def ty4 : Nat → FieldType := fun k => [.array (.object "NettedPlans$Item"), .object "NettedPlans$Bill", .object "NettedPlans$Book", .object "NettedPlans$Book", .object "NettedPlans$Book", .object "NettedPlans$Netting", .array .long, .array .long].getD k .int
def TT5 : u_T := fun k => [("NettedPlansModel", "fault", "I", false), ("NettedPlansModel", "rule", "[I", true), ("NettedPlansModel", "size", "[I", true), ("NettedPlansModel", "lead", "[I", true), ("NettedPlansModel", "safety", "[I", true), ("NettedPlansModel", "scrap", "[I", true), ("NettedPlansModel", "setup", "[I", true), ("NettedPlansModel", "hold", "[I", true), ("NettedPlansModel", "stock", "[I", true), ("NettedPlansModel", "centre", "[I", true), ("NettedPlansModel", "hours", "[I", true), ("NettedPlansModel", "per", "[I", true), ("NettedPlansModel", "from", "[I", true), ("NettedPlansModel", "to", "[I", true), ("NettedPlansModel", "lines", "I", false), ("NettedPlansModel", "counts", "[I", true), ("NettedPlansModel", "itemOf", "[I", true), ("NettedPlansModel", "weekOf", "[I", true), ("NettedPlansModel", "many", "[I", true), ("NettedPlansModel", "isPlanned", "Z", false), ("NettedPlansModel", "isTold", "Z", false), ("NettedPlansModel", "told", "[Z", true), ("NettedPlansModel", "gross", "[J", true), ("NettedPlansModel", "planned", "[J", true), ("NettedPlansModel", "fresh", "[J", true), ("NettedPlansModel", "need", "[J", true), ("NettedPlansModel", "best", "[J", true)].getD k ("", "", "", false)
def ty5 : Nat → FieldType := fun k => [.int, .array .int, .array .int, .array .int, .array .int, .array .int, .array .int, .array .int, .array .int, .array .int, .array .int, .array .int, .array .int, .array .int, .int, .array .int, .array .int, .array .int, .array .int, .boolean, .boolean, .array .boolean, .array .long, .array .long, .array .long, .array .long, .array .long].getD k .int
abbrev vwCl : List vw_C := [(RN 0, TT0, 6), (RN 1, TT1, 4), (RN 2, TT2, 14), (RN 3, TT3, 4), (RN 4, TT4, 8), (RN 5, TT5, 27)]
def fn (ci : Nat) : Nat := [6, 4, 14, 4, 8, 27].getD ci 0
def ftk (ci j : Nat) : Nat := ([[2, 2, 2, 2, 2, 0], [2, 2, 2, 0], [0, 0, 0, 0, 0, 0, 0, 0, 0, 0, 3, 2, 2, 2], [2, 2, 2, 2], [2, 2, 2, 2, 2, 2, 2, 2], [0, 2, 2, 2, 2, 2, 2, 2, 2, 2, 2, 2, 2, 2, 0, 2, 2, 2, 2, 3, 3, 2, 2, 2, 2, 2, 2]].getD ci []).getD j 2
def ffn (ci j : Nat) : Bool := ([[true, true, true, true, true, false], [true, true, true, false], [false, false, false, false, false, false, false, false, false, false, false, true, true, true], [true, true, true, true], [true, true, true, true, true, true, true, true], [false, true, true, true, true, true, true, true, true, true, true, true, true, true, false, true, true, true, true, false, false, true, true, true, true, true, true]].getD ci []).getD j true
abbrev itN : String := "NettedPlans$Item"
def kd (t : Nat) : Nat × Nat := [(3, 4), (2, 12), (3, 0), (0, 144), (0, 144), (0, 144), (0, 12), (0, 12), (3, 1), (0, 24), (0, 24), (0, 24), (3, 3), (1, 12), (1, 12), (1, 13), (0, 12), (1, 12), (1, 12), (3, 2), (1, 12), (1, 12), (1, 12), (3, 5), (0, 12), (0, 12), (0, 12), (0, 12), (0, 12), (0, 12), (0, 12), (0, 12), (0, 12), (0, 12), (0, 144), (0, 144), (0, 144), (0, 3), (0, 72), (0, 72), (0, 72), (4, 12), (1, 144), (1, 144), (1, 12), (1, 13), (1, 13), (1, 1)].getD t (9, 0)
def ct (t : Nat) : Nat := [1, 1, 1, 1, 1, 1, 1, 1, 3, 3, 3, 3, 1, 1, 1, 1, 1, 1, 1, 12, 12, 12, 12, 1, 1, 1, 1, 1, 1, 1, 1, 1, 1, 1, 1, 1, 1, 1, 1, 1, 1, 1, 1, 1, 1, 1, 1, 1].getD t 0
abbrev NN : Nat := 100
def od (t i : Nat) : Nat := if t < 8 then t else if t < 12 then t + 4 * i else if t < 19 then t + 8 else if t < 23 then t + 8 + 4 * i else t + 52
def ky (k : Nat) : Nat × Nat := if k < 8 then (k, 0) else if k < 20 then (8 + (k - 8) % 4, (k - 8) / 4) else if k < 27 then (k - 8, 0) else if k < 75 then (19 + (k - 27) % 4, (k - 27) / 4) else (k - 52, 0)
theorem ct_le {t i : Nat} (h : i < ct t) : t < 48 ∧ i < 12 := by
  have h1 : t < 48 := by
    rcases Nat.lt_or_ge t 48 with q | q
    · exact q
    · exfalso
      unfold ct at h
      rw [List.getD_eq_getElem?_getD, List.getElem?_eq_none (by simpa using q)] at h
      exact absurd h (Nat.not_lt_zero _)
  refine ⟨h1, ?_⟩
  have h2 : ∀ t, t < 48 → ct t ≤ 12 := by decide +kernel
  exact Nat.lt_of_lt_of_le h (h2 t h1)
theorem ky_od {t i : Nat} (h : i < ct t) : ky (od t i) = (t, i) := by
  obtain ⟨h1, h2⟩ := ct_le h
  have h3 : ∀ t, t < 48 → ∀ i, i < 12 → i < ct t → ky (od t i) = (t, i) := by decide +kernel
  exact h3 t h1 i h2 h
theorem od_lt {t i : Nat} (h : i < ct t) : od t i < NN := by
  obtain ⟨h1, h2⟩ := ct_le h
  have h3 : ∀ t, t < 48 → ∀ i, i < 12 → i < ct t → od t i < NN := by decide +kernel
  exact h3 t h1 i h2 h
theorem od_ky {k : Nat} (h : k < NN) : od (ky k).1 (ky k).2 = k := by
  have h3 : ∀ k, k < NN → od (ky k).1 (ky k).2 = k := by decide +kernel
  exact h3 k h
theorem kd_sm (t : Nat) : (kd t).2 < 2 ^ 31 := by
  rcases Nat.lt_or_ge t 48 with q | q
  · have h3 : ∀ t, t < 48 → (kd t).2 < 2 ^ 31 := by decide +kernel
    exact h3 t q
  · unfold kd
    rw [List.getD_eq_getElem?_getD, List.getElem?_eq_none (by simpa using q)]
    decide
def Fx (t i j : Nat) : Option (Nat × Nat) := match t with
  | 0 => (match j with
    | 0 => some (1, 0)
    | 1 => some (2, 0)
    | 2 => some (8, 0)
    | 3 => some (8, 1)
    | 4 => some (8, 2)
    | 5 => some (12, 0)
    | 6 => some (17, 0)
    | 7 => some (18, 0)
    | _ => none)
  | 1 => some (19, j)
  | 2 => (match j with
    | 0 => some (3, 0)
    | 1 => some (4, 0)
    | 2 => some (5, 0)
    | 3 => some (6, 0)
    | 4 => some (7, 0)
    | _ => none)
  | 8 => (match j with
    | 0 => some (9, i)
    | 1 => some (10, i)
    | 2 => some (11, i)
    | _ => none)
  | 12 => (match j with
    | 0 => some (13, 0)
    | 1 => some (14, 0)
    | 2 => some (15, 0)
    | 3 => some (16, 0)
    | _ => none)
  | 19 => (match j with
    | 11 => some (20, i)
    | 12 => some (21, i)
    | 13 => some (22, i)
    | _ => none)
  | 23 => (match j with
    | 1 => some (24, 0)
    | 2 => some (25, 0)
    | 3 => some (26, 0)
    | 4 => some (27, 0)
    | 5 => some (28, 0)
    | 6 => some (29, 0)
    | 7 => some (30, 0)
    | 8 => some (31, 0)
    | 9 => some (32, 0)
    | 10 => some (33, 0)
    | 11 => some (34, 0)
    | 12 => some (35, 0)
    | 13 => some (36, 0)
    | 15 => some (37, 0)
    | 16 => some (38, 0)
    | 17 => some (39, 0)
    | 18 => some (40, 0)
    | 21 => some (41, 0)
    | 22 => some (42, 0)
    | 23 => some (43, 0)
    | 24 => some (44, 0)
    | 25 => some (45, 0)
    | 26 => some (46, 0)
    | _ => none)
  | _ => none
def mo (k : Nat) : Nat := [4, 0, 1, 3, 2, 4, 4, 4, 7, 1, 4, 0, 2, 2, 2, 3, 3, 3, 3, 3, 3, 3, 6, 4, 4, 4, 4, 6, 4, 6, 4, 4, 6, 4, 0, 0, 0, 7, 0, 0, 6, 4, 6, 4, 4, 4, 4, 1, 1, 6, 4, 4, 1, 6, 4, 6, 4, 6, 4, 4, 4, 6, 4, 6, 4, 6, 4, 4, 1, 1, 4, 4, 4, 6, 4, 4, 6, 4, 6, 4, 6, 4, 6, 4, 4, 2, 5, 5, 5, 5, 5, 5, 5, 5, 5, 5, 5, 5, 5, 5, 5, 5, 5, 5, 5, 5, 5, 5, 5, 5, 5, 5, 5, 5, 5, 5, 5, 5, 5, 5, 5, 5, 5, 5, 5, 5, 5, 5, 5, 5, 5, 5, 5, 6].getD k 0
def nm (k : Nat) : String := ["<init>", "<init>", "<init>", "<init>", "<init>", "replan", "planAnew", "collectGross", "fill", "addTo", "askForParts", "place", "startedIn", "withScrap", "hasGross", "net", "findNeeds", "findCheapestLots", "needBefore", "findCheapestLot", "lot", "leastMultiple", "item", "item", "known", "checkItem", "checkRange", "costs", "costs", "made", "made", "checkCentre", "line", "line", "drop", "setLevels", "highestLevel", "fill", "fits", "put", "stock", "stock", "demand", "demand", "tellNew", "checkWeek", "checkRoom", "isFull", "add", "change", "change", "checkNumber", "exchange", "order", "order", "level", "level", "gross", "gross", "checkPlanned", "isTold", "planned", "planned", "balance", "balance", "peg", "peg", "pegOfOrder", "upTo", "ahead", "sumUpTo", "pegOfUnits", "pegOfReceipt", "promise", "promise", "leastTrueWeek", "reserve", "reserve", "giveBack", "giveBack", "load", "load", "count", "count", "itemsRunShort", "runsShort", "<init>", "thrown", "item", "isIn", "isTwelve", "refused", "tell", "costs", "made", "line", "setLine", "isSound", "levelOf", "stock", "demand", "addTold", "add", "order", "change", "replan", "net", "grossOf", "sumOf", "asks", "plan", "findNeeds", "bare", "upTo", "findBest", "lastOf", "cost", "needOf", "lot", "level", "gross", "isWrong", "planned", "balance", "peg", "supplied", "promise", "isTrue", "reserve", "giveBack", "load", "count", "shortItems", "law"].getD k ""
def ds (k : Nat) : String := ["()V", "()V", "()V", "()V", "()V", "()I", "(I)Z", "(I)V", "([JJ)V", "([JI)V", "(II)V", "(II)I", "(I)J", "(J)J", "([J)Z", "(LNettedPlans$Item;[J)V", "(LNettedPlans$Item;[J)V", "(LNettedPlans$Item;)V", "(I)J", "(LNettedPlans$Item;I)V", "(LNettedPlans$Item;IJ)J", "(IJ)J", "(LNettedPlans;IIIII)I", "(IIIII)V", "(I)LNettedPlans$Item;", "(I)V", "(III)V", "(LNettedPlans;IIII)I", "(IIII)V", "(LNettedPlans;III)I", "(III)V", "(I)V", "(LNettedPlans;IIIII)I", "(IIIII)V", "(I)V", "()V", "(I)I", "([II)V", "(I)Z", "(IIII)V", "(LNettedPlans;II[J)I", "(II)I", "(LNettedPlans;III[J)I", "(III)I", "(LNettedPlans$Book;III)I", "(I)V", "(LNettedPlans$Book;)V", "()Z", "(III)I", "(LNettedPlans;III[J)I", "(III)I", "(LNettedPlans$Book;I)V", "(II)I", "(LNettedPlans;III[J)I", "(III)I", "(LNettedPlans;I[J)I", "(I)I", "(LNettedPlans;II[J)I", "(II)J", "()V", "()Z", "(LNettedPlans;II[J)I", "(II)J", "(LNettedPlans;II[J)I", "(II)J", "(LNettedPlans;III[J)I", "(III)J", "(II)J", "(II)J", "(I)J", "([JI)J", "(IJJ)J", "(II)J", "(LNettedPlans;III[J)I", "(III)I", "(III)I", "(LNettedPlans;III[J)I", "(III)I", "(LNettedPlans;I[J)I", "(I)I", "(LNettedPlans;II[J)I", "(II)J", "(LNettedPlans;I[J)I", "(I)I", "()I", "()Z", "()V", "()I", "(IIIII)V", "(III)Z", "(I)Z", "(I)Z", "(I)V", "(IIII)V", "(III)V", "(IIIII)V", "(IIII)V", "()Z", "(I)I", "(II)I", "(III)I", "(IIII)I", "(IIII)I", "(III)I", "(III)I", "()I", "(I)Z", "(II)J", "(III)J", "(II)J", "(I)V", "(I)V", "(II)J", "([JII)J", "(I)V", "(II)I", "(III)J", "(I)J", "(IIJ)J", "(I)I", "(II)J", "(II)Z", "(II)J", "(II)J", "(III)J", "(III)J", "(III)I", "(III)Z", "(III)I", "(I)I", "(II)J", "(I)I", "()I", "([I)Z"].getD k ""
def yn (k : Nat) : MethodName := ⟨RN (mo k), nm k, ds k⟩
abbrev own (k : Nat) : String := RN (mo k)
def cc (k : Nat) : ByteArray := [prog_1_method_1_code, prog_2_method_1_code, prog_3_method_1_code, prog_5_method_1_code, prog_4_method_1_code, prog_1_method_10_code, prog_1_method_31_code, prog_1_method_32_code, prog_17_method_101_code, prog_3_method_5_code, prog_1_method_33_code, prog_2_method_2_code, prog_4_method_2_code, prog_4_method_3_code, prog_4_method_4_code, prog_5_method_2_code, prog_5_method_3_code, prog_5_method_6_code, prog_5_method_7_code, prog_5_method_8_code, prog_5_method_4_code, prog_5_method_5_code, method_3_code, prog_1_method_2_code, prog_1_method_22_code, prog_1_method_21_code, prog_1_method_26_code, method_4_code, prog_1_method_3_code, method_5_code, prog_1_method_4_code, prog_1_method_24_code, method_6_code, prog_1_method_5_code, prog_2_method_5_code, prog_2_method_6_code, prog_2_method_7_code, prog_17_method_103_code, prog_2_method_3_code, prog_2_method_4_code, method_7_code, prog_1_method_6_code, method_8_code, prog_1_method_7_code, prog_1_method_30_code, prog_1_method_23_code, prog_1_method_27_code, prog_3_method_2_code, prog_3_method_3_code, method_9_code, prog_1_method_8_code, prog_1_method_25_code, prog_3_method_4_code, method_10_code, prog_1_method_9_code, method_11_code, prog_1_method_11_code, method_12_code, prog_1_method_12_code, prog_1_method_28_code, prog_1_method_29_code, method_13_code, prog_1_method_13_code, method_14_code, prog_1_method_14_code, method_15_code, prog_1_method_15_code, prog_1_method_34_code, prog_3_method_6_code, prog_3_method_7_code, prog_1_method_37_code, prog_1_method_36_code, prog_1_method_35_code, method_16_code, prog_1_method_16_code, prog_1_method_38_code, method_17_code, prog_1_method_17_code, method_18_code, prog_1_method_18_code, method_19_code, prog_1_method_19_code, method_20_code, prog_1_method_20_code, prog_1_method_39_code, prog_4_method_5_code, prog_7_method_1_code, prog_7_method_2_code, prog_7_method_7_code, prog_7_method_4_code, prog_7_method_5_code, prog_7_method_3_code, prog_7_method_6_code, prog_7_method_8_code, prog_7_method_9_code, prog_7_method_13_code, prog_7_method_12_code, prog_7_method_11_code, prog_7_method_10_code, prog_7_method_14_code, prog_7_method_17_code, prog_7_method_16_code, prog_7_method_15_code, prog_7_method_18_code, prog_7_method_19_code, prog_7_method_33_code, prog_7_method_32_code, prog_7_method_24_code, prog_7_method_20_code, prog_7_method_23_code, prog_7_method_31_code, prog_7_method_25_code, prog_7_method_22_code, prog_7_method_21_code, prog_7_method_29_code, prog_7_method_28_code, prog_7_method_27_code, prog_7_method_26_code, prog_7_method_30_code, prog_7_method_34_code, prog_7_method_36_code, prog_7_method_35_code, prog_7_method_37_code, prog_7_method_38_code, prog_7_method_40_code, prog_7_method_39_code, prog_7_method_42_code, prog_7_method_41_code, prog_7_method_43_code, prog_7_method_44_code, prog_7_method_45_code, prog_7_method_47_code, prog_7_method_46_code, code].getD k ⟨#[]⟩
def mL (k : Nat) : Nat := [2, 1, 1, 1, 1, 4, 3, 3, 5, 4, 6, 2, 3, 3, 3, 6, 8, 3, 2, 8, 5, 3, 7, 7, 2, 1, 3, 6, 6, 5, 5, 1, 7, 8, 2, 1, 7, 4, 2, 5, 5, 5, 6, 4, 6, 1, 1, 1, 4, 6, 5, 2, 4, 6, 4, 4, 2, 5, 4, 1, 2, 5, 4, 5, 4, 6, 4, 7, 6, 5, 5, 12, 6, 6, 4, 6, 6, 4, 4, 2, 5, 6, 4, 2, 3, 2, 2, 1, 7, 3, 1, 2, 2, 6, 4, 11, 5, 3, 7, 4, 4, 5, 6, 4, 7, 4, 4, 6, 7, 8, 7, 8, 3, 6, 4, 5, 7, 2, 7, 2, 3, 3, 3, 3, 19, 9, 5, 6, 5, 3, 7, 2, 5, 8].getD k 0
def rt (k : Nat) : Option FieldType := [(Option.none : Option FieldType), (Option.none : Option FieldType), (Option.none : Option FieldType), (Option.none : Option FieldType), (Option.none : Option FieldType), (Option.some FieldType.int), (Option.some FieldType.boolean), (Option.none : Option FieldType), (Option.none : Option FieldType), (Option.none : Option FieldType), (Option.none : Option FieldType), (Option.some FieldType.int), (Option.some FieldType.long), (Option.some FieldType.long), (Option.some FieldType.boolean), (Option.none : Option FieldType), (Option.none : Option FieldType), (Option.none : Option FieldType), (Option.some FieldType.long), (Option.none : Option FieldType), (Option.some FieldType.long), (Option.some FieldType.long), (Option.some FieldType.int), (Option.none : Option FieldType), (Option.some (FieldType.object "NettedPlans$Item")), (Option.none : Option FieldType), (Option.none : Option FieldType), (Option.some FieldType.int), (Option.none : Option FieldType), (Option.some FieldType.int), (Option.none : Option FieldType), (Option.none : Option FieldType), (Option.some FieldType.int), (Option.none : Option FieldType), (Option.none : Option FieldType), (Option.none : Option FieldType), (Option.some FieldType.int), (Option.none : Option FieldType), (Option.some FieldType.boolean), (Option.none : Option FieldType), (Option.some FieldType.int), (Option.some FieldType.int), (Option.some FieldType.int), (Option.some FieldType.int), (Option.some FieldType.int), (Option.none : Option FieldType), (Option.none : Option FieldType), (Option.some FieldType.boolean), (Option.some FieldType.int), (Option.some FieldType.int), (Option.some FieldType.int), (Option.none : Option FieldType), (Option.some FieldType.int), (Option.some FieldType.int), (Option.some FieldType.int), (Option.some FieldType.int), (Option.some FieldType.int), (Option.some FieldType.int), (Option.some FieldType.long), (Option.none : Option FieldType), (Option.some FieldType.boolean), (Option.some FieldType.int), (Option.some FieldType.long), (Option.some FieldType.int), (Option.some FieldType.long), (Option.some FieldType.int), (Option.some FieldType.long), (Option.some FieldType.long), (Option.some FieldType.long), (Option.some FieldType.long), (Option.some FieldType.long), (Option.some FieldType.long), (Option.some FieldType.long), (Option.some FieldType.int), (Option.some FieldType.int), (Option.some FieldType.int), (Option.some FieldType.int), (Option.some FieldType.int), (Option.some FieldType.int), (Option.some FieldType.int), (Option.some FieldType.int), (Option.some FieldType.long), (Option.some FieldType.int), (Option.some FieldType.int), (Option.some FieldType.int), (Option.some FieldType.boolean), (Option.none : Option FieldType), (Option.some FieldType.int), (Option.none : Option FieldType), (Option.some FieldType.boolean), (Option.some FieldType.boolean), (Option.some FieldType.boolean), (Option.none : Option FieldType), (Option.none : Option FieldType), (Option.none : Option FieldType), (Option.none : Option FieldType), (Option.none : Option FieldType), (Option.some FieldType.boolean), (Option.some FieldType.int), (Option.some FieldType.int), (Option.some FieldType.int), (Option.some FieldType.int), (Option.some FieldType.int), (Option.some FieldType.int), (Option.some FieldType.int), (Option.some FieldType.int), (Option.some FieldType.boolean), (Option.some FieldType.long), (Option.some FieldType.long), (Option.some FieldType.long), (Option.none : Option FieldType), (Option.none : Option FieldType), (Option.some FieldType.long), (Option.some FieldType.long), (Option.none : Option FieldType), (Option.some FieldType.int), (Option.some FieldType.long), (Option.some FieldType.long), (Option.some FieldType.long), (Option.some FieldType.int), (Option.some FieldType.long), (Option.some FieldType.boolean), (Option.some FieldType.long), (Option.some FieldType.long), (Option.some FieldType.long), (Option.some FieldType.long), (Option.some FieldType.int), (Option.some FieldType.boolean), (Option.some FieldType.int), (Option.some FieldType.int), (Option.some FieldType.long), (Option.some FieldType.int), (Option.some FieldType.int), (Option.some FieldType.boolean)].getD k none
def hh (k : Nat) : List (Nat × Nat × Nat × Nat) := [[], [], [], [], [], [], [], [], [], [], [], [], [], [], [], [], [], [], [], [], [], [], [(0, 11, 14, 13), (0, 11, 18, 15)], [], [], [], [], [(0, 9, 12, 13), (0, 9, 16, 15)], [], [(0, 7, 10, 13), (0, 7, 14, 15)], [], [], [(0, 11, 14, 13), (0, 11, 18, 15), (0, 11, 22, 28)], [], [], [], [], [], [], [], [(0, 10, 13, 13), (0, 10, 17, 15)], [], [(0, 12, 15, 13), (0, 12, 19, 15), (0, 12, 23, 28)], [], [], [], [], [], [], [(0, 12, 15, 15), (0, 12, 19, 13)], [], [], [], [(0, 12, 15, 13), (0, 12, 19, 15), (0, 12, 23, 28)], [], [(0, 9, 12, 13)], [], [(0, 9, 12, 13), (0, 9, 16, 28)], [], [], [], [(0, 9, 12, 13), (0, 9, 16, 28)], [], [(0, 9, 12, 13), (0, 9, 16, 28)], [], [(0, 11, 14, 13), (0, 11, 18, 15), (0, 11, 22, 28)], [], [], [], [], [], [], [], [(0, 12, 15, 13), (0, 12, 19, 15), (0, 12, 23, 28)], [], [], [(0, 12, 15, 13), (0, 12, 19, 15), (0, 12, 23, 28)], [], [(0, 9, 12, 13)], [], [(0, 9, 12, 13), (0, 9, 16, 28)], [], [(0, 9, 12, 28)], [], [], [], [], [], [], [], [], [], [], [], [], [], [], [], [], [], [], [], [], [], [], [], [], [], [], [], [], [], [], [], [], [], [], [], [], [], [], [], [], [], [], [], [], [], [], [], [], [], [], []].getD k []
def fr (k : Nat) : Nat := [2, 1, 1, 1, 1, 5, 4, 2, 0, 0, 1, 0, 0, 0, 0, 3, 1, 2, 0, 1, 1, 0, 9, 8, 7, 6, 6, 9, 8, 9, 8, 6, 9, 8, 3, 2, 1, 0, 2, 3, 9, 8, 10, 9, 8, 6, 6, 0, 1, 9, 8, 6, 0, 10, 9, 8, 7, 9, 8, 6, 0, 9, 8, 9, 8, 11, 10, 9, 0, 0, 0, 8, 9, 10, 9, 8, 10, 9, 8, 7, 8, 7, 8, 7, 1, 0, 1, 0, 2, 0, 1, 0, 0, 2, 2, 2, 0, 1, 0, 2, 3, 2, 0, 3, 1, 6, 5, 1, 0, 0, 4, 2, 1, 0, 3, 2, 1, 0, 3, 2, 3, 2, 3, 3, 2, 1, 3, 2, 3, 1, 2, 3, 2, 14].getD k 0
def lo (k : Nat) : Nat := [44, 24, 24, 24, 24, 117, 95, 47, 0, 0, 22, 0, 0, 0, 0, 70, 24, 48, 0, 21, 24, 0, 157, 131, 110, 90, 90, 156, 131, 155, 131, 90, 158, 131, 80, 60, 24, 0, 50, 80, 155, 131, 179, 156, 131, 90, 90, 0, 20, 155, 131, 90, 0, 179, 156, 131, 110, 154, 131, 90, 0, 154, 131, 154, 131, 211, 188, 162, 0, 0, 0, 131, 162, 179, 156, 131, 179, 156, 132, 111, 135, 110, 131, 110, 21, 0, 24, 0, 42, 0, 22, 0, 0, 42, 42, 48, 0, 26, 0, 42, 66, 42, 0, 66, 22, 146, 123, 27, 0, 0, 97, 48, 26, 0, 71, 47, 21, 0, 71, 42, 64, 42, 64, 64, 53, 25, 73, 48, 73, 22, 42, 72, 48, 542].getD k 0
def mc (k : Nat) : Nat := [73, 5, 3, 4, 3, 0, 0, 0, 0, 0, 0, 0, 0, 0, 0, 0, 0, 0, 0, 0, 0, 0, 5, 5, 1, 1, 1, 4, 4, 3, 3, 1, 6, 6, 0, 0, 0, 0, 0, 0, 2, 2, 4, 4, 4, 1, 1, 0, 0, 4, 4, 1, 0, 4, 4, 1, 1, 3, 3, 1, 0, 3, 3, 3, 3, 11, 11, 2, 0, 0, 0, 1, 2, 16, 16, 12, 17, 17, 1, 1, 3, 3, 1, 1, 0, 0, 23, 0, 0, 0, 0, 0, 0, 0, 0, 0, 0, 0, 0, 0, 0, 0, 0, 0, 0, 0, 0, 0, 0, 0, 0, 0, 0, 0, 0, 0, 0, 0, 0, 0, 0, 0, 0, 0, 0, 0, 0, 0, 0, 0, 0, 0, 0, 601024].getD k 0
def ms (k : Nat) : Nat := [1379, 456, 72, 49, 36, 0, 0, 0, 0, 0, 0, 0, 0, 0, 0, 0, 0, 0, 0, 0, 0, 0, 30, 30, 6, 6, 6, 24, 24, 18, 18, 6, 36, 36, 0, 0, 0, 0, 0, 0, 12, 12, 24, 24, 24, 6, 6, 0, 0, 24, 24, 6, 0, 24, 24, 6, 6, 18, 18, 6, 0, 18, 18, 18, 18, 66, 66, 12, 0, 0, 0, 6, 12, 96, 96, 72, 102, 102, 6, 6, 18, 18, 6, 6, 0, 0, 1109, 0, 0, 0, 0, 0, 0, 0, 0, 0, 0, 0, 0, 0, 0, 0, 0, 0, 0, 0, 0, 0, 0, 0, 0, 0, 0, 0, 0, 0, 0, 0, 0, 0, 0, 0, 0, 0, 0, 0, 0, 0, 0, 0, 0, 0, 0, 7293034].getD k 0
def np (k : Nat) : Nat := [0, 0, 0, 0, 0, 0, 1, 1, 2, 2, 2, 2, 1, 1, 1, 2, 2, 1, 1, 2, 3, 2, 6, 5, 1, 1, 3, 5, 4, 4, 3, 1, 6, 5, 1, 0, 1, 2, 1, 4, 4, 2, 5, 3, 4, 1, 1, 0, 3, 5, 3, 2, 2, 5, 3, 3, 1, 4, 2, 0, 0, 4, 2, 4, 2, 5, 3, 2, 2, 1, 2, 3, 2, 5, 3, 3, 5, 3, 3, 1, 4, 2, 3, 1, 0, 0, 0, 0, 5, 3, 1, 1, 1, 4, 3, 5, 4, 0, 1, 2, 3, 4, 4, 3, 3, 0, 1, 2, 3, 2, 1, 1, 2, 3, 1, 2, 3, 1, 3, 1, 2, 2, 2, 2, 3, 3, 3, 3, 3, 1, 2, 1, 0, 1].getD k 0
def ini (k : Nat) : Bool := nm k == "<init>"
theorem ini_nm {k : Nat} (h : ini k = true) : nm k = "<init>" := by simpa [ini] using h
abbrev LAW : Nat := 133
def strT : List (String × Nat × String) := [("NettedPlans", 198, "no such item"), ("NettedPlans", 209, "a value out of its range"), ("NettedPlans", 203, "no such centre"), ("NettedPlans", 111, "no place for such a line"), ("NettedPlans", 201, "no such week"), ("NettedPlans", 215, "the book is full"), ("NettedPlans", 205, "no such number"), ("NettedPlans", 217, "something was told since the last replanning")]
abbrev EX (n : Nat) : String := ["java/lang/IndexOutOfBoundsException", "java/lang/IllegalArgumentException", "java/lang/IllegalStateException"].getD n ""
def ncT : List (String × String) := [("java/lang/IllegalArgumentException", "java/lang/IndexOutOfBoundsException"), ("java/lang/IllegalStateException", "java/lang/IndexOutOfBoundsException"), ("java/lang/IndexOutOfBoundsException", "java/lang/IllegalArgumentException"), ("java/lang/IllegalStateException", "java/lang/IllegalArgumentException"), ("java/lang/IndexOutOfBoundsException", "java/lang/IllegalStateException"), ("java/lang/IllegalArgumentException", "java/lang/IllegalStateException")]
def nlT : List (String × Nat × Nat × String) := [("NettedPlans", 17, 1, "NettedPlans"), ("NettedPlans", 24, 2, "NettedPlans"), ("NettedPlans", 37, 3, "NettedPlans"), ("NettedPlans", 49, 4, "NettedPlans")]
end
section
-- ===== ends that return or throw: own words over the library's laws =====
/-- an end: what it is, the tables warmer, nothing moved but what 'free' names and at most mc new cells of ms slots -/
def oxE (mc ms : Nat) (free : Addr → Prop) (Qe : State → Outcome → State → Prop) (st : State) (o : Outcome) (t : State) : Prop :=
  Qe st o t ∧ st.WarmedH t.vm ∧ ∃ L : List Loc, st.sameButNew ({ t with vm := st.vm } : State) L mc ms ∧ ∀ q ∈ L, free q.base
def oxM (l : Launch) (y : MethodName) (ws : List Cond) (rm : Room) (Pc : Array Value → State → Prop) (Qe : State → Outcome → State → Prop) (mc ms : Nat) (free : Addr → Prop) : Prop :=
  MetFree l y (headSpec ws rm) Pc (fun _ _ _ _ _ => True) (fun _ st o t => oxE mc ms free Qe st o t)
def oxZ (below : List Frame) (Qe : State → Outcome → State → Prop) (s : State) (mc ms : Nat) (free : Addr → Prop) : State → Prop := fun t => ∃ o, t.status = .running ∧ Ended t below o ∧ oxE mc ms free Qe s o t
/-- the machine with an exception q over the frame g -/
def oxW (p : Program) (l : Launch) (e : Env) (R : Room) (s : State) (m : MethodId) (args : Array Value) (below : List Frame) (meth : Method) (c : Code) (H : Heap) (locs : List Loc) (cells slots : Nat) (Q : State → Prop) (g : JFrame) (q : Addr) : Prop :=
  ∀ T : State, T.heap = H → Stand p l e R s m args below meth c T locs cells slots → ∃ t, Steps p.tables e below ((T.setTop g).pushFrame (.throwing q)) t ∧ Q t
section Ox
variable {p : Program} {l : Launch} {e : Env} {R : Room} {s : State} {m : MethodId} {args : Array Value} {below : List Frame} {meth : Method} {c : Code} {H : Heap} {locs : List Loc} {cells slots : Nat}
theorem Wmono {Q Q' : State → Prop} {g : JFrame} (hQ : ∀ t, Q t → Q' t) (k : W p l e R s m args below meth c H locs cells slots Q g) : W p l e R s m args below meth c H locs cells slots Q' g := fun T hT X => by
  obtain ⟨t, a, b⟩ := k T hT X
  exact ⟨t, a, hQ t b⟩
theorem oxRet {Qe : State → Outcome → State → Prop} {mc ms : Nat} {free : Addr → Prop} {g : JFrame} (k : W p l e R s m args below meth c H locs cells slots (MQ below (fun _ st o t => Qe st o t) args s mc ms free) g) : W p l e R s m args below meth c H locs cells slots (oxZ below Qe s mc ms free) g :=
  Wmono (fun t h => by
    obtain ⟨o, h1, h2, h3, L, ⟨-, h4, h5⟩, h6⟩ := h
    exact ⟨o, h1, h2, h3, h4, L, h5, h6⟩) k
/-- out of a body without handlers -/
theorem oxM.body {y : MethodName} {ws ws' : List Cond} {rm : Room} {Pc : Array Value → State → Prop} {Qe : State → Outcome → State → Prop} {mc ms : Nat} {free : Addr → Prop} {cc : ByteArray} {maxL : Nat} {ret : Option FieldType}
    (hy : plainName y.cls = true) (hw : ws = Cond.code y cc maxL ret :: ws')
    (body : ∀ p e s m args below meth c s₁, BodyLoose p l y (headSpec ws rm) cc maxL ret e s m args below meth c s₁ → c.maxLocals = maxL → c.exceptionTable.toList = [] → Pc args s →
      W p l e rm s m args below meth c s.heap [] 0 0 (oxZ below Qe s mc ms free) (entryFrame m args maxL)) : oxM l y ws rm Pc Qe mc ms free := by
  refine MetFree.of_bodyS (code := cc) (maxLocals := maxL) (ret := ret) hy ?_ ?_
  · intro args s m h hn
    obtain ⟨meth, c, h1, h2, h3, h4, h5, h6, -, -⟩ := Cond.code_spec hn (atoms_spec (ws := ws) h _ (by rw [hw]; exact List.mem_cons_self))
    exact ⟨meth, c, h1, h2, h3, h4, h5, h6⟩
  · intro p e s m args below meth c s₁ B hml hP _
    have hnh := B.noHandlers (atoms_spec (ws := ws) B.pre _ (by rw [hw]; exact List.mem_cons_self))
    obtain ⟨t, a1, o, b1, b2, b3⟩ := body p e s m args below meth c s₁ B hml (by rw [Array.isEmpty_iff.mp hnh]) hP s₁ (by rw [B.state]; rfl) (Stand.of_body B)
    exact ⟨t, o, a1, b1, b2, b3⟩
/-- out of a body with handlers -/
theorem oxM.bodyH {y : MethodName} {ws ws' : List Cond} {rm : Room} {Pc : Array Value → State → Prop} {Qe : State → Outcome → State → Prop} {mc ms : Nat} {free : Addr → Prop} {cc : ByteArray} {maxL : Nat} {ret : Option FieldType} {hd : List (Nat × Nat × Nat × Nat)}
    (hy : plainName y.cls = true) (hw : ws = Cond.codeWith y cc maxL ret hd :: ws')
    (body : ∀ p e s m args below meth c s₁, BodyLoose p l y (headSpec ws rm) cc maxL ret e s m args below meth c s₁ → c.maxLocals = maxL → c.exceptionTable.toList = tableOf hd → Pc args s →
      W p l e rm s m args below meth c s.heap [] 0 0 (oxZ below Qe s mc ms free) (entryFrame m args maxL)) : oxM l y ws rm Pc Qe mc ms free := by
  refine MetFree.of_bodyS (code := cc) (maxLocals := maxL) (ret := ret) hy ?_ ?_
  · intro args s m h hn
    obtain ⟨m9, meth, c, hn9, h1, h2, h3, h4, -, h5, h6, -⟩ := Cond.codeWith_spec (atoms_spec (ws := ws) h _ (by rw [hw]; exact List.mem_cons_self))
    cases hn.symm.trans hn9
    exact ⟨meth, c, h1, h2, h3, h4, h5, h6⟩
  · intro p e s m args below meth c s₁ B hml hP _
    have htb : c.exceptionTable.toList = tableOf hd := by
      obtain ⟨m9, meth9, c9, hn9, h1, h2, -, -, h6, -⟩ := Cond.codeWith_spec (atoms_spec (ws := ws) B.pre _ (by rw [hw]; exact List.mem_cons_self))
      cases Option.some.inj (hn9.symm.trans B.named)
      cases Option.some.inj (h1.symm.trans B.method)
      cases Option.some.inj (h2.symm.trans (Stand.of_body B).code)
      rw [← h6, table_eq]
    obtain ⟨t, a1, o, b1, b2, b3⟩ := body p e s m args below meth c s₁ B hml htb hP s₁ (by rw [B.state]; rfl) (Stand.of_body B)
    exact ⟨t, o, a1, b1, b2, b3⟩
/-- what a call leaves: the caller's frame goes on, or an exception stands over it -/
def oxAfter (p : Program) (e : Env) (below : List Frame) (S T' : State) (g : JFrame) (len : Nat) (rest : List Value) (o : Outcome) : Prop := match o with
  | .returned v => Steps p.tables e below S (T'.setTop { g with pc := g.pc + len, stack := v.toList ++ rest })
  | .threw q => Steps p.tables e below S ((T'.setTop { g with stack := rest }).pushFrame (.throwing q))
theorem oxCore {T : State} {y : MethodName} {ws : List Cond} {rm : Room} {Pc : Array Value → State → Prop} {Qe : State → Outcome → State → Prop} {mc ms : Nat} {free : Addr → Prop} (hM : oxM l y ws rm Pc Qe mc ms free)
    (X : Stand p l e R s m args below meth c T locs cells slots) {maxL : Nat} (hrc : rm.cells = mc) (hrs : rm.slots = ms) (hfr : rm.frames + 1 ≤ R.frames) (hlo : 8 + (maxL + 11) + rm.locals ≤ R.locals) (hcs : cells + mc ≤ R.cells) (hss : slots + ms ≤ R.slots)
    {g : JFrame} (hg : g.method = m) (hsize : g.locals.size = c.maxLocals) {ig : Instr} {len : Nat} (hdg : decode c.code g.pc = .ok (ig, len)) (hW : 2 * g.monitorRoom + (g.stack.map fun v => v.category).sum ≤ 8) {mk : MethodId} {a : Array Value} (hn : T.methodNamed? y = some mk)
    {mY : Method} {cY : Code} (hmY : T.vm.method? mk = some mY) (hcY : mY.code = some cY) (hlY : cY.maxLocals = maxL) (hws : ∀ w ∈ ws, w.before a T = true) (hini : (Cond.initialized y.cls).before a T = true) (hPc : Pc a (T.calling g mk a)) :
    ∃ (o : Outcome) (t T' : State) (L : List Loc), Stand p l e R s m args below meth c T' (locs ++ L) (cells + mc) (slots + ms) ∧ (∀ q ∈ L, free q.base) ∧ T'.heap = t.heap ∧ T'.vm = t.vm ∧ Qe (T.calling g mk a) o t ∧
      oxAfter p e below (doInvoke e (T.setTop g) [] mk a).1 T' g len g.stack o := by
  obtain ⟨kY, hkY, -⟩ := className_of_methodNamed hn
  have hinY : kY.init = .initialized := Cond.initialized_spec (findClass_of_methodNamed hn) hkY hini
  have h : At T g.method c below := by rw [hg]; exact X.here
  have happ : (headSpec ws rm).appliesLoose y e.platform (T.calling g mk a) = true :=
    Spec.appliesLoose_calling (g := g) h hdg hn hkY hinY (X.room_calling (g := g) (R' := (headSpec ws rm).room) hsize hmY hcY hfr (by show _ ≤ _; rw [hlY]; show _ + rm.locals ≤ _; omega) (by show _ + rm.cells ≤ _; rw [hrc]; exact hcs) (by show _ + rm.slots ≤ _; rw [hrs]; exact hss)) (atoms_intro hws)
  obtain ⟨mid, hmid⟩ := h.above
  have hf0 : (T.setTop g).frames = (.java g :: mid) ++ below := by rw [State.frames_setTop' g h.top, hmid]; rfl
  obtain ⟨o, t, hst, -, hend, hq, hWt, L, hsm, hL⟩ := Steps.callFree hM p X.admits X.cas X.clock (acts := []) hf0 happ hPc trivial
  rw [State.frames_setTop' g h.top] at hend
  obtain ⟨g₀, hg0⟩ := Option.isSome_iff_exists.mp h.top
  obtain ⟨r, hr⟩ := State.topJava?_eq_some.mp hg0
  obtain ⟨T', hT'⟩ : ∃ z, z = (({ T with heap := t.heap, slotsUsed := t.slotsUsed } : State).setVm t.vm) := ⟨_, rfl⟩
  have hr' : T'.frames = .java g₀ :: r := by rw [hT']; exact hr
  have hW' : T.WarmedH t.vm := hWt
  have hsm9 : (T.calling g mk a).sameButNew ({ t with vm := (T.calling g mk a).vm } : State) L mc ms := hsm
  obtain ⟨e2, q2, q3, q4, q5, q6⟩ := hsm9
  have e3 : t = ({ (T.calling g mk a).setFrames t.frames with heap := t.heap, slotsUsed := t.slotsUsed } : State).setVm t.vm := by
    have h9 : t = ({ t with vm := (T.calling g mk a).vm } : State).setVm t.vm := rfl
    rw [e2] at h9
    exact h9
  have hsame : T.sameButNew ({ T with heap := t.heap, slotsUsed := t.slotsUsed } : State) L mc ms := by
    refine ⟨?_, q2, q3, q4, q5, q6⟩
    obtain ⟨th, hth, -⟩ := State.frames_cons hr
    show ({ T with heap := t.heap, slotsUsed := t.slotsUsed } : State) = { T.setFrames T.frames with heap := t.heap, slotsUsed := t.slotsUsed }
    rw [State.setFrames_self hth]
  have X' : Stand p l e R s m args below meth c T' (locs ++ L) (cells + mc) (slots + ms) := by
    rw [hT']
    exact ⟨X.admits, X.cas, X.clock, X.frames, X.room, X.hears, X.method, X.code, (X.here.setHeapUsed t.heap t.slotsUsed).setVm hW'.alike, X.tail, State.WarmedH.trans X.warmed hW', X.limits, X.bytes, X.same.trans (hsame.setVm s.vm)⟩
  refine ⟨o, t, T', L, X', hL, by rw [hT']; rfl, by rw [hT']; rfl, hq, ?_⟩
  cases o with
  | returned v =>
    obtain ⟨c₂, i₂, len₂, hc₂, hd₂, hf₂⟩ := hend
    have hcc : c₂ = c := by
      have h1 : t.code? g.method = T.code? g.method := by rw [State.code?_eq, State.code?_eq, hW'.alike.method?]
      exact Option.some.inj (hc₂.symm.trans (h1.trans h.code))
    subst hcc
    have hlen : len₂ = len := by rw [hdg] at hd₂; cases hd₂; rfl
    subst hlen
    have hs₂ : t = T'.setTop { g with pc := g.pc + len₂, stack := v.toList ++ g.stack } := by
      refine e3.trans ?_
      rw [State.setTop_of_frames _ hr', hf₂, State.calling_eq h.top, State.setFrames_setFrames, hr, hT']
      rfl
    show Steps p.tables e below _ (T'.setTop { g with pc := g.pc + len₂, stack := v.toList ++ g.stack })
    rw [← hs₂]
    exact hst
  | threw q =>
    have hf₂ : t.frames = .throwing q :: .java g :: T.frames.tail := hend
    have hs₂ : t = (T'.setTop g).pushFrame (.throwing q) := by
      refine e3.trans ?_
      rw [State.pushFrame, State.frames_setTop _ hr', State.setTop_of_frames _ hr', State.setFrames_setFrames, hf₂, State.calling_eq h.top, State.setFrames_setFrames, hr, hT']
      rfl
    show Steps p.tables e below _ ((T'.setTop { g with stack := g.stack }).pushFrame (.throwing q))
    rw [← hs₂]
    exact hst
end Ox
-- ===== what a throw reads: two statics of Throwable =====
def oxT (n d : String) (A : Nat → Prop) (U : State) (H : Heap) : Prop := ∃ (cf : ClassId) (kf : Class) (i : Nat) (f : Field) (a : Nat) (cell : Cell) (v : Value), U.vm.findClass Bundle.tN = some cf ∧ U.fieldFound? Bundle.tN n d = some (cf, kf, i, f) ∧ f.isStatic = true ∧ kf.statics = some a ∧ H[a]? = some cell ∧ cell.vm.isStatics = true ∧ cell.cls = cf ∧ f.slot < cell.slots.size ∧ kf.staticTypes[f.slot]? = some f.type ∧ cell.slots[f.slot]? = some v ∧ v.isRef = true ∧ ¬ A a
theorem oxT.moved {n d : String} {A : Nat → Prop} {u U : State} {H : Heap} (hvm : u.vm.Alike U.vm) (h : oxT n d A u H) : oxT n d A U H := by
  obtain ⟨cf, kf, i, f, a, cell, v, h1, h2, h3, h4, h5, h6, h7, h8, h9, h10⟩ := h
  obtain ⟨k', hi', he⟩ := State.fieldFound?_setVm hvm h2
  exact ⟨cf, k', i, f, a, cell, v, by rw [hvm.findClass]; exact h1, hi', h3, by rw [he]; exact h4, h5, h6, h7, h8, by rw [he]; exact h9, h10⟩
theorem oxT.kept {n d : String} {A : Nat → Prop} {U : State} {H H1 : Heap} (h : oxT n d A U H) (hq : ∀ a : Nat, a < H.size → ¬ A a → H1[a]? = H[a]?) : oxT n d A U H1 := by
  obtain ⟨cf, kf, i, f, a, cell, v, h1, h2, h3, h4, h5, h6, h7, h8, h9, h10, h11, h12⟩ := h
  exact ⟨cf, kf, i, f, a, cell, v, h1, h2, h3, h4, by rw [hq a (Array.getElem?_eq_some_iff.mp h5).1 h12]; exact h5, h6, h7, h8, h9, h10, h11, h12⟩
theorem oxT.narrow {n d : String} {A A' : Nat → Prop} {U : State} {H : Heap} (h : oxT n d A U H) (hAB : ∀ q, A' q → A q) : oxT n d A' U H := by
  obtain ⟨cf, kf, i, f, a, cell, v, h1, h2, h3, h4, h5, h6, h7, h8, h9, h10, h11, h12⟩ := h
  exact ⟨cf, kf, i, f, a, cell, v, h1, h2, h3, h4, h5, h6, h7, h8, h9, h10, h11, fun z => h12 (hAB a z)⟩
theorem oxT.word {n d : String} {A : Nat → Prop} {s : State} {args : Array Value} (h : oxT n d A s s.heap) : (Cond.laysStatic Bundle.tN n d).before args s = true ∧ (Cond.isRef (.static Bundle.tN n d)).before args s = true := by
  obtain ⟨cf, kf, i, f, a, cell, v, h1, h2, h3, h4, h5, h6, h7, h8, h9, h10, h11, h12⟩ := h
  refine ⟨?_, ?_⟩
  · show (Cond.laysStatic Bundle.tN n d).holds args s none s [] = true
    exact Cond.laysStatic_of h1 h2 h3 h4 h5 h6 h7 h8 h9
  · have he : (Term.static Bundle.tN n d).eval args s none [] s = some v := by
      simp [Term.eval, State.fieldNamed?, h2, h3, h4, h5, h6, h10]
    simp only [Cond.before, Cond.holds, Cond.value, he]
    cases v <;> simp_all [Value.isRef]
theorem oxT.of {n d : String} {A : Nat → Prop} {s : State} {args : Array Value} (hl : (Cond.laysStatic Bundle.tN n d).before args s = true) (hr : (Cond.isRef (.static Bundle.tN n d)).before args s = true) (hA : ∀ a : Nat, a < s.heap.size → ¬ A a) : oxT n d A s s.heap := by
  obtain ⟨c, k, i, f, a, cell, h1, h2, h3, h4, h5, h6, h7, h8, h9⟩ := Cond.laysStatic_spec hl
  have hv : cell.slots[f.slot]? = some cell.slots[f.slot] := Array.getElem?_eq_getElem h8
  have he : (Term.static Bundle.tN n d).eval args s none [] s = some cell.slots[f.slot] := by
    simp [Term.eval, State.fieldNamed?, h2, h3, h4, h5, h6, hv]
  refine ⟨c, k, i, f, a, cell, _, h1, h2, h3, h4, h5, h6, h7, h8, h9, hv, ?_, hA a (Array.getElem?_eq_some_iff.mp h5).1⟩
  simp only [Cond.before, Cond.holds, Cond.value, he] at hr
  cases hq : cell.slots[f.slot] <;> simp_all [Value.isRef]
end
section
-- THE LAYER: a small machine of values, keys and numbers over the kit's rows. Cells lie at B, B + 1, .. in the order in which the law makes them.
-- abstract values: a machine value; a cell by its key (tag, index); a number n that stands for the int nI n
abbrev AV : Type := Value ⊕ (Nat × Nat) ⊕ Nat
abbrev aV (v : Value) : AV := .inl v
abbrev aI (x : Int32) : AV := .inl (.int x)
abbrev aL (x : Int64) : AV := .inl (.long x)
abbrev aR (t i : Nat) : AV := .inr (.inl (t, i))
abbrev aN (n : Nat) : AV := .inr (.inr n)
def gv (B : Nat) : AV → Value
  | .inl v => v
  | .inr (.inl k) => .ref (B + od k.1 k.2)
  | .inr (.inr n) => .int (nI n)
def gl (B : Nat) (lv : List (Nat × AV)) : List (Nat × Value) := lv.map (fun q => (q.1, gv B q.2))
def gs (B : Nat) (st : List AV) : List Value := st.map (gv B)
def ct1 : AV → Nat
  | .inl v => v.category
  | _ => 1
theorem ct1_gv (B : Nat) (v : AV) : (gv B v).category = ct1 v := by
  rcases v with v | k | n <;> rfl
-- the world: how many cells there are; whether nothing else was made; numbers; longs; references (as keys)
abbrev NW : Type := Nat × Bool × (Nat → Nat → Nat → Nat) × (Nat → Nat → Nat → Int64) × (Nat → Nat → Nat → Option (Nat × Nat))
def rv : Option (Nat × Nat) → AV
  | some k => .inr (.inl k)
  | none => aV .null
def fv (ci j : Nat) (w : NW) (t i : Nat) : AV := match ftk ci j with
  | 1 => aL (w.2.2.2.1 t i j)
  | 2 => rv (w.2.2.2.2 t i j)
  | _ => aN (w.2.2.1 t i j)
def fds (B ci : Nat) (w : NW) (t i : Nat) : List Value := (List.range (fn ci)).map (fun j => gv B (fv ci j w t i))
abbrev CA : Type := ClassId × ClassId × ClassId × ClassId
def en (B : Nat) (ca : CA) (w : NW) (t i : Nat) : va_E := match kd t with
  | (0, n) => .inl (ca.1, n, .inl (fun j => nI (w.2.2.1 t i j)))
  | (1, n) => .inl (ca.2.1, n, .inr (.inl (w.2.2.2.1 t i)))
  | (4, n) => .inl (ca.2.2.2, n, .inl (fun j => nI (w.2.2.1 t i j)))
  | (2, n) => .inl (ca.2.2.1, n, .inr (.inr (.inr (.inr (fun j => (w.2.2.2.2 t i j).map (fun k => B + od k.1 k.2))))))
  | (_, ci) => .inr (ci, fds B ci w t i)
def wsO (B : Nat) (ca : CA) (w : NW) : va_W := (List.range w.1).map (fun k => (B + k, en B ca w (ky k).1 (ky k).2))
-- a cell that is there
def vld (n t i : Nat) : Prop := i < ct t ∧ od t i < n
theorem wsO_at {B : Nat} {ca : CA} {w : NW} {t i : Nat} (h : vld w.1 t i) : (wsO B ca w)[od t i]? = some (B + od t i, en B ca w t i) := by
  have hk := ky_od h.1
  simp [wsO, List.getElem?_map, List.getElem?_range h.2, hk]
theorem wsO_set {B : Nat} {ca : CA} {w w' : NW} {t i : Nat} (h : vld w.1 t i) (hn : w.1 ≤ NN) (h1 : w'.1 = w.1) (ho : ∀ t' i', (t', i') ≠ (t, i) → en B ca w' t' i' = en B ca w t' i') : (wsO B ca w).set (od t i) (B + od t i, en B ca w' t i) = wsO B ca w' := by
  apply List.ext_getElem?
  intro k
  have hk := ky_od h.1
  by_cases hkk : k = od t i
  · subst hkk
    have hl : od t i < (wsO B ca w).length := by simp [wsO]; exact h.2
    rw [List.getElem?_set_self hl]
    have h2 : vld w'.1 t i := ⟨h.1, by rw [h1]; exact h.2⟩
    exact (wsO_at h2).symm
  · rw [List.getElem?_set_ne (Ne.symm hkk)]
    by_cases hlt : k < w.1
    · have hne : ((ky k).1, (ky k).2) ≠ (t, i) := by
        intro q
        apply hkk
        have := od_ky (Nat.lt_of_lt_of_le hlt hn)
        rw [← this]
        have q1 : (ky k).1 = t := congrArg Prod.fst q
        have q2 : (ky k).2 = i := congrArg Prod.snd q
        rw [q1, q2]
      simp [wsO, List.getElem?_map, List.getElem?_range hlt, List.getElem?_range (h1 ▸ hlt : k < w'.1), ho _ _ hne]
    · simp [wsO, List.getElem?_map, h1, hlt]
-- stores
def upN (f : Nat → Nat → Nat → Nat) (t i j x : Nat) : Nat → Nat → Nat → Nat := fun t' i' j' => if t' = t ∧ i' = i ∧ j' = j then x else f t' i' j'
def upL (f : Nat → Nat → Nat → Int64) (t i j : Nat) (x : Int64) : Nat → Nat → Nat → Int64 := fun t' i' j' => if t' = t ∧ i' = i ∧ j' = j then x else f t' i' j'
def upR (f : Nat → Nat → Nat → Option (Nat × Nat)) (t i j : Nat) (x : Option (Nat × Nat)) : Nat → Nat → Nat → Option (Nat × Nat) := fun t' i' j' => if t' = t ∧ i' = i ∧ j' = j then x else f t' i' j'
def wN (w : NW) (t i j x : Nat) : NW := (w.1, w.2.1, upN w.2.2.1 t i j x, w.2.2.2.1, w.2.2.2.2)
def wL (w : NW) (t i j : Nat) (x : Int64) : NW := (w.1, w.2.1, w.2.2.1, upL w.2.2.2.1 t i j x, w.2.2.2.2)
def wR (w : NW) (t i j : Nat) (x : Option (Nat × Nat)) : NW := (w.1, w.2.1, w.2.2.1, w.2.2.2.1, upR w.2.2.2.2 t i j x)
theorem fv_wN {w : NW} {t i j x t' i' : Nat} (h : (t', i') ≠ (t, i)) (ci q : Nat) : fv ci q (wN w t i j x) t' i' = fv ci q w t' i' := by
  have : ¬ (t' = t ∧ i' = i ∧ q = j) := fun z => h (by rw [z.1, z.2.1])
  simp [fv, wN, upN, this]
theorem fv_wL {w : NW} {t i j : Nat} {x : Int64} {t' i' : Nat} (h : (t', i') ≠ (t, i)) (ci q : Nat) : fv ci q (wL w t i j x) t' i' = fv ci q w t' i' := by
  have : ¬ (t' = t ∧ i' = i ∧ q = j) := fun z => h (by rw [z.1, z.2.1])
  simp [fv, wL, upL, this]
theorem fv_wR {w : NW} {t i j : Nat} {x : Option (Nat × Nat)} {t' i' : Nat} (h : (t', i') ≠ (t, i)) (ci q : Nat) : fv ci q (wR w t i j x) t' i' = fv ci q w t' i' := by
  have : ¬ (t' = t ∧ i' = i ∧ q = j) := fun z => h (by rw [z.1, z.2.1])
  simp [fv, wR, upR, this]
theorem en_wN {B : Nat} {ca : CA} {w : NW} {t i j x : Nat} : ∀ t' i', (t', i') ≠ (t, i) → en B ca (wN w t i j x) t' i' = en B ca w t' i' := by
  intro t' i' h
  have h2 : ∀ q, ¬ (t' = t ∧ i' = i ∧ q = j) := fun q z => h (by rw [z.1, z.2.1])
  have h3 : ∀ ci, fds B ci (wN w t i j x) t' i' = fds B ci w t' i' := fun ci => by simp [fds, fv_wN h]
  unfold en
  simp [wN, upN, h2] at h3 ⊢
  split <;> simp_all
theorem en_wL {B : Nat} {ca : CA} {w : NW} {t i j : Nat} {x : Int64} : ∀ t' i', (t', i') ≠ (t, i) → en B ca (wL w t i j x) t' i' = en B ca w t' i' := by
  intro t' i' h
  have h2 : ∀ q, ¬ (t' = t ∧ i' = i ∧ q = j) := fun q z => h (by rw [z.1, z.2.1])
  have h3 : ∀ ci, fds B ci (wL w t i j x) t' i' = fds B ci w t' i' := fun ci => by simp [fds, fv_wL h]
  have h4 : (fun j' => upL w.2.2.2.1 t i j x t' i' j') = w.2.2.2.1 t' i' := by funext q; simp [upL, h2]
  unfold en
  split <;> simp_all [wL]
theorem en_wR {B : Nat} {ca : CA} {w : NW} {t i j : Nat} {x : Option (Nat × Nat)} : ∀ t' i', (t', i') ≠ (t, i) → en B ca (wR w t i j x) t' i' = en B ca w t' i' := by
  intro t' i' h
  have h2 : ∀ q, ¬ (t' = t ∧ i' = i ∧ q = j) := fun q z => h (by rw [z.1, z.2.1])
  have h3 : ∀ ci, fds B ci (wR w t i j x) t' i' = fds B ci w t' i' := fun ci => by simp [fds, fv_wR h]
  unfold en
  simp [wR, upR, h2] at h3 ⊢
  split <;> simp_all
-- what holds while a method's body runs
abbrev XT : Type := Nat × Nat × (Nat → Int32)
abbrev AW_ : List Cond := lw_tbl.filter goodWord
theorem gAW : GoodIn AW_ AW_ := fun w h => ⟨h, good_of_word (List.mem_filter.mp h).2⟩
/-- the statics of Throwable that a throw reads; the texts of the messages -/
def stX (A : Nat → Prop) (U : State) (H : Heap) : Prop := oxT "UNASSIGNED_STACK" Bundle.steD A U H ∧ oxT "SUPPRESSED_SENTINEL" Bundle.listD A U H
/-- an object of class E is caught by E -/
def oxCa (E : String) (U : State) : Prop := ∃ c : ClassId, U.vm.findClass E = some c ∧ U.vm.assignable c c = true
theorem oxCa.moved {E : String} {u U : State} (hvm : u.vm.Alike U.vm) (h : oxCa E u) : oxCa E U := by
  obtain ⟨c, h1, h2⟩ := h
  exact ⟨c, by rw [hvm.findClass]; exact h1, by rw [hvm.assignable]; exact h2⟩
theorem oxCa.word {E : String} {s : State} {args : Array Value} (h : oxCa E s) : (Cond.castable E E).before args s = true := by
  obtain ⟨c, h1, h2⟩ := h
  simp [Cond.before, Cond.holds, Cond.value, h1, h2]
theorem oxCa.of {E : String} {s : State} {args : Array Value} (h : (Cond.castable E E).before args s = true) : oxCa E s := by
  obtain ⟨c3, c4, h3, h4, h5⟩ := Cond.castable_spec h
  cases Option.some.inj (h3.symm.trans h4)
  exact ⟨_, h3, h5⟩
abbrev DX (n : Nat) : String := ["java/lang/RuntimeException", "java/lang/Exception", "java/lang/Throwable"].getD n ""
def stR (U : State) : Prop := (∀ q ∈ strT, ∃ a : Nat, vk_R q.1 q.2.1 q.2.2 a U) ∧ (∀ q ∈ ncT, va_Nc q.1 q.2 U) ∧ (∀ q ∈ nlT, va_Nw (.methodLinkNest q.1 q.2.1 (yn q.2.2.1) q.2.2.2) U) ∧ va_AO itN U ∧ (∀ n, n < 3 → oxCa (EX n) U) ∧ ∀ n, n < 3 → va_Nw (.declares (Bundle.initS (DX n))) U
abbrev tyT (ca : CA) : List (ClassId × FieldType) := [(ca.1, .int), (ca.2.1, .long), (ca.2.2.1, .object itN), (ca.2.2.2, .boolean)]
def Cx (sc : XT) (k B : Nat) (D : va_G) (ca : CA) (p : Program) (l : Launch) (R : Room) (s : State) (m : MethodId) (args : Array Value) (meth : Method) (c : Code) (A : Nat → Prop) : Prop :=
  (p.tables.exec = Jvm.exec ∧ c.code = cc k ∧ c.maxLocals = mL k ∧ meth.sig.returnType = rt k ∧ meth.locks = false) ∧
  (s.vm.findClass (own k) = some m.cls ∧ (∀ w ∈ AW_, w.before args s = true) ∧ l.stackTraces = false ∧ (fr k ≤ R.frames ∧ lo k ≤ R.locals ∧ mc k ≤ R.cells ∧ ms k ≤ R.slots)) ∧
  (va_K D vwCl (tyT ca) s ∧ (∀ q, s.heap.size ≤ q → A q) ∧ c.exceptionTable.toList = tableOf (hh k) ∧ (ini k = true → meth.name = "<init>")) ∧
  ((stX A s s.heap ∧ ∀ (q : Nat) (cell : Cell), A q → s.heap[q]? = some cell → cell.vm.isStatics = false) ∧ stR s ∧ (k = LAW → va_X sc.1 sc.2.1 sc.2.2 s s.heap ∧ sc.1 < s.heap.size ∧ ¬ A sc.1))
def Wd (B : Nat) (D : va_G) (ca : CA) (A : Nat → Prop) (H0 : Heap) (cells : Nat) (w : NW) (H : Heap) (locs : List Loc) : Prop :=
  va_P D vwCl (wsO B ca w) H ∧ va_D A (wsO B ca w) ∧ va_S A H0 H locs ∧ (w.2.1 = true → H0.size + cells = B + w.1) ∧ w.1 ≤ NN
abbrev QT : Type := (Option AV ⊕ String) → NW → Prop
def Bd (B : Nat) (D : va_G) (ca : CA) (A : Nat → Prop) (n : Nat) (w : NW) (st t : State) : Prop := va_P D vwCl (wsO B ca w) t.heap ∧ va_D A (wsO B ca w) ∧ (w.2.1 = true → st.heap.size + n = B + w.1) ∧ w.1 ≤ NN
/-- the end that Q allows: an answer, or an exception of class E that is a cell -/
def Qo (B : Nat) (D : va_G) (ca : CA) (A : Nat → Prop) (n : Nat) (Q : QT) : State → Outcome → State → Prop := fun st o t => match o with
  | .returned v => ∃ (v0 : Option AV) (w : NW), v = v0.map (gv B) ∧ Q (.inl v0) w ∧ Bd B D ca A n w st t ∧ va_F A st t
  | .threw q => ∃ (E : String) (w : NW) (ce : Cell), (t.heap[q]? = some ce ∧ ce.vm = .none ∧ st.vm.findClass E = some ce.cls) ∧ Q (.inr E) w ∧ Bd B D ca A n w st t ∧ va_F A st t
/-- method k, at pc, with these locals, this stack and this world, comes to an end that Q allows -/
def Sem (sc : XT) (k pc : Nat) (lv : List (Nat × AV)) (st : List AV) (w : NW) (cells slots : Nat) (Q : QT) : Prop :=
  ∀ (B : Nat) (D : va_G) (ca : CA) (p : Program) (l : Launch) (e : Env) (R : Room) (s : State) (m : MethodId) (args : Array Value) (below : List Frame) (meth : Method) (c : Code) (A : Nat → Prop),
    Cx sc k B D ca p l R s m args meth c A → ∀ (H : Heap) (locs : List Loc) (ls : Array Slot), lv_has ls (mL k) (gl B lv) → Wd B D ca A s.heap cells w H locs →
      W p l e R s m args below meth c H locs cells slots (oxZ below (Qo B D ca A (mc k) Q) s (mc k) (ms k) A) (F0 m pc ls (gs B st))
/-- an exception E comes up at pc -/
def SemX (sc : XT) (k pc : Nat) (lv : List (Nat × AV)) (E : String) (w : NW) (cells slots : Nat) (Q : QT) : Prop :=
  ∀ (B : Nat) (D : va_G) (ca : CA) (p : Program) (l : Launch) (e : Env) (R : Room) (s : State) (m : MethodId) (args : Array Value) (below : List Frame) (meth : Method) (c : Code) (A : Nat → Prop),
    Cx sc k B D ca p l R s m args meth c A → ∀ (H : Heap) (locs : List Loc) (ls : Array Slot) (rest : List Value) (q : Addr) (ce : Cell), lv_has ls (mL k) (gl B lv) → Wd B D ca A s.heap cells w H locs → H[q]? = some ce → ce.vm = .none → s.vm.findClass E = some ce.cls →
      oxW p l e R s m args below meth c H locs cells slots (oxZ below (Qo B D ca A (mc k) Q) s (mc k) (ms k) A) (F0 m pc ls rest) q
-- lookups
def lkp (lv : List (Nat × AV)) (i : Nat) : Option AV := match lv with
  | [] => none
  | q :: r => if q.1 = i then some q.2 else lkp r i
theorem lkp_has {B nL : Nat} {ls : Array Slot} : ∀ {lv : List (Nat × AV)} {i : Nat} {v : AV}, lkp lv i = some v → lv_has ls nL (gl B lv) → ls[i]? = some (.val (gv B v)) := by
  intro lv i v h hl
  have key : ∀ (lv : List (Nat × AV)), lkp lv i = some v → ∃ k : Nat, (gl B lv)[k]? = some (i, gv B v) := by
    intro lv
    induction lv with
    | nil => intro h; cases h
    | cons q r ih =>
      intro h
      unfold lkp at h
      by_cases hq : q.1 = i
      · rw [if_pos hq] at h
        cases h
        exact ⟨0, by simp [gl, hq]⟩
      · rw [if_neg hq] at h
        obtain ⟨k, hk⟩ := ih h
        exact ⟨k + 1, by simpa [gl] using hk⟩
  obtain ⟨k, hk⟩ := key lv h
  exact lv_at hl k hk
def st1L (lv : List (Nat × AV)) (i : Nat) (v : AV) : List (Nat × AV) := (i, v) :: lv.filter (fun q => !(q.1 == i) && !(q.1 + 1 == i && ct1 q.2 == 2))
def st2L (lv : List (Nat × AV)) (i : Nat) (v : AV) : List (Nat × AV) := (i, v) :: lv.filter (fun q => !(q.1 == i) && (!(q.1 == i + 1) && !(q.1 + 1 == i && ct1 q.2 == 2)))
theorem st1L_gl (B : Nat) (lv : List (Nat × AV)) (i : Nat) (v : AV) : (i, gv B v) :: (gl B lv).filter (fun q => !(q.1 == i) && !(q.1 + 1 == i && q.2.category == 2)) = gl B (st1L lv i v) := by
  simp only [gl, st1L, List.map_cons, List.filter_map]
  congr 2
  apply List.filter_congr
  intro q _
  simp [ct1_gv]
theorem st2L_gl (B : Nat) (lv : List (Nat × AV)) (i : Nat) (v : AV) : (i, gv B v) :: (gl B lv).filter (fun q => !(q.1 == i) && (!(q.1 == i + 1) && !(q.1 + 1 == i && q.2.category == 2))) = gl B (st2L lv i v) := by
  simp only [gl, st2L, List.map_cons, List.filter_map]
  congr 2
  apply List.filter_congr
  intro q _
  simp [ct1_gv]
-- ints
def toI : AV → Option Int32
  | .inl (.int x) => some x
  | .inr (.inr n) => some (nI n)
  | _ => none
theorem toI_gv {B : Nat} {v : AV} {x : Int32} (h : toI v = some x) : gv B v = .int x := by
  rcases v with v | k | n
  · cases v <;> simp_all [toI, gv]
  · cases h
  · simp_all [toI, gv]
def tn (x : Int32) : Nat := x.toBitVec.toNat
theorem nI_tn (x : Int32) : nI (tn x) = x := by
  apply Int32.toBitVec_inj.mp
  simp [nI, tn, Int32.toBitVec_ofNat]
def toN : AV → Option Nat
  | .inl (.int x) => some (tn x)
  | .inr (.inr n) => some n
  | _ => none
theorem toN_gv {B : Nat} {v : AV} {n : Nat} (h : toN v = some n) : gv B v = .int (nI n) := by
  rcases v with v | k | n
  · cases v <;> simp_all [toN, gv]
    rw [← h, nI_tn]
  · cases h
  · simp_all [toN, gv]
theorem ofI_nat (n : Nat) : Int32.ofInt (Int.ofNat n) = nI n := by
  apply Int32.toBitVec_inj.mp
  simp [nI, Int32.ofInt, Int32.ofNat]
theorem i8_nat {n : Nat} (h : n < 128) : (Int8.ofInt (Int.ofNat n)).toInt32 = nI n := by
  apply Int32.toInt_inj.mp
  rw [nI_toInt (by omega), Int8.toInt_toInt32, Int8.toInt_ofInt]
  simp only [Int.ofNat_eq_natCast]
  rw [Int.bmod_eq_of_le] <;> simp only [Int8.size, Int16.size] <;> omega
theorem i16_nat {n : Nat} (h : n < 32768) : (Int16.ofInt (Int.ofNat n)).toInt32 = nI n := by
  apply Int32.toInt_inj.mp
  rw [nI_toInt (by omega), Int16.toInt_toInt32, Int16.toInt_ofInt]
  simp only [Int.ofNat_eq_natCast]
  rw [Int.bmod_eq_of_le] <;> simp only [Int8.size, Int16.size] <;> omega
def cst (f : Int → Int32) (b : Nat) (n : Int) : AV := match n with
  | .ofNat q => if q < b then aN q else aI (f n)
  | .negSucc _ => aI (f n)
theorem cst_gv (B : Nat) {f : Int → Int32} {b : Nat} (hf : ∀ q, q < b → f (Int.ofNat q) = nI q) (n : Int) : gv B (cst f b n) = .int (f n) := by
  unfold cst
  split
  · split
    · rename_i h; simp only [gv]; rw [hf _ h]
    · rfl
  · rfl
def cs4 (n : Int) : AV := cst Int32.ofInt 6 n
def cs8 (n : Int) : AV := cst (fun z => (Int8.ofInt z).toInt32) 128 n
def cs16 (n : Int) : AV := cst (fun z => (Int16.ofInt z).toInt32) 32768 n
theorem cs4_gv (B : Nat) (n : Int) : gv B (cs4 n) = .int (Int32.ofInt n) := cst_gv B (fun q _ => ofI_nat q) n
theorem cs8_gv (B : Nat) (n : Int) : gv B (cs8 n) = .int (Int8.ofInt n).toInt32 := cst_gv B (f := fun z => (Int8.ofInt z).toInt32) (fun _ h => i8_nat h) n
theorem cs16_gv (B : Nat) (n : Int) : gv B (cs16 n) = .int (Int16.ofInt n).toInt32 := cst_gv B (f := fun z => (Int16.ofInt z).toInt32) (fun _ h => i16_nat h) n
def isA : AV → Bool
  | .inl (.ref _) => true
  | .inr (.inl _) => true
  | _ => false
theorem isA_gv {B : Nat} {v : AV} (h : isA v = true) : ∃ a : Nat, gv B v = .ref a := by
  rcases v with v | k | n
  · cases v <;> simp_all [isA, gv]
  · exact ⟨_, rfl⟩
  · cases h
def addA (u v : AV) : Option AV := match u, v with
  | .inr (.inr a), .inr (.inr b) => some (aN (a + b))
  | u, v => match toI u, toI v with
    | some x, some y => some (aI (x + y))
    | _, _ => none
def mulA (u v : AV) : Option AV := match u, v with
  | .inr (.inr a), .inr (.inr b) => some (aN (a * b))
  | u, v => match toI u, toI v with
    | some x, some y => some (aI (x * y))
    | _, _ => none
def subA (u v : AV) : Option AV := match toI u, toI v with
  | some x, some y => some (aI (x - y))
  | _, _ => none
theorem addA_gv {B : Nat} {u v z : AV} (h : addA u v = some z) : ∃ x y : Int32, gv B u = .int x ∧ gv B v = .int y ∧ gv B z = .int (x + y) := by
  unfold addA at h
  split at h
  · cases h; exact ⟨_, _, rfl, rfl, by simp [gv, nI_add]⟩
  · split at h
    · rename_i hx hy; cases h; exact ⟨_, _, toI_gv hx, toI_gv hy, rfl⟩
    · cases h
theorem mulA_gv {B : Nat} {u v z : AV} (h : mulA u v = some z) : ∃ x y : Int32, gv B u = .int x ∧ gv B v = .int y ∧ gv B z = .int (x * y) := by
  unfold mulA at h
  split at h
  · cases h; exact ⟨_, _, rfl, rfl, by simp [gv, pk_mul]⟩
  · split at h
    · rename_i hx hy; cases h; exact ⟨_, _, toI_gv hx, toI_gv hy, rfl⟩
    · cases h
theorem subA_gv {B : Nat} {u v z : AV} (h : subA u v = some z) : ∃ x y : Int32, gv B u = .int x ∧ gv B v = .int y ∧ gv B z = .int (x - y) := by
  unfold subA at h
  split at h
  · rename_i hx hy; cases h; exact ⟨_, _, toI_gv hx, toI_gv hy, rfl⟩
  · cases h
def incA (u : AV) (n : Int) : Option AV := match u with
  | .inr (.inr a) => (match n with
    | .ofNat q => some (aN (a + q))
    | .negSucc _ => some (aI (nI a + Int32.ofInt n)))
  | .inl (.int x) => some (aI (x + Int32.ofInt n))
  | _ => none
theorem incA_gv {B : Nat} {u z : AV} {n : Int} (h : incA u n = some z) : ∃ x : Int32, gv B u = .int x ∧ gv B z = .int (x + Int32.ofInt n) := by
  unfold incA at h
  split at h
  · split at h
    · cases h; exact ⟨_, rfl, by rw [ofI_nat, nI_add]; rfl⟩
    · cases h; exact ⟨_, rfl, rfl⟩
  · cases h; exact ⟨_, rfl, rfl⟩
  · cases h
def intA (f : Int32 → Int32 → Int32) (u v : AV) : Option AV := match toI u, toI v with
  | some x, some y => some (aI (f x y))
  | _, _ => none
def andA (u v : AV) : Option AV := intA (fun x y => x &&& y) u v
def orA (u v : AV) : Option AV := intA (fun x y => x ||| y) u v
def shlA (u v : AV) : Option AV := intA (fun x y => x <<< (y &&& 31)) u v
def shrA (u v : AV) : Option AV := intA (fun x y => x >>> (y &&& 31)) u v
theorem intA_gv {B : Nat} {f : Int32 → Int32 → Int32} {u v z : AV} (h : intA f u v = some z) : ∃ x y : Int32, gv B u = .int x ∧ gv B v = .int y ∧ gv B z = .int (f x y) := by
  unfold intA at h
  split at h
  · rename_i hx hy; cases h; exact ⟨_, _, toI_gv hx, toI_gv hy, rfl⟩
  · cases h
def divA (u v : AV) : Option (AV × List Prop) := match u, v with
  | .inr (.inr a), .inr (.inr b) => some (aN (a / b), [a < 2 ^ 31, 0 < b, b < 2 ^ 31])
  | _, _ => none
def remA (u v : AV) : Option (AV × List Prop) := match u, v with
  | .inr (.inr a), .inr (.inr b) => some (aN (a % b), [a < 2 ^ 31, 0 < b, b < 2 ^ 31])
  | _, _ => none
end
section
-- one instruction of a straight stretch
def ln : Instr → Nat
  | .bipush _ => 2
  | .sipush _ => 3
  | .iload _ => 2
  | .lload _ => 2
  | .aload _ => 2
  | .istore _ => 2
  | .lstore _ => 2
  | .astore _ => 2
  | .iinc _ _ => 3
  | .ldc _ => 2
  | .ldc2_w _ => 3
  | .getfield _ => 3
  | .putfield _ => 3
  | _ => 1
abbrev SR : Type := Option (List (Nat × AV) × List AV × NW × List Prop)
def isI (v : AV) : Bool := (toI v).isSome
def isL : AV → Bool
  | .inl (.long _) => true
  | _ => false
def ldX (ok : AV → Bool) (lv : List (Nat × AV)) (st : List AV) (w : NW) (i : Nat) : SR := match lkp lv i with
  | some v => if ok v = true then some (lv, v :: st, w, []) else none
  | none => none
def stX1 (ok : AV → Bool) (nL : Nat) (lv : List (Nat × AV)) (st : List AV) (w : NW) (i : Nat) : SR := match st with
  | v :: r => if ok v = true ∧ i < nL then some (st1L lv i v, r, w, []) else none
  | _ => none
def stX2 (nL : Nat) (lv : List (Nat × AV)) (st : List AV) (w : NW) (i : Nat) : SR := match st with
  | .inl (.long x) :: r => if i + 1 < nL then some (st2L lv i (aL x), r, w, []) else none
  | _ => none
def bin (f : AV → AV → Option AV) (lv : List (Nat × AV)) (st : List AV) (w : NW) : SR := match st with
  | v :: u :: r => match f u v with
    | some z => some (lv, z :: r, w, [])
    | none => none
  | _ => none
def binL (f : Int64 → Int64 → Int64) (lv : List (Nat × AV)) (st : List AV) (w : NW) (c : Int64 → List Prop) : SR := match st with
  | .inl (.long y) :: .inl (.long x) :: r => some (lv, aL (f x y) :: r, w, c y)
  | _ => none
def binC (f : AV → AV → Option (AV × List Prop)) (lv : List (Nat × AV)) (st : List AV) (w : NW) : SR := match st with
  | v :: u :: r => match f u v with
    | some (z, P) => some (lv, z :: r, w, P)
    | none => none
  | _ => none
def getF (h : Nat × Nat) (lv : List (Nat × AV)) (st : List AV) (w : NW) : SR := match st with
  | .inr (.inl (t, i)) :: r => if kd t = (3, h.1) then some (lv, fv h.1 h.2 w t i :: r, w, [vld w.1 t i]) else none
  | _ => none
def putF (k : Nat) (h : Nat × Nat) (lv : List (Nat × AV)) (st : List AV) (w : NW) : SR := match st with
  | v :: .inr (.inl (t, i)) :: r => if kd t = (3, h.1) then (match ftk h.1 h.2 with
      | 0 => match toN v with
        | some x => if ffn h.1 h.2 = false then some (lv, r, wN w t i h.2 x, [vld w.1 t i]) else none
        | none => none
      | 3 => match toN v with
        | some x => if ffn h.1 h.2 = false then some (lv, r, wN w t i h.2 x, [vld w.1 t i, x = 0 ∨ x = 1]) else none
        | none => none
      | 2 => match v with
        | .inr (.inl q) => if ini k = true ∧ ffn h.1 h.2 = true ∧ h.1 = mo k then some (lv, r, wR w t i h.2 (some q), [vld w.1 t i]) else none
        | _ => none
      | _ => none) else none
  | _ => none
def aldN (lv : List (Nat × AV)) (st : List AV) (w : NW) : SR := match st with
  | .inr (.inr j) :: .inr (.inl (t, i)) :: r => match kd t with
    | (0, n) => some (lv, aN (w.2.2.1 t i j) :: r, w, [vld w.1 t i, j < n])
    | _ => none
  | _ => none
def aldL (lv : List (Nat × AV)) (st : List AV) (w : NW) : SR := match st with
  | .inr (.inr j) :: .inr (.inl (t, i)) :: r => match kd t with
    | (1, n) => some (lv, aL (w.2.2.2.1 t i j) :: r, w, [vld w.1 t i, j < n])
    | _ => none
  | _ => none
def aldR (lv : List (Nat × AV)) (st : List AV) (w : NW) : SR := match st with
  | .inr (.inr j) :: .inr (.inl (t, i)) :: r => match kd t with
    | (2, n) => some (lv, rv (w.2.2.2.2 t i j) :: r, w, [vld w.1 t i, j < n])
    | _ => none
  | _ => none
def aldZ (lv : List (Nat × AV)) (st : List AV) (w : NW) : SR := match st with
  | .inr (.inr j) :: .inr (.inl (t, i)) :: r => match kd t with
    | (4, n) => some (lv, aN (w.2.2.1 t i j) :: r, w, [vld w.1 t i, j < n])
    | _ => none
  | _ => none
def astZ (lv : List (Nat × AV)) (st : List AV) (w : NW) : SR := match st with
  | v :: .inr (.inr j) :: .inr (.inl (t, i)) :: r => match toN v with
    | some x => match kd t with
      | (4, n) => some (lv, r, wN w t i j x, [vld w.1 t i, j < n, x = 0 ∨ x = 1])
      | _ => none
    | none => none
  | _ => none
def astN (lv : List (Nat × AV)) (st : List AV) (w : NW) : SR := match st with
  | v :: .inr (.inr j) :: .inr (.inl (t, i)) :: r => match toN v with
    | some x => match kd t with
      | (0, n) => some (lv, r, wN w t i j x, [vld w.1 t i, j < n])
      | _ => none
    | none => none
  | _ => none
def astL (lv : List (Nat × AV)) (st : List AV) (w : NW) : SR := match st with
  | .inl (.long x) :: .inr (.inr j) :: .inr (.inl (t, i)) :: r => match kd t with
    | (1, n) => some (lv, r, wL w t i j x, [vld w.1 t i, j < n])
    | _ => none
  | _ => none
def alen (lv : List (Nat × AV)) (st : List AV) (w : NW) : SR := match st with
  | .inr (.inl (t, i)) :: r => match kd t with
    | (0, n) => some (lv, aN n :: r, w, [vld w.1 t i])
    | (1, n) => some (lv, aN n :: r, w, [vld w.1 t i])
    | (2, n) => some (lv, aN n :: r, w, [vld w.1 t i])
    | _ => none
  | _ => none
def fI2l (lv : List (Nat × AV)) (st : List AV) (w : NW) : SR := match st with
  | v :: r => match toI v with
    | some x => some (lv, aL x.toInt64 :: r, w, [])
    | none => none
  | _ => none
def fDup (lv : List (Nat × AV)) (st : List AV) (w : NW) : SR := match st with
  | v :: r => if ct1 v = 1 then some (lv, v :: v :: r, w, []) else none
  | _ => none
def fPop (lv : List (Nat × AV)) (st : List AV) (w : NW) : SR := match st with
  | v :: r => if ct1 v = 1 then some (lv, r, w, []) else none
  | _ => none
def fDup2 (lv : List (Nat × AV)) (st : List AV) (w : NW) : SR := match st with
  | v :: r => if ct1 v = 2 then some (lv, v :: v :: r, w, []) else (match r with
    | u :: r' => if ct1 v = 1 ∧ ct1 u = 1 then some (lv, v :: u :: v :: u :: r', w, []) else none
    | _ => none)
  | _ => none
def st1 (k : Nat) (ins : Instr) (h : Nat × Nat) (lv : List (Nat × AV)) (st : List AV) (w : NW) : SR := match ins with
  | .iconst n => some (lv, cs4 n :: st, w, [])
  | .bipush n => some (lv, cs8 n :: st, w, [])
  | .sipush n => some (lv, cs16 n :: st, w, [])
  | .lconst n => some (lv, aL (Int64.ofNat n.val) :: st, w, [])
  | .ldc _ => some (lv, aN h.1 :: st, w, [])
  | .ldc2_w _ => some (lv, aL (Int64.ofNat h.1) :: st, w, [])
  | .iload_n j => ldX isI lv st w j.val
  | .iload j => ldX isI lv st w j
  | .lload_n j => ldX isL lv st w j.val
  | .lload j => ldX isL lv st w j
  | .aload_n j => ldX isA lv st w j.val
  | .aload j => ldX isA lv st w j
  | .istore_n j => stX1 isI (mL k) lv st w j.val
  | .istore j => stX1 isI (mL k) lv st w j
  | .astore_n j => stX1 isA (mL k) lv st w j.val
  | .astore j => stX1 isA (mL k) lv st w j
  | .lstore_n j => stX2 (mL k) lv st w j.val
  | .lstore j => stX2 (mL k) lv st w j
  | .iinc i n => match lkp lv i with
    | some u => match incA u n with
      | some z => if i < mL k then some (st1L lv i z, st, w, []) else none
      | none => none
    | none => none
  | .iadd => bin addA lv st w
  | .imul => bin mulA lv st w
  | .isub => bin subA lv st w
  | .ladd => binL (· + ·) lv st w (fun _ => [])
  | .lsub => binL (· - ·) lv st w (fun _ => [])
  | .lmul => binL (· * ·) lv st w (fun _ => [])
  | .ldiv => binL (· / ·) lv st w (fun y => [¬ y = 0])
  | .i2l => fI2l lv st w
  | .dup => fDup lv st w
  | .pop => fPop lv st w
  | .dup2 => fDup2 lv st w
  | .getfield _ => getF h lv st w
  | .putfield _ => putF k h lv st w
  | .baload => aldZ lv st w
  | .bastore => astZ lv st w
  | .iand => bin andA lv st w
  | .ior => bin orA lv st w
  | .ishl => bin shlA lv st w
  | .ishr => bin shrA lv st w
  | .idiv => binC divA lv st w
  | .irem => binC remA lv st w
  | .iaload => aldN lv st w
  | .laload => aldL lv st w
  | .aaload => aldR lv st w
  | .iastore => astN lv st w
  | .lastore => astL lv st w
  | .arraylength => alen lv st w
  | _ => none
def allP : List Prop → Prop
  | [] => True
  | [q] => q
  | q :: r => q ∧ allP r
theorem allP_c {q : Prop} {r : List Prop} (h : allP (q :: r)) : q ∧ allP r := by
  cases r with
  | nil => exact ⟨h, trivial⟩
  | cons a b => exact h
theorem allP_app {a b : List Prop} (h : allP (a ++ b)) : allP a ∧ allP b := by
  induction a with
  | nil => exact ⟨trivial, h⟩
  | cons q r ih =>
    obtain ⟨h1, h2⟩ := allP_c h
    obtain ⟨h3, h4⟩ := ih h2
    refine ⟨?_, h4⟩
    cases r with
    | nil => exact h1
    | cons a b => exact ⟨h1, h3⟩
def GF (o idx ci j : Nat) : Prop := ∀ (C : String) (T : u_T) (N : Nat), vwCl[ci]? = some (C, T, N) → j < N ∧ Cond.fieldLink (RN o) idx (T j).1 (T j).2.1 (T j).2.2.1 ∈ AW_ ∧ (T j).2.2.2 = ffn ci j ∧ (T j).1 = C
/-- what a hint must say -/
def hkP (k : Nat) (ins : Instr) (h : Nat × Nat) : Prop := match ins with
  | .getfield idx => GF (mo k) idx h.1 h.2
  | .putfield idx => GF (mo k) idx h.1 h.2
  | .ldc idx => Cond.constant (RN (mo k)) idx (nI h.1) ∈ AW_
  | .ldc2_w idx => Cond.constantLong (RN (mo k)) idx (Int64.ofNat h.1) ∈ AW_
  | _ => True
abbrev IH : Type := Instr × Nat × Nat
def okS (k : Nat) : Nat → List IH → Prop
  | _, [] => True
  | pc, i :: r => (decode (cc k) pc = .ok (i.1, ln i.1) ∧ hkP k i.1 i.2) ∧ okS k (pc + ln i.1) r
def stS (k : Nat) : List IH → List (Nat × AV) → List AV → NW → SR
  | [], lv, st, w => some (lv, st, w, [])
  | i :: r, lv, st, w => match st1 k i.1 i.2 lv st w with
    | some (lv1, st1, w1, P1) => match stS k r lv1 st1 w1 with
      | some (lv2, st2, w2, P2) => some (lv2, st2, w2, P1 ++ P2)
      | none => none
    | none => none
def lnS : List IH → Nat
  | [] => 0
  | i :: r => ln i.1 + lnS r
end
section
-- ===== facts of the tables =====
theorem aw {w : Cond} (h : w ∈ lw_tbl) (g : goodWord w = true) : w ∈ AW_ := List.mem_filter.mpr ⟨h, g⟩
theorem awT {w : Cond} (i : Nat) (h : tables_1[i]? = some w) (g : goodWord w = true) : w ∈ AW_ := aw (List.mem_append_right _ (List.mem_of_getElem? h)) g
theorem awP {w : Cond} (i : Nat) (h : (k2_sels lw_privs)[i]? = some w) (g : goodWord w = true) : w ∈ AW_ := aw (List.mem_append_left _ (List.mem_of_getElem? h)) g
theorem awA {ws : List Cond} (h : ∀ w ∈ ws, w ∈ lw_tbl) (g : ∀ w ∈ ws, goodWord w = true) : ∀ w ∈ ws, w ∈ AW_ := fun w hw => aw (h w hw) (g w hw)
def tyOK (f : Nat) (ty : FieldType) : Prop := match f with
  | 0 => ty = .int
  | 3 => ty = .boolean
  | 1 => ty = .long
  | _ => (∃ n, ty = .object n) ∨ ∃ t, ty = .array t
def CK (ci : Nat) : Prop := ∃ (C : String) (T : u_T) (ty : Nat → FieldType), vwCl[ci]? = some (C, T, fn ci) ∧ (∀ w ∈ u_ws C T (fn ci), w ∈ AW_) ∧ (∀ k, k < fn ci → parseFieldDescriptor (T k).2.2.1 = some (ty k)) ∧ (∀ a, a < fn ci → ∀ b, b < fn ci → a ≠ b → (T a).2.1 ≠ (T b).2.1) ∧ (∀ k, k < fn ci → tyOK (ftk ci k) (ty k))
def tyB (f : Nat) (ty : FieldType) : Bool := match f, ty with
  | 0, .int => true
  | 3, .boolean => true
  | 1, .long => true
  | 2, .object _ => true
  | 2, .array _ => true
  | _, _ => false
theorem tyB_ok {f : Nat} {ty : FieldType} (h : tyB f ty = true) : tyOK f ty := by
  unfold tyB at h
  split at h
  · rfl
  · rfl
  · rfl
  · exact Or.inl ⟨_, rfl⟩
  · exact Or.inr ⟨_, rfl⟩
  · cases h
set_option maxRecDepth 100000 in
theorem ck0 : CK 0 := ⟨RN 0, TT0, ty0, rfl, awA (by decide +kernel) (by decide +kernel), by decide +kernel, by decide +kernel, fun k hk => tyB_ok ((show ∀ k, k < fn 0 → tyB (ftk 0 k) (ty0 k) = true by decide +kernel) k hk)⟩
set_option maxRecDepth 100000 in
theorem ck1 : CK 1 := ⟨RN 1, TT1, ty1, rfl, awA (by decide +kernel) (by decide +kernel), by decide +kernel, by decide +kernel, fun k hk => tyB_ok ((show ∀ k, k < fn 1 → tyB (ftk 1 k) (ty1 k) = true by decide +kernel) k hk)⟩
set_option maxRecDepth 100000 in
theorem ck2 : CK 2 := ⟨RN 2, TT2, ty2, rfl, awA (by decide +kernel) (by decide +kernel), by decide +kernel, by decide +kernel, fun k hk => tyB_ok ((show ∀ k, k < fn 2 → tyB (ftk 2 k) (ty2 k) = true by decide +kernel) k hk)⟩
set_option maxRecDepth 100000 in
theorem ck3 : CK 3 := ⟨RN 3, TT3, ty3, rfl, awA (by decide +kernel) (by decide +kernel), by decide +kernel, by decide +kernel, fun k hk => tyB_ok ((show ∀ k, k < fn 3 → tyB (ftk 3 k) (ty3 k) = true by decide +kernel) k hk)⟩
set_option maxRecDepth 100000 in
theorem ck4 : CK 4 := ⟨RN 4, TT4, ty4, rfl, awA (by decide +kernel) (by decide +kernel), by decide +kernel, by decide +kernel, fun k hk => tyB_ok ((show ∀ k, k < fn 4 → tyB (ftk 4 k) (ty4 k) = true by decide +kernel) k hk)⟩
set_option maxRecDepth 100000 in
theorem ck5 : CK 5 := ⟨RN 5, TT5, ty5, rfl, awA (by decide +kernel) (by decide +kernel), by decide +kernel, by decide +kernel, fun k hk => tyB_ok ((show ∀ k, k < fn 5 → tyB (ftk 5 k) (ty5 k) = true by decide +kernel) k hk)⟩
theorem kd3 {t ci : Nat} (h : kd t = (3, ci)) : ci < 6 := by
  have h1 : t < 48 := by
    rcases Nat.lt_or_ge t 48 with q | q
    · exact q
    · exfalso
      unfold kd at h
      rw [List.getD_eq_getElem?_getD, List.getElem?_eq_none (by simpa using q)] at h
      cases h
  have h3 : ∀ t, t < 48 → (kd t).1 = 3 → (kd t).2 < 6 := by decide +kernel
  have := h3 t h1 (by rw [h])
  rw [h] at this
  exact this
theorem ck_ok {t ci : Nat} (h : kd t = (3, ci)) : CK ci := by
  have h6 := kd3 h
  match ci, h6 with
  | 0, _ => exact ck0
  | 1, _ => exact ck1
  | 2, _ => exact ck2
  | 3, _ => exact ck3
  | 4, _ => exact ck4
  | 5, _ => exact ck5
theorem vwCl_name {ci N : Nat} {C : String} {T : u_T} (h : vwCl[ci]? = some (C, T, N)) : C = RN ci := by
  match ci, h with
  | 0, h => cases h; rfl
  | 1, h => cases h; rfl
  | 2, h => cases h; rfl
  | 3, h => cases h; rfl
  | 4, h => cases h; rfl
  | 5, h => cases h; rfl
  | n + 6, h => cases h
theorem fn_lt {ci j : Nat} (h : j < fn ci) : ci < 6 ∧ j < 27 := by
  have h1 : ci < 6 := by
    rcases Nat.lt_or_ge ci 6 with q | q
    · exact q
    · exfalso
      unfold fn at h
      rw [List.getD_eq_getElem?_getD, List.getElem?_eq_none (by simpa using q)] at h
      exact absurd h (Nat.not_lt_zero _)
  refine ⟨h1, ?_⟩
  have h2 : ∀ ci, ci < 6 → fn ci ≤ 27 := by decide +kernel
  exact Nat.lt_of_lt_of_le h (h2 ci h1)
theorem ft2 {ci j : Nat} (h : j < fn ci) (n1 : ftk ci j = 0 → False) (n2 : ftk ci j = 3 → False) (n3 : ftk ci j = 1 → False) : ftk ci j = 2 := by
  obtain ⟨h1, h2⟩ := fn_lt h
  have h3 : ∀ ci, ci < 6 → ∀ j, j < 27 → ftk ci j < 4 := by decide +kernel
  have h4 := h3 ci h1 j h2
  have a1 : ftk ci j ≠ 0 := n1
  have a2 : ftk ci j ≠ 3 := n2
  have a3 : ftk ci j ≠ 1 := n3
  generalize ftk ci j = z at h4 a1 a2 a3 ⊢
  omega
end
section
theorem fds_at {B ci j : Nat} {w : NW} {t i : Nat} (h : j < fn ci) : (fds B ci w t i)[j]? = some (gv B (fv ci j w t i)) := by
  simp [fds, List.getElem?_map, List.getElem?_range h]
theorem fds_set {B ci j : Nat} {w w' : NW} {t i : Nat} {v : Value} (h : j < fn ci) (h1 : gv B (fv ci j w' t i) = v) (h2 : ∀ q, q ≠ j → fv ci q w' t i = fv ci q w t i) : (fds B ci w t i).set j v = fds B ci w' t i := by
  apply List.ext_getElem?
  intro q
  by_cases hq : q = j
  · subst hq
    rw [List.getElem?_set_self (by simp [fds]; exact h), fds_at h, h1]
  · rw [List.getElem?_set_ne (Ne.symm hq)]
    by_cases hl : q < fn ci
    · rw [fds_at hl, fds_at hl, h2 q hq]
    · simp [fds, hl]
theorem en_obj {B : Nat} {ca : CA} {w : NW} {t i ci : Nat} (h : kd t = (3, ci)) : en B ca w t i = .inr (ci, fds B ci w t i) := by simp [en, h]
theorem en_int {B : Nat} {ca : CA} {w : NW} {t i n : Nat} (h : kd t = (0, n)) : en B ca w t i = .inl (ca.1, n, .inl (fun j => nI (w.2.2.1 t i j))) := by simp [en, h]
theorem en_lng {B : Nat} {ca : CA} {w : NW} {t i n : Nat} (h : kd t = (1, n)) : en B ca w t i = .inl (ca.2.1, n, .inr (.inl (w.2.2.2.1 t i))) := by simp [en, h]
theorem en_bl {B : Nat} {ca : CA} {w : NW} {t i n : Nat} (h : kd t = (4, n)) : en B ca w t i = .inl (ca.2.2.2, n, .inl (fun j => nI (w.2.2.1 t i j))) := by simp [en, h]
theorem en_rf {B : Nat} {ca : CA} {w : NW} {t i n : Nat} (h : kd t = (2, n)) : en B ca w t i = .inl (ca.2.2.1, n, .inr (.inr (.inr (.inr (fun j => (w.2.2.2.2 t i j).map (fun k => B + od k.1 k.2)))))) := by simp [en, h]
theorem rv_gv (B : Nat) (o : Option (Nat × Nat)) : va_rf (o.map (fun k => B + od k.1 k.2)) = gv B (rv o) := by
  cases o <;> rfl
section Go
variable {sc : XT} {k B : Nat} {D : va_G} {ca : CA} {p : Program} {l : Launch} {e : Env} {R : Room} {s : State} {m : MethodId} {args : Array Value} {below : List Frame} {meth : Method} {c : Code} {A : Nat → Prop} {Q : State → Prop} {cells slots : Nat}
/-- the goal at pc, for every heap that holds the world -/
def Go (k B : Nat) (D : va_G) (ca : CA) (p : Program) (l : Launch) (e : Env) (R : Room) (s : State) (m : MethodId) (args : Array Value) (below : List Frame) (meth : Method) (c : Code) (A : Nat → Prop) (Q : State → Prop) (pc : Nat) (lv : List (Nat × AV)) (st : List AV) (w : NW) (cells slots : Nat) : Prop :=
  ∀ (H : Heap) (locs : List Loc) (ls : Array Slot), lv_has ls (mL k) (gl B lv) → Wd B D ca A s.heap cells w H locs → W p l e R s m args below meth c H locs cells slots Q (F0 m pc ls (gs B st))
variable {pc : Nat} {lv : List (Nat × AV)} {st : List AV} {w : NW}
theorem go_iconst (C : Cx sc k B D ca p l R s m args meth c A) {n : Int} (hd : decode (cc k) pc = .ok (.iconst n, 1)) (kk : Go k B D ca p l e R s m args below meth c A Q (pc + 1) lv (cs4 n :: st) w cells slots) : Go k B D ca p l e R s m args below meth c A Q pc lv st w cells slots := by
  intro H locs ls hl hw
  obtain ⟨⟨hx, hb, -⟩, -⟩ := C
  have h1 := kk H locs ls hl hw
  rw [gs, List.map_cons, cs4_gv] at h1
  exact lv_iconst hx hb hd rfl h1
theorem go_bipush (C : Cx sc k B D ca p l R s m args meth c A) {n : Int} (hd : decode (cc k) pc = .ok (.bipush n, 2)) (kk : Go k B D ca p l e R s m args below meth c A Q (pc + 2) lv (cs8 n :: st) w cells slots) : Go k B D ca p l e R s m args below meth c A Q pc lv st w cells slots := by
  intro H locs ls hl hw
  obtain ⟨⟨hx, hb, -⟩, -⟩ := C
  have h1 := kk H locs ls hl hw
  rw [gs, List.map_cons, cs8_gv] at h1
  exact lv_bipush hx hb hd rfl h1
theorem go_sipush (C : Cx sc k B D ca p l R s m args meth c A) {n : Int} (hd : decode (cc k) pc = .ok (.sipush n, 3)) (kk : Go k B D ca p l e R s m args below meth c A Q (pc + 3) lv (cs16 n :: st) w cells slots) : Go k B D ca p l e R s m args below meth c A Q pc lv st w cells slots := by
  intro H locs ls hl hw
  obtain ⟨⟨hx, hb, -⟩, -⟩ := C
  have h1 := kk H locs ls hl hw
  rw [gs, List.map_cons, cs16_gv] at h1
  exact lv_sipush hx hb hd rfl h1
theorem go_lconst (C : Cx sc k B D ca p l R s m args meth c A) {n : Fin 2} (hd : decode (cc k) pc = .ok (.lconst n, 1)) (kk : Go k B D ca p l e R s m args below meth c A Q (pc + 1) lv (aL (Int64.ofNat n.val) :: st) w cells slots) : Go k B D ca p l e R s m args below meth c A Q pc lv st w cells slots := by
  intro H locs ls hl hw
  obtain ⟨⟨hx, hb, -⟩, -⟩ := C
  exact lv_lconst hx hb hd rfl (kk H locs ls hl hw)
theorem go_ldI (C : Cx sc k B D ca p l R s m args meth c A) {i : Nat} {lv' : List (Nat × AV)} {st' : List AV} {w' : NW} {P : List Prop} (h : ldX isI lv st w i = some (lv', st', w', P)) {q : Nat} (hrow : ∀ (H : Heap) (locs : List Loc) (ls : Array Slot) (x : Int32), ls[i]? = some (.val (.int x)) → W p l e R s m args below meth c H locs cells slots Q (F0 m q ls (.int x :: gs B st)) → W p l e R s m args below meth c H locs cells slots Q (F0 m pc ls (gs B st))) (kk : Go k B D ca p l e R s m args below meth c A Q q lv' st' w' cells slots) : Go k B D ca p l e R s m args below meth c A Q pc lv st w cells slots := by
  intro H locs ls hl hw
  unfold ldX at h
  split at h
  · rename_i v hv
    split at h
    · rename_i ho
      cases h
      have h1 := kk H locs ls hl hw
      obtain ⟨x, hx⟩ := Option.isSome_iff_exists.mp ho
      have h2 := lkp_has hv hl
      rw [toI_gv hx] at h2
      refine hrow H locs ls x h2 ?_
      rw [gs, List.map_cons, toI_gv hx] at h1
      exact h1
    · cases h
  · cases h
theorem go_ldL (C : Cx sc k B D ca p l R s m args meth c A) {i : Nat} {lv' : List (Nat × AV)} {st' : List AV} {w' : NW} {P : List Prop} (h : ldX isL lv st w i = some (lv', st', w', P)) {q : Nat} (hrow : ∀ (H : Heap) (locs : List Loc) (ls : Array Slot) (x : Int64), ls[i]? = some (.val (.long x)) → W p l e R s m args below meth c H locs cells slots Q (F0 m q ls (.long x :: gs B st)) → W p l e R s m args below meth c H locs cells slots Q (F0 m pc ls (gs B st))) (kk : Go k B D ca p l e R s m args below meth c A Q q lv' st' w' cells slots) : Go k B D ca p l e R s m args below meth c A Q pc lv st w cells slots := by
  intro H locs ls hl hw
  unfold ldX at h
  split at h
  · rename_i v hv
    split at h
    · rename_i ho
      cases h
      have h1 := kk H locs ls hl hw
      have h2 := lkp_has hv hl
      rcases v with v | q | n
      · cases v with
        | long x => exact hrow H locs ls x h2 h1
        | _ => cases ho
      · cases ho
      · cases ho
    · cases h
  · cases h
theorem go_ldA (C : Cx sc k B D ca p l R s m args meth c A) {i : Nat} {lv' : List (Nat × AV)} {st' : List AV} {w' : NW} {P : List Prop} (h : ldX isA lv st w i = some (lv', st', w', P)) {q : Nat} (hrow : ∀ (H : Heap) (locs : List Loc) (ls : Array Slot) (x : Nat), ls[i]? = some (.val (.ref x)) → W p l e R s m args below meth c H locs cells slots Q (F0 m q ls (.ref x :: gs B st)) → W p l e R s m args below meth c H locs cells slots Q (F0 m pc ls (gs B st))) (kk : Go k B D ca p l e R s m args below meth c A Q q lv' st' w' cells slots) : Go k B D ca p l e R s m args below meth c A Q pc lv st w cells slots := by
  intro H locs ls hl hw
  unfold ldX at h
  split at h
  · rename_i v hv
    split at h
    · rename_i ho
      cases h
      have h1 := kk H locs ls hl hw
      have h2 := lkp_has hv hl
      obtain ⟨a, ha⟩ := isA_gv (B := B) ho
      rw [ha] at h2
      refine hrow H locs ls a h2 ?_
      rw [gs, List.map_cons, ha] at h1
      exact h1
    · cases h
  · cases h
theorem go_stI (C : Cx sc k B D ca p l R s m args meth c A) {i : Nat} {lv' : List (Nat × AV)} {st' : List AV} {w' : NW} {P : List Prop} (h : stX1 isI (mL k) lv st w i = some (lv', st', w', P)) {q : Nat} (hrow : ∀ (H : Heap) (locs : List Loc) (ls : Array Slot) (x : Int32) (r : List Value) (l1 l2 : List (Nat × Value)), lv_has ls (mL k) l1 → i < mL k → (i, Value.int x) :: l1.filter (fun q => !(q.1 == i) && !(q.1 + 1 == i && q.2.category == 2)) = l2 → (∀ ls' : Array Slot, lv_has ls' (mL k) l2 → W p l e R s m args below meth c H locs cells slots Q (F0 m q ls' r)) → W p l e R s m args below meth c H locs cells slots Q (F0 m pc ls (.int x :: r))) (kk : Go k B D ca p l e R s m args below meth c A Q q lv' st' w' cells slots) : Go k B D ca p l e R s m args below meth c A Q pc lv st w cells slots := by
  intro H locs ls hl hw
  unfold stX1 at h
  split at h
  · rename_i v r
    split at h
    · rename_i ho
      cases h
      obtain ⟨x, hx⟩ := Option.isSome_iff_exists.mp ho.1
      rw [gs, List.map_cons, toI_gv hx]
      refine hrow H locs ls x _ _ _ hl ho.2 (by rw [← toI_gv (B := B) hx]; exact st1L_gl B lv i v) (fun ls' hl' => kk H locs ls' hl' hw)
    · cases h
  · cases h
theorem go_stA (C : Cx sc k B D ca p l R s m args meth c A) {i : Nat} {lv' : List (Nat × AV)} {st' : List AV} {w' : NW} {P : List Prop} (h : stX1 isA (mL k) lv st w i = some (lv', st', w', P)) {q : Nat} (hrow : ∀ (H : Heap) (locs : List Loc) (ls : Array Slot) (x : Nat) (r : List Value) (l1 l2 : List (Nat × Value)), lv_has ls (mL k) l1 → i < mL k → (i, Value.ref x) :: l1.filter (fun q => !(q.1 == i) && !(q.1 + 1 == i && q.2.category == 2)) = l2 → (∀ ls' : Array Slot, lv_has ls' (mL k) l2 → W p l e R s m args below meth c H locs cells slots Q (F0 m q ls' r)) → W p l e R s m args below meth c H locs cells slots Q (F0 m pc ls (.ref x :: r))) (kk : Go k B D ca p l e R s m args below meth c A Q q lv' st' w' cells slots) : Go k B D ca p l e R s m args below meth c A Q pc lv st w cells slots := by
  intro H locs ls hl hw
  unfold stX1 at h
  split at h
  · rename_i v r
    split at h
    · rename_i ho
      cases h
      obtain ⟨a, ha⟩ := isA_gv (B := B) ho.1
      rw [gs, List.map_cons, ha]
      refine hrow H locs ls a _ _ _ hl ho.2 (by rw [← ha]; exact st1L_gl B lv i v) (fun ls' hl' => kk H locs ls' hl' hw)
    · cases h
  · cases h
theorem go_stL (C : Cx sc k B D ca p l R s m args meth c A) {i : Nat} {lv' : List (Nat × AV)} {st' : List AV} {w' : NW} {P : List Prop} (h : stX2 (mL k) lv st w i = some (lv', st', w', P)) {q : Nat} (hrow : ∀ (H : Heap) (locs : List Loc) (ls : Array Slot) (x : Int64) (r : List Value) (l1 l2 : List (Nat × Value)), lv_has ls (mL k) l1 → i + 1 < mL k → (i, Value.long x) :: l1.filter (fun q => !(q.1 == i) && (!(q.1 == i + 1) && !(q.1 + 1 == i && q.2.category == 2))) = l2 → (∀ ls' : Array Slot, lv_has ls' (mL k) l2 → W p l e R s m args below meth c H locs cells slots Q (F0 m q ls' r)) → W p l e R s m args below meth c H locs cells slots Q (F0 m pc ls (.long x :: r))) (kk : Go k B D ca p l e R s m args below meth c A Q q lv' st' w' cells slots) : Go k B D ca p l e R s m args below meth c A Q pc lv st w cells slots := by
  intro H locs ls hl hw
  unfold stX2 at h
  split at h
  · rename_i x r
    split at h
    · rename_i ho
      cases h
      exact hrow H locs ls x _ _ _ hl ho (st2L_gl B lv i (aL x)) (fun ls' hl' => kk H locs ls' hl' hw)
    · cases h
  · cases h
theorem go_iinc (C : Cx sc k B D ca p l R s m args meth c A) {i : Nat} {n : Int} (hd : decode (cc k) pc = .ok (.iinc i n, 3)) {u z : AV} (hu : lkp lv i = some u) (hz : incA u n = some z) (hn : i < mL k) (kk : Go k B D ca p l e R s m args below meth c A Q (pc + 3) (st1L lv i z) st w cells slots) : Go k B D ca p l e R s m args below meth c A Q pc lv st w cells slots := by
  intro H locs ls hl hw
  obtain ⟨⟨hx, hb, -⟩, -⟩ := C
  obtain ⟨x, h1, h2⟩ := incA_gv (B := B) hz
  have key : ∀ (lv : List (Nat × AV)), lkp lv i = some u → ∃ k : Nat, (gl B lv)[k]? = some (i, gv B u) := by
    intro lv
    induction lv with
    | nil => intro h; cases h
    | cons q r ih =>
      intro h
      unfold lkp at h
      by_cases hq : q.1 = i
      · rw [if_pos hq] at h
        cases h
        exact ⟨0, by simp [gl, hq]⟩
      · rw [if_neg hq] at h
        obtain ⟨k, hk⟩ := ih h
        exact ⟨k + 1, by simpa [gl] using hk⟩
  obtain ⟨j, hj⟩ := key lv hu
  rw [h1] at hj
  exact lv_iinc hx hb hd hl hj rfl hn (by rw [← h2]; exact st1L_gl B lv i z) (fun ls' hl' => kk H locs ls' hl' hw)
theorem go_bin (C : Cx sc k B D ca p l R s m args meth c A) {f : AV → AV → Option AV} {g : Int32 → Int32 → Int32} (hf : ∀ {u v z : AV}, f u v = some z → ∃ x y : Int32, gv B u = .int x ∧ gv B v = .int y ∧ gv B z = .int (g x y)) {lv' : List (Nat × AV)} {st' : List AV} {w' : NW} {P : List Prop} (h : bin f lv st w = some (lv', st', w', P)) {q : Nat} (hrow : ∀ (H : Heap) (locs : List Loc) (ls : Array Slot) (x y : Int32) (r : List Value), W p l e R s m args below meth c H locs cells slots Q (F0 m q ls (.int (g x y) :: r)) → W p l e R s m args below meth c H locs cells slots Q (F0 m pc ls (.int y :: .int x :: r))) (kk : Go k B D ca p l e R s m args below meth c A Q q lv' st' w' cells slots) : Go k B D ca p l e R s m args below meth c A Q pc lv st w cells slots := by
  intro H locs ls hl hw
  unfold bin at h
  split at h
  · rename_i v u r
    split at h
    · rename_i z hz
      cases h
      obtain ⟨x, y, h1, h2, h3⟩ := hf hz
      have h4 := kk H locs ls hl hw
      rw [gs, List.map_cons, h3] at h4
      rw [gs, List.map_cons, List.map_cons, h1, h2]
      exact hrow H locs ls x y _ h4
    · cases h
  · cases h
theorem go_binL (C : Cx sc k B D ca p l R s m args meth c A) {f : Int64 → Int64 → Int64} {cd : Int64 → List Prop} {lv' : List (Nat × AV)} {st' : List AV} {w' : NW} {P : List Prop} (h : binL f lv st w cd = some (lv', st', w', P)) (hP : allP P) {q : Nat} (hrow : ∀ (H : Heap) (locs : List Loc) (ls : Array Slot) (x y : Int64) (r : List Value), allP (cd y) → W p l e R s m args below meth c H locs cells slots Q (F0 m q ls (.long (f x y) :: r)) → W p l e R s m args below meth c H locs cells slots Q (F0 m pc ls (.long y :: .long x :: r))) (kk : Go k B D ca p l e R s m args below meth c A Q q lv' st' w' cells slots) : Go k B D ca p l e R s m args below meth c A Q pc lv st w cells slots := by
  intro H locs ls hl hw
  unfold binL at h
  split at h
  · rename_i y x r
    cases h
    exact hrow H locs ls x y _ hP (kk H locs ls hl hw)
  · cases h
theorem go_get (C : Cx sc k B D ca p l R s m args meth c A) {idx : Nat} {h9 : Nat × Nat} (hg : GF (mo k) idx h9.1 h9.2) (hd : decode (cc k) pc = .ok (.getfield idx, 3)) {lv' : List (Nat × AV)} {st' : List AV} {w' : NW} {P : List Prop} (h : getF h9 lv st w = some (lv', st', w', P)) (hP : allP P) (kk : Go k B D ca p l e R s m args below meth c A Q (pc + 3) lv' st' w' cells slots) : Go k B D ca p l e R s m args below meth c A Q pc lv st w cells slots := by
  intro H locs ls hl hw
  obtain ⟨⟨hx, hb, -⟩, ⟨hown, hts, -⟩, ⟨hK, -⟩, -⟩ := C
  unfold getF at h
  split at h
  · rename_i t i r
    split at h
    · rename_i hk
      cases h
      obtain ⟨C, T, ty, c1, c2, c3, c4, c5⟩ := ck_ok hk
      obtain ⟨g1, g2, g3, g4⟩ := hg C T _ c1
      have he := wsO_at (B := B) (ca := ca) (w := w) hP
      rw [en_obj hk] at he
      have h1 := kk H locs ls hl hw
      rw [gs, List.map_cons] at h1
      exact va_get (D := D) (ci := h9.1) (C := C) (T := T) (N := fn h9.1) hx hb hts c2 hown hK hw.1 (od t i) he c1 h9.2 g1 (hts _ g2) (fun _ h9 => h9) (fds_at g1) hd h1
    · cases h
  · cases h
theorem Wd.put {B : Nat} {D : va_G} {ca : CA} {A : Nat → Prop} {H0 H H1 : Heap} {cells : Nat} {w w' : NW} {locs locs1 : List Loc} {t i : Nat} (hw : Wd B D ca A H0 cells w H locs) (hv : vld w.1 t i) (h1 : w'.1 = w.1) (h2 : w'.2.1 = w.2.1) (ho : ∀ t' i', (t', i') ≠ (t, i) → en B ca w' t' i' = en B ca w t' i')
    (hP : va_P D vwCl ((wsO B ca w).set (od t i) (B + od t i, en B ca w' t i)) H1) (hD : va_D A ((wsO B ca w).set (od t i) (B + od t i, en B ca w' t i))) (hS : va_S A H0 H1 locs1) : Wd B D ca A H0 cells w' H1 locs1 := by
  obtain ⟨-, -, -, q4, q5⟩ := hw
  rw [wsO_set hv q5 h1 ho] at hP hD
  exact ⟨hP, hD, hS, fun z => by rw [h1]; exact q4 (h2 ▸ z), by rw [h1]; exact q5⟩
theorem fv_wN_ne {w : NW} {t i j x ci q : Nat} (h : q ≠ j) : fv ci q (wN w t i j x) t i = fv ci q w t i := by simp [fv, wN, upN, h]
theorem fv_wR_ne {w : NW} {t i j ci q : Nat} {x : Option (Nat × Nat)} (h : q ≠ j) : fv ci q (wR w t i j x) t i = fv ci q w t i := by simp [fv, wR, upR, h]
theorem go_putN (C : Cx sc k B D ca p l R s m args meth c A) {idx : Nat} (hd : decode (cc k) pc = .ok (.putfield idx, 3)) {t i ci j x : Nat} {v : AV} {r : List AV} (hg : GF (mo k) idx ci j) (hk : kd t = (3, ci)) (hf : ftk ci j = 0 ∨ (ftk ci j = 3 ∧ (x = 0 ∨ x = 1))) (hx0 : toN v = some x) (hff : ffn ci j = false) (hv : vld w.1 t i) (kk : Go k B D ca p l e R s m args below meth c A Q (pc + 3) lv r (wN w t i j x) cells slots) : Go k B D ca p l e R s m args below meth c A Q pc lv (v :: .inr (.inl (t, i)) :: r) w cells slots := by
  intro H locs ls hl hw
  obtain ⟨⟨hx, hb, -⟩, ⟨hown, hts, -⟩, ⟨hK, -⟩, -⟩ := C
  obtain ⟨C, T, ty, c1, c2, c3, c4, c5⟩ := ck_ok hk
  obtain ⟨g1, g2, g3, g4⟩ := hg C T _ c1
  have he := wsO_at (B := B) (ca := ca) (w := w) hv
  rw [en_obj hk] at he
  have hty : narrow (ty j) (.int (nI x)) = .int (nI x) ∧ fits (ty j) (.int (nI x)) = true := by
    have h5 := c5 j g1
    rcases hf with hf | ⟨hf, hxx⟩
    · rw [hf] at h5
      rw [show ty j = .int from h5]
      exact ⟨rfl, rfl⟩
    · rw [hf] at h5
      rw [show ty j = .boolean from h5]
      rcases hxx with rfl | rfl <;> exact ⟨by decide +kernel, by decide +kernel⟩
  show W p l e R s m args below meth c H locs cells slots Q (F0 m pc ls (gv B v :: .ref (B + od t i) :: gs B r))
  rw [toN_gv hx0]
  refine va_put (D := D) (ci := ci) (C := C) (T := T) (N := fn ci) (ty := ty j) hx hb hts c2 ty c3 c4 hown hK hw.1 hw.2.1 hw.2.2.1 (od t i) he c1 j g1 (hts _ g2) (fun _ h9 => h9) (by rw [g3]; exact hff) (c3 j g1) hty.1 hty.2 (by simp [fds]; exact g1) hd (fun H1 locs1 hP hD hS => ?_)
  refine kk H1 locs1 ls hl (hw.put (t := t) (i := i) hv rfl rfl en_wN ?_ ?_ hS)
  · rw [en_obj hk, ← fds_set (w := w) (v := .int (nI x)) g1 ?_ (fun q hq => fv_wN_ne hq)]
    · exact hP
    · have : fv ci j (wN w t i j x) t i = aN x := by
        rcases hf with hf | ⟨hf, -⟩ <;> simp [fv, hf, wN, upN]
      rw [this]; rfl
  · rw [en_obj hk, ← fds_set (w := w) (v := .int (nI x)) g1 ?_ (fun q hq => fv_wN_ne hq)]
    · exact hD
    · have : fv ci j (wN w t i j x) t i = aN x := by
        rcases hf with hf | ⟨hf, -⟩ <;> simp [fv, hf, wN, upN]
      rw [this]; rfl
theorem go_putR (C : Cx sc k B D ca p l R s m args meth c A) {idx : Nat} (hd : decode (cc k) pc = .ok (.putfield idx, 3)) {t i ci j : Nat} {q : Nat × Nat} {r : List AV} (hg : GF (mo k) idx ci j) (hk : kd t = (3, ci)) (hf : ftk ci j = 2) (hi : ini k = true) (hff : ffn ci j = true) (hci : ci = mo k) (hv : vld w.1 t i) (kk : Go k B D ca p l e R s m args below meth c A Q (pc + 3) lv r (wR w t i j (some q)) cells slots) : Go k B D ca p l e R s m args below meth c A Q pc lv (.inr (.inl q) :: .inr (.inl (t, i)) :: r) w cells slots := by
  intro H locs ls hl hw
  obtain ⟨⟨hx, hb, -⟩, ⟨hown, hts, -⟩, ⟨hK, -, -, hin⟩, -⟩ := C
  obtain ⟨C, T, ty, c1, c2, c3, c4, c5⟩ := ck_ok hk
  obtain ⟨g1, g2, g3, g4⟩ := hg C T _ c1
  have he := wsO_at (B := B) (ca := ca) (w := w) hv
  rw [en_obj hk] at he
  have hty : narrow (ty j) (.ref (B + od q.1 q.2)) = .ref (B + od q.1 q.2) ∧ fits (ty j) (.ref (B + od q.1 q.2)) = true := by
    have h5 := c5 j g1
    rw [hf] at h5
    rcases h5 with ⟨n, h5⟩ | ⟨n, h5⟩ <;> rw [h5] <;> exact ⟨rfl, rfl⟩
  have hC : C = RN ci := by
    have := vwCl_name (ci := ci) (C := C) (T := T) c1
    exact this
  show W p l e R s m args below meth c H locs cells slots Q (F0 m pc ls (.ref (B + od q.1 q.2) :: .ref (B + od t i) :: gs B r))
  refine va_putF (D := D) (ci := ci) (C := C) (T := T) (N := fn ci) (ty := ty j) hx hb hts c2 ty c3 c4 hown hK hw.1 hw.2.1 hw.2.2.1 (od t i) he c1 j g1 (hts _ g2) (fun _ h9 => h9) (by rw [g3]; exact hff) (hin hi) (by rw [g4, hC, hci]) (c3 j g1) hty.1 hty.2 (by simp [fds]; exact g1) hd (fun H1 locs1 hP hD hS => ?_)
  have h8 : gv B (fv ci j (wR w t i j (some q)) t i) = .ref (B + od q.1 q.2) := by
    have : fv ci j (wR w t i j (some q)) t i = .inr (.inl q) := by simp [fv, hf, wR, upR, rv]
    rw [this]; rfl
  refine kk H1 locs1 ls hl (hw.put (t := t) (i := i) hv rfl rfl en_wR ?_ ?_ hS)
  · rw [en_obj hk, ← fds_set (w := w) g1 h8 (fun q hq => fv_wR_ne hq)]
    exact hP
  · rw [en_obj hk, ← fds_set (w := w) g1 h8 (fun q hq => fv_wR_ne hq)]
    exact hD
theorem go_put (C : Cx sc k B D ca p l R s m args meth c A) {idx : Nat} {h9 : Nat × Nat} (hg : GF (mo k) idx h9.1 h9.2) (hd : decode (cc k) pc = .ok (.putfield idx, 3)) {lv' : List (Nat × AV)} {st' : List AV} {w' : NW} {P : List Prop} (h : putF k h9 lv st w = some (lv', st', w', P)) (hP : allP P) (kk : Go k B D ca p l e R s m args below meth c A Q (pc + 3) lv' st' w' cells slots) : Go k B D ca p l e R s m args below meth c A Q pc lv st w cells slots := by
  unfold putF at h
  split at h
  · rename_i v t i r
    split at h
    · rename_i hk
      split at h
      · rename_i hf
        split at h
        · rename_i x hx
          split at h
          · rename_i hff
            cases h
            exact go_putN C hd hg hk (Or.inl hf) hx hff hP kk
          · cases h
        · cases h
      · rename_i hf
        split at h
        · rename_i x hx
          split at h
          · rename_i hff
            cases h
            exact go_putN C hd hg hk (Or.inr ⟨hf, hP.2⟩) hx hff hP.1 kk
          · cases h
        · cases h
      · rename_i hf
        split at h
        · rename_i q
          split at h
          · rename_i h3
            cases h
            exact go_putR C hd hg hk hf h3.1 h3.2.1 h3.2.2 hP kk
          · cases h
        · cases h
      · cases h
    · cases h
  · cases h
theorem nI_vin {j n t : Nat} (h : j < n) (hk : (kd t).2 = n) : vp_in (nI j) n ∧ (nI j).toNatClampNeg = j := by
  have h2 := kd_sm t
  rw [hk] at h2
  exact ⟨vp_in_nI h h2, nI_clamp (Nat.lt_trans h h2)⟩
theorem go_aldN (C : Cx sc k B D ca p l R s m args meth c A) (hd : decode (cc k) pc = .ok (.iaload, 1)) {lv' : List (Nat × AV)} {st' : List AV} {w' : NW} {P : List Prop} (h : aldN lv st w = some (lv', st', w', P)) (hP : allP P) (kk : Go k B D ca p l e R s m args below meth c A Q (pc + 1) lv' st' w' cells slots) : Go k B D ca p l e R s m args below meth c A Q pc lv st w cells slots := by
  intro H locs ls hl hw
  obtain ⟨⟨hx, hb, -⟩, ⟨hown, hts, -⟩, ⟨hK, -⟩, -⟩ := C
  unfold aldN at h
  split at h
  · rename_i j t i r
    split at h
    · rename_i n hk
      cases h
      have he := wsO_at (B := B) (ca := ca) (w := w) hP.1
      rw [en_int hk] at he
      obtain ⟨h1, h2⟩ := nI_vin (t := t) hP.2 (by rw [hk])
      have h3 := kk H locs ls hl hw
      refine va_iald (D := D) hx hb hK hw.1 (od t i) 0 he rfl h1 hd ?_
      rw [h2]
      exact h3
    · cases h
  · cases h
theorem go_aldL (C : Cx sc k B D ca p l R s m args meth c A) (hd : decode (cc k) pc = .ok (.laload, 1)) {lv' : List (Nat × AV)} {st' : List AV} {w' : NW} {P : List Prop} (h : aldL lv st w = some (lv', st', w', P)) (hP : allP P) (kk : Go k B D ca p l e R s m args below meth c A Q (pc + 1) lv' st' w' cells slots) : Go k B D ca p l e R s m args below meth c A Q pc lv st w cells slots := by
  intro H locs ls hl hw
  obtain ⟨⟨hx, hb, -⟩, ⟨hown, hts, -⟩, ⟨hK, -⟩, -⟩ := C
  unfold aldL at h
  split at h
  · rename_i j t i r
    split at h
    · rename_i n hk
      cases h
      have he := wsO_at (B := B) (ca := ca) (w := w) hP.1
      rw [en_lng hk] at he
      obtain ⟨h1, h2⟩ := nI_vin (t := t) hP.2 (by rw [hk])
      have h3 := kk H locs ls hl hw
      refine va_lald (D := D) hx hb hK hw.1 (od t i) 1 he rfl h1 hd ?_
      rw [h2]
      exact h3
    · cases h
  · cases h
theorem go_aldR (C : Cx sc k B D ca p l R s m args meth c A) (hd : decode (cc k) pc = .ok (.aaload, 1)) {lv' : List (Nat × AV)} {st' : List AV} {w' : NW} {P : List Prop} (h : aldR lv st w = some (lv', st', w', P)) (hP : allP P) (kk : Go k B D ca p l e R s m args below meth c A Q (pc + 1) lv' st' w' cells slots) : Go k B D ca p l e R s m args below meth c A Q pc lv st w cells slots := by
  intro H locs ls hl hw
  obtain ⟨⟨hx, hb, -⟩, ⟨hown, hts, -⟩, ⟨hK, -⟩, -⟩ := C
  unfold aldR at h
  split at h
  · rename_i j t i r
    split at h
    · rename_i n hk
      cases h
      have he := wsO_at (B := B) (ca := ca) (w := w) hP.1
      rw [en_rf hk] at he
      obtain ⟨h1, h2⟩ := nI_vin (t := t) hP.2 (by rw [hk])
      have h3 := kk H locs ls hl hw
      refine va_aldq (D := D) hx hb hK hw.1 (od t i) 2 he rfl h1 hd ?_
      rw [h2, rv_gv]
      exact h3
    · cases h
  · cases h
theorem go_astN (C : Cx sc k B D ca p l R s m args meth c A) (hd : decode (cc k) pc = .ok (.iastore, 1)) {lv' : List (Nat × AV)} {st' : List AV} {w' : NW} {P : List Prop} (h : astN lv st w = some (lv', st', w', P)) (hP : allP P) (kk : Go k B D ca p l e R s m args below meth c A Q (pc + 1) lv' st' w' cells slots) : Go k B D ca p l e R s m args below meth c A Q pc lv st w cells slots := by
  intro H locs ls hl hw
  obtain ⟨⟨hx, hb, -⟩, ⟨hown, hts, -⟩, ⟨hK, -⟩, -⟩ := C
  unfold astN at h
  split at h
  · rename_i v j t i r
    split at h
    · rename_i x hx0
      split at h
      · rename_i n hk
        cases h
        have he := wsO_at (B := B) (ca := ca) (w := w) hP.1
        rw [en_int hk] at he
        obtain ⟨h1, h2⟩ := nI_vin (t := t) hP.2 (by rw [hk])
        show W p l e R s m args below meth c H locs cells slots Q (F0 m pc ls (gv B v :: .int (nI j) :: .ref (B + od t i) :: gs B _))
        rw [toN_gv hx0]
        have e1 : (fun q => nI ((wN w t i j x).2.2.1 t i q)) = upd (fun q => nI (w.2.2.1 t i q)) j (nI x) := by
          funext q
          by_cases hq : q = j <;> simp [wN, upN, upd, hq]
        refine va_iast (D := D) hx hb hK hw.1 hw.2.1 hw.2.2.1 (od t i) 0 he rfl h1 hd (fun H1 locs1 hP1 hD1 hS1 => kk H1 locs1 ls hl (hw.put (t := t) (i := i) hP.1 rfl rfl en_wN ?_ ?_ hS1))
        · rw [en_int hk, e1]; rw [h2] at hP1; exact hP1
        · rw [en_int hk, e1]; rw [h2] at hD1; exact hD1
      · cases h
    · cases h
  · cases h
theorem go_astL (C : Cx sc k B D ca p l R s m args meth c A) (hd : decode (cc k) pc = .ok (.lastore, 1)) {lv' : List (Nat × AV)} {st' : List AV} {w' : NW} {P : List Prop} (h : astL lv st w = some (lv', st', w', P)) (hP : allP P) (kk : Go k B D ca p l e R s m args below meth c A Q (pc + 1) lv' st' w' cells slots) : Go k B D ca p l e R s m args below meth c A Q pc lv st w cells slots := by
  intro H locs ls hl hw
  obtain ⟨⟨hx, hb, -⟩, ⟨hown, hts, -⟩, ⟨hK, -⟩, -⟩ := C
  unfold astL at h
  split at h
  · rename_i x j t i r
    split at h
    · rename_i n hk
      cases h
      have he := wsO_at (B := B) (ca := ca) (w := w) hP.1
      rw [en_lng hk] at he
      obtain ⟨h1, h2⟩ := nI_vin (t := t) hP.2 (by rw [hk])
      have e1 : (wL w t i j x).2.2.2.1 t i = vp_updL (w.2.2.2.1 t i) j x := by
        funext q
        by_cases hq : q = j <;> simp [wL, upL, vp_updL, hq]
      refine va_last (D := D) hx hb hK hw.1 hw.2.1 hw.2.2.1 (od t i) 1 he rfl h1 hd (fun H1 locs1 hP1 hD1 hS1 => kk H1 locs1 ls hl (hw.put (t := t) (i := i) hP.1 rfl rfl en_wL ?_ ?_ hS1))
      · rw [en_lng hk, e1]; rw [h2] at hP1; exact hP1
      · rw [en_lng hk, e1]; rw [h2] at hD1; exact hD1
    · cases h
  · cases h
theorem go_alen (C : Cx sc k B D ca p l R s m args meth c A) (hd : decode (cc k) pc = .ok (.arraylength, 1)) {lv' : List (Nat × AV)} {st' : List AV} {w' : NW} {P : List Prop} (h : alen lv st w = some (lv', st', w', P)) (hP : allP P) (kk : Go k B D ca p l e R s m args below meth c A Q (pc + 1) lv' st' w' cells slots) : Go k B D ca p l e R s m args below meth c A Q pc lv st w cells slots := by
  intro H locs ls hl hw
  obtain ⟨⟨hx, hb, -⟩, ⟨hown, hts, -⟩, ⟨hK, -⟩, -⟩ := C
  unfold alen at h
  split at h
  · rename_i t i r
    split at h
    · rename_i n hk
      cases h
      have he := wsO_at (B := B) (ca := ca) (w := w) hP
      rw [en_int hk] at he
      exact va_alen (D := D) hx hb hK hw.1 (od t i) 0 he rfl rfl hd (kk H locs ls hl hw)
    · rename_i n hk
      cases h
      have he := wsO_at (B := B) (ca := ca) (w := w) hP
      rw [en_lng hk] at he
      exact va_alen (D := D) hx hb hK hw.1 (od t i) 1 he rfl rfl hd (kk H locs ls hl hw)
    · rename_i n hk
      cases h
      have he := wsO_at (B := B) (ca := ca) (w := w) hP
      rw [en_rf hk] at he
      exact va_alen (D := D) hx hb hK hw.1 (od t i) 2 he rfl rfl hd (kk H locs ls hl hw)
    · cases h
  · cases h
theorem go_aldZ (C : Cx sc k B D ca p l R s m args meth c A) (hd : decode (cc k) pc = .ok (.baload, 1)) {lv' : List (Nat × AV)} {st' : List AV} {w' : NW} {P : List Prop} (h : aldZ lv st w = some (lv', st', w', P)) (hP : allP P) (kk : Go k B D ca p l e R s m args below meth c A Q (pc + 1) lv' st' w' cells slots) : Go k B D ca p l e R s m args below meth c A Q pc lv st w cells slots := by
  intro H locs ls hl hw
  obtain ⟨⟨hx, hb, -⟩, ⟨hown, hts, -⟩, ⟨hK, -⟩, -⟩ := C
  unfold aldZ at h
  split at h
  · rename_i j t i r
    split at h
    · rename_i n hk
      cases h
      have he := wsO_at (B := B) (ca := ca) (w := w) hP.1
      rw [en_bl hk] at he
      obtain ⟨h1, h2⟩ := nI_vin (t := t) hP.2 (by rw [hk])
      have h3 := kk H locs ls hl hw
      refine va_zald (D := D) hx hb hK hw.1 (od t i) 3 he rfl h1 hd ?_
      rw [h2]
      exact h3
    · cases h
  · cases h
theorem go_astZ (C : Cx sc k B D ca p l R s m args meth c A) (hd : decode (cc k) pc = .ok (.bastore, 1)) {lv' : List (Nat × AV)} {st' : List AV} {w' : NW} {P : List Prop} (h : astZ lv st w = some (lv', st', w', P)) (hP : allP P) (kk : Go k B D ca p l e R s m args below meth c A Q (pc + 1) lv' st' w' cells slots) : Go k B D ca p l e R s m args below meth c A Q pc lv st w cells slots := by
  intro H locs ls hl hw
  obtain ⟨⟨hx, hb, -⟩, ⟨hown, hts, -⟩, ⟨hK, -⟩, -⟩ := C
  unfold astZ at h
  split at h
  · rename_i v j t i r
    split at h
    · rename_i x hx0
      split at h
      · rename_i n hk
        cases h
        have he := wsO_at (B := B) (ca := ca) (w := w) hP.1
        rw [en_bl hk] at he
        obtain ⟨h1, h2⟩ := nI_vin (t := t) hP.2.1 (by rw [hk])
        show W p l e R s m args below meth c H locs cells slots Q (F0 m pc ls (gv B v :: .int (nI j) :: .ref (B + od t i) :: gs B _))
        rw [toN_gv hx0]
        have e1 : (fun q => nI ((wN w t i j x).2.2.1 t i q)) = upd (fun q => nI (w.2.2.1 t i q)) j (nI x) := by
          funext q
          by_cases hq : q = j <;> simp [wN, upN, upd, hq]
        have nz : vp_nar .boolean (nI x) = nI x := by rcases hP.2.2 with rfl | rfl <;> decide +kernel
        refine va_zast (D := D) hx hb hK hw.1 hw.2.1 hw.2.2.1 (od t i) 3 he rfl h1 hd (fun H1 locs1 hP1 hD1 hS1 => kk H1 locs1 ls hl (hw.put (t := t) (i := i) hP.1 rfl rfl en_wN ?_ ?_ hS1))
        · rw [en_bl hk, e1]; rw [h2, nz] at hP1; exact hP1
        · rw [en_bl hk, e1]; rw [h2, nz] at hD1; exact hD1
      · cases h
    · cases h
  · cases h
theorem go_div (C : Cx sc k B D ca p l R s m args meth c A) (hd : decode (cc k) pc = .ok (.idiv, 1)) {lv' : List (Nat × AV)} {st' : List AV} {w' : NW} {P : List Prop} (h : binC divA lv st w = some (lv', st', w', P)) (hP : allP P) (kk : Go k B D ca p l e R s m args below meth c A Q (pc + 1) lv' st' w' cells slots) : Go k B D ca p l e R s m args below meth c A Q pc lv st w cells slots := by
  intro H locs ls hl hw
  obtain ⟨⟨hx, hb, -⟩, -⟩ := C
  unfold binC at h
  split at h
  · rename_i v u r
    split at h
    · rename_i z P9 hz
      cases h
      unfold divA at hz
      split at hz
      · cases hz
        have h1 := kk H locs ls hl hw
        refine lv_idiv hx hb hd (nI_ne0 hP.2.1 hP.2.2) ?_
        rw [pk_div hP.1 hP.2.1 hP.2.2]
        exact h1
      · cases hz
    · cases h
  · cases h
theorem go_rem (C : Cx sc k B D ca p l R s m args meth c A) (hd : decode (cc k) pc = .ok (.irem, 1)) {lv' : List (Nat × AV)} {st' : List AV} {w' : NW} {P : List Prop} (h : binC remA lv st w = some (lv', st', w', P)) (hP : allP P) (kk : Go k B D ca p l e R s m args below meth c A Q (pc + 1) lv' st' w' cells slots) : Go k B D ca p l e R s m args below meth c A Q pc lv st w cells slots := by
  intro H locs ls hl hw
  obtain ⟨⟨hx, hb, -⟩, -⟩ := C
  unfold binC at h
  split at h
  · rename_i v u r
    split at h
    · rename_i z P9 hz
      cases h
      unfold remA at hz
      split at hz
      · cases hz
        have h1 := kk H locs ls hl hw
        refine lv_irem hx hb hd (nI_ne0 hP.2.1 hP.2.2) ?_
        rw [pk_rem hP.1 hP.2.1 hP.2.2]
        exact h1
      · cases hz
    · cases h
  · cases h
theorem go_1 (C : Cx sc k B D ca p l R s m args meth c A) {ins : Instr} {h9 : Nat × Nat} (hd : decode (cc k) pc = .ok (ins, ln ins)) (hk : hkP k ins h9) {lv' : List (Nat × AV)} {st' : List AV} {w' : NW} {P : List Prop} (h : st1 k ins h9 lv st w = some (lv', st', w', P)) (hP : allP P) (kk : Go k B D ca p l e R s m args below meth c A Q (pc + ln ins) lv' st' w' cells slots) : Go k B D ca p l e R s m args below meth c A Q pc lv st w cells slots := by
  obtain ⟨⟨hx, hb, hmx⟩, ⟨hown, hts, hot⟩, hC3⟩ := id C
  cases ins with
  | iconst n =>
    have h' : some (lv, cs4 n :: st, w, ([] : List Prop)) = some (lv', st', w', P) := h
    cases h'
    exact go_iconst C hd kk
  | bipush n =>
    have h' : some (lv, cs8 n :: st, w, ([] : List Prop)) = some (lv', st', w', P) := h
    cases h'
    exact go_bipush C hd kk
  | sipush n =>
    have h' : some (lv, cs16 n :: st, w, ([] : List Prop)) = some (lv', st', w', P) := h
    cases h'
    exact go_sipush C hd kk
  | lconst n =>
    have h' : some (lv, aL (Int64.ofNat n.val) :: st, w, ([] : List Prop)) = some (lv', st', w', P) := h
    cases h'
    exact go_lconst C hd kk
  | ldc idx =>
    have h' : some (lv, aN h9.1 :: st, w, ([] : List Prop)) = some (lv', st', w', P) := h
    cases h'
    exact fun H locs ls hl hw => lv_ldc hx hb hown (hts _ hk) hd (kk H locs ls hl hw)
  | ldc2_w idx =>
    have h' : some (lv, aL (Int64.ofNat h9.1) :: st, w, ([] : List Prop)) = some (lv', st', w', P) := h
    cases h'
    exact fun H locs ls hl hw => lv_ldc2 hx hb hown (hts _ hk) hd (kk H locs ls hl hw)
  | iload_n j => exact go_ldI C (i := j.val) h (fun H locs ls x h1 h2 => lv_iload_n hx hb hd rfl h1 h2) kk
  | iload j => exact go_ldI C (i := j) h (fun H locs ls x h1 h2 => lv_iload hx hb hd h1 h2) kk
  | lload_n j => exact go_ldL C (i := j.val) h (fun H locs ls x h1 h2 => lv_lload_n hx hb hd rfl h1 h2) kk
  | lload j => exact go_ldL C (i := j) h (fun H locs ls x h1 h2 => lv_lload hx hb hd h1 h2) kk
  | aload_n j => exact go_ldA C (i := j.val) h (fun H locs ls x h1 h2 => lv_aload_n hx hb hd rfl h1 h2) kk
  | aload j => exact go_ldA C (i := j) h (fun H locs ls x h1 h2 => lv_aload hx hb hd h1 h2) kk
  | istore_n j => exact go_stI C (i := j.val) h (fun H locs ls x r l1 l2 h1 h2 h3 h4 => lv_istore_n hx hb hd rfl h1 h2 h3 h4) kk
  | istore j => exact go_stI C (i := j) h (fun H locs ls x r l1 l2 h1 h2 h3 h4 => lv_istore hx hb hd h1 h2 h3 h4) kk
  | astore_n j => exact go_stA C (i := j.val) h (fun H locs ls x r l1 l2 h1 h2 h3 h4 => lv_astore_n hx hb hd rfl h1 h2 h3 h4) kk
  | astore j => exact go_stA C (i := j) h (fun H locs ls x r l1 l2 h1 h2 h3 h4 => lv_astore hx hb hd h1 h2 h3 h4) kk
  | lstore_n j => exact go_stL C (i := j.val) h (fun H locs ls x r l1 l2 h1 h2 h3 h4 => lv_lstore_n hx hb hd rfl h1 h2 h3 h4) kk
  | lstore j => exact go_stL C (i := j) h (fun H locs ls x r l1 l2 h1 h2 h3 h4 => lv_lstore hx hb hd h1 h2 h3 h4) kk
  | iinc i n =>
    have h' : (match lkp lv i with | some u => (match incA u n with | some z => if i < mL k then some (st1L lv i z, st, w, ([] : List Prop)) else none | none => none) | none => none) = some (lv', st', w', P) := h
    split at h'
    · rename_i u hu
      split at h'
      · rename_i z hz
        split at h'
        · rename_i hn
          cases h'
          exact go_iinc C hd hu hz hn kk
        · cases h'
      · cases h'
    · cases h'
  | iadd => exact go_bin C (g := (· + ·)) (fun h => addA_gv h) h (fun H locs ls x y r h1 => lv_iadd hx hb hd h1) kk
  | imul => exact go_bin C (g := (· * ·)) (fun h => mulA_gv h) h (fun H locs ls x y r h1 => lv_imul hx hb hd h1) kk
  | isub => exact go_bin C (g := (· - ·)) (fun h => subA_gv h) h (fun H locs ls x y r h1 => lv_isub hx hb hd h1) kk
  | ladd => exact go_binL C (f := (· + ·)) (cd := fun _ => []) h hP (fun H locs ls x y r _ h1 => lv_ladd hx hb hd h1) kk
  | lsub => exact go_binL C (f := (· - ·)) (cd := fun _ => []) h hP (fun H locs ls x y r _ h1 => lv_lsub hx hb hd h1) kk
  | lmul => exact go_binL C (f := (· * ·)) (cd := fun _ => []) h hP (fun H locs ls x y r _ h1 => lv_lmul hx hb hd h1) kk
  | ldiv => exact go_binL C (f := (· / ·)) (cd := fun y => [¬ y = 0]) h hP (fun H locs ls x y r h0 h1 => lv_ldiv hx hb hd h0 h1) kk
  | i2l =>
    have h' : fI2l lv st w = some (lv', st', w', P) := h
    unfold fI2l at h'
    split at h'
    · rename_i v r
      split at h'
      · rename_i x hv
        cases h'
        intro H locs ls hl hw
        rw [gs, List.map_cons, toI_gv hv]
        exact lv_i2l hx hb hd rfl (kk H locs ls hl hw)
      · cases h'
    · cases h'
  | dup =>
    have h' : fDup lv st w = some (lv', st', w', P) := h
    unfold fDup at h'
    split at h'
    · rename_i v r
      split at h'
      · rename_i hv
        cases h'
        exact fun H locs ls hl hw => lv_dup hx hb hd (by rw [ct1_gv]; exact hv) (kk H locs ls hl hw)
      · cases h'
    · cases h'
  | pop =>
    have h' : fPop lv st w = some (lv', st', w', P) := h
    unfold fPop at h'
    split at h'
    · rename_i v r
      split at h'
      · rename_i hv
        cases h'
        exact fun H locs ls hl hw => lv_pop hx hb hd (by rw [ct1_gv]; exact hv) (kk H locs ls hl hw)
      · cases h'
    · cases h'
  | dup2 =>
    have h' : fDup2 lv st w = some (lv', st', w', P) := h
    unfold fDup2 at h'
    split at h'
    · rename_i v r
      split at h'
      · rename_i hv
        cases h'
        exact fun H locs ls hl hw => lv_dup2_2 hx hb hd (by rw [ct1_gv]; exact hv) (kk H locs ls hl hw)
      · split at h'
        · rename_i u r'
          split at h'
          · rename_i hv
            cases h'
            exact fun H locs ls hl hw => lv_dup2_11 hx hb hd (by rw [ct1_gv]; exact hv.1) (by rw [ct1_gv]; exact hv.2) (kk H locs ls hl hw)
          · cases h'
        · cases h'
    · cases h'
  | getfield idx => exact go_get C hk hd h hP kk
  | putfield idx => exact go_put C hk hd h hP kk
  | baload => exact go_aldZ C hd h hP kk
  | bastore => exact go_astZ C hd h hP kk
  | iand => exact go_bin C (g := fun x y => x &&& y) (fun h => intA_gv h) h (fun H locs ls x y r h1 => lv_iand hx hb hd h1) kk
  | ior => exact go_bin C (g := fun x y => x ||| y) (fun h => intA_gv h) h (fun H locs ls x y r h1 => lv_ior hx hb hd h1) kk
  | ishl => exact go_bin C (g := fun x y => x <<< (y &&& 31)) (fun h => intA_gv h) h (fun H locs ls x y r h1 => lv_ishl hx hb hd h1) kk
  | ishr => exact go_bin C (g := fun x y => x >>> (y &&& 31)) (fun h => intA_gv h) h (fun H locs ls x y r h1 => lv_ishr hx hb hd h1) kk
  | idiv => exact go_div C hd h hP kk
  | irem => exact go_rem C hd h hP kk
  | iaload => exact go_aldN C hd h hP kk
  | laload => exact go_aldL C hd h hP kk
  | aaload => exact go_aldR C hd h hP kk
  | iastore => exact go_astN C hd h hP kk
  | lastore => exact go_astL C hd h hP kk
  | arraylength => exact go_alen C hd h hP kk
  | _ => cases h
theorem go_S (C : Cx sc k B D ca p l R s m args meth c A) : ∀ (is : List IH) (pc : Nat) (lv : List (Nat × AV)) (st : List AV) (w : NW) {lv' : List (Nat × AV)} {st' : List AV} {w' : NW} {P : List Prop}, okS k pc is → stS k is lv st w = some (lv', st', w', P) → allP P → Go k B D ca p l e R s m args below meth c A Q (pc + lnS is) lv' st' w' cells slots → Go k B D ca p l e R s m args below meth c A Q pc lv st w cells slots := by
  intro is
  induction is with
  | nil =>
    intro pc lv st w lv' st' w' P _ h _ kk
    have h' : some (lv, st, w, ([] : List Prop)) = some (lv', st', w', P) := h
    cases h'
    exact kk
  | cons i r ih =>
    intro pc lv st w lv' st' w' P ho h hP kk
    unfold stS at h
    split at h
    · rename_i lv1 st1 w1 P1 h1
      split at h
      · rename_i lv2 st2 w2 P2 h2
        cases h
        obtain ⟨a1, a2⟩ := allP_app hP
        refine go_1 C ho.1.1 ho.1.2 h1 a1 (ih (pc + ln i.1) lv1 st1 w1 ho.2 h2 a2 ?_)
        rw [Nat.add_assoc]
        exact kk
      · cases h
    · cases h
end Go
section SemR
variable {sc : XT} {k pc : Nat} {lv : List (Nat × AV)} {st : List AV} {w : NW} {cells slots : Nat} {Q : QT}
/-- a straight stretch -/
theorem Sem.seg (is : List IH) (hs : okS k pc is) {lv' : List (Nat × AV)} {st' : List AV} {w' : NW} {P : List Prop} (h : stS k is lv st w = some (lv', st', w', P)) (hP : allP P) {pc' : Nat} (hpc : pc + lnS is = pc') (kk : Sem sc k pc' lv' st' w' cells slots Q) : Sem sc k pc lv st w cells slots Q := by
  intro B D ca p l e R s m args below meth c A C
  subst hpc
  exact go_S C is pc lv st w hs h hP (kk B D ca p l e R s m args below meth c A C)
def icP : ClassFile.Cond → Int32 → Int32 → Prop
  | .eq, x, y => x = y
  | .ne, x, y => ¬ x = y
  | .lt, x, y => x < y
  | .ge, x, y => y ≤ x
  | .gt, x, y => y < x
  | .le, x, y => x ≤ y
theorem Sem.icmp {cd : ClassFile.Cond} {off : Int} {tgt : Nat} (hd : decode (cc k) pc = .ok (.if_icmp cd off, 3)) (ht : (pc : Int) + off = (tgt : Int)) {u v : AV} {x y : Int32} (hx0 : toI u = some x) (hy0 : toI v = some y) (kt : icP cd x y → Sem sc k tgt lv st w cells slots Q) (kf : ¬ icP cd x y → Sem sc k (pc + 3) lv st w cells slots Q) : Sem sc k pc lv (v :: u :: st) w cells slots Q := by
  intro B D ca p l e R s m args below meth c A C H locs ls hl hw
  obtain ⟨⟨hx, hb, -⟩, -⟩ := id C
  rw [gs, List.map_cons, List.map_cons, toI_gv hx0, toI_gv hy0]
  cases cd with
  | eq => exact lv_icmp_eq hx hb hd ht (fun h => kt h B D ca p l e R s m args below meth c A C H locs ls hl hw) (fun h => kf h B D ca p l e R s m args below meth c A C H locs ls hl hw)
  | ne => exact lv_icmp_ne hx hb hd ht (fun h => kt h B D ca p l e R s m args below meth c A C H locs ls hl hw) (fun h => kf (fun n => n h) B D ca p l e R s m args below meth c A C H locs ls hl hw)
  | lt => exact lv_icmp_lt hx hb hd ht (fun h => kt h B D ca p l e R s m args below meth c A C H locs ls hl hw) (fun h => kf h B D ca p l e R s m args below meth c A C H locs ls hl hw)
  | ge => exact lv_icmp_ge hx hb hd ht (fun h => kt h B D ca p l e R s m args below meth c A C H locs ls hl hw) (fun h => kf h B D ca p l e R s m args below meth c A C H locs ls hl hw)
  | gt => exact lv_icmp_gt hx hb hd ht (fun h => kt h B D ca p l e R s m args below meth c A C H locs ls hl hw) (fun h => kf h B D ca p l e R s m args below meth c A C H locs ls hl hw)
  | le => exact lv_icmp_le hx hb hd ht (fun h => kt h B D ca p l e R s m args below meth c A C H locs ls hl hw) (fun h => kf h B D ca p l e R s m args below meth c A C H locs ls hl hw)
theorem Sem.ifc {cd : ClassFile.Cond} {off : Int} {tgt : Nat} (hd : decode (cc k) pc = .ok (.ifCond cd off, 3)) (ht : (pc : Int) + off = (tgt : Int)) {u : AV} {x : Int32} (hx0 : toI u = some x) (kt : icP cd x 0 → Sem sc k tgt lv st w cells slots Q) (kf : ¬ icP cd x 0 → Sem sc k (pc + 3) lv st w cells slots Q) : Sem sc k pc lv (u :: st) w cells slots Q := by
  intro B D ca p l e R s m args below meth c A C H locs ls hl hw
  obtain ⟨⟨hx, hb, -⟩, -⟩ := id C
  rw [gs, List.map_cons, toI_gv hx0]
  cases cd with
  | eq => exact lv_if_eq hx hb hd ht (fun h => kt h B D ca p l e R s m args below meth c A C H locs ls hl hw) (fun h => kf h B D ca p l e R s m args below meth c A C H locs ls hl hw)
  | ne => exact lv_if_ne hx hb hd ht (fun h => kt h B D ca p l e R s m args below meth c A C H locs ls hl hw) (fun h => kf (fun n => n h) B D ca p l e R s m args below meth c A C H locs ls hl hw)
  | lt => exact lv_if_lt hx hb hd ht (fun h => kt h B D ca p l e R s m args below meth c A C H locs ls hl hw) (fun h => kf h B D ca p l e R s m args below meth c A C H locs ls hl hw)
  | ge => exact lv_if_ge hx hb hd ht (fun h => kt h B D ca p l e R s m args below meth c A C H locs ls hl hw) (fun h => kf h B D ca p l e R s m args below meth c A C H locs ls hl hw)
  | gt => exact lv_if_gt hx hb hd ht (fun h => kt h B D ca p l e R s m args below meth c A C H locs ls hl hw) (fun h => kf h B D ca p l e R s m args below meth c A C H locs ls hl hw)
  | le => exact lv_if_le hx hb hd ht (fun h => kt h B D ca p l e R s m args below meth c A C H locs ls hl hw) (fun h => kf h B D ca p l e R s m args below meth c A C H locs ls hl hw)
def icN : ClassFile.Cond → Nat → Nat → Prop
  | .eq, a, b => a = b
  | .ne, a, b => ¬ a = b
  | .lt, a, b => a < b
  | .ge, a, b => b ≤ a
  | .gt, a, b => b < a
  | .le, a, b => a ≤ b
theorem icN_iff {cd : ClassFile.Cond} {a b : Nat} (ha : a < 2 ^ 31) (hb : b < 2 ^ 31) : icP cd (nI a) (nI b) ↔ icN cd a b := by
  cases cd with
  | eq => exact nI_eq ha hb
  | ne => exact not_congr (nI_eq ha hb)
  | lt => exact nI_ltI ha hb
  | ge => exact nI_leI hb ha
  | gt => exact nI_ltI hb ha
  | le => exact nI_leI ha hb
theorem Sem.icmpN {cd : ClassFile.Cond} {off : Int} {tgt : Nat} (hd : decode (cc k) pc = .ok (.if_icmp cd off, 3)) (ht : (pc : Int) + off = (tgt : Int)) {a b : Nat} (ha : a < 2 ^ 31) (hb : b < 2 ^ 31) (kt : icN cd a b → Sem sc k tgt lv st w cells slots Q) (kf : ¬ icN cd a b → Sem sc k (pc + 3) lv st w cells slots Q) : Sem sc k pc lv (aN b :: aN a :: st) w cells slots Q :=
  Sem.icmp hd ht (u := aN a) (v := aN b) rfl rfl (fun h => kt ((icN_iff ha hb).mp h)) (fun h => kf (fun z => h ((icN_iff ha hb).mpr z)))
theorem Sem.ifN {cd : ClassFile.Cond} {off : Int} {tgt : Nat} (hd : decode (cc k) pc = .ok (.ifCond cd off, 3)) (ht : (pc : Int) + off = (tgt : Int)) {a : Nat} (ha : a < 2 ^ 31) (kt : icN cd a 0 → Sem sc k tgt lv st w cells slots Q) (kf : ¬ icN cd a 0 → Sem sc k (pc + 3) lv st w cells slots Q) : Sem sc k pc lv (aN a :: st) w cells slots Q :=
  Sem.ifc hd ht (u := aN a) rfl (fun h => kt ((icN_iff ha (by decide)).mp (by rw [nI_0]; exact h))) (fun h => kf (fun z => h (by have := (icN_iff ha (show 0 < 2 ^ 31 by decide)).mpr z; rw [nI_0] at this; exact this)))
def lcP : ClassFile.Cond → Int64 → Int64 → Prop
  | .eq, x, y => x = y
  | .ne, x, y => ¬ x = y
  | .lt, x, y => x < y
  | .ge, x, y => y ≤ x
  | .gt, x, y => y < x
  | .le, x, y => x ≤ y
theorem lcP_iff {cd : ClassFile.Cond} {x y : Int64} : icP cd (lg_cmp x y) 0 ↔ lcP cd x y := by
  cases cd with
  | eq => exact lg_cmp_eq x y
  | ne => exact not_congr (lg_cmp_eq x y)
  | lt => exact lg_cmp_lt x y
  | ge => exact lg_cmp_ge x y
  | gt => exact lg_cmp_gt x y
  | le => exact lg_cmp_le x y
theorem Sem.lcmp {cd : ClassFile.Cond} {off : Int} {tgt : Nat} (hd1 : decode (cc k) pc = .ok (.lcmp, 1)) (hd : decode (cc k) (pc + 1) = .ok (.ifCond cd off, 3)) (ht : ((pc + 1 : Nat) : Int) + off = (tgt : Int)) {x y : Int64} (kt : lcP cd x y → Sem sc k tgt lv st w cells slots Q) (kf : ¬ lcP cd x y → Sem sc k (pc + 4) lv st w cells slots Q) : Sem sc k pc lv (aL y :: aL x :: st) w cells slots Q := by
  intro B D ca p l e R s m args below meth c A C H locs ls hl hw
  obtain ⟨⟨hx, hb, -⟩, -⟩ := id C
  refine W.lcmp hx hb hd1 ?_
  exact Sem.ifc (u := aI (lg_cmp x y)) hd ht rfl (fun h => kt (lcP_iff.mp h)) (fun h => kf (fun z => h (lcP_iff.mpr z))) B D ca p l e R s m args below meth c A C H locs ls hl hw
theorem Sem.goto {off : Int} {tgt : Nat} (hd : decode (cc k) pc = .ok (.goto off, 3)) (ht : (pc : Int) + off = (tgt : Int)) (kk : Sem sc k tgt lv st w cells slots Q) : Sem sc k pc lv st w cells slots Q := by
  intro B D ca p l e R s m args below meth c A C H locs ls hl hw
  obtain ⟨⟨hx, hb, -⟩, -⟩ := id C
  exact lv_goto hx hb hd ht (kk B D ca p l e R s m args below meth c A C H locs ls hl hw)
/-- other words for the same locals and stack -/
theorem Sem.eqv {lv' : List (Nat × AV)} {st' : List AV} (h1 : ∀ B, ∀ q ∈ gl B lv', q ∈ gl B lv) (h2 : ∀ B, gs B st = gs B st') (kk : Sem sc k pc lv' st' w cells slots Q) : Sem sc k pc lv st w cells slots Q := by
  intro B D ca p l e R s m args below meth c A C H locs ls hl hw
  rw [h2 B]
  exact kk B D ca p l e R s m args below meth c A C H locs ls ⟨hl.1, hl.2.1, fun q hq => hl.2.2 q (h1 B q hq)⟩ hw
theorem Sem.lsub {lv' : List (Nat × AV)} (h : ∀ q ∈ lv', q ∈ lv) (kk : Sem sc k pc lv' st w cells slots Q) : Sem sc k pc lv st w cells slots Q :=
  Sem.eqv (fun B q hq => by
    obtain ⟨z, hz, rfl⟩ := List.mem_map.mp hq
    exact List.mem_map.mpr ⟨z, h z hz, rfl⟩) (fun _ => rfl) kk
theorem Sem.topN {x : Int32} {n : Nat} (h : x = nI n) (kk : Sem sc k pc lv (aN n :: st) w cells slots Q) : Sem sc k pc lv (aI x :: st) w cells slots Q := by
  subst h
  exact kk
/-- ends -/
theorem Wd.bd {B : Nat} {D : va_G} {ca : CA} {A : Nat → Prop} {s t : State} {cells n : Nat} {w : NW} {H : Heap} {locs : List Loc} (hw : Wd B D ca A s.heap cells w H locs) (ht : t.heap = H) (hz : w.2.1 = true → cells = n) : Bd B D ca A n w s t := by
  obtain ⟨h1, h2, h3, h4, h5⟩ := hw
  exact ⟨by rw [ht]; exact h1, h2, fun z => by rw [← hz z]; exact h4 z, h5⟩
theorem Sem.vret (hd : decode (cc k) pc = .ok (.return_, 1)) (hr : rt k = none) (hc : cells ≤ mc k) (hs : slots ≤ ms k) (hz : w.2.1 = true → cells = mc k) (hQ : Q (.inl none) w) : Sem sc k pc lv [] w cells slots Q := by
  intro B D ca p l e R s m args below meth c A C H locs ls hl hw
  obtain ⟨⟨hx, hb, hmx, hrt, hlk⟩, -⟩ := id C
  refine W.widen hc hs (oxRet ?_)
  exact W.vret hx hb (hrt.trans hr) (fun t ht hW => ⟨none, w, rfl, hQ, hw.bd ht hz, hw.2.2.1.F ht⟩) hw.2.2.1.2.2 hd hlk
theorem Sem.iret {v : AV} {x : Int32} (hv : toI v = some x) (hd : decode (cc k) pc = .ok (.ireturn, 1)) (hr : rt k = some .int ∨ (rt k = some .boolean ∧ (x = 0 ∨ x = 1))) (hc : cells ≤ mc k) (hs : slots ≤ ms k) (hz : w.2.1 = true → cells = mc k) (hQ : Q (.inl (some v)) w) : Sem sc k pc lv [v] w cells slots Q := by
  intro B D ca p l e R s m args below meth c A C H locs ls hl hw
  obtain ⟨⟨hx, hb, hmx, hrt, hlk⟩, -⟩ := id C
  refine W.widen hc hs (oxRet ?_)
  rw [gs, List.map_cons, toI_gv hv]
  have hq : ∀ t : State, t.heap = H → s.WarmedH t.vm → Qo B D ca A (mc k) Q s (.returned (some (.int x))) t := fun t ht hW => ⟨some v, w, by rw [Option.map_some, toI_gv hv], hQ, hw.bd ht hz, hw.2.2.1.F ht⟩
  rcases hr with hr | ⟨hr, hx1⟩
  · exact W.iret hx hb (hrt.trans hr) hq hw.2.2.1.2.2 hd hlk
  · exact W.zret hx hb (hrt.trans hr) (by rcases hx1 with rfl | rfl <;> decide +kernel) hq hw.2.2.1.2.2 hd hlk
theorem Sem.lret {x : Int64} (hd : decode (cc k) pc = .ok (.lreturn, 1)) (hr : rt k = some .long) (hc : cells ≤ mc k) (hs : slots ≤ ms k) (hz : w.2.1 = true → cells = mc k) (hQ : Q (.inl (some (aL x))) w) : Sem sc k pc lv [aL x] w cells slots Q := by
  intro B D ca p l e R s m args below meth c A C H locs ls hl hw
  obtain ⟨⟨hx, hb, hmx, hrt, hlk⟩, -⟩ := id C
  refine W.widen hc hs (oxRet ?_)
  exact W.lret hx hb (hrt.trans hr) (fun t ht hW => ⟨some (aL x), w, rfl, hQ, hw.bd ht hz, hw.2.2.1.F ht⟩) hw.2.2.1.2.2 hd hlk
theorem Sem.aret {v : AV} (hv : isA v = true) {ty : FieldType} (hd : decode (cc k) pc = .ok (.areturn, 1)) (hr : rt k = some ty) (hty : (∃ n, ty = .object n) ∨ ∃ t, ty = .array t) (hc : cells ≤ mc k) (hs : slots ≤ ms k) (hz : w.2.1 = true → cells = mc k) (hQ : Q (.inl (some v)) w) : Sem sc k pc lv [v] w cells slots Q := by
  intro B D ca p l e R s m args below meth c A C H locs ls hl hw
  obtain ⟨⟨hx, hb, hmx, hrt, hlk⟩, -⟩ := id C
  refine W.widen hc hs (oxRet ?_)
  obtain ⟨a, ha⟩ := isA_gv (B := B) hv
  exact W.aret hx hb (hrt.trans hr) hty (Or.inr ⟨a, ha⟩) (fun t ht hW => ⟨some v, w, rfl, hQ, hw.bd ht hz, hw.2.2.1.F ht⟩) hw.2.2.1.2.2 hd hlk
end SemR
end
section
-- ===== a handler is searched for: rows that are passed, a row that catches; their classes may be linked on the way =====
def oxF (e : Env) (S : State) (f : JFrame) (a : Addr) (pc : Nat) (vm' : Vm) : Prop := ∀ (Q : Handler → Pre) (E : CtlPost) (d : Bool) (acts : List Action), Jvm.Sem.wp (findHandler f a) Q E e d acts S ↔ Q (.found pc) d acts (S.setVm vm')
theorem oxGo {e : Env} {S : State} {f : JFrame} {a : Addr} {x : ExceptionTableEntry} {r : List ExceptionTableEntry} {cT : ClassId} {cell : Cell} (hx : covers x f.pc = true) (h0 : x.catchType ≠ 0)
    (hl : S.vm.ClassLinks e.platform f.method.cls x.catchType cT) (hcell : S.heap[a]? = some cell) (hobj : ∀ k, cell.vm ≠ .statics k) (hk : ∃ k, S.vm.classes[cell.cls]? = some k) (hc : ∃ k, S.vm.classes[cT]? = some k)
    (Q : Handler → Pre) (E : CtlPost) (d : Bool) (acts : List Action) :
    Jvm.Sem.wp (findHandler.go f a (x :: r)) Q E e d acts S ↔ (if S.vm.assignable cell.cls cT = true then Q (.found x.handlerPc) d acts (S.setVm (S.vm.noted f.method.cls x.catchType (.cls cT))) else Jvm.Sem.wp (findHandler.go f a r) Q E e d acts (S.setVm (S.vm.noted f.method.cls x.catchType (.cls cT)))) := by
  simp only [covers] at hx
  obtain ⟨ha, ht⟩ := (resolveClass_links e.toSetting hl).op (op := VmOp.resolveClass f.method.cls x.catchType) rfl
  have hal : S.vm.Alike (S.vm.noted f.method.cls x.catchType (.cls cT)) := (Vm.Alike.refl S.vm).noted _ _ _
  obtain ⟨k1, hk1⟩ := hk
  obtain ⟨k2, hk2⟩ := hc
  obtain ⟨k1', hk1', -⟩ := hal.2.2 _ _ hk1
  obtain ⟨k2', hk2', -⟩ := hal.2.2 _ _ hk2
  have has : (S.vm.noted f.method.cls x.catchType (.cls cT)).assignable cell.cls cT = S.vm.assignable cell.cls cT := by rw [hal.assignable]
  cases hq : S.vm.assignable cell.cls cT with
  | true =>
    rw [hq] at has
    simp [findHandler.go, hx, h0, ha, ht, hcell, hobj, hk1', hk2', has, VmOp.dirties, VmOp.acts]
  | false =>
    rw [hq] at has
    simp [findHandler.go, hx, h0, ha, ht, hcell, hobj, hk1', hk2', has, VmOp.dirties, VmOp.acts]
theorem oxFinds {e : Env} {s₀ S : State} {f : JFrame} {a : Addr} {meth : Method} {code : Code} {cell : Cell} (hm : S.vm.method? f.method = some meth) (hc : meth.code = some code)
    (hW : s₀.WarmedH S.vm) (hcell : S.heap[a]? = some cell) (hobj : ∀ k, cell.vm ≠ .statics k) (hk0 : ∃ k, s₀.vm.classes[cell.cls]? = some k)
    (pre : List ExceptionTableEntry) (x : ExceptionTableEntry) (rest : List ExceptionTableEntry) (hsplit : code.exceptionTable.toList = pre ++ x :: rest)
    (hpass : ∀ y ∈ pre, covers y f.pc = false ∨ (y.catchType ≠ 0 ∧ ∃ c, s₀.vm.ClassLinks e.platform f.method.cls y.catchType c ∧ s₀.vm.assignable cell.cls c = false)) (hx : covers x f.pc = true) (h0 : x.catchType ≠ 0)
    {cT : ClassId} (hl : s₀.vm.ClassLinks e.platform f.method.cls x.catchType cT) (hfit : s₀.vm.assignable cell.cls cT = true) :
    ∃ vm', s₀.WarmedH vm' ∧ oxF e S f a x.handlerPc vm' := by
  obtain ⟨k0, hk0⟩ := hk0
  have key : ∀ (ps : List ExceptionTableEntry) (S : State), s₀.WarmedH S.vm → S.heap[a]? = some cell → (∀ y ∈ ps, covers y f.pc = false ∨ (y.catchType ≠ 0 ∧ ∃ c, s₀.vm.ClassLinks e.platform f.method.cls y.catchType c ∧ s₀.vm.assignable cell.cls c = false)) →
      ∃ vm', s₀.WarmedH vm' ∧ ∀ (Q : Handler → Pre) (E : CtlPost) (d : Bool) (acts : List Action), Jvm.Sem.wp (findHandler.go f a (ps ++ x :: rest)) Q E e d acts S ↔ Q (.found x.handlerPc) d acts (S.setVm vm') := by
    intro ps
    induction ps with
    | nil =>
      intro S hW hcell _
      obtain ⟨k0', hk0', -⟩ := hW.alike.2.2 _ _ hk0
      obtain ⟨dk, _, _, kt, hd, _, _, _, _, hkt, _, hopen⟩ := hl.here
      obtain ⟨kt', hkt', -⟩ := hW.alike.2.2 _ _ hkt
      refine ⟨_, hW.noted hd hopen (State.rightAt_cls hl), fun Q E d acts => ?_⟩
      rw [List.nil_append, oxGo hx h0 (hW.classLinks hl) hcell hobj ⟨k0', hk0'⟩ ⟨kt', hkt'⟩, if_pos (by rw [hW.alike.assignable]; exact hfit)]
    | cons y ys ih =>
      intro S hW hcell hp
      obtain ⟨k0', hk0', -⟩ := hW.alike.2.2 _ _ hk0
      have hp' : ∀ z ∈ ys, covers z f.pc = false ∨ (z.catchType ≠ 0 ∧ ∃ c, s₀.vm.ClassLinks e.platform f.method.cls z.catchType c ∧ s₀.vm.assignable cell.cls c = false) := fun z hz => hp z (List.mem_cons_of_mem _ hz)
      cases hcov : covers y f.pc with
      | false =>
        obtain ⟨vm', hW', hq⟩ := ih S hW hcell hp'
        exact ⟨vm', hW', fun Q E d acts => by rw [List.cons_append, Jvm.W.findHandler_go_skip hcov]; exact hq Q E d acts⟩
      | true =>
        rcases hp y List.mem_cons_self with h | ⟨hy0, cY, hlY, hno⟩
        · rw [h] at hcov; cases hcov
        · obtain ⟨dk, _, _, kt, hd, _, _, _, _, hkt, _, hopen⟩ := hlY.here
          obtain ⟨kt', hkt', -⟩ := hW.alike.2.2 _ _ hkt
          obtain ⟨vm', hW', hq⟩ := ih (S.setVm (S.vm.noted f.method.cls y.catchType (.cls cY))) (hW.noted hd hopen (State.rightAt_cls hlY)) hcell hp'
          refine ⟨vm', hW', fun Q E d acts => ?_⟩
          rw [List.cons_append, oxGo hcov hy0 (hW.classLinks hlY) hcell hobj ⟨k0', hk0'⟩ ⟨kt', hkt'⟩, if_neg (by rw [hW.alike.assignable, hno]; decide)]
          exact hq Q E d acts
  obtain ⟨vm', hW', hq⟩ := key pre S hW hcell hpass
  exact ⟨vm', hW', fun Q E d acts => by rw [Jvm.W.findHandler_eq hm hc, hsplit]; exact hq Q E d acts⟩
theorem oxCaught {tb : Tables} {e : Env} {T target : State} {g : JFrame} {c : Code} {below : List Frame} {a : Addr} (h : At T g.method c below) {pc : Nat} {vm' : Vm}
    (hf : oxF e ((T.setTop g).pushFrame (.throwing a)) g a pc vm') (hrest : Steps tb e below ((T.setVm vm').setTop { g with pc := pc, stack := [.ref a] }) target) :
    Steps tb e below ((T.setTop g).pushFrame (.throwing a)) target := by
  obtain ⟨hgo, hw⟩ := h.throwing a
  have hstep : (stepThrowing e ((T.setTop g).pushFrame (.throwing a)) a (.java g :: T.frames.tail)).Is ((((T.setTop g).pushFrame (.throwing a)).setVm vm').setFrames (.java { g with pc := pc, stack := [.ref a] } :: T.frames.tail)) [] := by
    simp only [stepThrowing, searchFrame, vmDo]
    generalize hr : Sem.go _ e false [] ((T.setTop g).pushFrame (.throwing a)) = res
    obtain ⟨as, rfl, ha⟩ := Sem.eq_ok_of hr (a := Handler.found pc) (s' := ((T.setTop g).pushFrame (.throwing a)).setVm vm') (acts' := []) (by simp [hf _ _ _ _])
    exact ⟨rfl, ha⟩
  refine Steps.head hgo hw ?_
  rw [stepThread_throwing (frames_entered h.top _), hstep.1]
  obtain ⟨g₀, hg⟩ := Option.isSome_iff_exists.mp h.top
  obtain ⟨r, hr⟩ := State.topJava?_eq_some.mp hg
  have hr' : (T.setVm vm').frames = .java g₀ :: r := hr
  have hsv : ∀ (u : State) (F G : List Frame), ((u.setFrames F).setVm vm').setFrames G = (u.setVm vm').setFrames G := fun u F G => by
    have h1 : (u.setFrames F).setVm vm' = (u.setVm vm').setFrames F := rfl
    rw [h1, State.setFrames_setFrames]
  rw [State.setTop_of_frames _ hr'] at hrest
  rw [hr, List.tail_cons, State.pushFrame, hsv, State.setTop_of_frames _ hr, hsv]
  exact hrest
end
section
-- ===== calls =====
def AR (B n sz : Nat) : Nat → Prop := fun q => (B ≤ q ∧ q < B + n) ∨ sz ≤ q
theorem wsO_key {B : Nat} {ca : CA} {w : NW} {k : Nat} {q : Nat × va_E} (h : (wsO B ca w)[k]? = some q) : k < w.1 ∧ q.1 = B + k := by
  have hl : k < (wsO B ca w).length := (List.getElem?_eq_some_iff.mp h).1
  have hl2 : k < w.1 := by simpa [wsO] using hl
  refine ⟨hl2, ?_⟩
  simp [wsO, List.getElem?_map, List.getElem?_range hl2] at h
  rw [← h]
theorem wsO_D {B : Nat} {ca : CA} {w : NW} {A : Nat → Prop} (h : va_D A (wsO B ca w)) {q : Nat} (h1 : B ≤ q) (h2 : q < B + w.1) : A q := by
  have hk : q - B < w.1 := by omega
  have h3 : (wsO B ca w)[q - B]? = some (B + (q - B), en B ca w (ky (q - B)).1 (ky (q - B)).2) := by
    simp [wsO, List.getElem?_map, List.getElem?_range hk]
  have h4 := h.2 _ _ h3
  rw [show B + (q - B) = q by omega] at h4
  exact h4
theorem wsO_DR {B : Nat} {ca : CA} {w : NW} {A : Nat → Prop} {sz : Nat} (h : va_D A (wsO B ca w)) : va_D (AR B w.1 sz) (wsO B ca w) := by
  refine ⟨h.1, fun k q hk => ?_⟩
  obtain ⟨h1, h2⟩ := wsO_key hk
  exact Or.inl ⟨by omega, by omega⟩
theorem AR_sub {B : Nat} {D : va_G} {ca : CA} {A : Nat → Prop} {H0 H : Heap} {cells : Nat} {w : NW} {locs : List Loc} (hw : Wd B D ca A H0 cells w H locs) (hA : ∀ q, H0.size ≤ q → A q) : ∀ q, AR B w.1 H.size q → A q := by
  intro q h
  rcases h with ⟨h1, h2⟩ | h
  · exact wsO_D hw.2.1 h1 h2
  · exact hA q (Nat.le_trans hw.2.2.1.1 h)
theorem stR.warm {s U : State} (hW : s.WarmedH U.vm) (h : stR s) : stR U :=
  ⟨fun q hq => by obtain ⟨a, ha⟩ := h.1 q hq; exact ⟨a, vk_R.warm hW ha⟩, fun q hq => (h.2.1 q hq).moved hW.alike, fun q hq => va_Nw.warmM hW (h.2.2.1 q hq), h.2.2.2.1.moved hW.alike, fun n hn => (h.2.2.2.2.1 n hn).moved hW.alike, fun n hn => va_Nw.warmD hW (h.2.2.2.2.2 n hn)⟩
theorem stR.same {s U : State} (hv : s.vm = U.vm) (h : stR s) : stR U :=
  ⟨fun q hq => by obtain ⟨a, ha⟩ := h.1 q hq; exact ⟨a, vk_R.same hv.symm ha⟩, fun q hq => (h.2.1 q hq).moved (by rw [hv]; exact Vm.Alike.refl _), fun q hq => va_Nw.same rfl hv (h.2.2.1 q hq), h.2.2.2.1.moved (by rw [hv]; exact Vm.Alike.refl _), fun n hn => (h.2.2.2.2.1 n hn).moved (by rw [hv]; exact Vm.Alike.refl _), fun n hn => va_Nw.same rfl hv (h.2.2.2.2.2 n hn)⟩
theorem stX.moved {A : Nat → Prop} {u U : State} {H : Heap} (hvm : u.vm.Alike U.vm) (h : stX A u H) : stX A U H := ⟨h.1.moved hvm, h.2.moved hvm⟩
theorem stX.kept {A : Nat → Prop} {U : State} {H H1 : Heap} (h : stX A U H) (hq : ∀ a : Nat, a < H.size → ¬ A a → H1[a]? = H[a]?) : stX A U H1 := ⟨h.1.kept hq, h.2.kept hq⟩
theorem stX.narrow {A A' : Nat → Prop} {U : State} {H : Heap} (h : stX A U H) (hAB : ∀ q, A' q → A q) : stX A' U H := ⟨h.1.narrow hAB, h.2.narrow hAB⟩
def PcB (B : Nat) (D : va_G) (ca : CA) (w : NW) (sz : Nat) (U : State) : Prop := U.heap.size = sz ∧ va_P D vwCl (wsO B ca w) U.heap ∧ va_K D vwCl (tyT ca) U ∧ va_D (fun _ => True) (wsO B ca w) ∧ stX (AR B w.1 sz) U U.heap ∧ stR U ∧ (w.2.1 = true → sz = B + w.1) ∧ w.1 ≤ NN
def PcM (B : Nat) (D : va_G) (ca : CA) (as : List AV) (w : NW) (sz : Nat) : Array Value → State → Prop := va_Pc (gs B as) (PcB B D ca w sz)
theorem PcM.blind {B : Nat} {D : va_G} {ca : CA} {as : List AV} {w : NW} {sz : Nat} : FrameBlind (PcM B D ca as w sz) := by
  intro a U g mk h
  obtain ⟨h0, h1, h2, h3, h4, h5, h6, h7⟩ := h
  exact ⟨h0, h1, h2, va_K.moved (u := U) (U := U.calling g mk a) (Vm.Alike.refl U.vm) h3, h4, stX.moved (u := U) (U := U.calling g mk a) (Vm.Alike.refl U.vm) h5, stR.same (s := U) (U := U.calling g mk a) rfl h6, h7⟩
def aArgs : Nat → List AV → List (Nat × AV)
  | _, [] => []
  | i, v :: vs => (i, v) :: aArgs (if ct1 v = 2 then i + 2 else i + 1) vs
theorem aArgs_gl (B : Nat) : ∀ (as : List AV) (i : Nat), gl B (aArgs i as) = lv_args i (gs B as) := by
  intro as
  induction as with
  | nil => intro i; rfl
  | cons v vs ih =>
    intro i
    show (i, gv B v) :: gl B (aArgs (if ct1 v = 2 then i + 2 else i + 1) vs) = (i, gv B v) :: lv_args (if (gv B v).category = 2 then i + 2 else i + 1) (gs B vs)
    rw [ih, ct1_gv]
theorem lg_sl_len (B : Nat) : ∀ as : List AV, (∀ v ∈ as, ct1 v = 1 ∨ ct1 v = 2) → (lg_sl (gs B as)).length = (as.map ct1).sum := by
  intro as
  induction as with
  | nil => intro _; rfl
  | cons v vs ih =>
    intro h
    have h1 := ih (fun u hu => h u (List.mem_cons_of_mem _ hu))
    show (lg_sl (gv B v :: gs B vs)).length = ct1 v + (vs.map ct1).sum
    rw [← h1]
    rcases h v List.mem_cons_self with hv | hv
    · simp [lg_sl, ct1_gv, hv]; omega
    · simp [lg_sl, ct1_gv, hv]; omega
theorem ct1_or (v : AV) : ct1 v = 1 ∨ ct1 v = 2 := by
  rcases v with v | k | n
  · exact lv_cat v
  · exact Or.inl rfl
  · exact Or.inl rfl
abbrev rmk (k : Nat) : Room := { frames := fr k, cells := mc k, slots := ms k, locals := lo k }
def wsM (k : Nat) : List Cond := .code (yn k) (cc k) (mL k) (rt k) :: AW_
def wsW (k : Nat) : List Cond := .codeWith (yn k) (cc k) (mL k) (rt k) (hh k) :: AW_
theorem nost {D : va_G} {cl : List vw_C} {q : Nat} {en9 : va_E} {H : Heap} {cell : Cell} (h : va_at D cl (q, en9) H) (hc : H[q]? = some cell) : cell.vm.isStatics = false := by
  cases en9 with
  | inl x =>
    have h1 : H[q]? = some (vp_cell x.1 x.2) := h
    cases Option.some.inj (hc.symm.trans h1)
    obtain ⟨a, n, f⟩ := x
    rcases f with f | f | f | f | f <;> rfl
  | inr o =>
    obtain ⟨r, h1, cell9, h2, h3, h4, -⟩ := h
    cases Option.some.inj (hc.symm.trans h2)
    rw [h4]; rfl
theorem Cx_of {sc : XT} {k : Nat} (hlaw : k ≠ LAW) {B : Nat} {D : va_G} {ca : CA} {p : Program} {l : Launch} {s : State} {m : MethodId} {args : Array Value} {meth : Method} {c : Code} {w : NW} {sz : Nat} (hv : PcB B D ca w sz s) (hx : p.tables.exec = Jvm.exec) (hb : c.code = cc k) (hml : c.maxLocals = mL k) (hr : meth.sig.returnType = rt k) (hlk : meth.locks = false) (hown : s.vm.findClass (own k) = some m.cls) (hts : ∀ w ∈ AW_, w.before args s = true) (hl : l.stackTraces = false) (ht : c.exceptionTable.toList = tableOf (hh k)) (hn : meth.name = nm k) :
    Cx sc k B D ca p l (rmk k) s m args meth c (AR B w.1 sz) := by
  obtain ⟨h1, h2, h3, h4, h5, h6, h7, h8⟩ := hv
  refine ⟨⟨hx, hb, hml, hr, hlk⟩, ⟨hown, hts, hl, Nat.le_refl _, Nat.le_refl _, Nat.le_refl _, Nat.le_refl _⟩, ⟨h3, fun q hq => Or.inr (by rw [← h1]; exact hq), ht, fun hi => ?_⟩, ⟨⟨h5, fun q cell hq hc => ?_⟩, h6, fun z => absurd z hlaw⟩⟩
  · rw [hn]
    exact ini_nm hi
  · rcases hq with ⟨q1, q2⟩ | hq
    · have hk : q - B < w.1 := by omega
      have h9 : (wsO B ca w)[q - B]? = some (B + (q - B), en B ca w (ky (q - B)).1 (ky (q - B)).2) := by
        simp [wsO, List.getElem?_map, List.getElem?_range hk]
      have h10 := h2 _ _ h9
      rw [show B + (q - B) = q by omega] at h10
      exact nost h10 hc
    · have := (Array.getElem?_eq_some_iff.mp hc).1
      omega
theorem Sem.met {sc : XT} {k : Nat} {as : List AV} {w : NW} {Q : QT} (hS : Sem sc k 0 (aArgs 0 as) [] w 0 0 Q) (hlaw : k ≠ LAW) (hpl : plainName (RN (mo k)) = true) (hnh : hh k = []) (hlen : (as.map ct1).sum ≤ mL k) {l : Launch} (hl : l.stackTraces = false) (B : Nat) (D : va_G) (ca : CA) (sz : Nat) :
    oxM l (yn k) (wsM k) (rmk k) (PcM B D ca as w sz) (Qo B D ca (AR B w.1 sz) (mc k) Q) (mc k) (ms k) (AR B w.1 sz) := by
  refine oxM.body (cc := cc k) (maxL := mL k) (ret := rt k) hpl rfl ?_
  intro p e s m args below meth c s₁ Bd hml ht hv
  obtain ⟨rfl, hv⟩ := hv
  have hts := atoms_spec (ws := wsM k) Bd.pre
  have hC : Cx sc k B D ca p l (rmk k) s m (gs B as).toArray meth c (AR B w.1 sz) := Cx_of hlaw hv Bd.exec Bd.bytes hml Bd.returns Bd.notSynchronized (findClass_of_methodNamed Bd.named) (fun w hw => hts w (List.mem_cons_of_mem _ hw)) hl (by rw [hnh, ht]; rfl) (name_of_methodNamed Bd.named Bd.method).1
  have hll := lv_entry (gs B as) (n := mL k) (by rw [lg_sl_len B as (fun v _ => ct1_or v)]; exact hlen)
  rw [lg_entry_eq]
  rw [← aArgs_gl] at hll
  exact hS B D ca p l e _ s m _ below meth c (AR B w.1 sz) hC s.heap [] _ hll ⟨hv.2.1, wsO_DR hv.2.2.2.1, va_S.rf, fun z => by rw [hv.1]; exact hv.2.2.2.2.2.2.1 z, hv.2.2.2.2.2.2.2⟩
theorem Sem.metW {sc : XT} {k : Nat} {as : List AV} {w : NW} {Q : QT} (hS : Sem sc k 0 (aArgs 0 as) [] w 0 0 Q) (hlaw : k ≠ LAW) (hpl : plainName (RN (mo k)) = true) (hlen : (as.map ct1).sum ≤ mL k) {l : Launch} (hl : l.stackTraces = false) (B : Nat) (D : va_G) (ca : CA) (sz : Nat) :
    oxM l (yn k) (wsW k) (rmk k) (PcM B D ca as w sz) (Qo B D ca (AR B w.1 sz) (mc k) Q) (mc k) (ms k) (AR B w.1 sz) := by
  refine oxM.bodyH (cc := cc k) (maxL := mL k) (ret := rt k) (hd := hh k) hpl rfl ?_
  intro p e s m args below meth c s₁ Bd hml ht hv
  obtain ⟨rfl, hv⟩ := hv
  have hts := atoms_spec (ws := wsW k) Bd.pre
  have hC : Cx sc k B D ca p l (rmk k) s m (gs B as).toArray meth c (AR B w.1 sz) := Cx_of hlaw hv Bd.exec Bd.bytes hml Bd.returns Bd.notSynchronized (findClass_of_methodNamed Bd.named) (fun w hw => hts w (List.mem_cons_of_mem _ hw)) hl ht (name_of_methodNamed Bd.named Bd.method).1
  have hll := lv_entry (gs B as) (n := mL k) (by rw [lg_sl_len B as (fun v _ => ct1_or v)]; exact hlen)
  rw [lg_entry_eq]
  rw [← aArgs_gl] at hll
  exact hS B D ca p l e _ s m _ below meth c (AR B w.1 sz) hC s.heap [] _ hll ⟨hv.2.1, wsO_DR hv.2.2.2.1, va_S.rf, fun z => by rw [hv.1]; exact hv.2.2.2.2.2.2.1 z, hv.2.2.2.2.2.2.2⟩
theorem Sem.metR {sc : XT} {k : Nat} {as : List AV} {w : NW} {Q : QT} (hS : Sem sc k 0 (aArgs 0 as) [] w 0 0 Q) (hno : ∀ E w', ¬ Q (.inr E) w') (hlaw : k ≠ LAW) (hpl : plainName (RN (mo k)) = true) (hnh : hh k = []) (hlen : (as.map ct1).sum ≤ mL k) {l : Launch} (hl : l.stackTraces = false) (B : Nat) (D : va_G) (ca : CA) (sz : Nat) :
    Met l (yn k) (wsM k) (rmk k) (PcM B D ca as w sz) (fun _ st o t => Qo B D ca (AR B w.1 sz) (mc k) Q st o t) (mc k) (ms k) (AR B w.1 sz) := by
  refine Met.ofW (cc := cc k) (maxL := mL k) (ret := rt k) hpl rfl ?_
  intro p e s m args below meth c s₁ Bd hml hv
  obtain ⟨rfl, hv⟩ := hv
  have hts := atoms_spec (ws := wsM k) Bd.pre
  have hno9 : c.exceptionTable.isEmpty = true := Bd.noHandlers (hts _ List.mem_cons_self)
  have hC : Cx sc k B D ca p l (rmk k) s m (gs B as).toArray meth c (AR B w.1 sz) := Cx_of hlaw hv Bd.exec Bd.bytes hml Bd.returns Bd.notSynchronized (findClass_of_methodNamed Bd.named) (fun w hw => hts w (List.mem_cons_of_mem _ hw)) hl (by
    rw [hnh, Array.isEmpty_iff.mp hno9]; rfl) (name_of_methodNamed Bd.named Bd.method).1
  have hll := lv_entry (gs B as) (n := mL k) (by rw [lg_sl_len B as (fun v _ => ct1_or v)]; exact hlen)
  rw [lg_entry_eq]
  rw [← aArgs_gl] at hll
  refine Wmono ?_ (hS B D ca p l e _ s m _ below meth c (AR B w.1 sz) hC s.heap [] _ hll ⟨hv.2.1, wsO_DR hv.2.2.2.1, va_S.rf, fun z => by rw [hv.1]; exact hv.2.2.2.2.2.2.1 z, hv.2.2.2.2.2.2.2⟩)
  rintro t ⟨o, h1, h2, h3, h4, L, h5, h6⟩
  cases o with
  | returned v => exact ⟨.returned v, h1, h2, h3, L, ⟨⟨v, rfl⟩, h4, h5⟩, h6⟩
  | threw q =>
    obtain ⟨E, w', ce, -, h7, -⟩ := h3
    exact (hno E w' h7).elim
/-- a call, as the caller sees it -/
def oxRun (p : Program) (l : Launch) (e : Env) (R : Room) (s : State) (m : MethodId) (args : Array Value) (below : List Frame) (meth : Method) (c : Code) (H : Heap) (locs : List Loc) (cells slots n z : Nat) (g : JFrame) (rest : List Value) (Qe : State → Outcome → State → Prop) (free : Addr → Prop) : Prop :=
  ∀ T : State, T.heap = H → Stand p l e R s m args below meth c T locs cells slots → ∃ (o : Outcome) (st₀ t T' : State) (L : List Loc), st₀.heap = H ∧ ((∃ q, o = .threw q) → s.WarmedH st₀.vm) ∧ Stand p l e R s m args below meth c T' (locs ++ L) (cells + n) (slots + z) ∧ (∀ q ∈ L, free q.base) ∧ T'.heap = t.heap ∧ T'.vm = t.vm ∧ Qe st₀ o t ∧
    oxAfter p e below (T.setTop g) T' g 3 rest o
theorem oxAfter.pre {p : Program} {e : Env} {below : List Frame} {S S' T' : State} {g : JFrame} {len : Nat} {rest : List Value} {o : Outcome} (h : oxAfter p e below S T' g len rest o) (hs : ∀ target, Steps p.tables e below S target → Steps p.tables e below S' target) : oxAfter p e below S' T' g len rest o := by
  cases o with
  | returned v => exact hs _ h
  | threw q => exact hs _ h
section Runs
variable {p : Program} {l : Launch} {e : Env} {R : Room} {s : State} {m : MethodId} {args : Array Value} {below : List Frame} {meth : Method} {c : Code} {H : Heap} {locs : List Loc} {cells slots : Nat} {y : MethodName} {ws : List Cond} {rm : Room} {Pc : Array Value → State → Prop} {Qe : State → Outcome → State → Prop} {mc ms maxL : Nat} {free : Addr → Prop} {own : String} {index : Nat} {g : JFrame} {As rest : List Value}
theorem oxRunS (hM : oxM l y ws rm Pc Qe mc ms free) (hblind : FrameBlind Pc) (hx : p.tables.exec = Jvm.exec) (hown : s.vm.findClass own = some m.cls) (hws : ∀ w ∈ ws, ∀ (a' : Array Value) (U : State), s.WarmedH U.vm → w.before a' U = true)
    (hlk : (Cond.methodLink own index y).before args s = true) (hst : (Cond.static y).before args s = true) (hini : ∀ (a' : Array Value) (U : State), s.WarmedH U.vm → (Cond.initialized y.cls).before a' U = true) (hy : y.cls ≠ "java/lang/invoke/MethodHandle" ∧ y.cls ≠ "java/lang/invoke/VarHandle")
    (hco : ∀ (a' : Array Value) (U : State), s.WarmedH U.vm → ∃ (mk : MethodId) (mY : Method) (cY : Code), U.methodNamed? y = some mk ∧ U.vm.method? mk = some mY ∧ mY.code = some cY ∧ cY.maxLocals = maxL ∧ parseMethodDescriptor y.desc = some mY.sig)
    (hlen : ∀ sig, parseMethodDescriptor y.desc = some sig → As.length = sig.parameters.length) (hrc : rm.cells = mc) (hrs : rm.slots = ms) (hfr : rm.frames + 1 ≤ R.frames) (hlo : 8 + (maxL + 11) + rm.locals ≤ R.locals) (hcs : cells + mc ≤ R.cells) (hss : slots + ms ≤ R.slots)
    (hg : g.method = m) (hsize : g.locals.size = c.maxLocals) (hstack : g.stack = As.reverse ++ rest) (hW : 2 * g.monitorRoom + (rest.map fun v => v.category).sum ≤ 8) (hdg : decode c.code g.pc = .ok (.invokestatic index, 3)) (hPc : ∀ U : State, U.heap = H → s.WarmedH U.vm → Pc As.toArray U) :
    oxRun p l e R s m args below meth c H locs cells slots mc ms g rest Qe free := by
  intro T hT X
  obtain ⟨mk, mY, cY, hnamed, hmY, hcY, hlY, hsig⟩ := hco args s (State.WarmedH.refl s)
  have hstat : mY.isStatic = true := Cond.static_spec hnamed hmY hst
  obtain ⟨kP, hkP, -⟩ := className_of_methodNamed hnamed
  have hinP : kP.init = .initialized := Cond.initialized_spec (findClass_of_methodNamed hnamed) hkP (hini args s (State.WarmedH.refl s))
  obtain ⟨vm₁, X₁, hstep⟩ := X.invokestatic hx hown hlk hnamed hmY hstat hkP hinP hy (g := g) hg (argsL := As) (rest := rest) (hlen _ hsig) hstack hdg
  obtain ⟨mk', mY', cY', hnamed', hmY', hcY', hlY', -⟩ := hco As.toArray (T.setVm vm₁) X₁.warmed
  cases Option.some.inj (hnamed'.symm.trans (X₁.named hnamed))
  obtain ⟨o, t, T', L, X', hL, e1, e2, hq, haft⟩ := oxCore hM X₁ (maxL := maxL) hrc hrs hfr hlo hcs hss (g := { g with stack := rest }) hg hsize hdg hW hnamed' hmY' hcY' hlY' (fun w hw => hws w hw _ _ X₁.warmed) (hini _ _ X₁.warmed) (hblind _ _ _ _ (hPc _ hT X₁.warmed))
  refine ⟨o, _, t, T', L, ?_, ?_, X', hL, e1, e2, hq, haft.pre (fun target h => hstep _ fun acts => by rw [doInvoke_state]; exact h)⟩
  · exact hT
  · exact fun _ => X₁.warmed
theorem oxRunV (hM : oxM l y ws rm Pc Qe mc ms free) (hblind : FrameBlind Pc) (hx : p.tables.exec = Jvm.exec) (hown : s.vm.findClass own = some m.cls) (hws : ∀ w ∈ ws, ∀ (a' : Array Value) (U : State), s.WarmedH U.vm → w.before a' U = true)
    (hlk : (Cond.methodLink own index y).before args s = true) (him : (Cond.instanceMethod y).before args s = true) {C : String} (hse : (Cond.selects C y y).before args s = true) (hini : ∀ (a' : Array Value) (U : State), s.WarmedH U.vm → (Cond.initialized y.cls).before a' U = true) (hy : y.cls ≠ "java/lang/invoke/MethodHandle" ∧ y.cls ≠ "java/lang/invoke/VarHandle")
    (hco : ∀ (a' : Array Value) (U : State), s.WarmedH U.vm → ∃ (mk : MethodId) (mY : Method) (cY : Code), U.methodNamed? y = some mk ∧ U.vm.method? mk = some mY ∧ mY.code = some cY ∧ cY.maxLocals = maxL ∧ parseMethodDescriptor y.desc = some mY.sig)
    {b : Addr} {cellB : Cell} (hcell : H[b]? = some cellB) (hobj : cellB.vm.isStatics = false) (hcls : s.vm.findClass C = some cellB.cls)
    (hlen : ∀ sig, parseMethodDescriptor y.desc = some sig → As.length = sig.parameters.length) (hrc : rm.cells = mc) (hrs : rm.slots = ms) (hfr : rm.frames + 1 ≤ R.frames) (hlo : 8 + (maxL + 11) + rm.locals ≤ R.locals) (hcs : cells + mc ≤ R.cells) (hss : slots + ms ≤ R.slots)
    (hg : g.method = m) (hsize : g.locals.size = c.maxLocals) (hstack : g.stack = As.reverse ++ .ref b :: rest) (hW : 2 * g.monitorRoom + (rest.map fun v => v.category).sum ≤ 8) (hdg : decode c.code g.pc = .ok (.invokevirtual index, 3)) (hPc : ∀ U : State, U.heap = H → s.WarmedH U.vm → Pc (Value.ref b :: As).toArray U) :
    oxRun p l e R s m args below meth c H locs cells slots mc ms g rest Qe free := by
  intro T hT X
  obtain ⟨mk, mY, hnamed, hmY, hstM, habM⟩ := Cond.instanceMethod_spec him
  obtain ⟨mk2, mY2, cY, hn2, hmY2, hcY, hlY, hsig⟩ := hco args s (State.WarmedH.refl s)
  cases Option.some.inj (hn2.symm.trans hnamed)
  cases Option.some.inj (hmY2.symm.trans hmY)
  obtain ⟨c2, r2, m2, q1, q2, q3, q4, kP, hkP, hkPi⟩ := Cond.selects_spec hse
  cases hcls.symm.trans q1
  cases (State.methodFound?_of_named hnamed hy).symm.trans q2
  cases hnamed.symm.trans q3
  have hselP : selectMethod e.platform s.vm cellB.cls mk = .method mk := by rw [Launch.admits_selectMethod X.admits]; exact q4
  obtain ⟨vm₁, X₁, hstep⟩ := X.invokevirtual hx hown hlk hnamed hmY hstM hkP hkPi hy (a := b) (cell := cellB) (by rw [hT]; exact hcell)
    (fun z h => by rw [h] at hobj; cases hobj) hselP hmY habM hkP hkPi (g := g) hg (argsL := As) (rest := rest) (hlen _ hsig) hstack hdg
  obtain ⟨mk', mY', cY', hnamed', hmY', hcY', hlY', -⟩ := hco (Value.ref b :: As).toArray (T.setVm vm₁) X₁.warmed
  cases Option.some.inj (hnamed'.symm.trans (X₁.named hnamed))
  obtain ⟨o, t, T', L, X', hL, e1, e2, hq, haft⟩ := oxCore hM X₁ (maxL := maxL) hrc hrs hfr hlo hcs hss (g := { g with stack := rest }) hg hsize hdg hW hnamed' hmY' hcY' hlY' (fun w hw => hws w hw _ _ X₁.warmed) (hini _ _ X₁.warmed) (hblind _ _ _ _ (hPc _ hT X₁.warmed))
  refine ⟨o, _, t, T', L, ?_, ?_, X', hL, e1, e2, hq, haft.pre (fun target h => hstep _ fun acts => by rw [doInvoke_state]; exact h)⟩
  · exact hT
  · exact fun _ => X₁.warmed
end Runs
section Calls
variable {sc : XT} {k : Nat} {lv : List (Nat × AV)} {w : NW} {cells slots : Nat} {Q : QT}
/-- behind a call that returns or throws -/
theorem go_run {B : Nat} {D : va_G} {ca : CA} {p : Program} {l : Launch} {e : Env} {R : Room} {s : State} {m : MethodId} {args : Array Value} {below : List Frame} {meth : Method} {c : Code} {A : Nat → Prop} {H : Heap} {locs : List Loc} {ls : Array Slot} {pc n z : Nat} {st0 : List Value} {rst : List AV} {Qs : State → Prop} {Q' : QT}
    (hA : ∀ q, s.heap.size ≤ q → A q) (hw : Wd B D ca A s.heap cells w H locs) (hfz : ∀ v w', Q' (.inl v) w' → w'.2.1 = true → H.size = s.heap.size + cells) (hfx : ∀ E w', Q' (.inr E) w' → w'.2.1 = false)
    (hr : oxRun p l e R s m args below meth c H locs cells slots n z (F0 m pc ls st0) (gs B rst) (Qo B D ca (AR B w.1 H.size) n Q') (AR B w.1 H.size))
    (kk : ∀ (v : Option AV) (w' : NW) (H1 : Heap) (locs1 : List Loc), Q' (.inl v) w' → Wd B D ca A s.heap (cells + n) w' H1 locs1 → W p l e R s m args below meth c H1 locs1 (cells + n) (slots + z) Qs (F0 m (pc + 3) ls (gs B (v.toList ++ rst))))
    (kx : ∀ (E : String) (w' : NW) (H1 : Heap) (locs1 : List Loc) (q : Addr) (ce : Cell), Q' (.inr E) w' → Wd B D ca A s.heap (cells + n) w' H1 locs1 → H1[q]? = some ce → ce.vm = .none → s.vm.findClass E = some ce.cls → oxW p l e R s m args below meth c H1 locs1 (cells + n) (slots + z) Qs (F0 m pc ls (gs B rst)) q) :
    W p l e R s m args below meth c H locs cells slots Qs (F0 m pc ls st0) := by
  intro T hT X
  have hsub := AR_sub hw hA
  obtain ⟨o, st₀, t, T', L, h0, hW0, X', hL, e1, e2, hq, haft⟩ := hr T hT X
  have key : ∀ w' : NW, Bd B D ca (AR B w.1 H.size) n w' st₀ t → va_F (AR B w.1 H.size) st₀ t → (w'.2.1 = true → H.size = s.heap.size + cells) → Wd B D ca A s.heap (cells + n) w' T'.heap (locs ++ L) := by
    rintro w' ⟨b1, b2, b3, b4⟩ ⟨f1, f2⟩ hz
    rw [h0] at f1 f2 b3
    refine ⟨by rw [e1]; exact b1, b2.weaken (fun k q hk h => hsub _ h), ⟨?_, ?_, ?_⟩, fun z => ?_, b4⟩
    · rw [e1]; exact Nat.le_trans hw.2.2.1.1 f1
    · intro q h1 h2
      rw [e1, f2 q (Nat.lt_of_lt_of_le h1 hw.2.2.1.1) (fun z => h2 (hsub q z))]
      exact hw.2.2.1.2.1 q h1 h2
    · intro q h
      rcases List.mem_append.mp h with h | h
      · exact hw.2.2.1.2.2 q h
      · exact hsub _ (hL q h)
    · have h8 := b3 z
      have h9 := hz z
      omega
  cases o with
  | returned v =>
    obtain ⟨v0, w', rfl, h1, h2, h3⟩ := hq
    obtain ⟨t2, a1, b5⟩ := kk v0 w' T'.heap (locs ++ L) h1 (key w' h2 h3 (hfz v0 w' h1)) T' rfl X'
    refine ⟨t2, Steps.trans haft ?_, b5⟩
    have e9 : (v0.map (gv B)).toList ++ gs B rst = gs B (v0.toList ++ rst) := by cases v0 <;> rfl
    show Steps p.tables e below (T'.setTop { F0 m pc ls st0 with pc := pc + 3, stack := (v0.map (gv B)).toList ++ gs B rst }) t2
    rw [e9]
    exact a1
  | threw q =>
    obtain ⟨E, w', ce, ⟨c1, c2, c3⟩, h1, h2, h3⟩ := hq
    obtain ⟨t2, a1, b5⟩ := kx E w' T'.heap (locs ++ L) q ce h1 (key w' h2 h3 (fun z => by rw [hfx E w' h1] at z; cases z)) (by rw [e1]; exact c1) c2 (by rw [← (hW0 ⟨q, rfl⟩).alike.findClass]; exact c3) T' rfl X'
    exact ⟨t2, Steps.trans haft a1, b5⟩
theorem PcB_of {B : Nat} {D : va_G} {ca : CA} {A : Nat → Prop} {s U : State} {H : Heap} {locs : List Loc} (hw : Wd B D ca A s.heap cells w H locs) (hA : ∀ q, s.heap.size ≤ q → A q) (hK : va_K D vwCl (tyT ca) s) (hX : stX A s s.heap) (hR : stR s) (hz : w.2.1 = true → H.size = B + w.1) (hU : U.heap = H) (hW : s.WarmedH U.vm) : PcB B D ca w H.size U :=
  ⟨by rw [hU], by rw [hU]; exact hw.1, va_K.moved hW.alike hK, hw.2.1.weaken (fun _ _ _ _ => trivial), by rw [hU]; exact ((hX.kept hw.2.2.1.2.1).moved hW.alike).narrow (AR_sub hw hA), stR.warm hW hR, hz, hw.2.2.2.2⟩
theorem co_of {k : Nat} {s : State} {args : Array Value} (hts : ∀ w ∈ AW_, w.before args s = true) (h : Cond.code (yn k) (cc k) (mL k) (rt k) ∈ AW_ ∨ Cond.codeWith (yn k) (cc k) (mL k) (rt k) (hh k) ∈ AW_) : ∀ (a' : Array Value) (U : State), s.WarmedH U.vm → ∃ (mk : MethodId) (mY : Method) (cY : Code), U.methodNamed? (yn k) = some mk ∧ U.vm.method? mk = some mY ∧ mY.code = some cY ∧ cY.maxLocals = mL k ∧ parseMethodDescriptor (yn k).desc = some mY.sig := by
  intro a' U hW
  rcases h with h | h
  · have h1 := pay_in hts gAW _ h a' U hW
    obtain ⟨mk, hn⟩ := Cond.named_of_code h1
    obtain ⟨mY, cY, h2, h3, -, h4, -, -, -, h5⟩ := Cond.code_spec hn h1
    exact ⟨mk, mY, cY, hn, h2, h3, h4, h5⟩
  · have h1 := pay_in hts gAW _ h a' U hW
    obtain ⟨mk, mY, cY, hn, h2, h3, -, h4, -, -, -, h5⟩ := Cond.codeWith_spec h1
    exact ⟨mk, mY, cY, hn, h2, h3, h4, h5⟩
def MK (k : Nat) : Prop := Cond.initialized (RN (mo k)) ∈ AW_ ∧ plainName (RN (mo k)) = true ∧ (RN (mo k) ≠ "java/lang/invoke/MethodHandle" ∧ RN (mo k) ≠ "java/lang/invoke/VarHandle") ∧ (parseMethodDescriptor (ds k)).map (fun d => d.parameters.length) = some (np k) ∧ k ≠ LAW ∧ ((hh k = [] ∧ Cond.code (yn k) (cc k) (mL k) (rt k) ∈ AW_) ∨ Cond.codeWith (yn k) (cc k) (mL k) (rt k) (hh k) ∈ AW_)
theorem gsub {ws : List Cond} (h : ∀ w ∈ ws, w ∈ AW_) : GoodIn AW_ ws := fun w hw => gAW w (h w hw)
theorem gs_len (B : Nat) (as : List AV) : (gs B as).length = as.length := by simp [gs]
theorem gs_cat (B : Nat) (as : List AV) : ((gs B as).map fun v => v.category).sum = (as.map ct1).sum := by
  induction as with
  | nil => rfl
  | cons v vs ih =>
    show (((gv B v).category :: (gs B vs).map fun v => v.category).sum) = (ct1 v :: vs.map ct1).sum
    rw [List.sum_cons, List.sum_cons, ct1_gv, ih]
/-- a virtual call -/
theorem Sem.callV {pc idx k' t i : Nat} {as rst : List AV} {Q' : QT} (hd : decode (cc k) pc = .ok (.invokevirtual idx, 3)) (hM : MK k') (hnh : hh k' = []) (hco : Cond.code (yn k') (cc k') (mL k') (rt k') ∈ AW_)
    (hlk : Cond.methodLink (RN (mo k)) idx (yn k') ∈ AW_) (him : Cond.instanceMethod (yn k') ∈ AW_) (hse : Cond.selects (RN (mo k')) (yn k') (yn k') ∈ AW_) (hkt : kd t = (3, mo k')) (hv : vld w.1 t i) (hfz : w.2.1 = false) (hq1 : ∀ v w', Q' (.inl v) w' → w'.2.1 = false) (hq2 : ∀ E w', Q' (.inr E) w' → w'.2.1 = false)
    (hlen : ((aR t i :: as).map ct1).sum ≤ mL k') (hn : as.length = np k') (hrs : (rst.map ct1).sum ≤ 8) (hfr : fr k' + 1 ≤ fr k) (hlo : 8 + (mL k' + 11) + lo k' ≤ lo k) (hc : cells + mc k' ≤ mc k) (hs : slots + ms k' ≤ ms k)
    (hS : Sem sc k' 0 (aArgs 0 (aR t i :: as)) [] w 0 0 Q')
    (kk : ∀ v w', Q' (.inl v) w' → Sem sc k (pc + 3) lv (v.toList ++ rst) w' (cells + mc k') (slots + ms k') Q) (kx : ∀ E w', Q' (.inr E) w' → SemX sc k pc lv E w' (cells + mc k') (slots + ms k') Q) :
    Sem sc k pc lv (as.reverse ++ aR t i :: rst) w cells slots Q := by
  intro B D ca p l e R s m args below meth c A C H locs ls hl hw
  obtain ⟨⟨hx, hb, hmx, hrt, hlks⟩, ⟨hown, hts, hst, r1, r2, r3, r4⟩, ⟨hK, hA, het, hin⟩, ⟨hX, hR, hlaw⟩⟩ := id C
  obtain ⟨m1, m2, m3, m4, m5, -⟩ := hM
  obtain ⟨C9, T9, ty9, c1, -⟩ := ck_ok hkt
  have hC9 : C9 = RN (mo k') := vwCl_name c1
  have he := wsO_at (B := B) (ca := ca) (w := w) hv
  rw [en_obj hkt] at he
  have hg0 : GoodIn AW_ (wsM k') := gsub (fun w9 h9 => by
    rcases List.mem_cons.mp h9 with rfl | h9
    · exact hco
    · exact h9)
  have hrecv := va_recv (cl := vwCl) hK hw.1 c1 he
  rw [hC9] at hrecv
  obtain ⟨cellB, hr1, hr2, hr3⟩ := hrecv
  refine go_run (Q' := Q') hA hw (fun v w' h z => by rw [hq1 v w' h] at z; cases z) hq2 (oxRunV (As := gs B as) (rest := gs B rst) (hS.met m5 m2 hnh hlen hst B D ca H.size) PcM.blind hx hown (pay_in hts hg0) (hts _ hlk) (hts _ him) (hts _ hse) (fun a' U hW => pay_in hts gAW _ m1 a' U hW) m3 (co_of hts (Or.inl hco)) hr1 hr2 hr3 (fun sig h => by rw [gs_len, hn]; have h9 := m4; rw [show parseMethodDescriptor (ds k') = some sig from h] at h9; exact (Option.some.inj h9).symm) rfl rfl (Nat.le_trans hfr r1) (Nat.le_trans hlo r2) (Nat.le_trans hc r3) (Nat.le_trans hs r4) rfl (hl.1.trans hmx.symm) (by simp [gs, List.map_append, List.map_reverse, gv]) (lv_room (by rw [gs_cat]; exact hrs)) (by rw [hb]; exact hd) (fun U hU hW => ⟨rfl, PcB_of hw hA hK hX.1 hR (fun z => by rw [hfz] at z; cases z) hU hW⟩)) ?_ ?_
  · intro v w' H1 locs1 hq hw1
    exact kk v w' hq B D ca p l e R s m args below meth c A C H1 locs1 ls hl hw1
  · intro E w' H1 locs1 q ce hq hw1 h1 h2 h3
    exact kx E w' hq B D ca p l e R s m args below meth c A C H1 locs1 ls _ q ce hl hw1 h1 h2 h3
/-- a static call -/
theorem Sem.callS {pc idx k' : Nat} {as rst : List AV} {Q' : QT} (hd : decode (cc k) pc = .ok (.invokestatic idx, 3)) (hM : MK k') (hnh : hh k' = []) (hco : Cond.code (yn k') (cc k') (mL k') (rt k') ∈ AW_)
    (hlk : Cond.methodLink (RN (mo k)) idx (yn k') ∈ AW_) (hstt : Cond.static (yn k') ∈ AW_) (hfz : w.2.1 = false) (hq1 : ∀ v w', Q' (.inl v) w' → w'.2.1 = false) (hq2 : ∀ E w', Q' (.inr E) w' → w'.2.1 = false)
    (hlen : (as.map ct1).sum ≤ mL k') (hn : as.length = np k') (hrs : (rst.map ct1).sum ≤ 8) (hfr : fr k' + 1 ≤ fr k) (hlo : 8 + (mL k' + 11) + lo k' ≤ lo k) (hc : cells + mc k' ≤ mc k) (hs : slots + ms k' ≤ ms k)
    (hS : Sem sc k' 0 (aArgs 0 as) [] w 0 0 Q')
    (kk : ∀ v w', Q' (.inl v) w' → Sem sc k (pc + 3) lv (v.toList ++ rst) w' (cells + mc k') (slots + ms k') Q) (kx : ∀ E w', Q' (.inr E) w' → SemX sc k pc lv E w' (cells + mc k') (slots + ms k') Q) :
    Sem sc k pc lv (as.reverse ++ rst) w cells slots Q := by
  intro B D ca p l e R s m args below meth c A C H locs ls hl hw
  obtain ⟨⟨hx, hb, hmx, hrt, hlks⟩, ⟨hown, hts, hst, r1, r2, r3, r4⟩, ⟨hK, hA, het, hin⟩, ⟨hX, hR, hlaw⟩⟩ := id C
  obtain ⟨m1, m2, m3, m4, m5, -⟩ := hM
  have hg0 : GoodIn AW_ (wsM k') := gsub (fun w9 h9 => by
    rcases List.mem_cons.mp h9 with rfl | h9
    · exact hco
    · exact h9)
  refine go_run (Q' := Q') hA hw (fun v w' h z => by rw [hq1 v w' h] at z; cases z) hq2 (oxRunS (As := gs B as) (rest := gs B rst) (hS.met m5 m2 hnh hlen hst B D ca H.size) PcM.blind hx hown (pay_in hts hg0) (hts _ hlk) (hts _ hstt) (fun a' U hW => pay_in hts gAW _ m1 a' U hW) m3 (co_of hts (Or.inl hco)) (fun sig h => by rw [gs_len, hn]; have h9 := m4; rw [show parseMethodDescriptor (ds k') = some sig from h] at h9; exact (Option.some.inj h9).symm) rfl rfl (Nat.le_trans hfr r1) (Nat.le_trans hlo r2) (Nat.le_trans hc r3) (Nat.le_trans hs r4) rfl (hl.1.trans hmx.symm) (by simp [gs, List.map_append, List.map_reverse]) (lv_room (by rw [gs_cat]; exact hrs)) (by rw [hb]; exact hd) (fun U hU hW => ⟨rfl, PcB_of hw hA hK hX.1 hR (fun z => by rw [hfz] at z; cases z) hU hW⟩)) ?_ ?_
  · intro v w' H1 locs1 hq hw1
    exact kk v w' hq B D ca p l e R s m args below meth c A C H1 locs1 ls hl hw1
  · intro E w' H1 locs1 q ce hq hw1 h1 h2 h3
    exact kx E w' hq B D ca p l e R s m args below meth c A C H1 locs1 ls _ q ce hl hw1 h1 h2 h3
/-- a static call of a method with handlers -/
theorem Sem.callSH {pc idx k' : Nat} {as rst : List AV} {Q' : QT} (hd : decode (cc k) pc = .ok (.invokestatic idx, 3)) (hM : MK k') (hco : Cond.codeWith (yn k') (cc k') (mL k') (rt k') (hh k') ∈ AW_)
    (hlk : Cond.methodLink (RN (mo k)) idx (yn k') ∈ AW_) (hstt : Cond.static (yn k') ∈ AW_) (hfz : w.2.1 = false) (hq1 : ∀ v w', Q' (.inl v) w' → w'.2.1 = false) (hq2 : ∀ E w', Q' (.inr E) w' → w'.2.1 = false)
    (hlen : (as.map ct1).sum ≤ mL k') (hn : as.length = np k') (hrs : (rst.map ct1).sum ≤ 8) (hfr : fr k' + 1 ≤ fr k) (hlo : 8 + (mL k' + 11) + lo k' ≤ lo k) (hc : cells + mc k' ≤ mc k) (hs : slots + ms k' ≤ ms k)
    (hS : Sem sc k' 0 (aArgs 0 as) [] w 0 0 Q')
    (kk : ∀ v w', Q' (.inl v) w' → Sem sc k (pc + 3) lv (v.toList ++ rst) w' (cells + mc k') (slots + ms k') Q) (kx : ∀ E w', Q' (.inr E) w' → SemX sc k pc lv E w' (cells + mc k') (slots + ms k') Q) :
    Sem sc k pc lv (as.reverse ++ rst) w cells slots Q := by
  intro B D ca p l e R s m args below meth c A C H locs ls hl hw
  obtain ⟨⟨hx, hb, hmx, hrt, hlks⟩, ⟨hown, hts, hst, r1, r2, r3, r4⟩, ⟨hK, hA, het, hin⟩, ⟨hX, hR, hlaw⟩⟩ := id C
  obtain ⟨m1, m2, m3, m4, m5, -⟩ := hM
  have hg0 : GoodIn AW_ (wsW k') := gsub (fun w9 h9 => by
    rcases List.mem_cons.mp h9 with rfl | h9
    · exact hco
    · exact h9)
  refine go_run (Q' := Q') hA hw (fun v w' h z => by rw [hq1 v w' h] at z; cases z) hq2 (oxRunS (As := gs B as) (rest := gs B rst) (hS.metW m5 m2 hlen hst B D ca H.size) PcM.blind hx hown (pay_in hts hg0) (hts _ hlk) (hts _ hstt) (fun a' U hW => pay_in hts gAW _ m1 a' U hW) m3 (co_of hts (Or.inr hco)) (fun sig h => by rw [gs_len, hn]; have h9 := m4; rw [show parseMethodDescriptor (ds k') = some sig from h] at h9; exact (Option.some.inj h9).symm) rfl rfl (Nat.le_trans hfr r1) (Nat.le_trans hlo r2) (Nat.le_trans hc r3) (Nat.le_trans hs r4) rfl (hl.1.trans hmx.symm) (by simp [gs, List.map_append, List.map_reverse]) (lv_room (by rw [gs_cat]; exact hrs)) (by rw [hb]; exact hd) (fun U hU hW => ⟨rfl, PcB_of hw hA hK hX.1 hR (fun z => by rw [hfz] at z; cases z) hU hW⟩)) ?_ ?_
  · intro v w' H1 locs1 hq hw1
    exact kk v w' hq B D ca p l e R s m args below meth c A C H1 locs1 ls hl hw1
  · intro E w' H1 locs1 q ce hq hw1 h1 h2 h3
    exact kx E w' hq B D ca p l e R s m args below meth c A C H1 locs1 ls _ q ce hl hw1 h1 h2 h3
/-- an exception that nobody catches here -/
theorem SemX.out {pc : Nat} {E : String} (hnh : ∀ x ∈ tableOf (hh k), covers x pc = false) (hc : cells ≤ mc k) (hs : slots ≤ ms k) (hz : w.2.1 = false) (hQ : Q (.inr E) w) : SemX sc k pc lv E w cells slots Q := by
  intro B D ca p l e R s m args below meth c A C H locs ls rest q ce hl hw h1 h2 h3
  obtain ⟨⟨hx, hb, hmx, hrt, hlks⟩, ⟨hown, hts, hst, r1, r2, r3, r4⟩, ⟨hK, hA, het, hin⟩, ⟨hX, hR, hlaw⟩⟩ := id C
  intro T hT X
  have X2 := stand_widen X hc hs
  obtain ⟨h4, h5, h6, h7, h8⟩ := X2.leaveThrown q (g := F0 m pc ls rest) rfl rfl rfl (fun x hx9 => hnh x (by rw [← het]; exact hx9)) hlks
  exact ⟨_, h4, .threw q, h5, h6, ⟨E, w, ce, ⟨by show T.heap[q]? = some ce; rw [hT]; exact h1, h2, h3⟩, hQ, hw.bd hT (fun z => by rw [hz] at z; cases z), hw.2.2.1.F hT⟩, h7, locs, h8, hw.2.2.1.2.2⟩
/-- an exception that is caught here -/
theorem SemX.catch {pc en9 : Nat} (he3 : en9 < 3) (pre : List ExceptionTableEntry) (x : ExceptionTableEntry) (suf : List ExceptionTableEntry) (hsplit : tableOf (hh k) = pre ++ x :: suf)
    (hpass : ∀ z ∈ pre, covers z pc = false ∨ (z.catchType ≠ 0 ∧ ∃ nm : String, Cond.classLink (RN (mo k)) z.catchType nm ∈ AW_ ∧ (EX en9, nm) ∈ ncT)) (hx0 : covers x pc = true) (h0 : x.catchType ≠ 0)
    (hlink : Cond.classLink (RN (mo k)) x.catchType (EX en9) ∈ AW_)
    (kk : ∀ q : Nat, Sem sc k x.handlerPc lv [aV (.ref q)] w cells slots Q) : SemX sc k pc lv (EX en9) w cells slots Q := by
  intro B D ca p l e R s m args below meth c A C H locs ls rest q ce hl hw h1 h2 h3
  obtain ⟨⟨hx, hb, hmx, hrt, hlks⟩, ⟨hown, hts, hst, r1, r2, r3, r4⟩, ⟨hK, hA, het, hin⟩, ⟨hX, hR, hlaw⟩⟩ := id C
  intro T hT X
  have hpl : e.platform.magicAccessors = ({} : Platform).magicAccessors := by rw [X.admits.platform]
  obtain ⟨c4, hc4, hasg⟩ := hR.2.2.2.2.1 en9 he3
  cases Option.some.inj (hc4.symm.trans h3)
  obtain ⟨c5, hc5, hcl5⟩ := Cond.classLink_spec hown (hts _ hlink) e.platform hpl
  cases Option.some.inj (hc4.symm.trans hc5)
  obtain ⟨k9, hk9, -⟩ := Vm.findClass_spec h3
  obtain ⟨vm', hW', hf⟩ := oxFinds (e := e) (s₀ := s) (S := (T.setTop (F0 m pc ls rest)).pushFrame (.throwing q)) (f := F0 m pc ls rest) (a := q) (meth := meth) (code := c) (cell := ce) X.method' X.code X.warmed (by show T.heap[q]? = some ce; rw [hT]; exact h1) (fun z h => by rw [h2] at h; cases h) ⟨k9, hk9⟩ pre x suf (by rw [het]; exact hsplit) (fun z hz => by
    rcases hpass z hz with h | ⟨h4, nm9, h5, h6⟩
    · exact Or.inl h
    · obtain ⟨c6, hc6, hcl6⟩ := Cond.classLink_spec hown (hts _ h5) e.platform hpl
      obtain ⟨a8, b8, g1, g2, g3⟩ := hR.2.1 _ h6
      cases Option.some.inj (g1.symm.trans h3)
      cases Option.some.inj (g2.symm.trans hc6)
      exact Or.inr ⟨h4, _, hcl6, g3⟩) hx0 h0 hcl5 hasg
  obtain ⟨t, a1, b1⟩ := kk q B D ca p l e R s m args below meth c A C H locs ls hl hw (T.setVm vm') hT (X.noted hW')
  exact ⟨t, oxCaught X.here hf a1, b1⟩
end Calls
end
section
-- ===== throws, new cells, the library's own methods =====
theorem le_loc {B n x y : Nat} {st : List AV} (h : (st.map ct1).sum + n ≤ x) (h2 : x ≤ y) : ((gs B st).map fun v => v.category).sum + n ≤ y := by rw [gs_cat]; exact Nat.le_trans h h2
section More
variable {sc : XT} {k pc : Nat} {lv : List (Nat × AV)} {st : List AV} {w : NW} {cells slots : Nat} {Q : QT}
/-- the same frame, with the heap as it stands for its start -/
theorem anew {p : Program} {l : Launch} {e : Env} {R : Room} {s : State} {m : MethodId} {args : Array Value} {below : List Frame} {meth : Method} {c : Code} {T : State} {locs : List Loc} (X : Stand p l e R s m args below meth c T locs cells slots) {nc ns : Nat} (hc : cells + nc ≤ R.cells) (hs : slots + ns ≤ R.slots) :
    Stand p l e { frames := R.frames, locals := R.locals, cells := nc, slots := ns } ((T.setVm s.vm).setFrames (.invoking m args :: below)) m args below meth c T [] 0 0 := by
  have htop : (T.setVm s.vm).topJava?.isSome := X.here.top
  obtain ⟨g₀, hg0⟩ := Option.isSome_iff_exists.mp htop
  obtain ⟨r, hr⟩ := State.topJava?_eq_some.mp hg0
  have hF : ((T.setVm s.vm).setFrames (.invoking m args :: below)).frames = .invoking m args :: below := State.frames_setFrames _ (State.cur_lt_of_top htop)
  have hlim : e.platform.stackLimits (T.setVm s.vm).me = e.platform.stackLimits s.me := X.limits
  have hbyt : (T.setVm s.vm).me.stackBytes = s.me.stackBytes := X.bytes
  have hnil : ((T.heap.toList.drop T.heap.size).map (·.slots.size)).sum = 0 := by
    rw [List.drop_eq_nil_of_le (Nat.le_of_eq Array.length_toList)]; rfl
  refine ⟨X.admits, X.cas, X.clock, hF, ?_, X.hears, X.method, X.code, X.here, X.tail, X.warmed, by rw [State.stackLimits_setFrames]; rfl, by rw [State.stackBytes_setFrames]; rfl, ?_⟩
  · have h := X.room
    have hU : ((T.setVm s.vm).setFrames (.invoking m args :: below)).localsInUse = s.localsInUse := by
      rw [State.localsInUse_invoking hF (meth := meth) (c := c) X.method X.code, State.localsInUse_invoking X.frames X.method X.code]
    simp only [State.hasRoom, Bool.and_eq_true, decide_eq_true_eq] at h ⊢
    obtain ⟨⟨⟨⟨h1, h2, h3, h4, h5, h6⟩, h7⟩, h8⟩, h9⟩ := h
    rw [X.frames, List.length_cons] at h2 h3
    have q1 := X.heapSize
    have q2 := X.used
    simp only [hF, hU, List.length_cons, State.stackLimits_setFrames, State.stackBytes_setFrames, hlim, hbyt]
    refine ⟨⟨⟨⟨by omega, by omega, by omega, by omega, by omega, h6⟩, ?_⟩, ?_⟩, X.book⟩
    · show T.heap.size + nc ≤ e.platform.maxCells
      omega
    · show T.slotsUsed + ns ≤ e.platform.maxSlots
      omega
  · refine ⟨?_, Nat.le_refl _, Nat.le_refl _, ?_, ?_, fun a c9 h9 => ⟨c9, h9, rfl, rfl, fun _ _ => rfl⟩⟩
    · obtain ⟨th, hth, -⟩ := State.frames_cons hr
      show T.setVm s.vm = { ((T.setVm s.vm).setFrames (.invoking m args :: below)).setFrames (T.setVm s.vm).frames with heap := T.heap, slotsUsed := T.slotsUsed }
      rw [State.setFrames_setFrames, State.setFrames_self hth]
      rfl
    · show T.slotsUsed = T.slotsUsed + ((T.heap.toList.drop T.heap.size).map (·.slots.size)).sum
      rw [hnil]; rfl
    · show ((T.heap.toList.drop T.heap.size).map (·.slots.size)).sum ≤ 0
      rw [hnil]
      exact Nat.le_refl _
theorem same_at {s U : State} {n z : Nat} (h : s.sameButNew ({ U with vm := s.vm } : State) [] n z) : s.heap.size ≤ U.heap.size ∧ ∀ q : Nat, q < s.heap.size → U.heap[q]? = s.heap[q]? := by
  obtain ⟨-, h2, -, -, -, h6⟩ := h
  refine ⟨h2, fun q hq => ?_⟩
  have hc : s.heap[q]? = some s.heap[q] := Array.getElem?_eq_getElem hq
  obtain ⟨c', h7, h8, h9, h10⟩ := h6 q _ hc
  have h7' : U.heap[q]? = some c' := h7
  rw [h7', hc]
  have hsl : c'.slots = (s.heap[q]).slots := by
    apply Array.ext_getElem?
    intro i
    exact h10 i (fun z => nomatch z)
  rw [h8, hsl]
theorem Sem.throw {ik is ic en9 : Nat} (he3 : en9 < 3) {E text : String} (hEn : E = EX en9) {names : List String} (d0 : decode (cc k) pc = .ok (.new ik, 3)) (d3 : decode (cc k) (pc + 3) = .ok (.dup, 1)) (d4 : decode (cc k) (pc + 4) = .ok (.ldc is, 2)) (d6 : decode (cc k) (pc + 6) = .ok (.invokespecial ic, 3)) (d9 : decode (cc k) (pc + 9) = .ok (.athrow, 1))
    (hE : Bundle.fit E = true) (hnm : ∀ n ∈ names, Bundle.fit n = true) (hk : Cond.classLink (RN (mo k)) ik E ∈ AW_) (hini : Cond.initialized E ∈ AW_) (hins : Cond.instantiable E 6 ∈ AW_) (hstr : (RN (mo k), is, text) ∈ strT)
    (hat : ∀ w ∈ Bundle.ownAtoms (RN (mo k)) ic E names, w ∈ AW_ ∨ w ∈ ([.laysStatic Bundle.tN "UNASSIGNED_STACK" Bundle.steD, .isRef (.static Bundle.tN "UNASSIGNED_STACK" Bundle.steD), .laysStatic Bundle.tN "SUPPRESSED_SENTINEL" Bundle.listD, .isRef (.static Bundle.tN "SUPPRESSED_SENTINEL" Bundle.listD), .castable E E, .declares (Bundle.initS (DX 0)), .declares (Bundle.initS (DX 1)), .declares (Bundle.initS (DX 2))] : List Cond)) (hnh : ∀ x ∈ tableOf (hh k), covers x (pc + 9) = false)
    (hfr : names.length + 3 < fr k) (hlo : (st.map ct1).sum + (13 * (names.length + 1) + 43) ≤ lo k) (hc : cells + 1 ≤ mc k) (hs : slots + 6 ≤ ms k) (hz : w.2.1 = false) (hQ : Q (.inr E) w) : Sem sc k pc lv st w cells slots Q := by
  intro B D ca p l e R s0 m args below meth c A C H locs ls hl hw T hT X0
  obtain ⟨⟨hx, hb, hmx, hrt, hlks⟩, ⟨hown0, hts0, hst, r1, r2, r3, r4⟩, ⟨hK, hA, het, hin⟩, ⟨hX, hR, hlaw⟩⟩ := id C
  have X := anew X0 (nc := 1) (ns := 6) (Nat.le_trans hc r3) (Nat.le_trans hs r4)
  obtain ⟨s, hsd⟩ : ∃ z, z = (T.setVm s0.vm).setFrames (.invoking m args :: below) := ⟨_, rfl⟩
  rw [← hsd] at X
  have hvm : s.vm = s0.vm := by rw [hsd]; rfl
  have hhp : s.heap = H := by rw [hsd]; exact hT
  have hW0 : s0.WarmedH s.vm := by rw [hvm]; exact State.WarmedH.refl s0
  have hts : ∀ w ∈ AW_, w.before args s = true := fun w9 h9 => pay_in hts0 gAW w9 h9 args s hW0
  have hown : s.vm.findClass (RN (mo k)) = some m.cls := by rw [hvm]; exact hown0
  have hX1 : oxT "UNASSIGNED_STACK" Bundle.steD A s s.heap := by rw [hhp]; exact (hX.1.1.kept hw.2.2.1.2.1).moved hW0.alike
  have hX2 : oxT "SUPPRESSED_SENTINEL" Bundle.listD A s s.heap := by rw [hhp]; exact (hX.1.2.kept hw.2.2.1.2.1).moved hW0.alike
  obtain ⟨sa, hsa0⟩ := hR.1 _ hstr
  have hsa : vk_R (RN (mo k)) is text sa s := vk_R.warm hW0 hsa0
  have htr : e.platform.stackTraces = false := (show e.platform.stackTraces = l.stackTraces by rw [X.admits.platform]).trans hst
  have hall : ∀ w ∈ Bundle.ownAtoms (RN (mo k)) ic E names, w.before args s = true := fun w9 h9 => by
    rcases hat w9 h9 with h | h
    · exact hts _ h
    · simp only [List.mem_cons, List.not_mem_nil, or_false] at h
      rcases h with rfl | rfl | rfl | rfl | rfl | rfl | rfl | rfl
      · exact (hX1.word).1
      · exact (hX1.word).2
      · exact (hX2.word).1
      · exact (hX2.word).2
      · rw [hEn]
        exact (((hR.2.2.2.2.1 en9 he3).moved hW0.alike)).word
      · exact va_Nw.use rfl (va_Nw.warmD hW0 (hR.2.2.2.2.2 0 (by decide)))
      · exact va_Nw.use rfl (va_Nw.warmD hW0 (hR.2.2.2.2.2 1 (by decide)))
      · exact va_Nw.use rfl (va_Nw.warmD hW0 (hR.2.2.2.2.2 2 (by decide)))
  obtain ⟨vm₁, cX, kX, hfX, hkX, -, -, X₁, hst1⟩ := X.newCold hx (own := RN (mo k)) (C := E) (index := ik) (n := 6) hown (hts _ hk) (hts _ hins) (hts _ hini) (g := F0 m pc ls (gs B st)) rfl (by rw [hb]; exact d0) (Nat.le_refl _) (Nat.le_refl _)
  generalize hT1 : (T.setVm vm₁).pushCell { cls := cX, slots := kX.instanceTypes.map defaultValue, vm := .none } = T1 at X₁ hst1
  have hsz : T.heap.size = s.heap.size := by rw [hT, hhp]
  have hcat : (Value.ref T.heap.size).category = 1 := rfl
  have hcellA : T1.heap[T.heap.size]? = some (freshCell cX kX) := by rw [← hT1]; exact State.heap_pushCell_size _ _
  have d3' : decode c.code (pc + 3) = .ok (.dup, 1) := by rw [hb]; exact d3
  have d4' : decode c.code (pc + 4) = .ok (.ldc is, 2) := by rw [hb]; exact d4
  have hargs : (Cond.stringRef (RN (mo k)) is text).before args s = true := hsa.1
  have hev : (Term.string (RN (mo k)) is).eval args s none [] s = some (.ref sa) := hsa.2
  obtain ⟨U, hsteps, hrun, hend, hW, hsame, ce, hce, hO⟩ := X₁.ctorThrowS hx htr (own := RN (mo k)) (cls := E) (names := names) (ic := ic) hown hE hnm hall (fun y hy => nomatch hy) hfX hkX hcellA (Nat.le_of_eq hsz.symm) (msg := .ref sa) rfl
    (g := { method := m, pc := pc + 6, locals := ls, stack := .ref sa :: .ref T.heap.size :: .ref T.heap.size :: gs B st, locked := none }) rfl (hl.1.trans hmx.symm) rfl rfl (rest := gs B st) rfl
    (by rw [hb]; exact d6) (by rw [hb]; exact d9) (fun x hx9 => hnh x (by rw [← het]; exact hx9)) (Nat.lt_of_lt_of_le hfr r1) (by have h9 := le_loc (B := B) hlo r2; simp only [List.map_cons, List.sum_cons, hcat]; show 2 * 0 + (1 + ((gs B st).map fun v => v.category).sum) + (13 * (names.length + 1) + 42) ≤ R.locals; omega) hlks
  obtain ⟨f1, f2⟩ := same_at hsame
  rw [hhp] at f1 f2
  have hWs : s0.WarmedH U.vm := State.WarmedH.trans hW0 hW
  have hlast : s0.sameButNew ({ U with vm := s0.vm } : State) locs (mc k) (ms k) := by
    subst hsd
    obtain ⟨e1, e2⟩ := hsame
    rw [State.setFrames_setFrames] at e1
    have h2 : (T.setVm s0.vm).sameButNew ({ U with vm := s0.vm } : State) [] (0 + 1) (0 + 6) := ⟨e1, e2⟩
    have h3 := X0.same.trans h2
    rw [List.append_nil] at h3
    exact h3.mono hc hs
  refine ⟨U, ?_, .threw T.heap.size, hrun, hend, ⟨E, w, ce, ⟨hce, hO.vm, ?_⟩, hQ, ⟨?_, hw.2.1, ?_, hw.2.2.2.2⟩, ?_, ?_⟩, hWs, locs, hlast, hw.2.2.1.2.2⟩
  · refine hst1 _ ?_
    show Steps p.tables e below (T1.setTop { method := m, pc := pc + 3, locals := ls, stack := .ref T.heap.size :: gs B st, locked := none }) _
    jvm_step X₁.here [X₁.here.top, hx, d3', Value.category]
    exact X₁.ldcString hx (own := RN (mo k)) (text := text) (index := is) (a := sa) hown hargs hev
      (g := { method := m, pc := pc + 4, locals := ls, stack := .ref T.heap.size :: .ref T.heap.size :: gs B st, locked := none }) rfl d4' _ hsteps
  · have h9 := hO.cls
    rw [hvm] at h9
    exact h9
  · exact hw.1.kept (fun k9 q9 h9 => f2 _ ((hw.1 k9 q9 h9).lt))
  · intro z
    rw [hz] at z
    cases z
  · exact Nat.le_trans hw.2.2.1.1 f1
  · intro q h1 h2
    rw [f2 q (Nat.lt_of_lt_of_le h1 hw.2.2.1.1)]
    exact hw.2.2.1.2.1 q h1 h2
/-- the next cell's place -/
theorem next_at {B : Nat} {D : va_G} {ca : CA} {A : Nat → Prop} {p : Program} {l : Launch} {e : Env} {R : Room} {s : State} {m : MethodId} {args : Array Value} {below : List Frame} {meth : Method} {c : Code} {H : Heap} {locs : List Loc} {T : State} (hw : Wd B D ca A s.heap cells w H locs) (hz : w.2.1 = true) (h0 : 0 < w.1 ∨ cells = 0) (hT : T.heap = H) (X : Stand p l e R s m args below meth c T locs cells slots) : H.size = B + w.1 ∧ H.size = s.heap.size + cells := by
  have h1 := X.heapSize
  rw [hT] at h1
  have h2 := hw.2.2.2.1 hz
  have h3 : B + w.1 ≤ H.size := by
    rcases h0 with h0 | h0
    · have h4 : (wsO B ca w)[w.1 - 1]? = some (B + (w.1 - 1), en B ca w (ky (w.1 - 1)).1 (ky (w.1 - 1)).2) := by
        simp [wsO, List.getElem?_map, List.getElem?_range (show w.1 - 1 < w.1 by omega)]
      have h5 : B + (w.1 - 1) < H.size := (hw.1 _ _ h4).lt
      omega
    · have := hw.2.2.1.1
      omega
  exact ⟨by omega, by omega⟩
def wS (w : NW) : NW := (w.1 + 1, w.2)
theorem wsO_S {B : Nat} {ca : CA} {w : NW} {t i : Nat} (hi : i < ct t) (ho : od t i = w.1) : wsO B ca (wS w) = wsO B ca w ++ [(B + w.1, en B ca w t i)] := by
  have hk : ky w.1 = (t, i) := by rw [← ho]; exact ky_od hi
  have e1 : ∀ t' i', en B ca (wS w) t' i' = en B ca w t' i' := fun t' i' => rfl
  unfold wsO
  show (List.range (w.1 + 1)).map _ = _
  rw [List.range_succ, List.map_append]
  simp [e1, hk]
theorem Wd.push {B : Nat} {D : va_G} {ca : CA} {A : Nat → Prop} {s : State} {H H1 : Heap} {locs : List Loc} {t i : Nat} (hw : Wd B D ca A s.heap cells w H locs) (hA : ∀ q, s.heap.size ≤ q → A q) (hi : i < ct t) (ho : od t i = w.1) (hN : w.1 < NN) (hsz : H.size = B + w.1) (hsz2 : H.size = s.heap.size + cells) (z1 : H1.size = H.size + 1) (o1 : ∀ q : Nat, q < H.size → H1[q]? = H[q]?) (he : va_at D vwCl (B + w.1, en B ca w t i) H1) : Wd B D ca A s.heap (cells + 1) (wS w) H1 locs := by
  have hk : ∀ (k : Nat) (x : Nat × va_E), (wsO B ca w)[k]? = some x → H1[x.1]? = H[x.1]? := fun k x hx => o1 x.1 ((hw.1 k x hx).lt)
  have hP1 : va_P D vwCl (wsO B ca w ++ [(B + w.1, en B ca w t i)]) H1 := (hw.1.kept hk).app (fun k x hx => by
    have hz : k < 1 := (List.getElem?_eq_some_iff.mp hx).1
    rw [show k = 0 by omega] at hx
    cases hx
    exact he)
  have hD1 : va_D A (wsO B ca w ++ [(B + w.1, en B ca w t i)]) := hw.2.1.push hw.1 hsz.symm (hA _ (by rw [← hsz]; exact hw.2.2.1.1))
  rw [← wsO_S hi ho] at hP1 hD1
  exact ⟨hP1, hD1, ⟨Nat.le_trans hw.2.2.1.1 (by omega), fun x h1 h2 => (o1 x (Nat.lt_of_lt_of_le h1 hw.2.2.1.1)).trans (hw.2.2.1.2.1 x h1 h2), hw.2.2.1.2.2⟩, fun _ => by show s.heap.size + (cells + 1) = B + (w.1 + 1); omega, hN⟩
theorem Sem.new {idx ci t i : Nat} (hd : decode (cc k) pc = .ok (.new idx, 3)) (hcl : Cond.classLink (RN (mo k)) idx (RN ci) ∈ AW_) (hins : Cond.instantiable (RN ci) (fn ci) ∈ AW_) (hini : Cond.initialized (RN ci) ∈ AW_) (hkt : kd t = (3, ci)) (hi : i < ct t) (ho : od t i = w.1) (hN : w.1 < NN) (hz : w.2.1 = true) (h0 : 0 < w.1 ∨ cells = 0) (hc : cells + 1 ≤ mc k) (hs : slots + fn ci ≤ ms k)
    (hd0 : ∀ j, w.2.2.1 t i j = 0 ∧ w.2.2.2.1 t i j = 0 ∧ w.2.2.2.2 t i j = none) (kk : Sem sc k (pc + 3) lv (aR t i :: st) (wS w) (cells + 1) (slots + fn ci) Q) : Sem sc k pc lv st w cells slots Q := by
  intro B D ca p l e R s m args below meth c A C H locs ls hl hw T hT X
  obtain ⟨⟨hx, hb, hmx, hrt, hlks⟩, ⟨hown, hts, hst, r1, r2, r3, r4⟩, ⟨hK, hA, het, hin⟩, ⟨hX, hR, hlaw⟩⟩ := id C
  obtain ⟨hsz, hsz2⟩ := next_at hw hz h0 hT X
  obtain ⟨C9, T9, ty, c1, c2, c3, c4, c5⟩ := ck_ok hkt
  have hC9 : C9 = RN ci := vwCl_name c1
  subst hC9
  have hKn := hK.1 ci _ c1
  suffices hgl : W p l e R s m args below meth c H locs cells slots (oxZ below (Qo B D ca A (mc k) Q) s (mc k) (ms k) A) (F0 m pc ls (gs B st)) from hgl T hT X
  refine W.newcK (n := fn ci) (h := B + w.1) hx hb hown (hts _ hcl) (hts _ hins) (hts _ hini) rfl hd (Nat.le_trans hc r3) (Nat.le_trans hs r4) hKn.2.1 hsz (fun H1 kC hkC e1 z1 o1 => ?_)
  have hfs : ∀ j, j < fn ci → defaultValue (ty j) = vp_V (fds B ci w t i) j := fun j hj => by
    obtain ⟨d1, d2, d3⟩ := hd0 j
    have h9 : vp_V (fds B ci w t i) j = gv B (fv ci j w t i) := by
      show (fds B ci w t i).getD j .null = _
      rw [List.getD_eq_getElem?_getD, fds_at hj]; rfl
    rw [h9]
    have h5 := c5 j hj
    unfold fv
    unfold tyOK at h5
    split at h5
    · rename_i hf; rw [h5, hf]; simp [gv, d1, nI_0, defaultValue]
    · rename_i hf; rw [h5, hf]; simp [gv, d1, nI_0, defaultValue]
    · rename_i hf; rw [h5, hf]; simp [gv, d2, defaultValue]
    · rename_i f n1 n2 n3
      rw [ft2 hj n1 n2 n3, d3]
      rcases h5 with ⟨n, h5⟩ | ⟨n, h5⟩ <;> rw [h5] <;> rfl
  have hW := hw.push (t := t) (i := i) hA hi ho hN hsz hsz2 (by rw [z1, hsz]) (fun q hq => o1 q (by rw [← hsz]; exact hq)) (by
    rw [en_obj hkt]
    exact ⟨_, c1, (u_born ty hts c2 hKn hkC e1 c3).to hfs⟩)
  have h9 := kk B D ca p l e R s m args below meth c A C H1 locs ls hl hW
  have e9 : gs B (aR t i :: st) = .ref (B + w.1) :: gs B st := by show Value.ref (B + od t i) :: _ = _; rw [ho]; rfl
  rw [e9] at h9
  exact h9
theorem Sem.newaN {t i n : Nat} (hd : decode (cc k) pc = .ok (.newarray .int, 2)) (harr : Cond.arrayClass .int ∈ AW_) (hkt : kd t = (0, n)) (hi : i < ct t) (ho : od t i = w.1) (hN : w.1 < NN) (hz : w.2.1 = true) (h0 : 0 < w.1 ∨ cells = 0) (hc : cells + 1 ≤ mc k) (hs : slots + n ≤ ms k) (hb0 : n * componentBytes .int ≤ 536870912)
    (hd0 : ∀ j, w.2.2.1 t i j = 0) (kk : Sem sc k (pc + 2) lv (aR t i :: st) (wS w) (cells + 1) (slots + n) Q) : Sem sc k pc lv (aN n :: st) w cells slots Q := by
  intro B D ca p l e R s m args below meth c A C H locs ls hl hw T hT X
  obtain ⟨⟨hx, hb, hmx, hrt, hlks⟩, ⟨hown, hts, hst, r1, r2, r3, r4⟩, ⟨hK, hA, het, hin⟩, ⟨hX, hR, hlaw⟩⟩ := id C
  obtain ⟨hsz, hsz2⟩ := next_at hw hz h0 hT X
  have hn31 : n < 2 ^ 31 := by have := kd_sm t; rw [hkt] at this; exact this
  suffices hgl : W p l e R s m args below meth c H locs cells slots (oxZ below (Qo B D ca A (mc k) Q) s (mc k) (ms k) A) (F0 m pc ls (gs B (aN n :: st))) from hgl T hT X
  refine va_newaK (atype := .int) (N := n) (h := B + w.1) hx hb (hts _ harr) rfl hd (n := nI n) (rest := gs B st) rfl (nI_pos hn31) (nI_clamp hn31) hb0 (Nat.le_trans hc r3) (Nat.le_trans hs r4) hsz (fun H1 cA e1 z1 o1 hAr hNm => ?_)
  have hcA : cA = ca.1 := by
    have h2 := (hK.2 0 (ca.1, .int) rfl).2
    exact Option.some.inj (hNm.symm.trans h2)
  subst hcA
  have hW := hw.push (t := t) (i := i) hA hi ho hN hsz hsz2 (by rw [z1, hsz]) (fun q hq => o1 q (by rw [← hsz]; exact hq)) (by
    rw [en_int hkt]
    show H1[B + w.1]? = some (vp_cell _ _)
    rw [e1, vp_cell_i]
    congr 2
    funext j
    rw [hd0 j, nI_0]; rfl)
  have h9 := kk B D ca p l e R s m args below meth c A C H1 locs ls hl hW
  have e9 : gs B (aR t i :: st) = .ref (B + w.1) :: gs B st := by show Value.ref (B + od t i) :: _ = _; rw [ho]; rfl
  rw [e9] at h9
  exact h9
theorem Sem.newaL {t i n : Nat} (hd : decode (cc k) pc = .ok (.newarray .long, 2)) (harr : Cond.arrayClass .long ∈ AW_) (hkt : kd t = (1, n)) (hi : i < ct t) (ho : od t i = w.1) (hN : w.1 < NN) (hz : w.2.1 = true) (h0 : 0 < w.1 ∨ cells = 0) (hc : cells + 1 ≤ mc k) (hs : slots + n ≤ ms k) (hb0 : n * componentBytes .long ≤ 536870912)
    (hd0 : ∀ j, w.2.2.2.1 t i j = 0) (kk : Sem sc k (pc + 2) lv (aR t i :: st) (wS w) (cells + 1) (slots + n) Q) : Sem sc k pc lv (aN n :: st) w cells slots Q := by
  intro B D ca p l e R s m args below meth c A C H locs ls hl hw T hT X
  obtain ⟨⟨hx, hb, hmx, hrt, hlks⟩, ⟨hown, hts, hst, r1, r2, r3, r4⟩, ⟨hK, hA, het, hin⟩, ⟨hX, hR, hlaw⟩⟩ := id C
  obtain ⟨hsz, hsz2⟩ := next_at hw hz h0 hT X
  have hn31 : n < 2 ^ 31 := by have := kd_sm t; rw [hkt] at this; exact this
  suffices hgl : W p l e R s m args below meth c H locs cells slots (oxZ below (Qo B D ca A (mc k) Q) s (mc k) (ms k) A) (F0 m pc ls (gs B (aN n :: st))) from hgl T hT X
  refine va_newaK (atype := .long) (N := n) (h := B + w.1) hx hb (hts _ harr) rfl hd (n := nI n) (rest := gs B st) rfl (nI_pos hn31) (nI_clamp hn31) hb0 (Nat.le_trans hc r3) (Nat.le_trans hs r4) hsz (fun H1 cA e1 z1 o1 hAr hNm => ?_)
  have hcA : cA = ca.2.1 := by
    have h2 := (hK.2 1 (ca.2.1, .long) rfl).2
    exact Option.some.inj (hNm.symm.trans h2)
  subst hcA
  have hW := hw.push (t := t) (i := i) hA hi ho hN hsz hsz2 (by rw [z1, hsz]) (fun q hq => o1 q (by rw [← hsz]; exact hq)) (by
    rw [en_lng hkt]
    show H1[B + w.1]? = some (vp_cell _ _)
    rw [e1, vp_cell_l]
    congr 2
    funext j
    rw [hd0 j]; rfl)
  have h9 := kk B D ca p l e R s m args below meth c A C H1 locs ls hl hW
  have e9 : gs B (aR t i :: st) = .ref (B + w.1) :: gs B st := by show Value.ref (B + od t i) :: _ = _; rw [ho]; rfl
  rw [e9] at h9
  exact h9
theorem Sem.objInit {idx t i : Nat} (hd : decode (cc k) pc = .ok (.invokespecial idx, 3)) (hlk : Cond.methodLink (RN (mo k)) idx Lib.objectInit ∈ AW_) (him : Cond.instanceMethod Lib.objectInit ∈ AW_) (hco : Cond.code Lib.objectInit ⟨#[0xb1]⟩ 1 none ∈ AW_) (hfr : 1 ≤ fr k) (hlo : (st.map ct1).sum + 12 ≤ lo k) (kk : Sem sc k (pc + 3) lv st w cells slots Q) : Sem sc k pc lv (aR t i :: st) w cells slots Q := by
  intro B D ca p l e R s m args below meth c A C H locs ls hl hw
  obtain ⟨⟨hx, hb, hmx, hrt, hlks⟩, ⟨hown, hts, hst, r1, r2, r3, r4⟩, ⟨hK, hA, het, hin⟩, ⟨hX, hR, hlaw⟩⟩ := id C
  exact W.objInit hx hb hown (hts _ hlk) (hts _ him) (hts _ hco) rfl (hl.1.trans hmx.symm) rfl hd (Nat.le_trans hfr r1) (by have h9 := le_loc (B := B) hlo r2; show 2 * 0 + ((gs B st).map fun v => v.category).sum + 12 ≤ _; omega) (kk B D ca p l e R s m args below meth c A C H locs ls hl hw)
/-- Math.max, Math.min -/
theorem Sem.maxL {idx : Nat} {x y : Int64} (hd : decode (cc k) pc = .ok (.invokestatic idx, 3)) (hlk : Cond.methodLink (RN (mo k)) idx Lib.MathLoose.max_long.x ∈ AW_) (hstt : Cond.static Lib.MathLoose.max_long.x ∈ AW_) (hini : Cond.initialized "java/lang/Math" ∈ AW_) (hco : Cond.code Lib.MathLoose.max_long.x Lib.MathLoose.max_long.code 4 (some .long) ∈ AW_) (hfr : 1 ≤ fr k) (hlo : (st.map ct1).sum + 15 ≤ lo k) (hc : cells ≤ mc k) (hs : slots ≤ ms k) (kk : Sem sc k (pc + 3) lv (aL (if y < x then x else y) :: st) w cells slots Q) : Sem sc k pc lv (aL y :: aL x :: st) w cells slots Q := by
  intro B D ca p l e R s m args below meth c A C H locs ls hl hw
  obtain ⟨⟨hx, hb, hmx, hrt, hlks⟩, ⟨hown, hts, hst, r1, r2, r3, r4⟩, ⟨hK, hA, het, hin⟩, ⟨hX, hR, hlaw⟩⟩ := id C
  exact va_mmax_long hx hb (hmx.trans hl.1.symm) hown (hts _ hlk) (hts _ hstt) (hts _ hini) (hts _ hco) (Nat.le_trans hfr r1) (le_loc hlo r2) (Nat.le_trans hc r3) (Nat.le_trans hs r4) hd (kk B D ca p l e R s m args below meth c A C H locs ls hl hw)
theorem Sem.minL {idx : Nat} {x y : Int64} (hd : decode (cc k) pc = .ok (.invokestatic idx, 3)) (hlk : Cond.methodLink (RN (mo k)) idx Lib.MathLoose.min_long.x ∈ AW_) (hstt : Cond.static Lib.MathLoose.min_long.x ∈ AW_) (hini : Cond.initialized "java/lang/Math" ∈ AW_) (hco : Cond.code Lib.MathLoose.min_long.x Lib.MathLoose.min_long.code 4 (some .long) ∈ AW_) (hfr : 1 ≤ fr k) (hlo : (st.map ct1).sum + 15 ≤ lo k) (hc : cells ≤ mc k) (hs : slots ≤ ms k) (kk : Sem sc k (pc + 3) lv (aL (if y < x then y else x) :: st) w cells slots Q) : Sem sc k pc lv (aL y :: aL x :: st) w cells slots Q := by
  intro B D ca p l e R s m args below meth c A C H locs ls hl hw
  obtain ⟨⟨hx, hb, hmx, hrt, hlks⟩, ⟨hown, hts, hst, r1, r2, r3, r4⟩, ⟨hK, hA, het, hin⟩, ⟨hX, hR, hlaw⟩⟩ := id C
  exact va_mmin_long hx hb (hmx.trans hl.1.symm) hown (hts _ hlk) (hts _ hstt) (hts _ hini) (hts _ hco) (Nat.le_trans hfr r1) (le_loc hlo r2) (Nat.le_trans hc r3) (Nat.le_trans hs r4) hd (kk B D ca p l e R s m args below meth c A C H locs ls hl hw)
theorem Sem.maxN {idx a b : Nat} (ha : a < 2 ^ 31) (hb0 : b < 2 ^ 31) (hd : decode (cc k) pc = .ok (.invokestatic idx, 3)) (hlk : Cond.methodLink (RN (mo k)) idx Lib.Math.max.name ∈ AW_) (hstt : Cond.static Lib.Math.max.name ∈ AW_) (hini : Cond.initialized "java/lang/Math" ∈ AW_) (hco : Cond.code Lib.Math.max.name Lib.Math.max.code 2 (some .int) ∈ AW_) (hfr : 1 ≤ fr k) (hlo : (st.map ct1).sum + 13 ≤ lo k) (hc : cells ≤ mc k) (hs : slots ≤ ms k) (kk : Sem sc k (pc + 3) lv (aN (if a < b then b else a) :: st) w cells slots Q) : Sem sc k pc lv (aN b :: aN a :: st) w cells slots Q := by
  intro B D ca p l e R s m args below meth c A C H locs ls hl hw
  obtain ⟨⟨hx, hb, hmx, hrt, hlks⟩, ⟨hown, hts, hst, r1, r2, r3, r4⟩, ⟨hK, hA, het, hin⟩, ⟨hX, hR, hlaw⟩⟩ := id C
  have h9 := kk B D ca p l e R s m args below meth c A C H locs ls hl hw
  have e9 : (if nI a < nI b then nI b else nI a) = nI (if a < b then b else a) := by
    by_cases h : a < b
    · rw [if_pos h, if_pos ((nI_ltI ha hb0).mpr h)]
    · rw [if_neg h, if_neg (fun z => h ((nI_ltI ha hb0).mp z))]
  exact va_mmax hx hb (hmx.trans hl.1.symm) hown (hts _ hlk) (hts _ hstt) (hts _ hini) (hts _ hco) (Nat.le_trans hfr r1) (le_loc hlo r2) (Nat.le_trans hc r3) (Nat.le_trans hs r4) hd (by rw [e9]; exact h9)
theorem Sem.minN {idx a b : Nat} (ha : a < 2 ^ 31) (hb0 : b < 2 ^ 31) (hd : decode (cc k) pc = .ok (.invokestatic idx, 3)) (hlk : Cond.methodLink (RN (mo k)) idx Lib.Math.min.name ∈ AW_) (hstt : Cond.static Lib.Math.min.name ∈ AW_) (hini : Cond.initialized "java/lang/Math" ∈ AW_) (hco : Cond.code Lib.Math.min.name Lib.Math.min.code 2 (some .int) ∈ AW_) (hfr : 1 ≤ fr k) (hlo : (st.map ct1).sum + 13 ≤ lo k) (hc : cells ≤ mc k) (hs : slots ≤ ms k) (kk : Sem sc k (pc + 3) lv (aN (if b < a then b else a) :: st) w cells slots Q) : Sem sc k pc lv (aN b :: aN a :: st) w cells slots Q := by
  intro B D ca p l e R s m args below meth c A C H locs ls hl hw
  obtain ⟨⟨hx, hb, hmx, hrt, hlks⟩, ⟨hown, hts, hst, r1, r2, r3, r4⟩, ⟨hK, hA, het, hin⟩, ⟨hX, hR, hlaw⟩⟩ := id C
  have h9 := kk B D ca p l e R s m args below meth c A C H locs ls hl hw
  have e9 : (if nI b < nI a then nI b else nI a) = nI (if b < a then b else a) := by
    by_cases h : b < a
    · rw [if_pos h, if_pos ((nI_ltI hb0 ha).mpr h)]
    · rw [if_neg h, if_neg (fun z => h ((nI_ltI hb0 ha).mp z))]
  exact va_mmin hx hb (hmx.trans hl.1.symm) hown (hts _ hlk) (hts _ hstt) (hts _ hini) (hts _ hco) (Nat.le_trans hfr r1) (le_loc hlo r2) (Nat.le_trans hc r3) (Nat.le_trans hs r4) hd (by rw [e9]; exact h9)
/-- System.arraycopy of a whole row -/
def wCN (w : NW) (t0 i0 t1 i1 n : Nat) : NW := (w.1, w.2.1, (fun t i j => if t = t1 ∧ i = i1 ∧ j < n then w.2.2.1 t0 i0 j else w.2.2.1 t i j), w.2.2.2.1, w.2.2.2.2)
def wCL (w : NW) (t0 i0 t1 i1 n : Nat) : NW := (w.1, w.2.1, w.2.2.1, (fun t i j => if t = t1 ∧ i = i1 ∧ j < n then w.2.2.2.1 t0 i0 j else w.2.2.2.1 t i j), w.2.2.2.2)
theorem en_wCN {B : Nat} {ca : CA} {w : NW} {t0 i0 t1 i1 n : Nat} : ∀ t' i', (t', i') ≠ (t1, i1) → en B ca (wCN w t0 i0 t1 i1 n) t' i' = en B ca w t' i' := by
  intro t' i' h
  have h2 : ∀ q, ¬ (t' = t1 ∧ i' = i1 ∧ q < n) := fun q z => h (by rw [z.1, z.2.1])
  have h3 : ∀ ci, fds B ci (wCN w t0 i0 t1 i1 n) t' i' = fds B ci w t' i' := fun ci => by simp [fds, fv, wCN, h2]
  unfold en
  simp [wCN, h2] at h3 ⊢
  split <;> simp_all
theorem en_wCL {B : Nat} {ca : CA} {w : NW} {t0 i0 t1 i1 n : Nat} : ∀ t' i', (t', i') ≠ (t1, i1) → en B ca (wCL w t0 i0 t1 i1 n) t' i' = en B ca w t' i' := by
  intro t' i' h
  have h2 : ∀ q, ¬ (t' = t1 ∧ i' = i1 ∧ q < n) := fun q z => h (by rw [z.1, z.2.1])
  have h3 : ∀ ci, fds B ci (wCL w t0 i0 t1 i1 n) t' i' = fds B ci w t' i' := fun ci => by simp [fds, fv, wCL, h2]
  unfold en
  split <;> simp_all [wCL]
  funext j
  rw [if_neg (fun z => h z.1 z.2.1)]
theorem Sem.copyN {idx t0 i0 t1 i1 n0 n1 n : Nat} (hd : decode (cc k) pc = .ok (.invokestatic idx, 3)) (hlk : Cond.methodLink (RN (mo k)) idx arraycopyName ∈ AW_) (hnat : Cond.native arraycopyName ∈ AW_) (hstt : Cond.static arraycopyName ∈ AW_) (hini : Cond.initialized "java/lang/System" ∈ AW_) (hk0 : kd t0 = (0, n0)) (hk1 : kd t1 = (0, n1)) (hv0 : vld w.1 t0 i0) (hv1 : vld w.1 t1 i1) (hn0 : n ≤ n0) (hn1 : n ≤ n1) (hfr : 1 ≤ fr k) (hlo : (st.map ct1).sum + (nativeFrameWords "java/lang/System" "arraycopy" 5 + 11) ≤ lo k) (kk : Sem sc k (pc + 3) lv st (wCN w t0 i0 t1 i1 n) cells slots Q) : Sem sc k pc lv (aN n :: aN 0 :: aR t1 i1 :: aN 0 :: aR t0 i0 :: st) w cells slots Q := by
  intro B D ca p l e R s m args below meth c A C H locs ls hl hw
  obtain ⟨⟨hx, hb, hmx, hrt, hlks⟩, ⟨hown, hts, hst, r1, r2, r3, r4⟩, ⟨hK, hA, het, hin⟩, ⟨hX, hR, hlaw⟩⟩ := id C
  have he0 := wsO_at (B := B) (ca := ca) (w := w) hv0
  rw [en_int hk0] at he0
  have he1 := wsO_at (B := B) (ca := ca) (w := w) hv1
  rw [en_int hk1] at he1
  have hn31 : n < 2 ^ 31 := by have := kd_sm t0; rw [hk0] at this; exact Nat.lt_of_le_of_lt hn0 this
  have z0 : (nI 0).toNatClampNeg = 0 := nI_clamp (by decide)
  have zn : (nI n).toNatClampNeg = n := nI_clamp hn31
  refine va_copyi (D := D) (ty := .int) hx hb (hmx.trans hl.1.symm) hown (hts _ hlk) (hts _ hnat) (hts _ hstt) (hts _ hini) hK hw.1 hw.2.1 hw.2.2.1 (od t0 i0) (od t1 i1) 0 0 he0 he1 rfl rfl rfl (sp := nI 0) (dp := nI 0) (n := nI n) (nI_pos (by decide)) (nI_pos (by decide)) (nI_pos hn31) (by rw [z0, zn]; omega) (by rw [z0, zn]; omega) (fun i hi => rfl) (Nat.le_trans hfr r1) (le_loc hlo r2) hd (fun H1 locs1 hP1 hD1 hS1 => kk B D ca p l e R s m args below meth c A C H1 locs1 ls hl (hw.put (t := t1) (i := i1) hv1 rfl rfl en_wCN ?_ ?_ hS1))
  · rw [en_int hk1]
    rw [z0, zn] at hP1
    have e1 : (fun j => nI ((wCN w t0 i0 t1 i1 n).2.2.1 t1 i1 j)) = va_cpy (fun j => nI (w.2.2.1 t0 i0 j)) (fun j => nI (w.2.2.1 t1 i1 j)) 0 0 n := by
      funext j
      by_cases hj : j < n <;> simp [wCN, va_cpy, hj]
    rw [e1]; exact hP1
  · rw [en_int hk1]
    rw [z0, zn] at hD1
    have e1 : (fun j => nI ((wCN w t0 i0 t1 i1 n).2.2.1 t1 i1 j)) = va_cpy (fun j => nI (w.2.2.1 t0 i0 j)) (fun j => nI (w.2.2.1 t1 i1 j)) 0 0 n := by
      funext j
      by_cases hj : j < n <;> simp [wCN, va_cpy, hj]
    rw [e1]; exact hD1
theorem Sem.copyL {idx t0 i0 t1 i1 n0 n1 n : Nat} (hd : decode (cc k) pc = .ok (.invokestatic idx, 3)) (hlk : Cond.methodLink (RN (mo k)) idx arraycopyName ∈ AW_) (hnat : Cond.native arraycopyName ∈ AW_) (hstt : Cond.static arraycopyName ∈ AW_) (hini : Cond.initialized "java/lang/System" ∈ AW_) (hk0 : kd t0 = (1, n0)) (hk1 : kd t1 = (1, n1)) (hv0 : vld w.1 t0 i0) (hv1 : vld w.1 t1 i1) (hn0 : n ≤ n0) (hn1 : n ≤ n1) (hfr : 1 ≤ fr k) (hlo : (st.map ct1).sum + (nativeFrameWords "java/lang/System" "arraycopy" 5 + 11) ≤ lo k) (kk : Sem sc k (pc + 3) lv st (wCL w t0 i0 t1 i1 n) cells slots Q) : Sem sc k pc lv (aN n :: aN 0 :: aR t1 i1 :: aN 0 :: aR t0 i0 :: st) w cells slots Q := by
  intro B D ca p l e R s m args below meth c A C H locs ls hl hw
  obtain ⟨⟨hx, hb, hmx, hrt, hlks⟩, ⟨hown, hts, hst, r1, r2, r3, r4⟩, ⟨hK, hA, het, hin⟩, ⟨hX, hR, hlaw⟩⟩ := id C
  have he0 := wsO_at (B := B) (ca := ca) (w := w) hv0
  rw [en_lng hk0] at he0
  have he1 := wsO_at (B := B) (ca := ca) (w := w) hv1
  rw [en_lng hk1] at he1
  have hn31 : n < 2 ^ 31 := by have := kd_sm t0; rw [hk0] at this; exact Nat.lt_of_le_of_lt hn0 this
  have z0 : (nI 0).toNatClampNeg = 0 := nI_clamp (by decide)
  have zn : (nI n).toNatClampNeg = n := nI_clamp hn31
  have e1 : (wCL w t0 i0 t1 i1 n).2.2.2.1 t1 i1 = va_cpy (w.2.2.2.1 t0 i0) (w.2.2.2.1 t1 i1) 0 0 n := by
    funext j
    by_cases hj : j < n <;> simp [wCL, va_cpy, hj]
  refine va_copyl (D := D) (ty := .long) hx hb (hmx.trans hl.1.symm) hown (hts _ hlk) (hts _ hnat) (hts _ hstt) (hts _ hini) hK hw.1 hw.2.1 hw.2.2.1 (od t0 i0) (od t1 i1) 1 1 he0 he1 rfl rfl rfl (sp := nI 0) (dp := nI 0) (n := nI n) (nI_pos (by decide)) (nI_pos (by decide)) (nI_pos hn31) (by rw [z0, zn]; omega) (by rw [z0, zn]; omega) (fun i hi => rfl) (Nat.le_trans hfr r1) (le_loc hlo r2) hd (fun H1 locs1 hP1 hD1 hS1 => kk B D ca p l e R s m args below meth c A C H1 locs1 ls hl (hw.put (t := t1) (i := i1) hv1 rfl rfl en_wCL ?_ ?_ hS1))
  · rw [en_lng hk1, e1]
    rw [z0, zn] at hP1
    exact hP1
  · rw [en_lng hk1, e1]
    rw [z0, zn] at hD1
    exact hD1
end More
end
section
-- ===== constructors' calls, rows of references, switches, the script =====
section Cons
variable {sc : XT} {k pc : Nat} {lv : List (Nat × AV)} {st : List AV} {w : NW} {cells slots : Nat} {Q : QT}
theorem run_x {p : Program} {l : Launch} {e : Env} {R : Room} {s : State} {m : MethodId} {args : Array Value} {below : List Frame} {meth : Method} {c : Code} {H : Heap} {locs : List Loc} {n z : Nat} {g : JFrame} {rest : List Value} {Qe : State → Outcome → State → Prop} {free : Addr → Prop} (h : va_Run p l e R s m args below meth c H locs cells slots n z g rest Qe free) : oxRun p l e R s m args below meth c H locs cells slots n z g rest Qe free := fun T hT X => by
  obtain ⟨v, st₀, t, T', L, h0, X', hL, e1, e2, hq, st⟩ := h T hT X
  exact ⟨.returned v, st₀, t, T', L, h0, (fun ⟨q, hq⟩ => nomatch hq), X', hL, e1, e2, hq, st _ (Steps.refl _)⟩
/-- a constructor of ours, while the cells are being made -/
theorem Sem.callI {idx k' t i : Nat} {as rst : List AV} {Q' : QT} (nest : Bool) (host : String) (hd : decode (cc k) pc = .ok (.invokespecial idx, 3)) (hM : MK k') (hnh : hh k' = []) (hco : Cond.code (yn k') (cc k') (mL k') (rt k') ∈ AW_) (hrt0 : rt k' = none) (hi0 : nm k' = "<init>")
    (hlk : if nest = true then (RN (mo k), idx, k', host) ∈ nlT else Cond.methodLink (RN (mo k)) idx (yn k') ∈ AW_) (him : Cond.instanceMethod (yn k') ∈ AW_) (h0 : 0 < w.1 ∨ cells = 0) (hfz : w.2.1 = true) (hno : ∀ E w', ¬ Q' (.inr E) w')
    (hlen : ((aR t i :: as).map ct1).sum ≤ mL k') (hn : as.length = np k') (hrs : (rst.map ct1).sum ≤ 8) (hfr : fr k' + 1 ≤ fr k) (hlo : 8 + (mL k' + 11) + lo k' ≤ lo k) (hc : cells + mc k' ≤ mc k) (hs : slots + ms k' ≤ ms k)
    (hS : Sem sc k' 0 (aArgs 0 (aR t i :: as)) [] w 0 0 Q')
    (kk : ∀ v w', Q' (.inl v) w' → Sem sc k (pc + 3) lv (v.toList ++ rst) w' (cells + mc k') (slots + ms k') Q) :
    Sem sc k pc lv (as.reverse ++ aR t i :: rst) w cells slots Q := by
  intro B D ca p l e R s m args below meth c A C H locs ls hl hw T hT X
  obtain ⟨⟨hx, hb, hmx, hrt, hlks⟩, ⟨hown, hts, hst, r1, r2, r3, r4⟩, ⟨hK, hA, het, hin⟩, ⟨hX, hR, hlaw⟩⟩ := id C
  obtain ⟨m1, m2, m3, m4, m5, -⟩ := hM
  obtain ⟨hsz, hsz2⟩ := next_at hw hfz h0 hT X
  have hg : GoodIn AW_ (wsM k') := gsub (fun w9 h9 => by
    rcases List.mem_cons.mp h9 with rfl | h9
    · exact hco
    · exact h9)
  have hpre : PreS s H (PcM B D ca (aR t i :: as) w H.size) (.ref (B + od t i) :: gs B as) := ⟨PcM.blind, fun U hU hW => ⟨rfl, PcB_of hw hA hK hX.1 hR (fun _ => hsz) hU hW⟩⟩
  have hmet := hS.metR hno m5 m2 hnh hlen hst B D ca H.size
  have hw0 : wsM k' = Cond.code (yn k') (cc k') (mL k') none :: AW_ := by rw [wsM, hrt0]
  have hstk : (F0 m pc ls (gs B (as.reverse ++ aR t i :: rst))).stack = (gs B as).reverse ++ .ref (B + od t i) :: gs B rst := by simp [gs, List.map_append, List.map_reverse, gv]
  have hrun : va_Run p l e R s m args below meth c H locs cells slots (mc k') (ms k') (F0 m pc ls (gs B (as.reverse ++ aR t i :: rst))) (gs B rst) (Qo B D ca (AR B w.1 H.size) (mc k') Q') (AR B w.1 H.size) := by
    cases nest with
    | true => exact va_runIN (host := host) ⟨hx, hb, hmx, hown, hts⟩ hmet ⟨va_cnB (np k') hts hg hw0 rfl rfl (hR.2.2.1 _ hlk) (hts _ m1) ⟨m3.1, m3.2, m4⟩ ⟨Nat.le_trans hfr r1, Nat.le_trans hlo r2⟩, hi0, hts _ him⟩ hpre rfl (by rw [gs_len]; exact hn) hl.1 hstk (lv_room (by rw [gs_cat]; exact hrs)) hd ⟨Nat.le_trans hc r3, Nat.le_trans hs r4⟩
    | false => exact va_runI ⟨hx, hb, hmx, hown, hts⟩ hmet (cwI (np k') hts hg hw0 rfl rfl (hts _ m1) (hts _ hlk) (hts _ him) hi0 ⟨m3.1, m3.2, m4⟩ ⟨Nat.le_trans hfr r1, Nat.le_trans hlo r2⟩) hpre rfl (by rw [gs_len]; exact hn) hl.1 hstk (lv_room (by rw [gs_cat]; exact hrs)) hd ⟨Nat.le_trans hc r3, Nat.le_trans hs r4⟩
  suffices hgl : W p l e R s m args below meth c H locs cells slots (oxZ below (Qo B D ca A (mc k) Q) s (mc k) (ms k) A) (F0 m pc ls (gs B (as.reverse ++ aR t i :: rst))) from hgl T hT X
  refine go_run (Q' := Q') hA hw (fun v w' h z => hsz2) (fun E w' h => (hno E w' h).elim) (run_x hrun) ?_ ?_
  · intro v w' H1 locs1 hq hw1
    exact kk v w' hq B D ca p l e R s m args below meth c A C H1 locs1 ls hl hw1
  · intro E w' H1 locs1 q ce hq
    exact (hno E w' hq).elim
theorem Sem.aast {t i j t' i' n : Nat} (hd : decode (cc k) pc = .ok (.aastore, 1)) (hkt : kd t = (2, n)) {ci : Nat} (hkt' : kd t' = (3, ci)) (hci : RN ci = itN) (hv : vld w.1 t i) (hv' : vld w.1 t' i') (hj : j < n) (kk : Sem sc k (pc + 1) lv st (wR w t i j (some (t', i'))) cells slots Q) : Sem sc k pc lv (aR t' i' :: aN j :: aR t i :: st) w cells slots Q := by
  intro B D ca p l e R s m args below meth c A C H locs ls hl hw
  obtain ⟨⟨hx, hb, hmx, hrt, hlks⟩, ⟨hown, hts, hst, r1, r2, r3, r4⟩, ⟨hK, hA, het, hin⟩, ⟨hX, hR, hlaw⟩⟩ := id C
  obtain ⟨C9, T9, ty, c1, -⟩ := ck_ok hkt'
  have hC9 : C9 = itN := (vwCl_name c1).trans hci
  subst hC9
  have he := wsO_at (B := B) (ca := ca) (w := w) hv
  rw [en_rf hkt] at he
  have he' := wsO_at (B := B) (ca := ca) (w := w) hv'
  rw [en_obj hkt'] at he'
  obtain ⟨h1, h2⟩ := nI_vin (t := t) hj (by rw [hkt])
  have e1 : (fun q => ((wR w t i j (some (t', i'))).2.2.2.2 t i q).map (fun k => B + od k.1 k.2)) = va_up (fun q => (w.2.2.2.2 t i q).map (fun k => B + od k.1 k.2)) j (some (B + od t' i')) := by
    funext q
    by_cases hq : q = j <;> simp [wR, upR, va_up, hq]
  refine va_astq (D := D) hx hb hK hw.1 hw.2.1 hw.2.2.1 (od t i) 2 (od t' i') ci he rfl he' c1 h1 hd (fun H1 locs1 hP1 hD1 hS1 => kk B D ca p l e R s m args below meth c A C H1 locs1 ls hl (hw.put (t := t) (i := i) hv rfl rfl en_wR ?_ ?_ hS1))
  · rw [en_rf hkt, e1]; rw [h2] at hP1; exact hP1
  · rw [en_rf hkt, e1]; rw [h2] at hD1; exact hD1
theorem Sem.anewq {t i n idx : Nat} (hd : decode (cc k) pc = .ok (.anewarray idx, 3)) (hcl : Cond.classLink (RN (mo k)) idx itN ∈ AW_) (hkt : kd t = (2, n)) (hi : i < ct t) (ho : od t i = w.1) (hN : w.1 < NN) (hz : w.2.1 = true) (h0 : 0 < w.1 ∨ cells = 0) (hc : cells + 1 ≤ mc k) (hs : slots + n ≤ ms k) (hb0 : n * 4 ≤ 536870912)
    (hd0 : ∀ j, w.2.2.2.2 t i j = none) (kk : Sem sc k (pc + 3) lv (aR t i :: st) (wS w) (cells + 1) (slots + n) Q) : Sem sc k pc lv (aN n :: st) w cells slots Q := by
  intro B D ca p l e R s m args below meth c A C H locs ls hl hw T hT X
  obtain ⟨⟨hx, hb, hmx, hrt, hlks⟩, ⟨hown, hts, hst, r1, r2, r3, r4⟩, ⟨hK, hA, het, hin⟩, ⟨hX, hR, hlaw⟩⟩ := id C
  obtain ⟨hsz, hsz2⟩ := next_at hw hz h0 hT X
  have hn31 : n < 2 ^ 31 := by have := kd_sm t; rw [hkt] at this; exact this
  have hcl0 : (nI n).toNatClampNeg = n := nI_clamp hn31
  suffices hgl : W p l e R s m args below meth c H locs cells slots (oxZ below (Qo B D ca A (mc k) Q) s (mc k) (ms k) A) (F0 m pc ls (gs B (aN n :: st))) from hgl T hT X
  refine W.anew (C := itN) hx hb hown (hts _ hcl) (va_AO.use hR.2.2.2.1) rfl hd (n := nI n) (rest := gs B st) rfl (nI_pos hn31) (by rw [hcl0]; exact hb0) (Nat.le_trans hc r3) (by rw [hcl0]; exact Nat.le_trans hs r4) (fun cA kA comp f1 f2 f3 f4 => ?_)
  rw [hcl0]
  have hcA : cA = ca.2.2.1 := by
    obtain ⟨kB, cB, b1, b2, b3, b4⟩ := (hK.2 2 (ca.2.2.1, .object itN) rfl).2
    exact Option.some.inj (f1.symm.trans b4)
  subst hcA
  generalize hH1 : H.push ({ cls := ca.2.2.1, slots := Array.replicate n .null, vm := .none } : Cell) = H1
  have z1 : H1.size = H.size + 1 := by rw [← hH1, Array.size_push]
  have e1 : H1[H.size]? = some (arrV ca.2.2.1 n (fun _ => .null)) := by rw [← hH1, Array.getElem?_push_size, ← arrV_new]
  have o1 : ∀ q : Nat, q < H.size → H1[q]? = H[q]? := fun q hq => by rw [← hH1, Array.getElem?_push, if_neg (Nat.ne_of_lt hq)]
  have hW := hw.push (t := t) (i := i) hA hi ho hN hsz hsz2 z1 o1 (by
    rw [en_rf hkt]
    show H1[B + w.1]? = some (vp_cell _ _)
    rw [← hsz, e1]
    show _ = some (arrV ca.2.2.1 n (fun j => va_rf ((w.2.2.2.2 t i j).map (fun k => B + od k.1 k.2))))
    congr 2
    funext j
    rw [hd0 j]; rfl)
  have h9 := kk B D ca p l e R s m args below meth c A C H1 locs ls hl hW
  have e9 : gs B (aR t i :: st) = .ref H.size :: gs B st := by show Value.ref (B + od t i) :: _ = _; rw [ho, ← hsz]; rfl
  rw [e9] at h9
  exact h9
theorem Sem.tabIn {dflt lo0 hi0 : Int} {offs : Array Int} {len : Nat} {x : Int32} {off : Int} {tgt : Nat} {u : AV} (hu : toI u = some x) (hd : decode (cc k) pc = .ok (.tableswitch dflt lo0 hi0 offs, len)) (h1 : ¬ x.toInt < lo0) (h2 : ¬ hi0 < x.toInt) (ho : offs[(x.toInt - lo0).toNat]? = some off) (ht : (pc : Int) + off = (tgt : Int)) (kk : Sem sc k tgt lv st w cells slots Q) : Sem sc k pc lv (u :: st) w cells slots Q := by
  intro B D ca p l e R s m args below meth c A C H locs ls hl hw
  obtain ⟨⟨hx, hb, hmx, hrt, hlks⟩, -⟩ := id C
  rw [gs, List.map_cons, toI_gv hu]
  exact lv_tableIn hx hb hd h1 h2 ho ht (kk B D ca p l e R s m args below meth c A C H locs ls hl hw)
theorem Sem.tabOut {dflt lo0 hi0 : Int} {offs : Array Int} {len : Nat} {x : Int32} {tgt : Nat} {u : AV} (hu : toI u = some x) (hd : decode (cc k) pc = .ok (.tableswitch dflt lo0 hi0 offs, len)) (h : x.toInt < lo0 ∨ hi0 < x.toInt) (ht : (pc : Int) + dflt = (tgt : Int)) (kk : Sem sc k tgt lv st w cells slots Q) : Sem sc k pc lv (u :: st) w cells slots Q := by
  intro B D ca p l e R s m args below meth c A C H locs ls hl hw
  obtain ⟨⟨hx, hb, hmx, hrt, hlks⟩, -⟩ := id C
  rw [gs, List.map_cons, toI_gv hu]
  exact lv_tableOut hx hb hd h ht (kk B D ca p l e R s m args below meth c A C H locs ls hl hw)
theorem Sem.lookup {dflt : Int} {ps : Array (Int × Int)} {len : Nat} {x : Int32} {off : Int} {tgt : Nat} {u : AV} (hu : toI u = some x) (hd : decode (cc k) pc = .ok (.lookupswitch dflt ps, len)) (hp : (ps.toList.zip (ps.toList.drop 1)).all (fun (a, next) => a.1 < next.1) = true) (ho : Op.lookupswitch.offset ps.toList dflt x.toInt = off) (ht : (pc : Int) + off = (tgt : Int)) (kk : Sem sc k tgt lv st w cells slots Q) : Sem sc k pc lv (u :: st) w cells slots Q := by
  intro B D ca p l e R s m args below meth c A C H locs ls hl hw
  obtain ⟨⟨hx, hb, hmx, hrt, hlks⟩, -⟩ := id C
  rw [gs, List.map_cons, toI_gv hu]
  exact lv_lookup hx hb hd hp ho ht (kk B D ca p l e R s m args below meth c A C H locs ls hl hw)
theorem Sem.sld {j : Nat} (hk : k = LAW) (hd : decode (cc k) pc = .ok (.iaload, 1)) (hj : j < sc.2.1) (h31 : sc.2.1 < 2 ^ 31) (kk : Sem sc k (pc + 1) lv (aI (sc.2.2 j) :: st) w cells slots Q) : Sem sc k pc lv (aN j :: aV (.ref sc.1) :: st) w cells slots Q := by
  intro B D ca p l e R s m args below meth c A C H locs ls hl hw
  obtain ⟨⟨hx, hb, hmx, hrt, hlks⟩, ⟨hown, hts, hst, r1, r2, r3, r4⟩, ⟨hK, hA, het, hin⟩, ⟨hX, hR, hlaw⟩⟩ := id C
  obtain ⟨s1, s2, s3⟩ := hlaw hk
  have h9 := kk B D ca p l e R s m args below meth c A C H locs ls hl hw
  refine va_sld hx hb s1 s2 s3 hw.2.2.1 (vp_in_nI hj h31) hd ?_
  rw [nI_clamp (Nat.lt_trans hj h31)]
  exact h9
theorem Sem.slen (hk : k = LAW) (hd : decode (cc k) pc = .ok (.arraylength, 1)) (kk : Sem sc k (pc + 1) lv (aN sc.2.1 :: st) w cells slots Q) : Sem sc k pc lv (aV (.ref sc.1) :: st) w cells slots Q := by
  intro B D ca p l e R s m args below meth c A C H locs ls hl hw
  obtain ⟨⟨hx, hb, hmx, hrt, hlks⟩, ⟨hown, hts, hst, r1, r2, r3, r4⟩, ⟨hK, hA, het, hin⟩, ⟨hX, hR, hlaw⟩⟩ := id C
  obtain ⟨s1, s2, s3⟩ := hlaw hk
  exact va_slen hx hb s1 s2 s3 hw.2.2.1 hd (kk B D ca p l e R s m args below meth c A C H locs ls hl hw)
/-- from here on other things may be made -/
theorem Sem.loose {n : Nat} {N : Nat → Nat → Nat → Nat} {L : Nat → Nat → Nat → Int64} {F : Nat → Nat → Nat → Option (Nat × Nat)} (kk : Sem sc k pc lv st (n, false, N, L, F) cells slots Q) : Sem sc k pc lv st (n, true, N, L, F) cells slots Q := by
  intro B D ca p l e R s m args below meth c A C H locs ls hl hw
  exact kk B D ca p l e R s m args below meth c A C H locs ls hl ⟨hw.1, hw.2.1, hw.2.2.1, (fun z => nomatch z), hw.2.2.2.2⟩
/-- another world with the same cells -/
theorem Sem.weq {w' : NW} (h : w = w') (kk : Sem sc k pc lv st w' cells slots Q) : Sem sc k pc lv st w cells slots Q := h ▸ kk
theorem Sem.widen {a b : Nat} (h1 : cells ≤ a) (h2 : slots ≤ b) (hz : w.2.1 = true → cells = a) (kk : Sem sc k pc lv st w a b Q) : Sem sc k pc lv st w cells slots Q := by
  intro B D ca p l e R s m args below meth c A C H locs ls hl hw
  exact W.widen h1 h2 (kk B D ca p l e R s m args below meth c A C H locs ls hl ⟨hw.1, hw.2.1, hw.2.2.1, fun z => by rw [← hz z]; exact hw.2.2.2.1 z, hw.2.2.2.2⟩)
theorem Sem.mono {Q' : QT} (h : ∀ o w, Q' o w → Q o w) (kk : Sem sc k pc lv st w cells slots Q') : Sem sc k pc lv st w cells slots Q := by
  intro B D ca p l e R s m args below meth c A C H locs ls hl hw
  refine Wmono ?_ (kk B D ca p l e R s m args below meth c A C H locs ls hl hw)
  rintro t ⟨o, h1, h2, h3, h4⟩
  refine ⟨o, h1, h2, ?_, h4⟩
  cases o with
  | returned v =>
    obtain ⟨v0, w9, e1, q1, q2⟩ := h3
    exact ⟨v0, w9, e1, h _ _ q1, q2⟩
  | threw q =>
    obtain ⟨E, w9, ce, e1, q1, q2⟩ := h3
    exact ⟨E, w9, ce, e1, h _ _ q1, q2⟩
end Cons
-- ===== words for the finished world =====
section Fin
variable {sc : XT} {k pc : Nat} {lv : List (Nat × AV)} {st : List AV} {w : NW} {cells slots : Nat} {Q : QT}
theorem Sem.topNN {a b : Nat} (h : a = b) (kk : Sem sc k pc lv (aN b :: st) w cells slots Q) : Sem sc k pc lv (aN a :: st) w cells slots Q := h ▸ kk
theorem Sem.topLL {a b : Int64} (h : a = b) (kk : Sem sc k pc lv (aL b :: st) w cells slots Q) : Sem sc k pc lv (aL a :: st) w cells slots Q := h ▸ kk
theorem Sem.topII {a b : Int32} (h : a = b) (kk : Sem sc k pc lv (aI b :: st) w cells slots Q) : Sem sc k pc lv (aI a :: st) w cells slots Q := h ▸ kk
abbrev TN : Type := Nat → Nat → Nat → Nat
abbrev TL : Type := Nat → Nat → Nat → Int64
abbrev wd (N : TN) (L : TL) : NW := (NN, false, N, L, Fx)
def QN (f : (Option AV ⊕ String) → TN → TL → Prop) : QT := fun o w => ∃ (N : TN) (L : TL), w = wd N L ∧ f o N L
theorem QN1 {f : (Option AV ⊕ String) → TN → TL → Prop} : ∀ v w', QN f (.inl v) w' → w'.2.1 = false := by
  rintro v w' ⟨N, L, rfl, -⟩; rfl
theorem QN2 {f : (Option AV ⊕ String) → TN → TL → Prop} : ∀ E w', QN f (.inr E) w' → w'.2.1 = false := by
  rintro v w' ⟨N, L, rfl, -⟩; rfl
theorem vN {t i : Nat} (h : i < ct t) : vld NN t i := ⟨h, od_lt h⟩
end Fin
end
section
-- ===== the three exceptions =====
def exNames : List String := ["java/lang/RuntimeException", "java/lang/Exception"]
theorem exFit : ∀ n ∈ exNames, Bundle.fit n = true := by decide +kernel
set_option maxRecDepth 100000 in
theorem exAtoms : ∀ n, n < 3 → ∀ w ∈ Bundle.ownAtoms (RN 4) 0 (EX n) exNames, (w ∈ lw_tbl ∧ goodWord w = true) ∨ w ∈ ([.methodLink (RN 4) 0 (Bundle.initS (EX n)), .laysStatic Bundle.tN "UNASSIGNED_STACK" Bundle.steD, .isRef (.static Bundle.tN "UNASSIGNED_STACK" Bundle.steD), .laysStatic Bundle.tN "SUPPRESSED_SENTINEL" Bundle.listD, .isRef (.static Bundle.tN "SUPPRESSED_SENTINEL" Bundle.listD), .castable (EX n) (EX n), .declares (Bundle.initS (DX 0)), .declares (Bundle.initS (DX 1)), .declares (Bundle.initS (DX 2))] : List Cond) := by decide +kernel
set_option maxRecDepth 100000 in
theorem exNo : ∀ n, n < 3 → Cond.methodLink (RN 4) 0 (Bundle.initS (EX n)) ∈ lw_tbl → False := by decide +kernel
set_option maxRecDepth 100000 in
theorem exNo3 : ∀ n, n < 3 → Cond.methodLink (RN 4) 0 (Bundle.initS (EX n)) ∈ Bundle.ownAtoms (RN 4) 1 (EX n) exNames → False := by decide +kernel
theorem exNo2 (n : Nat) (hn : n < 3) (ic : Nat) (h : ¬ ic = 0) (hw : Cond.methodLink (RN 4) 0 (Bundle.initS (EX n)) ∈ Bundle.ownAtoms (RN 4) ic (EX n) exNames) : False := by
  apply exNo3 n hn
  simp only [Bundle.ownAtoms, List.mem_append, List.mem_cons] at hw ⊢
  rcases hw with hw | hw | hw
  · exact Or.inl hw
  · exfalso
    injection hw with h1 h2 h3
    exact h h2.symm
  · exact Or.inr (Or.inr hw)
theorem exAt {n ic : Nat} (hn : n < 3) (hlk : Cond.methodLink (RN 4) ic (Bundle.initS (EX n)) ∈ AW_) : ∀ w ∈ Bundle.ownAtoms (RN 4) ic (EX n) exNames, w ∈ AW_ ∨ w ∈ ([.laysStatic Bundle.tN "UNASSIGNED_STACK" Bundle.steD, .isRef (.static Bundle.tN "UNASSIGNED_STACK" Bundle.steD), .laysStatic Bundle.tN "SUPPRESSED_SENTINEL" Bundle.listD, .isRef (.static Bundle.tN "SUPPRESSED_SENTINEL" Bundle.listD), .castable (EX n) (EX n), .declares (Bundle.initS (DX 0)), .declares (Bundle.initS (DX 1)), .declares (Bundle.initS (DX 2))] : List Cond) := by
  intro w hw
  have key : w = Cond.methodLink (RN 4) ic (Bundle.initS (EX n)) ∨ w ∈ Bundle.ownAtoms (RN 4) 0 (EX n) exNames ∧ w ≠ Cond.methodLink (RN 4) 0 (Bundle.initS (EX n)) ∨ w = Cond.methodLink (RN 4) 0 (Bundle.initS (EX n)) ∧ ic = 0 := by
    by_cases h1 : w = Cond.methodLink (RN 4) ic (Bundle.initS (EX n))
    · exact Or.inl h1
    · right
      have h2 : w ∈ Bundle.ownAtoms (RN 4) 0 (EX n) exNames := by
        simp only [Bundle.ownAtoms, List.mem_append, List.mem_cons] at hw ⊢
        rcases hw with hw | hw | hw
        · exact Or.inl hw
        · exact absurd hw h1
        · exact Or.inr (Or.inr hw)
      by_cases h3 : w = Cond.methodLink (RN 4) 0 (Bundle.initS (EX n))
      · right
        refine ⟨h3, ?_⟩
        by_cases h4 : ic = 0
        · exact h4
        · exfalso
          subst h3
          rcases exAtoms n hn _ h2 with ⟨h5, -⟩ | h5
          · exact exNo n hn h5
          · exact exNo2 n hn ic h4 hw
      · exact Or.inl ⟨h2, h3⟩
  rcases key with rfl | ⟨h, hne⟩ | ⟨h, rfl⟩
  · exact Or.inl hlk
  · rcases exAtoms n hn w h with ⟨h1, h2⟩ | h1
    · exact Or.inl (aw h1 h2)
    · rcases List.mem_cons.mp h1 with h1 | h1
      · exact absurd h1 hne
      · exact Or.inr h1
  · rw [h]
    exact Or.inl hlk
section Thr
variable {sc : XT} {k pc : Nat} {lv : List (Nat × AV)} {st : List AV} {w : NW} {cells slots : Nat} {Q : QT}
theorem Sem.thr (n : Nat) (hn : n < 3) {ik is ic : Nat} {text : String} (hk4 : mo k = 4) (d0 : decode (cc k) pc = .ok (.new ik, 3)) (d3 : decode (cc k) (pc + 3) = .ok (.dup, 1)) (d4 : decode (cc k) (pc + 4) = .ok (.ldc is, 2)) (d6 : decode (cc k) (pc + 6) = .ok (.invokespecial ic, 3)) (d9 : decode (cc k) (pc + 9) = .ok (.athrow, 1))
    (hcl : Cond.classLink (RN 4) ik (EX n) ∈ AW_) (hini : Cond.initialized (EX n) ∈ AW_) (hins : Cond.instantiable (EX n) 6 ∈ AW_) (hstr : (RN 4, is, text) ∈ strT) (hlk : Cond.methodLink (RN 4) ic (Bundle.initS (EX n)) ∈ AW_) (hnh : hh k = [])
    (hfr : 5 < fr k) (hlo : (st.map ct1).sum + 82 ≤ lo k) (hc : cells + 1 ≤ mc k) (hs : slots + 6 ≤ ms k) (hz : w.2.1 = false) (hQ : Q (.inr (EX n)) w) : Sem sc k pc lv st w cells slots Q := by
  have hfit : Bundle.fit (EX n) = true := (show ∀ n, n < 3 → Bundle.fit (EX n) = true by decide +kernel) n hn
  refine Sem.throw (names := exNames) (text := text) hn rfl d0 d3 d4 d6 d9 hfit exFit (by rw [hk4]; exact hcl) hini hins (by rw [hk4]; exact hstr) (by rw [hk4]; exact exAt hn hlk) (by rw [hnh]; intro x hx; cases hx) hfr hlo hc hs hz hQ
end Thr
end
section
theorem awT1 {w : Cond} (i : Nat) (h : tables_1_1[i]? = some w) (g : goodWord w = true) : w ∈ AW_ := aw (List.mem_append_right _ (List.mem_append_left _ (List.mem_of_getElem? h))) g
theorem awT2 {w : Cond} (i : Nat) (h : tables_1_2[i]? = some w) (g : goodWord w = true) : w ∈ AW_ := aw (List.mem_append_right _ (List.mem_append_right _ (List.mem_append_left _ (List.mem_of_getElem? h)))) g
theorem awT3 {w : Cond} (i : Nat) (h : tables_1_3[i]? = some w) (g : goodWord w = true) : w ∈ AW_ := aw (List.mem_append_right _ (List.mem_append_right _ (List.mem_append_right _ (List.mem_append_left _ (List.mem_of_getElem? h))))) g
theorem awT4 {w : Cond} (i : Nat) (h : tables_1_4[i]? = some w) (g : goodWord w = true) : w ∈ AW_ := aw (List.mem_append_right _ (List.mem_append_right _ (List.mem_append_right _ (List.mem_append_right _ (List.mem_of_getElem? h))))) g
theorem in0 : Cond.initialized (RN 0) ∈ AW_ := awT1 2 rfl rfl
theorem in1 : Cond.initialized (RN 1) ∈ AW_ := awT1 3 rfl rfl
theorem in2 : Cond.initialized (RN 2) ∈ AW_ := awT1 5 rfl rfl
theorem in3 : Cond.initialized (RN 3) ∈ AW_ := awT1 4 rfl rfl
theorem in4 : Cond.initialized (RN 4) ∈ AW_ := awT1 1 rfl rfl
theorem in5 : Cond.initialized (RN 5) ∈ AW_ := awT1 6 rfl rfl
theorem in6 : Cond.initialized (RN 6) ∈ AW_ := awT1 0 rfl rfl
theorem in7 : Cond.initialized (RN 7) ∈ AW_ := awT1 12 rfl rfl
theorem inE0 : Cond.initialized (EX 0) ∈ AW_ := awT1 10 rfl rfl
theorem inE1 : Cond.initialized (EX 1) ∈ AW_ := awT1 11 rfl rfl
theorem inE2 : Cond.initialized (EX 2) ∈ AW_ := awT1 15 rfl rfl
theorem inMath : Cond.initialized "java/lang/Math" ∈ AW_ := awT1 13 rfl rfl
theorem inSys : Cond.initialized "java/lang/System" ∈ AW_ := awT1 14 rfl rfl
theorem co0 : Cond.code (yn 0) (cc 0) (mL 0) (rt 0) ∈ AW_ := awT1 20 rfl rfl
theorem mk0 : MK 0 := ⟨in4, by decide +kernel, ⟨by decide +kernel, by decide +kernel⟩, by decide +kernel, by decide, Or.inl ⟨rfl, co0⟩⟩
theorem im0 : Cond.instanceMethod (yn 0) ∈ AW_ := awT1 19 rfl rfl
theorem co1 : Cond.code (yn 1) (cc 1) (mL 1) (rt 1) ∈ AW_ := awT1 30 rfl rfl
theorem mk1 : MK 1 := ⟨in0, by decide +kernel, ⟨by decide +kernel, by decide +kernel⟩, by decide +kernel, by decide, Or.inl ⟨rfl, co1⟩⟩
theorem im1 : Cond.instanceMethod (yn 1) ∈ AW_ := awT1 29 rfl rfl
theorem co2 : Cond.code (yn 2) (cc 2) (mL 2) (rt 2) ∈ AW_ := awT1 61 rfl rfl
theorem mk2 : MK 2 := ⟨in1, by decide +kernel, ⟨by decide +kernel, by decide +kernel⟩, by decide +kernel, by decide, Or.inl ⟨rfl, co2⟩⟩
theorem im2 : Cond.instanceMethod (yn 2) ∈ AW_ := awT1 60 rfl rfl
theorem co3 : Cond.code (yn 3) (cc 3) (mL 3) (rt 3) ∈ AW_ := awT1 84 rfl rfl
theorem mk3 : MK 3 := ⟨in3, by decide +kernel, ⟨by decide +kernel, by decide +kernel⟩, by decide +kernel, by decide, Or.inl ⟨rfl, co3⟩⟩
theorem im3 : Cond.instanceMethod (yn 3) ∈ AW_ := awT1 83 rfl rfl
theorem co4 : Cond.code (yn 4) (cc 4) (mL 4) (rt 4) ∈ AW_ := awT1 103 rfl rfl
theorem mk4 : MK 4 := ⟨in2, by decide +kernel, ⟨by decide +kernel, by decide +kernel⟩, by decide +kernel, by decide, Or.inl ⟨rfl, co4⟩⟩
theorem im4 : Cond.instanceMethod (yn 4) ∈ AW_ := awT1 102 rfl rfl
theorem co5 : Cond.code (yn 5) (cc 5) (mL 5) (rt 5) ∈ AW_ := awT1 193 rfl rfl
theorem mk5 : MK 5 := ⟨in4, by decide +kernel, ⟨by decide +kernel, by decide +kernel⟩, by decide +kernel, by decide, Or.inl ⟨rfl, co5⟩⟩
theorem im5 : Cond.instanceMethod (yn 5) ∈ AW_ := awT1 191 rfl rfl
theorem se5 : Cond.selects (RN (mo 5)) (yn 5) (yn 5) ∈ AW_ := awT1 192 rfl rfl
theorem co6 : Cond.code (yn 6) (cc 6) (mL 6) (rt 6) ∈ AW_ := awT1 197 rfl rfl
theorem mk6 : MK 6 := ⟨in4, by decide +kernel, ⟨by decide +kernel, by decide +kernel⟩, by decide +kernel, by decide, Or.inl ⟨rfl, co6⟩⟩
theorem im6 : Cond.instanceMethod (yn 6) ∈ AW_ := awT1 196 rfl rfl
theorem se6 : Cond.selects (RN (mo 6)) (yn 6) (yn 6) ∈ AW_ := awP 0 rfl rfl
theorem co7 : Cond.code (yn 7) (cc 7) (mL 7) (rt 7) ∈ AW_ := awT1 201 rfl rfl
theorem mk7 : MK 7 := ⟨in4, by decide +kernel, ⟨by decide +kernel, by decide +kernel⟩, by decide +kernel, by decide, Or.inl ⟨rfl, co7⟩⟩
theorem im7 : Cond.instanceMethod (yn 7) ∈ AW_ := awT1 200 rfl rfl
theorem se7 : Cond.selects (RN (mo 7)) (yn 7) (yn 7) ∈ AW_ := awP 1 rfl rfl
theorem co8 : Cond.code (yn 8) (cc 8) (mL 8) (rt 8) ∈ AW_ := awT1 204 rfl rfl
theorem mk8 : MK 8 := ⟨in7, by decide +kernel, ⟨by decide +kernel, by decide +kernel⟩, by decide +kernel, by decide, Or.inl ⟨rfl, co8⟩⟩
theorem ss8 : Cond.static (yn 8) ∈ AW_ := awT1 203 rfl rfl
theorem co9 : Cond.code (yn 9) (cc 9) (mL 9) (rt 9) ∈ AW_ := awT1 208 rfl rfl
theorem mk9 : MK 9 := ⟨in1, by decide +kernel, ⟨by decide +kernel, by decide +kernel⟩, by decide +kernel, by decide, Or.inl ⟨rfl, co9⟩⟩
theorem im9 : Cond.instanceMethod (yn 9) ∈ AW_ := awT1 206 rfl rfl
theorem se9 : Cond.selects (RN (mo 9)) (yn 9) (yn 9) ∈ AW_ := awT1 207 rfl rfl
theorem co10 : Cond.code (yn 10) (cc 10) (mL 10) (rt 10) ∈ AW_ := awT1 212 rfl rfl
theorem mk10 : MK 10 := ⟨in4, by decide +kernel, ⟨by decide +kernel, by decide +kernel⟩, by decide +kernel, by decide, Or.inl ⟨rfl, co10⟩⟩
theorem im10 : Cond.instanceMethod (yn 10) ∈ AW_ := awT1 211 rfl rfl
theorem se10 : Cond.selects (RN (mo 10)) (yn 10) (yn 10) ∈ AW_ := awP 2 rfl rfl
theorem co11 : Cond.code (yn 11) (cc 11) (mL 11) (rt 11) ∈ AW_ := awT1 215 rfl rfl
theorem mk11 : MK 11 := ⟨in0, by decide +kernel, ⟨by decide +kernel, by decide +kernel⟩, by decide +kernel, by decide, Or.inl ⟨rfl, co11⟩⟩
theorem ss11 : Cond.static (yn 11) ∈ AW_ := awT1 214 rfl rfl
theorem co12 : Cond.code (yn 12) (cc 12) (mL 12) (rt 12) ∈ AW_ := awT1 219 rfl rfl
theorem mk12 : MK 12 := ⟨in2, by decide +kernel, ⟨by decide +kernel, by decide +kernel⟩, by decide +kernel, by decide, Or.inl ⟨rfl, co12⟩⟩
theorem im12 : Cond.instanceMethod (yn 12) ∈ AW_ := awT1 217 rfl rfl
theorem se12 : Cond.selects (RN (mo 12)) (yn 12) (yn 12) ∈ AW_ := awT1 218 rfl rfl
theorem co13 : Cond.code (yn 13) (cc 13) (mL 13) (rt 13) ∈ AW_ := awT1 223 rfl rfl
theorem mk13 : MK 13 := ⟨in2, by decide +kernel, ⟨by decide +kernel, by decide +kernel⟩, by decide +kernel, by decide, Or.inl ⟨rfl, co13⟩⟩
theorem im13 : Cond.instanceMethod (yn 13) ∈ AW_ := awT1 221 rfl rfl
theorem se13 : Cond.selects (RN (mo 13)) (yn 13) (yn 13) ∈ AW_ := awT1 222 rfl rfl
theorem co14 : Cond.code (yn 14) (cc 14) (mL 14) (rt 14) ∈ AW_ := awT1 229 rfl rfl
theorem mk14 : MK 14 := ⟨in2, by decide +kernel, ⟨by decide +kernel, by decide +kernel⟩, by decide +kernel, by decide, Or.inl ⟨rfl, co14⟩⟩
theorem im14 : Cond.instanceMethod (yn 14) ∈ AW_ := awT1 227 rfl rfl
theorem se14 : Cond.selects (RN (mo 14)) (yn 14) (yn 14) ∈ AW_ := awT1 228 rfl rfl
theorem co15 : Cond.code (yn 15) (cc 15) (mL 15) (rt 15) ∈ AW_ := awT1 236 rfl rfl
theorem mk15 : MK 15 := ⟨in3, by decide +kernel, ⟨by decide +kernel, by decide +kernel⟩, by decide +kernel, by decide, Or.inl ⟨rfl, co15⟩⟩
theorem im15 : Cond.instanceMethod (yn 15) ∈ AW_ := awT1 234 rfl rfl
theorem se15 : Cond.selects (RN (mo 15)) (yn 15) (yn 15) ∈ AW_ := awT1 235 rfl rfl
theorem co16 : Cond.code (yn 16) (cc 16) (mL 16) (rt 16) ∈ AW_ := awT2 0 rfl rfl
theorem mk16 : MK 16 := ⟨in3, by decide +kernel, ⟨by decide +kernel, by decide +kernel⟩, by decide +kernel, by decide, Or.inl ⟨rfl, co16⟩⟩
theorem im16 : Cond.instanceMethod (yn 16) ∈ AW_ := awT1 239 rfl rfl
theorem se16 : Cond.selects (RN (mo 16)) (yn 16) (yn 16) ∈ AW_ := awP 3 rfl rfl
theorem co17 : Cond.code (yn 17) (cc 17) (mL 17) (rt 17) ∈ AW_ := awT2 7 rfl rfl
theorem mk17 : MK 17 := ⟨in3, by decide +kernel, ⟨by decide +kernel, by decide +kernel⟩, by decide +kernel, by decide, Or.inl ⟨rfl, co17⟩⟩
theorem im17 : Cond.instanceMethod (yn 17) ∈ AW_ := awT2 6 rfl rfl
theorem se17 : Cond.selects (RN (mo 17)) (yn 17) (yn 17) ∈ AW_ := awP 4 rfl rfl
theorem co18 : Cond.code (yn 18) (cc 18) (mL 18) (rt 18) ∈ AW_ := awT2 11 rfl rfl
theorem mk18 : MK 18 := ⟨in3, by decide +kernel, ⟨by decide +kernel, by decide +kernel⟩, by decide +kernel, by decide, Or.inl ⟨rfl, co18⟩⟩
theorem im18 : Cond.instanceMethod (yn 18) ∈ AW_ := awT2 10 rfl rfl
theorem se18 : Cond.selects (RN (mo 18)) (yn 18) (yn 18) ∈ AW_ := awP 5 rfl rfl
theorem co19 : Cond.code (yn 19) (cc 19) (mL 19) (rt 19) ∈ AW_ := awT2 15 rfl rfl
theorem mk19 : MK 19 := ⟨in3, by decide +kernel, ⟨by decide +kernel, by decide +kernel⟩, by decide +kernel, by decide, Or.inl ⟨rfl, co19⟩⟩
theorem im19 : Cond.instanceMethod (yn 19) ∈ AW_ := awT2 14 rfl rfl
theorem se19 : Cond.selects (RN (mo 19)) (yn 19) (yn 19) ∈ AW_ := awP 6 rfl rfl
theorem co20 : Cond.code (yn 20) (cc 20) (mL 20) (rt 20) ∈ AW_ := awT2 19 rfl rfl
theorem mk20 : MK 20 := ⟨in3, by decide +kernel, ⟨by decide +kernel, by decide +kernel⟩, by decide +kernel, by decide, Or.inl ⟨rfl, co20⟩⟩
theorem im20 : Cond.instanceMethod (yn 20) ∈ AW_ := awT2 18 rfl rfl
theorem se20 : Cond.selects (RN (mo 20)) (yn 20) (yn 20) ∈ AW_ := awP 7 rfl rfl
theorem co21 : Cond.code (yn 21) (cc 21) (mL 21) (rt 21) ∈ AW_ := awT2 22 rfl rfl
theorem mk21 : MK 21 := ⟨in3, by decide +kernel, ⟨by decide +kernel, by decide +kernel⟩, by decide +kernel, by decide, Or.inl ⟨rfl, co21⟩⟩
theorem ss21 : Cond.static (yn 21) ∈ AW_ := awT2 21 rfl rfl
theorem co22 : Cond.codeWith (yn 22) (cc 22) (mL 22) (rt 22) (hh 22) ∈ AW_ := awT2 28 rfl rfl
theorem mk22 : MK 22 := ⟨in6, by decide +kernel, ⟨by decide +kernel, by decide +kernel⟩, by decide +kernel, by decide, Or.inr co22⟩
theorem ss22 : Cond.static (yn 22) ∈ AW_ := awT2 27 rfl rfl
theorem co23 : Cond.code (yn 23) (cc 23) (mL 23) (rt 23) ∈ AW_ := awT2 34 rfl rfl
theorem mk23 : MK 23 := ⟨in4, by decide +kernel, ⟨by decide +kernel, by decide +kernel⟩, by decide +kernel, by decide, Or.inl ⟨rfl, co23⟩⟩
theorem im23 : Cond.instanceMethod (yn 23) ∈ AW_ := awT2 32 rfl rfl
theorem se23 : Cond.selects (RN (mo 23)) (yn 23) (yn 23) ∈ AW_ := awT2 33 rfl rfl
theorem co24 : Cond.code (yn 24) (cc 24) (mL 24) (rt 24) ∈ AW_ := awT2 38 rfl rfl
theorem mk24 : MK 24 := ⟨in4, by decide +kernel, ⟨by decide +kernel, by decide +kernel⟩, by decide +kernel, by decide, Or.inl ⟨rfl, co24⟩⟩
theorem im24 : Cond.instanceMethod (yn 24) ∈ AW_ := awT2 37 rfl rfl
theorem se24 : Cond.selects (RN (mo 24)) (yn 24) (yn 24) ∈ AW_ := awP 8 rfl rfl
theorem co25 : Cond.code (yn 25) (cc 25) (mL 25) (rt 25) ∈ AW_ := awT2 41 rfl rfl
theorem mk25 : MK 25 := ⟨in4, by decide +kernel, ⟨by decide +kernel, by decide +kernel⟩, by decide +kernel, by decide, Or.inl ⟨rfl, co25⟩⟩
theorem ss25 : Cond.static (yn 25) ∈ AW_ := awT2 40 rfl rfl
theorem co26 : Cond.code (yn 26) (cc 26) (mL 26) (rt 26) ∈ AW_ := awT2 112 rfl rfl
theorem mk26 : MK 26 := ⟨in4, by decide +kernel, ⟨by decide +kernel, by decide +kernel⟩, by decide +kernel, by decide, Or.inl ⟨rfl, co26⟩⟩
theorem ss26 : Cond.static (yn 26) ∈ AW_ := awT2 111 rfl rfl
theorem co27 : Cond.codeWith (yn 27) (cc 27) (mL 27) (rt 27) (hh 27) ∈ AW_ := awT2 131 rfl rfl
theorem mk27 : MK 27 := ⟨in6, by decide +kernel, ⟨by decide +kernel, by decide +kernel⟩, by decide +kernel, by decide, Or.inr co27⟩
theorem ss27 : Cond.static (yn 27) ∈ AW_ := awT2 130 rfl rfl
theorem co28 : Cond.code (yn 28) (cc 28) (mL 28) (rt 28) ∈ AW_ := awT2 135 rfl rfl
theorem mk28 : MK 28 := ⟨in4, by decide +kernel, ⟨by decide +kernel, by decide +kernel⟩, by decide +kernel, by decide, Or.inl ⟨rfl, co28⟩⟩
theorem im28 : Cond.instanceMethod (yn 28) ∈ AW_ := awT2 133 rfl rfl
theorem se28 : Cond.selects (RN (mo 28)) (yn 28) (yn 28) ∈ AW_ := awT2 134 rfl rfl
theorem co29 : Cond.codeWith (yn 29) (cc 29) (mL 29) (rt 29) (hh 29) ∈ AW_ := awT2 139 rfl rfl
theorem mk29 : MK 29 := ⟨in6, by decide +kernel, ⟨by decide +kernel, by decide +kernel⟩, by decide +kernel, by decide, Or.inr co29⟩
theorem ss29 : Cond.static (yn 29) ∈ AW_ := awT2 138 rfl rfl
theorem co30 : Cond.code (yn 30) (cc 30) (mL 30) (rt 30) ∈ AW_ := awT2 143 rfl rfl
theorem mk30 : MK 30 := ⟨in4, by decide +kernel, ⟨by decide +kernel, by decide +kernel⟩, by decide +kernel, by decide, Or.inl ⟨rfl, co30⟩⟩
theorem im30 : Cond.instanceMethod (yn 30) ∈ AW_ := awT2 141 rfl rfl
theorem se30 : Cond.selects (RN (mo 30)) (yn 30) (yn 30) ∈ AW_ := awT2 142 rfl rfl
theorem co31 : Cond.code (yn 31) (cc 31) (mL 31) (rt 31) ∈ AW_ := awT2 146 rfl rfl
theorem mk31 : MK 31 := ⟨in4, by decide +kernel, ⟨by decide +kernel, by decide +kernel⟩, by decide +kernel, by decide, Or.inl ⟨rfl, co31⟩⟩
theorem ss31 : Cond.static (yn 31) ∈ AW_ := awT2 145 rfl rfl
theorem co32 : Cond.codeWith (yn 32) (cc 32) (mL 32) (rt 32) (hh 32) ∈ AW_ := awT2 150 rfl rfl
theorem mk32 : MK 32 := ⟨in6, by decide +kernel, ⟨by decide +kernel, by decide +kernel⟩, by decide +kernel, by decide, Or.inr co32⟩
theorem ss32 : Cond.static (yn 32) ∈ AW_ := awT2 149 rfl rfl
theorem co33 : Cond.code (yn 33) (cc 33) (mL 33) (rt 33) ∈ AW_ := awT2 155 rfl rfl
theorem mk33 : MK 33 := ⟨in4, by decide +kernel, ⟨by decide +kernel, by decide +kernel⟩, by decide +kernel, by decide, Or.inl ⟨rfl, co33⟩⟩
theorem im33 : Cond.instanceMethod (yn 33) ∈ AW_ := awT2 153 rfl rfl
theorem se33 : Cond.selects (RN (mo 33)) (yn 33) (yn 33) ∈ AW_ := awT2 154 rfl rfl
theorem co34 : Cond.code (yn 34) (cc 34) (mL 34) (rt 34) ∈ AW_ := awT2 159 rfl rfl
theorem mk34 : MK 34 := ⟨in0, by decide +kernel, ⟨by decide +kernel, by decide +kernel⟩, by decide +kernel, by decide, Or.inl ⟨rfl, co34⟩⟩
theorem im34 : Cond.instanceMethod (yn 34) ∈ AW_ := awT2 157 rfl rfl
theorem se34 : Cond.selects (RN (mo 34)) (yn 34) (yn 34) ∈ AW_ := awT2 158 rfl rfl
theorem co35 : Cond.code (yn 35) (cc 35) (mL 35) (rt 35) ∈ AW_ := awT2 163 rfl rfl
theorem mk35 : MK 35 := ⟨in0, by decide +kernel, ⟨by decide +kernel, by decide +kernel⟩, by decide +kernel, by decide, Or.inl ⟨rfl, co35⟩⟩
theorem im35 : Cond.instanceMethod (yn 35) ∈ AW_ := awT2 162 rfl rfl
theorem se35 : Cond.selects (RN (mo 35)) (yn 35) (yn 35) ∈ AW_ := awP 10 rfl rfl
theorem co36 : Cond.code (yn 36) (cc 36) (mL 36) (rt 36) ∈ AW_ := awT2 167 rfl rfl
theorem mk36 : MK 36 := ⟨in0, by decide +kernel, ⟨by decide +kernel, by decide +kernel⟩, by decide +kernel, by decide, Or.inl ⟨rfl, co36⟩⟩
theorem im36 : Cond.instanceMethod (yn 36) ∈ AW_ := awT2 166 rfl rfl
theorem se36 : Cond.selects (RN (mo 36)) (yn 36) (yn 36) ∈ AW_ := awP 11 rfl rfl
theorem co37 : Cond.code (yn 37) (cc 37) (mL 37) (rt 37) ∈ AW_ := awT2 170 rfl rfl
theorem mk37 : MK 37 := ⟨in7, by decide +kernel, ⟨by decide +kernel, by decide +kernel⟩, by decide +kernel, by decide, Or.inl ⟨rfl, co37⟩⟩
theorem ss37 : Cond.static (yn 37) ∈ AW_ := awT2 169 rfl rfl
theorem co38 : Cond.code (yn 38) (cc 38) (mL 38) (rt 38) ∈ AW_ := awT2 179 rfl rfl
theorem mk38 : MK 38 := ⟨in0, by decide +kernel, ⟨by decide +kernel, by decide +kernel⟩, by decide +kernel, by decide, Or.inl ⟨rfl, co38⟩⟩
theorem im38 : Cond.instanceMethod (yn 38) ∈ AW_ := awT2 177 rfl rfl
theorem se38 : Cond.selects (RN (mo 38)) (yn 38) (yn 38) ∈ AW_ := awT2 178 rfl rfl
theorem co39 : Cond.code (yn 39) (cc 39) (mL 39) (rt 39) ∈ AW_ := awT2 199 rfl rfl
theorem mk39 : MK 39 := ⟨in0, by decide +kernel, ⟨by decide +kernel, by decide +kernel⟩, by decide +kernel, by decide, Or.inl ⟨rfl, co39⟩⟩
theorem im39 : Cond.instanceMethod (yn 39) ∈ AW_ := awT2 197 rfl rfl
theorem se39 : Cond.selects (RN (mo 39)) (yn 39) (yn 39) ∈ AW_ := awT2 198 rfl rfl
theorem co40 : Cond.codeWith (yn 40) (cc 40) (mL 40) (rt 40) (hh 40) ∈ AW_ := awT2 202 rfl rfl
theorem mk40 : MK 40 := ⟨in6, by decide +kernel, ⟨by decide +kernel, by decide +kernel⟩, by decide +kernel, by decide, Or.inr co40⟩
theorem ss40 : Cond.static (yn 40) ∈ AW_ := awT2 201 rfl rfl
theorem co41 : Cond.code (yn 41) (cc 41) (mL 41) (rt 41) ∈ AW_ := awT2 206 rfl rfl
theorem mk41 : MK 41 := ⟨in4, by decide +kernel, ⟨by decide +kernel, by decide +kernel⟩, by decide +kernel, by decide, Or.inl ⟨rfl, co41⟩⟩
theorem im41 : Cond.instanceMethod (yn 41) ∈ AW_ := awT2 204 rfl rfl
theorem se41 : Cond.selects (RN (mo 41)) (yn 41) (yn 41) ∈ AW_ := awT2 205 rfl rfl
theorem co42 : Cond.codeWith (yn 42) (cc 42) (mL 42) (rt 42) (hh 42) ∈ AW_ := awT2 209 rfl rfl
theorem mk42 : MK 42 := ⟨in6, by decide +kernel, ⟨by decide +kernel, by decide +kernel⟩, by decide +kernel, by decide, Or.inr co42⟩
theorem ss42 : Cond.static (yn 42) ∈ AW_ := awT2 208 rfl rfl
theorem co43 : Cond.code (yn 43) (cc 43) (mL 43) (rt 43) ∈ AW_ := awT2 213 rfl rfl
theorem mk43 : MK 43 := ⟨in4, by decide +kernel, ⟨by decide +kernel, by decide +kernel⟩, by decide +kernel, by decide, Or.inl ⟨rfl, co43⟩⟩
theorem im43 : Cond.instanceMethod (yn 43) ∈ AW_ := awT2 211 rfl rfl
theorem se43 : Cond.selects (RN (mo 43)) (yn 43) (yn 43) ∈ AW_ := awT2 212 rfl rfl
theorem co44 : Cond.code (yn 44) (cc 44) (mL 44) (rt 44) ∈ AW_ := awT2 217 rfl rfl
theorem mk44 : MK 44 := ⟨in4, by decide +kernel, ⟨by decide +kernel, by decide +kernel⟩, by decide +kernel, by decide, Or.inl ⟨rfl, co44⟩⟩
theorem im44 : Cond.instanceMethod (yn 44) ∈ AW_ := awT2 216 rfl rfl
theorem se44 : Cond.selects (RN (mo 44)) (yn 44) (yn 44) ∈ AW_ := awP 12 rfl rfl
theorem co45 : Cond.code (yn 45) (cc 45) (mL 45) (rt 45) ∈ AW_ := awT2 220 rfl rfl
theorem mk45 : MK 45 := ⟨in4, by decide +kernel, ⟨by decide +kernel, by decide +kernel⟩, by decide +kernel, by decide, Or.inl ⟨rfl, co45⟩⟩
theorem ss45 : Cond.static (yn 45) ∈ AW_ := awT2 219 rfl rfl
theorem co46 : Cond.code (yn 46) (cc 46) (mL 46) (rt 46) ∈ AW_ := awT2 224 rfl rfl
theorem mk46 : MK 46 := ⟨in4, by decide +kernel, ⟨by decide +kernel, by decide +kernel⟩, by decide +kernel, by decide, Or.inl ⟨rfl, co46⟩⟩
theorem ss46 : Cond.static (yn 46) ∈ AW_ := awT2 223 rfl rfl
theorem co47 : Cond.code (yn 47) (cc 47) (mL 47) (rt 47) ∈ AW_ := awT2 228 rfl rfl
theorem mk47 : MK 47 := ⟨in1, by decide +kernel, ⟨by decide +kernel, by decide +kernel⟩, by decide +kernel, by decide, Or.inl ⟨rfl, co47⟩⟩
theorem im47 : Cond.instanceMethod (yn 47) ∈ AW_ := awT2 226 rfl rfl
theorem se47 : Cond.selects (RN (mo 47)) (yn 47) (yn 47) ∈ AW_ := awT2 227 rfl rfl
theorem co48 : Cond.code (yn 48) (cc 48) (mL 48) (rt 48) ∈ AW_ := awT2 233 rfl rfl
theorem mk48 : MK 48 := ⟨in1, by decide +kernel, ⟨by decide +kernel, by decide +kernel⟩, by decide +kernel, by decide, Or.inl ⟨rfl, co48⟩⟩
theorem im48 : Cond.instanceMethod (yn 48) ∈ AW_ := awT2 231 rfl rfl
theorem se48 : Cond.selects (RN (mo 48)) (yn 48) (yn 48) ∈ AW_ := awT2 232 rfl rfl
theorem co49 : Cond.codeWith (yn 49) (cc 49) (mL 49) (rt 49) (hh 49) ∈ AW_ := awT2 237 rfl rfl
theorem mk49 : MK 49 := ⟨in6, by decide +kernel, ⟨by decide +kernel, by decide +kernel⟩, by decide +kernel, by decide, Or.inr co49⟩
theorem ss49 : Cond.static (yn 49) ∈ AW_ := awT2 236 rfl rfl
theorem co50 : Cond.code (yn 50) (cc 50) (mL 50) (rt 50) ∈ AW_ := awT3 1 rfl rfl
theorem mk50 : MK 50 := ⟨in4, by decide +kernel, ⟨by decide +kernel, by decide +kernel⟩, by decide +kernel, by decide, Or.inl ⟨rfl, co50⟩⟩
theorem im50 : Cond.instanceMethod (yn 50) ∈ AW_ := awT2 239 rfl rfl
theorem se50 : Cond.selects (RN (mo 50)) (yn 50) (yn 50) ∈ AW_ := awT3 0 rfl rfl
theorem co51 : Cond.code (yn 51) (cc 51) (mL 51) (rt 51) ∈ AW_ := awT3 4 rfl rfl
theorem mk51 : MK 51 := ⟨in4, by decide +kernel, ⟨by decide +kernel, by decide +kernel⟩, by decide +kernel, by decide, Or.inl ⟨rfl, co51⟩⟩
theorem ss51 : Cond.static (yn 51) ∈ AW_ := awT3 3 rfl rfl
theorem co52 : Cond.code (yn 52) (cc 52) (mL 52) (rt 52) ∈ AW_ := awT3 9 rfl rfl
theorem mk52 : MK 52 := ⟨in1, by decide +kernel, ⟨by decide +kernel, by decide +kernel⟩, by decide +kernel, by decide, Or.inl ⟨rfl, co52⟩⟩
theorem im52 : Cond.instanceMethod (yn 52) ∈ AW_ := awT3 7 rfl rfl
theorem se52 : Cond.selects (RN (mo 52)) (yn 52) (yn 52) ∈ AW_ := awT3 8 rfl rfl
theorem co53 : Cond.codeWith (yn 53) (cc 53) (mL 53) (rt 53) (hh 53) ∈ AW_ := awT3 12 rfl rfl
theorem mk53 : MK 53 := ⟨in6, by decide +kernel, ⟨by decide +kernel, by decide +kernel⟩, by decide +kernel, by decide, Or.inr co53⟩
theorem ss53 : Cond.static (yn 53) ∈ AW_ := awT3 11 rfl rfl
theorem co54 : Cond.code (yn 54) (cc 54) (mL 54) (rt 54) ∈ AW_ := awT3 16 rfl rfl
theorem mk54 : MK 54 := ⟨in4, by decide +kernel, ⟨by decide +kernel, by decide +kernel⟩, by decide +kernel, by decide, Or.inl ⟨rfl, co54⟩⟩
theorem im54 : Cond.instanceMethod (yn 54) ∈ AW_ := awT3 14 rfl rfl
theorem se54 : Cond.selects (RN (mo 54)) (yn 54) (yn 54) ∈ AW_ := awT3 15 rfl rfl
theorem co55 : Cond.codeWith (yn 55) (cc 55) (mL 55) (rt 55) (hh 55) ∈ AW_ := awT3 19 rfl rfl
theorem mk55 : MK 55 := ⟨in6, by decide +kernel, ⟨by decide +kernel, by decide +kernel⟩, by decide +kernel, by decide, Or.inr co55⟩
theorem ss55 : Cond.static (yn 55) ∈ AW_ := awT3 18 rfl rfl
theorem co56 : Cond.code (yn 56) (cc 56) (mL 56) (rt 56) ∈ AW_ := awT3 23 rfl rfl
theorem mk56 : MK 56 := ⟨in4, by decide +kernel, ⟨by decide +kernel, by decide +kernel⟩, by decide +kernel, by decide, Or.inl ⟨rfl, co56⟩⟩
theorem im56 : Cond.instanceMethod (yn 56) ∈ AW_ := awT3 21 rfl rfl
theorem se56 : Cond.selects (RN (mo 56)) (yn 56) (yn 56) ∈ AW_ := awT3 22 rfl rfl
theorem co57 : Cond.codeWith (yn 57) (cc 57) (mL 57) (rt 57) (hh 57) ∈ AW_ := awT3 26 rfl rfl
theorem mk57 : MK 57 := ⟨in6, by decide +kernel, ⟨by decide +kernel, by decide +kernel⟩, by decide +kernel, by decide, Or.inr co57⟩
theorem ss57 : Cond.static (yn 57) ∈ AW_ := awT3 25 rfl rfl
theorem co58 : Cond.code (yn 58) (cc 58) (mL 58) (rt 58) ∈ AW_ := awT3 30 rfl rfl
theorem mk58 : MK 58 := ⟨in4, by decide +kernel, ⟨by decide +kernel, by decide +kernel⟩, by decide +kernel, by decide, Or.inl ⟨rfl, co58⟩⟩
theorem im58 : Cond.instanceMethod (yn 58) ∈ AW_ := awT3 28 rfl rfl
theorem se58 : Cond.selects (RN (mo 58)) (yn 58) (yn 58) ∈ AW_ := awT3 29 rfl rfl
theorem co59 : Cond.code (yn 59) (cc 59) (mL 59) (rt 59) ∈ AW_ := awT3 34 rfl rfl
theorem mk59 : MK 59 := ⟨in4, by decide +kernel, ⟨by decide +kernel, by decide +kernel⟩, by decide +kernel, by decide, Or.inl ⟨rfl, co59⟩⟩
theorem im59 : Cond.instanceMethod (yn 59) ∈ AW_ := awT3 33 rfl rfl
theorem se59 : Cond.selects (RN (mo 59)) (yn 59) (yn 59) ∈ AW_ := awP 13 rfl rfl
theorem co60 : Cond.code (yn 60) (cc 60) (mL 60) (rt 60) ∈ AW_ := awT3 38 rfl rfl
theorem mk60 : MK 60 := ⟨in4, by decide +kernel, ⟨by decide +kernel, by decide +kernel⟩, by decide +kernel, by decide, Or.inl ⟨rfl, co60⟩⟩
theorem im60 : Cond.instanceMethod (yn 60) ∈ AW_ := awT3 37 rfl rfl
theorem se60 : Cond.selects (RN (mo 60)) (yn 60) (yn 60) ∈ AW_ := awP 14 rfl rfl
theorem co61 : Cond.codeWith (yn 61) (cc 61) (mL 61) (rt 61) (hh 61) ∈ AW_ := awT3 42 rfl rfl
theorem mk61 : MK 61 := ⟨in6, by decide +kernel, ⟨by decide +kernel, by decide +kernel⟩, by decide +kernel, by decide, Or.inr co61⟩
theorem ss61 : Cond.static (yn 61) ∈ AW_ := awT3 41 rfl rfl
theorem co62 : Cond.code (yn 62) (cc 62) (mL 62) (rt 62) ∈ AW_ := awT3 46 rfl rfl
theorem mk62 : MK 62 := ⟨in4, by decide +kernel, ⟨by decide +kernel, by decide +kernel⟩, by decide +kernel, by decide, Or.inl ⟨rfl, co62⟩⟩
theorem im62 : Cond.instanceMethod (yn 62) ∈ AW_ := awT3 44 rfl rfl
theorem se62 : Cond.selects (RN (mo 62)) (yn 62) (yn 62) ∈ AW_ := awT3 45 rfl rfl
theorem co63 : Cond.codeWith (yn 63) (cc 63) (mL 63) (rt 63) (hh 63) ∈ AW_ := awT3 49 rfl rfl
theorem mk63 : MK 63 := ⟨in6, by decide +kernel, ⟨by decide +kernel, by decide +kernel⟩, by decide +kernel, by decide, Or.inr co63⟩
theorem ss63 : Cond.static (yn 63) ∈ AW_ := awT3 48 rfl rfl
theorem co64 : Cond.code (yn 64) (cc 64) (mL 64) (rt 64) ∈ AW_ := awT3 53 rfl rfl
theorem mk64 : MK 64 := ⟨in4, by decide +kernel, ⟨by decide +kernel, by decide +kernel⟩, by decide +kernel, by decide, Or.inl ⟨rfl, co64⟩⟩
theorem im64 : Cond.instanceMethod (yn 64) ∈ AW_ := awT3 51 rfl rfl
theorem se64 : Cond.selects (RN (mo 64)) (yn 64) (yn 64) ∈ AW_ := awT3 52 rfl rfl
theorem co65 : Cond.codeWith (yn 65) (cc 65) (mL 65) (rt 65) (hh 65) ∈ AW_ := awT3 56 rfl rfl
theorem mk65 : MK 65 := ⟨in6, by decide +kernel, ⟨by decide +kernel, by decide +kernel⟩, by decide +kernel, by decide, Or.inr co65⟩
theorem ss65 : Cond.static (yn 65) ∈ AW_ := awT3 55 rfl rfl
theorem co66 : Cond.code (yn 66) (cc 66) (mL 66) (rt 66) ∈ AW_ := awT3 60 rfl rfl
theorem mk66 : MK 66 := ⟨in4, by decide +kernel, ⟨by decide +kernel, by decide +kernel⟩, by decide +kernel, by decide, Or.inl ⟨rfl, co66⟩⟩
theorem im66 : Cond.instanceMethod (yn 66) ∈ AW_ := awT3 58 rfl rfl
theorem se66 : Cond.selects (RN (mo 66)) (yn 66) (yn 66) ∈ AW_ := awT3 59 rfl rfl
theorem co67 : Cond.code (yn 67) (cc 67) (mL 67) (rt 67) ∈ AW_ := awT3 64 rfl rfl
theorem mk67 : MK 67 := ⟨in4, by decide +kernel, ⟨by decide +kernel, by decide +kernel⟩, by decide +kernel, by decide, Or.inl ⟨rfl, co67⟩⟩
theorem im67 : Cond.instanceMethod (yn 67) ∈ AW_ := awT3 63 rfl rfl
theorem se67 : Cond.selects (RN (mo 67)) (yn 67) (yn 67) ∈ AW_ := awP 15 rfl rfl
theorem co68 : Cond.code (yn 68) (cc 68) (mL 68) (rt 68) ∈ AW_ := awT3 68 rfl rfl
theorem mk68 : MK 68 := ⟨in1, by decide +kernel, ⟨by decide +kernel, by decide +kernel⟩, by decide +kernel, by decide, Or.inl ⟨rfl, co68⟩⟩
theorem im68 : Cond.instanceMethod (yn 68) ∈ AW_ := awT3 66 rfl rfl
theorem se68 : Cond.selects (RN (mo 68)) (yn 68) (yn 68) ∈ AW_ := awT3 67 rfl rfl
theorem co69 : Cond.code (yn 69) (cc 69) (mL 69) (rt 69) ∈ AW_ := awT3 72 rfl rfl
theorem mk69 : MK 69 := ⟨in1, by decide +kernel, ⟨by decide +kernel, by decide +kernel⟩, by decide +kernel, by decide, Or.inl ⟨rfl, co69⟩⟩
theorem im69 : Cond.instanceMethod (yn 69) ∈ AW_ := awT3 70 rfl rfl
theorem se69 : Cond.selects (RN (mo 69)) (yn 69) (yn 69) ∈ AW_ := awT3 71 rfl rfl
theorem co70 : Cond.code (yn 70) (cc 70) (mL 70) (rt 70) ∈ AW_ := awT3 75 rfl rfl
theorem mk70 : MK 70 := ⟨in4, by decide +kernel, ⟨by decide +kernel, by decide +kernel⟩, by decide +kernel, by decide, Or.inl ⟨rfl, co70⟩⟩
theorem ss70 : Cond.static (yn 70) ∈ AW_ := awT3 74 rfl rfl
theorem co71 : Cond.code (yn 71) (cc 71) (mL 71) (rt 71) ∈ AW_ := awT3 79 rfl rfl
theorem mk71 : MK 71 := ⟨in4, by decide +kernel, ⟨by decide +kernel, by decide +kernel⟩, by decide +kernel, by decide, Or.inl ⟨rfl, co71⟩⟩
theorem im71 : Cond.instanceMethod (yn 71) ∈ AW_ := awT3 78 rfl rfl
theorem se71 : Cond.selects (RN (mo 71)) (yn 71) (yn 71) ∈ AW_ := awP 16 rfl rfl
theorem co72 : Cond.code (yn 72) (cc 72) (mL 72) (rt 72) ∈ AW_ := awT3 87 rfl rfl
theorem mk72 : MK 72 := ⟨in4, by decide +kernel, ⟨by decide +kernel, by decide +kernel⟩, by decide +kernel, by decide, Or.inl ⟨rfl, co72⟩⟩
theorem im72 : Cond.instanceMethod (yn 72) ∈ AW_ := awT3 86 rfl rfl
theorem se72 : Cond.selects (RN (mo 72)) (yn 72) (yn 72) ∈ AW_ := awP 17 rfl rfl
theorem co73 : Cond.codeWith (yn 73) (cc 73) (mL 73) (rt 73) (hh 73) ∈ AW_ := awT3 90 rfl rfl
theorem mk73 : MK 73 := ⟨in6, by decide +kernel, ⟨by decide +kernel, by decide +kernel⟩, by decide +kernel, by decide, Or.inr co73⟩
theorem ss73 : Cond.static (yn 73) ∈ AW_ := awT3 89 rfl rfl
theorem co74 : Cond.code (yn 74) (cc 74) (mL 74) (rt 74) ∈ AW_ := awT3 94 rfl rfl
theorem mk74 : MK 74 := ⟨in4, by decide +kernel, ⟨by decide +kernel, by decide +kernel⟩, by decide +kernel, by decide, Or.inl ⟨rfl, co74⟩⟩
theorem im74 : Cond.instanceMethod (yn 74) ∈ AW_ := awT3 92 rfl rfl
theorem se74 : Cond.selects (RN (mo 74)) (yn 74) (yn 74) ∈ AW_ := awT3 93 rfl rfl
theorem co75 : Cond.code (yn 75) (cc 75) (mL 75) (rt 75) ∈ AW_ := awT3 98 rfl rfl
theorem mk75 : MK 75 := ⟨in4, by decide +kernel, ⟨by decide +kernel, by decide +kernel⟩, by decide +kernel, by decide, Or.inl ⟨rfl, co75⟩⟩
theorem im75 : Cond.instanceMethod (yn 75) ∈ AW_ := awT3 97 rfl rfl
theorem se75 : Cond.selects (RN (mo 75)) (yn 75) (yn 75) ∈ AW_ := awP 18 rfl rfl
theorem co76 : Cond.codeWith (yn 76) (cc 76) (mL 76) (rt 76) (hh 76) ∈ AW_ := awT3 101 rfl rfl
theorem mk76 : MK 76 := ⟨in6, by decide +kernel, ⟨by decide +kernel, by decide +kernel⟩, by decide +kernel, by decide, Or.inr co76⟩
theorem ss76 : Cond.static (yn 76) ∈ AW_ := awT3 100 rfl rfl
theorem co77 : Cond.code (yn 77) (cc 77) (mL 77) (rt 77) ∈ AW_ := awT3 105 rfl rfl
theorem mk77 : MK 77 := ⟨in4, by decide +kernel, ⟨by decide +kernel, by decide +kernel⟩, by decide +kernel, by decide, Or.inl ⟨rfl, co77⟩⟩
theorem im77 : Cond.instanceMethod (yn 77) ∈ AW_ := awT3 103 rfl rfl
theorem se77 : Cond.selects (RN (mo 77)) (yn 77) (yn 77) ∈ AW_ := awT3 104 rfl rfl
theorem co78 : Cond.codeWith (yn 78) (cc 78) (mL 78) (rt 78) (hh 78) ∈ AW_ := awT3 108 rfl rfl
theorem mk78 : MK 78 := ⟨in6, by decide +kernel, ⟨by decide +kernel, by decide +kernel⟩, by decide +kernel, by decide, Or.inr co78⟩
theorem ss78 : Cond.static (yn 78) ∈ AW_ := awT3 107 rfl rfl
theorem co79 : Cond.code (yn 79) (cc 79) (mL 79) (rt 79) ∈ AW_ := awT3 112 rfl rfl
theorem mk79 : MK 79 := ⟨in4, by decide +kernel, ⟨by decide +kernel, by decide +kernel⟩, by decide +kernel, by decide, Or.inl ⟨rfl, co79⟩⟩
theorem im79 : Cond.instanceMethod (yn 79) ∈ AW_ := awT3 110 rfl rfl
theorem se79 : Cond.selects (RN (mo 79)) (yn 79) (yn 79) ∈ AW_ := awT3 111 rfl rfl
theorem co80 : Cond.codeWith (yn 80) (cc 80) (mL 80) (rt 80) (hh 80) ∈ AW_ := awT3 115 rfl rfl
theorem mk80 : MK 80 := ⟨in6, by decide +kernel, ⟨by decide +kernel, by decide +kernel⟩, by decide +kernel, by decide, Or.inr co80⟩
theorem ss80 : Cond.static (yn 80) ∈ AW_ := awT3 114 rfl rfl
theorem co81 : Cond.code (yn 81) (cc 81) (mL 81) (rt 81) ∈ AW_ := awT3 119 rfl rfl
theorem mk81 : MK 81 := ⟨in4, by decide +kernel, ⟨by decide +kernel, by decide +kernel⟩, by decide +kernel, by decide, Or.inl ⟨rfl, co81⟩⟩
theorem im81 : Cond.instanceMethod (yn 81) ∈ AW_ := awT3 117 rfl rfl
theorem se81 : Cond.selects (RN (mo 81)) (yn 81) (yn 81) ∈ AW_ := awT3 118 rfl rfl
theorem co82 : Cond.codeWith (yn 82) (cc 82) (mL 82) (rt 82) (hh 82) ∈ AW_ := awT3 122 rfl rfl
theorem mk82 : MK 82 := ⟨in6, by decide +kernel, ⟨by decide +kernel, by decide +kernel⟩, by decide +kernel, by decide, Or.inr co82⟩
theorem ss82 : Cond.static (yn 82) ∈ AW_ := awT3 121 rfl rfl
theorem co83 : Cond.code (yn 83) (cc 83) (mL 83) (rt 83) ∈ AW_ := awT3 126 rfl rfl
theorem mk83 : MK 83 := ⟨in4, by decide +kernel, ⟨by decide +kernel, by decide +kernel⟩, by decide +kernel, by decide, Or.inl ⟨rfl, co83⟩⟩
theorem im83 : Cond.instanceMethod (yn 83) ∈ AW_ := awT3 124 rfl rfl
theorem se83 : Cond.selects (RN (mo 83)) (yn 83) (yn 83) ∈ AW_ := awT3 125 rfl rfl
theorem co84 : Cond.code (yn 84) (cc 84) (mL 84) (rt 84) ∈ AW_ := awT3 130 rfl rfl
theorem mk84 : MK 84 := ⟨in4, by decide +kernel, ⟨by decide +kernel, by decide +kernel⟩, by decide +kernel, by decide, Or.inl ⟨rfl, co84⟩⟩
theorem im84 : Cond.instanceMethod (yn 84) ∈ AW_ := awT3 129 rfl rfl
theorem se84 : Cond.selects (RN (mo 84)) (yn 84) (yn 84) ∈ AW_ := awP 19 rfl rfl
theorem co85 : Cond.code (yn 85) (cc 85) (mL 85) (rt 85) ∈ AW_ := awT3 134 rfl rfl
theorem mk85 : MK 85 := ⟨in2, by decide +kernel, ⟨by decide +kernel, by decide +kernel⟩, by decide +kernel, by decide, Or.inl ⟨rfl, co85⟩⟩
theorem im85 : Cond.instanceMethod (yn 85) ∈ AW_ := awT3 132 rfl rfl
theorem se85 : Cond.selects (RN (mo 85)) (yn 85) (yn 85) ∈ AW_ := awT3 133 rfl rfl
theorem co86 : Cond.code (yn 86) (cc 86) (mL 86) (rt 86) ∈ AW_ := awT3 139 rfl rfl
theorem mk86 : MK 86 := ⟨in5, by decide +kernel, ⟨by decide +kernel, by decide +kernel⟩, by decide +kernel, by decide, Or.inl ⟨rfl, co86⟩⟩
theorem im86 : Cond.instanceMethod (yn 86) ∈ AW_ := awT3 138 rfl rfl
theorem co87 : Cond.code (yn 87) (cc 87) (mL 87) (rt 87) ∈ AW_ := awT3 227 rfl rfl
theorem mk87 : MK 87 := ⟨in5, by decide +kernel, ⟨by decide +kernel, by decide +kernel⟩, by decide +kernel, by decide, Or.inl ⟨rfl, co87⟩⟩
theorem im87 : Cond.instanceMethod (yn 87) ∈ AW_ := awT3 225 rfl rfl
theorem se87 : Cond.selects (RN (mo 87)) (yn 87) (yn 87) ∈ AW_ := awT3 226 rfl rfl
theorem co88 : Cond.code (yn 88) (cc 88) (mL 88) (rt 88) ∈ AW_ := awT3 231 rfl rfl
theorem mk88 : MK 88 := ⟨in5, by decide +kernel, ⟨by decide +kernel, by decide +kernel⟩, by decide +kernel, by decide, Or.inl ⟨rfl, co88⟩⟩
theorem im88 : Cond.instanceMethod (yn 88) ∈ AW_ := awT3 229 rfl rfl
theorem se88 : Cond.selects (RN (mo 88)) (yn 88) (yn 88) ∈ AW_ := awT3 230 rfl rfl
theorem co89 : Cond.code (yn 89) (cc 89) (mL 89) (rt 89) ∈ AW_ := awT3 234 rfl rfl
theorem mk89 : MK 89 := ⟨in5, by decide +kernel, ⟨by decide +kernel, by decide +kernel⟩, by decide +kernel, by decide, Or.inl ⟨rfl, co89⟩⟩
theorem ss89 : Cond.static (yn 89) ∈ AW_ := awT3 233 rfl rfl
theorem co90 : Cond.code (yn 90) (cc 90) (mL 90) (rt 90) ∈ AW_ := awT3 237 rfl rfl
theorem mk90 : MK 90 := ⟨in5, by decide +kernel, ⟨by decide +kernel, by decide +kernel⟩, by decide +kernel, by decide, Or.inl ⟨rfl, co90⟩⟩
theorem ss90 : Cond.static (yn 90) ∈ AW_ := awT3 236 rfl rfl
theorem co91 : Cond.code (yn 91) (cc 91) (mL 91) (rt 91) ∈ AW_ := awT4 1 rfl rfl
theorem mk91 : MK 91 := ⟨in5, by decide +kernel, ⟨by decide +kernel, by decide +kernel⟩, by decide +kernel, by decide, Or.inl ⟨rfl, co91⟩⟩
theorem im91 : Cond.instanceMethod (yn 91) ∈ AW_ := awT4 0 rfl rfl
theorem se91 : Cond.selects (RN (mo 91)) (yn 91) (yn 91) ∈ AW_ := awP 20 rfl rfl
theorem co92 : Cond.code (yn 92) (cc 92) (mL 92) (rt 92) ∈ AW_ := awT4 5 rfl rfl
theorem mk92 : MK 92 := ⟨in5, by decide +kernel, ⟨by decide +kernel, by decide +kernel⟩, by decide +kernel, by decide, Or.inl ⟨rfl, co92⟩⟩
theorem im92 : Cond.instanceMethod (yn 92) ∈ AW_ := awT4 4 rfl rfl
theorem se92 : Cond.selects (RN (mo 92)) (yn 92) (yn 92) ∈ AW_ := awP 21 rfl rfl
theorem co93 : Cond.code (yn 93) (cc 93) (mL 93) (rt 93) ∈ AW_ := awT4 9 rfl rfl
theorem mk93 : MK 93 := ⟨in5, by decide +kernel, ⟨by decide +kernel, by decide +kernel⟩, by decide +kernel, by decide, Or.inl ⟨rfl, co93⟩⟩
theorem im93 : Cond.instanceMethod (yn 93) ∈ AW_ := awT4 7 rfl rfl
theorem se93 : Cond.selects (RN (mo 93)) (yn 93) (yn 93) ∈ AW_ := awT4 8 rfl rfl
theorem co94 : Cond.code (yn 94) (cc 94) (mL 94) (rt 94) ∈ AW_ := awT4 14 rfl rfl
theorem mk94 : MK 94 := ⟨in5, by decide +kernel, ⟨by decide +kernel, by decide +kernel⟩, by decide +kernel, by decide, Or.inl ⟨rfl, co94⟩⟩
theorem im94 : Cond.instanceMethod (yn 94) ∈ AW_ := awT4 12 rfl rfl
theorem se94 : Cond.selects (RN (mo 94)) (yn 94) (yn 94) ∈ AW_ := awT4 13 rfl rfl
theorem co95 : Cond.code (yn 95) (cc 95) (mL 95) (rt 95) ∈ AW_ := awT4 18 rfl rfl
theorem mk95 : MK 95 := ⟨in5, by decide +kernel, ⟨by decide +kernel, by decide +kernel⟩, by decide +kernel, by decide, Or.inl ⟨rfl, co95⟩⟩
theorem im95 : Cond.instanceMethod (yn 95) ∈ AW_ := awT4 16 rfl rfl
theorem se95 : Cond.selects (RN (mo 95)) (yn 95) (yn 95) ∈ AW_ := awT4 17 rfl rfl
theorem co96 : Cond.code (yn 96) (cc 96) (mL 96) (rt 96) ∈ AW_ := awT4 22 rfl rfl
theorem mk96 : MK 96 := ⟨in5, by decide +kernel, ⟨by decide +kernel, by decide +kernel⟩, by decide +kernel, by decide, Or.inl ⟨rfl, co96⟩⟩
theorem im96 : Cond.instanceMethod (yn 96) ∈ AW_ := awT4 21 rfl rfl
theorem se96 : Cond.selects (RN (mo 96)) (yn 96) (yn 96) ∈ AW_ := awP 22 rfl rfl
theorem co97 : Cond.code (yn 97) (cc 97) (mL 97) (rt 97) ∈ AW_ := awT4 26 rfl rfl
theorem mk97 : MK 97 := ⟨in5, by decide +kernel, ⟨by decide +kernel, by decide +kernel⟩, by decide +kernel, by decide, Or.inl ⟨rfl, co97⟩⟩
theorem im97 : Cond.instanceMethod (yn 97) ∈ AW_ := awT4 25 rfl rfl
theorem se97 : Cond.selects (RN (mo 97)) (yn 97) (yn 97) ∈ AW_ := awP 23 rfl rfl
theorem co98 : Cond.code (yn 98) (cc 98) (mL 98) (rt 98) ∈ AW_ := awT4 30 rfl rfl
theorem mk98 : MK 98 := ⟨in5, by decide +kernel, ⟨by decide +kernel, by decide +kernel⟩, by decide +kernel, by decide, Or.inl ⟨rfl, co98⟩⟩
theorem im98 : Cond.instanceMethod (yn 98) ∈ AW_ := awT4 29 rfl rfl
theorem se98 : Cond.selects (RN (mo 98)) (yn 98) (yn 98) ∈ AW_ := awP 24 rfl rfl
theorem co99 : Cond.code (yn 99) (cc 99) (mL 99) (rt 99) ∈ AW_ := awT4 34 rfl rfl
theorem mk99 : MK 99 := ⟨in5, by decide +kernel, ⟨by decide +kernel, by decide +kernel⟩, by decide +kernel, by decide, Or.inl ⟨rfl, co99⟩⟩
theorem im99 : Cond.instanceMethod (yn 99) ∈ AW_ := awT4 32 rfl rfl
theorem se99 : Cond.selects (RN (mo 99)) (yn 99) (yn 99) ∈ AW_ := awT4 33 rfl rfl
theorem co100 : Cond.code (yn 100) (cc 100) (mL 100) (rt 100) ∈ AW_ := awT4 38 rfl rfl
theorem mk100 : MK 100 := ⟨in5, by decide +kernel, ⟨by decide +kernel, by decide +kernel⟩, by decide +kernel, by decide, Or.inl ⟨rfl, co100⟩⟩
theorem im100 : Cond.instanceMethod (yn 100) ∈ AW_ := awT4 36 rfl rfl
theorem se100 : Cond.selects (RN (mo 100)) (yn 100) (yn 100) ∈ AW_ := awT4 37 rfl rfl
theorem co101 : Cond.code (yn 101) (cc 101) (mL 101) (rt 101) ∈ AW_ := awT4 42 rfl rfl
theorem mk101 : MK 101 := ⟨in5, by decide +kernel, ⟨by decide +kernel, by decide +kernel⟩, by decide +kernel, by decide, Or.inl ⟨rfl, co101⟩⟩
theorem im101 : Cond.instanceMethod (yn 101) ∈ AW_ := awT4 41 rfl rfl
theorem se101 : Cond.selects (RN (mo 101)) (yn 101) (yn 101) ∈ AW_ := awP 25 rfl rfl
theorem co102 : Cond.code (yn 102) (cc 102) (mL 102) (rt 102) ∈ AW_ := awT4 46 rfl rfl
theorem mk102 : MK 102 := ⟨in5, by decide +kernel, ⟨by decide +kernel, by decide +kernel⟩, by decide +kernel, by decide, Or.inl ⟨rfl, co102⟩⟩
theorem im102 : Cond.instanceMethod (yn 102) ∈ AW_ := awT4 45 rfl rfl
theorem se102 : Cond.selects (RN (mo 102)) (yn 102) (yn 102) ∈ AW_ := awP 26 rfl rfl
theorem co103 : Cond.code (yn 103) (cc 103) (mL 103) (rt 103) ∈ AW_ := awT4 50 rfl rfl
theorem mk103 : MK 103 := ⟨in5, by decide +kernel, ⟨by decide +kernel, by decide +kernel⟩, by decide +kernel, by decide, Or.inl ⟨rfl, co103⟩⟩
theorem im103 : Cond.instanceMethod (yn 103) ∈ AW_ := awT4 48 rfl rfl
theorem se103 : Cond.selects (RN (mo 103)) (yn 103) (yn 103) ∈ AW_ := awT4 49 rfl rfl
theorem co104 : Cond.code (yn 104) (cc 104) (mL 104) (rt 104) ∈ AW_ := awT4 54 rfl rfl
theorem mk104 : MK 104 := ⟨in5, by decide +kernel, ⟨by decide +kernel, by decide +kernel⟩, by decide +kernel, by decide, Or.inl ⟨rfl, co104⟩⟩
theorem im104 : Cond.instanceMethod (yn 104) ∈ AW_ := awT4 52 rfl rfl
theorem se104 : Cond.selects (RN (mo 104)) (yn 104) (yn 104) ∈ AW_ := awT4 53 rfl rfl
theorem co105 : Cond.code (yn 105) (cc 105) (mL 105) (rt 105) ∈ AW_ := awT4 58 rfl rfl
theorem mk105 : MK 105 := ⟨in5, by decide +kernel, ⟨by decide +kernel, by decide +kernel⟩, by decide +kernel, by decide, Or.inl ⟨rfl, co105⟩⟩
theorem im105 : Cond.instanceMethod (yn 105) ∈ AW_ := awT4 56 rfl rfl
theorem se105 : Cond.selects (RN (mo 105)) (yn 105) (yn 105) ∈ AW_ := awT4 57 rfl rfl
theorem co106 : Cond.code (yn 106) (cc 106) (mL 106) (rt 106) ∈ AW_ := awT4 62 rfl rfl
theorem mk106 : MK 106 := ⟨in5, by decide +kernel, ⟨by decide +kernel, by decide +kernel⟩, by decide +kernel, by decide, Or.inl ⟨rfl, co106⟩⟩
theorem im106 : Cond.instanceMethod (yn 106) ∈ AW_ := awT4 61 rfl rfl
theorem se106 : Cond.selects (RN (mo 106)) (yn 106) (yn 106) ∈ AW_ := awP 27 rfl rfl
theorem co107 : Cond.code (yn 107) (cc 107) (mL 107) (rt 107) ∈ AW_ := awT4 66 rfl rfl
theorem mk107 : MK 107 := ⟨in5, by decide +kernel, ⟨by decide +kernel, by decide +kernel⟩, by decide +kernel, by decide, Or.inl ⟨rfl, co107⟩⟩
theorem im107 : Cond.instanceMethod (yn 107) ∈ AW_ := awT4 65 rfl rfl
theorem se107 : Cond.selects (RN (mo 107)) (yn 107) (yn 107) ∈ AW_ := awP 28 rfl rfl
theorem co108 : Cond.code (yn 108) (cc 108) (mL 108) (rt 108) ∈ AW_ := awT4 70 rfl rfl
theorem mk108 : MK 108 := ⟨in5, by decide +kernel, ⟨by decide +kernel, by decide +kernel⟩, by decide +kernel, by decide, Or.inl ⟨rfl, co108⟩⟩
theorem im108 : Cond.instanceMethod (yn 108) ∈ AW_ := awT4 69 rfl rfl
theorem se108 : Cond.selects (RN (mo 108)) (yn 108) (yn 108) ∈ AW_ := awP 29 rfl rfl
theorem co109 : Cond.code (yn 109) (cc 109) (mL 109) (rt 109) ∈ AW_ := awT4 74 rfl rfl
theorem mk109 : MK 109 := ⟨in5, by decide +kernel, ⟨by decide +kernel, by decide +kernel⟩, by decide +kernel, by decide, Or.inl ⟨rfl, co109⟩⟩
theorem im109 : Cond.instanceMethod (yn 109) ∈ AW_ := awT4 73 rfl rfl
theorem se109 : Cond.selects (RN (mo 109)) (yn 109) (yn 109) ∈ AW_ := awP 30 rfl rfl
theorem co110 : Cond.code (yn 110) (cc 110) (mL 110) (rt 110) ∈ AW_ := awT4 80 rfl rfl
theorem mk110 : MK 110 := ⟨in5, by decide +kernel, ⟨by decide +kernel, by decide +kernel⟩, by decide +kernel, by decide, Or.inl ⟨rfl, co110⟩⟩
theorem im110 : Cond.instanceMethod (yn 110) ∈ AW_ := awT4 79 rfl rfl
theorem se110 : Cond.selects (RN (mo 110)) (yn 110) (yn 110) ∈ AW_ := awP 31 rfl rfl
theorem co111 : Cond.code (yn 111) (cc 111) (mL 111) (rt 111) ∈ AW_ := awT4 84 rfl rfl
theorem mk111 : MK 111 := ⟨in5, by decide +kernel, ⟨by decide +kernel, by decide +kernel⟩, by decide +kernel, by decide, Or.inl ⟨rfl, co111⟩⟩
theorem im111 : Cond.instanceMethod (yn 111) ∈ AW_ := awT4 83 rfl rfl
theorem se111 : Cond.selects (RN (mo 111)) (yn 111) (yn 111) ∈ AW_ := awP 32 rfl rfl
theorem co112 : Cond.code (yn 112) (cc 112) (mL 112) (rt 112) ∈ AW_ := awT4 88 rfl rfl
theorem mk112 : MK 112 := ⟨in5, by decide +kernel, ⟨by decide +kernel, by decide +kernel⟩, by decide +kernel, by decide, Or.inl ⟨rfl, co112⟩⟩
theorem im112 : Cond.instanceMethod (yn 112) ∈ AW_ := awT4 87 rfl rfl
theorem se112 : Cond.selects (RN (mo 112)) (yn 112) (yn 112) ∈ AW_ := awP 33 rfl rfl
theorem co113 : Cond.code (yn 113) (cc 113) (mL 113) (rt 113) ∈ AW_ := awT4 91 rfl rfl
theorem mk113 : MK 113 := ⟨in5, by decide +kernel, ⟨by decide +kernel, by decide +kernel⟩, by decide +kernel, by decide, Or.inl ⟨rfl, co113⟩⟩
theorem ss113 : Cond.static (yn 113) ∈ AW_ := awT4 90 rfl rfl
theorem co114 : Cond.code (yn 114) (cc 114) (mL 114) (rt 114) ∈ AW_ := awT4 95 rfl rfl
theorem mk114 : MK 114 := ⟨in5, by decide +kernel, ⟨by decide +kernel, by decide +kernel⟩, by decide +kernel, by decide, Or.inl ⟨rfl, co114⟩⟩
theorem im114 : Cond.instanceMethod (yn 114) ∈ AW_ := awT4 94 rfl rfl
theorem se114 : Cond.selects (RN (mo 114)) (yn 114) (yn 114) ∈ AW_ := awP 34 rfl rfl
theorem co115 : Cond.code (yn 115) (cc 115) (mL 115) (rt 115) ∈ AW_ := awT4 99 rfl rfl
theorem mk115 : MK 115 := ⟨in5, by decide +kernel, ⟨by decide +kernel, by decide +kernel⟩, by decide +kernel, by decide, Or.inl ⟨rfl, co115⟩⟩
theorem im115 : Cond.instanceMethod (yn 115) ∈ AW_ := awT4 98 rfl rfl
theorem se115 : Cond.selects (RN (mo 115)) (yn 115) (yn 115) ∈ AW_ := awP 35 rfl rfl
theorem co116 : Cond.code (yn 116) (cc 116) (mL 116) (rt 116) ∈ AW_ := awT4 103 rfl rfl
theorem mk116 : MK 116 := ⟨in5, by decide +kernel, ⟨by decide +kernel, by decide +kernel⟩, by decide +kernel, by decide, Or.inl ⟨rfl, co116⟩⟩
theorem im116 : Cond.instanceMethod (yn 116) ∈ AW_ := awT4 102 rfl rfl
theorem se116 : Cond.selects (RN (mo 116)) (yn 116) (yn 116) ∈ AW_ := awP 36 rfl rfl
theorem co117 : Cond.code (yn 117) (cc 117) (mL 117) (rt 117) ∈ AW_ := awT4 107 rfl rfl
theorem mk117 : MK 117 := ⟨in5, by decide +kernel, ⟨by decide +kernel, by decide +kernel⟩, by decide +kernel, by decide, Or.inl ⟨rfl, co117⟩⟩
theorem im117 : Cond.instanceMethod (yn 117) ∈ AW_ := awT4 106 rfl rfl
theorem se117 : Cond.selects (RN (mo 117)) (yn 117) (yn 117) ∈ AW_ := awP 37 rfl rfl
theorem co118 : Cond.code (yn 118) (cc 118) (mL 118) (rt 118) ∈ AW_ := awT4 111 rfl rfl
theorem mk118 : MK 118 := ⟨in5, by decide +kernel, ⟨by decide +kernel, by decide +kernel⟩, by decide +kernel, by decide, Or.inl ⟨rfl, co118⟩⟩
theorem im118 : Cond.instanceMethod (yn 118) ∈ AW_ := awT4 110 rfl rfl
theorem se118 : Cond.selects (RN (mo 118)) (yn 118) (yn 118) ∈ AW_ := awP 38 rfl rfl
theorem co119 : Cond.code (yn 119) (cc 119) (mL 119) (rt 119) ∈ AW_ := awT4 115 rfl rfl
theorem mk119 : MK 119 := ⟨in5, by decide +kernel, ⟨by decide +kernel, by decide +kernel⟩, by decide +kernel, by decide, Or.inl ⟨rfl, co119⟩⟩
theorem im119 : Cond.instanceMethod (yn 119) ∈ AW_ := awT4 113 rfl rfl
theorem se119 : Cond.selects (RN (mo 119)) (yn 119) (yn 119) ∈ AW_ := awT4 114 rfl rfl
theorem co120 : Cond.code (yn 120) (cc 120) (mL 120) (rt 120) ∈ AW_ := awT4 119 rfl rfl
theorem mk120 : MK 120 := ⟨in5, by decide +kernel, ⟨by decide +kernel, by decide +kernel⟩, by decide +kernel, by decide, Or.inl ⟨rfl, co120⟩⟩
theorem im120 : Cond.instanceMethod (yn 120) ∈ AW_ := awT4 117 rfl rfl
theorem se120 : Cond.selects (RN (mo 120)) (yn 120) (yn 120) ∈ AW_ := awT4 118 rfl rfl
theorem co121 : Cond.code (yn 121) (cc 121) (mL 121) (rt 121) ∈ AW_ := awT4 123 rfl rfl
theorem mk121 : MK 121 := ⟨in5, by decide +kernel, ⟨by decide +kernel, by decide +kernel⟩, by decide +kernel, by decide, Or.inl ⟨rfl, co121⟩⟩
theorem im121 : Cond.instanceMethod (yn 121) ∈ AW_ := awT4 122 rfl rfl
theorem se121 : Cond.selects (RN (mo 121)) (yn 121) (yn 121) ∈ AW_ := awP 39 rfl rfl
theorem co122 : Cond.code (yn 122) (cc 122) (mL 122) (rt 122) ∈ AW_ := awT4 127 rfl rfl
theorem mk122 : MK 122 := ⟨in5, by decide +kernel, ⟨by decide +kernel, by decide +kernel⟩, by decide +kernel, by decide, Or.inl ⟨rfl, co122⟩⟩
theorem im122 : Cond.instanceMethod (yn 122) ∈ AW_ := awT4 125 rfl rfl
theorem se122 : Cond.selects (RN (mo 122)) (yn 122) (yn 122) ∈ AW_ := awT4 126 rfl rfl
theorem co123 : Cond.code (yn 123) (cc 123) (mL 123) (rt 123) ∈ AW_ := awT4 131 rfl rfl
theorem mk123 : MK 123 := ⟨in5, by decide +kernel, ⟨by decide +kernel, by decide +kernel⟩, by decide +kernel, by decide, Or.inl ⟨rfl, co123⟩⟩
theorem im123 : Cond.instanceMethod (yn 123) ∈ AW_ := awT4 129 rfl rfl
theorem se123 : Cond.selects (RN (mo 123)) (yn 123) (yn 123) ∈ AW_ := awT4 130 rfl rfl
theorem co124 : Cond.code (yn 124) (cc 124) (mL 124) (rt 124) ∈ AW_ := awT4 135 rfl rfl
theorem mk124 : MK 124 := ⟨in5, by decide +kernel, ⟨by decide +kernel, by decide +kernel⟩, by decide +kernel, by decide, Or.inl ⟨rfl, co124⟩⟩
theorem im124 : Cond.instanceMethod (yn 124) ∈ AW_ := awT4 133 rfl rfl
theorem se124 : Cond.selects (RN (mo 124)) (yn 124) (yn 124) ∈ AW_ := awT4 134 rfl rfl
theorem co125 : Cond.code (yn 125) (cc 125) (mL 125) (rt 125) ∈ AW_ := awT4 139 rfl rfl
theorem mk125 : MK 125 := ⟨in5, by decide +kernel, ⟨by decide +kernel, by decide +kernel⟩, by decide +kernel, by decide, Or.inl ⟨rfl, co125⟩⟩
theorem im125 : Cond.instanceMethod (yn 125) ∈ AW_ := awT4 138 rfl rfl
theorem se125 : Cond.selects (RN (mo 125)) (yn 125) (yn 125) ∈ AW_ := awP 40 rfl rfl
theorem co126 : Cond.code (yn 126) (cc 126) (mL 126) (rt 126) ∈ AW_ := awT4 143 rfl rfl
theorem mk126 : MK 126 := ⟨in5, by decide +kernel, ⟨by decide +kernel, by decide +kernel⟩, by decide +kernel, by decide, Or.inl ⟨rfl, co126⟩⟩
theorem im126 : Cond.instanceMethod (yn 126) ∈ AW_ := awT4 141 rfl rfl
theorem se126 : Cond.selects (RN (mo 126)) (yn 126) (yn 126) ∈ AW_ := awT4 142 rfl rfl
theorem co127 : Cond.code (yn 127) (cc 127) (mL 127) (rt 127) ∈ AW_ := awT4 147 rfl rfl
theorem mk127 : MK 127 := ⟨in5, by decide +kernel, ⟨by decide +kernel, by decide +kernel⟩, by decide +kernel, by decide, Or.inl ⟨rfl, co127⟩⟩
theorem im127 : Cond.instanceMethod (yn 127) ∈ AW_ := awT4 146 rfl rfl
theorem se127 : Cond.selects (RN (mo 127)) (yn 127) (yn 127) ∈ AW_ := awP 41 rfl rfl
theorem co128 : Cond.code (yn 128) (cc 128) (mL 128) (rt 128) ∈ AW_ := awT4 151 rfl rfl
theorem mk128 : MK 128 := ⟨in5, by decide +kernel, ⟨by decide +kernel, by decide +kernel⟩, by decide +kernel, by decide, Or.inl ⟨rfl, co128⟩⟩
theorem im128 : Cond.instanceMethod (yn 128) ∈ AW_ := awT4 149 rfl rfl
theorem se128 : Cond.selects (RN (mo 128)) (yn 128) (yn 128) ∈ AW_ := awT4 150 rfl rfl
theorem co129 : Cond.code (yn 129) (cc 129) (mL 129) (rt 129) ∈ AW_ := awT4 155 rfl rfl
theorem mk129 : MK 129 := ⟨in5, by decide +kernel, ⟨by decide +kernel, by decide +kernel⟩, by decide +kernel, by decide, Or.inl ⟨rfl, co129⟩⟩
theorem im129 : Cond.instanceMethod (yn 129) ∈ AW_ := awT4 153 rfl rfl
theorem se129 : Cond.selects (RN (mo 129)) (yn 129) (yn 129) ∈ AW_ := awT4 154 rfl rfl
theorem co130 : Cond.code (yn 130) (cc 130) (mL 130) (rt 130) ∈ AW_ := awT4 159 rfl rfl
theorem mk130 : MK 130 := ⟨in5, by decide +kernel, ⟨by decide +kernel, by decide +kernel⟩, by decide +kernel, by decide, Or.inl ⟨rfl, co130⟩⟩
theorem im130 : Cond.instanceMethod (yn 130) ∈ AW_ := awT4 157 rfl rfl
theorem se130 : Cond.selects (RN (mo 130)) (yn 130) (yn 130) ∈ AW_ := awT4 158 rfl rfl
theorem co131 : Cond.code (yn 131) (cc 131) (mL 131) (rt 131) ∈ AW_ := awT4 163 rfl rfl
theorem mk131 : MK 131 := ⟨in5, by decide +kernel, ⟨by decide +kernel, by decide +kernel⟩, by decide +kernel, by decide, Or.inl ⟨rfl, co131⟩⟩
theorem im131 : Cond.instanceMethod (yn 131) ∈ AW_ := awT4 161 rfl rfl
theorem se131 : Cond.selects (RN (mo 131)) (yn 131) (yn 131) ∈ AW_ := awT4 162 rfl rfl
theorem co132 : Cond.code (yn 132) (cc 132) (mL 132) (rt 132) ∈ AW_ := awT4 167 rfl rfl
theorem mk132 : MK 132 := ⟨in5, by decide +kernel, ⟨by decide +kernel, by decide +kernel⟩, by decide +kernel, by decide, Or.inl ⟨rfl, co132⟩⟩
theorem im132 : Cond.instanceMethod (yn 132) ∈ AW_ := awT4 166 rfl rfl
theorem se132 : Cond.selects (RN (mo 132)) (yn 132) (yn 132) ∈ AW_ := awP 42 rfl rfl
theorem lk6_77 : Cond.methodLink (RN 6) 77 (yn 0) ∈ AW_ := awT1 18 rfl rfl
theorem lk4_1 : Cond.methodLink (RN 4) 1 (Lib.objectInit) ∈ AW_ := awT1 21 rfl rfl
theorem lk0_3 : Cond.methodLink (RN 0) 3 (Lib.objectInit) ∈ AW_ := awT1 31 rfl rfl
theorem lk1_3 : Cond.methodLink (RN 1) 3 (Lib.objectInit) ∈ AW_ := awT1 62 rfl rfl
theorem lk3_3 : Cond.methodLink (RN 3) 3 (Lib.objectInit) ∈ AW_ := awT1 85 rfl rfl
theorem lk2_3 : Cond.methodLink (RN 2) 3 (Lib.objectInit) ∈ AW_ := awT1 104 rfl rfl
theorem lk6_116 : Cond.methodLink (RN 6) 116 (yn 5) ∈ AW_ := awT1 190 rfl rfl
theorem lk4_140 : Cond.methodLink (RN 4) 140 (yn 6) ∈ AW_ := awT1 194 rfl rfl
theorem lk4_219 : Cond.methodLink (RN 4) 219 (yn 7) ∈ AW_ := awT1 198 rfl rfl
theorem lk4_232 : Cond.methodLink (RN 4) 232 (yn 8) ∈ AW_ := awT1 202 rfl rfl
theorem lk4_238 : Cond.methodLink (RN 4) 238 (yn 9) ∈ AW_ := awT1 205 rfl rfl
theorem lk4_246 : Cond.methodLink (RN 4) 246 (yn 10) ∈ AW_ := awT1 209 rfl rfl
theorem lk4_98 : Cond.methodLink (RN 4) 98 (yn 11) ∈ AW_ := awT1 213 rfl rfl
theorem lk4_180 : Cond.methodLink (RN 4) 180 (yn 12) ∈ AW_ := awT1 216 rfl rfl
theorem lk4_259 : Cond.methodLink (RN 4) 259 (yn 13) ∈ AW_ := awT1 220 rfl rfl
theorem lk4_222 : Cond.methodLink (RN 4) 222 (yn 14) ∈ AW_ := awT1 226 rfl rfl
theorem lk4_226 : Cond.methodLink (RN 4) 226 (arraycopyName) ∈ AW_ := awT1 230 rfl rfl
theorem lk4_242 : Cond.methodLink (RN 4) 242 (yn 15) ∈ AW_ := awT1 233 rfl rfl
theorem lk3_25 : Cond.methodLink (RN 3) 25 (yn 16) ∈ AW_ := awT1 237 rfl rfl
theorem lk3_58 : Cond.methodLink (RN 3) 58 (Lib.MathLoose.max_long.x) ∈ AW_ := awT2 1 rfl rfl
theorem lk3_35 : Cond.methodLink (RN 3) 35 (yn 17) ∈ AW_ := awT2 4 rfl rfl
theorem lk3_78 : Cond.methodLink (RN 3) 78 (yn 18) ∈ AW_ := awT2 8 rfl rfl
theorem lk3_82 : Cond.methodLink (RN 3) 82 (yn 19) ∈ AW_ := awT2 12 rfl rfl
theorem lk3_42 : Cond.methodLink (RN 3) 42 (yn 20) ∈ AW_ := awT2 16 rfl rfl
theorem lk3_70 : Cond.methodLink (RN 3) 70 (yn 21) ∈ AW_ := awT2 20 rfl rfl
theorem lk3_74 : Cond.methodLink (RN 3) 74 (Lib.Math.min.name) ∈ AW_ := awT2 23 rfl rfl
theorem lk6_81 : Cond.methodLink (RN 6) 81 (yn 22) ∈ AW_ := awT2 26 rfl rfl
theorem lk6_7 : Cond.methodLink (RN 6) 7 (yn 23) ∈ AW_ := awT2 31 rfl rfl
theorem lk4_50 : Cond.methodLink (RN 4) 50 (yn 24) ∈ AW_ := awT2 35 rfl rfl
theorem lk4_95 : Cond.methodLink (RN 4) 95 (yn 25) ∈ AW_ := awT2 39 rfl rfl
theorem lk4_200 : Cond.methodLink (RN 4) 200 (Bundle.initS (EX 0)) ∈ AW_ := awT2 84 rfl rfl
theorem lk4_54 : Cond.methodLink (RN 4) 54 (yn 26) ∈ AW_ := awT2 110 rfl rfl
theorem lk4_211 : Cond.methodLink (RN 4) 211 (Bundle.initS (EX 1)) ∈ AW_ := awT2 123 rfl rfl
theorem lk6_91 : Cond.methodLink (RN 6) 91 (yn 27) ∈ AW_ := awT2 129 rfl rfl
theorem lk6_17 : Cond.methodLink (RN 6) 17 (yn 28) ∈ AW_ := awT2 132 rfl rfl
theorem lk6_95 : Cond.methodLink (RN 6) 95 (yn 29) ∈ AW_ := awT2 137 rfl rfl
theorem lk6_21 : Cond.methodLink (RN 6) 21 (yn 30) ∈ AW_ := awT2 140 rfl rfl
theorem lk4_85 : Cond.methodLink (RN 4) 85 (yn 31) ∈ AW_ := awT2 144 rfl rfl
theorem lk6_99 : Cond.methodLink (RN 6) 99 (yn 32) ∈ AW_ := awT2 148 rfl rfl
theorem lk6_25 : Cond.methodLink (RN 6) 25 (yn 33) ∈ AW_ := awT2 152 rfl rfl
theorem lk4_102 : Cond.methodLink (RN 4) 102 (yn 34) ∈ AW_ := awT2 156 rfl rfl
theorem lk0_35 : Cond.methodLink (RN 0) 35 (yn 35) ∈ AW_ := awT2 160 rfl rfl
theorem lk0_31 : Cond.methodLink (RN 0) 31 (yn 36) ∈ AW_ := awT2 164 rfl rfl
theorem lk0_44 : Cond.methodLink (RN 0) 44 (yn 37) ∈ AW_ := awT2 168 rfl rfl
theorem lk0_50 : Cond.methodLink (RN 0) 50 (yn 11) ∈ AW_ := awT2 171 rfl rfl
theorem lk0_54 : Cond.methodLink (RN 0) 54 (Lib.Math.max.name) ∈ AW_ := awT2 172 rfl rfl
theorem lk0_38 : Cond.methodLink (RN 0) 38 (arraycopyName) ∈ AW_ := awT2 175 rfl rfl
theorem lk4_105 : Cond.methodLink (RN 4) 105 (yn 38) ∈ AW_ := awT2 176 rfl rfl
theorem lk4_113 : Cond.methodLink (RN 4) 113 (Bundle.initS (EX 2)) ∈ AW_ := awT2 190 rfl rfl
theorem lk4_116 : Cond.methodLink (RN 4) 116 (yn 39) ∈ AW_ := awT2 196 rfl rfl
theorem lk6_102 : Cond.methodLink (RN 6) 102 (yn 40) ∈ AW_ := awT2 200 rfl rfl
theorem lk6_30 : Cond.methodLink (RN 6) 30 (yn 41) ∈ AW_ := awT2 203 rfl rfl
theorem lk6_106 : Cond.methodLink (RN 6) 106 (yn 42) ∈ AW_ := awT2 207 rfl rfl
theorem lk6_34 : Cond.methodLink (RN 6) 34 (yn 43) ∈ AW_ := awT2 210 rfl rfl
theorem lk4_123 : Cond.methodLink (RN 4) 123 (yn 44) ∈ AW_ := awT2 214 rfl rfl
theorem lk4_143 : Cond.methodLink (RN 4) 143 (yn 45) ∈ AW_ := awT2 218 rfl rfl
theorem lk4_173 : Cond.methodLink (RN 4) 173 (yn 46) ∈ AW_ := awT2 222 rfl rfl
theorem lk4_212 : Cond.methodLink (RN 4) 212 (yn 47) ∈ AW_ := awT2 225 rfl rfl
theorem lk4_177 : Cond.methodLink (RN 4) 177 (yn 48) ∈ AW_ := awT2 230 rfl rfl
theorem lk1_25 : Cond.methodLink (RN 1) 25 (yn 47) ∈ AW_ := awT2 234 rfl rfl
theorem lk6_110 : Cond.methodLink (RN 6) 110 (yn 49) ∈ AW_ := awT2 235 rfl rfl
theorem lk6_38 : Cond.methodLink (RN 6) 38 (yn 50) ∈ AW_ := awT2 238 rfl rfl
theorem lk4_127 : Cond.methodLink (RN 4) 127 (yn 51) ∈ AW_ := awT3 2 rfl rfl
theorem lk4_134 : Cond.methodLink (RN 4) 134 (yn 52) ∈ AW_ := awT3 6 rfl rfl
theorem lk6_113 : Cond.methodLink (RN 6) 113 (yn 53) ∈ AW_ := awT3 10 rfl rfl
theorem lk6_41 : Cond.methodLink (RN 6) 41 (yn 54) ∈ AW_ := awT3 13 rfl rfl
theorem lk6_120 : Cond.methodLink (RN 6) 120 (yn 55) ∈ AW_ := awT3 17 rfl rfl
theorem lk6_44 : Cond.methodLink (RN 6) 44 (yn 56) ∈ AW_ := awT3 20 rfl rfl
theorem lk6_124 : Cond.methodLink (RN 6) 124 (yn 57) ∈ AW_ := awT3 24 rfl rfl
theorem lk6_48 : Cond.methodLink (RN 6) 48 (yn 58) ∈ AW_ := awT3 27 rfl rfl
theorem lk4_146 : Cond.methodLink (RN 4) 146 (yn 59) ∈ AW_ := awT3 31 rfl rfl
theorem lk4_192 : Cond.methodLink (RN 4) 192 (yn 60) ∈ AW_ := awT3 35 rfl rfl
theorem lk6_127 : Cond.methodLink (RN 6) 127 (yn 61) ∈ AW_ := awT3 40 rfl rfl
theorem lk6_52 : Cond.methodLink (RN 6) 52 (yn 62) ∈ AW_ := awT3 43 rfl rfl
theorem lk6_130 : Cond.methodLink (RN 6) 130 (yn 63) ∈ AW_ := awT3 47 rfl rfl
theorem lk6_55 : Cond.methodLink (RN 6) 55 (yn 64) ∈ AW_ := awT3 50 rfl rfl
theorem lk6_133 : Cond.methodLink (RN 6) 133 (yn 65) ∈ AW_ := awT3 54 rfl rfl
theorem lk6_58 : Cond.methodLink (RN 6) 58 (yn 66) ∈ AW_ := awT3 57 rfl rfl
theorem lk4_158 : Cond.methodLink (RN 4) 158 (yn 67) ∈ AW_ := awT3 61 rfl rfl
theorem lk4_266 : Cond.methodLink (RN 4) 266 (yn 68) ∈ AW_ := awT3 65 rfl rfl
theorem lk4_269 : Cond.methodLink (RN 4) 269 (yn 69) ∈ AW_ := awT3 69 rfl rfl
theorem lk4_272 : Cond.methodLink (RN 4) 272 (yn 70) ∈ AW_ := awT3 73 rfl rfl
theorem lk4_165 : Cond.methodLink (RN 4) 165 (yn 71) ∈ AW_ := awT3 76 rfl rfl
theorem lk4_279 : Cond.methodLink (RN 4) 279 (Lib.MathLoose.max_long.x) ∈ AW_ := awT3 80 rfl rfl
theorem lk4_285 : Cond.methodLink (RN 4) 285 (Lib.MathLoose.min_long.x) ∈ AW_ := awT3 81 rfl rfl
theorem lk4_162 : Cond.methodLink (RN 4) 162 (yn 72) ∈ AW_ := awT3 84 rfl rfl
theorem lk6_136 : Cond.methodLink (RN 6) 136 (yn 73) ∈ AW_ := awT3 88 rfl rfl
theorem lk6_62 : Cond.methodLink (RN 6) 62 (yn 74) ∈ AW_ := awT3 91 rfl rfl
theorem lk4_169 : Cond.methodLink (RN 4) 169 (yn 75) ∈ AW_ := awT3 95 rfl rfl
theorem lk6_139 : Cond.methodLink (RN 6) 139 (yn 76) ∈ AW_ := awT3 99 rfl rfl
theorem lk6_65 : Cond.methodLink (RN 6) 65 (yn 77) ∈ AW_ := awT3 102 rfl rfl
theorem lk6_142 : Cond.methodLink (RN 6) 142 (yn 78) ∈ AW_ := awT3 106 rfl rfl
theorem lk6_68 : Cond.methodLink (RN 6) 68 (yn 79) ∈ AW_ := awT3 109 rfl rfl
theorem lk6_145 : Cond.methodLink (RN 6) 145 (yn 80) ∈ AW_ := awT3 113 rfl rfl
theorem lk6_71 : Cond.methodLink (RN 6) 71 (yn 81) ∈ AW_ := awT3 116 rfl rfl
theorem lk6_148 : Cond.methodLink (RN 6) 148 (yn 82) ∈ AW_ := awT3 120 rfl rfl
theorem lk6_74 : Cond.methodLink (RN 6) 74 (yn 83) ∈ AW_ := awT3 123 rfl rfl
theorem lk4_188 : Cond.methodLink (RN 4) 188 (yn 84) ∈ AW_ := awT3 127 rfl rfl
theorem lk4_288 : Cond.methodLink (RN 4) 288 (yn 85) ∈ AW_ := awT3 131 rfl rfl
theorem lk6_80 : Cond.methodLink (RN 6) 80 (yn 86) ∈ AW_ := awT3 137 rfl rfl
theorem lk5_1 : Cond.methodLink (RN 5) 1 (Lib.objectInit) ∈ AW_ := awT3 140 rfl rfl
theorem lk6_87 : Cond.methodLink (RN 6) 87 (yn 87) ∈ AW_ := awT3 224 rfl rfl
theorem lk6_86 : Cond.methodLink (RN 6) 86 (yn 88) ∈ AW_ := awT3 228 rfl rfl
theorem lk5_89 : Cond.methodLink (RN 5) 89 (yn 89) ∈ AW_ := awT3 232 rfl rfl
theorem lk5_93 : Cond.methodLink (RN 5) 93 (yn 90) ∈ AW_ := awT3 235 rfl rfl
theorem lk5_97 : Cond.methodLink (RN 5) 97 (yn 91) ∈ AW_ := awT3 238 rfl rfl
theorem lk5_100 : Cond.methodLink (RN 5) 100 (yn 92) ∈ AW_ := awT4 2 rfl rfl
theorem lk6_94 : Cond.methodLink (RN 6) 94 (yn 93) ∈ AW_ := awT4 6 rfl rfl
theorem lk6_98 : Cond.methodLink (RN 6) 98 (yn 94) ∈ AW_ := awT4 11 rfl rfl
theorem lk6_101 : Cond.methodLink (RN 6) 101 (yn 95) ∈ AW_ := awT4 15 rfl rfl
theorem lk5_112 : Cond.methodLink (RN 5) 112 (yn 96) ∈ AW_ := awT4 19 rfl rfl
theorem lk5_116 : Cond.methodLink (RN 5) 116 (yn 97) ∈ AW_ := awT4 23 rfl rfl
theorem lk5_105 : Cond.methodLink (RN 5) 105 (yn 98) ∈ AW_ := awT4 27 rfl rfl
theorem lk6_105 : Cond.methodLink (RN 6) 105 (yn 99) ∈ AW_ := awT4 31 rfl rfl
theorem lk6_109 : Cond.methodLink (RN 6) 109 (yn 100) ∈ AW_ := awT4 35 rfl rfl
theorem lk5_124 : Cond.methodLink (RN 5) 124 (yn 101) ∈ AW_ := awT4 39 rfl rfl
theorem lk5_120 : Cond.methodLink (RN 5) 120 (yn 102) ∈ AW_ := awT4 43 rfl rfl
theorem lk6_115 : Cond.methodLink (RN 6) 115 (yn 103) ∈ AW_ := awT4 47 rfl rfl
theorem lk6_112 : Cond.methodLink (RN 6) 112 (yn 104) ∈ AW_ := awT4 51 rfl rfl
theorem lk6_119 : Cond.methodLink (RN 6) 119 (yn 105) ∈ AW_ := awT4 55 rfl rfl
theorem lk5_176 : Cond.methodLink (RN 5) 176 (yn 106) ∈ AW_ := awT4 59 rfl rfl
theorem lk5_170 : Cond.methodLink (RN 5) 170 (yn 107) ∈ AW_ := awT4 63 rfl rfl
theorem lk5_127 : Cond.methodLink (RN 5) 127 (yn 108) ∈ AW_ := awT4 67 rfl rfl
theorem lk5_139 : Cond.methodLink (RN 5) 139 (yn 109) ∈ AW_ := awT4 71 rfl rfl
theorem lk5_173 : Cond.methodLink (RN 5) 173 (yn 110) ∈ AW_ := awT4 77 rfl rfl
theorem lk5_157 : Cond.methodLink (RN 5) 157 (yn 111) ∈ AW_ := awT4 81 rfl rfl
theorem lk5_143 : Cond.methodLink (RN 5) 143 (yn 112) ∈ AW_ := awT4 85 rfl rfl
theorem lk5_131 : Cond.methodLink (RN 5) 131 (yn 113) ∈ AW_ := awT4 89 rfl rfl
theorem lk5_160 : Cond.methodLink (RN 5) 160 (yn 114) ∈ AW_ := awT4 92 rfl rfl
theorem lk5_153 : Cond.methodLink (RN 5) 153 (yn 115) ∈ AW_ := awT4 96 rfl rfl
theorem lk5_150 : Cond.methodLink (RN 5) 150 (yn 116) ∈ AW_ := awT4 100 rfl rfl
theorem lk5_146 : Cond.methodLink (RN 5) 146 (yn 117) ∈ AW_ := awT4 104 rfl rfl
theorem lk5_163 : Cond.methodLink (RN 5) 163 (yn 118) ∈ AW_ := awT4 108 rfl rfl
theorem lk6_123 : Cond.methodLink (RN 6) 123 (yn 119) ∈ AW_ := awT4 112 rfl rfl
theorem lk6_126 : Cond.methodLink (RN 6) 126 (yn 120) ∈ AW_ := awT4 116 rfl rfl
theorem lk5_179 : Cond.methodLink (RN 5) 179 (yn 121) ∈ AW_ := awT4 120 rfl rfl
theorem lk6_129 : Cond.methodLink (RN 6) 129 (yn 122) ∈ AW_ := awT4 124 rfl rfl
theorem lk6_132 : Cond.methodLink (RN 6) 132 (yn 123) ∈ AW_ := awT4 128 rfl rfl
theorem lk6_135 : Cond.methodLink (RN 6) 135 (yn 124) ∈ AW_ := awT4 132 rfl rfl
theorem lk5_183 : Cond.methodLink (RN 5) 183 (yn 125) ∈ AW_ := awT4 136 rfl rfl
theorem lk6_138 : Cond.methodLink (RN 6) 138 (yn 126) ∈ AW_ := awT4 140 rfl rfl
theorem lk5_186 : Cond.methodLink (RN 5) 186 (yn 127) ∈ AW_ := awT4 144 rfl rfl
theorem lk6_141 : Cond.methodLink (RN 6) 141 (yn 128) ∈ AW_ := awT4 148 rfl rfl
theorem lk6_144 : Cond.methodLink (RN 6) 144 (yn 129) ∈ AW_ := awT4 152 rfl rfl
theorem lk6_147 : Cond.methodLink (RN 6) 147 (yn 130) ∈ AW_ := awT4 156 rfl rfl
theorem lk6_150 : Cond.methodLink (RN 6) 150 (yn 131) ∈ AW_ := awT4 160 rfl rfl
theorem lk5_189 : Cond.methodLink (RN 5) 189 (yn 132) ∈ AW_ := awT4 164 rfl rfl
theorem w_static_LibMathLoosemax_longx : Cond.static (Lib.MathLoose.max_long.x) ∈ AW_ := awT2 2 rfl rfl
theorem w_code_LibMathLoosemax_longx : Cond.code (Lib.MathLoose.max_long.x) Lib.MathLoose.max_long.code 4 (some .long) ∈ AW_ := awT2 3 rfl rfl
theorem w_static_LibMathLoosemin_longx : Cond.static (Lib.MathLoose.min_long.x) ∈ AW_ := awT3 82 rfl rfl
theorem w_code_LibMathLoosemin_longx : Cond.code (Lib.MathLoose.min_long.x) Lib.MathLoose.min_long.code 4 (some .long) ∈ AW_ := awT3 83 rfl rfl
theorem w_static_LibMathmaxname : Cond.static (Lib.Math.max.name) ∈ AW_ := awT2 173 rfl rfl
theorem w_code_LibMathmaxname : Cond.code (Lib.Math.max.name) Lib.Math.max.code 2 (some .int) ∈ AW_ := awT2 174 rfl rfl
theorem w_static_LibMathminname : Cond.static (Lib.Math.min.name) ∈ AW_ := awT2 24 rfl rfl
theorem w_code_LibMathminname : Cond.code (Lib.Math.min.name) Lib.Math.min.code 2 (some .int) ∈ AW_ := awT2 25 rfl rfl
theorem w_instanceMethod_LibobjectInit : Cond.instanceMethod (Lib.objectInit) ∈ AW_ := awT1 22 rfl rfl
theorem w_code_LibobjectInit : Cond.code (Lib.objectInit) ⟨#[0xb1]⟩ 1 none ∈ AW_ := awT1 23 rfl rfl
theorem w_static_arraycopyName : Cond.static (arraycopyName) ∈ AW_ := awT1 231 rfl rfl
theorem w_native_arraycopyName : Cond.native (arraycopyName) ∈ AW_ := awT1 232 rfl rfl
theorem gf0_9 : GF 0 9 0 0 := fun C T N h => by cases h; exact ⟨by decide, awT1 32 rfl rfl, rfl, rfl⟩
theorem gf4_250 : GF 4 250 0 0 := fun C T N h => by cases h; exact ⟨by decide, awT1 33 rfl rfl, rfl, rfl⟩
theorem gf0_15 : GF 0 15 0 1 := fun C T N h => by cases h; exact ⟨by decide, awT1 34 rfl rfl, rfl, rfl⟩
theorem gf4_253 : GF 4 253 0 1 := fun C T N h => by cases h; exact ⟨by decide, awT1 35 rfl rfl, rfl, rfl⟩
theorem gf0_18 : GF 0 18 0 2 := fun C T N h => by cases h; exact ⟨by decide, awT1 36 rfl rfl, rfl, rfl⟩
theorem gf4_256 : GF 4 256 0 2 := fun C T N h => by cases h; exact ⟨by decide, awT1 37 rfl rfl, rfl, rfl⟩
theorem gf0_21 : GF 0 21 0 3 := fun C T N h => by cases h; exact ⟨by decide, awT1 38 rfl rfl, rfl, rfl⟩
theorem gf4_137 : GF 4 137 0 3 := fun C T N h => by cases h; exact ⟨by decide, awT1 39 rfl rfl, rfl, rfl⟩
theorem gf0_24 : GF 0 24 0 4 := fun C T N h => by cases h; exact ⟨by decide, awT1 40 rfl rfl, rfl, rfl⟩
theorem gf0_27 : GF 0 27 0 5 := fun C T N h => by cases h; exact ⟨by decide, awT1 41 rfl rfl, rfl, rfl⟩
theorem gf4_184 : GF 4 184 0 5 := fun C T N h => by cases h; exact ⟨by decide, awT1 42 rfl rfl, rfl, rfl⟩
theorem gf1_9 : GF 1 9 1 0 := fun C T N h => by cases h; exact ⟨by decide, awT1 63 rfl rfl, rfl, rfl⟩
theorem gf4_131 : GF 4 131 1 0 := fun C T N h => by cases h; exact ⟨by decide, awT1 64 rfl rfl, rfl, rfl⟩
theorem gf1_15 : GF 1 15 1 1 := fun C T N h => by cases h; exact ⟨by decide, awT1 65 rfl rfl, rfl, rfl⟩
theorem gf4_263 : GF 4 263 1 1 := fun C T N h => by cases h; exact ⟨by decide, awT1 66 rfl rfl, rfl, rfl⟩
theorem gf1_18 : GF 1 18 1 2 := fun C T N h => by cases h; exact ⟨by decide, awT1 67 rfl rfl, rfl, rfl⟩
theorem gf4_276 : GF 4 276 1 2 := fun C T N h => by cases h; exact ⟨by decide, awT1 68 rfl rfl, rfl, rfl⟩
theorem gf1_21 : GF 1 21 1 3 := fun C T N h => by cases h; exact ⟨by decide, awT1 69 rfl rfl, rfl, rfl⟩
theorem gf4_187 : GF 4 187 1 3 := fun C T N h => by cases h; exact ⟨by decide, awT1 70 rfl rfl, rfl, rfl⟩
theorem gf3_9 : GF 3 9 3 0 := fun C T N h => by cases h; exact ⟨by decide, awT1 86 rfl rfl, rfl, rfl⟩
theorem gf3_15 : GF 3 15 3 1 := fun C T N h => by cases h; exact ⟨by decide, awT1 87 rfl rfl, rfl, rfl⟩
theorem gf3_18 : GF 3 18 3 2 := fun C T N h => by cases h; exact ⟨by decide, awT1 88 rfl rfl, rfl, rfl⟩
theorem gf3_21 : GF 3 21 3 3 := fun C T N h => by cases h; exact ⟨by decide, awT1 89 rfl rfl, rfl, rfl⟩
theorem gf3_29 : GF 3 29 2 0 := fun C T N h => by cases h; exact ⟨by decide, awT1 105 rfl rfl, rfl, rfl⟩
theorem gf4_58 : GF 4 58 2 0 := fun C T N h => by cases h; exact ⟨by decide, awT1 106 rfl rfl, rfl, rfl⟩
theorem gf2_9 : GF 2 9 2 1 := fun C T N h => by cases h; exact ⟨by decide, awT1 107 rfl rfl, rfl, rfl⟩
theorem gf4_62 : GF 4 62 2 1 := fun C T N h => by cases h; exact ⟨by decide, awT1 108 rfl rfl, rfl, rfl⟩
theorem gf3_67 : GF 3 67 2 1 := fun C T N h => by cases h; exact ⟨by decide, awT1 109 rfl rfl, rfl, rfl⟩
theorem gf2_29 : GF 2 29 2 2 := fun C T N h => by cases h; exact ⟨by decide, awT1 110 rfl rfl, rfl, rfl⟩
theorem gf4_65 : GF 4 65 2 2 := fun C T N h => by cases h; exact ⟨by decide, awT1 111 rfl rfl, rfl, rfl⟩
theorem gf3_64 : GF 3 64 2 2 := fun C T N h => by cases h; exact ⟨by decide, awT1 112 rfl rfl, rfl, rfl⟩
theorem gf4_68 : GF 4 68 2 3 := fun C T N h => by cases h; exact ⟨by decide, awT1 113 rfl rfl, rfl, rfl⟩
theorem gf3_55 : GF 3 55 2 3 := fun C T N h => by cases h; exact ⟨by decide, awT1 114 rfl rfl, rfl, rfl⟩
theorem gf2_32 : GF 2 32 2 4 := fun C T N h => by cases h; exact ⟨by decide, awT1 115 rfl rfl, rfl, rfl⟩
theorem gf4_76 : GF 4 76 2 4 := fun C T N h => by cases h; exact ⟨by decide, awT1 116 rfl rfl, rfl, rfl⟩
theorem gf4_79 : GF 4 79 2 5 := fun C T N h => by cases h; exact ⟨by decide, awT1 117 rfl rfl, rfl, rfl⟩
theorem gf3_86 : GF 3 86 2 5 := fun C T N h => by cases h; exact ⟨by decide, awT1 118 rfl rfl, rfl, rfl⟩
theorem gf4_82 : GF 4 82 2 6 := fun C T N h => by cases h; exact ⟨by decide, awT1 119 rfl rfl, rfl, rfl⟩
theorem gf3_89 : GF 3 89 2 6 := fun C T N h => by cases h; exact ⟨by decide, awT1 120 rfl rfl, rfl, rfl⟩
theorem gf3_49 : GF 3 49 2 7 := fun C T N h => by cases h; exact ⟨by decide, awT1 121 rfl rfl, rfl, rfl⟩
theorem gf4_120 : GF 4 120 2 7 := fun C T N h => by cases h; exact ⟨by decide, awT1 122 rfl rfl, rfl, rfl⟩
theorem gf4_89 : GF 4 89 2 8 := fun C T N h => by cases h; exact ⟨by decide, awT1 123 rfl rfl, rfl, rfl⟩
theorem gf4_92 : GF 4 92 2 9 := fun C T N h => by cases h; exact ⟨by decide, awT1 124 rfl rfl, rfl, rfl⟩
theorem gf2_15 : GF 2 15 2 10 := fun C T N h => by cases h; exact ⟨by decide, awT1 125 rfl rfl, rfl, rfl⟩
theorem gf4_71 : GF 4 71 2 10 := fun C T N h => by cases h; exact ⟨by decide, awT1 126 rfl rfl, rfl, rfl⟩
theorem gf2_19 : GF 2 19 2 11 := fun C T N h => by cases h; exact ⟨by decide, awT1 127 rfl rfl, rfl, rfl⟩
theorem gf3_52 : GF 3 52 2 11 := fun C T N h => by cases h; exact ⟨by decide, awT1 128 rfl rfl, rfl, rfl⟩
theorem gf4_149 : GF 4 149 2 11 := fun C T N h => by cases h; exact ⟨by decide, awT1 129 rfl rfl, rfl, rfl⟩
theorem gf2_23 : GF 2 23 2 12 := fun C T N h => by cases h; exact ⟨by decide, awT1 130 rfl rfl, rfl, rfl⟩
theorem gf3_39 : GF 3 39 2 12 := fun C T N h => by cases h; exact ⟨by decide, awT1 131 rfl rfl, rfl, rfl⟩
theorem gf4_152 : GF 4 152 2 12 := fun C T N h => by cases h; exact ⟨by decide, awT1 132 rfl rfl, rfl, rfl⟩
theorem gf2_26 : GF 2 26 2 13 := fun C T N h => by cases h; exact ⟨by decide, awT1 133 rfl rfl, rfl, rfl⟩
theorem gf3_46 : GF 3 46 2 13 := fun C T N h => by cases h; exact ⟨by decide, awT1 134 rfl rfl, rfl, rfl⟩
theorem gf4_155 : GF 4 155 2 13 := fun C T N h => by cases h; exact ⟨by decide, awT1 135 rfl rfl, rfl, rfl⟩
theorem gf4_11 : GF 4 11 4 0 := fun C T N h => by cases h; exact ⟨by decide, awT1 165 rfl rfl, rfl, rfl⟩
theorem gf4_18 : GF 4 18 4 1 := fun C T N h => by cases h; exact ⟨by decide, awT1 166 rfl rfl, rfl, rfl⟩
theorem gf4_25 : GF 4 25 4 2 := fun C T N h => by cases h; exact ⟨by decide, awT1 167 rfl rfl, rfl, rfl⟩
theorem gf4_29 : GF 4 29 4 3 := fun C T N h => by cases h; exact ⟨by decide, awT1 168 rfl rfl, rfl, rfl⟩
theorem gf4_32 : GF 4 32 4 4 := fun C T N h => by cases h; exact ⟨by decide, awT1 169 rfl rfl, rfl, rfl⟩
theorem gf4_38 : GF 4 38 4 5 := fun C T N h => by cases h; exact ⟨by decide, awT1 170 rfl rfl, rfl, rfl⟩
theorem gf4_42 : GF 4 42 4 6 := fun C T N h => by cases h; exact ⟨by decide, awT1 171 rfl rfl, rfl, rfl⟩
theorem gf4_46 : GF 4 46 4 7 := fun C T N h => by cases h; exact ⟨by decide, awT1 172 rfl rfl, rfl, rfl⟩
theorem gf5_85 : GF 5 85 5 0 := fun C T N h => by cases h; exact ⟨by decide, awT3 141 rfl rfl, rfl, rfl⟩
theorem gf5_7 : GF 5 7 5 1 := fun C T N h => by cases h; exact ⟨by decide, awT3 142 rfl rfl, rfl, rfl⟩
theorem gf5_13 : GF 5 13 5 2 := fun C T N h => by cases h; exact ⟨by decide, awT3 143 rfl rfl, rfl, rfl⟩
theorem gf5_16 : GF 5 16 5 3 := fun C T N h => by cases h; exact ⟨by decide, awT3 144 rfl rfl, rfl, rfl⟩
theorem gf5_19 : GF 5 19 5 4 := fun C T N h => by cases h; exact ⟨by decide, awT3 145 rfl rfl, rfl, rfl⟩
theorem gf5_22 : GF 5 22 5 5 := fun C T N h => by cases h; exact ⟨by decide, awT3 146 rfl rfl, rfl, rfl⟩
theorem gf5_25 : GF 5 25 5 6 := fun C T N h => by cases h; exact ⟨by decide, awT3 147 rfl rfl, rfl, rfl⟩
theorem gf5_28 : GF 5 28 5 7 := fun C T N h => by cases h; exact ⟨by decide, awT3 148 rfl rfl, rfl, rfl⟩
theorem gf5_31 : GF 5 31 5 8 := fun C T N h => by cases h; exact ⟨by decide, awT3 149 rfl rfl, rfl, rfl⟩
theorem gf5_34 : GF 5 34 5 9 := fun C T N h => by cases h; exact ⟨by decide, awT3 150 rfl rfl, rfl, rfl⟩
theorem gf5_37 : GF 5 37 5 10 := fun C T N h => by cases h; exact ⟨by decide, awT3 151 rfl rfl, rfl, rfl⟩
theorem gf5_40 : GF 5 40 5 11 := fun C T N h => by cases h; exact ⟨by decide, awT3 152 rfl rfl, rfl, rfl⟩
theorem gf5_43 : GF 5 43 5 12 := fun C T N h => by cases h; exact ⟨by decide, awT3 153 rfl rfl, rfl, rfl⟩
theorem gf5_46 : GF 5 46 5 13 := fun C T N h => by cases h; exact ⟨by decide, awT3 154 rfl rfl, rfl, rfl⟩
theorem gf5_109 : GF 5 109 5 14 := fun C T N h => by cases h; exact ⟨by decide, awT3 155 rfl rfl, rfl, rfl⟩
theorem gf5_49 : GF 5 49 5 15 := fun C T N h => by cases h; exact ⟨by decide, awT3 156 rfl rfl, rfl, rfl⟩
theorem gf5_52 : GF 5 52 5 16 := fun C T N h => by cases h; exact ⟨by decide, awT3 157 rfl rfl, rfl, rfl⟩
theorem gf5_55 : GF 5 55 5 17 := fun C T N h => by cases h; exact ⟨by decide, awT3 158 rfl rfl, rfl, rfl⟩
theorem gf5_58 : GF 5 58 5 18 := fun C T N h => by cases h; exact ⟨by decide, awT3 159 rfl rfl, rfl, rfl⟩
theorem gf5_167 : GF 5 167 5 19 := fun C T N h => by cases h; exact ⟨by decide, awT3 160 rfl rfl, rfl, rfl⟩
theorem gf5_61 : GF 5 61 5 20 := fun C T N h => by cases h; exact ⟨by decide, awT3 161 rfl rfl, rfl, rfl⟩
theorem gf5_65 : GF 5 65 5 21 := fun C T N h => by cases h; exact ⟨by decide, awT3 162 rfl rfl, rfl, rfl⟩
theorem gf5_69 : GF 5 69 5 22 := fun C T N h => by cases h; exact ⟨by decide, awT3 163 rfl rfl, rfl, rfl⟩
theorem gf5_73 : GF 5 73 5 23 := fun C T N h => by cases h; exact ⟨by decide, awT3 164 rfl rfl, rfl, rfl⟩
theorem gf5_76 : GF 5 76 5 24 := fun C T N h => by cases h; exact ⟨by decide, awT3 165 rfl rfl, rfl, rfl⟩
theorem gf5_79 : GF 5 79 5 25 := fun C T N h => by cases h; exact ⟨by decide, awT3 166 rfl rfl, rfl, rfl⟩
theorem gf5_82 : GF 5 82 5 26 := fun C T N h => by cases h; exact ⟨by decide, awT3 167 rfl rfl, rfl, rfl⟩
theorem cn2_35 : Cond.constantLong (RN 2) 35 (Int64.ofNat 999) ∈ AW_ := awT1 224 rfl rfl
theorem cn2_37 : Cond.constantLong (RN 2) 37 (Int64.ofNat 1000) ∈ AW_ := awT1 225 rfl rfl
theorem cn4_75 : Cond.constant (RN 4) 75 (nI 100000) ∈ AW_ := awT2 136 rfl rfl
theorem cn5_104 : Cond.constant (RN 5) 104 (nI 100000) ∈ AW_ := awT4 10 rfl rfl
theorem cn5_135 : Cond.constantLong (RN 5) 135 (Int64.ofNat 1000) ∈ AW_ := awT4 75 rfl rfl
theorem cn5_137 : Cond.constantLong (RN 5) 137 (Int64.ofNat 999) ∈ AW_ := awT4 76 rfl rfl
theorem cl6_8 : Cond.classLink (RN 6) 8 (RN 4) ∈ AW_ := awT1 16 rfl rfl
theorem it4 : Cond.instantiable (RN 4) (fn 4) ∈ AW_ := awT1 17 rfl rfl
theorem cl4_9 : Cond.classLink (RN 4) 9 (RN 2) ∈ AW_ := awT1 24 rfl rfl
theorem cl4_15 : Cond.classLink (RN 4) 15 (RN 0) ∈ AW_ := awT1 26 rfl rfl
theorem it0 : Cond.instantiable (RN 0) (fn 0) ∈ AW_ := awT1 27 rfl rfl
theorem ac_int : Cond.arrayClass .int ∈ AW_ := awT1 56 rfl rfl
theorem cl4_22 : Cond.classLink (RN 4) 22 (RN 1) ∈ AW_ := awT1 57 rfl rfl
theorem it1 : Cond.instantiable (RN 1) (fn 1) ∈ AW_ := awT1 58 rfl rfl
theorem cl4_35 : Cond.classLink (RN 4) 35 (RN 3) ∈ AW_ := awT1 80 rfl rfl
theorem it3 : Cond.instantiable (RN 3) (fn 3) ∈ AW_ := awT1 81 rfl rfl
theorem ac_long : Cond.arrayClass .long ∈ AW_ := awT1 99 rfl rfl
theorem it2 : Cond.instantiable (RN 2) (fn 2) ∈ AW_ := awT1 100 rfl rfl
theorem cl6_13 : Cond.classLink (RN 6) 13 (EX 0) ∈ AW_ := awT2 29 rfl rfl
theorem cl6_15 : Cond.classLink (RN 6) 15 (EX 1) ∈ AW_ := awT2 30 rfl rfl
theorem cl4_196 : Cond.classLink (RN 4) 196 (EX 0) ∈ AW_ := awT2 42 rfl rfl
theorem itE0 : Cond.instantiable (EX 0) 6 ∈ AW_ := awT2 43 rfl rfl
theorem ac_byte : Cond.arrayClass .byte ∈ AW_ := awT2 109 rfl rfl
theorem cl4_207 : Cond.classLink (RN 4) 207 (EX 1) ∈ AW_ := awT2 113 rfl rfl
theorem itE1 : Cond.instantiable (EX 1) 6 ∈ AW_ := awT2 114 rfl rfl
theorem cl6_28 : Cond.classLink (RN 6) 28 (EX 2) ∈ AW_ := awT2 151 rfl rfl
theorem cl4_109 : Cond.classLink (RN 4) 109 (EX 2) ∈ AW_ := awT2 180 rfl rfl
theorem itE2 : Cond.instantiable (EX 2) 6 ∈ AW_ := awT2 181 rfl rfl
theorem cl6_78 : Cond.classLink (RN 6) 78 (RN 5) ∈ AW_ := awT3 135 rfl rfl
theorem it5 : Cond.instantiable (RN 5) (fn 5) ∈ AW_ := awT3 136 rfl rfl
theorem ac_boolean : Cond.arrayClass .boolean ∈ AW_ := awT3 223 rfl rfl
end
