theorem d0_0 : decode (cc 0) 0 = .ok (.aload_n 0, 1) := by decide +kernel
theorem d0_1 : decode (cc 0) 1 = .ok (.invokespecial 1, 3) := by decide +kernel
theorem d0_4 : decode (cc 0) 4 = .ok (.aload_n 0, 1) := by decide +kernel
theorem d0_5 : decode (cc 0) 5 = .ok (.bipush 12, 2) := by decide +kernel
theorem d0_7 : decode (cc 0) 7 = .ok (.anewarray 9, 3) := by decide +kernel
theorem d0_10 : decode (cc 0) 10 = .ok (.putfield 11, 3) := by decide +kernel
theorem d0_13 : decode (cc 0) 13 = .ok (.aload_n 0, 1) := by decide +kernel
theorem d0_14 : decode (cc 0) 14 = .ok (.new 15, 3) := by decide +kernel
theorem d0_17 : decode (cc 0) 17 = .ok (.dup, 1) := by decide +kernel
theorem d0_18 : decode (cc 0) 18 = .ok (.invokespecial 17, 3) := by decide +kernel
theorem d0_21 : decode (cc 0) 21 = .ok (.putfield 18, 3) := by decide +kernel
theorem d0_24 : decode (cc 0) 24 = .ok (.aload_n 0, 1) := by decide +kernel
theorem d0_25 : decode (cc 0) 25 = .ok (.new 22, 3) := by decide +kernel
theorem d0_28 : decode (cc 0) 28 = .ok (.dup, 1) := by decide +kernel
theorem d0_29 : decode (cc 0) 29 = .ok (.invokespecial 24, 3) := by decide +kernel
theorem d0_32 : decode (cc 0) 32 = .ok (.putfield 25, 3) := by decide +kernel
theorem d0_35 : decode (cc 0) 35 = .ok (.aload_n 0, 1) := by decide +kernel
theorem d0_36 : decode (cc 0) 36 = .ok (.new 22, 3) := by decide +kernel
theorem d0_39 : decode (cc 0) 39 = .ok (.dup, 1) := by decide +kernel
theorem d0_40 : decode (cc 0) 40 = .ok (.invokespecial 24, 3) := by decide +kernel
theorem d0_43 : decode (cc 0) 43 = .ok (.putfield 29, 3) := by decide +kernel
theorem d0_46 : decode (cc 0) 46 = .ok (.aload_n 0, 1) := by decide +kernel
theorem d0_47 : decode (cc 0) 47 = .ok (.new 22, 3) := by decide +kernel
theorem d0_50 : decode (cc 0) 50 = .ok (.dup, 1) := by decide +kernel
theorem d0_51 : decode (cc 0) 51 = .ok (.invokespecial 24, 3) := by decide +kernel
theorem d0_54 : decode (cc 0) 54 = .ok (.putfield 32, 3) := by decide +kernel
theorem d0_57 : decode (cc 0) 57 = .ok (.aload_n 0, 1) := by decide +kernel
theorem d0_58 : decode (cc 0) 58 = .ok (.new 35, 3) := by decide +kernel
theorem d0_61 : decode (cc 0) 61 = .ok (.dup, 1) := by decide +kernel
theorem d0_62 : decode (cc 0) 62 = .ok (.invokespecial 37, 3) := by decide +kernel
theorem d0_65 : decode (cc 0) 65 = .ok (.putfield 38, 3) := by decide +kernel
theorem d0_68 : decode (cc 0) 68 = .ok (.aload_n 0, 1) := by decide +kernel
theorem d0_69 : decode (cc 0) 69 = .ok (.bipush 12, 2) := by decide +kernel
theorem d0_71 : decode (cc 0) 71 = .ok (.newarray .long, 2) := by decide +kernel
theorem d0_73 : decode (cc 0) 73 = .ok (.putfield 42, 3) := by decide +kernel
theorem d0_76 : decode (cc 0) 76 = .ok (.aload_n 0, 1) := by decide +kernel
theorem d0_77 : decode (cc 0) 77 = .ok (.bipush 12, 2) := by decide +kernel
theorem d0_79 : decode (cc 0) 79 = .ok (.newarray .long, 2) := by decide +kernel
theorem d0_81 : decode (cc 0) 81 = .ok (.putfield 46, 3) := by decide +kernel
theorem d0_84 : decode (cc 0) 84 = .ok (.iconst 0, 1) := by decide +kernel
theorem d0_85 : decode (cc 0) 85 = .ok (.istore_n 1, 1) := by decide +kernel
theorem d0_86 : decode (cc 0) 86 = .ok (.iload_n 1, 1) := by decide +kernel
theorem d0_87 : decode (cc 0) 87 = .ok (.bipush 12, 2) := by decide +kernel
theorem d0_89 : decode (cc 0) 89 = .ok (.if_icmp .ge 22, 3) := by decide +kernel
theorem d0_92 : decode (cc 0) 92 = .ok (.aload_n 0, 1) := by decide +kernel
theorem d0_93 : decode (cc 0) 93 = .ok (.getfield 11, 3) := by decide +kernel
theorem d0_96 : decode (cc 0) 96 = .ok (.iload_n 1, 1) := by decide +kernel
theorem d0_97 : decode (cc 0) 97 = .ok (.new 9, 3) := by decide +kernel
theorem d0_100 : decode (cc 0) 100 = .ok (.dup, 1) := by decide +kernel
theorem d0_101 : decode (cc 0) 101 = .ok (.invokespecial 49, 3) := by decide +kernel
theorem d0_104 : decode (cc 0) 104 = .ok (.aastore, 1) := by decide +kernel
theorem d0_105 : decode (cc 0) 105 = .ok (.iinc 1 1, 3) := by decide +kernel
theorem d0_108 : decode (cc 0) 108 = .ok (.goto (-22), 3) := by decide +kernel
theorem d0_111 : decode (cc 0) 111 = .ok (.return_, 1) := by decide +kernel
theorem d1_0 : decode (cc 1) 0 = .ok (.aload_n 0, 1) := by decide +kernel
theorem d1_1 : decode (cc 1) 1 = .ok (.invokespecial 3, 3) := by decide +kernel
theorem d1_4 : decode (cc 1) 4 = .ok (.aload_n 0, 1) := by decide +kernel
theorem d1_5 : decode (cc 1) 5 = .ok (.sipush 144, 3) := by decide +kernel
theorem d1_8 : decode (cc 1) 8 = .ok (.newarray .int, 2) := by decide +kernel
theorem d1_10 : decode (cc 1) 10 = .ok (.putfield 9, 3) := by decide +kernel
theorem d1_13 : decode (cc 1) 13 = .ok (.aload_n 0, 1) := by decide +kernel
theorem d1_14 : decode (cc 1) 14 = .ok (.sipush 144, 3) := by decide +kernel
theorem d1_17 : decode (cc 1) 17 = .ok (.newarray .int, 2) := by decide +kernel
theorem d1_19 : decode (cc 1) 19 = .ok (.putfield 15, 3) := by decide +kernel
theorem d1_22 : decode (cc 1) 22 = .ok (.aload_n 0, 1) := by decide +kernel
theorem d1_23 : decode (cc 1) 23 = .ok (.sipush 144, 3) := by decide +kernel
theorem d1_26 : decode (cc 1) 26 = .ok (.newarray .int, 2) := by decide +kernel
theorem d1_28 : decode (cc 1) 28 = .ok (.putfield 18, 3) := by decide +kernel
theorem d1_31 : decode (cc 1) 31 = .ok (.aload_n 0, 1) := by decide +kernel
theorem d1_32 : decode (cc 1) 32 = .ok (.bipush 12, 2) := by decide +kernel
theorem d1_34 : decode (cc 1) 34 = .ok (.newarray .int, 2) := by decide +kernel
theorem d1_36 : decode (cc 1) 36 = .ok (.putfield 21, 3) := by decide +kernel
theorem d1_39 : decode (cc 1) 39 = .ok (.aload_n 0, 1) := by decide +kernel
theorem d1_40 : decode (cc 1) 40 = .ok (.bipush 12, 2) := by decide +kernel
theorem d1_42 : decode (cc 1) 42 = .ok (.newarray .int, 2) := by decide +kernel
theorem d1_44 : decode (cc 1) 44 = .ok (.putfield 24, 3) := by decide +kernel
theorem d1_47 : decode (cc 1) 47 = .ok (.return_, 1) := by decide +kernel
theorem d2_0 : decode (cc 2) 0 = .ok (.aload_n 0, 1) := by decide +kernel
theorem d2_1 : decode (cc 2) 1 = .ok (.invokespecial 3, 3) := by decide +kernel
theorem d2_4 : decode (cc 2) 4 = .ok (.aload_n 0, 1) := by decide +kernel
theorem d2_5 : decode (cc 2) 5 = .ok (.bipush 24, 2) := by decide +kernel
theorem d2_7 : decode (cc 2) 7 = .ok (.newarray .int, 2) := by decide +kernel
theorem d2_9 : decode (cc 2) 9 = .ok (.putfield 9, 3) := by decide +kernel
theorem d2_12 : decode (cc 2) 12 = .ok (.aload_n 0, 1) := by decide +kernel
theorem d2_13 : decode (cc 2) 13 = .ok (.bipush 24, 2) := by decide +kernel
theorem d2_15 : decode (cc 2) 15 = .ok (.newarray .int, 2) := by decide +kernel
theorem d2_17 : decode (cc 2) 17 = .ok (.putfield 15, 3) := by decide +kernel
theorem d2_20 : decode (cc 2) 20 = .ok (.aload_n 0, 1) := by decide +kernel
theorem d2_21 : decode (cc 2) 21 = .ok (.bipush 24, 2) := by decide +kernel
theorem d2_23 : decode (cc 2) 23 = .ok (.newarray .int, 2) := by decide +kernel
theorem d2_25 : decode (cc 2) 25 = .ok (.putfield 18, 3) := by decide +kernel
theorem d2_28 : decode (cc 2) 28 = .ok (.return_, 1) := by decide +kernel
theorem d3_0 : decode (cc 3) 0 = .ok (.aload_n 0, 1) := by decide +kernel
theorem d3_1 : decode (cc 3) 1 = .ok (.invokespecial 3, 3) := by decide +kernel
theorem d3_4 : decode (cc 3) 4 = .ok (.aload_n 0, 1) := by decide +kernel
theorem d3_5 : decode (cc 3) 5 = .ok (.bipush 12, 2) := by decide +kernel
theorem d3_7 : decode (cc 3) 7 = .ok (.newarray .long, 2) := by decide +kernel
theorem d3_9 : decode (cc 3) 9 = .ok (.putfield 9, 3) := by decide +kernel
theorem d3_12 : decode (cc 3) 12 = .ok (.aload_n 0, 1) := by decide +kernel
theorem d3_13 : decode (cc 3) 13 = .ok (.bipush 12, 2) := by decide +kernel
theorem d3_15 : decode (cc 3) 15 = .ok (.newarray .long, 2) := by decide +kernel
theorem d3_17 : decode (cc 3) 17 = .ok (.putfield 15, 3) := by decide +kernel
theorem d3_20 : decode (cc 3) 20 = .ok (.aload_n 0, 1) := by decide +kernel
theorem d3_21 : decode (cc 3) 21 = .ok (.bipush 13, 2) := by decide +kernel
theorem d3_23 : decode (cc 3) 23 = .ok (.newarray .long, 2) := by decide +kernel
theorem d3_25 : decode (cc 3) 25 = .ok (.putfield 18, 3) := by decide +kernel
theorem d3_28 : decode (cc 3) 28 = .ok (.aload_n 0, 1) := by decide +kernel
theorem d3_29 : decode (cc 3) 29 = .ok (.bipush 12, 2) := by decide +kernel
theorem d3_31 : decode (cc 3) 31 = .ok (.newarray .int, 2) := by decide +kernel
theorem d3_33 : decode (cc 3) 33 = .ok (.putfield 21, 3) := by decide +kernel
theorem d3_36 : decode (cc 3) 36 = .ok (.return_, 1) := by decide +kernel
theorem d4_0 : decode (cc 4) 0 = .ok (.aload_n 0, 1) := by decide +kernel
theorem d4_1 : decode (cc 4) 1 = .ok (.invokespecial 3, 3) := by decide +kernel
theorem d4_4 : decode (cc 4) 4 = .ok (.aload_n 0, 1) := by decide +kernel
theorem d4_5 : decode (cc 4) 5 = .ok (.iconst 1, 1) := by decide +kernel
theorem d4_6 : decode (cc 4) 6 = .ok (.putfield 9, 3) := by decide +kernel
theorem d4_9 : decode (cc 4) 9 = .ok (.aload_n 0, 1) := by decide +kernel
theorem d4_10 : decode (cc 4) 10 = .ok (.iconst 1, 1) := by decide +kernel
theorem d4_11 : decode (cc 4) 11 = .ok (.putfield 15, 3) := by decide +kernel
theorem d4_14 : decode (cc 4) 14 = .ok (.aload_n 0, 1) := by decide +kernel
theorem d4_15 : decode (cc 4) 15 = .ok (.bipush 12, 2) := by decide +kernel
theorem d4_17 : decode (cc 4) 17 = .ok (.newarray .long, 2) := by decide +kernel
theorem d4_19 : decode (cc 4) 19 = .ok (.putfield 19, 3) := by decide +kernel
theorem d4_22 : decode (cc 4) 22 = .ok (.aload_n 0, 1) := by decide +kernel
theorem d4_23 : decode (cc 4) 23 = .ok (.bipush 12, 2) := by decide +kernel
theorem d4_25 : decode (cc 4) 25 = .ok (.newarray .long, 2) := by decide +kernel
theorem d4_27 : decode (cc 4) 27 = .ok (.putfield 23, 3) := by decide +kernel
theorem d4_30 : decode (cc 4) 30 = .ok (.aload_n 0, 1) := by decide +kernel
theorem d4_31 : decode (cc 4) 31 = .ok (.bipush 12, 2) := by decide +kernel
theorem d4_33 : decode (cc 4) 33 = .ok (.newarray .long, 2) := by decide +kernel
theorem d4_35 : decode (cc 4) 35 = .ok (.putfield 26, 3) := by decide +kernel
theorem d4_38 : decode (cc 4) 38 = .ok (.return_, 1) := by decide +kernel
theorem d5_0 : decode (cc 5) 0 = .ok (.iconst 0, 1) := by decide +kernel
theorem d5_1 : decode (cc 5) 1 = .ok (.istore_n 1, 1) := by decide +kernel
theorem d5_2 : decode (cc 5) 2 = .ok (.iconst 0, 1) := by decide +kernel
theorem d5_3 : decode (cc 5) 3 = .ok (.istore_n 2, 1) := by decide +kernel
theorem d5_4 : decode (cc 5) 4 = .ok (.iload_n 2, 1) := by decide +kernel
theorem d5_5 : decode (cc 5) 5 = .ok (.iconst 4, 1) := by decide +kernel
theorem d5_6 : decode (cc 5) 6 = .ok (.if_icmp .gt 47, 3) := by decide +kernel
theorem d5_9 : decode (cc 5) 9 = .ok (.iconst 0, 1) := by decide +kernel
theorem d5_10 : decode (cc 5) 10 = .ok (.istore_n 3, 1) := by decide +kernel
theorem d5_11 : decode (cc 5) 11 = .ok (.iload_n 3, 1) := by decide +kernel
theorem d5_12 : decode (cc 5) 12 = .ok (.bipush 12, 2) := by decide +kernel
theorem d5_14 : decode (cc 5) 14 = .ok (.if_icmp .ge 33, 3) := by decide +kernel
theorem d5_17 : decode (cc 5) 17 = .ok (.aload_n 0, 1) := by decide +kernel
theorem d5_18 : decode (cc 5) 18 = .ok (.getfield 18, 3) := by decide +kernel
theorem d5_21 : decode (cc 5) 21 = .ok (.getfield 137, 3) := by decide +kernel
theorem d5_24 : decode (cc 5) 24 = .ok (.iload_n 3, 1) := by decide +kernel
theorem d5_25 : decode (cc 5) 25 = .ok (.iaload, 1) := by decide +kernel
theorem d5_26 : decode (cc 5) 26 = .ok (.iload_n 2, 1) := by decide +kernel
theorem d5_27 : decode (cc 5) 27 = .ok (.if_icmp .ne 14, 3) := by decide +kernel
theorem d5_30 : decode (cc 5) 30 = .ok (.aload_n 0, 1) := by decide +kernel
theorem d5_31 : decode (cc 5) 31 = .ok (.iload_n 3, 1) := by decide +kernel
theorem d5_32 : decode (cc 5) 32 = .ok (.invokevirtual 140, 3) := by decide +kernel
theorem d5_35 : decode (cc 5) 35 = .ok (.ifCond .eq 6, 3) := by decide +kernel
theorem d5_38 : decode (cc 5) 38 = .ok (.iinc 1 1, 3) := by decide +kernel
theorem d5_41 : decode (cc 5) 41 = .ok (.iinc 3 1, 3) := by decide +kernel
theorem d5_44 : decode (cc 5) 44 = .ok (.goto (-33), 3) := by decide +kernel
theorem d5_47 : decode (cc 5) 47 = .ok (.iinc 2 1, 3) := by decide +kernel
theorem d5_50 : decode (cc 5) 50 = .ok (.goto (-46), 3) := by decide +kernel
theorem d5_53 : decode (cc 5) 53 = .ok (.iload_n 1, 1) := by decide +kernel
theorem d5_54 : decode (cc 5) 54 = .ok (.ireturn, 1) := by decide +kernel
theorem d6_0 : decode (cc 6) 0 = .ok (.aload_n 0, 1) := by decide +kernel
theorem d6_1 : decode (cc 6) 1 = .ok (.getfield 11, 3) := by decide +kernel
theorem d6_4 : decode (cc 6) 4 = .ok (.iload_n 1, 1) := by decide +kernel
theorem d6_5 : decode (cc 6) 5 = .ok (.aaload, 1) := by decide +kernel
theorem d6_6 : decode (cc 6) 6 = .ok (.astore_n 2, 1) := by decide +kernel
theorem d6_7 : decode (cc 6) 7 = .ok (.aload_n 0, 1) := by decide +kernel
theorem d6_8 : decode (cc 6) 8 = .ok (.iload_n 1, 1) := by decide +kernel
theorem d6_9 : decode (cc 6) 9 = .ok (.invokevirtual 219, 3) := by decide +kernel
theorem d6_12 : decode (cc 6) 12 = .ok (.aload_n 2, 1) := by decide +kernel
theorem d6_13 : decode (cc 6) 13 = .ok (.getfield 71, 3) := by decide +kernel
theorem d6_16 : decode (cc 6) 16 = .ok (.ifCond .ne 16, 3) := by decide +kernel
theorem d6_19 : decode (cc 6) 19 = .ok (.aload_n 2, 1) := by decide +kernel
theorem d6_20 : decode (cc 6) 20 = .ok (.aload_n 0, 1) := by decide +kernel
theorem d6_21 : decode (cc 6) 21 = .ok (.getfield 42, 3) := by decide +kernel
theorem d6_24 : decode (cc 6) 24 = .ok (.invokevirtual 222, 3) := by decide +kernel
theorem d6_27 : decode (cc 6) 27 = .ok (.ifCond .eq 5, 3) := by decide +kernel
theorem d6_30 : decode (cc 6) 30 = .ok (.iconst 0, 1) := by decide +kernel
theorem d6_31 : decode (cc 6) 31 = .ok (.ireturn, 1) := by decide +kernel
theorem d6_32 : decode (cc 6) 32 = .ok (.aload_n 0, 1) := by decide +kernel
theorem d6_33 : decode (cc 6) 33 = .ok (.getfield 42, 3) := by decide +kernel
theorem d6_36 : decode (cc 6) 36 = .ok (.iconst 0, 1) := by decide +kernel
theorem d6_37 : decode (cc 6) 37 = .ok (.aload_n 2, 1) := by decide +kernel
theorem d6_38 : decode (cc 6) 38 = .ok (.getfield 149, 3) := by decide +kernel
theorem d6_41 : decode (cc 6) 41 = .ok (.iconst 0, 1) := by decide +kernel
theorem d6_42 : decode (cc 6) 42 = .ok (.bipush 12, 2) := by decide +kernel
theorem d6_44 : decode (cc 6) 44 = .ok (.invokestatic 226, 3) := by decide +kernel
theorem d6_47 : decode (cc 6) 47 = .ok (.aload_n 0, 1) := by decide +kernel
theorem d6_48 : decode (cc 6) 48 = .ok (.getfield 46, 3) := by decide +kernel
theorem d6_51 : decode (cc 6) 51 = .ok (.lconst 0, 1) := by decide +kernel
theorem d6_52 : decode (cc 6) 52 = .ok (.invokestatic 232, 3) := by decide +kernel
theorem d6_55 : decode (cc 6) 55 = .ok (.aload_n 0, 1) := by decide +kernel
theorem d6_56 : decode (cc 6) 56 = .ok (.getfield 29, 3) := by decide +kernel
theorem d6_59 : decode (cc 6) 59 = .ok (.aload_n 0, 1) := by decide +kernel
theorem d6_60 : decode (cc 6) 60 = .ok (.getfield 46, 3) := by decide +kernel
theorem d6_63 : decode (cc 6) 63 = .ok (.iload_n 1, 1) := by decide +kernel
theorem d6_64 : decode (cc 6) 64 = .ok (.invokevirtual 238, 3) := by decide +kernel
theorem d6_67 : decode (cc 6) 67 = .ok (.aload_n 0, 1) := by decide +kernel
theorem d6_68 : decode (cc 6) 68 = .ok (.getfield 38, 3) := by decide +kernel
theorem d6_71 : decode (cc 6) 71 = .ok (.aload_n 2, 1) := by decide +kernel
theorem d6_72 : decode (cc 6) 72 = .ok (.aload_n 0, 1) := by decide +kernel
theorem d6_73 : decode (cc 6) 73 = .ok (.getfield 46, 3) := by decide +kernel
theorem d6_76 : decode (cc 6) 76 = .ok (.invokevirtual 242, 3) := by decide +kernel
theorem d6_79 : decode (cc 6) 79 = .ok (.aload_n 2, 1) := by decide +kernel
theorem d6_80 : decode (cc 6) 80 = .ok (.iconst 0, 1) := by decide +kernel
theorem d6_81 : decode (cc 6) 81 = .ok (.putfield 71, 3) := by decide +kernel
theorem d6_84 : decode (cc 6) 84 = .ok (.iconst 1, 1) := by decide +kernel
theorem d6_85 : decode (cc 6) 85 = .ok (.ireturn, 1) := by decide +kernel
theorem d7_0 : decode (cc 7) 0 = .ok (.aload_n 0, 1) := by decide +kernel
theorem d7_1 : decode (cc 7) 1 = .ok (.getfield 42, 3) := by decide +kernel
theorem d7_4 : decode (cc 7) 4 = .ok (.lconst 0, 1) := by decide +kernel
theorem d7_5 : decode (cc 7) 5 = .ok (.invokestatic 232, 3) := by decide +kernel
theorem d7_8 : decode (cc 7) 8 = .ok (.aload_n 0, 1) := by decide +kernel
theorem d7_9 : decode (cc 7) 9 = .ok (.getfield 25, 3) := by decide +kernel
theorem d7_12 : decode (cc 7) 12 = .ok (.aload_n 0, 1) := by decide +kernel
theorem d7_13 : decode (cc 7) 13 = .ok (.getfield 42, 3) := by decide +kernel
theorem d7_16 : decode (cc 7) 16 = .ok (.iload_n 1, 1) := by decide +kernel
theorem d7_17 : decode (cc 7) 17 = .ok (.invokevirtual 238, 3) := by decide +kernel
theorem d7_20 : decode (cc 7) 20 = .ok (.iconst 0, 1) := by decide +kernel
theorem d7_21 : decode (cc 7) 21 = .ok (.istore_n 2, 1) := by decide +kernel
theorem d7_22 : decode (cc 7) 22 = .ok (.iload_n 2, 1) := by decide +kernel
theorem d7_23 : decode (cc 7) 23 = .ok (.bipush 12, 2) := by decide +kernel
theorem d7_25 : decode (cc 7) 25 = .ok (.if_icmp .ge 15, 3) := by decide +kernel
theorem d7_28 : decode (cc 7) 28 = .ok (.aload_n 0, 1) := by decide +kernel
theorem d7_29 : decode (cc 7) 29 = .ok (.iload_n 2, 1) := by decide +kernel
theorem d7_30 : decode (cc 7) 30 = .ok (.iload_n 1, 1) := by decide +kernel
theorem d7_31 : decode (cc 7) 31 = .ok (.invokevirtual 246, 3) := by decide +kernel
theorem d7_34 : decode (cc 7) 34 = .ok (.iinc 2 1, 3) := by decide +kernel
theorem d7_37 : decode (cc 7) 37 = .ok (.goto (-15), 3) := by decide +kernel
theorem d7_40 : decode (cc 7) 40 = .ok (.return_, 1) := by decide +kernel
theorem d8_0 : decode (cc 8) 0 = .ok (.iconst 0, 1) := by decide +kernel
theorem d8_1 : decode (cc 8) 1 = .ok (.istore_n 3, 1) := by decide +kernel
theorem d8_2 : decode (cc 8) 2 = .ok (.aload_n 0, 1) := by decide +kernel
theorem d8_3 : decode (cc 8) 3 = .ok (.arraylength, 1) := by decide +kernel
theorem d8_4 : decode (cc 8) 4 = .ok (.istore 4, 2) := by decide +kernel
theorem d8_6 : decode (cc 8) 6 = .ok (.iload_n 3, 1) := by decide +kernel
theorem d8_7 : decode (cc 8) 7 = .ok (.iload 4, 2) := by decide +kernel
theorem d8_9 : decode (cc 8) 9 = .ok (.if_icmp .ge 13, 3) := by decide +kernel
theorem d8_12 : decode (cc 8) 12 = .ok (.aload_n 0, 1) := by decide +kernel
theorem d8_13 : decode (cc 8) 13 = .ok (.iload_n 3, 1) := by decide +kernel
theorem d8_14 : decode (cc 8) 14 = .ok (.lload_n 1, 1) := by decide +kernel
theorem d8_15 : decode (cc 8) 15 = .ok (.lastore, 1) := by decide +kernel
theorem d8_16 : decode (cc 8) 16 = .ok (.iinc 3 1, 3) := by decide +kernel
theorem d8_19 : decode (cc 8) 19 = .ok (.goto (-13), 3) := by decide +kernel
theorem d8_22 : decode (cc 8) 22 = .ok (.return_, 1) := by decide +kernel
theorem d9_0 : decode (cc 9) 0 = .ok (.iconst 0, 1) := by decide +kernel
theorem d9_1 : decode (cc 9) 1 = .ok (.istore_n 3, 1) := by decide +kernel
theorem d9_2 : decode (cc 9) 2 = .ok (.iload_n 3, 1) := by decide +kernel
theorem d9_3 : decode (cc 9) 3 = .ok (.aload_n 0, 1) := by decide +kernel
theorem d9_4 : decode (cc 9) 4 = .ok (.getfield 21, 3) := by decide +kernel
theorem d9_7 : decode (cc 9) 7 = .ok (.if_icmp .ge 37, 3) := by decide +kernel
theorem d9_10 : decode (cc 9) 10 = .ok (.aload_n 0, 1) := by decide +kernel
theorem d9_11 : decode (cc 9) 11 = .ok (.getfield 9, 3) := by decide +kernel
theorem d9_14 : decode (cc 9) 14 = .ok (.iload_n 3, 1) := by decide +kernel
theorem d9_15 : decode (cc 9) 15 = .ok (.iaload, 1) := by decide +kernel
theorem d9_16 : decode (cc 9) 16 = .ok (.iload_n 2, 1) := by decide +kernel
theorem d9_17 : decode (cc 9) 17 = .ok (.if_icmp .ne 21, 3) := by decide +kernel
theorem d9_20 : decode (cc 9) 20 = .ok (.aload_n 1, 1) := by decide +kernel
theorem d9_21 : decode (cc 9) 21 = .ok (.aload_n 0, 1) := by decide +kernel
theorem d9_22 : decode (cc 9) 22 = .ok (.getfield 15, 3) := by decide +kernel
theorem d9_25 : decode (cc 9) 25 = .ok (.iload_n 3, 1) := by decide +kernel
theorem d9_26 : decode (cc 9) 26 = .ok (.iaload, 1) := by decide +kernel
theorem d9_27 : decode (cc 9) 27 = .ok (.dup2, 1) := by decide +kernel
theorem d9_28 : decode (cc 9) 28 = .ok (.laload, 1) := by decide +kernel
theorem d9_29 : decode (cc 9) 29 = .ok (.aload_n 0, 1) := by decide +kernel
theorem d9_30 : decode (cc 9) 30 = .ok (.getfield 18, 3) := by decide +kernel
theorem d9_33 : decode (cc 9) 33 = .ok (.iload_n 3, 1) := by decide +kernel
theorem d9_34 : decode (cc 9) 34 = .ok (.iaload, 1) := by decide +kernel
theorem d9_35 : decode (cc 9) 35 = .ok (.i2l, 1) := by decide +kernel
theorem d9_36 : decode (cc 9) 36 = .ok (.ladd, 1) := by decide +kernel
theorem d9_37 : decode (cc 9) 37 = .ok (.lastore, 1) := by decide +kernel
theorem d9_38 : decode (cc 9) 38 = .ok (.iinc 3 1, 3) := by decide +kernel
theorem d9_41 : decode (cc 9) 41 = .ok (.goto (-39), 3) := by decide +kernel
theorem d9_44 : decode (cc 9) 44 = .ok (.return_, 1) := by decide +kernel
theorem d10_0 : decode (cc 10) 0 = .ok (.iload_n 1, 1) := by decide +kernel
theorem d10_1 : decode (cc 10) 1 = .ok (.iload_n 2, 1) := by decide +kernel
theorem d10_2 : decode (cc 10) 2 = .ok (.invokestatic 98, 3) := by decide +kernel
theorem d10_5 : decode (cc 10) 5 = .ok (.istore_n 3, 1) := by decide +kernel
theorem d10_6 : decode (cc 10) 6 = .ok (.aload_n 0, 1) := by decide +kernel
theorem d10_7 : decode (cc 10) 7 = .ok (.getfield 18, 3) := by decide +kernel
theorem d10_10 : decode (cc 10) 10 = .ok (.getfield 250, 3) := by decide +kernel
theorem d10_13 : decode (cc 10) 13 = .ok (.iload_n 3, 1) := by decide +kernel
theorem d10_14 : decode (cc 10) 14 = .ok (.iaload, 1) := by decide +kernel
theorem d10_15 : decode (cc 10) 15 = .ok (.ifCond .ne 4, 3) := by decide +kernel
theorem d10_18 : decode (cc 10) 18 = .ok (.return_, 1) := by decide +kernel
theorem d10_19 : decode (cc 10) 19 = .ok (.aload_n 0, 1) := by decide +kernel
theorem d10_20 : decode (cc 10) 20 = .ok (.getfield 11, 3) := by decide +kernel
theorem d10_23 : decode (cc 10) 23 = .ok (.iload_n 1, 1) := by decide +kernel
theorem d10_24 : decode (cc 10) 24 = .ok (.aaload, 1) := by decide +kernel
theorem d10_25 : decode (cc 10) 25 = .ok (.astore 4, 2) := by decide +kernel
theorem d10_27 : decode (cc 10) 27 = .ok (.iconst 0, 1) := by decide +kernel
theorem d10_28 : decode (cc 10) 28 = .ok (.istore 5, 2) := by decide +kernel
theorem d10_30 : decode (cc 10) 30 = .ok (.iload 5, 2) := by decide +kernel
theorem d10_32 : decode (cc 10) 32 = .ok (.bipush 12, 2) := by decide +kernel
theorem d10_34 : decode (cc 10) 34 = .ok (.if_icmp .ge 74, 3) := by decide +kernel
theorem d10_37 : decode (cc 10) 37 = .ok (.iload 5, 2) := by decide +kernel
theorem d10_39 : decode (cc 10) 39 = .ok (.aload_n 0, 1) := by decide +kernel
theorem d10_40 : decode (cc 10) 40 = .ok (.getfield 18, 3) := by decide +kernel
theorem d10_43 : decode (cc 10) 43 = .ok (.getfield 253, 3) := by decide +kernel
theorem d10_46 : decode (cc 10) 46 = .ok (.iload_n 3, 1) := by decide +kernel
theorem d10_47 : decode (cc 10) 47 = .ok (.iaload, 1) := by decide +kernel
theorem d10_48 : decode (cc 10) 48 = .ok (.if_icmp .lt 54, 3) := by decide +kernel
theorem d10_51 : decode (cc 10) 51 = .ok (.iload 5, 2) := by decide +kernel
theorem d10_53 : decode (cc 10) 53 = .ok (.aload_n 0, 1) := by decide +kernel
theorem d10_54 : decode (cc 10) 54 = .ok (.getfield 18, 3) := by decide +kernel
theorem d10_57 : decode (cc 10) 57 = .ok (.getfield 256, 3) := by decide +kernel
theorem d10_60 : decode (cc 10) 60 = .ok (.iload_n 3, 1) := by decide +kernel
theorem d10_61 : decode (cc 10) 61 = .ok (.iaload, 1) := by decide +kernel
theorem d10_62 : decode (cc 10) 62 = .ok (.if_icmp .gt 40, 3) := by decide +kernel
theorem d10_65 : decode (cc 10) 65 = .ok (.aload_n 0, 1) := by decide +kernel
theorem d10_66 : decode (cc 10) 66 = .ok (.getfield 42, 3) := by decide +kernel
theorem d10_69 : decode (cc 10) 69 = .ok (.iload 5, 2) := by decide +kernel
theorem d10_71 : decode (cc 10) 71 = .ok (.dup2, 1) := by decide +kernel
theorem d10_72 : decode (cc 10) 72 = .ok (.laload, 1) := by decide +kernel
theorem d10_73 : decode (cc 10) 73 = .ok (.aload_n 0, 1) := by decide +kernel
theorem d10_74 : decode (cc 10) 74 = .ok (.getfield 11, 3) := by decide +kernel
theorem d10_77 : decode (cc 10) 77 = .ok (.iload_n 2, 1) := by decide +kernel
theorem d10_78 : decode (cc 10) 78 = .ok (.aaload, 1) := by decide +kernel
theorem d10_79 : decode (cc 10) 79 = .ok (.aload 4, 2) := by decide +kernel
theorem d10_81 : decode (cc 10) 81 = .ok (.iload 5, 2) := by decide +kernel
theorem d10_83 : decode (cc 10) 83 = .ok (.invokevirtual 180, 3) := by decide +kernel
theorem d10_86 : decode (cc 10) 86 = .ok (.aload_n 0, 1) := by decide +kernel
theorem d10_87 : decode (cc 10) 87 = .ok (.getfield 18, 3) := by decide +kernel
theorem d10_90 : decode (cc 10) 90 = .ok (.getfield 250, 3) := by decide +kernel
theorem d10_93 : decode (cc 10) 93 = .ok (.iload_n 3, 1) := by decide +kernel
theorem d10_94 : decode (cc 10) 94 = .ok (.iaload, 1) := by decide +kernel
theorem d10_95 : decode (cc 10) 95 = .ok (.i2l, 1) := by decide +kernel
theorem d10_96 : decode (cc 10) 96 = .ok (.lmul, 1) := by decide +kernel
theorem d10_97 : decode (cc 10) 97 = .ok (.invokevirtual 259, 3) := by decide +kernel
theorem d10_100 : decode (cc 10) 100 = .ok (.ladd, 1) := by decide +kernel
theorem d10_101 : decode (cc 10) 101 = .ok (.lastore, 1) := by decide +kernel
theorem d10_102 : decode (cc 10) 102 = .ok (.iinc 5 1, 3) := by decide +kernel
theorem d10_105 : decode (cc 10) 105 = .ok (.goto (-75), 3) := by decide +kernel
theorem d10_108 : decode (cc 10) 108 = .ok (.return_, 1) := by decide +kernel
theorem d11_0 : decode (cc 11) 0 = .ok (.iload_n 0, 1) := by decide +kernel
theorem d11_1 : decode (cc 11) 1 = .ok (.bipush 12, 2) := by decide +kernel
theorem d11_3 : decode (cc 11) 3 = .ok (.imul, 1) := by decide +kernel
theorem d11_4 : decode (cc 11) 4 = .ok (.iload_n 1, 1) := by decide +kernel
theorem d11_5 : decode (cc 11) 5 = .ok (.iadd, 1) := by decide +kernel
theorem d11_6 : decode (cc 11) 6 = .ok (.ireturn, 1) := by decide +kernel
theorem d12_0 : decode (cc 12) 0 = .ok (.iload_n 1, 1) := by decide +kernel
theorem d12_1 : decode (cc 12) 1 = .ok (.aload_n 0, 1) := by decide +kernel
theorem d12_2 : decode (cc 12) 2 = .ok (.getfield 29, 3) := by decide +kernel
theorem d12_5 : decode (cc 12) 5 = .ok (.iadd, 1) := by decide +kernel
theorem d12_6 : decode (cc 12) 6 = .ok (.istore_n 2, 1) := by decide +kernel
theorem d12_7 : decode (cc 12) 7 = .ok (.iload_n 2, 1) := by decide +kernel
theorem d12_8 : decode (cc 12) 8 = .ok (.ifCond .lt 18, 3) := by decide +kernel
theorem d12_11 : decode (cc 12) 11 = .ok (.iload_n 2, 1) := by decide +kernel
theorem d12_12 : decode (cc 12) 12 = .ok (.bipush 12, 2) := by decide +kernel
theorem d12_14 : decode (cc 12) 14 = .ok (.if_icmp .ge 12, 3) := by decide +kernel
theorem d12_17 : decode (cc 12) 17 = .ok (.aload_n 0, 1) := by decide +kernel
theorem d12_18 : decode (cc 12) 18 = .ok (.getfield 23, 3) := by decide +kernel
theorem d12_21 : decode (cc 12) 21 = .ok (.iload_n 2, 1) := by decide +kernel
theorem d12_22 : decode (cc 12) 22 = .ok (.laload, 1) := by decide +kernel
theorem d12_23 : decode (cc 12) 23 = .ok (.goto 4, 3) := by decide +kernel
theorem d12_26 : decode (cc 12) 26 = .ok (.lconst 0, 1) := by decide +kernel
theorem d12_27 : decode (cc 12) 27 = .ok (.lreturn, 1) := by decide +kernel
theorem d13_0 : decode (cc 13) 0 = .ok (.lload_n 1, 1) := by decide +kernel
theorem d13_1 : decode (cc 13) 1 = .ok (.sipush 1000, 3) := by decide +kernel
theorem d13_4 : decode (cc 13) 4 = .ok (.aload_n 0, 1) := by decide +kernel
theorem d13_5 : decode (cc 13) 5 = .ok (.getfield 32, 3) := by decide +kernel
theorem d13_8 : decode (cc 13) 8 = .ok (.iadd, 1) := by decide +kernel
theorem d13_9 : decode (cc 13) 9 = .ok (.i2l, 1) := by decide +kernel
theorem d13_10 : decode (cc 13) 10 = .ok (.lmul, 1) := by decide +kernel
theorem d13_11 : decode (cc 13) 11 = .ok (.ldc2_w 35, 3) := by decide +kernel
theorem d13_14 : decode (cc 13) 14 = .ok (.ladd, 1) := by decide +kernel
theorem d13_15 : decode (cc 13) 15 = .ok (.ldc2_w 37, 3) := by decide +kernel
theorem d13_18 : decode (cc 13) 18 = .ok (.ldiv, 1) := by decide +kernel
theorem d13_19 : decode (cc 13) 19 = .ok (.lreturn, 1) := by decide +kernel
theorem d14_0 : decode (cc 14) 0 = .ok (.iconst 0, 1) := by decide +kernel
theorem d14_1 : decode (cc 14) 1 = .ok (.istore_n 2, 1) := by decide +kernel
theorem d14_2 : decode (cc 14) 2 = .ok (.iload_n 2, 1) := by decide +kernel
theorem d14_3 : decode (cc 14) 3 = .ok (.bipush 12, 2) := by decide +kernel
theorem d14_5 : decode (cc 14) 5 = .ok (.if_icmp .ge 24, 3) := by decide +kernel
theorem d14_8 : decode (cc 14) 8 = .ok (.aload_n 0, 1) := by decide +kernel
theorem d14_9 : decode (cc 14) 9 = .ok (.getfield 19, 3) := by decide +kernel
theorem d14_12 : decode (cc 14) 12 = .ok (.iload_n 2, 1) := by decide +kernel
theorem d14_13 : decode (cc 14) 13 = .ok (.laload, 1) := by decide +kernel
theorem d14_14 : decode (cc 14) 14 = .ok (.aload_n 1, 1) := by decide +kernel
theorem d14_15 : decode (cc 14) 15 = .ok (.iload_n 2, 1) := by decide +kernel
theorem d14_16 : decode (cc 14) 16 = .ok (.laload, 1) := by decide +kernel
theorem d14_17 : decode (cc 14) 17 = .ok (.lcmp, 1) := by decide +kernel
theorem d14_18 : decode (cc 14) 18 = .ok (.ifCond .eq 5, 3) := by decide +kernel
theorem d14_21 : decode (cc 14) 21 = .ok (.iconst 0, 1) := by decide +kernel
theorem d14_22 : decode (cc 14) 22 = .ok (.ireturn, 1) := by decide +kernel
theorem d14_23 : decode (cc 14) 23 = .ok (.iinc 2 1, 3) := by decide +kernel
theorem d14_26 : decode (cc 14) 26 = .ok (.goto (-24), 3) := by decide +kernel
theorem d14_29 : decode (cc 14) 29 = .ok (.iconst 1, 1) := by decide +kernel
theorem d14_30 : decode (cc 14) 30 = .ok (.ireturn, 1) := by decide +kernel
theorem d15_0 : decode (cc 15) 0 = .ok (.aload_n 0, 1) := by decide +kernel
theorem d15_1 : decode (cc 15) 1 = .ok (.aload_n 1, 1) := by decide +kernel
theorem d15_2 : decode (cc 15) 2 = .ok (.aload_n 2, 1) := by decide +kernel
theorem d15_3 : decode (cc 15) 3 = .ok (.invokevirtual 25, 3) := by decide +kernel
theorem d15_6 : decode (cc 15) 6 = .ok (.aload_n 1, 1) := by decide +kernel
theorem d15_7 : decode (cc 15) 7 = .ok (.getfield 29, 3) := by decide +kernel
theorem d15_10 : decode (cc 15) 10 = .ok (.iconst 3, 1) := by decide +kernel
theorem d15_11 : decode (cc 15) 11 = .ok (.if_icmp .ne 8, 3) := by decide +kernel
theorem d15_14 : decode (cc 15) 14 = .ok (.aload_n 0, 1) := by decide +kernel
theorem d15_15 : decode (cc 15) 15 = .ok (.aload_n 1, 1) := by decide +kernel
theorem d15_16 : decode (cc 15) 16 = .ok (.invokevirtual 35, 3) := by decide +kernel
theorem d15_19 : decode (cc 15) 19 = .ok (.lconst 0, 1) := by decide +kernel
theorem d15_20 : decode (cc 15) 20 = .ok (.lstore_n 3, 1) := by decide +kernel
theorem d15_21 : decode (cc 15) 21 = .ok (.iconst 0, 1) := by decide +kernel
theorem d15_22 : decode (cc 15) 22 = .ok (.istore 5, 2) := by decide +kernel
theorem d15_24 : decode (cc 15) 24 = .ok (.iload 5, 2) := by decide +kernel
theorem d15_26 : decode (cc 15) 26 = .ok (.bipush 12, 2) := by decide +kernel
theorem d15_28 : decode (cc 15) 28 = .ok (.if_icmp .ge 66, 3) := by decide +kernel
theorem d15_31 : decode (cc 15) 31 = .ok (.aload_n 1, 1) := by decide +kernel
theorem d15_32 : decode (cc 15) 32 = .ok (.getfield 39, 3) := by decide +kernel
theorem d15_35 : decode (cc 15) 35 = .ok (.iload 5, 2) := by decide +kernel
theorem d15_37 : decode (cc 15) 37 = .ok (.aload_n 0, 1) := by decide +kernel
theorem d15_38 : decode (cc 15) 38 = .ok (.getfield 15, 3) := by decide +kernel
theorem d15_41 : decode (cc 15) 41 = .ok (.iload 5, 2) := by decide +kernel
theorem d15_43 : decode (cc 15) 43 = .ok (.laload, 1) := by decide +kernel
theorem d15_44 : decode (cc 15) 44 = .ok (.lload_n 3, 1) := by decide +kernel
theorem d15_45 : decode (cc 15) 45 = .ok (.lcmp, 1) := by decide +kernel
theorem d15_46 : decode (cc 15) 46 = .ok (.ifCond .le 14, 3) := by decide +kernel
theorem d15_49 : decode (cc 15) 49 = .ok (.aload_n 0, 1) := by decide +kernel
theorem d15_50 : decode (cc 15) 50 = .ok (.aload_n 1, 1) := by decide +kernel
theorem d15_51 : decode (cc 15) 51 = .ok (.iload 5, 2) := by decide +kernel
theorem d15_53 : decode (cc 15) 53 = .ok (.lload_n 3, 1) := by decide +kernel
theorem d15_54 : decode (cc 15) 54 = .ok (.invokevirtual 42, 3) := by decide +kernel
theorem d15_57 : decode (cc 15) 57 = .ok (.goto 4, 3) := by decide +kernel
theorem d15_60 : decode (cc 15) 60 = .ok (.lconst 0, 1) := by decide +kernel
theorem d15_61 : decode (cc 15) 61 = .ok (.lastore, 1) := by decide +kernel
theorem d15_62 : decode (cc 15) 62 = .ok (.lload_n 3, 1) := by decide +kernel
theorem d15_63 : decode (cc 15) 63 = .ok (.aload_n 1, 1) := by decide +kernel
theorem d15_64 : decode (cc 15) 64 = .ok (.getfield 39, 3) := by decide +kernel
theorem d15_67 : decode (cc 15) 67 = .ok (.iload 5, 2) := by decide +kernel
theorem d15_69 : decode (cc 15) 69 = .ok (.laload, 1) := by decide +kernel
theorem d15_70 : decode (cc 15) 70 = .ok (.ladd, 1) := by decide +kernel
theorem d15_71 : decode (cc 15) 71 = .ok (.lstore_n 3, 1) := by decide +kernel
theorem d15_72 : decode (cc 15) 72 = .ok (.aload_n 1, 1) := by decide +kernel
theorem d15_73 : decode (cc 15) 73 = .ok (.getfield 46, 3) := by decide +kernel
theorem d15_76 : decode (cc 15) 76 = .ok (.iload 5, 2) := by decide +kernel
theorem d15_78 : decode (cc 15) 78 = .ok (.aload_n 0, 1) := by decide +kernel
theorem d15_79 : decode (cc 15) 79 = .ok (.getfield 9, 3) := by decide +kernel
theorem d15_82 : decode (cc 15) 82 = .ok (.iload 5, 2) := by decide +kernel
theorem d15_84 : decode (cc 15) 84 = .ok (.laload, 1) := by decide +kernel
theorem d15_85 : decode (cc 15) 85 = .ok (.lload_n 3, 1) := by decide +kernel
theorem d15_86 : decode (cc 15) 86 = .ok (.ladd, 1) := by decide +kernel
theorem d15_87 : decode (cc 15) 87 = .ok (.lastore, 1) := by decide +kernel
theorem d15_88 : decode (cc 15) 88 = .ok (.iinc 5 1, 3) := by decide +kernel
theorem d15_91 : decode (cc 15) 91 = .ok (.goto (-67), 3) := by decide +kernel
theorem d15_94 : decode (cc 15) 94 = .ok (.return_, 1) := by decide +kernel
theorem d16_0 : decode (cc 16) 0 = .ok (.aload_n 1, 1) := by decide +kernel
theorem d16_1 : decode (cc 16) 1 = .ok (.getfield 49, 3) := by decide +kernel
theorem d16_4 : decode (cc 16) 4 = .ok (.i2l, 1) := by decide +kernel
theorem d16_5 : decode (cc 16) 5 = .ok (.lstore_n 3, 1) := by decide +kernel
theorem d16_6 : decode (cc 16) 6 = .ok (.lconst 0, 1) := by decide +kernel
theorem d16_7 : decode (cc 16) 7 = .ok (.lstore 5, 2) := by decide +kernel
theorem d16_9 : decode (cc 16) 9 = .ok (.iconst 0, 1) := by decide +kernel
theorem d16_10 : decode (cc 16) 10 = .ok (.istore 7, 2) := by decide +kernel
theorem d16_12 : decode (cc 16) 12 = .ok (.iload 7, 2) := by decide +kernel
theorem d16_14 : decode (cc 16) 14 = .ok (.bipush 12, 2) := by decide +kernel
theorem d16_16 : decode (cc 16) 16 = .ok (.if_icmp .ge 68, 3) := by decide +kernel
theorem d16_19 : decode (cc 16) 19 = .ok (.lload_n 3, 1) := by decide +kernel
theorem d16_20 : decode (cc 16) 20 = .ok (.aload_n 2, 1) := by decide +kernel
theorem d16_21 : decode (cc 16) 21 = .ok (.iload 7, 2) := by decide +kernel
theorem d16_23 : decode (cc 16) 23 = .ok (.laload, 1) := by decide +kernel
theorem d16_24 : decode (cc 16) 24 = .ok (.aload_n 1, 1) := by decide +kernel
theorem d16_25 : decode (cc 16) 25 = .ok (.getfield 52, 3) := by decide +kernel
theorem d16_28 : decode (cc 16) 28 = .ok (.iload 7, 2) := by decide +kernel
theorem d16_30 : decode (cc 16) 30 = .ok (.laload, 1) := by decide +kernel
theorem d16_31 : decode (cc 16) 31 = .ok (.lsub, 1) := by decide +kernel
theorem d16_32 : decode (cc 16) 32 = .ok (.ladd, 1) := by decide +kernel
theorem d16_33 : decode (cc 16) 33 = .ok (.lstore_n 3, 1) := by decide +kernel
theorem d16_34 : decode (cc 16) 34 = .ok (.aload_n 0, 1) := by decide +kernel
theorem d16_35 : decode (cc 16) 35 = .ok (.getfield 9, 3) := by decide +kernel
theorem d16_38 : decode (cc 16) 38 = .ok (.iload 7, 2) := by decide +kernel
theorem d16_40 : decode (cc 16) 40 = .ok (.lload_n 3, 1) := by decide +kernel
theorem d16_41 : decode (cc 16) 41 = .ok (.lastore, 1) := by decide +kernel
theorem d16_42 : decode (cc 16) 42 = .ok (.lload 5, 2) := by decide +kernel
theorem d16_44 : decode (cc 16) 44 = .ok (.aload_n 1, 1) := by decide +kernel
theorem d16_45 : decode (cc 16) 45 = .ok (.getfield 55, 3) := by decide +kernel
theorem d16_48 : decode (cc 16) 48 = .ok (.i2l, 1) := by decide +kernel
theorem d16_49 : decode (cc 16) 49 = .ok (.lload_n 3, 1) := by decide +kernel
theorem d16_50 : decode (cc 16) 50 = .ok (.lsub, 1) := by decide +kernel
theorem d16_51 : decode (cc 16) 51 = .ok (.invokestatic 58, 3) := by decide +kernel
theorem d16_54 : decode (cc 16) 54 = .ok (.lstore 5, 2) := by decide +kernel
theorem d16_56 : decode (cc 16) 56 = .ok (.aload_n 0, 1) := by decide +kernel
theorem d16_57 : decode (cc 16) 57 = .ok (.getfield 15, 3) := by decide +kernel
theorem d16_60 : decode (cc 16) 60 = .ok (.iload 7, 2) := by decide +kernel
theorem d16_62 : decode (cc 16) 62 = .ok (.iload 7, 2) := by decide +kernel
theorem d16_64 : decode (cc 16) 64 = .ok (.aload_n 1, 1) := by decide +kernel
theorem d16_65 : decode (cc 16) 65 = .ok (.getfield 64, 3) := by decide +kernel
theorem d16_68 : decode (cc 16) 68 = .ok (.if_icmp .ge 7, 3) := by decide +kernel
theorem d16_71 : decode (cc 16) 71 = .ok (.lconst 0, 1) := by decide +kernel
theorem d16_72 : decode (cc 16) 72 = .ok (.goto 5, 3) := by decide +kernel
theorem d16_75 : decode (cc 16) 75 = .ok (.lload 5, 2) := by decide +kernel
theorem d16_77 : decode (cc 16) 77 = .ok (.lastore, 1) := by decide +kernel
theorem d16_78 : decode (cc 16) 78 = .ok (.iinc 7 1, 3) := by decide +kernel
theorem d16_81 : decode (cc 16) 81 = .ok (.goto (-69), 3) := by decide +kernel
theorem d16_84 : decode (cc 16) 84 = .ok (.return_, 1) := by decide +kernel
theorem d17_0 : decode (cc 17) 0 = .ok (.aload_n 0, 1) := by decide +kernel
theorem d17_1 : decode (cc 17) 1 = .ok (.getfield 18, 3) := by decide +kernel
theorem d17_4 : decode (cc 17) 4 = .ok (.bipush 12, 2) := by decide +kernel
theorem d17_6 : decode (cc 17) 6 = .ok (.lconst 0, 1) := by decide +kernel
theorem d17_7 : decode (cc 17) 7 = .ok (.lastore, 1) := by decide +kernel
theorem d17_8 : decode (cc 17) 8 = .ok (.bipush 11, 2) := by decide +kernel
theorem d17_10 : decode (cc 17) 10 = .ok (.istore_n 2, 1) := by decide +kernel
theorem d17_11 : decode (cc 17) 11 = .ok (.iload_n 2, 1) := by decide +kernel
theorem d17_12 : decode (cc 17) 12 = .ok (.ifCond .lt 47, 3) := by decide +kernel
theorem d17_15 : decode (cc 17) 15 = .ok (.aload_n 0, 1) := by decide +kernel
theorem d17_16 : decode (cc 17) 16 = .ok (.getfield 15, 3) := by decide +kernel
theorem d17_19 : decode (cc 17) 19 = .ok (.iload_n 2, 1) := by decide +kernel
theorem d17_20 : decode (cc 17) 20 = .ok (.laload, 1) := by decide +kernel
theorem d17_21 : decode (cc 17) 21 = .ok (.aload_n 0, 1) := by decide +kernel
theorem d17_22 : decode (cc 17) 22 = .ok (.iload_n 2, 1) := by decide +kernel
theorem d17_23 : decode (cc 17) 23 = .ok (.invokevirtual 78, 3) := by decide +kernel
theorem d17_26 : decode (cc 17) 26 = .ok (.lcmp, 1) := by decide +kernel
theorem d17_27 : decode (cc 17) 27 = .ok (.ifCond .ne 20, 3) := by decide +kernel
theorem d17_30 : decode (cc 17) 30 = .ok (.aload_n 0, 1) := by decide +kernel
theorem d17_31 : decode (cc 17) 31 = .ok (.getfield 18, 3) := by decide +kernel
theorem d17_34 : decode (cc 17) 34 = .ok (.iload_n 2, 1) := by decide +kernel
theorem d17_35 : decode (cc 17) 35 = .ok (.aload_n 0, 1) := by decide +kernel
theorem d17_36 : decode (cc 17) 36 = .ok (.getfield 18, 3) := by decide +kernel
theorem d17_39 : decode (cc 17) 39 = .ok (.iload_n 2, 1) := by decide +kernel
theorem d17_40 : decode (cc 17) 40 = .ok (.iconst 1, 1) := by decide +kernel
theorem d17_41 : decode (cc 17) 41 = .ok (.iadd, 1) := by decide +kernel
theorem d17_42 : decode (cc 17) 42 = .ok (.laload, 1) := by decide +kernel
theorem d17_43 : decode (cc 17) 43 = .ok (.lastore, 1) := by decide +kernel
theorem d17_44 : decode (cc 17) 44 = .ok (.goto 9, 3) := by decide +kernel
theorem d17_47 : decode (cc 17) 47 = .ok (.aload_n 0, 1) := by decide +kernel
theorem d17_48 : decode (cc 17) 48 = .ok (.aload_n 1, 1) := by decide +kernel
theorem d17_49 : decode (cc 17) 49 = .ok (.iload_n 2, 1) := by decide +kernel
theorem d17_50 : decode (cc 17) 50 = .ok (.invokevirtual 82, 3) := by decide +kernel
theorem d17_53 : decode (cc 17) 53 = .ok (.iinc 2 (-1), 3) := by decide +kernel
theorem d17_56 : decode (cc 17) 56 = .ok (.goto (-45), 3) := by decide +kernel
theorem d17_59 : decode (cc 17) 59 = .ok (.return_, 1) := by decide +kernel
theorem d18_0 : decode (cc 18) 0 = .ok (.iload_n 1, 1) := by decide +kernel
theorem d18_1 : decode (cc 18) 1 = .ok (.iconst 1, 1) := by decide +kernel
theorem d18_2 : decode (cc 18) 2 = .ok (.if_icmp .ge 7, 3) := by decide +kernel
theorem d18_5 : decode (cc 18) 5 = .ok (.lconst 0, 1) := by decide +kernel
theorem d18_6 : decode (cc 18) 6 = .ok (.goto 11, 3) := by decide +kernel
theorem d18_9 : decode (cc 18) 9 = .ok (.aload_n 0, 1) := by decide +kernel
theorem d18_10 : decode (cc 18) 10 = .ok (.getfield 15, 3) := by decide +kernel
theorem d18_13 : decode (cc 18) 13 = .ok (.iload_n 1, 1) := by decide +kernel
theorem d18_14 : decode (cc 18) 14 = .ok (.iconst 1, 1) := by decide +kernel
theorem d18_15 : decode (cc 18) 15 = .ok (.isub, 1) := by decide +kernel
theorem d18_16 : decode (cc 18) 16 = .ok (.laload, 1) := by decide +kernel
theorem d18_17 : decode (cc 18) 17 = .ok (.lreturn, 1) := by decide +kernel
theorem d19_0 : decode (cc 19) 0 = .ok (.lconst 0, 1) := by decide +kernel
theorem d19_1 : decode (cc 19) 1 = .ok (.lstore_n 3, 1) := by decide +kernel
theorem d19_2 : decode (cc 19) 2 = .ok (.iload_n 2, 1) := by decide +kernel
theorem d19_3 : decode (cc 19) 3 = .ok (.istore 5, 2) := by decide +kernel
theorem d19_5 : decode (cc 19) 5 = .ok (.iload 5, 2) := by decide +kernel
theorem d19_7 : decode (cc 19) 7 = .ok (.bipush 12, 2) := by decide +kernel
theorem d19_9 : decode (cc 19) 9 = .ok (.if_icmp .ge 91, 3) := by decide +kernel
theorem d19_12 : decode (cc 19) 12 = .ok (.lload_n 3, 1) := by decide +kernel
theorem d19_13 : decode (cc 19) 13 = .ok (.iload 5, 2) := by decide +kernel
theorem d19_15 : decode (cc 19) 15 = .ok (.iload_n 2, 1) := by decide +kernel
theorem d19_16 : decode (cc 19) 16 = .ok (.isub, 1) := by decide +kernel
theorem d19_17 : decode (cc 19) 17 = .ok (.i2l, 1) := by decide +kernel
theorem d19_18 : decode (cc 19) 18 = .ok (.aload_n 0, 1) := by decide +kernel
theorem d19_19 : decode (cc 19) 19 = .ok (.getfield 15, 3) := by decide +kernel
theorem d19_22 : decode (cc 19) 22 = .ok (.iload 5, 2) := by decide +kernel
theorem d19_24 : decode (cc 19) 24 = .ok (.laload, 1) := by decide +kernel
theorem d19_25 : decode (cc 19) 25 = .ok (.aload_n 0, 1) := by decide +kernel
theorem d19_26 : decode (cc 19) 26 = .ok (.iload 5, 2) := by decide +kernel
theorem d19_28 : decode (cc 19) 28 = .ok (.invokevirtual 78, 3) := by decide +kernel
theorem d19_31 : decode (cc 19) 31 = .ok (.lsub, 1) := by decide +kernel
theorem d19_32 : decode (cc 19) 32 = .ok (.lmul, 1) := by decide +kernel
theorem d19_33 : decode (cc 19) 33 = .ok (.ladd, 1) := by decide +kernel
theorem d19_34 : decode (cc 19) 34 = .ok (.lstore_n 3, 1) := by decide +kernel
theorem d19_35 : decode (cc 19) 35 = .ok (.aload_n 1, 1) := by decide +kernel
theorem d19_36 : decode (cc 19) 36 = .ok (.getfield 86, 3) := by decide +kernel
theorem d19_39 : decode (cc 19) 39 = .ok (.i2l, 1) := by decide +kernel
theorem d19_40 : decode (cc 19) 40 = .ok (.aload_n 1, 1) := by decide +kernel
theorem d19_41 : decode (cc 19) 41 = .ok (.getfield 89, 3) := by decide +kernel
theorem d19_44 : decode (cc 19) 44 = .ok (.i2l, 1) := by decide +kernel
theorem d19_45 : decode (cc 19) 45 = .ok (.lload_n 3, 1) := by decide +kernel
theorem d19_46 : decode (cc 19) 46 = .ok (.lmul, 1) := by decide +kernel
theorem d19_47 : decode (cc 19) 47 = .ok (.ladd, 1) := by decide +kernel
theorem d19_48 : decode (cc 19) 48 = .ok (.aload_n 0, 1) := by decide +kernel
theorem d19_49 : decode (cc 19) 49 = .ok (.getfield 18, 3) := by decide +kernel
theorem d19_52 : decode (cc 19) 52 = .ok (.iload 5, 2) := by decide +kernel
theorem d19_54 : decode (cc 19) 54 = .ok (.iconst 1, 1) := by decide +kernel
theorem d19_55 : decode (cc 19) 55 = .ok (.iadd, 1) := by decide +kernel
theorem d19_56 : decode (cc 19) 56 = .ok (.laload, 1) := by decide +kernel
theorem d19_57 : decode (cc 19) 57 = .ok (.ladd, 1) := by decide +kernel
theorem d19_58 : decode (cc 19) 58 = .ok (.lstore 6, 2) := by decide +kernel
theorem d19_60 : decode (cc 19) 60 = .ok (.iload 5, 2) := by decide +kernel
theorem d19_62 : decode (cc 19) 62 = .ok (.iload_n 2, 1) := by decide +kernel
theorem d19_63 : decode (cc 19) 63 = .ok (.if_icmp .eq 15, 3) := by decide +kernel
theorem d19_66 : decode (cc 19) 66 = .ok (.lload 6, 2) := by decide +kernel
theorem d19_68 : decode (cc 19) 68 = .ok (.aload_n 0, 1) := by decide +kernel
theorem d19_69 : decode (cc 19) 69 = .ok (.getfield 18, 3) := by decide +kernel
theorem d19_72 : decode (cc 19) 72 = .ok (.iload_n 2, 1) := by decide +kernel
theorem d19_73 : decode (cc 19) 73 = .ok (.laload, 1) := by decide +kernel
theorem d19_74 : decode (cc 19) 74 = .ok (.lcmp, 1) := by decide +kernel
theorem d19_75 : decode (cc 19) 75 = .ok (.ifCond .ge 19, 3) := by decide +kernel
theorem d19_78 : decode (cc 19) 78 = .ok (.aload_n 0, 1) := by decide +kernel
theorem d19_79 : decode (cc 19) 79 = .ok (.getfield 18, 3) := by decide +kernel
theorem d19_82 : decode (cc 19) 82 = .ok (.iload_n 2, 1) := by decide +kernel
theorem d19_83 : decode (cc 19) 83 = .ok (.lload 6, 2) := by decide +kernel
theorem d19_85 : decode (cc 19) 85 = .ok (.lastore, 1) := by decide +kernel
theorem d19_86 : decode (cc 19) 86 = .ok (.aload_n 0, 1) := by decide +kernel
theorem d19_87 : decode (cc 19) 87 = .ok (.getfield 21, 3) := by decide +kernel
theorem d19_90 : decode (cc 19) 90 = .ok (.iload_n 2, 1) := by decide +kernel
theorem d19_91 : decode (cc 19) 91 = .ok (.iload 5, 2) := by decide +kernel
theorem d19_93 : decode (cc 19) 93 = .ok (.iastore, 1) := by decide +kernel
theorem d19_94 : decode (cc 19) 94 = .ok (.iinc 5 1, 3) := by decide +kernel
theorem d19_97 : decode (cc 19) 97 = .ok (.goto (-92), 3) := by decide +kernel
theorem d19_100 : decode (cc 19) 100 = .ok (.return_, 1) := by decide +kernel
theorem d20_0 : decode (cc 20) 0 = .ok (.aload_n 1, 1) := by decide +kernel
theorem d20_1 : decode (cc 20) 1 = .ok (.getfield 29, 3) := by decide +kernel
theorem d20_4 : decode (cc 20) 4 = .ok (.tableswitch 79 1 3 #[28, 44, 65], 28) := by decide +kernel
theorem d20_32 : decode (cc 20) 32 = .ok (.aload_n 1, 1) := by decide +kernel
theorem d20_33 : decode (cc 20) 33 = .ok (.getfield 67, 3) := by decide +kernel
theorem d20_36 : decode (cc 20) 36 = .ok (.aload_n 0, 1) := by decide +kernel
theorem d20_37 : decode (cc 20) 37 = .ok (.getfield 15, 3) := by decide +kernel
theorem d20_40 : decode (cc 20) 40 = .ok (.iload_n 2, 1) := by decide +kernel
theorem d20_41 : decode (cc 20) 41 = .ok (.laload, 1) := by decide +kernel
theorem d20_42 : decode (cc 20) 42 = .ok (.lload_n 3, 1) := by decide +kernel
theorem d20_43 : decode (cc 20) 43 = .ok (.lsub, 1) := by decide +kernel
theorem d20_44 : decode (cc 20) 44 = .ok (.invokestatic 70, 3) := by decide +kernel
theorem d20_47 : decode (cc 20) 47 = .ok (.lreturn, 1) := by decide +kernel
theorem d20_48 : decode (cc 20) 48 = .ok (.aload_n 0, 1) := by decide +kernel
theorem d20_49 : decode (cc 20) 49 = .ok (.getfield 15, 3) := by decide +kernel
theorem d20_52 : decode (cc 20) 52 = .ok (.iload_n 2, 1) := by decide +kernel
theorem d20_53 : decode (cc 20) 53 = .ok (.aload_n 1, 1) := by decide +kernel
theorem d20_54 : decode (cc 20) 54 = .ok (.getfield 67, 3) := by decide +kernel
theorem d20_57 : decode (cc 20) 57 = .ok (.iadd, 1) := by decide +kernel
theorem d20_58 : decode (cc 20) 58 = .ok (.iconst 1, 1) := by decide +kernel
theorem d20_59 : decode (cc 20) 59 = .ok (.isub, 1) := by decide +kernel
theorem d20_60 : decode (cc 20) 60 = .ok (.bipush 11, 2) := by decide +kernel
theorem d20_62 : decode (cc 20) 62 = .ok (.invokestatic 74, 3) := by decide +kernel
theorem d20_65 : decode (cc 20) 65 = .ok (.laload, 1) := by decide +kernel
theorem d20_66 : decode (cc 20) 66 = .ok (.lload_n 3, 1) := by decide +kernel
theorem d20_67 : decode (cc 20) 67 = .ok (.lsub, 1) := by decide +kernel
theorem d20_68 : decode (cc 20) 68 = .ok (.lreturn, 1) := by decide +kernel
theorem d20_69 : decode (cc 20) 69 = .ok (.aload_n 0, 1) := by decide +kernel
theorem d20_70 : decode (cc 20) 70 = .ok (.getfield 15, 3) := by decide +kernel
theorem d20_73 : decode (cc 20) 73 = .ok (.aload_n 0, 1) := by decide +kernel
theorem d20_74 : decode (cc 20) 74 = .ok (.getfield 21, 3) := by decide +kernel
theorem d20_77 : decode (cc 20) 77 = .ok (.iload_n 2, 1) := by decide +kernel
theorem d20_78 : decode (cc 20) 78 = .ok (.iaload, 1) := by decide +kernel
theorem d20_79 : decode (cc 20) 79 = .ok (.laload, 1) := by decide +kernel
theorem d20_80 : decode (cc 20) 80 = .ok (.lload_n 3, 1) := by decide +kernel
theorem d20_81 : decode (cc 20) 81 = .ok (.lsub, 1) := by decide +kernel
theorem d20_82 : decode (cc 20) 82 = .ok (.lreturn, 1) := by decide +kernel
theorem d20_83 : decode (cc 20) 83 = .ok (.aload_n 0, 1) := by decide +kernel
theorem d20_84 : decode (cc 20) 84 = .ok (.getfield 15, 3) := by decide +kernel
theorem d20_87 : decode (cc 20) 87 = .ok (.iload_n 2, 1) := by decide +kernel
theorem d20_88 : decode (cc 20) 88 = .ok (.laload, 1) := by decide +kernel
theorem d20_89 : decode (cc 20) 89 = .ok (.lload_n 3, 1) := by decide +kernel
theorem d20_90 : decode (cc 20) 90 = .ok (.lsub, 1) := by decide +kernel
theorem d20_91 : decode (cc 20) 91 = .ok (.lreturn, 1) := by decide +kernel
theorem d21_0 : decode (cc 21) 0 = .ok (.iload_n 0, 1) := by decide +kernel
theorem d21_1 : decode (cc 21) 1 = .ok (.iconst 1, 1) := by decide +kernel
theorem d21_2 : decode (cc 21) 2 = .ok (.if_icmp .ge 7, 3) := by decide +kernel
theorem d21_5 : decode (cc 21) 5 = .ok (.lload_n 1, 1) := by decide +kernel
theorem d21_6 : decode (cc 21) 6 = .ok (.goto 15, 3) := by decide +kernel
theorem d21_9 : decode (cc 21) 9 = .ok (.lload_n 1, 1) := by decide +kernel
theorem d21_10 : decode (cc 21) 10 = .ok (.iload_n 0, 1) := by decide +kernel
theorem d21_11 : decode (cc 21) 11 = .ok (.i2l, 1) := by decide +kernel
theorem d21_12 : decode (cc 21) 12 = .ok (.ladd, 1) := by decide +kernel
theorem d21_13 : decode (cc 21) 13 = .ok (.lconst 1, 1) := by decide +kernel
theorem d21_14 : decode (cc 21) 14 = .ok (.lsub, 1) := by decide +kernel
theorem d21_15 : decode (cc 21) 15 = .ok (.iload_n 0, 1) := by decide +kernel
theorem d21_16 : decode (cc 21) 16 = .ok (.i2l, 1) := by decide +kernel
theorem d21_17 : decode (cc 21) 17 = .ok (.ldiv, 1) := by decide +kernel
theorem d21_18 : decode (cc 21) 18 = .ok (.iload_n 0, 1) := by decide +kernel
theorem d21_19 : decode (cc 21) 19 = .ok (.i2l, 1) := by decide +kernel
theorem d21_20 : decode (cc 21) 20 = .ok (.lmul, 1) := by decide +kernel
theorem d21_21 : decode (cc 21) 21 = .ok (.lreturn, 1) := by decide +kernel
theorem d22_0 : decode (cc 22) 0 = .ok (.aload_n 0, 1) := by decide +kernel
theorem d22_1 : decode (cc 22) 1 = .ok (.iload_n 1, 1) := by decide +kernel
theorem d22_2 : decode (cc 22) 2 = .ok (.iload_n 2, 1) := by decide +kernel
theorem d22_3 : decode (cc 22) 3 = .ok (.iload_n 3, 1) := by decide +kernel
theorem d22_4 : decode (cc 22) 4 = .ok (.iload 4, 2) := by decide +kernel
theorem d22_6 : decode (cc 22) 6 = .ok (.iload 5, 2) := by decide +kernel
theorem d22_8 : decode (cc 22) 8 = .ok (.invokevirtual 7, 3) := by decide +kernel
theorem d22_11 : decode (cc 22) 11 = .ok (.goto 11, 3) := by decide +kernel
theorem d22_14 : decode (cc 22) 14 = .ok (.astore 6, 2) := by decide +kernel
theorem d22_16 : decode (cc 22) 16 = .ok (.iconst 1, 1) := by decide +kernel
theorem d22_17 : decode (cc 22) 17 = .ok (.ireturn, 1) := by decide +kernel
theorem d22_18 : decode (cc 22) 18 = .ok (.astore 6, 2) := by decide +kernel
theorem d22_20 : decode (cc 22) 20 = .ok (.iconst 2, 1) := by decide +kernel
theorem d22_21 : decode (cc 22) 21 = .ok (.ireturn, 1) := by decide +kernel
theorem d22_22 : decode (cc 22) 22 = .ok (.iconst 0, 1) := by decide +kernel
theorem d22_23 : decode (cc 22) 23 = .ok (.ireturn, 1) := by decide +kernel
theorem d23_0 : decode (cc 23) 0 = .ok (.aload_n 0, 1) := by decide +kernel
theorem d23_1 : decode (cc 23) 1 = .ok (.iload_n 1, 1) := by decide +kernel
theorem d23_2 : decode (cc 23) 2 = .ok (.invokevirtual 50, 3) := by decide +kernel
theorem d23_5 : decode (cc 23) 5 = .ok (.astore 6, 2) := by decide +kernel
theorem d23_7 : decode (cc 23) 7 = .ok (.iload_n 2, 1) := by decide +kernel
theorem d23_8 : decode (cc 23) 8 = .ok (.iconst 0, 1) := by decide +kernel
theorem d23_9 : decode (cc 23) 9 = .ok (.iconst 3, 1) := by decide +kernel
theorem d23_10 : decode (cc 23) 10 = .ok (.invokestatic 54, 3) := by decide +kernel
theorem d23_13 : decode (cc 23) 13 = .ok (.iload_n 3, 1) := by decide +kernel
theorem d23_14 : decode (cc 23) 14 = .ok (.iconst 1, 1) := by decide +kernel
theorem d23_15 : decode (cc 23) 15 = .ok (.sipush 1000, 3) := by decide +kernel
theorem d23_18 : decode (cc 23) 18 = .ok (.invokestatic 54, 3) := by decide +kernel
theorem d23_21 : decode (cc 23) 21 = .ok (.iload 4, 2) := by decide +kernel
theorem d23_23 : decode (cc 23) 23 = .ok (.iconst 0, 1) := by decide +kernel
theorem d23_24 : decode (cc 23) 24 = .ok (.iconst 4, 1) := by decide +kernel
theorem d23_25 : decode (cc 23) 25 = .ok (.invokestatic 54, 3) := by decide +kernel
theorem d23_28 : decode (cc 23) 28 = .ok (.iload 5, 2) := by decide +kernel
theorem d23_30 : decode (cc 23) 30 = .ok (.iconst 0, 1) := by decide +kernel
theorem d23_31 : decode (cc 23) 31 = .ok (.sipush 1000, 3) := by decide +kernel
theorem d23_34 : decode (cc 23) 34 = .ok (.invokestatic 54, 3) := by decide +kernel
theorem d23_37 : decode (cc 23) 37 = .ok (.aload 6, 2) := by decide +kernel
theorem d23_39 : decode (cc 23) 39 = .ok (.iload_n 2, 1) := by decide +kernel
theorem d23_40 : decode (cc 23) 40 = .ok (.putfield 58, 3) := by decide +kernel
theorem d23_43 : decode (cc 23) 43 = .ok (.aload 6, 2) := by decide +kernel
theorem d23_45 : decode (cc 23) 45 = .ok (.iload_n 3, 1) := by decide +kernel
theorem d23_46 : decode (cc 23) 46 = .ok (.putfield 62, 3) := by decide +kernel
theorem d23_49 : decode (cc 23) 49 = .ok (.aload 6, 2) := by decide +kernel
theorem d23_51 : decode (cc 23) 51 = .ok (.iload 4, 2) := by decide +kernel
theorem d23_53 : decode (cc 23) 53 = .ok (.putfield 65, 3) := by decide +kernel
theorem d23_56 : decode (cc 23) 56 = .ok (.aload 6, 2) := by decide +kernel
theorem d23_58 : decode (cc 23) 58 = .ok (.iload 5, 2) := by decide +kernel
theorem d23_60 : decode (cc 23) 60 = .ok (.putfield 68, 3) := by decide +kernel
theorem d23_63 : decode (cc 23) 63 = .ok (.aload 6, 2) := by decide +kernel
theorem d23_65 : decode (cc 23) 65 = .ok (.iconst 1, 1) := by decide +kernel
theorem d23_66 : decode (cc 23) 66 = .ok (.putfield 71, 3) := by decide +kernel
theorem d23_69 : decode (cc 23) 69 = .ok (.return_, 1) := by decide +kernel
theorem d24_0 : decode (cc 24) 0 = .ok (.iload_n 1, 1) := by decide +kernel
theorem d24_1 : decode (cc 24) 1 = .ok (.invokestatic 95, 3) := by decide +kernel
theorem d24_4 : decode (cc 24) 4 = .ok (.aload_n 0, 1) := by decide +kernel
theorem d24_5 : decode (cc 24) 5 = .ok (.getfield 11, 3) := by decide +kernel
theorem d24_8 : decode (cc 24) 8 = .ok (.iload_n 1, 1) := by decide +kernel
theorem d24_9 : decode (cc 24) 9 = .ok (.aaload, 1) := by decide +kernel
theorem d24_10 : decode (cc 24) 10 = .ok (.areturn, 1) := by decide +kernel
theorem d25_0 : decode (cc 25) 0 = .ok (.iload_n 0, 1) := by decide +kernel
theorem d25_1 : decode (cc 25) 1 = .ok (.ifCond .lt 9, 3) := by decide +kernel
theorem d25_4 : decode (cc 25) 4 = .ok (.iload_n 0, 1) := by decide +kernel
theorem d25_5 : decode (cc 25) 5 = .ok (.bipush 12, 2) := by decide +kernel
theorem d25_7 : decode (cc 25) 7 = .ok (.if_icmp .lt 13, 3) := by decide +kernel
theorem d25_10 : decode (cc 25) 10 = .ok (.new 196, 3) := by decide +kernel
theorem d25_13 : decode (cc 25) 13 = .ok (.dup, 1) := by decide +kernel
theorem d25_14 : decode (cc 25) 14 = .ok (.ldc 198, 2) := by decide +kernel
theorem d25_16 : decode (cc 25) 16 = .ok (.invokespecial 200, 3) := by decide +kernel
theorem d25_19 : decode (cc 25) 19 = .ok (.athrow, 1) := by decide +kernel
theorem d25_20 : decode (cc 25) 20 = .ok (.return_, 1) := by decide +kernel
theorem d26_0 : decode (cc 26) 0 = .ok (.iload_n 0, 1) := by decide +kernel
theorem d26_1 : decode (cc 26) 1 = .ok (.iload_n 1, 1) := by decide +kernel
theorem d26_2 : decode (cc 26) 2 = .ok (.if_icmp .lt 8, 3) := by decide +kernel
theorem d26_5 : decode (cc 26) 5 = .ok (.iload_n 0, 1) := by decide +kernel
theorem d26_6 : decode (cc 26) 6 = .ok (.iload_n 2, 1) := by decide +kernel
theorem d26_7 : decode (cc 26) 7 = .ok (.if_icmp .le 13, 3) := by decide +kernel
theorem d26_10 : decode (cc 26) 10 = .ok (.new 207, 3) := by decide +kernel
theorem d26_13 : decode (cc 26) 13 = .ok (.dup, 1) := by decide +kernel
theorem d26_14 : decode (cc 26) 14 = .ok (.ldc 209, 2) := by decide +kernel
theorem d26_16 : decode (cc 26) 16 = .ok (.invokespecial 211, 3) := by decide +kernel
theorem d26_19 : decode (cc 26) 19 = .ok (.athrow, 1) := by decide +kernel
theorem d26_20 : decode (cc 26) 20 = .ok (.return_, 1) := by decide +kernel
theorem d27_0 : decode (cc 27) 0 = .ok (.aload_n 0, 1) := by decide +kernel
theorem d27_1 : decode (cc 27) 1 = .ok (.iload_n 1, 1) := by decide +kernel
theorem d27_2 : decode (cc 27) 2 = .ok (.iload_n 2, 1) := by decide +kernel
theorem d27_3 : decode (cc 27) 3 = .ok (.iload_n 3, 1) := by decide +kernel
theorem d27_4 : decode (cc 27) 4 = .ok (.iload 4, 2) := by decide +kernel
theorem d27_6 : decode (cc 27) 6 = .ok (.invokevirtual 17, 3) := by decide +kernel
theorem d27_9 : decode (cc 27) 9 = .ok (.goto 11, 3) := by decide +kernel
theorem d27_12 : decode (cc 27) 12 = .ok (.astore 5, 2) := by decide +kernel
theorem d27_14 : decode (cc 27) 14 = .ok (.iconst 1, 1) := by decide +kernel
theorem d27_15 : decode (cc 27) 15 = .ok (.ireturn, 1) := by decide +kernel
theorem d27_16 : decode (cc 27) 16 = .ok (.astore 5, 2) := by decide +kernel
theorem d27_18 : decode (cc 27) 18 = .ok (.iconst 2, 1) := by decide +kernel
theorem d27_19 : decode (cc 27) 19 = .ok (.ireturn, 1) := by decide +kernel
theorem d27_20 : decode (cc 27) 20 = .ok (.iconst 0, 1) := by decide +kernel
theorem d27_21 : decode (cc 27) 21 = .ok (.ireturn, 1) := by decide +kernel
theorem d28_0 : decode (cc 28) 0 = .ok (.aload_n 0, 1) := by decide +kernel
theorem d28_1 : decode (cc 28) 1 = .ok (.iload_n 1, 1) := by decide +kernel
theorem d28_2 : decode (cc 28) 2 = .ok (.invokevirtual 50, 3) := by decide +kernel
theorem d28_5 : decode (cc 28) 5 = .ok (.astore 5, 2) := by decide +kernel
theorem d28_7 : decode (cc 28) 7 = .ok (.iload_n 2, 1) := by decide +kernel
theorem d28_8 : decode (cc 28) 8 = .ok (.iconst 0, 1) := by decide +kernel
theorem d28_9 : decode (cc 28) 9 = .ok (.sipush 200, 3) := by decide +kernel
theorem d28_12 : decode (cc 28) 12 = .ok (.invokestatic 54, 3) := by decide +kernel
theorem d28_15 : decode (cc 28) 15 = .ok (.iload_n 3, 1) := by decide +kernel
theorem d28_16 : decode (cc 28) 16 = .ok (.iconst 0, 1) := by decide +kernel
theorem d28_17 : decode (cc 28) 17 = .ok (.ldc 75, 2) := by decide +kernel
theorem d28_19 : decode (cc 28) 19 = .ok (.invokestatic 54, 3) := by decide +kernel
theorem d28_22 : decode (cc 28) 22 = .ok (.iload 4, 2) := by decide +kernel
theorem d28_24 : decode (cc 28) 24 = .ok (.iconst 0, 1) := by decide +kernel
theorem d28_25 : decode (cc 28) 25 = .ok (.bipush 100, 2) := by decide +kernel
theorem d28_27 : decode (cc 28) 27 = .ok (.invokestatic 54, 3) := by decide +kernel
theorem d28_30 : decode (cc 28) 30 = .ok (.aload 5, 2) := by decide +kernel
theorem d28_32 : decode (cc 28) 32 = .ok (.iload_n 2, 1) := by decide +kernel
theorem d28_33 : decode (cc 28) 33 = .ok (.putfield 76, 3) := by decide +kernel
theorem d28_36 : decode (cc 28) 36 = .ok (.aload 5, 2) := by decide +kernel
theorem d28_38 : decode (cc 28) 38 = .ok (.iload_n 3, 1) := by decide +kernel
theorem d28_39 : decode (cc 28) 39 = .ok (.putfield 79, 3) := by decide +kernel
theorem d28_42 : decode (cc 28) 42 = .ok (.aload 5, 2) := by decide +kernel
theorem d28_44 : decode (cc 28) 44 = .ok (.iload 4, 2) := by decide +kernel
theorem d28_46 : decode (cc 28) 46 = .ok (.putfield 82, 3) := by decide +kernel
theorem d28_49 : decode (cc 28) 49 = .ok (.aload 5, 2) := by decide +kernel
theorem d28_51 : decode (cc 28) 51 = .ok (.iconst 1, 1) := by decide +kernel
theorem d28_52 : decode (cc 28) 52 = .ok (.putfield 71, 3) := by decide +kernel
theorem d28_55 : decode (cc 28) 55 = .ok (.return_, 1) := by decide +kernel
theorem d29_0 : decode (cc 29) 0 = .ok (.aload_n 0, 1) := by decide +kernel
theorem d29_1 : decode (cc 29) 1 = .ok (.iload_n 1, 1) := by decide +kernel
theorem d29_2 : decode (cc 29) 2 = .ok (.iload_n 2, 1) := by decide +kernel
theorem d29_3 : decode (cc 29) 3 = .ok (.iload_n 3, 1) := by decide +kernel
theorem d29_4 : decode (cc 29) 4 = .ok (.invokevirtual 21, 3) := by decide +kernel
theorem d29_7 : decode (cc 29) 7 = .ok (.goto 11, 3) := by decide +kernel
theorem d29_10 : decode (cc 29) 10 = .ok (.astore 4, 2) := by decide +kernel
theorem d29_12 : decode (cc 29) 12 = .ok (.iconst 1, 1) := by decide +kernel
theorem d29_13 : decode (cc 29) 13 = .ok (.ireturn, 1) := by decide +kernel
theorem d29_14 : decode (cc 29) 14 = .ok (.astore 4, 2) := by decide +kernel
theorem d29_16 : decode (cc 29) 16 = .ok (.iconst 2, 1) := by decide +kernel
theorem d29_17 : decode (cc 29) 17 = .ok (.ireturn, 1) := by decide +kernel
theorem d29_18 : decode (cc 29) 18 = .ok (.iconst 0, 1) := by decide +kernel
theorem d29_19 : decode (cc 29) 19 = .ok (.ireturn, 1) := by decide +kernel
theorem d30_0 : decode (cc 30) 0 = .ok (.aload_n 0, 1) := by decide +kernel
theorem d30_1 : decode (cc 30) 1 = .ok (.iload_n 1, 1) := by decide +kernel
theorem d30_2 : decode (cc 30) 2 = .ok (.invokevirtual 50, 3) := by decide +kernel
theorem d30_5 : decode (cc 30) 5 = .ok (.astore 4, 2) := by decide +kernel
theorem d30_7 : decode (cc 30) 7 = .ok (.iload_n 2, 1) := by decide +kernel
theorem d30_8 : decode (cc 30) 8 = .ok (.invokestatic 85, 3) := by decide +kernel
theorem d30_11 : decode (cc 30) 11 = .ok (.iload_n 3, 1) := by decide +kernel
theorem d30_12 : decode (cc 30) 12 = .ok (.iconst 0, 1) := by decide +kernel
theorem d30_13 : decode (cc 30) 13 = .ok (.bipush 9, 2) := by decide +kernel
theorem d30_15 : decode (cc 30) 15 = .ok (.invokestatic 54, 3) := by decide +kernel
theorem d30_18 : decode (cc 30) 18 = .ok (.aload 4, 2) := by decide +kernel
theorem d30_20 : decode (cc 30) 20 = .ok (.iload_n 2, 1) := by decide +kernel
theorem d30_21 : decode (cc 30) 21 = .ok (.putfield 89, 3) := by decide +kernel
theorem d30_24 : decode (cc 30) 24 = .ok (.aload 4, 2) := by decide +kernel
theorem d30_26 : decode (cc 30) 26 = .ok (.iload_n 3, 1) := by decide +kernel
theorem d30_27 : decode (cc 30) 27 = .ok (.putfield 92, 3) := by decide +kernel
theorem d30_30 : decode (cc 30) 30 = .ok (.return_, 1) := by decide +kernel
theorem d31_0 : decode (cc 31) 0 = .ok (.iload_n 0, 1) := by decide +kernel
theorem d31_1 : decode (cc 31) 1 = .ok (.ifCond .lt 8, 3) := by decide +kernel
theorem d31_4 : decode (cc 31) 4 = .ok (.iload_n 0, 1) := by decide +kernel
theorem d31_5 : decode (cc 31) 5 = .ok (.iconst 3, 1) := by decide +kernel
theorem d31_6 : decode (cc 31) 6 = .ok (.if_icmp .lt 13, 3) := by decide +kernel
theorem d31_9 : decode (cc 31) 9 = .ok (.new 196, 3) := by decide +kernel
theorem d31_12 : decode (cc 31) 12 = .ok (.dup, 1) := by decide +kernel
theorem d31_13 : decode (cc 31) 13 = .ok (.ldc 203, 2) := by decide +kernel
theorem d31_15 : decode (cc 31) 15 = .ok (.invokespecial 200, 3) := by decide +kernel
theorem d31_18 : decode (cc 31) 18 = .ok (.athrow, 1) := by decide +kernel
theorem d31_19 : decode (cc 31) 19 = .ok (.return_, 1) := by decide +kernel
theorem d32_0 : decode (cc 32) 0 = .ok (.aload_n 0, 1) := by decide +kernel
theorem d32_1 : decode (cc 32) 1 = .ok (.iload_n 1, 1) := by decide +kernel
theorem d32_2 : decode (cc 32) 2 = .ok (.iload_n 2, 1) := by decide +kernel
theorem d32_3 : decode (cc 32) 3 = .ok (.iload_n 3, 1) := by decide +kernel
theorem d32_4 : decode (cc 32) 4 = .ok (.iload 4, 2) := by decide +kernel
theorem d32_6 : decode (cc 32) 6 = .ok (.iload 5, 2) := by decide +kernel
theorem d32_8 : decode (cc 32) 8 = .ok (.invokevirtual 25, 3) := by decide +kernel
theorem d32_11 : decode (cc 32) 11 = .ok (.goto 15, 3) := by decide +kernel
theorem d32_14 : decode (cc 32) 14 = .ok (.astore 6, 2) := by decide +kernel
theorem d32_16 : decode (cc 32) 16 = .ok (.iconst 1, 1) := by decide +kernel
theorem d32_17 : decode (cc 32) 17 = .ok (.ireturn, 1) := by decide +kernel
theorem d32_18 : decode (cc 32) 18 = .ok (.astore 6, 2) := by decide +kernel
theorem d32_20 : decode (cc 32) 20 = .ok (.iconst 2, 1) := by decide +kernel
theorem d32_21 : decode (cc 32) 21 = .ok (.ireturn, 1) := by decide +kernel
theorem d32_22 : decode (cc 32) 22 = .ok (.astore 6, 2) := by decide +kernel
theorem d32_24 : decode (cc 32) 24 = .ok (.iconst 3, 1) := by decide +kernel
theorem d32_25 : decode (cc 32) 25 = .ok (.ireturn, 1) := by decide +kernel
theorem d32_26 : decode (cc 32) 26 = .ok (.iconst 0, 1) := by decide +kernel
theorem d32_27 : decode (cc 32) 27 = .ok (.ireturn, 1) := by decide +kernel
theorem d33_0 : decode (cc 33) 0 = .ok (.iload_n 1, 1) := by decide +kernel
theorem d33_1 : decode (cc 33) 1 = .ok (.invokestatic 95, 3) := by decide +kernel
theorem d33_4 : decode (cc 33) 4 = .ok (.aload_n 0, 1) := by decide +kernel
theorem d33_5 : decode (cc 33) 5 = .ok (.iload_n 2, 1) := by decide +kernel
theorem d33_6 : decode (cc 33) 6 = .ok (.invokevirtual 50, 3) := by decide +kernel
theorem d33_9 : decode (cc 33) 9 = .ok (.astore 6, 2) := by decide +kernel
theorem d33_11 : decode (cc 33) 11 = .ok (.iload_n 3, 1) := by decide +kernel
theorem d33_12 : decode (cc 33) 12 = .ok (.iconst 0, 1) := by decide +kernel
theorem d33_13 : decode (cc 33) 13 = .ok (.bipush 9, 2) := by decide +kernel
theorem d33_15 : decode (cc 33) 15 = .ok (.invokestatic 54, 3) := by decide +kernel
theorem d33_18 : decode (cc 33) 18 = .ok (.iload_n 1, 1) := by decide +kernel
theorem d33_19 : decode (cc 33) 19 = .ok (.iload_n 2, 1) := by decide +kernel
theorem d33_20 : decode (cc 33) 20 = .ok (.invokestatic 98, 3) := by decide +kernel
theorem d33_23 : decode (cc 33) 23 = .ok (.istore 7, 2) := by decide +kernel
theorem d33_25 : decode (cc 33) 25 = .ok (.iload_n 3, 1) := by decide +kernel
theorem d33_26 : decode (cc 33) 26 = .ok (.ifCond .ne 15, 3) := by decide +kernel
theorem d33_29 : decode (cc 33) 29 = .ok (.aload_n 0, 1) := by decide +kernel
theorem d33_30 : decode (cc 33) 30 = .ok (.getfield 18, 3) := by decide +kernel
theorem d33_33 : decode (cc 33) 33 = .ok (.iload 7, 2) := by decide +kernel
theorem d33_35 : decode (cc 33) 35 = .ok (.invokevirtual 102, 3) := by decide +kernel
theorem d33_38 : decode (cc 33) 38 = .ok (.goto 56, 3) := by decide +kernel
theorem d33_41 : decode (cc 33) 41 = .ok (.iload 4, 2) := by decide +kernel
theorem d33_43 : decode (cc 33) 43 = .ok (.iconst 0, 1) := by decide +kernel
theorem d33_44 : decode (cc 33) 44 = .ok (.bipush 11, 2) := by decide +kernel
theorem d33_46 : decode (cc 33) 46 = .ok (.invokestatic 54, 3) := by decide +kernel
theorem d33_49 : decode (cc 33) 49 = .ok (.iload 5, 2) := by decide +kernel
theorem d33_51 : decode (cc 33) 51 = .ok (.iload 4, 2) := by decide +kernel
theorem d33_53 : decode (cc 33) 53 = .ok (.bipush 11, 2) := by decide +kernel
theorem d33_55 : decode (cc 33) 55 = .ok (.invokestatic 54, 3) := by decide +kernel
theorem d33_58 : decode (cc 33) 58 = .ok (.aload_n 0, 1) := by decide +kernel
theorem d33_59 : decode (cc 33) 59 = .ok (.getfield 18, 3) := by decide +kernel
theorem d33_62 : decode (cc 33) 62 = .ok (.iload 7, 2) := by decide +kernel
theorem d33_64 : decode (cc 33) 64 = .ok (.invokevirtual 105, 3) := by decide +kernel
theorem d33_67 : decode (cc 33) 67 = .ok (.ifCond .ne 13, 3) := by decide +kernel
theorem d33_70 : decode (cc 33) 70 = .ok (.new 109, 3) := by decide +kernel
theorem d33_73 : decode (cc 33) 73 = .ok (.dup, 1) := by decide +kernel
theorem d33_74 : decode (cc 33) 74 = .ok (.ldc 111, 2) := by decide +kernel
theorem d33_76 : decode (cc 33) 76 = .ok (.invokespecial 113, 3) := by decide +kernel
theorem d33_79 : decode (cc 33) 79 = .ok (.athrow, 1) := by decide +kernel
theorem d33_80 : decode (cc 33) 80 = .ok (.aload_n 0, 1) := by decide +kernel
theorem d33_81 : decode (cc 33) 81 = .ok (.getfield 18, 3) := by decide +kernel
theorem d33_84 : decode (cc 33) 84 = .ok (.iload 7, 2) := by decide +kernel
theorem d33_86 : decode (cc 33) 86 = .ok (.iload_n 3, 1) := by decide +kernel
theorem d33_87 : decode (cc 33) 87 = .ok (.iload 4, 2) := by decide +kernel
theorem d33_89 : decode (cc 33) 89 = .ok (.iload 5, 2) := by decide +kernel
theorem d33_91 : decode (cc 33) 91 = .ok (.invokevirtual 116, 3) := by decide +kernel
theorem d33_94 : decode (cc 33) 94 = .ok (.aload 6, 2) := by decide +kernel
theorem d33_96 : decode (cc 33) 96 = .ok (.iconst 1, 1) := by decide +kernel
theorem d33_97 : decode (cc 33) 97 = .ok (.putfield 71, 3) := by decide +kernel
theorem d33_100 : decode (cc 33) 100 = .ok (.return_, 1) := by decide +kernel
theorem d34_0 : decode (cc 34) 0 = .ok (.aload_n 0, 1) := by decide +kernel
theorem d34_1 : decode (cc 34) 1 = .ok (.getfield 9, 3) := by decide +kernel
theorem d34_4 : decode (cc 34) 4 = .ok (.iload_n 1, 1) := by decide +kernel
theorem d34_5 : decode (cc 34) 5 = .ok (.iaload, 1) := by decide +kernel
theorem d34_6 : decode (cc 34) 6 = .ok (.ifCond .le 13, 3) := by decide +kernel
theorem d34_9 : decode (cc 34) 9 = .ok (.aload_n 0, 1) := by decide +kernel
theorem d34_10 : decode (cc 34) 10 = .ok (.dup, 1) := by decide +kernel
theorem d34_11 : decode (cc 34) 11 = .ok (.getfield 27, 3) := by decide +kernel
theorem d34_14 : decode (cc 34) 14 = .ok (.iconst 1, 1) := by decide +kernel
theorem d34_15 : decode (cc 34) 15 = .ok (.isub, 1) := by decide +kernel
theorem d34_16 : decode (cc 34) 16 = .ok (.putfield 27, 3) := by decide +kernel
theorem d34_19 : decode (cc 34) 19 = .ok (.aload_n 0, 1) := by decide +kernel
theorem d34_20 : decode (cc 34) 20 = .ok (.getfield 9, 3) := by decide +kernel
theorem d34_23 : decode (cc 34) 23 = .ok (.iload_n 1, 1) := by decide +kernel
theorem d34_24 : decode (cc 34) 24 = .ok (.iconst 0, 1) := by decide +kernel
theorem d34_25 : decode (cc 34) 25 = .ok (.iastore, 1) := by decide +kernel
theorem d34_26 : decode (cc 34) 26 = .ok (.aload_n 0, 1) := by decide +kernel
theorem d34_27 : decode (cc 34) 27 = .ok (.invokevirtual 35, 3) := by decide +kernel
theorem d34_30 : decode (cc 34) 30 = .ok (.return_, 1) := by decide +kernel
theorem d35_0 : decode (cc 35) 0 = .ok (.aload_n 0, 1) := by decide +kernel
theorem d35_1 : decode (cc 35) 1 = .ok (.iconst (-1), 1) := by decide +kernel
theorem d35_2 : decode (cc 35) 2 = .ok (.invokevirtual 31, 3) := by decide +kernel
theorem d35_5 : decode (cc 35) 5 = .ok (.pop, 1) := by decide +kernel
theorem d35_6 : decode (cc 35) 6 = .ok (.aload_n 0, 1) := by decide +kernel
theorem d35_7 : decode (cc 35) 7 = .ok (.getfield 24, 3) := by decide +kernel
theorem d35_10 : decode (cc 35) 10 = .ok (.iconst 0, 1) := by decide +kernel
theorem d35_11 : decode (cc 35) 11 = .ok (.aload_n 0, 1) := by decide +kernel
theorem d35_12 : decode (cc 35) 12 = .ok (.getfield 21, 3) := by decide +kernel
theorem d35_15 : decode (cc 35) 15 = .ok (.iconst 0, 1) := by decide +kernel
theorem d35_16 : decode (cc 35) 16 = .ok (.bipush 12, 2) := by decide +kernel
theorem d35_18 : decode (cc 35) 18 = .ok (.invokestatic 38, 3) := by decide +kernel
theorem d35_21 : decode (cc 35) 21 = .ok (.return_, 1) := by decide +kernel
theorem d36_0 : decode (cc 36) 0 = .ok (.iconst 0, 1) := by decide +kernel
theorem d36_1 : decode (cc 36) 1 = .ok (.istore_n 2, 1) := by decide +kernel
theorem d36_2 : decode (cc 36) 2 = .ok (.aload_n 0, 1) := by decide +kernel
theorem d36_3 : decode (cc 36) 3 = .ok (.getfield 24, 3) := by decide +kernel
theorem d36_6 : decode (cc 36) 6 = .ok (.iconst 0, 1) := by decide +kernel
theorem d36_7 : decode (cc 36) 7 = .ok (.invokestatic 44, 3) := by decide +kernel
theorem d36_10 : decode (cc 36) 10 = .ok (.iconst 0, 1) := by decide +kernel
theorem d36_11 : decode (cc 36) 11 = .ok (.istore_n 3, 1) := by decide +kernel
theorem d36_12 : decode (cc 36) 12 = .ok (.iload_n 3, 1) := by decide +kernel
theorem d36_13 : decode (cc 36) 13 = .ok (.iconst 4, 1) := by decide +kernel
theorem d36_14 : decode (cc 36) 14 = .ok (.if_icmp .gt 104, 3) := by decide +kernel
theorem d36_17 : decode (cc 36) 17 = .ok (.iconst 0, 1) := by decide +kernel
theorem d36_18 : decode (cc 36) 18 = .ok (.istore 4, 2) := by decide +kernel
theorem d36_20 : decode (cc 36) 20 = .ok (.iload 4, 2) := by decide +kernel
theorem d36_22 : decode (cc 36) 22 = .ok (.bipush 12, 2) := by decide +kernel
theorem d36_24 : decode (cc 36) 24 = .ok (.if_icmp .ge 88, 3) := by decide +kernel
theorem d36_27 : decode (cc 36) 27 = .ok (.iconst 0, 1) := by decide +kernel
theorem d36_28 : decode (cc 36) 28 = .ok (.istore 5, 2) := by decide +kernel
theorem d36_30 : decode (cc 36) 30 = .ok (.iload 5, 2) := by decide +kernel
theorem d36_32 : decode (cc 36) 32 = .ok (.bipush 12, 2) := by decide +kernel
theorem d36_34 : decode (cc 36) 34 = .ok (.if_icmp .ge 72, 3) := by decide +kernel
theorem d36_37 : decode (cc 36) 37 = .ok (.iload 4, 2) := by decide +kernel
theorem d36_39 : decode (cc 36) 39 = .ok (.iload 5, 2) := by decide +kernel
theorem d36_41 : decode (cc 36) 41 = .ok (.invokestatic 50, 3) := by decide +kernel
theorem d36_44 : decode (cc 36) 44 = .ok (.istore 6, 2) := by decide +kernel
theorem d36_46 : decode (cc 36) 46 = .ok (.iload 6, 2) := by decide +kernel
theorem d36_48 : decode (cc 36) 48 = .ok (.iload_n 1, 1) := by decide +kernel
theorem d36_49 : decode (cc 36) 49 = .ok (.if_icmp .eq 13, 3) := by decide +kernel
theorem d36_52 : decode (cc 36) 52 = .ok (.aload_n 0, 1) := by decide +kernel
theorem d36_53 : decode (cc 36) 53 = .ok (.getfield 9, 3) := by decide +kernel
theorem d36_56 : decode (cc 36) 56 = .ok (.iload 6, 2) := by decide +kernel
theorem d36_58 : decode (cc 36) 58 = .ok (.iaload, 1) := by decide +kernel
theorem d36_59 : decode (cc 36) 59 = .ok (.ifCond .le 41, 3) := by decide +kernel
theorem d36_62 : decode (cc 36) 62 = .ok (.aload_n 0, 1) := by decide +kernel
theorem d36_63 : decode (cc 36) 63 = .ok (.getfield 24, 3) := by decide +kernel
theorem d36_66 : decode (cc 36) 66 = .ok (.iload 5, 2) := by decide +kernel
theorem d36_68 : decode (cc 36) 68 = .ok (.aload_n 0, 1) := by decide +kernel
theorem d36_69 : decode (cc 36) 69 = .ok (.getfield 24, 3) := by decide +kernel
theorem d36_72 : decode (cc 36) 72 = .ok (.iload 5, 2) := by decide +kernel
theorem d36_74 : decode (cc 36) 74 = .ok (.iaload, 1) := by decide +kernel
theorem d36_75 : decode (cc 36) 75 = .ok (.aload_n 0, 1) := by decide +kernel
theorem d36_76 : decode (cc 36) 76 = .ok (.getfield 24, 3) := by decide +kernel
theorem d36_79 : decode (cc 36) 79 = .ok (.iload 4, 2) := by decide +kernel
theorem d36_81 : decode (cc 36) 81 = .ok (.iaload, 1) := by decide +kernel
theorem d36_82 : decode (cc 36) 82 = .ok (.iconst 1, 1) := by decide +kernel
theorem d36_83 : decode (cc 36) 83 = .ok (.iadd, 1) := by decide +kernel
theorem d36_84 : decode (cc 36) 84 = .ok (.invokestatic 54, 3) := by decide +kernel
theorem d36_87 : decode (cc 36) 87 = .ok (.iastore, 1) := by decide +kernel
theorem d36_88 : decode (cc 36) 88 = .ok (.iload_n 2, 1) := by decide +kernel
theorem d36_89 : decode (cc 36) 89 = .ok (.aload_n 0, 1) := by decide +kernel
theorem d36_90 : decode (cc 36) 90 = .ok (.getfield 24, 3) := by decide +kernel
theorem d36_93 : decode (cc 36) 93 = .ok (.iload 5, 2) := by decide +kernel
theorem d36_95 : decode (cc 36) 95 = .ok (.iaload, 1) := by decide +kernel
theorem d36_96 : decode (cc 36) 96 = .ok (.invokestatic 54, 3) := by decide +kernel
theorem d36_99 : decode (cc 36) 99 = .ok (.istore_n 2, 1) := by decide +kernel
theorem d36_100 : decode (cc 36) 100 = .ok (.iinc 5 1, 3) := by decide +kernel
theorem d36_103 : decode (cc 36) 103 = .ok (.goto (-73), 3) := by decide +kernel
theorem d36_106 : decode (cc 36) 106 = .ok (.iinc 4 1, 3) := by decide +kernel
theorem d36_109 : decode (cc 36) 109 = .ok (.goto (-89), 3) := by decide +kernel
theorem d36_112 : decode (cc 36) 112 = .ok (.iinc 3 1, 3) := by decide +kernel
theorem d36_115 : decode (cc 36) 115 = .ok (.goto (-103), 3) := by decide +kernel
theorem d36_118 : decode (cc 36) 118 = .ok (.iload_n 2, 1) := by decide +kernel
theorem d36_119 : decode (cc 36) 119 = .ok (.ireturn, 1) := by decide +kernel
theorem d37_0 : decode (cc 37) 0 = .ok (.iconst 0, 1) := by decide +kernel
theorem d37_1 : decode (cc 37) 1 = .ok (.istore_n 2, 1) := by decide +kernel
theorem d37_2 : decode (cc 37) 2 = .ok (.aload_n 0, 1) := by decide +kernel
theorem d37_3 : decode (cc 37) 3 = .ok (.arraylength, 1) := by decide +kernel
theorem d37_4 : decode (cc 37) 4 = .ok (.istore_n 3, 1) := by decide +kernel
theorem d37_5 : decode (cc 37) 5 = .ok (.iload_n 2, 1) := by decide +kernel
theorem d37_6 : decode (cc 37) 6 = .ok (.iload_n 3, 1) := by decide +kernel
theorem d37_7 : decode (cc 37) 7 = .ok (.if_icmp .ge 13, 3) := by decide +kernel
theorem d37_10 : decode (cc 37) 10 = .ok (.aload_n 0, 1) := by decide +kernel
theorem d37_11 : decode (cc 37) 11 = .ok (.iload_n 2, 1) := by decide +kernel
theorem d37_12 : decode (cc 37) 12 = .ok (.iload_n 1, 1) := by decide +kernel
theorem d37_13 : decode (cc 37) 13 = .ok (.iastore, 1) := by decide +kernel
theorem d37_14 : decode (cc 37) 14 = .ok (.iinc 2 1, 3) := by decide +kernel
theorem d37_17 : decode (cc 37) 17 = .ok (.goto (-12), 3) := by decide +kernel
theorem d37_20 : decode (cc 37) 20 = .ok (.return_, 1) := by decide +kernel
theorem d38_0 : decode (cc 38) 0 = .ok (.aload_n 0, 1) := by decide +kernel
theorem d38_1 : decode (cc 38) 1 = .ok (.getfield 9, 3) := by decide +kernel
theorem d38_4 : decode (cc 38) 4 = .ok (.iload_n 1, 1) := by decide +kernel
theorem d38_5 : decode (cc 38) 5 = .ok (.iaload, 1) := by decide +kernel
theorem d38_6 : decode (cc 38) 6 = .ok (.ifCond .gt 21, 3) := by decide +kernel
theorem d38_9 : decode (cc 38) 9 = .ok (.aload_n 0, 1) := by decide +kernel
theorem d38_10 : decode (cc 38) 10 = .ok (.getfield 27, 3) := by decide +kernel
theorem d38_13 : decode (cc 38) 13 = .ok (.bipush 24, 2) := by decide +kernel
theorem d38_15 : decode (cc 38) 15 = .ok (.if_icmp .ge 16, 3) := by decide +kernel
theorem d38_18 : decode (cc 38) 18 = .ok (.aload_n 0, 1) := by decide +kernel
theorem d38_19 : decode (cc 38) 19 = .ok (.iload_n 1, 1) := by decide +kernel
theorem d38_20 : decode (cc 38) 20 = .ok (.invokevirtual 31, 3) := by decide +kernel
theorem d38_23 : decode (cc 38) 23 = .ok (.iconst 4, 1) := by decide +kernel
theorem d38_24 : decode (cc 38) 24 = .ok (.if_icmp .gt 7, 3) := by decide +kernel
theorem d38_27 : decode (cc 38) 27 = .ok (.iconst 1, 1) := by decide +kernel
theorem d38_28 : decode (cc 38) 28 = .ok (.goto 4, 3) := by decide +kernel
theorem d38_31 : decode (cc 38) 31 = .ok (.iconst 0, 1) := by decide +kernel
theorem d38_32 : decode (cc 38) 32 = .ok (.ireturn, 1) := by decide +kernel
theorem d39_0 : decode (cc 39) 0 = .ok (.aload_n 0, 1) := by decide +kernel
theorem d39_1 : decode (cc 39) 1 = .ok (.getfield 9, 3) := by decide +kernel
theorem d39_4 : decode (cc 39) 4 = .ok (.iload_n 1, 1) := by decide +kernel
theorem d39_5 : decode (cc 39) 5 = .ok (.iaload, 1) := by decide +kernel
theorem d39_6 : decode (cc 39) 6 = .ok (.ifCond .ne 13, 3) := by decide +kernel
theorem d39_9 : decode (cc 39) 9 = .ok (.aload_n 0, 1) := by decide +kernel
theorem d39_10 : decode (cc 39) 10 = .ok (.dup, 1) := by decide +kernel
theorem d39_11 : decode (cc 39) 11 = .ok (.getfield 27, 3) := by decide +kernel
theorem d39_14 : decode (cc 39) 14 = .ok (.iconst 1, 1) := by decide +kernel
theorem d39_15 : decode (cc 39) 15 = .ok (.iadd, 1) := by decide +kernel
theorem d39_16 : decode (cc 39) 16 = .ok (.putfield 27, 3) := by decide +kernel
theorem d39_19 : decode (cc 39) 19 = .ok (.aload_n 0, 1) := by decide +kernel
theorem d39_20 : decode (cc 39) 20 = .ok (.getfield 9, 3) := by decide +kernel
theorem d39_23 : decode (cc 39) 23 = .ok (.iload_n 1, 1) := by decide +kernel
theorem d39_24 : decode (cc 39) 24 = .ok (.iload_n 2, 1) := by decide +kernel
theorem d39_25 : decode (cc 39) 25 = .ok (.iastore, 1) := by decide +kernel
theorem d39_26 : decode (cc 39) 26 = .ok (.aload_n 0, 1) := by decide +kernel
theorem d39_27 : decode (cc 39) 27 = .ok (.getfield 15, 3) := by decide +kernel
theorem d39_30 : decode (cc 39) 30 = .ok (.iload_n 1, 1) := by decide +kernel
theorem d39_31 : decode (cc 39) 31 = .ok (.iload_n 3, 1) := by decide +kernel
theorem d39_32 : decode (cc 39) 32 = .ok (.iastore, 1) := by decide +kernel
theorem d39_33 : decode (cc 39) 33 = .ok (.aload_n 0, 1) := by decide +kernel
theorem d39_34 : decode (cc 39) 34 = .ok (.getfield 18, 3) := by decide +kernel
theorem d39_37 : decode (cc 39) 37 = .ok (.iload_n 1, 1) := by decide +kernel
theorem d39_38 : decode (cc 39) 38 = .ok (.iload 4, 2) := by decide +kernel
theorem d39_40 : decode (cc 39) 40 = .ok (.iastore, 1) := by decide +kernel
theorem d39_41 : decode (cc 39) 41 = .ok (.aload_n 0, 1) := by decide +kernel
theorem d39_42 : decode (cc 39) 42 = .ok (.invokevirtual 35, 3) := by decide +kernel
theorem d39_45 : decode (cc 39) 45 = .ok (.return_, 1) := by decide +kernel
theorem d40_0 : decode (cc 40) 0 = .ok (.aload_n 3, 1) := by decide +kernel
theorem d40_1 : decode (cc 40) 1 = .ok (.iconst 0, 1) := by decide +kernel
theorem d40_2 : decode (cc 40) 2 = .ok (.aload_n 0, 1) := by decide +kernel
theorem d40_3 : decode (cc 40) 3 = .ok (.iload_n 1, 1) := by decide +kernel
theorem d40_4 : decode (cc 40) 4 = .ok (.iload_n 2, 1) := by decide +kernel
theorem d40_5 : decode (cc 40) 5 = .ok (.invokevirtual 30, 3) := by decide +kernel
theorem d40_8 : decode (cc 40) 8 = .ok (.i2l, 1) := by decide +kernel
theorem d40_9 : decode (cc 40) 9 = .ok (.lastore, 1) := by decide +kernel
theorem d40_10 : decode (cc 40) 10 = .ok (.goto 11, 3) := by decide +kernel
theorem d40_13 : decode (cc 40) 13 = .ok (.astore 4, 2) := by decide +kernel
theorem d40_15 : decode (cc 40) 15 = .ok (.iconst 1, 1) := by decide +kernel
theorem d40_16 : decode (cc 40) 16 = .ok (.ireturn, 1) := by decide +kernel
theorem d40_17 : decode (cc 40) 17 = .ok (.astore 4, 2) := by decide +kernel
theorem d40_19 : decode (cc 40) 19 = .ok (.iconst 2, 1) := by decide +kernel
theorem d40_20 : decode (cc 40) 20 = .ok (.ireturn, 1) := by decide +kernel
theorem d40_21 : decode (cc 40) 21 = .ok (.iconst 0, 1) := by decide +kernel
theorem d40_22 : decode (cc 40) 22 = .ok (.ireturn, 1) := by decide +kernel
theorem d41_0 : decode (cc 41) 0 = .ok (.aload_n 0, 1) := by decide +kernel
theorem d41_1 : decode (cc 41) 1 = .ok (.iload_n 1, 1) := by decide +kernel
theorem d41_2 : decode (cc 41) 2 = .ok (.invokevirtual 50, 3) := by decide +kernel
theorem d41_5 : decode (cc 41) 5 = .ok (.astore_n 3, 1) := by decide +kernel
theorem d41_6 : decode (cc 41) 6 = .ok (.iload_n 2, 1) := by decide +kernel
theorem d41_7 : decode (cc 41) 7 = .ok (.iconst 0, 1) := by decide +kernel
theorem d41_8 : decode (cc 41) 8 = .ok (.sipush 10000, 3) := by decide +kernel
theorem d41_11 : decode (cc 41) 11 = .ok (.invokestatic 54, 3) := by decide +kernel
theorem d41_14 : decode (cc 41) 14 = .ok (.aload_n 3, 1) := by decide +kernel
theorem d41_15 : decode (cc 41) 15 = .ok (.getfield 120, 3) := by decide +kernel
theorem d41_18 : decode (cc 41) 18 = .ok (.istore 4, 2) := by decide +kernel
theorem d41_20 : decode (cc 41) 20 = .ok (.aload_n 3, 1) := by decide +kernel
theorem d41_21 : decode (cc 41) 21 = .ok (.iload_n 2, 1) := by decide +kernel
theorem d41_22 : decode (cc 41) 22 = .ok (.putfield 120, 3) := by decide +kernel
theorem d41_25 : decode (cc 41) 25 = .ok (.aload_n 3, 1) := by decide +kernel
theorem d41_26 : decode (cc 41) 26 = .ok (.iconst 1, 1) := by decide +kernel
theorem d41_27 : decode (cc 41) 27 = .ok (.putfield 71, 3) := by decide +kernel
theorem d41_30 : decode (cc 41) 30 = .ok (.iload 4, 2) := by decide +kernel
theorem d41_32 : decode (cc 41) 32 = .ok (.ireturn, 1) := by decide +kernel
theorem d42_0 : decode (cc 42) 0 = .ok (.aload 4, 2) := by decide +kernel
theorem d42_2 : decode (cc 42) 2 = .ok (.iconst 0, 1) := by decide +kernel
theorem d42_3 : decode (cc 42) 3 = .ok (.aload_n 0, 1) := by decide +kernel
theorem d42_4 : decode (cc 42) 4 = .ok (.iload_n 1, 1) := by decide +kernel
theorem d42_5 : decode (cc 42) 5 = .ok (.iload_n 2, 1) := by decide +kernel
theorem d42_6 : decode (cc 42) 6 = .ok (.iload_n 3, 1) := by decide +kernel
theorem d42_7 : decode (cc 42) 7 = .ok (.invokevirtual 34, 3) := by decide +kernel
theorem d42_10 : decode (cc 42) 10 = .ok (.i2l, 1) := by decide +kernel
theorem d42_11 : decode (cc 42) 11 = .ok (.lastore, 1) := by decide +kernel
theorem d42_12 : decode (cc 42) 12 = .ok (.goto 15, 3) := by decide +kernel
theorem d42_15 : decode (cc 42) 15 = .ok (.astore 5, 2) := by decide +kernel
theorem d42_17 : decode (cc 42) 17 = .ok (.iconst 1, 1) := by decide +kernel
theorem d42_18 : decode (cc 42) 18 = .ok (.ireturn, 1) := by decide +kernel
theorem d42_19 : decode (cc 42) 19 = .ok (.astore 5, 2) := by decide +kernel
theorem d42_21 : decode (cc 42) 21 = .ok (.iconst 2, 1) := by decide +kernel
theorem d42_22 : decode (cc 42) 22 = .ok (.ireturn, 1) := by decide +kernel
theorem d42_23 : decode (cc 42) 23 = .ok (.astore 5, 2) := by decide +kernel
theorem d42_25 : decode (cc 42) 25 = .ok (.iconst 3, 1) := by decide +kernel
theorem d42_26 : decode (cc 42) 26 = .ok (.ireturn, 1) := by decide +kernel
theorem d42_27 : decode (cc 42) 27 = .ok (.iconst 0, 1) := by decide +kernel
theorem d42_28 : decode (cc 42) 28 = .ok (.ireturn, 1) := by decide +kernel
theorem d43_0 : decode (cc 43) 0 = .ok (.aload_n 0, 1) := by decide +kernel
theorem d43_1 : decode (cc 43) 1 = .ok (.aload_n 0, 1) := by decide +kernel
theorem d43_2 : decode (cc 43) 2 = .ok (.getfield 25, 3) := by decide +kernel
theorem d43_5 : decode (cc 43) 5 = .ok (.iload_n 1, 1) := by decide +kernel
theorem d43_6 : decode (cc 43) 6 = .ok (.iload_n 2, 1) := by decide +kernel
theorem d43_7 : decode (cc 43) 7 = .ok (.iload_n 3, 1) := by decide +kernel
theorem d43_8 : decode (cc 43) 8 = .ok (.invokevirtual 123, 3) := by decide +kernel
theorem d43_11 : decode (cc 43) 11 = .ok (.ireturn, 1) := by decide +kernel
theorem d44_0 : decode (cc 44) 0 = .ok (.aload_n 0, 1) := by decide +kernel
theorem d44_1 : decode (cc 44) 1 = .ok (.iload_n 2, 1) := by decide +kernel
theorem d44_2 : decode (cc 44) 2 = .ok (.invokevirtual 50, 3) := by decide +kernel
theorem d44_5 : decode (cc 44) 5 = .ok (.astore 5, 2) := by decide +kernel
theorem d44_7 : decode (cc 44) 7 = .ok (.iload_n 3, 1) := by decide +kernel
theorem d44_8 : decode (cc 44) 8 = .ok (.invokestatic 143, 3) := by decide +kernel
theorem d44_11 : decode (cc 44) 11 = .ok (.iload 4, 2) := by decide +kernel
theorem d44_13 : decode (cc 44) 13 = .ok (.iconst 0, 1) := by decide +kernel
theorem d44_14 : decode (cc 44) 14 = .ok (.sipush 1000, 3) := by decide +kernel
theorem d44_17 : decode (cc 44) 17 = .ok (.invokestatic 54, 3) := by decide +kernel
theorem d44_20 : decode (cc 44) 20 = .ok (.aload_n 1, 1) := by decide +kernel
theorem d44_21 : decode (cc 44) 21 = .ok (.invokestatic 173, 3) := by decide +kernel
theorem d44_24 : decode (cc 44) 24 = .ok (.aload 5, 2) := by decide +kernel
theorem d44_26 : decode (cc 44) 26 = .ok (.iconst 1, 1) := by decide +kernel
theorem d44_27 : decode (cc 44) 27 = .ok (.putfield 71, 3) := by decide +kernel
theorem d44_30 : decode (cc 44) 30 = .ok (.aload_n 1, 1) := by decide +kernel
theorem d44_31 : decode (cc 44) 31 = .ok (.iload_n 2, 1) := by decide +kernel
theorem d44_32 : decode (cc 44) 32 = .ok (.iload_n 3, 1) := by decide +kernel
theorem d44_33 : decode (cc 44) 33 = .ok (.iload 4, 2) := by decide +kernel
theorem d44_35 : decode (cc 44) 35 = .ok (.invokevirtual 177, 3) := by decide +kernel
theorem d44_38 : decode (cc 44) 38 = .ok (.ireturn, 1) := by decide +kernel
theorem d45_0 : decode (cc 45) 0 = .ok (.iload_n 0, 1) := by decide +kernel
theorem d45_1 : decode (cc 45) 1 = .ok (.ifCond .lt 9, 3) := by decide +kernel
theorem d45_4 : decode (cc 45) 4 = .ok (.iload_n 0, 1) := by decide +kernel
theorem d45_5 : decode (cc 45) 5 = .ok (.bipush 12, 2) := by decide +kernel
theorem d45_7 : decode (cc 45) 7 = .ok (.if_icmp .lt 13, 3) := by decide +kernel
theorem d45_10 : decode (cc 45) 10 = .ok (.new 196, 3) := by decide +kernel
theorem d45_13 : decode (cc 45) 13 = .ok (.dup, 1) := by decide +kernel
theorem d45_14 : decode (cc 45) 14 = .ok (.ldc 201, 2) := by decide +kernel
theorem d45_16 : decode (cc 45) 16 = .ok (.invokespecial 200, 3) := by decide +kernel
theorem d45_19 : decode (cc 45) 19 = .ok (.athrow, 1) := by decide +kernel
theorem d45_20 : decode (cc 45) 20 = .ok (.return_, 1) := by decide +kernel
theorem d46_0 : decode (cc 46) 0 = .ok (.aload_n 0, 1) := by decide +kernel
theorem d46_1 : decode (cc 46) 1 = .ok (.invokevirtual 212, 3) := by decide +kernel
theorem d46_4 : decode (cc 46) 4 = .ok (.ifCond .eq 13, 3) := by decide +kernel
theorem d46_7 : decode (cc 46) 7 = .ok (.new 109, 3) := by decide +kernel
theorem d46_10 : decode (cc 46) 10 = .ok (.dup, 1) := by decide +kernel
theorem d46_11 : decode (cc 46) 11 = .ok (.ldc 215, 2) := by decide +kernel
theorem d46_13 : decode (cc 46) 13 = .ok (.invokespecial 113, 3) := by decide +kernel
theorem d46_16 : decode (cc 46) 16 = .ok (.athrow, 1) := by decide +kernel
theorem d46_17 : decode (cc 46) 17 = .ok (.return_, 1) := by decide +kernel
theorem d47_0 : decode (cc 47) 0 = .ok (.aload_n 0, 1) := by decide +kernel
theorem d47_1 : decode (cc 47) 1 = .ok (.getfield 21, 3) := by decide +kernel
theorem d47_4 : decode (cc 47) 4 = .ok (.bipush 24, 2) := by decide +kernel
theorem d47_6 : decode (cc 47) 6 = .ok (.if_icmp .lt 7, 3) := by decide +kernel
theorem d47_9 : decode (cc 47) 9 = .ok (.iconst 1, 1) := by decide +kernel
theorem d47_10 : decode (cc 47) 10 = .ok (.goto 4, 3) := by decide +kernel
theorem d47_13 : decode (cc 47) 13 = .ok (.iconst 0, 1) := by decide +kernel
theorem d47_14 : decode (cc 47) 14 = .ok (.ireturn, 1) := by decide +kernel
theorem d48_0 : decode (cc 48) 0 = .ok (.aload_n 0, 1) := by decide +kernel
theorem d48_1 : decode (cc 48) 1 = .ok (.invokevirtual 25, 3) := by decide +kernel
theorem d48_4 : decode (cc 48) 4 = .ok (.ifCond .eq 5, 3) := by decide +kernel
theorem d48_7 : decode (cc 48) 7 = .ok (.iconst (-1), 1) := by decide +kernel
theorem d48_8 : decode (cc 48) 8 = .ok (.ireturn, 1) := by decide +kernel
theorem d48_9 : decode (cc 48) 9 = .ok (.aload_n 0, 1) := by decide +kernel
theorem d48_10 : decode (cc 48) 10 = .ok (.getfield 9, 3) := by decide +kernel
theorem d48_13 : decode (cc 48) 13 = .ok (.aload_n 0, 1) := by decide +kernel
theorem d48_14 : decode (cc 48) 14 = .ok (.getfield 21, 3) := by decide +kernel
theorem d48_17 : decode (cc 48) 17 = .ok (.iload_n 1, 1) := by decide +kernel
theorem d48_18 : decode (cc 48) 18 = .ok (.iastore, 1) := by decide +kernel
theorem d48_19 : decode (cc 48) 19 = .ok (.aload_n 0, 1) := by decide +kernel
theorem d48_20 : decode (cc 48) 20 = .ok (.getfield 15, 3) := by decide +kernel
theorem d48_23 : decode (cc 48) 23 = .ok (.aload_n 0, 1) := by decide +kernel
theorem d48_24 : decode (cc 48) 24 = .ok (.getfield 21, 3) := by decide +kernel
theorem d48_27 : decode (cc 48) 27 = .ok (.iload_n 2, 1) := by decide +kernel
theorem d48_28 : decode (cc 48) 28 = .ok (.iastore, 1) := by decide +kernel
theorem d48_29 : decode (cc 48) 29 = .ok (.aload_n 0, 1) := by decide +kernel
theorem d48_30 : decode (cc 48) 30 = .ok (.getfield 18, 3) := by decide +kernel
theorem d48_33 : decode (cc 48) 33 = .ok (.aload_n 0, 1) := by decide +kernel
theorem d48_34 : decode (cc 48) 34 = .ok (.getfield 21, 3) := by decide +kernel
theorem d48_37 : decode (cc 48) 37 = .ok (.iload_n 3, 1) := by decide +kernel
theorem d48_38 : decode (cc 48) 38 = .ok (.iastore, 1) := by decide +kernel
theorem d48_39 : decode (cc 48) 39 = .ok (.aload_n 0, 1) := by decide +kernel
theorem d48_40 : decode (cc 48) 40 = .ok (.dup, 1) := by decide +kernel
theorem d48_41 : decode (cc 48) 41 = .ok (.getfield 21, 3) := by decide +kernel
theorem d48_44 : decode (cc 48) 44 = .ok (.iconst 1, 1) := by decide +kernel
theorem d48_45 : decode (cc 48) 45 = .ok (.iadd, 1) := by decide +kernel
theorem d48_46 : decode (cc 48) 46 = .ok (.putfield 21, 3) := by decide +kernel
theorem d48_49 : decode (cc 48) 49 = .ok (.aload_n 0, 1) := by decide +kernel
theorem d48_50 : decode (cc 48) 50 = .ok (.getfield 21, 3) := by decide +kernel
theorem d48_53 : decode (cc 48) 53 = .ok (.iconst 1, 1) := by decide +kernel
theorem d48_54 : decode (cc 48) 54 = .ok (.isub, 1) := by decide +kernel
theorem d48_55 : decode (cc 48) 55 = .ok (.ireturn, 1) := by decide +kernel
theorem d49_0 : decode (cc 49) 0 = .ok (.aload 4, 2) := by decide +kernel
theorem d49_2 : decode (cc 49) 2 = .ok (.iconst 0, 1) := by decide +kernel
theorem d49_3 : decode (cc 49) 3 = .ok (.aload_n 0, 1) := by decide +kernel
theorem d49_4 : decode (cc 49) 4 = .ok (.iload_n 1, 1) := by decide +kernel
theorem d49_5 : decode (cc 49) 5 = .ok (.iload_n 2, 1) := by decide +kernel
theorem d49_6 : decode (cc 49) 6 = .ok (.iload_n 3, 1) := by decide +kernel
theorem d49_7 : decode (cc 49) 7 = .ok (.invokevirtual 38, 3) := by decide +kernel
theorem d49_10 : decode (cc 49) 10 = .ok (.i2l, 1) := by decide +kernel
theorem d49_11 : decode (cc 49) 11 = .ok (.lastore, 1) := by decide +kernel
theorem d49_12 : decode (cc 49) 12 = .ok (.goto 11, 3) := by decide +kernel
theorem d49_15 : decode (cc 49) 15 = .ok (.astore 5, 2) := by decide +kernel
theorem d49_17 : decode (cc 49) 17 = .ok (.iconst 1, 1) := by decide +kernel
theorem d49_18 : decode (cc 49) 18 = .ok (.ireturn, 1) := by decide +kernel
theorem d49_19 : decode (cc 49) 19 = .ok (.astore 5, 2) := by decide +kernel
theorem d49_21 : decode (cc 49) 21 = .ok (.iconst 2, 1) := by decide +kernel
theorem d49_22 : decode (cc 49) 22 = .ok (.ireturn, 1) := by decide +kernel
theorem d49_23 : decode (cc 49) 23 = .ok (.iconst 0, 1) := by decide +kernel
theorem d49_24 : decode (cc 49) 24 = .ok (.ireturn, 1) := by decide +kernel
theorem d50_0 : decode (cc 50) 0 = .ok (.iload_n 1, 1) := by decide +kernel
theorem d50_1 : decode (cc 50) 1 = .ok (.iconst 0, 1) := by decide +kernel
theorem d50_2 : decode (cc 50) 2 = .ok (.iconst 1, 1) := by decide +kernel
theorem d50_3 : decode (cc 50) 3 = .ok (.invokestatic 54, 3) := by decide +kernel
theorem d50_6 : decode (cc 50) 6 = .ok (.iload_n 1, 1) := by decide +kernel
theorem d50_7 : decode (cc 50) 7 = .ok (.ifCond .ne 10, 3) := by decide +kernel
theorem d50_10 : decode (cc 50) 10 = .ok (.aload_n 0, 1) := by decide +kernel
theorem d50_11 : decode (cc 50) 11 = .ok (.getfield 25, 3) := by decide +kernel
theorem d50_14 : decode (cc 50) 14 = .ok (.goto 7, 3) := by decide +kernel
theorem d50_17 : decode (cc 50) 17 = .ok (.aload_n 0, 1) := by decide +kernel
theorem d50_18 : decode (cc 50) 18 = .ok (.getfield 29, 3) := by decide +kernel
theorem d50_21 : decode (cc 50) 21 = .ok (.astore 4, 2) := by decide +kernel
theorem d50_23 : decode (cc 50) 23 = .ok (.aload 4, 2) := by decide +kernel
theorem d50_25 : decode (cc 50) 25 = .ok (.iload_n 2, 1) := by decide +kernel
theorem d50_26 : decode (cc 50) 26 = .ok (.invokestatic 127, 3) := by decide +kernel
theorem d50_29 : decode (cc 50) 29 = .ok (.iload_n 3, 1) := by decide +kernel
theorem d50_30 : decode (cc 50) 30 = .ok (.iconst 0, 1) := by decide +kernel
theorem d50_31 : decode (cc 50) 31 = .ok (.sipush 1000, 3) := by decide +kernel
theorem d50_34 : decode (cc 50) 34 = .ok (.invokestatic 54, 3) := by decide +kernel
theorem d50_37 : decode (cc 50) 37 = .ok (.aload_n 0, 1) := by decide +kernel
theorem d50_38 : decode (cc 50) 38 = .ok (.aload 4, 2) := by decide +kernel
theorem d50_40 : decode (cc 50) 40 = .ok (.getfield 131, 3) := by decide +kernel
theorem d50_43 : decode (cc 50) 43 = .ok (.iload_n 2, 1) := by decide +kernel
theorem d50_44 : decode (cc 50) 44 = .ok (.iaload, 1) := by decide +kernel
theorem d50_45 : decode (cc 50) 45 = .ok (.invokevirtual 50, 3) := by decide +kernel
theorem d50_48 : decode (cc 50) 48 = .ok (.iconst 1, 1) := by decide +kernel
theorem d50_49 : decode (cc 50) 49 = .ok (.putfield 71, 3) := by decide +kernel
theorem d50_52 : decode (cc 50) 52 = .ok (.aload 4, 2) := by decide +kernel
theorem d50_54 : decode (cc 50) 54 = .ok (.iload_n 2, 1) := by decide +kernel
theorem d50_55 : decode (cc 50) 55 = .ok (.iload_n 3, 1) := by decide +kernel
theorem d50_56 : decode (cc 50) 56 = .ok (.invokevirtual 134, 3) := by decide +kernel
theorem d50_59 : decode (cc 50) 59 = .ok (.ireturn, 1) := by decide +kernel
theorem d51_0 : decode (cc 51) 0 = .ok (.iload_n 1, 1) := by decide +kernel
theorem d51_1 : decode (cc 51) 1 = .ok (.ifCond .lt 11, 3) := by decide +kernel
theorem d51_4 : decode (cc 51) 4 = .ok (.iload_n 1, 1) := by decide +kernel
theorem d51_5 : decode (cc 51) 5 = .ok (.aload_n 0, 1) := by decide +kernel
theorem d51_6 : decode (cc 51) 6 = .ok (.getfield 187, 3) := by decide +kernel
theorem d51_9 : decode (cc 51) 9 = .ok (.if_icmp .lt 13, 3) := by decide +kernel
theorem d51_12 : decode (cc 51) 12 = .ok (.new 196, 3) := by decide +kernel
theorem d51_15 : decode (cc 51) 15 = .ok (.dup, 1) := by decide +kernel
theorem d51_16 : decode (cc 51) 16 = .ok (.ldc 205, 2) := by decide +kernel
theorem d51_18 : decode (cc 51) 18 = .ok (.invokespecial 200, 3) := by decide +kernel
theorem d51_21 : decode (cc 51) 21 = .ok (.athrow, 1) := by decide +kernel
theorem d51_22 : decode (cc 51) 22 = .ok (.return_, 1) := by decide +kernel
theorem d52_0 : decode (cc 52) 0 = .ok (.aload_n 0, 1) := by decide +kernel
theorem d52_1 : decode (cc 52) 1 = .ok (.getfield 18, 3) := by decide +kernel
theorem d52_4 : decode (cc 52) 4 = .ok (.iload_n 1, 1) := by decide +kernel
theorem d52_5 : decode (cc 52) 5 = .ok (.iaload, 1) := by decide +kernel
theorem d52_6 : decode (cc 52) 6 = .ok (.istore_n 3, 1) := by decide +kernel
theorem d52_7 : decode (cc 52) 7 = .ok (.aload_n 0, 1) := by decide +kernel
theorem d52_8 : decode (cc 52) 8 = .ok (.getfield 18, 3) := by decide +kernel
theorem d52_11 : decode (cc 52) 11 = .ok (.iload_n 1, 1) := by decide +kernel
theorem d52_12 : decode (cc 52) 12 = .ok (.iload_n 2, 1) := by decide +kernel
theorem d52_13 : decode (cc 52) 13 = .ok (.iastore, 1) := by decide +kernel
theorem d52_14 : decode (cc 52) 14 = .ok (.iload_n 3, 1) := by decide +kernel
theorem d52_15 : decode (cc 52) 15 = .ok (.ireturn, 1) := by decide +kernel
theorem d53_0 : decode (cc 53) 0 = .ok (.aload 4, 2) := by decide +kernel
theorem d53_2 : decode (cc 53) 2 = .ok (.iconst 0, 1) := by decide +kernel
theorem d53_3 : decode (cc 53) 3 = .ok (.aload_n 0, 1) := by decide +kernel
theorem d53_4 : decode (cc 53) 4 = .ok (.iload_n 1, 1) := by decide +kernel
theorem d53_5 : decode (cc 53) 5 = .ok (.iload_n 2, 1) := by decide +kernel
theorem d53_6 : decode (cc 53) 6 = .ok (.iload_n 3, 1) := by decide +kernel
theorem d53_7 : decode (cc 53) 7 = .ok (.invokevirtual 41, 3) := by decide +kernel
theorem d53_10 : decode (cc 53) 10 = .ok (.i2l, 1) := by decide +kernel
theorem d53_11 : decode (cc 53) 11 = .ok (.lastore, 1) := by decide +kernel
theorem d53_12 : decode (cc 53) 12 = .ok (.goto 15, 3) := by decide +kernel
theorem d53_15 : decode (cc 53) 15 = .ok (.astore 5, 2) := by decide +kernel
theorem d53_17 : decode (cc 53) 17 = .ok (.iconst 1, 1) := by decide +kernel
theorem d53_18 : decode (cc 53) 18 = .ok (.ireturn, 1) := by decide +kernel
theorem d53_19 : decode (cc 53) 19 = .ok (.astore 5, 2) := by decide +kernel
theorem d53_21 : decode (cc 53) 21 = .ok (.iconst 2, 1) := by decide +kernel
theorem d53_22 : decode (cc 53) 22 = .ok (.ireturn, 1) := by decide +kernel
