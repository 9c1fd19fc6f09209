theorem d101_60 : decode (cc 101) 60 = .ok (.iload_n 2, 1) := by decide +kernel
theorem d101_61 : decode (cc 101) 61 = .ok (.invokevirtual 100, 3) := by decide +kernel
theorem d101_64 : decode (cc 101) 64 = .ok (.aload_n 0, 1) := by decide +kernel
theorem d101_65 : decode (cc 101) 65 = .ok (.iload_n 1, 1) := by decide +kernel
theorem d101_66 : decode (cc 101) 66 = .ok (.iload_n 2, 1) := by decide +kernel
theorem d101_67 : decode (cc 101) 67 = .ok (.iload_n 3, 1) := by decide +kernel
theorem d101_68 : decode (cc 101) 68 = .ok (.iload 4, 2) := by decide +kernel
theorem d101_70 : decode (cc 101) 70 = .ok (.invokevirtual 120, 3) := by decide +kernel
theorem d101_73 : decode (cc 101) 73 = .ok (.ireturn, 1) := by decide +kernel
theorem d102_0 : decode (cc 102) 0 = .ok (.bipush 24, 2) := by decide +kernel
theorem d102_2 : decode (cc 102) 2 = .ok (.iload_n 1, 1) := by decide +kernel
theorem d102_3 : decode (cc 102) 3 = .ok (.imul, 1) := by decide +kernel
theorem d102_4 : decode (cc 102) 4 = .ok (.aload_n 0, 1) := by decide +kernel
theorem d102_5 : decode (cc 102) 5 = .ok (.getfield 49, 3) := by decide +kernel
theorem d102_8 : decode (cc 102) 8 = .ok (.iload_n 1, 1) := by decide +kernel
theorem d102_9 : decode (cc 102) 9 = .ok (.iaload, 1) := by decide +kernel
theorem d102_10 : decode (cc 102) 10 = .ok (.iadd, 1) := by decide +kernel
theorem d102_11 : decode (cc 102) 11 = .ok (.istore 5, 2) := by decide +kernel
theorem d102_13 : decode (cc 102) 13 = .ok (.aload_n 0, 1) := by decide +kernel
theorem d102_14 : decode (cc 102) 14 = .ok (.getfield 52, 3) := by decide +kernel
theorem d102_17 : decode (cc 102) 17 = .ok (.iload 5, 2) := by decide +kernel
theorem d102_19 : decode (cc 102) 19 = .ok (.iload_n 2, 1) := by decide +kernel
theorem d102_20 : decode (cc 102) 20 = .ok (.iastore, 1) := by decide +kernel
theorem d102_21 : decode (cc 102) 21 = .ok (.aload_n 0, 1) := by decide +kernel
theorem d102_22 : decode (cc 102) 22 = .ok (.getfield 55, 3) := by decide +kernel
theorem d102_25 : decode (cc 102) 25 = .ok (.iload 5, 2) := by decide +kernel
theorem d102_27 : decode (cc 102) 27 = .ok (.iload_n 3, 1) := by decide +kernel
theorem d102_28 : decode (cc 102) 28 = .ok (.iastore, 1) := by decide +kernel
theorem d102_29 : decode (cc 102) 29 = .ok (.aload_n 0, 1) := by decide +kernel
theorem d102_30 : decode (cc 102) 30 = .ok (.getfield 58, 3) := by decide +kernel
theorem d102_33 : decode (cc 102) 33 = .ok (.iload 5, 2) := by decide +kernel
theorem d102_35 : decode (cc 102) 35 = .ok (.iload 4, 2) := by decide +kernel
theorem d102_37 : decode (cc 102) 37 = .ok (.iastore, 1) := by decide +kernel
theorem d102_38 : decode (cc 102) 38 = .ok (.aload_n 0, 1) := by decide +kernel
theorem d102_39 : decode (cc 102) 39 = .ok (.getfield 49, 3) := by decide +kernel
theorem d102_42 : decode (cc 102) 42 = .ok (.iload_n 1, 1) := by decide +kernel
theorem d102_43 : decode (cc 102) 43 = .ok (.dup2, 1) := by decide +kernel
theorem d102_44 : decode (cc 102) 44 = .ok (.iaload, 1) := by decide +kernel
theorem d102_45 : decode (cc 102) 45 = .ok (.iconst 1, 1) := by decide +kernel
theorem d102_46 : decode (cc 102) 46 = .ok (.iadd, 1) := by decide +kernel
theorem d102_47 : decode (cc 102) 47 = .ok (.iastore, 1) := by decide +kernel
theorem d102_48 : decode (cc 102) 48 = .ok (.aload_n 0, 1) := by decide +kernel
theorem d102_49 : decode (cc 102) 49 = .ok (.getfield 49, 3) := by decide +kernel
theorem d102_52 : decode (cc 102) 52 = .ok (.iload_n 1, 1) := by decide +kernel
theorem d102_53 : decode (cc 102) 53 = .ok (.iaload, 1) := by decide +kernel
theorem d102_54 : decode (cc 102) 54 = .ok (.iconst 1, 1) := by decide +kernel
theorem d102_55 : decode (cc 102) 55 = .ok (.isub, 1) := by decide +kernel
theorem d102_56 : decode (cc 102) 56 = .ok (.ireturn, 1) := by decide +kernel
theorem d103_0 : decode (cc 103) 0 = .ok (.aload_n 0, 1) := by decide +kernel
theorem d103_1 : decode (cc 103) 1 = .ok (.iconst 1, 1) := by decide +kernel
theorem d103_2 : decode (cc 103) 2 = .ok (.iload_n 1, 1) := by decide +kernel
theorem d103_3 : decode (cc 103) 3 = .ok (.iload_n 2, 1) := by decide +kernel
theorem d103_4 : decode (cc 103) 4 = .ok (.iload_n 3, 1) := by decide +kernel
theorem d103_5 : decode (cc 103) 5 = .ok (.invokevirtual 124, 3) := by decide +kernel
theorem d103_8 : decode (cc 103) 8 = .ok (.ireturn, 1) := by decide +kernel
theorem d104_0 : decode (cc 104) 0 = .ok (.iload_n 1, 1) := by decide +kernel
theorem d104_1 : decode (cc 104) 1 = .ok (.ifCond .eq 8, 3) := by decide +kernel
theorem d104_4 : decode (cc 104) 4 = .ok (.iload_n 1, 1) := by decide +kernel
theorem d104_5 : decode (cc 104) 5 = .ok (.iconst 1, 1) := by decide +kernel
theorem d104_6 : decode (cc 104) 6 = .ok (.if_icmp .ne 7, 3) := by decide +kernel
theorem d104_9 : decode (cc 104) 9 = .ok (.iconst 1, 1) := by decide +kernel
theorem d104_10 : decode (cc 104) 10 = .ok (.goto 4, 3) := by decide +kernel
theorem d104_13 : decode (cc 104) 13 = .ok (.iconst 0, 1) := by decide +kernel
theorem d104_14 : decode (cc 104) 14 = .ok (.istore 4, 2) := by decide +kernel
theorem d104_16 : decode (cc 104) 16 = .ok (.aload_n 0, 1) := by decide +kernel
theorem d104_17 : decode (cc 104) 17 = .ok (.iload 4, 2) := by decide +kernel
theorem d104_19 : decode (cc 104) 19 = .ok (.ifCond .ne 7, 3) := by decide +kernel
theorem d104_22 : decode (cc 104) 22 = .ok (.iconst 1, 1) := by decide +kernel
theorem d104_23 : decode (cc 104) 23 = .ok (.goto 39, 3) := by decide +kernel
theorem d104_26 : decode (cc 104) 26 = .ok (.iload_n 2, 1) := by decide +kernel
theorem d104_27 : decode (cc 104) 27 = .ok (.iconst 0, 1) := by decide +kernel
theorem d104_28 : decode (cc 104) 28 = .ok (.aload_n 0, 1) := by decide +kernel
theorem d104_29 : decode (cc 104) 29 = .ok (.getfield 49, 3) := by decide +kernel
theorem d104_32 : decode (cc 104) 32 = .ok (.iload_n 1, 1) := by decide +kernel
theorem d104_33 : decode (cc 104) 33 = .ok (.iaload, 1) := by decide +kernel
theorem d104_34 : decode (cc 104) 34 = .ok (.iconst 1, 1) := by decide +kernel
theorem d104_35 : decode (cc 104) 35 = .ok (.isub, 1) := by decide +kernel
theorem d104_36 : decode (cc 104) 36 = .ok (.invokestatic 89, 3) := by decide +kernel
theorem d104_39 : decode (cc 104) 39 = .ok (.ifCond .ne 7, 3) := by decide +kernel
theorem d104_42 : decode (cc 104) 42 = .ok (.iconst 2, 1) := by decide +kernel
theorem d104_43 : decode (cc 104) 43 = .ok (.goto 19, 3) := by decide +kernel
theorem d104_46 : decode (cc 104) 46 = .ok (.iload_n 3, 1) := by decide +kernel
theorem d104_47 : decode (cc 104) 47 = .ok (.iconst 0, 1) := by decide +kernel
theorem d104_48 : decode (cc 104) 48 = .ok (.sipush 1000, 3) := by decide +kernel
theorem d104_51 : decode (cc 104) 51 = .ok (.invokestatic 89, 3) := by decide +kernel
theorem d104_54 : decode (cc 104) 54 = .ok (.ifCond .ne 7, 3) := by decide +kernel
theorem d104_57 : decode (cc 104) 57 = .ok (.iconst 1, 1) := by decide +kernel
theorem d104_58 : decode (cc 104) 58 = .ok (.goto 4, 3) := by decide +kernel
theorem d104_61 : decode (cc 104) 61 = .ok (.iconst 0, 1) := by decide +kernel
theorem d104_62 : decode (cc 104) 62 = .ok (.invokevirtual 97, 3) := by decide +kernel
theorem d104_65 : decode (cc 104) 65 = .ok (.ifCond .eq 5, 3) := by decide +kernel
theorem d104_68 : decode (cc 104) 68 = .ok (.iconst 0, 1) := by decide +kernel
theorem d104_69 : decode (cc 104) 69 = .ok (.ireturn, 1) := by decide +kernel
theorem d104_70 : decode (cc 104) 70 = .ok (.bipush 24, 2) := by decide +kernel
theorem d104_72 : decode (cc 104) 72 = .ok (.iload_n 1, 1) := by decide +kernel
theorem d104_73 : decode (cc 104) 73 = .ok (.imul, 1) := by decide +kernel
theorem d104_74 : decode (cc 104) 74 = .ok (.iload_n 2, 1) := by decide +kernel
theorem d104_75 : decode (cc 104) 75 = .ok (.iadd, 1) := by decide +kernel
theorem d104_76 : decode (cc 104) 76 = .ok (.istore 5, 2) := by decide +kernel
theorem d104_78 : decode (cc 104) 78 = .ok (.aload_n 0, 1) := by decide +kernel
theorem d104_79 : decode (cc 104) 79 = .ok (.getfield 58, 3) := by decide +kernel
theorem d104_82 : decode (cc 104) 82 = .ok (.iload 5, 2) := by decide +kernel
theorem d104_84 : decode (cc 104) 84 = .ok (.iaload, 1) := by decide +kernel
theorem d104_85 : decode (cc 104) 85 = .ok (.istore 6, 2) := by decide +kernel
theorem d104_87 : decode (cc 104) 87 = .ok (.aload_n 0, 1) := by decide +kernel
theorem d104_88 : decode (cc 104) 88 = .ok (.getfield 58, 3) := by decide +kernel
theorem d104_91 : decode (cc 104) 91 = .ok (.iload 5, 2) := by decide +kernel
theorem d104_93 : decode (cc 104) 93 = .ok (.iload_n 3, 1) := by decide +kernel
theorem d104_94 : decode (cc 104) 94 = .ok (.iastore, 1) := by decide +kernel
theorem d104_95 : decode (cc 104) 95 = .ok (.aload_n 0, 1) := by decide +kernel
theorem d104_96 : decode (cc 104) 96 = .ok (.aload_n 0, 1) := by decide +kernel
theorem d104_97 : decode (cc 104) 97 = .ok (.getfield 52, 3) := by decide +kernel
theorem d104_100 : decode (cc 104) 100 = .ok (.iload 5, 2) := by decide +kernel
theorem d104_102 : decode (cc 104) 102 = .ok (.iaload, 1) := by decide +kernel
theorem d104_103 : decode (cc 104) 103 = .ok (.invokevirtual 100, 3) := by decide +kernel
theorem d104_106 : decode (cc 104) 106 = .ok (.iload 6, 2) := by decide +kernel
theorem d104_108 : decode (cc 104) 108 = .ok (.ireturn, 1) := by decide +kernel
theorem d105_0 : decode (cc 105) 0 = .ok (.aload_n 0, 1) := by decide +kernel
theorem d105_1 : decode (cc 105) 1 = .ok (.iconst 0, 1) := by decide +kernel
theorem d105_2 : decode (cc 105) 2 = .ok (.putfield 85, 3) := by decide +kernel
theorem d105_5 : decode (cc 105) 5 = .ok (.iconst 0, 1) := by decide +kernel
theorem d105_6 : decode (cc 105) 6 = .ok (.istore_n 1, 1) := by decide +kernel
theorem d105_7 : decode (cc 105) 7 = .ok (.iconst 0, 1) := by decide +kernel
theorem d105_8 : decode (cc 105) 8 = .ok (.istore_n 2, 1) := by decide +kernel
theorem d105_9 : decode (cc 105) 9 = .ok (.iload_n 2, 1) := by decide +kernel
theorem d105_10 : decode (cc 105) 10 = .ok (.iconst 5, 1) := by decide +kernel
theorem d105_11 : decode (cc 105) 11 = .ok (.if_icmp .ge 48, 3) := by decide +kernel
theorem d105_14 : decode (cc 105) 14 = .ok (.iconst 0, 1) := by decide +kernel
theorem d105_15 : decode (cc 105) 15 = .ok (.istore_n 3, 1) := by decide +kernel
theorem d105_16 : decode (cc 105) 16 = .ok (.iload_n 3, 1) := by decide +kernel
theorem d105_17 : decode (cc 105) 17 = .ok (.bipush 12, 2) := by decide +kernel
theorem d105_19 : decode (cc 105) 19 = .ok (.if_icmp .ge 34, 3) := by decide +kernel
theorem d105_22 : decode (cc 105) 22 = .ok (.aload_n 0, 1) := by decide +kernel
theorem d105_23 : decode (cc 105) 23 = .ok (.iload_n 3, 1) := by decide +kernel
theorem d105_24 : decode (cc 105) 24 = .ok (.invokevirtual 105, 3) := by decide +kernel
theorem d105_27 : decode (cc 105) 27 = .ok (.iload_n 2, 1) := by decide +kernel
theorem d105_28 : decode (cc 105) 28 = .ok (.if_icmp .ne 19, 3) := by decide +kernel
theorem d105_31 : decode (cc 105) 31 = .ok (.aload_n 0, 1) := by decide +kernel
theorem d105_32 : decode (cc 105) 32 = .ok (.iload_n 3, 1) := by decide +kernel
theorem d105_33 : decode (cc 105) 33 = .ok (.invokevirtual 176, 3) := by decide +kernel
theorem d105_36 : decode (cc 105) 36 = .ok (.ifCond .eq 9, 3) := by decide +kernel
theorem d105_39 : decode (cc 105) 39 = .ok (.iload_n 1, 1) := by decide +kernel
theorem d105_40 : decode (cc 105) 40 = .ok (.iconst 1, 1) := by decide +kernel
theorem d105_41 : decode (cc 105) 41 = .ok (.iadd, 1) := by decide +kernel
theorem d105_42 : decode (cc 105) 42 = .ok (.goto 4, 3) := by decide +kernel
theorem d105_45 : decode (cc 105) 45 = .ok (.iload_n 1, 1) := by decide +kernel
theorem d105_46 : decode (cc 105) 46 = .ok (.istore_n 1, 1) := by decide +kernel
theorem d105_47 : decode (cc 105) 47 = .ok (.iinc 3 1, 3) := by decide +kernel
theorem d105_50 : decode (cc 105) 50 = .ok (.goto (-34), 3) := by decide +kernel
theorem d105_53 : decode (cc 105) 53 = .ok (.iinc 2 1, 3) := by decide +kernel
theorem d105_56 : decode (cc 105) 56 = .ok (.goto (-47), 3) := by decide +kernel
theorem d105_59 : decode (cc 105) 59 = .ok (.aload_n 0, 1) := by decide +kernel
theorem d105_60 : decode (cc 105) 60 = .ok (.iconst 1, 1) := by decide +kernel
theorem d105_61 : decode (cc 105) 61 = .ok (.putfield 167, 3) := by decide +kernel
theorem d105_64 : decode (cc 105) 64 = .ok (.aload_n 0, 1) := by decide +kernel
theorem d105_65 : decode (cc 105) 65 = .ok (.iconst 0, 1) := by decide +kernel
theorem d105_66 : decode (cc 105) 66 = .ok (.putfield 61, 3) := by decide +kernel
theorem d105_69 : decode (cc 105) 69 = .ok (.iload_n 1, 1) := by decide +kernel
theorem d105_70 : decode (cc 105) 70 = .ok (.ireturn, 1) := by decide +kernel
theorem d106_0 : decode (cc 106) 0 = .ok (.aload_n 0, 1) := by decide +kernel
theorem d106_1 : decode (cc 106) 1 = .ok (.getfield 167, 3) := by decide +kernel
theorem d106_4 : decode (cc 106) 4 = .ok (.ifCond .eq 12, 3) := by decide +kernel
theorem d106_7 : decode (cc 106) 7 = .ok (.aload_n 0, 1) := by decide +kernel
theorem d106_8 : decode (cc 106) 8 = .ok (.getfield 65, 3) := by decide +kernel
theorem d106_11 : decode (cc 106) 11 = .ok (.iload_n 1, 1) := by decide +kernel
theorem d106_12 : decode (cc 106) 12 = .ok (.baload, 1) := by decide +kernel
theorem d106_13 : decode (cc 106) 13 = .ok (.ifCond .eq 7, 3) := by decide +kernel
theorem d106_16 : decode (cc 106) 16 = .ok (.iconst 1, 1) := by decide +kernel
theorem d106_17 : decode (cc 106) 17 = .ok (.goto 4, 3) := by decide +kernel
theorem d106_20 : decode (cc 106) 20 = .ok (.iconst 0, 1) := by decide +kernel
theorem d106_21 : decode (cc 106) 21 = .ok (.istore_n 2, 1) := by decide +kernel
theorem d106_22 : decode (cc 106) 22 = .ok (.iconst 0, 1) := by decide +kernel
theorem d106_23 : decode (cc 106) 23 = .ok (.istore_n 3, 1) := by decide +kernel
theorem d106_24 : decode (cc 106) 24 = .ok (.iload_n 3, 1) := by decide +kernel
theorem d106_25 : decode (cc 106) 25 = .ok (.bipush 12, 2) := by decide +kernel
theorem d106_27 : decode (cc 106) 27 = .ok (.if_icmp .ge 21, 3) := by decide +kernel
theorem d106_30 : decode (cc 106) 30 = .ok (.aload_n 0, 1) := by decide +kernel
theorem d106_31 : decode (cc 106) 31 = .ok (.getfield 76, 3) := by decide +kernel
theorem d106_34 : decode (cc 106) 34 = .ok (.iload_n 3, 1) := by decide +kernel
theorem d106_35 : decode (cc 106) 35 = .ok (.aload_n 0, 1) := by decide +kernel
theorem d106_36 : decode (cc 106) 36 = .ok (.iload_n 1, 1) := by decide +kernel
theorem d106_37 : decode (cc 106) 37 = .ok (.iload_n 3, 1) := by decide +kernel
theorem d106_38 : decode (cc 106) 38 = .ok (.invokevirtual 170, 3) := by decide +kernel
theorem d106_41 : decode (cc 106) 41 = .ok (.lastore, 1) := by decide +kernel
theorem d106_42 : decode (cc 106) 42 = .ok (.iinc 3 1, 3) := by decide +kernel
theorem d106_45 : decode (cc 106) 45 = .ok (.goto (-21), 3) := by decide +kernel
theorem d106_48 : decode (cc 106) 48 = .ok (.iconst 0, 1) := by decide +kernel
theorem d106_49 : decode (cc 106) 49 = .ok (.istore_n 3, 1) := by decide +kernel
theorem d106_50 : decode (cc 106) 50 = .ok (.iload_n 3, 1) := by decide +kernel
theorem d106_51 : decode (cc 106) 51 = .ok (.bipush 12, 2) := by decide +kernel
theorem d106_53 : decode (cc 106) 53 = .ok (.if_icmp .ge 57, 3) := by decide +kernel
theorem d106_56 : decode (cc 106) 56 = .ok (.iload_n 2, 1) := by decide +kernel
theorem d106_57 : decode (cc 106) 57 = .ok (.ifCond .ne 24, 3) := by decide +kernel
theorem d106_60 : decode (cc 106) 60 = .ok (.aload_n 0, 1) := by decide +kernel
theorem d106_61 : decode (cc 106) 61 = .ok (.getfield 76, 3) := by decide +kernel
theorem d106_64 : decode (cc 106) 64 = .ok (.iload_n 3, 1) := by decide +kernel
theorem d106_65 : decode (cc 106) 65 = .ok (.laload, 1) := by decide +kernel
theorem d106_66 : decode (cc 106) 66 = .ok (.aload_n 0, 1) := by decide +kernel
theorem d106_67 : decode (cc 106) 67 = .ok (.getfield 69, 3) := by decide +kernel
theorem d106_70 : decode (cc 106) 70 = .ok (.bipush 12, 2) := by decide +kernel
theorem d106_72 : decode (cc 106) 72 = .ok (.iload_n 1, 1) := by decide +kernel
theorem d106_73 : decode (cc 106) 73 = .ok (.imul, 1) := by decide +kernel
theorem d106_74 : decode (cc 106) 74 = .ok (.iload_n 3, 1) := by decide +kernel
theorem d106_75 : decode (cc 106) 75 = .ok (.iadd, 1) := by decide +kernel
theorem d106_76 : decode (cc 106) 76 = .ok (.laload, 1) := by decide +kernel
theorem d106_77 : decode (cc 106) 77 = .ok (.lcmp, 1) := by decide +kernel
theorem d106_78 : decode (cc 106) 78 = .ok (.ifCond .eq 7, 3) := by decide +kernel
theorem d106_81 : decode (cc 106) 81 = .ok (.iconst 1, 1) := by decide +kernel
theorem d106_82 : decode (cc 106) 82 = .ok (.goto 4, 3) := by decide +kernel
theorem d106_85 : decode (cc 106) 85 = .ok (.iconst 0, 1) := by decide +kernel
theorem d106_86 : decode (cc 106) 86 = .ok (.istore_n 2, 1) := by decide +kernel
theorem d106_87 : decode (cc 106) 87 = .ok (.aload_n 0, 1) := by decide +kernel
theorem d106_88 : decode (cc 106) 88 = .ok (.getfield 69, 3) := by decide +kernel
theorem d106_91 : decode (cc 106) 91 = .ok (.bipush 12, 2) := by decide +kernel
theorem d106_93 : decode (cc 106) 93 = .ok (.iload_n 1, 1) := by decide +kernel
theorem d106_94 : decode (cc 106) 94 = .ok (.imul, 1) := by decide +kernel
theorem d106_95 : decode (cc 106) 95 = .ok (.iload_n 3, 1) := by decide +kernel
theorem d106_96 : decode (cc 106) 96 = .ok (.iadd, 1) := by decide +kernel
theorem d106_97 : decode (cc 106) 97 = .ok (.aload_n 0, 1) := by decide +kernel
theorem d106_98 : decode (cc 106) 98 = .ok (.getfield 76, 3) := by decide +kernel
theorem d106_101 : decode (cc 106) 101 = .ok (.iload_n 3, 1) := by decide +kernel
theorem d106_102 : decode (cc 106) 102 = .ok (.laload, 1) := by decide +kernel
theorem d106_103 : decode (cc 106) 103 = .ok (.lastore, 1) := by decide +kernel
theorem d106_104 : decode (cc 106) 104 = .ok (.iinc 3 1, 3) := by decide +kernel
theorem d106_107 : decode (cc 106) 107 = .ok (.goto (-57), 3) := by decide +kernel
theorem d106_110 : decode (cc 106) 110 = .ok (.aload_n 0, 1) := by decide +kernel
theorem d106_111 : decode (cc 106) 111 = .ok (.iload_n 1, 1) := by decide +kernel
theorem d106_112 : decode (cc 106) 112 = .ok (.invokevirtual 173, 3) := by decide +kernel
theorem d106_115 : decode (cc 106) 115 = .ok (.aload_n 0, 1) := by decide +kernel
theorem d106_116 : decode (cc 106) 116 = .ok (.getfield 65, 3) := by decide +kernel
theorem d106_119 : decode (cc 106) 119 = .ok (.iload_n 1, 1) := by decide +kernel
theorem d106_120 : decode (cc 106) 120 = .ok (.iconst 0, 1) := by decide +kernel
theorem d106_121 : decode (cc 106) 121 = .ok (.bastore, 1) := by decide +kernel
theorem d106_122 : decode (cc 106) 122 = .ok (.iload_n 2, 1) := by decide +kernel
theorem d106_123 : decode (cc 106) 123 = .ok (.ireturn, 1) := by decide +kernel
theorem d107_0 : decode (cc 107) 0 = .ok (.aload_n 0, 1) := by decide +kernel
theorem d107_1 : decode (cc 107) 1 = .ok (.iconst 0, 1) := by decide +kernel
theorem d107_2 : decode (cc 107) 2 = .ok (.iload_n 1, 1) := by decide +kernel
theorem d107_3 : decode (cc 107) 3 = .ok (.iload_n 2, 1) := by decide +kernel
theorem d107_4 : decode (cc 107) 4 = .ok (.invokevirtual 127, 3) := by decide +kernel
theorem d107_7 : decode (cc 107) 7 = .ok (.iload_n 2, 1) := by decide +kernel
theorem d107_8 : decode (cc 107) 8 = .ok (.ifCond .le 15, 3) := by decide +kernel
theorem d107_11 : decode (cc 107) 11 = .ok (.aload_n 0, 1) := by decide +kernel
theorem d107_12 : decode (cc 107) 12 = .ok (.iconst 0, 1) := by decide +kernel
theorem d107_13 : decode (cc 107) 13 = .ok (.iload_n 1, 1) := by decide +kernel
theorem d107_14 : decode (cc 107) 14 = .ok (.iload_n 2, 1) := by decide +kernel
theorem d107_15 : decode (cc 107) 15 = .ok (.iconst 1, 1) := by decide +kernel
theorem d107_16 : decode (cc 107) 16 = .ok (.isub, 1) := by decide +kernel
theorem d107_17 : decode (cc 107) 17 = .ok (.invokevirtual 127, 3) := by decide +kernel
theorem d107_20 : decode (cc 107) 20 = .ok (.goto 4, 3) := by decide +kernel
theorem d107_23 : decode (cc 107) 23 = .ok (.lconst 0, 1) := by decide +kernel
theorem d107_24 : decode (cc 107) 24 = .ok (.lsub, 1) := by decide +kernel
theorem d107_25 : decode (cc 107) 25 = .ok (.lstore_n 3, 1) := by decide +kernel
theorem d107_26 : decode (cc 107) 26 = .ok (.iconst 0, 1) := by decide +kernel
theorem d107_27 : decode (cc 107) 27 = .ok (.istore 5, 2) := by decide +kernel
theorem d107_29 : decode (cc 107) 29 = .ok (.iload 5, 2) := by decide +kernel
theorem d107_31 : decode (cc 107) 31 = .ok (.bipush 12, 2) := by decide +kernel
theorem d107_33 : decode (cc 107) 33 = .ok (.if_icmp .ge 24, 3) := by decide +kernel
theorem d107_36 : decode (cc 107) 36 = .ok (.lload_n 3, 1) := by decide +kernel
theorem d107_37 : decode (cc 107) 37 = .ok (.aload_n 0, 1) := by decide +kernel
theorem d107_38 : decode (cc 107) 38 = .ok (.bipush 12, 2) := by decide +kernel
theorem d107_40 : decode (cc 107) 40 = .ok (.iload 5, 2) := by decide +kernel
theorem d107_42 : decode (cc 107) 42 = .ok (.imul, 1) := by decide +kernel
theorem d107_43 : decode (cc 107) 43 = .ok (.iload_n 1, 1) := by decide +kernel
theorem d107_44 : decode (cc 107) 44 = .ok (.iadd, 1) := by decide +kernel
theorem d107_45 : decode (cc 107) 45 = .ok (.iload_n 2, 1) := by decide +kernel
theorem d107_46 : decode (cc 107) 46 = .ok (.invokevirtual 139, 3) := by decide +kernel
theorem d107_49 : decode (cc 107) 49 = .ok (.ladd, 1) := by decide +kernel
theorem d107_50 : decode (cc 107) 50 = .ok (.lstore_n 3, 1) := by decide +kernel
theorem d107_51 : decode (cc 107) 51 = .ok (.iinc 5 1, 3) := by decide +kernel
theorem d107_54 : decode (cc 107) 54 = .ok (.goto (-25), 3) := by decide +kernel
theorem d107_57 : decode (cc 107) 57 = .ok (.lload_n 3, 1) := by decide +kernel
theorem d107_58 : decode (cc 107) 58 = .ok (.lreturn, 1) := by decide +kernel
theorem d108_0 : decode (cc 108) 0 = .ok (.lconst 0, 1) := by decide +kernel
theorem d108_1 : decode (cc 108) 1 = .ok (.lstore 4, 2) := by decide +kernel
theorem d108_3 : decode (cc 108) 3 = .ok (.bipush 24, 2) := by decide +kernel
theorem d108_5 : decode (cc 108) 5 = .ok (.iload_n 1, 1) := by decide +kernel
theorem d108_6 : decode (cc 108) 6 = .ok (.imul, 1) := by decide +kernel
theorem d108_7 : decode (cc 108) 7 = .ok (.istore 6, 2) := by decide +kernel
theorem d108_9 : decode (cc 108) 9 = .ok (.iload 6, 2) := by decide +kernel
theorem d108_11 : decode (cc 108) 11 = .ok (.bipush 24, 2) := by decide +kernel
theorem d108_13 : decode (cc 108) 13 = .ok (.iload_n 1, 1) := by decide +kernel
theorem d108_14 : decode (cc 108) 14 = .ok (.imul, 1) := by decide +kernel
theorem d108_15 : decode (cc 108) 15 = .ok (.aload_n 0, 1) := by decide +kernel
theorem d108_16 : decode (cc 108) 16 = .ok (.getfield 49, 3) := by decide +kernel
theorem d108_19 : decode (cc 108) 19 = .ok (.iload_n 1, 1) := by decide +kernel
theorem d108_20 : decode (cc 108) 20 = .ok (.iaload, 1) := by decide +kernel
theorem d108_21 : decode (cc 108) 21 = .ok (.iadd, 1) := by decide +kernel
theorem d108_22 : decode (cc 108) 22 = .ok (.if_icmp .ge 49, 3) := by decide +kernel
theorem d108_25 : decode (cc 108) 25 = .ok (.aload_n 0, 1) := by decide +kernel
theorem d108_26 : decode (cc 108) 26 = .ok (.getfield 52, 3) := by decide +kernel
theorem d108_29 : decode (cc 108) 29 = .ok (.iload 6, 2) := by decide +kernel
theorem d108_31 : decode (cc 108) 31 = .ok (.iaload, 1) := by decide +kernel
theorem d108_32 : decode (cc 108) 32 = .ok (.iload_n 2, 1) := by decide +kernel
theorem d108_33 : decode (cc 108) 33 = .ok (.if_icmp .ne 28, 3) := by decide +kernel
theorem d108_36 : decode (cc 108) 36 = .ok (.aload_n 0, 1) := by decide +kernel
theorem d108_37 : decode (cc 108) 37 = .ok (.getfield 55, 3) := by decide +kernel
theorem d108_40 : decode (cc 108) 40 = .ok (.iload 6, 2) := by decide +kernel
theorem d108_42 : decode (cc 108) 42 = .ok (.iaload, 1) := by decide +kernel
theorem d108_43 : decode (cc 108) 43 = .ok (.iload_n 3, 1) := by decide +kernel
theorem d108_44 : decode (cc 108) 44 = .ok (.if_icmp .gt 17, 3) := by decide +kernel
theorem d108_47 : decode (cc 108) 47 = .ok (.lload 4, 2) := by decide +kernel
theorem d108_49 : decode (cc 108) 49 = .ok (.aload_n 0, 1) := by decide +kernel
theorem d108_50 : decode (cc 108) 50 = .ok (.getfield 58, 3) := by decide +kernel
theorem d108_53 : decode (cc 108) 53 = .ok (.iload 6, 2) := by decide +kernel
theorem d108_55 : decode (cc 108) 55 = .ok (.iaload, 1) := by decide +kernel
theorem d108_56 : decode (cc 108) 56 = .ok (.i2l, 1) := by decide +kernel
theorem d108_57 : decode (cc 108) 57 = .ok (.ladd, 1) := by decide +kernel
theorem d108_58 : decode (cc 108) 58 = .ok (.goto 5, 3) := by decide +kernel
theorem d108_61 : decode (cc 108) 61 = .ok (.lload 4, 2) := by decide +kernel
theorem d108_63 : decode (cc 108) 63 = .ok (.lstore 4, 2) := by decide +kernel
theorem d108_65 : decode (cc 108) 65 = .ok (.iinc 6 1, 3) := by decide +kernel
theorem d108_68 : decode (cc 108) 68 = .ok (.goto (-59), 3) := by decide +kernel
theorem d108_71 : decode (cc 108) 71 = .ok (.lload 4, 2) := by decide +kernel
theorem d108_73 : decode (cc 108) 73 = .ok (.lreturn, 1) := by decide +kernel
theorem d109_0 : decode (cc 109) 0 = .ok (.iload_n 1, 1) := by decide +kernel
theorem d109_1 : decode (cc 109) 1 = .ok (.bipush 12, 2) := by decide +kernel
theorem d109_3 : decode (cc 109) 3 = .ok (.idiv, 1) := by decide +kernel
theorem d109_4 : decode (cc 109) 4 = .ok (.istore_n 3, 1) := by decide +kernel
theorem d109_5 : decode (cc 109) 5 = .ok (.iload_n 2, 1) := by decide +kernel
theorem d109_6 : decode (cc 109) 6 = .ok (.aload_n 0, 1) := by decide +kernel
theorem d109_7 : decode (cc 109) 7 = .ok (.getfield 16, 3) := by decide +kernel
theorem d109_10 : decode (cc 109) 10 = .ok (.iload_n 3, 1) := by decide +kernel
theorem d109_11 : decode (cc 109) 11 = .ok (.iaload, 1) := by decide +kernel
theorem d109_12 : decode (cc 109) 12 = .ok (.iadd, 1) := by decide +kernel
theorem d109_13 : decode (cc 109) 13 = .ok (.istore 4, 2) := by decide +kernel
theorem d109_15 : decode (cc 109) 15 = .ok (.aload_n 0, 1) := by decide +kernel
theorem d109_16 : decode (cc 109) 16 = .ok (.getfield 40, 3) := by decide +kernel
theorem d109_19 : decode (cc 109) 19 = .ok (.iload_n 1, 1) := by decide +kernel
theorem d109_20 : decode (cc 109) 20 = .ok (.iaload, 1) := by decide +kernel
theorem d109_21 : decode (cc 109) 21 = .ok (.ifCond .le 34, 3) := by decide +kernel
theorem d109_24 : decode (cc 109) 24 = .ok (.iload 4, 2) := by decide +kernel
theorem d109_26 : decode (cc 109) 26 = .ok (.bipush 12, 2) := by decide +kernel
theorem d109_28 : decode (cc 109) 28 = .ok (.if_icmp .ge 27, 3) := by decide +kernel
theorem d109_31 : decode (cc 109) 31 = .ok (.iload_n 2, 1) := by decide +kernel
theorem d109_32 : decode (cc 109) 32 = .ok (.aload_n 0, 1) := by decide +kernel
theorem d109_33 : decode (cc 109) 33 = .ok (.getfield 43, 3) := by decide +kernel
theorem d109_36 : decode (cc 109) 36 = .ok (.iload_n 1, 1) := by decide +kernel
theorem d109_37 : decode (cc 109) 37 = .ok (.iaload, 1) := by decide +kernel
theorem d109_38 : decode (cc 109) 38 = .ok (.if_icmp .lt 17, 3) := by decide +kernel
theorem d109_41 : decode (cc 109) 41 = .ok (.iload_n 2, 1) := by decide +kernel
theorem d109_42 : decode (cc 109) 42 = .ok (.aload_n 0, 1) := by decide +kernel
theorem d109_43 : decode (cc 109) 43 = .ok (.getfield 46, 3) := by decide +kernel
theorem d109_46 : decode (cc 109) 46 = .ok (.iload_n 1, 1) := by decide +kernel
theorem d109_47 : decode (cc 109) 47 = .ok (.iaload, 1) := by decide +kernel
theorem d109_48 : decode (cc 109) 48 = .ok (.if_icmp .gt 7, 3) := by decide +kernel
theorem d109_51 : decode (cc 109) 51 = .ok (.iconst 1, 1) := by decide +kernel
theorem d109_52 : decode (cc 109) 52 = .ok (.goto 4, 3) := by decide +kernel
theorem d109_55 : decode (cc 109) 55 = .ok (.iconst 0, 1) := by decide +kernel
theorem d109_56 : decode (cc 109) 56 = .ok (.istore 5, 2) := by decide +kernel
theorem d109_58 : decode (cc 109) 58 = .ok (.iload 5, 2) := by decide +kernel
theorem d109_60 : decode (cc 109) 60 = .ok (.ifCond .eq 18, 3) := by decide +kernel
theorem d109_63 : decode (cc 109) 63 = .ok (.aload_n 0, 1) := by decide +kernel
theorem d109_64 : decode (cc 109) 64 = .ok (.getfield 73, 3) := by decide +kernel
theorem d109_67 : decode (cc 109) 67 = .ok (.bipush 12, 2) := by decide +kernel
theorem d109_69 : decode (cc 109) 69 = .ok (.iload_n 3, 1) := by decide +kernel
theorem d109_70 : decode (cc 109) 70 = .ok (.imul, 1) := by decide +kernel
theorem d109_71 : decode (cc 109) 71 = .ok (.iload 4, 2) := by decide +kernel
theorem d109_73 : decode (cc 109) 73 = .ok (.iadd, 1) := by decide +kernel
theorem d109_74 : decode (cc 109) 74 = .ok (.laload, 1) := by decide +kernel
theorem d109_75 : decode (cc 109) 75 = .ok (.goto 4, 3) := by decide +kernel
theorem d109_78 : decode (cc 109) 78 = .ok (.lconst 0, 1) := by decide +kernel
theorem d109_79 : decode (cc 109) 79 = .ok (.lstore 6, 2) := by decide +kernel
theorem d109_81 : decode (cc 109) 81 = .ok (.lload 6, 2) := by decide +kernel
theorem d109_83 : decode (cc 109) 83 = .ok (.aload_n 0, 1) := by decide +kernel
theorem d109_84 : decode (cc 109) 84 = .ok (.getfield 40, 3) := by decide +kernel
theorem d109_87 : decode (cc 109) 87 = .ok (.iload_n 1, 1) := by decide +kernel
theorem d109_88 : decode (cc 109) 88 = .ok (.iaload, 1) := by decide +kernel
theorem d109_89 : decode (cc 109) 89 = .ok (.i2l, 1) := by decide +kernel
theorem d109_90 : decode (cc 109) 90 = .ok (.lmul, 1) := by decide +kernel
theorem d109_91 : decode (cc 109) 91 = .ok (.ldc2_w 135, 3) := by decide +kernel
theorem d109_94 : decode (cc 109) 94 = .ok (.aload_n 0, 1) := by decide +kernel
theorem d109_95 : decode (cc 109) 95 = .ok (.getfield 22, 3) := by decide +kernel
theorem d109_98 : decode (cc 109) 98 = .ok (.iload_n 1, 1) := by decide +kernel
theorem d109_99 : decode (cc 109) 99 = .ok (.bipush 12, 2) := by decide +kernel
theorem d109_101 : decode (cc 109) 101 = .ok (.irem, 1) := by decide +kernel
theorem d109_102 : decode (cc 109) 102 = .ok (.iaload, 1) := by decide +kernel
theorem d109_103 : decode (cc 109) 103 = .ok (.i2l, 1) := by decide +kernel
theorem d109_104 : decode (cc 109) 104 = .ok (.ladd, 1) := by decide +kernel
theorem d109_105 : decode (cc 109) 105 = .ok (.lmul, 1) := by decide +kernel
theorem d109_106 : decode (cc 109) 106 = .ok (.ldc2_w 137, 3) := by decide +kernel
theorem d109_109 : decode (cc 109) 109 = .ok (.ladd, 1) := by decide +kernel
theorem d109_110 : decode (cc 109) 110 = .ok (.ldc2_w 135, 3) := by decide +kernel
theorem d109_113 : decode (cc 109) 113 = .ok (.ldiv, 1) := by decide +kernel
theorem d109_114 : decode (cc 109) 114 = .ok (.lreturn, 1) := by decide +kernel
theorem d110_0 : decode (cc 110) 0 = .ok (.aload_n 0, 1) := by decide +kernel
theorem d110_1 : decode (cc 110) 1 = .ok (.iload_n 1, 1) := by decide +kernel
theorem d110_2 : decode (cc 110) 2 = .ok (.invokevirtual 157, 3) := by decide +kernel
theorem d110_5 : decode (cc 110) 5 = .ok (.aload_n 0, 1) := by decide +kernel
theorem d110_6 : decode (cc 110) 6 = .ok (.iload_n 1, 1) := by decide +kernel
theorem d110_7 : decode (cc 110) 7 = .ok (.invokevirtual 160, 3) := by decide +kernel
theorem d110_10 : decode (cc 110) 10 = .ok (.lconst 0, 1) := by decide +kernel
theorem d110_11 : decode (cc 110) 11 = .ok (.lstore_n 2, 1) := by decide +kernel
theorem d110_12 : decode (cc 110) 12 = .ok (.iconst 0, 1) := by decide +kernel
theorem d110_13 : decode (cc 110) 13 = .ok (.istore 4, 2) := by decide +kernel
theorem d110_15 : decode (cc 110) 15 = .ok (.iload 4, 2) := by decide +kernel
theorem d110_17 : decode (cc 110) 17 = .ok (.bipush 12, 2) := by decide +kernel
theorem d110_19 : decode (cc 110) 19 = .ok (.if_icmp .ge 65, 3) := by decide +kernel
theorem d110_22 : decode (cc 110) 22 = .ok (.iload 4, 2) := by decide +kernel
theorem d110_24 : decode (cc 110) 24 = .ok (.aload_n 0, 1) := by decide +kernel
theorem d110_25 : decode (cc 110) 25 = .ok (.getfield 16, 3) := by decide +kernel
theorem d110_28 : decode (cc 110) 28 = .ok (.iload_n 1, 1) := by decide +kernel
theorem d110_29 : decode (cc 110) 29 = .ok (.iaload, 1) := by decide +kernel
theorem d110_30 : decode (cc 110) 30 = .ok (.if_icmp .lt 26, 3) := by decide +kernel
theorem d110_33 : decode (cc 110) 33 = .ok (.aload_n 0, 1) := by decide +kernel
theorem d110_34 : decode (cc 110) 34 = .ok (.getfield 79, 3) := by decide +kernel
theorem d110_37 : decode (cc 110) 37 = .ok (.iload 4, 2) := by decide +kernel
theorem d110_39 : decode (cc 110) 39 = .ok (.laload, 1) := by decide +kernel
theorem d110_40 : decode (cc 110) 40 = .ok (.lload_n 2, 1) := by decide +kernel
theorem d110_41 : decode (cc 110) 41 = .ok (.lcmp, 1) := by decide +kernel
theorem d110_42 : decode (cc 110) 42 = .ok (.ifCond .le 14, 3) := by decide +kernel
theorem d110_45 : decode (cc 110) 45 = .ok (.aload_n 0, 1) := by decide +kernel
theorem d110_46 : decode (cc 110) 46 = .ok (.iload_n 1, 1) := by decide +kernel
theorem d110_47 : decode (cc 110) 47 = .ok (.iload 4, 2) := by decide +kernel
theorem d110_49 : decode (cc 110) 49 = .ok (.lload_n 2, 1) := by decide +kernel
theorem d110_50 : decode (cc 110) 50 = .ok (.invokevirtual 163, 3) := by decide +kernel
theorem d110_53 : decode (cc 110) 53 = .ok (.goto 4, 3) := by decide +kernel
theorem d110_56 : decode (cc 110) 56 = .ok (.lconst 0, 1) := by decide +kernel
theorem d110_57 : decode (cc 110) 57 = .ok (.lstore 5, 2) := by decide +kernel
theorem d110_59 : decode (cc 110) 59 = .ok (.aload_n 0, 1) := by decide +kernel
theorem d110_60 : decode (cc 110) 60 = .ok (.getfield 73, 3) := by decide +kernel
theorem d110_63 : decode (cc 110) 63 = .ok (.bipush 12, 2) := by decide +kernel
theorem d110_65 : decode (cc 110) 65 = .ok (.iload_n 1, 1) := by decide +kernel
theorem d110_66 : decode (cc 110) 66 = .ok (.imul, 1) := by decide +kernel
theorem d110_67 : decode (cc 110) 67 = .ok (.iload 4, 2) := by decide +kernel
theorem d110_69 : decode (cc 110) 69 = .ok (.iadd, 1) := by decide +kernel
theorem d110_70 : decode (cc 110) 70 = .ok (.lload 5, 2) := by decide +kernel
theorem d110_72 : decode (cc 110) 72 = .ok (.lastore, 1) := by decide +kernel
theorem d110_73 : decode (cc 110) 73 = .ok (.lload_n 2, 1) := by decide +kernel
theorem d110_74 : decode (cc 110) 74 = .ok (.lload 5, 2) := by decide +kernel
theorem d110_76 : decode (cc 110) 76 = .ok (.ladd, 1) := by decide +kernel
theorem d110_77 : decode (cc 110) 77 = .ok (.lstore_n 2, 1) := by decide +kernel
theorem d110_78 : decode (cc 110) 78 = .ok (.iinc 4 1, 3) := by decide +kernel
theorem d110_81 : decode (cc 110) 81 = .ok (.goto (-66), 3) := by decide +kernel
theorem d110_84 : decode (cc 110) 84 = .ok (.return_, 1) := by decide +kernel
theorem d111_0 : decode (cc 111) 0 = .ok (.iconst 0, 1) := by decide +kernel
theorem d111_1 : decode (cc 111) 1 = .ok (.istore_n 2, 1) := by decide +kernel
theorem d111_2 : decode (cc 111) 2 = .ok (.iload_n 2, 1) := by decide +kernel
theorem d111_3 : decode (cc 111) 3 = .ok (.bipush 12, 2) := by decide +kernel
theorem d111_5 : decode (cc 111) 5 = .ok (.if_icmp .ge 78, 3) := by decide +kernel
theorem d111_8 : decode (cc 111) 8 = .ok (.lconst 0, 1) := by decide +kernel
theorem d111_9 : decode (cc 111) 9 = .ok (.lstore_n 3, 1) := by decide +kernel
theorem d111_10 : decode (cc 111) 10 = .ok (.iconst 0, 1) := by decide +kernel
theorem d111_11 : decode (cc 111) 11 = .ok (.istore 5, 2) := by decide +kernel
theorem d111_13 : decode (cc 111) 13 = .ok (.iload 5, 2) := by decide +kernel
theorem d111_15 : decode (cc 111) 15 = .ok (.iload_n 2, 1) := by decide +kernel
theorem d111_16 : decode (cc 111) 16 = .ok (.if_icmp .gt 40, 3) := by decide +kernel
theorem d111_19 : decode (cc 111) 19 = .ok (.aload_n 0, 1) := by decide +kernel
theorem d111_20 : decode (cc 111) 20 = .ok (.getfield 19, 3) := by decide +kernel
theorem d111_23 : decode (cc 111) 23 = .ok (.iload_n 1, 1) := by decide +kernel
theorem d111_24 : decode (cc 111) 24 = .ok (.iaload, 1) := by decide +kernel
theorem d111_25 : decode (cc 111) 25 = .ok (.i2l, 1) := by decide +kernel
theorem d111_26 : decode (cc 111) 26 = .ok (.aload_n 0, 1) := by decide +kernel
theorem d111_27 : decode (cc 111) 27 = .ok (.iload_n 1, 1) := by decide +kernel
theorem d111_28 : decode (cc 111) 28 = .ok (.iload 5, 2) := by decide +kernel
theorem d111_30 : decode (cc 111) 30 = .ok (.invokevirtual 143, 3) := by decide +kernel
theorem d111_33 : decode (cc 111) 33 = .ok (.lsub, 1) := by decide +kernel
theorem d111_34 : decode (cc 111) 34 = .ok (.lstore 6, 2) := by decide +kernel
theorem d111_36 : decode (cc 111) 36 = .ok (.lload 6, 2) := by decide +kernel
theorem d111_38 : decode (cc 111) 38 = .ok (.lload_n 3, 1) := by decide +kernel
theorem d111_39 : decode (cc 111) 39 = .ok (.lcmp, 1) := by decide +kernel
theorem d111_40 : decode (cc 111) 40 = .ok (.ifCond .le 8, 3) := by decide +kernel
theorem d111_43 : decode (cc 111) 43 = .ok (.lload 6, 2) := by decide +kernel
theorem d111_45 : decode (cc 111) 45 = .ok (.goto 4, 3) := by decide +kernel
theorem d111_48 : decode (cc 111) 48 = .ok (.lload_n 3, 1) := by decide +kernel
theorem d111_49 : decode (cc 111) 49 = .ok (.lstore_n 3, 1) := by decide +kernel
theorem d111_50 : decode (cc 111) 50 = .ok (.iinc 5 1, 3) := by decide +kernel
theorem d111_53 : decode (cc 111) 53 = .ok (.goto (-40), 3) := by decide +kernel
theorem d111_56 : decode (cc 111) 56 = .ok (.aload_n 0, 1) := by decide +kernel
theorem d111_57 : decode (cc 111) 57 = .ok (.getfield 79, 3) := by decide +kernel
theorem d111_60 : decode (cc 111) 60 = .ok (.iload_n 2, 1) := by decide +kernel
theorem d111_61 : decode (cc 111) 61 = .ok (.iload_n 2, 1) := by decide +kernel
theorem d111_62 : decode (cc 111) 62 = .ok (.aload_n 0, 1) := by decide +kernel
theorem d111_63 : decode (cc 111) 63 = .ok (.getfield 16, 3) := by decide +kernel
theorem d111_66 : decode (cc 111) 66 = .ok (.iload_n 1, 1) := by decide +kernel
theorem d111_67 : decode (cc 111) 67 = .ok (.iaload, 1) := by decide +kernel
theorem d111_68 : decode (cc 111) 68 = .ok (.if_icmp .ge 7, 3) := by decide +kernel
theorem d111_71 : decode (cc 111) 71 = .ok (.lconst 0, 1) := by decide +kernel
theorem d111_72 : decode (cc 111) 72 = .ok (.goto 4, 3) := by decide +kernel
theorem d111_75 : decode (cc 111) 75 = .ok (.lload_n 3, 1) := by decide +kernel
theorem d111_76 : decode (cc 111) 76 = .ok (.lastore, 1) := by decide +kernel
theorem d111_77 : decode (cc 111) 77 = .ok (.iinc 2 1, 3) := by decide +kernel
theorem d111_80 : decode (cc 111) 80 = .ok (.goto (-78), 3) := by decide +kernel
theorem d111_83 : decode (cc 111) 83 = .ok (.return_, 1) := by decide +kernel
theorem d112_0 : decode (cc 112) 0 = .ok (.aload_n 0, 1) := by decide +kernel
theorem d112_1 : decode (cc 112) 1 = .ok (.getfield 31, 3) := by decide +kernel
theorem d112_4 : decode (cc 112) 4 = .ok (.iload_n 1, 1) := by decide +kernel
theorem d112_5 : decode (cc 112) 5 = .ok (.iaload, 1) := by decide +kernel
theorem d112_6 : decode (cc 112) 6 = .ok (.i2l, 1) := by decide +kernel
theorem d112_7 : decode (cc 112) 7 = .ok (.aload_n 0, 1) := by decide +kernel
theorem d112_8 : decode (cc 112) 8 = .ok (.iconst 1, 1) := by decide +kernel
theorem d112_9 : decode (cc 112) 9 = .ok (.iload_n 1, 1) := by decide +kernel
theorem d112_10 : decode (cc 112) 10 = .ok (.iload_n 2, 1) := by decide +kernel
theorem d112_11 : decode (cc 112) 11 = .ok (.invokevirtual 127, 3) := by decide +kernel
theorem d112_14 : decode (cc 112) 14 = .ok (.ladd, 1) := by decide +kernel
theorem d112_15 : decode (cc 112) 15 = .ok (.aload_n 0, 1) := by decide +kernel
theorem d112_16 : decode (cc 112) 16 = .ok (.getfield 69, 3) := by decide +kernel
theorem d112_19 : decode (cc 112) 19 = .ok (.iload_n 1, 1) := by decide +kernel
theorem d112_20 : decode (cc 112) 20 = .ok (.iload_n 2, 1) := by decide +kernel
theorem d112_21 : decode (cc 112) 21 = .ok (.invokestatic 131, 3) := by decide +kernel
theorem d112_24 : decode (cc 112) 24 = .ok (.lsub, 1) := by decide +kernel
theorem d112_25 : decode (cc 112) 25 = .ok (.lreturn, 1) := by decide +kernel
theorem d113_0 : decode (cc 113) 0 = .ok (.lconst 0, 1) := by decide +kernel
theorem d113_1 : decode (cc 113) 1 = .ok (.lstore_n 3, 1) := by decide +kernel
theorem d113_2 : decode (cc 113) 2 = .ok (.iconst 0, 1) := by decide +kernel
theorem d113_3 : decode (cc 113) 3 = .ok (.istore 5, 2) := by decide +kernel
theorem d113_5 : decode (cc 113) 5 = .ok (.iload 5, 2) := by decide +kernel
theorem d113_7 : decode (cc 113) 7 = .ok (.iload_n 2, 1) := by decide +kernel
theorem d113_8 : decode (cc 113) 8 = .ok (.if_icmp .gt 21, 3) := by decide +kernel
theorem d113_11 : decode (cc 113) 11 = .ok (.lload_n 3, 1) := by decide +kernel
theorem d113_12 : decode (cc 113) 12 = .ok (.aload_n 0, 1) := by decide +kernel
theorem d113_13 : decode (cc 113) 13 = .ok (.bipush 12, 2) := by decide +kernel
theorem d113_15 : decode (cc 113) 15 = .ok (.iload_n 1, 1) := by decide +kernel
theorem d113_16 : decode (cc 113) 16 = .ok (.imul, 1) := by decide +kernel
theorem d113_17 : decode (cc 113) 17 = .ok (.iload 5, 2) := by decide +kernel
theorem d113_19 : decode (cc 113) 19 = .ok (.iadd, 1) := by decide +kernel
theorem d113_20 : decode (cc 113) 20 = .ok (.laload, 1) := by decide +kernel
theorem d113_21 : decode (cc 113) 21 = .ok (.ladd, 1) := by decide +kernel
theorem d113_22 : decode (cc 113) 22 = .ok (.lstore_n 3, 1) := by decide +kernel
theorem d113_23 : decode (cc 113) 23 = .ok (.iinc 5 1, 3) := by decide +kernel
theorem d113_26 : decode (cc 113) 26 = .ok (.goto (-21), 3) := by decide +kernel
theorem d113_29 : decode (cc 113) 29 = .ok (.lload_n 3, 1) := by decide +kernel
theorem d113_30 : decode (cc 113) 30 = .ok (.lreturn, 1) := by decide +kernel
theorem d114_0 : decode (cc 114) 0 = .ok (.aload_n 0, 1) := by decide +kernel
theorem d114_1 : decode (cc 114) 1 = .ok (.getfield 82, 3) := by decide +kernel
theorem d114_4 : decode (cc 114) 4 = .ok (.bipush 12, 2) := by decide +kernel
theorem d114_6 : decode (cc 114) 6 = .ok (.lconst 0, 1) := by decide +kernel
theorem d114_7 : decode (cc 114) 7 = .ok (.lastore, 1) := by decide +kernel
theorem d114_8 : decode (cc 114) 8 = .ok (.bipush 11, 2) := by decide +kernel
theorem d114_10 : decode (cc 114) 10 = .ok (.istore_n 2, 1) := by decide +kernel
theorem d114_11 : decode (cc 114) 11 = .ok (.iload_n 2, 1) := by decide +kernel
theorem d114_12 : decode (cc 114) 12 = .ok (.aload_n 0, 1) := by decide +kernel
theorem d114_13 : decode (cc 114) 13 = .ok (.getfield 16, 3) := by decide +kernel
theorem d114_16 : decode (cc 114) 16 = .ok (.iload_n 1, 1) := by decide +kernel
theorem d114_17 : decode (cc 114) 17 = .ok (.iaload, 1) := by decide +kernel
theorem d114_18 : decode (cc 114) 18 = .ok (.if_icmp .lt 65, 3) := by decide +kernel
theorem d114_21 : decode (cc 114) 21 = .ok (.aload_n 0, 1) := by decide +kernel
theorem d114_22 : decode (cc 114) 22 = .ok (.iload_n 1, 1) := by decide +kernel
theorem d114_23 : decode (cc 114) 23 = .ok (.iload_n 2, 1) := by decide +kernel
theorem d114_24 : decode (cc 114) 24 = .ok (.invokevirtual 153, 3) := by decide +kernel
theorem d114_27 : decode (cc 114) 27 = .ok (.istore_n 3, 1) := by decide +kernel
theorem d114_28 : decode (cc 114) 28 = .ok (.aload_n 0, 1) := by decide +kernel
theorem d114_29 : decode (cc 114) 29 = .ok (.getfield 82, 3) := by decide +kernel
theorem d114_32 : decode (cc 114) 32 = .ok (.iload_n 2, 1) := by decide +kernel
theorem d114_33 : decode (cc 114) 33 = .ok (.aload_n 0, 1) := by decide +kernel
theorem d114_34 : decode (cc 114) 34 = .ok (.iload_n 2, 1) := by decide +kernel
theorem d114_35 : decode (cc 114) 35 = .ok (.invokevirtual 146, 3) := by decide +kernel
theorem d114_38 : decode (cc 114) 38 = .ok (.aload_n 0, 1) := by decide +kernel
theorem d114_39 : decode (cc 114) 39 = .ok (.iload_n 2, 1) := by decide +kernel
theorem d114_40 : decode (cc 114) 40 = .ok (.iconst 1, 1) := by decide +kernel
theorem d114_41 : decode (cc 114) 41 = .ok (.isub, 1) := by decide +kernel
theorem d114_42 : decode (cc 114) 42 = .ok (.invokevirtual 146, 3) := by decide +kernel
theorem d114_45 : decode (cc 114) 45 = .ok (.lcmp, 1) := by decide +kernel
theorem d114_46 : decode (cc 114) 46 = .ok (.ifCond .ne 14, 3) := by decide +kernel
theorem d114_49 : decode (cc 114) 49 = .ok (.aload_n 0, 1) := by decide +kernel
theorem d114_50 : decode (cc 114) 50 = .ok (.getfield 82, 3) := by decide +kernel
theorem d114_53 : decode (cc 114) 53 = .ok (.iload_n 2, 1) := by decide +kernel
theorem d114_54 : decode (cc 114) 54 = .ok (.iconst 1, 1) := by decide +kernel
theorem d114_55 : decode (cc 114) 55 = .ok (.iadd, 1) := by decide +kernel
theorem d114_56 : decode (cc 114) 56 = .ok (.laload, 1) := by decide +kernel
theorem d114_57 : decode (cc 114) 57 = .ok (.goto 19, 3) := by decide +kernel
theorem d114_60 : decode (cc 114) 60 = .ok (.aload_n 0, 1) := by decide +kernel
theorem d114_61 : decode (cc 114) 61 = .ok (.iload_n 1, 1) := by decide +kernel
theorem d114_62 : decode (cc 114) 62 = .ok (.iload_n 2, 1) := by decide +kernel
theorem d114_63 : decode (cc 114) 63 = .ok (.iload_n 3, 1) := by decide +kernel
theorem d114_64 : decode (cc 114) 64 = .ok (.invokevirtual 150, 3) := by decide +kernel
theorem d114_67 : decode (cc 114) 67 = .ok (.aload_n 0, 1) := by decide +kernel
theorem d114_68 : decode (cc 114) 68 = .ok (.getfield 82, 3) := by decide +kernel
theorem d114_71 : decode (cc 114) 71 = .ok (.iload_n 3, 1) := by decide +kernel
theorem d114_72 : decode (cc 114) 72 = .ok (.iconst 1, 1) := by decide +kernel
theorem d114_73 : decode (cc 114) 73 = .ok (.iadd, 1) := by decide +kernel
theorem d114_74 : decode (cc 114) 74 = .ok (.laload, 1) := by decide +kernel
theorem d114_75 : decode (cc 114) 75 = .ok (.ladd, 1) := by decide +kernel
theorem d114_76 : decode (cc 114) 76 = .ok (.lastore, 1) := by decide +kernel
theorem d114_77 : decode (cc 114) 77 = .ok (.iinc 2 (-1), 3) := by decide +kernel
theorem d114_80 : decode (cc 114) 80 = .ok (.goto (-69), 3) := by decide +kernel
theorem d114_83 : decode (cc 114) 83 = .ok (.return_, 1) := by decide +kernel
theorem d115_0 : decode (cc 115) 0 = .ok (.iload_n 2, 1) := by decide +kernel
theorem d115_1 : decode (cc 115) 1 = .ok (.istore_n 3, 1) := by decide +kernel
theorem d115_2 : decode (cc 115) 2 = .ok (.iload_n 2, 1) := by decide +kernel
theorem d115_3 : decode (cc 115) 3 = .ok (.istore 4, 2) := by decide +kernel
theorem d115_5 : decode (cc 115) 5 = .ok (.iload 4, 2) := by decide +kernel
theorem d115_7 : decode (cc 115) 7 = .ok (.bipush 12, 2) := by decide +kernel
theorem d115_9 : decode (cc 115) 9 = .ok (.if_icmp .ge 54, 3) := by decide +kernel
theorem d115_12 : decode (cc 115) 12 = .ok (.aload_n 0, 1) := by decide +kernel
theorem d115_13 : decode (cc 115) 13 = .ok (.iload_n 1, 1) := by decide +kernel
theorem d115_14 : decode (cc 115) 14 = .ok (.iload_n 2, 1) := by decide +kernel
theorem d115_15 : decode (cc 115) 15 = .ok (.iload 4, 2) := by decide +kernel
theorem d115_17 : decode (cc 115) 17 = .ok (.invokevirtual 150, 3) := by decide +kernel
theorem d115_20 : decode (cc 115) 20 = .ok (.aload_n 0, 1) := by decide +kernel
theorem d115_21 : decode (cc 115) 21 = .ok (.getfield 82, 3) := by decide +kernel
theorem d115_24 : decode (cc 115) 24 = .ok (.iload 4, 2) := by decide +kernel
theorem d115_26 : decode (cc 115) 26 = .ok (.iconst 1, 1) := by decide +kernel
theorem d115_27 : decode (cc 115) 27 = .ok (.iadd, 1) := by decide +kernel
theorem d115_28 : decode (cc 115) 28 = .ok (.laload, 1) := by decide +kernel
theorem d115_29 : decode (cc 115) 29 = .ok (.ladd, 1) := by decide +kernel
theorem d115_30 : decode (cc 115) 30 = .ok (.aload_n 0, 1) := by decide +kernel
theorem d115_31 : decode (cc 115) 31 = .ok (.iload_n 1, 1) := by decide +kernel
theorem d115_32 : decode (cc 115) 32 = .ok (.iload_n 2, 1) := by decide +kernel
theorem d115_33 : decode (cc 115) 33 = .ok (.iload_n 3, 1) := by decide +kernel
theorem d115_34 : decode (cc 115) 34 = .ok (.invokevirtual 150, 3) := by decide +kernel
theorem d115_37 : decode (cc 115) 37 = .ok (.aload_n 0, 1) := by decide +kernel
theorem d115_38 : decode (cc 115) 38 = .ok (.getfield 82, 3) := by decide +kernel
theorem d115_41 : decode (cc 115) 41 = .ok (.iload_n 3, 1) := by decide +kernel
theorem d115_42 : decode (cc 115) 42 = .ok (.iconst 1, 1) := by decide +kernel
theorem d115_43 : decode (cc 115) 43 = .ok (.iadd, 1) := by decide +kernel
theorem d115_44 : decode (cc 115) 44 = .ok (.laload, 1) := by decide +kernel
theorem d115_45 : decode (cc 115) 45 = .ok (.ladd, 1) := by decide +kernel
theorem d115_46 : decode (cc 115) 46 = .ok (.lcmp, 1) := by decide +kernel
theorem d115_47 : decode (cc 115) 47 = .ok (.ifCond .ge 8, 3) := by decide +kernel
theorem d115_50 : decode (cc 115) 50 = .ok (.iload 4, 2) := by decide +kernel
theorem d115_52 : decode (cc 115) 52 = .ok (.goto 4, 3) := by decide +kernel
theorem d115_55 : decode (cc 115) 55 = .ok (.iload_n 3, 1) := by decide +kernel
theorem d115_56 : decode (cc 115) 56 = .ok (.istore_n 3, 1) := by decide +kernel
theorem d115_57 : decode (cc 115) 57 = .ok (.iinc 4 1, 3) := by decide +kernel
theorem d115_60 : decode (cc 115) 60 = .ok (.goto (-55), 3) := by decide +kernel
theorem d115_63 : decode (cc 115) 63 = .ok (.iload_n 3, 1) := by decide +kernel
theorem d115_64 : decode (cc 115) 64 = .ok (.ireturn, 1) := by decide +kernel
theorem d116_0 : decode (cc 116) 0 = .ok (.lconst 0, 1) := by decide +kernel
theorem d116_1 : decode (cc 116) 1 = .ok (.lstore 4, 2) := by decide +kernel
theorem d116_3 : decode (cc 116) 3 = .ok (.iload_n 2, 1) := by decide +kernel
theorem d116_4 : decode (cc 116) 4 = .ok (.iconst 1, 1) := by decide +kernel
theorem d116_5 : decode (cc 116) 5 = .ok (.iadd, 1) := by decide +kernel
theorem d116_6 : decode (cc 116) 6 = .ok (.istore 6, 2) := by decide +kernel
theorem d116_8 : decode (cc 116) 8 = .ok (.iload 6, 2) := by decide +kernel
theorem d116_10 : decode (cc 116) 10 = .ok (.iload_n 3, 1) := by decide +kernel
theorem d116_11 : decode (cc 116) 11 = .ok (.if_icmp .gt 35, 3) := by decide +kernel
theorem d116_14 : decode (cc 116) 14 = .ok (.lload 4, 2) := by decide +kernel
theorem d116_16 : decode (cc 116) 16 = .ok (.iload 6, 2) := by decide +kernel
theorem d116_18 : decode (cc 116) 18 = .ok (.iload_n 2, 1) := by decide +kernel
theorem d116_19 : decode (cc 116) 19 = .ok (.isub, 1) := by decide +kernel
theorem d116_20 : decode (cc 116) 20 = .ok (.i2l, 1) := by decide +kernel
theorem d116_21 : decode (cc 116) 21 = .ok (.aload_n 0, 1) := by decide +kernel
theorem d116_22 : decode (cc 116) 22 = .ok (.iload 6, 2) := by decide +kernel
theorem d116_24 : decode (cc 116) 24 = .ok (.invokevirtual 146, 3) := by decide +kernel
theorem d116_27 : decode (cc 116) 27 = .ok (.aload_n 0, 1) := by decide +kernel
theorem d116_28 : decode (cc 116) 28 = .ok (.iload 6, 2) := by decide +kernel
theorem d116_30 : decode (cc 116) 30 = .ok (.iconst 1, 1) := by decide +kernel
theorem d116_31 : decode (cc 116) 31 = .ok (.isub, 1) := by decide +kernel
theorem d116_32 : decode (cc 116) 32 = .ok (.invokevirtual 146, 3) := by decide +kernel
theorem d116_35 : decode (cc 116) 35 = .ok (.lsub, 1) := by decide +kernel
theorem d116_36 : decode (cc 116) 36 = .ok (.lmul, 1) := by decide +kernel
theorem d116_37 : decode (cc 116) 37 = .ok (.ladd, 1) := by decide +kernel
theorem d116_38 : decode (cc 116) 38 = .ok (.lstore 4, 2) := by decide +kernel
theorem d116_40 : decode (cc 116) 40 = .ok (.iinc 6 1, 3) := by decide +kernel
theorem d116_43 : decode (cc 116) 43 = .ok (.goto (-35), 3) := by decide +kernel
theorem d116_46 : decode (cc 116) 46 = .ok (.aload_n 0, 1) := by decide +kernel
theorem d116_47 : decode (cc 116) 47 = .ok (.getfield 25, 3) := by decide +kernel
theorem d116_50 : decode (cc 116) 50 = .ok (.iload_n 1, 1) := by decide +kernel
theorem d116_51 : decode (cc 116) 51 = .ok (.iaload, 1) := by decide +kernel
theorem d116_52 : decode (cc 116) 52 = .ok (.i2l, 1) := by decide +kernel
theorem d116_53 : decode (cc 116) 53 = .ok (.aload_n 0, 1) := by decide +kernel
theorem d116_54 : decode (cc 116) 54 = .ok (.getfield 28, 3) := by decide +kernel
theorem d116_57 : decode (cc 116) 57 = .ok (.iload_n 1, 1) := by decide +kernel
theorem d116_58 : decode (cc 116) 58 = .ok (.iaload, 1) := by decide +kernel
theorem d116_59 : decode (cc 116) 59 = .ok (.i2l, 1) := by decide +kernel
theorem d116_60 : decode (cc 116) 60 = .ok (.lload 4, 2) := by decide +kernel
theorem d116_62 : decode (cc 116) 62 = .ok (.lmul, 1) := by decide +kernel
theorem d116_63 : decode (cc 116) 63 = .ok (.ladd, 1) := by decide +kernel
theorem d116_64 : decode (cc 116) 64 = .ok (.lreturn, 1) := by decide +kernel
theorem d117_0 : decode (cc 117) 0 = .ok (.iload_n 1, 1) := by decide +kernel
theorem d117_1 : decode (cc 117) 1 = .ok (.ifCond .ge 7, 3) := by decide +kernel
theorem d117_4 : decode (cc 117) 4 = .ok (.lconst 0, 1) := by decide +kernel
theorem d117_5 : decode (cc 117) 5 = .ok (.goto 9, 3) := by decide +kernel
theorem d117_8 : decode (cc 117) 8 = .ok (.aload_n 0, 1) := by decide +kernel
theorem d117_9 : decode (cc 117) 9 = .ok (.getfield 79, 3) := by decide +kernel
theorem d117_12 : decode (cc 117) 12 = .ok (.iload_n 1, 1) := by decide +kernel
theorem d117_13 : decode (cc 117) 13 = .ok (.laload, 1) := by decide +kernel
theorem d117_14 : decode (cc 117) 14 = .ok (.lreturn, 1) := by decide +kernel
theorem d118_0 : decode (cc 118) 0 = .ok (.aload_n 0, 1) := by decide +kernel
theorem d118_1 : decode (cc 118) 1 = .ok (.getfield 79, 3) := by decide +kernel
theorem d118_4 : decode (cc 118) 4 = .ok (.iload_n 2, 1) := by decide +kernel
theorem d118_5 : decode (cc 118) 5 = .ok (.laload, 1) := by decide +kernel
theorem d118_6 : decode (cc 118) 6 = .ok (.lload_n 3, 1) := by decide +kernel
theorem d118_7 : decode (cc 118) 7 = .ok (.lsub, 1) := by decide +kernel
theorem d118_8 : decode (cc 118) 8 = .ok (.lstore 5, 2) := by decide +kernel
theorem d118_10 : decode (cc 118) 10 = .ok (.aload_n 0, 1) := by decide +kernel
theorem d118_11 : decode (cc 118) 11 = .ok (.getfield 7, 3) := by decide +kernel
theorem d118_14 : decode (cc 118) 14 = .ok (.iload_n 1, 1) := by decide +kernel
theorem d118_15 : decode (cc 118) 15 = .ok (.iaload, 1) := by decide +kernel
theorem d118_16 : decode (cc 118) 16 = .ok (.tableswitch 98 0 2 #[28, 31, 60], 28) := by decide +kernel
theorem d118_44 : decode (cc 118) 44 = .ok (.lload 5, 2) := by decide +kernel
theorem d118_46 : decode (cc 118) 46 = .ok (.lreturn, 1) := by decide +kernel
theorem d118_47 : decode (cc 118) 47 = .ok (.lload 5, 2) := by decide +kernel
theorem d118_49 : decode (cc 118) 49 = .ok (.aload_n 0, 1) := by decide +kernel
theorem d118_50 : decode (cc 118) 50 = .ok (.getfield 13, 3) := by decide +kernel
theorem d118_53 : decode (cc 118) 53 = .ok (.iload_n 1, 1) := by decide +kernel
theorem d118_54 : decode (cc 118) 54 = .ok (.iaload, 1) := by decide +kernel
theorem d118_55 : decode (cc 118) 55 = .ok (.i2l, 1) := by decide +kernel
theorem d118_56 : decode (cc 118) 56 = .ok (.ladd, 1) := by decide +kernel
theorem d118_57 : decode (cc 118) 57 = .ok (.lconst 1, 1) := by decide +kernel
theorem d118_58 : decode (cc 118) 58 = .ok (.lsub, 1) := by decide +kernel
theorem d118_59 : decode (cc 118) 59 = .ok (.aload_n 0, 1) := by decide +kernel
theorem d118_60 : decode (cc 118) 60 = .ok (.getfield 13, 3) := by decide +kernel
theorem d118_63 : decode (cc 118) 63 = .ok (.iload_n 1, 1) := by decide +kernel
theorem d118_64 : decode (cc 118) 64 = .ok (.iaload, 1) := by decide +kernel
theorem d118_65 : decode (cc 118) 65 = .ok (.i2l, 1) := by decide +kernel
theorem d118_66 : decode (cc 118) 66 = .ok (.ldiv, 1) := by decide +kernel
theorem d118_67 : decode (cc 118) 67 = .ok (.aload_n 0, 1) := by decide +kernel
theorem d118_68 : decode (cc 118) 68 = .ok (.getfield 13, 3) := by decide +kernel
theorem d118_71 : decode (cc 118) 71 = .ok (.iload_n 1, 1) := by decide +kernel
theorem d118_72 : decode (cc 118) 72 = .ok (.iaload, 1) := by decide +kernel
theorem d118_73 : decode (cc 118) 73 = .ok (.i2l, 1) := by decide +kernel
theorem d118_74 : decode (cc 118) 74 = .ok (.lmul, 1) := by decide +kernel
theorem d118_75 : decode (cc 118) 75 = .ok (.lreturn, 1) := by decide +kernel
theorem d118_76 : decode (cc 118) 76 = .ok (.aload_n 0, 1) := by decide +kernel
theorem d118_77 : decode (cc 118) 77 = .ok (.getfield 79, 3) := by decide +kernel
theorem d118_80 : decode (cc 118) 80 = .ok (.iload_n 2, 1) := by decide +kernel
theorem d118_81 : decode (cc 118) 81 = .ok (.aload_n 0, 1) := by decide +kernel
theorem d118_82 : decode (cc 118) 82 = .ok (.getfield 13, 3) := by decide +kernel
theorem d118_85 : decode (cc 118) 85 = .ok (.iload_n 1, 1) := by decide +kernel
theorem d118_86 : decode (cc 118) 86 = .ok (.iaload, 1) := by decide +kernel
theorem d118_87 : decode (cc 118) 87 = .ok (.iadd, 1) := by decide +kernel
theorem d118_88 : decode (cc 118) 88 = .ok (.iconst 1, 1) := by decide +kernel
theorem d118_89 : decode (cc 118) 89 = .ok (.isub, 1) := by decide +kernel
theorem d118_90 : decode (cc 118) 90 = .ok (.bipush 12, 2) := by decide +kernel
theorem d118_92 : decode (cc 118) 92 = .ok (.if_icmp .ge 16, 3) := by decide +kernel
theorem d118_95 : decode (cc 118) 95 = .ok (.iload_n 2, 1) := by decide +kernel
theorem d118_96 : decode (cc 118) 96 = .ok (.aload_n 0, 1) := by decide +kernel
theorem d118_97 : decode (cc 118) 97 = .ok (.getfield 13, 3) := by decide +kernel
theorem d118_100 : decode (cc 118) 100 = .ok (.iload_n 1, 1) := by decide +kernel
theorem d118_101 : decode (cc 118) 101 = .ok (.iaload, 1) := by decide +kernel
theorem d118_102 : decode (cc 118) 102 = .ok (.iadd, 1) := by decide +kernel
theorem d118_103 : decode (cc 118) 103 = .ok (.iconst 1, 1) := by decide +kernel
theorem d118_104 : decode (cc 118) 104 = .ok (.isub, 1) := by decide +kernel
theorem d118_105 : decode (cc 118) 105 = .ok (.goto 5, 3) := by decide +kernel
theorem d118_108 : decode (cc 118) 108 = .ok (.bipush 11, 2) := by decide +kernel
theorem d118_110 : decode (cc 118) 110 = .ok (.laload, 1) := by decide +kernel
theorem d118_111 : decode (cc 118) 111 = .ok (.lload_n 3, 1) := by decide +kernel
theorem d118_112 : decode (cc 118) 112 = .ok (.lsub, 1) := by decide +kernel
theorem d118_113 : decode (cc 118) 113 = .ok (.lreturn, 1) := by decide +kernel
theorem d118_114 : decode (cc 118) 114 = .ok (.aload_n 0, 1) := by decide +kernel
theorem d118_115 : decode (cc 118) 115 = .ok (.getfield 79, 3) := by decide +kernel
theorem d118_118 : decode (cc 118) 118 = .ok (.aload_n 0, 1) := by decide +kernel
theorem d118_119 : decode (cc 118) 119 = .ok (.iload_n 1, 1) := by decide +kernel
theorem d118_120 : decode (cc 118) 120 = .ok (.iload_n 2, 1) := by decide +kernel
theorem d118_121 : decode (cc 118) 121 = .ok (.invokevirtual 153, 3) := by decide +kernel
theorem d118_124 : decode (cc 118) 124 = .ok (.laload, 1) := by decide +kernel
theorem d118_125 : decode (cc 118) 125 = .ok (.lload_n 3, 1) := by decide +kernel
theorem d118_126 : decode (cc 118) 126 = .ok (.lsub, 1) := by decide +kernel
theorem d118_127 : decode (cc 118) 127 = .ok (.lreturn, 1) := by decide +kernel
theorem d119_0 : decode (cc 119) 0 = .ok (.aload_n 0, 1) := by decide +kernel
theorem d119_1 : decode (cc 119) 1 = .ok (.iload_n 1, 1) := by decide +kernel
theorem d119_2 : decode (cc 119) 2 = .ok (.invokestatic 93, 3) := by decide +kernel
theorem d119_5 : decode (cc 119) 5 = .ok (.ifCond .eq 7, 3) := by decide +kernel
theorem d119_8 : decode (cc 119) 8 = .ok (.iconst 0, 1) := by decide +kernel
theorem d119_9 : decode (cc 119) 9 = .ok (.goto 4, 3) := by decide +kernel
theorem d119_12 : decode (cc 119) 12 = .ok (.iconst 1, 1) := by decide +kernel
theorem d119_13 : decode (cc 119) 13 = .ok (.invokevirtual 97, 3) := by decide +kernel
theorem d119_16 : decode (cc 119) 16 = .ok (.ifCond .eq 7, 3) := by decide +kernel
theorem d119_19 : decode (cc 119) 19 = .ok (.iconst 0, 1) := by decide +kernel
theorem d119_20 : decode (cc 119) 20 = .ok (.goto 8, 3) := by decide +kernel
theorem d119_23 : decode (cc 119) 23 = .ok (.aload_n 0, 1) := by decide +kernel
theorem d119_24 : decode (cc 119) 24 = .ok (.iload_n 1, 1) := by decide +kernel
theorem d119_25 : decode (cc 119) 25 = .ok (.invokevirtual 105, 3) := by decide +kernel
theorem d119_28 : decode (cc 119) 28 = .ok (.ireturn, 1) := by decide +kernel
theorem d120_0 : decode (cc 120) 0 = .ok (.aload_n 0, 1) := by decide +kernel
theorem d120_1 : decode (cc 120) 1 = .ok (.iload_n 1, 1) := by decide +kernel
theorem d120_2 : decode (cc 120) 2 = .ok (.iload_n 2, 1) := by decide +kernel
theorem d120_3 : decode (cc 120) 3 = .ok (.invokevirtual 179, 3) := by decide +kernel
theorem d120_6 : decode (cc 120) 6 = .ok (.ifCond .eq 7, 3) := by decide +kernel
theorem d120_9 : decode (cc 120) 9 = .ok (.lconst 0, 1) := by decide +kernel
theorem d120_10 : decode (cc 120) 10 = .ok (.goto 14, 3) := by decide +kernel
theorem d120_13 : decode (cc 120) 13 = .ok (.aload_n 0, 1) := by decide +kernel
theorem d120_14 : decode (cc 120) 14 = .ok (.getfield 69, 3) := by decide +kernel
theorem d120_17 : decode (cc 120) 17 = .ok (.bipush 12, 2) := by decide +kernel
theorem d120_19 : decode (cc 120) 19 = .ok (.iload_n 1, 1) := by decide +kernel
theorem d120_20 : decode (cc 120) 20 = .ok (.imul, 1) := by decide +kernel
theorem d120_21 : decode (cc 120) 21 = .ok (.iload_n 2, 1) := by decide +kernel
theorem d120_22 : decode (cc 120) 22 = .ok (.iadd, 1) := by decide +kernel
theorem d120_23 : decode (cc 120) 23 = .ok (.laload, 1) := by decide +kernel
theorem d120_24 : decode (cc 120) 24 = .ok (.lreturn, 1) := by decide +kernel
theorem d121_0 : decode (cc 121) 0 = .ok (.aload_n 0, 1) := by decide +kernel
theorem d121_1 : decode (cc 121) 1 = .ok (.iload_n 1, 1) := by decide +kernel
theorem d121_2 : decode (cc 121) 2 = .ok (.invokestatic 93, 3) := by decide +kernel
theorem d121_5 : decode (cc 121) 5 = .ok (.ifCond .eq 10, 3) := by decide +kernel
theorem d121_8 : decode (cc 121) 8 = .ok (.iload_n 2, 1) := by decide +kernel
theorem d121_9 : decode (cc 121) 9 = .ok (.invokestatic 93, 3) := by decide +kernel
theorem d121_12 : decode (cc 121) 12 = .ok (.ifCond .ne 7, 3) := by decide +kernel
theorem d121_15 : decode (cc 121) 15 = .ok (.iconst 1, 1) := by decide +kernel
theorem d121_16 : decode (cc 121) 16 = .ok (.goto 15, 3) := by decide +kernel
theorem d121_19 : decode (cc 121) 19 = .ok (.aload_n 0, 1) := by decide +kernel
theorem d121_20 : decode (cc 121) 20 = .ok (.getfield 61, 3) := by decide +kernel
theorem d121_23 : decode (cc 121) 23 = .ok (.ifCond .eq 7, 3) := by decide +kernel
theorem d121_26 : decode (cc 121) 26 = .ok (.iconst 2, 1) := by decide +kernel
theorem d121_27 : decode (cc 121) 27 = .ok (.goto 4, 3) := by decide +kernel
theorem d121_30 : decode (cc 121) 30 = .ok (.iconst 0, 1) := by decide +kernel
theorem d121_31 : decode (cc 121) 31 = .ok (.invokevirtual 97, 3) := by decide +kernel
theorem d121_34 : decode (cc 121) 34 = .ok (.ireturn, 1) := by decide +kernel
theorem d122_0 : decode (cc 122) 0 = .ok (.aload_n 0, 1) := by decide +kernel
theorem d122_1 : decode (cc 122) 1 = .ok (.iload_n 1, 1) := by decide +kernel
theorem d122_2 : decode (cc 122) 2 = .ok (.iload_n 2, 1) := by decide +kernel
theorem d122_3 : decode (cc 122) 3 = .ok (.invokevirtual 179, 3) := by decide +kernel
theorem d122_6 : decode (cc 122) 6 = .ok (.ifCond .eq 7, 3) := by decide +kernel
theorem d122_9 : decode (cc 122) 9 = .ok (.lconst 0, 1) := by decide +kernel
theorem d122_10 : decode (cc 122) 10 = .ok (.goto 14, 3) := by decide +kernel
theorem d122_13 : decode (cc 122) 13 = .ok (.aload_n 0, 1) := by decide +kernel
theorem d122_14 : decode (cc 122) 14 = .ok (.getfield 73, 3) := by decide +kernel
theorem d122_17 : decode (cc 122) 17 = .ok (.bipush 12, 2) := by decide +kernel
theorem d122_19 : decode (cc 122) 19 = .ok (.iload_n 1, 1) := by decide +kernel
theorem d122_20 : decode (cc 122) 20 = .ok (.imul, 1) := by decide +kernel
theorem d122_21 : decode (cc 122) 21 = .ok (.iload_n 2, 1) := by decide +kernel
theorem d122_22 : decode (cc 122) 22 = .ok (.iadd, 1) := by decide +kernel
theorem d122_23 : decode (cc 122) 23 = .ok (.laload, 1) := by decide +kernel
theorem d122_24 : decode (cc 122) 24 = .ok (.lreturn, 1) := by decide +kernel
theorem d123_0 : decode (cc 123) 0 = .ok (.aload_n 0, 1) := by decide +kernel
theorem d123_1 : decode (cc 123) 1 = .ok (.iload_n 1, 1) := by decide +kernel
theorem d123_2 : decode (cc 123) 2 = .ok (.iload_n 2, 1) := by decide +kernel
theorem d123_3 : decode (cc 123) 3 = .ok (.invokevirtual 179, 3) := by decide +kernel
theorem d123_6 : decode (cc 123) 6 = .ok (.ifCond .eq 7, 3) := by decide +kernel
theorem d123_9 : decode (cc 123) 9 = .ok (.lconst 0, 1) := by decide +kernel
theorem d123_10 : decode (cc 123) 10 = .ok (.goto 19, 3) := by decide +kernel
theorem d123_13 : decode (cc 123) 13 = .ok (.aload_n 0, 1) := by decide +kernel
theorem d123_14 : decode (cc 123) 14 = .ok (.iload_n 1, 1) := by decide +kernel
theorem d123_15 : decode (cc 123) 15 = .ok (.iload_n 2, 1) := by decide +kernel
theorem d123_16 : decode (cc 123) 16 = .ok (.invokevirtual 143, 3) := by decide +kernel
theorem d123_19 : decode (cc 123) 19 = .ok (.aload_n 0, 1) := by decide +kernel
theorem d123_20 : decode (cc 123) 20 = .ok (.getfield 73, 3) := by decide +kernel
theorem d123_23 : decode (cc 123) 23 = .ok (.iload_n 1, 1) := by decide +kernel
theorem d123_24 : decode (cc 123) 24 = .ok (.iload_n 2, 1) := by decide +kernel
theorem d123_25 : decode (cc 123) 25 = .ok (.invokestatic 131, 3) := by decide +kernel
theorem d123_28 : decode (cc 123) 28 = .ok (.ladd, 1) := by decide +kernel
theorem d123_29 : decode (cc 123) 29 = .ok (.lreturn, 1) := by decide +kernel
theorem d124_0 : decode (cc 124) 0 = .ok (.iload_n 1, 1) := by decide +kernel
theorem d124_1 : decode (cc 124) 1 = .ok (.iconst 0, 1) := by decide +kernel
theorem d124_2 : decode (cc 124) 2 = .ok (.aload_n 0, 1) := by decide +kernel
theorem d124_3 : decode (cc 124) 3 = .ok (.getfield 49, 3) := by decide +kernel
theorem d124_6 : decode (cc 124) 6 = .ok (.iconst 0, 1) := by decide +kernel
theorem d124_7 : decode (cc 124) 7 = .ok (.iaload, 1) := by decide +kernel
theorem d124_8 : decode (cc 124) 8 = .ok (.iconst 1, 1) := by decide +kernel
theorem d124_9 : decode (cc 124) 9 = .ok (.isub, 1) := by decide +kernel
theorem d124_10 : decode (cc 124) 10 = .ok (.invokestatic 89, 3) := by decide +kernel
theorem d124_13 : decode (cc 124) 13 = .ok (.istore 4, 2) := by decide +kernel
theorem d124_15 : decode (cc 124) 15 = .ok (.iload_n 2, 1) := by decide +kernel
theorem d124_16 : decode (cc 124) 16 = .ok (.ifCond .eq 34, 3) := by decide +kernel
theorem d124_19 : decode (cc 124) 19 = .ok (.iload_n 2, 1) := by decide +kernel
theorem d124_20 : decode (cc 124) 20 = .ok (.iconst 1, 1) := by decide +kernel
theorem d124_21 : decode (cc 124) 21 = .ok (.if_icmp .ne 22, 3) := by decide +kernel
theorem d124_24 : decode (cc 124) 24 = .ok (.iload_n 3, 1) := by decide +kernel
theorem d124_25 : decode (cc 124) 25 = .ok (.iconst 0, 1) := by decide +kernel
theorem d124_26 : decode (cc 124) 26 = .ok (.aload_n 0, 1) := by decide +kernel
theorem d124_27 : decode (cc 124) 27 = .ok (.getfield 49, 3) := by decide +kernel
theorem d124_30 : decode (cc 124) 30 = .ok (.iconst 1, 1) := by decide +kernel
theorem d124_31 : decode (cc 124) 31 = .ok (.iaload, 1) := by decide +kernel
theorem d124_32 : decode (cc 124) 32 = .ok (.iconst 1, 1) := by decide +kernel
theorem d124_33 : decode (cc 124) 33 = .ok (.isub, 1) := by decide +kernel
theorem d124_34 : decode (cc 124) 34 = .ok (.invokestatic 89, 3) := by decide +kernel
theorem d124_37 : decode (cc 124) 37 = .ok (.ifCond .eq 17, 3) := by decide +kernel
theorem d124_40 : decode (cc 124) 40 = .ok (.goto 10, 3) := by decide +kernel
theorem d124_43 : decode (cc 124) 43 = .ok (.iload_n 3, 1) := by decide +kernel
theorem d124_44 : decode (cc 124) 44 = .ok (.invokestatic 93, 3) := by decide +kernel
theorem d124_47 : decode (cc 124) 47 = .ok (.ifCond .eq 7, 3) := by decide +kernel
theorem d124_50 : decode (cc 124) 50 = .ok (.iconst 1, 1) := by decide +kernel
theorem d124_51 : decode (cc 124) 51 = .ok (.goto 4, 3) := by decide +kernel
theorem d124_54 : decode (cc 124) 54 = .ok (.iconst 0, 1) := by decide +kernel
theorem d124_55 : decode (cc 124) 55 = .ok (.istore 5, 2) := by decide +kernel
theorem d124_57 : decode (cc 124) 57 = .ok (.aload_n 0, 1) := by decide +kernel
theorem d124_58 : decode (cc 124) 58 = .ok (.iload 4, 2) := by decide +kernel
theorem d124_60 : decode (cc 124) 60 = .ok (.ifCond .ne 7, 3) := by decide +kernel
theorem d124_63 : decode (cc 124) 63 = .ok (.iconst 1, 1) := by decide +kernel
theorem d124_64 : decode (cc 124) 64 = .ok (.goto 37, 3) := by decide +kernel
theorem d124_67 : decode (cc 124) 67 = .ok (.iload_n 2, 1) := by decide +kernel
theorem d124_68 : decode (cc 124) 68 = .ok (.iconst 0, 1) := by decide +kernel
theorem d124_69 : decode (cc 124) 69 = .ok (.iconst 2, 1) := by decide +kernel
theorem d124_70 : decode (cc 124) 70 = .ok (.invokestatic 89, 3) := by decide +kernel
theorem d124_73 : decode (cc 124) 73 = .ok (.ifCond .ne 7, 3) := by decide +kernel
theorem d124_76 : decode (cc 124) 76 = .ok (.iconst 2, 1) := by decide +kernel
theorem d124_77 : decode (cc 124) 77 = .ok (.goto 24, 3) := by decide +kernel
theorem d124_80 : decode (cc 124) 80 = .ok (.iload 5, 2) := by decide +kernel
theorem d124_82 : decode (cc 124) 82 = .ok (.ifCond .ne 7, 3) := by decide +kernel
theorem d124_85 : decode (cc 124) 85 = .ok (.iconst 1, 1) := by decide +kernel
theorem d124_86 : decode (cc 124) 86 = .ok (.goto 15, 3) := by decide +kernel
theorem d124_89 : decode (cc 124) 89 = .ok (.aload_n 0, 1) := by decide +kernel
theorem d124_90 : decode (cc 124) 90 = .ok (.getfield 61, 3) := by decide +kernel
theorem d124_93 : decode (cc 124) 93 = .ok (.ifCond .eq 7, 3) := by decide +kernel
theorem d124_96 : decode (cc 124) 96 = .ok (.iconst 3, 1) := by decide +kernel
theorem d124_97 : decode (cc 124) 97 = .ok (.goto 4, 3) := by decide +kernel
theorem d124_100 : decode (cc 124) 100 = .ok (.iconst 0, 1) := by decide +kernel
theorem d124_101 : decode (cc 124) 101 = .ok (.invokevirtual 97, 3) := by decide +kernel
theorem d124_104 : decode (cc 124) 104 = .ok (.ifCond .eq 5, 3) := by decide +kernel
theorem d124_107 : decode (cc 124) 107 = .ok (.lconst 0, 1) := by decide +kernel
theorem d124_108 : decode (cc 124) 108 = .ok (.lreturn, 1) := by decide +kernel
theorem d124_109 : decode (cc 124) 109 = .ok (.aload_n 0, 1) := by decide +kernel
theorem d124_110 : decode (cc 124) 110 = .ok (.getfield 52, 3) := by decide +kernel
theorem d124_113 : decode (cc 124) 113 = .ok (.iload_n 1, 1) := by decide +kernel
theorem d124_114 : decode (cc 124) 114 = .ok (.iaload, 1) := by decide +kernel
theorem d124_115 : decode (cc 124) 115 = .ok (.istore 6, 2) := by decide +kernel
theorem d124_117 : decode (cc 124) 117 = .ok (.iload_n 2, 1) := by decide +kernel
theorem d124_118 : decode (cc 124) 118 = .ok (.iconst 1, 1) := by decide +kernel
theorem d124_119 : decode (cc 124) 119 = .ok (.if_icmp .ne 19, 3) := by decide +kernel
theorem d124_122 : decode (cc 124) 122 = .ok (.aload_n 0, 1) := by decide +kernel
theorem d124_123 : decode (cc 124) 123 = .ok (.getfield 52, 3) := by decide +kernel
theorem d124_126 : decode (cc 124) 126 = .ok (.bipush 24, 2) := by decide +kernel
theorem d124_128 : decode (cc 124) 128 = .ok (.iload_n 3, 1) := by decide +kernel
theorem d124_129 : decode (cc 124) 129 = .ok (.iadd, 1) := by decide +kernel
theorem d124_130 : decode (cc 124) 130 = .ok (.iaload, 1) := by decide +kernel
theorem d124_131 : decode (cc 124) 131 = .ok (.iload 6, 2) := by decide +kernel
theorem d124_133 : decode (cc 124) 133 = .ok (.if_icmp .eq 5, 3) := by decide +kernel
theorem d124_136 : decode (cc 124) 136 = .ok (.lconst 0, 1) := by decide +kernel
theorem d124_137 : decode (cc 124) 137 = .ok (.lreturn, 1) := by decide +kernel
theorem d124_138 : decode (cc 124) 138 = .ok (.aload_n 0, 1) := by decide +kernel
theorem d124_139 : decode (cc 124) 139 = .ok (.getfield 55, 3) := by decide +kernel
theorem d124_142 : decode (cc 124) 142 = .ok (.iload_n 1, 1) := by decide +kernel
theorem d124_143 : decode (cc 124) 143 = .ok (.iaload, 1) := by decide +kernel
theorem d124_144 : decode (cc 124) 144 = .ok (.ifCond .le 23, 3) := by decide +kernel
theorem d124_147 : decode (cc 124) 147 = .ok (.aload_n 0, 1) := by decide +kernel
theorem d124_148 : decode (cc 124) 148 = .ok (.getfield 69, 3) := by decide +kernel
theorem d124_151 : decode (cc 124) 151 = .ok (.iload 6, 2) := by decide +kernel
theorem d124_153 : decode (cc 124) 153 = .ok (.aload_n 0, 1) := by decide +kernel
theorem d124_154 : decode (cc 124) 154 = .ok (.getfield 55, 3) := by decide +kernel
theorem d124_157 : decode (cc 124) 157 = .ok (.iload_n 1, 1) := by decide +kernel
theorem d124_158 : decode (cc 124) 158 = .ok (.iaload, 1) := by decide +kernel
theorem d124_159 : decode (cc 124) 159 = .ok (.iconst 1, 1) := by decide +kernel
theorem d124_160 : decode (cc 124) 160 = .ok (.isub, 1) := by decide +kernel
theorem d124_161 : decode (cc 124) 161 = .ok (.invokestatic 131, 3) := by decide +kernel
theorem d124_164 : decode (cc 124) 164 = .ok (.goto 4, 3) := by decide +kernel
theorem d124_167 : decode (cc 124) 167 = .ok (.lconst 0, 1) := by decide +kernel
theorem d124_168 : decode (cc 124) 168 = .ok (.lstore 7, 2) := by decide +kernel
theorem d124_170 : decode (cc 124) 170 = .ok (.iconst 0, 1) := by decide +kernel
theorem d124_171 : decode (cc 124) 171 = .ok (.istore 9, 2) := by decide +kernel
theorem d124_173 : decode (cc 124) 173 = .ok (.iload 9, 2) := by decide +kernel
theorem d124_175 : decode (cc 124) 175 = .ok (.iload_n 1, 1) := by decide +kernel
theorem d124_176 : decode (cc 124) 176 = .ok (.if_icmp .ge 55, 3) := by decide +kernel
theorem d124_179 : decode (cc 124) 179 = .ok (.aload_n 0, 1) := by decide +kernel
theorem d124_180 : decode (cc 124) 180 = .ok (.getfield 52, 3) := by decide +kernel
theorem d124_183 : decode (cc 124) 183 = .ok (.iload 9, 2) := by decide +kernel
theorem d124_185 : decode (cc 124) 185 = .ok (.iaload, 1) := by decide +kernel
theorem d124_186 : decode (cc 124) 186 = .ok (.iload 6, 2) := by decide +kernel
theorem d124_188 : decode (cc 124) 188 = .ok (.if_icmp .ne 33, 3) := by decide +kernel
theorem d124_191 : decode (cc 124) 191 = .ok (.aload_n 0, 1) := by decide +kernel
theorem d124_192 : decode (cc 124) 192 = .ok (.getfield 55, 3) := by decide +kernel
theorem d124_195 : decode (cc 124) 195 = .ok (.iload 9, 2) := by decide +kernel
theorem d124_197 : decode (cc 124) 197 = .ok (.iaload, 1) := by decide +kernel
theorem d124_198 : decode (cc 124) 198 = .ok (.aload_n 0, 1) := by decide +kernel
theorem d124_199 : decode (cc 124) 199 = .ok (.getfield 55, 3) := by decide +kernel
theorem d124_202 : decode (cc 124) 202 = .ok (.iload_n 1, 1) := by decide +kernel
theorem d124_203 : decode (cc 124) 203 = .ok (.iaload, 1) := by decide +kernel
theorem d124_204 : decode (cc 124) 204 = .ok (.if_icmp .ne 17, 3) := by decide +kernel
theorem d124_207 : decode (cc 124) 207 = .ok (.lload 7, 2) := by decide +kernel
theorem d124_209 : decode (cc 124) 209 = .ok (.aload_n 0, 1) := by decide +kernel
theorem d124_210 : decode (cc 124) 210 = .ok (.getfield 58, 3) := by decide +kernel
theorem d124_213 : decode (cc 124) 213 = .ok (.iload 9, 2) := by decide +kernel
theorem d124_215 : decode (cc 124) 215 = .ok (.iaload, 1) := by decide +kernel
theorem d124_216 : decode (cc 124) 216 = .ok (.i2l, 1) := by decide +kernel
theorem d124_217 : decode (cc 124) 217 = .ok (.ladd, 1) := by decide +kernel
theorem d124_218 : decode (cc 124) 218 = .ok (.goto 5, 3) := by decide +kernel
theorem d124_221 : decode (cc 124) 221 = .ok (.lload 7, 2) := by decide +kernel
theorem d124_223 : decode (cc 124) 223 = .ok (.lstore 7, 2) := by decide +kernel
theorem d124_225 : decode (cc 124) 225 = .ok (.iinc 9 1, 3) := by decide +kernel
theorem d124_228 : decode (cc 124) 228 = .ok (.goto (-55), 3) := by decide +kernel
theorem d124_231 : decode (cc 124) 231 = .ok (.lload 7, 2) := by decide +kernel
theorem d124_233 : decode (cc 124) 233 = .ok (.aload_n 0, 1) := by decide +kernel
theorem d124_234 : decode (cc 124) 234 = .ok (.getfield 58, 3) := by decide +kernel
theorem d124_237 : decode (cc 124) 237 = .ok (.iload_n 1, 1) := by decide +kernel
theorem d124_238 : decode (cc 124) 238 = .ok (.iaload, 1) := by decide +kernel
theorem d124_239 : decode (cc 124) 239 = .ok (.i2l, 1) := by decide +kernel
theorem d124_240 : decode (cc 124) 240 = .ok (.ladd, 1) := by decide +kernel
theorem d124_241 : decode (cc 124) 241 = .ok (.lstore 9, 2) := by decide +kernel
theorem d124_243 : decode (cc 124) 243 = .ok (.iload_n 2, 1) := by decide +kernel
theorem d124_244 : decode (cc 124) 244 = .ok (.ifCond .ne 7, 3) := by decide +kernel
theorem d124_247 : decode (cc 124) 247 = .ok (.lconst 0, 1) := by decide +kernel
theorem d124_248 : decode (cc 124) 248 = .ok (.goto 11, 3) := by decide +kernel
theorem d124_251 : decode (cc 124) 251 = .ok (.aload_n 0, 1) := by decide +kernel
theorem d124_252 : decode (cc 124) 252 = .ok (.iload 6, 2) := by decide +kernel
theorem d124_254 : decode (cc 124) 254 = .ok (.iload_n 2, 1) := by decide +kernel
theorem d124_255 : decode (cc 124) 255 = .ok (.iload_n 3, 1) := by decide +kernel
theorem d124_256 : decode (cc 124) 256 = .ok (.invokevirtual 183, 3) := by decide +kernel
theorem d124_259 : decode (cc 124) 259 = .ok (.lstore 11, 2) := by decide +kernel
theorem d124_261 : decode (cc 124) 261 = .ok (.iload_n 2, 1) := by decide +kernel
theorem d124_262 : decode (cc 124) 262 = .ok (.ifCond .ne 14, 3) := by decide +kernel
theorem d124_265 : decode (cc 124) 265 = .ok (.aload_n 0, 1) := by decide +kernel
theorem d124_266 : decode (cc 124) 266 = .ok (.getfield 31, 3) := by decide +kernel
theorem d124_269 : decode (cc 124) 269 = .ok (.iload 6, 2) := by decide +kernel
theorem d124_271 : decode (cc 124) 271 = .ok (.iaload, 1) := by decide +kernel
theorem d124_272 : decode (cc 124) 272 = .ok (.i2l, 1) := by decide +kernel
theorem d124_273 : decode (cc 124) 273 = .ok (.goto 36, 3) := by decide +kernel
theorem d124_276 : decode (cc 124) 276 = .ok (.lload 11, 2) := by decide +kernel
theorem d124_278 : decode (cc 124) 278 = .ok (.iload_n 2, 1) := by decide +kernel
theorem d124_279 : decode (cc 124) 279 = .ok (.iconst 1, 1) := by decide +kernel
theorem d124_280 : decode (cc 124) 280 = .ok (.if_icmp .ne 16, 3) := by decide +kernel
theorem d124_283 : decode (cc 124) 283 = .ok (.aload_n 0, 1) := by decide +kernel
theorem d124_284 : decode (cc 124) 284 = .ok (.getfield 58, 3) := by decide +kernel
theorem d124_287 : decode (cc 124) 287 = .ok (.bipush 24, 2) := by decide +kernel
theorem d124_289 : decode (cc 124) 289 = .ok (.iload_n 3, 1) := by decide +kernel
theorem d124_290 : decode (cc 124) 290 = .ok (.iadd, 1) := by decide +kernel
theorem d124_291 : decode (cc 124) 291 = .ok (.iaload, 1) := by decide +kernel
theorem d124_292 : decode (cc 124) 292 = .ok (.i2l, 1) := by decide +kernel
theorem d124_293 : decode (cc 124) 293 = .ok (.goto 15, 3) := by decide +kernel
theorem d124_296 : decode (cc 124) 296 = .ok (.aload_n 0, 1) := by decide +kernel
theorem d124_297 : decode (cc 124) 297 = .ok (.getfield 73, 3) := by decide +kernel
theorem d124_300 : decode (cc 124) 300 = .ok (.bipush 12, 2) := by decide +kernel
theorem d124_302 : decode (cc 124) 302 = .ok (.iload 6, 2) := by decide +kernel
theorem d124_304 : decode (cc 124) 304 = .ok (.imul, 1) := by decide +kernel
theorem d124_305 : decode (cc 124) 305 = .ok (.iload_n 3, 1) := by decide +kernel
theorem d124_306 : decode (cc 124) 306 = .ok (.iadd, 1) := by decide +kernel
theorem d124_307 : decode (cc 124) 307 = .ok (.laload, 1) := by decide +kernel
theorem d124_308 : decode (cc 124) 308 = .ok (.ladd, 1) := by decide +kernel
theorem d124_309 : decode (cc 124) 309 = .ok (.lstore 13, 2) := by decide +kernel
theorem d124_311 : decode (cc 124) 311 = .ok (.lload 7, 2) := by decide +kernel
theorem d124_313 : decode (cc 124) 313 = .ok (.lload 11, 2) := by decide +kernel
theorem d124_315 : decode (cc 124) 315 = .ok (.lcmp, 1) := by decide +kernel
theorem d124_316 : decode (cc 124) 316 = .ok (.ifCond .le 8, 3) := by decide +kernel
theorem d124_319 : decode (cc 124) 319 = .ok (.lload 7, 2) := by decide +kernel
theorem d124_321 : decode (cc 124) 321 = .ok (.goto 5, 3) := by decide +kernel
theorem d124_324 : decode (cc 124) 324 = .ok (.lload 11, 2) := by decide +kernel
theorem d124_326 : decode (cc 124) 326 = .ok (.lstore 15, 2) := by decide +kernel
theorem d124_328 : decode (cc 124) 328 = .ok (.lload 9, 2) := by decide +kernel
theorem d124_330 : decode (cc 124) 330 = .ok (.lload 13, 2) := by decide +kernel
theorem d124_332 : decode (cc 124) 332 = .ok (.lcmp, 1) := by decide +kernel
theorem d124_333 : decode (cc 124) 333 = .ok (.ifCond .ge 8, 3) := by decide +kernel
theorem d124_336 : decode (cc 124) 336 = .ok (.lload 9, 2) := by decide +kernel
theorem d124_338 : decode (cc 124) 338 = .ok (.goto 5, 3) := by decide +kernel
theorem d124_341 : decode (cc 124) 341 = .ok (.lload 13, 2) := by decide +kernel
theorem d124_343 : decode (cc 124) 343 = .ok (.lstore 17, 2) := by decide +kernel
theorem d124_345 : decode (cc 124) 345 = .ok (.lload 17, 2) := by decide +kernel
theorem d124_347 : decode (cc 124) 347 = .ok (.lload 15, 2) := by decide +kernel
theorem d124_349 : decode (cc 124) 349 = .ok (.lcmp, 1) := by decide +kernel
theorem d124_350 : decode (cc 124) 350 = .ok (.ifCond .le 11, 3) := by decide +kernel
theorem d124_353 : decode (cc 124) 353 = .ok (.lload 17, 2) := by decide +kernel
theorem d124_355 : decode (cc 124) 355 = .ok (.lload 15, 2) := by decide +kernel
theorem d124_357 : decode (cc 124) 357 = .ok (.lsub, 1) := by decide +kernel
theorem d124_358 : decode (cc 124) 358 = .ok (.goto 4, 3) := by decide +kernel
theorem d124_361 : decode (cc 124) 361 = .ok (.lconst 0, 1) := by decide +kernel
theorem d124_362 : decode (cc 124) 362 = .ok (.lreturn, 1) := by decide +kernel
theorem d125_0 : decode (cc 125) 0 = .ok (.iload_n 2, 1) := by decide +kernel
theorem d125_1 : decode (cc 125) 1 = .ok (.iconst 1, 1) := by decide +kernel
theorem d125_2 : decode (cc 125) 2 = .ok (.if_icmp .ne 15, 3) := by decide +kernel
theorem d125_5 : decode (cc 125) 5 = .ok (.aload_n 0, 1) := by decide +kernel
theorem d125_6 : decode (cc 125) 6 = .ok (.getfield 55, 3) := by decide +kernel
theorem d125_9 : decode (cc 125) 9 = .ok (.bipush 24, 2) := by decide +kernel
theorem d125_11 : decode (cc 125) 11 = .ok (.iload_n 3, 1) := by decide +kernel
theorem d125_12 : decode (cc 125) 12 = .ok (.iadd, 1) := by decide +kernel
theorem d125_13 : decode (cc 125) 13 = .ok (.iaload, 1) := by decide +kernel
theorem d125_14 : decode (cc 125) 14 = .ok (.goto 4, 3) := by decide +kernel
theorem d125_17 : decode (cc 125) 17 = .ok (.iload_n 3, 1) := by decide +kernel
theorem d125_18 : decode (cc 125) 18 = .ok (.istore 4, 2) := by decide +kernel
theorem d125_20 : decode (cc 125) 20 = .ok (.aload_n 0, 1) := by decide +kernel
theorem d125_21 : decode (cc 125) 21 = .ok (.getfield 31, 3) := by decide +kernel
theorem d125_24 : decode (cc 125) 24 = .ok (.iload_n 1, 1) := by decide +kernel
theorem d125_25 : decode (cc 125) 25 = .ok (.iaload, 1) := by decide +kernel
theorem d125_26 : decode (cc 125) 26 = .ok (.i2l, 1) := by decide +kernel
theorem d125_27 : decode (cc 125) 27 = .ok (.lstore 5, 2) := by decide +kernel
theorem d125_29 : decode (cc 125) 29 = .ok (.bipush 24, 2) := by decide +kernel
theorem d125_31 : decode (cc 125) 31 = .ok (.istore 7, 2) := by decide +kernel
theorem d125_33 : decode (cc 125) 33 = .ok (.iload 7, 2) := by decide +kernel
theorem d125_35 : decode (cc 125) 35 = .ok (.bipush 24, 2) := by decide +kernel
theorem d125_37 : decode (cc 125) 37 = .ok (.aload_n 0, 1) := by decide +kernel
theorem d125_38 : decode (cc 125) 38 = .ok (.getfield 49, 3) := by decide +kernel
theorem d125_41 : decode (cc 125) 41 = .ok (.iconst 1, 1) := by decide +kernel
theorem d125_42 : decode (cc 125) 42 = .ok (.iaload, 1) := by decide +kernel
theorem d125_43 : decode (cc 125) 43 = .ok (.iadd, 1) := by decide +kernel
theorem d125_44 : decode (cc 125) 44 = .ok (.if_icmp .ge 88, 3) := by decide +kernel
theorem d125_47 : decode (cc 125) 47 = .ok (.aload_n 0, 1) := by decide +kernel
theorem d125_48 : decode (cc 125) 48 = .ok (.getfield 55, 3) := by decide +kernel
theorem d125_51 : decode (cc 125) 51 = .ok (.iload 7, 2) := by decide +kernel
theorem d125_53 : decode (cc 125) 53 = .ok (.iaload, 1) := by decide +kernel
theorem d125_54 : decode (cc 125) 54 = .ok (.iload 4, 2) := by decide +kernel
theorem d125_56 : decode (cc 125) 56 = .ok (.if_icmp .ne 21, 3) := by decide +kernel
theorem d125_59 : decode (cc 125) 59 = .ok (.iload_n 2, 1) := by decide +kernel
theorem d125_60 : decode (cc 125) 60 = .ok (.iconst 2, 1) := by decide +kernel
theorem d125_61 : decode (cc 125) 61 = .ok (.if_icmp .eq 12, 3) := by decide +kernel
theorem d125_64 : decode (cc 125) 64 = .ok (.iload 7, 2) := by decide +kernel
theorem d125_66 : decode (cc 125) 66 = .ok (.bipush 24, 2) := by decide +kernel
theorem d125_68 : decode (cc 125) 68 = .ok (.iload_n 3, 1) := by decide +kernel
theorem d125_69 : decode (cc 125) 69 = .ok (.iadd, 1) := by decide +kernel
theorem d125_70 : decode (cc 125) 70 = .ok (.if_icmp .ge 7, 3) := by decide +kernel
theorem d125_73 : decode (cc 125) 73 = .ok (.iconst 1, 1) := by decide +kernel
theorem d125_74 : decode (cc 125) 74 = .ok (.goto 4, 3) := by decide +kernel
theorem d125_77 : decode (cc 125) 77 = .ok (.iconst 0, 1) := by decide +kernel
theorem d125_78 : decode (cc 125) 78 = .ok (.istore 8, 2) := by decide +kernel
theorem d125_80 : decode (cc 125) 80 = .ok (.aload_n 0, 1) := by decide +kernel
theorem d125_81 : decode (cc 125) 81 = .ok (.getfield 52, 3) := by decide +kernel
theorem d125_84 : decode (cc 125) 84 = .ok (.iload 7, 2) := by decide +kernel
theorem d125_86 : decode (cc 125) 86 = .ok (.iaload, 1) := by decide +kernel
theorem d125_87 : decode (cc 125) 87 = .ok (.iload_n 1, 1) := by decide +kernel
theorem d125_88 : decode (cc 125) 88 = .ok (.if_icmp .ne 34, 3) := by decide +kernel
theorem d125_91 : decode (cc 125) 91 = .ok (.aload_n 0, 1) := by decide +kernel
theorem d125_92 : decode (cc 125) 92 = .ok (.getfield 55, 3) := by decide +kernel
theorem d125_95 : decode (cc 125) 95 = .ok (.iload 7, 2) := by decide +kernel
theorem d125_97 : decode (cc 125) 97 = .ok (.iaload, 1) := by decide +kernel
theorem d125_98 : decode (cc 125) 98 = .ok (.iload 4, 2) := by decide +kernel
theorem d125_100 : decode (cc 125) 100 = .ok (.if_icmp .lt 8, 3) := by decide +kernel
theorem d125_103 : decode (cc 125) 103 = .ok (.iload 8, 2) := by decide +kernel
theorem d125_105 : decode (cc 125) 105 = .ok (.ifCond .eq 17, 3) := by decide +kernel
theorem d125_108 : decode (cc 125) 108 = .ok (.lload 5, 2) := by decide +kernel
theorem d125_110 : decode (cc 125) 110 = .ok (.aload_n 0, 1) := by decide +kernel
theorem d125_111 : decode (cc 125) 111 = .ok (.getfield 58, 3) := by decide +kernel
theorem d125_114 : decode (cc 125) 114 = .ok (.iload 7, 2) := by decide +kernel
theorem d125_116 : decode (cc 125) 116 = .ok (.iaload, 1) := by decide +kernel
theorem d125_117 : decode (cc 125) 117 = .ok (.i2l, 1) := by decide +kernel
theorem d125_118 : decode (cc 125) 118 = .ok (.ladd, 1) := by decide +kernel
theorem d125_119 : decode (cc 125) 119 = .ok (.goto 5, 3) := by decide +kernel
theorem d125_122 : decode (cc 125) 122 = .ok (.lload 5, 2) := by decide +kernel
theorem d125_124 : decode (cc 125) 124 = .ok (.lstore 5, 2) := by decide +kernel
theorem d125_126 : decode (cc 125) 126 = .ok (.iinc 7 1, 3) := by decide +kernel
theorem d125_129 : decode (cc 125) 129 = .ok (.goto (-96), 3) := by decide +kernel
theorem d125_132 : decode (cc 125) 132 = .ok (.lload 5, 2) := by decide +kernel
theorem d125_134 : decode (cc 125) 134 = .ok (.iload 4, 2) := by decide +kernel
theorem d125_136 : decode (cc 125) 136 = .ok (.ifCond .le 18, 3) := by decide +kernel
theorem d125_139 : decode (cc 125) 139 = .ok (.aload_n 0, 1) := by decide +kernel
theorem d125_140 : decode (cc 125) 140 = .ok (.getfield 73, 3) := by decide +kernel
theorem d125_143 : decode (cc 125) 143 = .ok (.iload_n 1, 1) := by decide +kernel
theorem d125_144 : decode (cc 125) 144 = .ok (.iload 4, 2) := by decide +kernel
theorem d125_146 : decode (cc 125) 146 = .ok (.iconst 1, 1) := by decide +kernel
theorem d125_147 : decode (cc 125) 147 = .ok (.isub, 1) := by decide +kernel
theorem d125_148 : decode (cc 125) 148 = .ok (.invokestatic 131, 3) := by decide +kernel
theorem d125_151 : decode (cc 125) 151 = .ok (.goto 4, 3) := by decide +kernel
theorem d125_154 : decode (cc 125) 154 = .ok (.lconst 0, 1) := by decide +kernel
theorem d125_155 : decode (cc 125) 155 = .ok (.ladd, 1) := by decide +kernel
theorem d125_156 : decode (cc 125) 156 = .ok (.lreturn, 1) := by decide +kernel
theorem d126_0 : decode (cc 126) 0 = .ok (.aload_n 0, 1) := by decide +kernel
theorem d126_1 : decode (cc 126) 1 = .ok (.iload_n 1, 1) := by decide +kernel
theorem d126_2 : decode (cc 126) 2 = .ok (.invokestatic 93, 3) := by decide +kernel
theorem d126_5 : decode (cc 126) 5 = .ok (.ifCond .eq 10, 3) := by decide +kernel
theorem d126_8 : decode (cc 126) 8 = .ok (.iload_n 3, 1) := by decide +kernel
theorem d126_9 : decode (cc 126) 9 = .ok (.invokestatic 93, 3) := by decide +kernel
theorem d126_12 : decode (cc 126) 12 = .ok (.ifCond .ne 7, 3) := by decide +kernel
theorem d126_15 : decode (cc 126) 15 = .ok (.iconst 1, 1) := by decide +kernel
theorem d126_16 : decode (cc 126) 16 = .ok (.goto 30, 3) := by decide +kernel
theorem d126_19 : decode (cc 126) 19 = .ok (.iload_n 2, 1) := by decide +kernel
theorem d126_20 : decode (cc 126) 20 = .ok (.iconst 1, 1) := by decide +kernel
theorem d126_21 : decode (cc 126) 21 = .ok (.sipush 1000, 3) := by decide +kernel
theorem d126_24 : decode (cc 126) 24 = .ok (.invokestatic 89, 3) := by decide +kernel
theorem d126_27 : decode (cc 126) 27 = .ok (.ifCond .ne 7, 3) := by decide +kernel
theorem d126_30 : decode (cc 126) 30 = .ok (.iconst 2, 1) := by decide +kernel
theorem d126_31 : decode (cc 126) 31 = .ok (.goto 15, 3) := by decide +kernel
theorem d126_34 : decode (cc 126) 34 = .ok (.aload_n 0, 1) := by decide +kernel
theorem d126_35 : decode (cc 126) 35 = .ok (.getfield 61, 3) := by decide +kernel
theorem d126_38 : decode (cc 126) 38 = .ok (.ifCond .eq 7, 3) := by decide +kernel
theorem d126_41 : decode (cc 126) 41 = .ok (.iconst 3, 1) := by decide +kernel
theorem d126_42 : decode (cc 126) 42 = .ok (.goto 4, 3) := by decide +kernel
theorem d126_45 : decode (cc 126) 45 = .ok (.iconst 0, 1) := by decide +kernel
theorem d126_46 : decode (cc 126) 46 = .ok (.invokevirtual 97, 3) := by decide +kernel
theorem d126_49 : decode (cc 126) 49 = .ok (.ifCond .eq 5, 3) := by decide +kernel
theorem d126_52 : decode (cc 126) 52 = .ok (.iconst 0, 1) := by decide +kernel
theorem d126_53 : decode (cc 126) 53 = .ok (.ireturn, 1) := by decide +kernel
theorem d126_54 : decode (cc 126) 54 = .ok (.iload_n 3, 1) := by decide +kernel
theorem d126_55 : decode (cc 126) 55 = .ok (.istore 4, 2) := by decide +kernel
theorem d126_57 : decode (cc 126) 57 = .ok (.iload 4, 2) := by decide +kernel
theorem d126_59 : decode (cc 126) 59 = .ok (.bipush 12, 2) := by decide +kernel
theorem d126_61 : decode (cc 126) 61 = .ok (.if_icmp .ge 23, 3) := by decide +kernel
theorem d126_64 : decode (cc 126) 64 = .ok (.aload_n 0, 1) := by decide +kernel
theorem d126_65 : decode (cc 126) 65 = .ok (.iload_n 1, 1) := by decide +kernel
theorem d126_66 : decode (cc 126) 66 = .ok (.iload_n 2, 1) := by decide +kernel
theorem d126_67 : decode (cc 126) 67 = .ok (.iload 4, 2) := by decide +kernel
theorem d126_69 : decode (cc 126) 69 = .ok (.invokevirtual 186, 3) := by decide +kernel
theorem d126_72 : decode (cc 126) 72 = .ok (.ifCond .eq 6, 3) := by decide +kernel
theorem d126_75 : decode (cc 126) 75 = .ok (.iload 4, 2) := by decide +kernel
theorem d126_77 : decode (cc 126) 77 = .ok (.ireturn, 1) := by decide +kernel
theorem d126_78 : decode (cc 126) 78 = .ok (.iinc 4 1, 3) := by decide +kernel
theorem d126_81 : decode (cc 126) 81 = .ok (.goto (-24), 3) := by decide +kernel
theorem d126_84 : decode (cc 126) 84 = .ok (.iconst (-1), 1) := by decide +kernel
theorem d126_85 : decode (cc 126) 85 = .ok (.ireturn, 1) := by decide +kernel
theorem d127_0 : decode (cc 127) 0 = .ok (.iconst 1, 1) := by decide +kernel
theorem d127_1 : decode (cc 127) 1 = .ok (.istore 4, 2) := by decide +kernel
theorem d127_3 : decode (cc 127) 3 = .ok (.iload_n 3, 1) := by decide +kernel
theorem d127_4 : decode (cc 127) 4 = .ok (.istore 5, 2) := by decide +kernel
theorem d127_6 : decode (cc 127) 6 = .ok (.iload 5, 2) := by decide +kernel
theorem d127_8 : decode (cc 127) 8 = .ok (.bipush 12, 2) := by decide +kernel
theorem d127_10 : decode (cc 127) 10 = .ok (.if_icmp .ge 54, 3) := by decide +kernel
theorem d127_13 : decode (cc 127) 13 = .ok (.iload 4, 2) := by decide +kernel
theorem d127_15 : decode (cc 127) 15 = .ok (.ifCond .eq 40, 3) := by decide +kernel
theorem d127_18 : decode (cc 127) 18 = .ok (.aload_n 0, 1) := by decide +kernel
theorem d127_19 : decode (cc 127) 19 = .ok (.iload_n 1, 1) := by decide +kernel
theorem d127_20 : decode (cc 127) 20 = .ok (.iload 5, 2) := by decide +kernel
theorem d127_22 : decode (cc 127) 22 = .ok (.invokevirtual 143, 3) := by decide +kernel
theorem d127_25 : decode (cc 127) 25 = .ok (.aload_n 0, 1) := by decide +kernel
theorem d127_26 : decode (cc 127) 26 = .ok (.getfield 73, 3) := by decide +kernel
theorem d127_29 : decode (cc 127) 29 = .ok (.iload_n 1, 1) := by decide +kernel
theorem d127_30 : decode (cc 127) 30 = .ok (.iload 5, 2) := by decide +kernel
theorem d127_32 : decode (cc 127) 32 = .ok (.invokestatic 131, 3) := by decide +kernel
theorem d127_35 : decode (cc 127) 35 = .ok (.ladd, 1) := by decide +kernel
theorem d127_36 : decode (cc 127) 36 = .ok (.aload_n 0, 1) := by decide +kernel
theorem d127_37 : decode (cc 127) 37 = .ok (.iconst 2, 1) := by decide +kernel
theorem d127_38 : decode (cc 127) 38 = .ok (.iload_n 1, 1) := by decide +kernel
theorem d127_39 : decode (cc 127) 39 = .ok (.iload 5, 2) := by decide +kernel
theorem d127_41 : decode (cc 127) 41 = .ok (.invokevirtual 127, 3) := by decide +kernel
theorem d127_44 : decode (cc 127) 44 = .ok (.lsub, 1) := by decide +kernel
theorem d127_45 : decode (cc 127) 45 = .ok (.iload_n 2, 1) := by decide +kernel
theorem d127_46 : decode (cc 127) 46 = .ok (.i2l, 1) := by decide +kernel
theorem d127_47 : decode (cc 127) 47 = .ok (.lcmp, 1) := by decide +kernel
theorem d127_48 : decode (cc 127) 48 = .ok (.ifCond .lt 7, 3) := by decide +kernel
theorem d127_51 : decode (cc 127) 51 = .ok (.iconst 1, 1) := by decide +kernel
theorem d127_52 : decode (cc 127) 52 = .ok (.goto 4, 3) := by decide +kernel
theorem d127_55 : decode (cc 127) 55 = .ok (.iconst 0, 1) := by decide +kernel
theorem d127_56 : decode (cc 127) 56 = .ok (.istore 4, 2) := by decide +kernel
theorem d127_58 : decode (cc 127) 58 = .ok (.iinc 5 1, 3) := by decide +kernel
theorem d127_61 : decode (cc 127) 61 = .ok (.goto (-55), 3) := by decide +kernel
theorem d127_64 : decode (cc 127) 64 = .ok (.iload 4, 2) := by decide +kernel
theorem d127_66 : decode (cc 127) 66 = .ok (.ireturn, 1) := by decide +kernel
theorem d128_0 : decode (cc 128) 0 = .ok (.iload_n 1, 1) := by decide +kernel
theorem d128_1 : decode (cc 128) 1 = .ok (.invokestatic 93, 3) := by decide +kernel
theorem d128_4 : decode (cc 128) 4 = .ok (.ifCond .eq 14, 3) := by decide +kernel
theorem d128_7 : decode (cc 128) 7 = .ok (.iload_n 3, 1) := by decide +kernel
theorem d128_8 : decode (cc 128) 8 = .ok (.invokestatic 93, 3) := by decide +kernel
theorem d128_11 : decode (cc 128) 11 = .ok (.ifCond .eq 7, 3) := by decide +kernel
theorem d128_14 : decode (cc 128) 14 = .ok (.iconst 1, 1) := by decide +kernel
theorem d128_15 : decode (cc 128) 15 = .ok (.goto 4, 3) := by decide +kernel
theorem d128_18 : decode (cc 128) 18 = .ok (.iconst 0, 1) := by decide +kernel
theorem d128_19 : decode (cc 128) 19 = .ok (.istore 4, 2) := by decide +kernel
theorem d128_21 : decode (cc 128) 21 = .ok (.aload_n 0, 1) := by decide +kernel
theorem d128_22 : decode (cc 128) 22 = .ok (.iload 4, 2) := by decide +kernel
theorem d128_24 : decode (cc 128) 24 = .ok (.ifCond .ne 7, 3) := by decide +kernel
theorem d128_27 : decode (cc 128) 27 = .ok (.iconst 1, 1) := by decide +kernel
theorem d128_28 : decode (cc 128) 28 = .ok (.goto 41, 3) := by decide +kernel
theorem d128_31 : decode (cc 128) 31 = .ok (.iload_n 2, 1) := by decide +kernel
theorem d128_32 : decode (cc 128) 32 = .ok (.iconst 1, 1) := by decide +kernel
theorem d128_33 : decode (cc 128) 33 = .ok (.sipush 1000, 3) := by decide +kernel
theorem d128_36 : decode (cc 128) 36 = .ok (.invokestatic 89, 3) := by decide +kernel
theorem d128_39 : decode (cc 128) 39 = .ok (.ifCond .ne 7, 3) := by decide +kernel
theorem d128_42 : decode (cc 128) 42 = .ok (.iconst 2, 1) := by decide +kernel
theorem d128_43 : decode (cc 128) 43 = .ok (.goto 26, 3) := by decide +kernel
theorem d128_46 : decode (cc 128) 46 = .ok (.aload_n 0, 1) := by decide +kernel
theorem d128_47 : decode (cc 128) 47 = .ok (.getfield 61, 3) := by decide +kernel
theorem d128_50 : decode (cc 128) 50 = .ok (.ifCond .ne 14, 3) := by decide +kernel
theorem d128_53 : decode (cc 128) 53 = .ok (.aload_n 0, 1) := by decide +kernel
theorem d128_54 : decode (cc 128) 54 = .ok (.getfield 49, 3) := by decide +kernel
theorem d128_57 : decode (cc 128) 57 = .ok (.iconst 2, 1) := by decide +kernel
theorem d128_58 : decode (cc 128) 58 = .ok (.iaload, 1) := by decide +kernel
theorem d128_59 : decode (cc 128) 59 = .ok (.bipush 24, 2) := by decide +kernel
theorem d128_61 : decode (cc 128) 61 = .ok (.if_icmp .ne 7, 3) := by decide +kernel
theorem d128_64 : decode (cc 128) 64 = .ok (.iconst 3, 1) := by decide +kernel
theorem d128_65 : decode (cc 128) 65 = .ok (.goto 4, 3) := by decide +kernel
theorem d128_68 : decode (cc 128) 68 = .ok (.iconst 0, 1) := by decide +kernel
theorem d128_69 : decode (cc 128) 69 = .ok (.invokevirtual 97, 3) := by decide +kernel
theorem d128_72 : decode (cc 128) 72 = .ok (.ifCond .eq 5, 3) := by decide +kernel
theorem d128_75 : decode (cc 128) 75 = .ok (.iconst 0, 1) := by decide +kernel
theorem d128_76 : decode (cc 128) 76 = .ok (.ireturn, 1) := by decide +kernel
theorem d128_77 : decode (cc 128) 77 = .ok (.aload_n 0, 1) := by decide +kernel
theorem d128_78 : decode (cc 128) 78 = .ok (.iload_n 1, 1) := by decide +kernel
theorem d128_79 : decode (cc 128) 79 = .ok (.iload_n 2, 1) := by decide +kernel
theorem d128_80 : decode (cc 128) 80 = .ok (.iload_n 3, 1) := by decide +kernel
theorem d128_81 : decode (cc 128) 81 = .ok (.invokevirtual 186, 3) := by decide +kernel
theorem d128_84 : decode (cc 128) 84 = .ok (.ifCond .eq 14, 3) := by decide +kernel
theorem d128_87 : decode (cc 128) 87 = .ok (.aload_n 0, 1) := by decide +kernel
theorem d128_88 : decode (cc 128) 88 = .ok (.iconst 2, 1) := by decide +kernel
theorem d128_89 : decode (cc 128) 89 = .ok (.iload_n 1, 1) := by decide +kernel
theorem d128_90 : decode (cc 128) 90 = .ok (.iload_n 3, 1) := by decide +kernel
theorem d128_91 : decode (cc 128) 91 = .ok (.iload_n 2, 1) := by decide +kernel
theorem d128_92 : decode (cc 128) 92 = .ok (.invokevirtual 120, 3) := by decide +kernel
theorem d128_95 : decode (cc 128) 95 = .ok (.goto 4, 3) := by decide +kernel
theorem d128_98 : decode (cc 128) 98 = .ok (.iconst (-1), 1) := by decide +kernel
theorem d128_99 : decode (cc 128) 99 = .ok (.ireturn, 1) := by decide +kernel
theorem d129_0 : decode (cc 129) 0 = .ok (.aload_n 0, 1) := by decide +kernel
theorem d129_1 : decode (cc 129) 1 = .ok (.iload_n 1, 1) := by decide +kernel
theorem d129_2 : decode (cc 129) 2 = .ok (.iconst 0, 1) := by decide +kernel
theorem d129_3 : decode (cc 129) 3 = .ok (.aload_n 0, 1) := by decide +kernel
theorem d129_4 : decode (cc 129) 4 = .ok (.getfield 49, 3) := by decide +kernel
theorem d129_7 : decode (cc 129) 7 = .ok (.iconst 2, 1) := by decide +kernel
theorem d129_8 : decode (cc 129) 8 = .ok (.iaload, 1) := by decide +kernel
theorem d129_9 : decode (cc 129) 9 = .ok (.iconst 1, 1) := by decide +kernel
theorem d129_10 : decode (cc 129) 10 = .ok (.isub, 1) := by decide +kernel
theorem d129_11 : decode (cc 129) 11 = .ok (.invokestatic 89, 3) := by decide +kernel
theorem d129_14 : decode (cc 129) 14 = .ok (.ifCond .eq 7, 3) := by decide +kernel
theorem d129_17 : decode (cc 129) 17 = .ok (.iconst 0, 1) := by decide +kernel
theorem d129_18 : decode (cc 129) 18 = .ok (.goto 4, 3) := by decide +kernel
theorem d129_21 : decode (cc 129) 21 = .ok (.iconst 1, 1) := by decide +kernel
theorem d129_22 : decode (cc 129) 22 = .ok (.invokevirtual 97, 3) := by decide +kernel
theorem d129_25 : decode (cc 129) 25 = .ok (.ifCond .eq 5, 3) := by decide +kernel
theorem d129_28 : decode (cc 129) 28 = .ok (.iconst 0, 1) := by decide +kernel
theorem d129_29 : decode (cc 129) 29 = .ok (.ireturn, 1) := by decide +kernel
theorem d129_30 : decode (cc 129) 30 = .ok (.aload_n 0, 1) := by decide +kernel
theorem d129_31 : decode (cc 129) 31 = .ok (.getfield 58, 3) := by decide +kernel
theorem d129_34 : decode (cc 129) 34 = .ok (.bipush 48, 2) := by decide +kernel
theorem d129_36 : decode (cc 129) 36 = .ok (.iload_n 1, 1) := by decide +kernel
theorem d129_37 : decode (cc 129) 37 = .ok (.iadd, 1) := by decide +kernel
theorem d129_38 : decode (cc 129) 38 = .ok (.iaload, 1) := by decide +kernel
theorem d129_39 : decode (cc 129) 39 = .ok (.istore_n 2, 1) := by decide +kernel
theorem d129_40 : decode (cc 129) 40 = .ok (.aload_n 0, 1) := by decide +kernel
theorem d129_41 : decode (cc 129) 41 = .ok (.getfield 58, 3) := by decide +kernel
theorem d129_44 : decode (cc 129) 44 = .ok (.bipush 48, 2) := by decide +kernel
theorem d129_46 : decode (cc 129) 46 = .ok (.iload_n 1, 1) := by decide +kernel
theorem d129_47 : decode (cc 129) 47 = .ok (.iadd, 1) := by decide +kernel
theorem d129_48 : decode (cc 129) 48 = .ok (.iconst 0, 1) := by decide +kernel
theorem d129_49 : decode (cc 129) 49 = .ok (.iastore, 1) := by decide +kernel
theorem d129_50 : decode (cc 129) 50 = .ok (.iload_n 2, 1) := by decide +kernel
theorem d129_51 : decode (cc 129) 51 = .ok (.ireturn, 1) := by decide +kernel
theorem d130_0 : decode (cc 130) 0 = .ok (.aload_n 0, 1) := by decide +kernel
theorem d130_1 : decode (cc 130) 1 = .ok (.iload_n 1, 1) := by decide +kernel
theorem d130_2 : decode (cc 130) 2 = .ok (.iconst 0, 1) := by decide +kernel
theorem d130_3 : decode (cc 130) 3 = .ok (.iconst 2, 1) := by decide +kernel
theorem d130_4 : decode (cc 130) 4 = .ok (.invokestatic 89, 3) := by decide +kernel
theorem d130_7 : decode (cc 130) 7 = .ok (.ifCond .eq 10, 3) := by decide +kernel
theorem d130_10 : decode (cc 130) 10 = .ok (.iload_n 2, 1) := by decide +kernel
theorem d130_11 : decode (cc 130) 11 = .ok (.invokestatic 93, 3) := by decide +kernel
theorem d130_14 : decode (cc 130) 14 = .ok (.ifCond .ne 7, 3) := by decide +kernel
theorem d130_17 : decode (cc 130) 17 = .ok (.iconst 1, 1) := by decide +kernel
theorem d130_18 : decode (cc 130) 18 = .ok (.goto 15, 3) := by decide +kernel
theorem d130_21 : decode (cc 130) 21 = .ok (.aload_n 0, 1) := by decide +kernel
theorem d130_22 : decode (cc 130) 22 = .ok (.getfield 61, 3) := by decide +kernel
theorem d130_25 : decode (cc 130) 25 = .ok (.ifCond .eq 7, 3) := by decide +kernel
theorem d130_28 : decode (cc 130) 28 = .ok (.iconst 2, 1) := by decide +kernel
theorem d130_29 : decode (cc 130) 29 = .ok (.goto 4, 3) := by decide +kernel
theorem d130_32 : decode (cc 130) 32 = .ok (.iconst 0, 1) := by decide +kernel
theorem d130_33 : decode (cc 130) 33 = .ok (.invokevirtual 97, 3) := by decide +kernel
theorem d130_36 : decode (cc 130) 36 = .ok (.ifCond .eq 5, 3) := by decide +kernel
theorem d130_39 : decode (cc 130) 39 = .ok (.lconst 0, 1) := by decide +kernel
theorem d130_40 : decode (cc 130) 40 = .ok (.lreturn, 1) := by decide +kernel
theorem d130_41 : decode (cc 130) 41 = .ok (.lconst 0, 1) := by decide +kernel
theorem d130_42 : decode (cc 130) 42 = .ok (.lstore_n 3, 1) := by decide +kernel
