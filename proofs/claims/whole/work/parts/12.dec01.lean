theorem d53_23 : decode (cc 53) 23 = .ok (.astore 5, 2) := by decide +kernel
theorem d53_25 : decode (cc 53) 25 = .ok (.iconst 3, 1) := by decide +kernel
theorem d53_26 : decode (cc 53) 26 = .ok (.ireturn, 1) := by decide +kernel
theorem d53_27 : decode (cc 53) 27 = .ok (.iconst 0, 1) := by decide +kernel
theorem d53_28 : decode (cc 53) 28 = .ok (.ireturn, 1) := by decide +kernel
theorem d54_0 : decode (cc 54) 0 = .ok (.aload_n 0, 1) := by decide +kernel
theorem d54_1 : decode (cc 54) 1 = .ok (.aload_n 0, 1) := by decide +kernel
theorem d54_2 : decode (cc 54) 2 = .ok (.getfield 29, 3) := by decide +kernel
theorem d54_5 : decode (cc 54) 5 = .ok (.iload_n 1, 1) := by decide +kernel
theorem d54_6 : decode (cc 54) 6 = .ok (.iload_n 2, 1) := by decide +kernel
theorem d54_7 : decode (cc 54) 7 = .ok (.iload_n 3, 1) := by decide +kernel
theorem d54_8 : decode (cc 54) 8 = .ok (.invokevirtual 123, 3) := by decide +kernel
theorem d54_11 : decode (cc 54) 11 = .ok (.ireturn, 1) := by decide +kernel
theorem d55_0 : decode (cc 55) 0 = .ok (.aload_n 2, 1) := by decide +kernel
theorem d55_1 : decode (cc 55) 1 = .ok (.iconst 0, 1) := by decide +kernel
theorem d55_2 : decode (cc 55) 2 = .ok (.aload_n 0, 1) := by decide +kernel
theorem d55_3 : decode (cc 55) 3 = .ok (.iload_n 1, 1) := by decide +kernel
theorem d55_4 : decode (cc 55) 4 = .ok (.invokevirtual 44, 3) := by decide +kernel
theorem d55_7 : decode (cc 55) 7 = .ok (.i2l, 1) := by decide +kernel
theorem d55_8 : decode (cc 55) 8 = .ok (.lastore, 1) := by decide +kernel
theorem d55_9 : decode (cc 55) 9 = .ok (.goto 6, 3) := by decide +kernel
theorem d55_12 : decode (cc 55) 12 = .ok (.astore_n 3, 1) := by decide +kernel
theorem d55_13 : decode (cc 55) 13 = .ok (.iconst 1, 1) := by decide +kernel
theorem d55_14 : decode (cc 55) 14 = .ok (.ireturn, 1) := by decide +kernel
theorem d55_15 : decode (cc 55) 15 = .ok (.iconst 0, 1) := by decide +kernel
theorem d55_16 : decode (cc 55) 16 = .ok (.ireturn, 1) := by decide +kernel
theorem d56_0 : decode (cc 56) 0 = .ok (.iload_n 1, 1) := by decide +kernel
theorem d56_1 : decode (cc 56) 1 = .ok (.invokestatic 95, 3) := by decide +kernel
theorem d56_4 : decode (cc 56) 4 = .ok (.aload_n 0, 1) := by decide +kernel
theorem d56_5 : decode (cc 56) 5 = .ok (.getfield 18, 3) := by decide +kernel
theorem d56_8 : decode (cc 56) 8 = .ok (.getfield 137, 3) := by decide +kernel
theorem d56_11 : decode (cc 56) 11 = .ok (.iload_n 1, 1) := by decide +kernel
theorem d56_12 : decode (cc 56) 12 = .ok (.iaload, 1) := by decide +kernel
theorem d56_13 : decode (cc 56) 13 = .ok (.ireturn, 1) := by decide +kernel
theorem d57_0 : decode (cc 57) 0 = .ok (.aload_n 3, 1) := by decide +kernel
theorem d57_1 : decode (cc 57) 1 = .ok (.iconst 0, 1) := by decide +kernel
theorem d57_2 : decode (cc 57) 2 = .ok (.aload_n 0, 1) := by decide +kernel
theorem d57_3 : decode (cc 57) 3 = .ok (.iload_n 1, 1) := by decide +kernel
theorem d57_4 : decode (cc 57) 4 = .ok (.iload_n 2, 1) := by decide +kernel
theorem d57_5 : decode (cc 57) 5 = .ok (.invokevirtual 48, 3) := by decide +kernel
theorem d57_8 : decode (cc 57) 8 = .ok (.lastore, 1) := by decide +kernel
theorem d57_9 : decode (cc 57) 9 = .ok (.goto 11, 3) := by decide +kernel
theorem d57_12 : decode (cc 57) 12 = .ok (.astore 4, 2) := by decide +kernel
theorem d57_14 : decode (cc 57) 14 = .ok (.iconst 1, 1) := by decide +kernel
theorem d57_15 : decode (cc 57) 15 = .ok (.ireturn, 1) := by decide +kernel
theorem d57_16 : decode (cc 57) 16 = .ok (.astore 4, 2) := by decide +kernel
theorem d57_18 : decode (cc 57) 18 = .ok (.iconst 2, 1) := by decide +kernel
theorem d57_19 : decode (cc 57) 19 = .ok (.ireturn, 1) := by decide +kernel
theorem d57_20 : decode (cc 57) 20 = .ok (.iconst 0, 1) := by decide +kernel
theorem d57_21 : decode (cc 57) 21 = .ok (.ireturn, 1) := by decide +kernel
theorem d58_0 : decode (cc 58) 0 = .ok (.aload_n 0, 1) := by decide +kernel
theorem d58_1 : decode (cc 58) 1 = .ok (.iload_n 1, 1) := by decide +kernel
theorem d58_2 : decode (cc 58) 2 = .ok (.invokevirtual 50, 3) := by decide +kernel
theorem d58_5 : decode (cc 58) 5 = .ok (.astore_n 3, 1) := by decide +kernel
theorem d58_6 : decode (cc 58) 6 = .ok (.iload_n 2, 1) := by decide +kernel
theorem d58_7 : decode (cc 58) 7 = .ok (.invokestatic 143, 3) := by decide +kernel
theorem d58_10 : decode (cc 58) 10 = .ok (.aload_n 0, 1) := by decide +kernel
theorem d58_11 : decode (cc 58) 11 = .ok (.invokevirtual 146, 3) := by decide +kernel
theorem d58_14 : decode (cc 58) 14 = .ok (.aload_n 3, 1) := by decide +kernel
theorem d58_15 : decode (cc 58) 15 = .ok (.getfield 149, 3) := by decide +kernel
theorem d58_18 : decode (cc 58) 18 = .ok (.iload_n 2, 1) := by decide +kernel
theorem d58_19 : decode (cc 58) 19 = .ok (.laload, 1) := by decide +kernel
theorem d58_20 : decode (cc 58) 20 = .ok (.lreturn, 1) := by decide +kernel
theorem d59_0 : decode (cc 59) 0 = .ok (.aload_n 0, 1) := by decide +kernel
theorem d59_1 : decode (cc 59) 1 = .ok (.invokevirtual 192, 3) := by decide +kernel
theorem d59_4 : decode (cc 59) 4 = .ok (.ifCond .eq 13, 3) := by decide +kernel
theorem d59_7 : decode (cc 59) 7 = .ok (.new 109, 3) := by decide +kernel
theorem d59_10 : decode (cc 59) 10 = .ok (.dup, 1) := by decide +kernel
theorem d59_11 : decode (cc 59) 11 = .ok (.ldc 217, 2) := by decide +kernel
theorem d59_13 : decode (cc 59) 13 = .ok (.invokespecial 113, 3) := by decide +kernel
theorem d59_16 : decode (cc 59) 16 = .ok (.athrow, 1) := by decide +kernel
theorem d59_17 : decode (cc 59) 17 = .ok (.return_, 1) := by decide +kernel
theorem d60_0 : decode (cc 60) 0 = .ok (.iconst 0, 1) := by decide +kernel
theorem d60_1 : decode (cc 60) 1 = .ok (.istore_n 1, 1) := by decide +kernel
theorem d60_2 : decode (cc 60) 2 = .ok (.iload_n 1, 1) := by decide +kernel
theorem d60_3 : decode (cc 60) 3 = .ok (.bipush 12, 2) := by decide +kernel
theorem d60_5 : decode (cc 60) 5 = .ok (.if_icmp .ge 23, 3) := by decide +kernel
theorem d60_8 : decode (cc 60) 8 = .ok (.aload_n 0, 1) := by decide +kernel
theorem d60_9 : decode (cc 60) 9 = .ok (.getfield 11, 3) := by decide +kernel
theorem d60_12 : decode (cc 60) 12 = .ok (.iload_n 1, 1) := by decide +kernel
theorem d60_13 : decode (cc 60) 13 = .ok (.aaload, 1) := by decide +kernel
theorem d60_14 : decode (cc 60) 14 = .ok (.getfield 71, 3) := by decide +kernel
theorem d60_17 : decode (cc 60) 17 = .ok (.ifCond .eq 5, 3) := by decide +kernel
theorem d60_20 : decode (cc 60) 20 = .ok (.iconst 1, 1) := by decide +kernel
theorem d60_21 : decode (cc 60) 21 = .ok (.ireturn, 1) := by decide +kernel
theorem d60_22 : decode (cc 60) 22 = .ok (.iinc 1 1, 3) := by decide +kernel
theorem d60_25 : decode (cc 60) 25 = .ok (.goto (-23), 3) := by decide +kernel
theorem d60_28 : decode (cc 60) 28 = .ok (.iconst 0, 1) := by decide +kernel
theorem d60_29 : decode (cc 60) 29 = .ok (.ireturn, 1) := by decide +kernel
theorem d61_0 : decode (cc 61) 0 = .ok (.aload_n 3, 1) := by decide +kernel
theorem d61_1 : decode (cc 61) 1 = .ok (.iconst 0, 1) := by decide +kernel
theorem d61_2 : decode (cc 61) 2 = .ok (.aload_n 0, 1) := by decide +kernel
theorem d61_3 : decode (cc 61) 3 = .ok (.iload_n 1, 1) := by decide +kernel
theorem d61_4 : decode (cc 61) 4 = .ok (.iload_n 2, 1) := by decide +kernel
theorem d61_5 : decode (cc 61) 5 = .ok (.invokevirtual 52, 3) := by decide +kernel
theorem d61_8 : decode (cc 61) 8 = .ok (.lastore, 1) := by decide +kernel
theorem d61_9 : decode (cc 61) 9 = .ok (.goto 11, 3) := by decide +kernel
theorem d61_12 : decode (cc 61) 12 = .ok (.astore 4, 2) := by decide +kernel
theorem d61_14 : decode (cc 61) 14 = .ok (.iconst 1, 1) := by decide +kernel
theorem d61_15 : decode (cc 61) 15 = .ok (.ireturn, 1) := by decide +kernel
theorem d61_16 : decode (cc 61) 16 = .ok (.astore 4, 2) := by decide +kernel
theorem d61_18 : decode (cc 61) 18 = .ok (.iconst 2, 1) := by decide +kernel
theorem d61_19 : decode (cc 61) 19 = .ok (.ireturn, 1) := by decide +kernel
theorem d61_20 : decode (cc 61) 20 = .ok (.iconst 0, 1) := by decide +kernel
theorem d61_21 : decode (cc 61) 21 = .ok (.ireturn, 1) := by decide +kernel
theorem d62_0 : decode (cc 62) 0 = .ok (.aload_n 0, 1) := by decide +kernel
theorem d62_1 : decode (cc 62) 1 = .ok (.iload_n 1, 1) := by decide +kernel
theorem d62_2 : decode (cc 62) 2 = .ok (.invokevirtual 50, 3) := by decide +kernel
theorem d62_5 : decode (cc 62) 5 = .ok (.astore_n 3, 1) := by decide +kernel
theorem d62_6 : decode (cc 62) 6 = .ok (.iload_n 2, 1) := by decide +kernel
theorem d62_7 : decode (cc 62) 7 = .ok (.invokestatic 143, 3) := by decide +kernel
theorem d62_10 : decode (cc 62) 10 = .ok (.aload_n 0, 1) := by decide +kernel
theorem d62_11 : decode (cc 62) 11 = .ok (.invokevirtual 146, 3) := by decide +kernel
theorem d62_14 : decode (cc 62) 14 = .ok (.aload_n 3, 1) := by decide +kernel
theorem d62_15 : decode (cc 62) 15 = .ok (.getfield 152, 3) := by decide +kernel
theorem d62_18 : decode (cc 62) 18 = .ok (.iload_n 2, 1) := by decide +kernel
theorem d62_19 : decode (cc 62) 19 = .ok (.laload, 1) := by decide +kernel
theorem d62_20 : decode (cc 62) 20 = .ok (.lreturn, 1) := by decide +kernel
theorem d63_0 : decode (cc 63) 0 = .ok (.aload_n 3, 1) := by decide +kernel
theorem d63_1 : decode (cc 63) 1 = .ok (.iconst 0, 1) := by decide +kernel
theorem d63_2 : decode (cc 63) 2 = .ok (.aload_n 0, 1) := by decide +kernel
theorem d63_3 : decode (cc 63) 3 = .ok (.iload_n 1, 1) := by decide +kernel
theorem d63_4 : decode (cc 63) 4 = .ok (.iload_n 2, 1) := by decide +kernel
theorem d63_5 : decode (cc 63) 5 = .ok (.invokevirtual 55, 3) := by decide +kernel
theorem d63_8 : decode (cc 63) 8 = .ok (.lastore, 1) := by decide +kernel
theorem d63_9 : decode (cc 63) 9 = .ok (.goto 11, 3) := by decide +kernel
theorem d63_12 : decode (cc 63) 12 = .ok (.astore 4, 2) := by decide +kernel
theorem d63_14 : decode (cc 63) 14 = .ok (.iconst 1, 1) := by decide +kernel
theorem d63_15 : decode (cc 63) 15 = .ok (.ireturn, 1) := by decide +kernel
theorem d63_16 : decode (cc 63) 16 = .ok (.astore 4, 2) := by decide +kernel
theorem d63_18 : decode (cc 63) 18 = .ok (.iconst 2, 1) := by decide +kernel
theorem d63_19 : decode (cc 63) 19 = .ok (.ireturn, 1) := by decide +kernel
theorem d63_20 : decode (cc 63) 20 = .ok (.iconst 0, 1) := by decide +kernel
theorem d63_21 : decode (cc 63) 21 = .ok (.ireturn, 1) := by decide +kernel
theorem d64_0 : decode (cc 64) 0 = .ok (.aload_n 0, 1) := by decide +kernel
theorem d64_1 : decode (cc 64) 1 = .ok (.iload_n 1, 1) := by decide +kernel
theorem d64_2 : decode (cc 64) 2 = .ok (.invokevirtual 50, 3) := by decide +kernel
theorem d64_5 : decode (cc 64) 5 = .ok (.astore_n 3, 1) := by decide +kernel
theorem d64_6 : decode (cc 64) 6 = .ok (.iload_n 2, 1) := by decide +kernel
theorem d64_7 : decode (cc 64) 7 = .ok (.invokestatic 143, 3) := by decide +kernel
theorem d64_10 : decode (cc 64) 10 = .ok (.aload_n 0, 1) := by decide +kernel
theorem d64_11 : decode (cc 64) 11 = .ok (.invokevirtual 146, 3) := by decide +kernel
theorem d64_14 : decode (cc 64) 14 = .ok (.aload_n 3, 1) := by decide +kernel
theorem d64_15 : decode (cc 64) 15 = .ok (.getfield 155, 3) := by decide +kernel
theorem d64_18 : decode (cc 64) 18 = .ok (.iload_n 2, 1) := by decide +kernel
theorem d64_19 : decode (cc 64) 19 = .ok (.laload, 1) := by decide +kernel
theorem d64_20 : decode (cc 64) 20 = .ok (.lreturn, 1) := by decide +kernel
theorem d65_0 : decode (cc 65) 0 = .ok (.aload 4, 2) := by decide +kernel
theorem d65_2 : decode (cc 65) 2 = .ok (.iconst 0, 1) := by decide +kernel
theorem d65_3 : decode (cc 65) 3 = .ok (.aload_n 0, 1) := by decide +kernel
theorem d65_4 : decode (cc 65) 4 = .ok (.iload_n 1, 1) := by decide +kernel
theorem d65_5 : decode (cc 65) 5 = .ok (.iload_n 2, 1) := by decide +kernel
theorem d65_6 : decode (cc 65) 6 = .ok (.iload_n 3, 1) := by decide +kernel
theorem d65_7 : decode (cc 65) 7 = .ok (.invokevirtual 58, 3) := by decide +kernel
theorem d65_10 : decode (cc 65) 10 = .ok (.lastore, 1) := by decide +kernel
theorem d65_11 : decode (cc 65) 11 = .ok (.goto 15, 3) := by decide +kernel
theorem d65_14 : decode (cc 65) 14 = .ok (.astore 5, 2) := by decide +kernel
theorem d65_16 : decode (cc 65) 16 = .ok (.iconst 1, 1) := by decide +kernel
theorem d65_17 : decode (cc 65) 17 = .ok (.ireturn, 1) := by decide +kernel
theorem d65_18 : decode (cc 65) 18 = .ok (.astore 5, 2) := by decide +kernel
theorem d65_20 : decode (cc 65) 20 = .ok (.iconst 2, 1) := by decide +kernel
theorem d65_21 : decode (cc 65) 21 = .ok (.ireturn, 1) := by decide +kernel
theorem d65_22 : decode (cc 65) 22 = .ok (.astore 5, 2) := by decide +kernel
theorem d65_24 : decode (cc 65) 24 = .ok (.iconst 3, 1) := by decide +kernel
theorem d65_25 : decode (cc 65) 25 = .ok (.ireturn, 1) := by decide +kernel
theorem d65_26 : decode (cc 65) 26 = .ok (.iconst 0, 1) := by decide +kernel
theorem d65_27 : decode (cc 65) 27 = .ok (.ireturn, 1) := by decide +kernel
theorem d66_0 : decode (cc 66) 0 = .ok (.aload_n 0, 1) := by decide +kernel
theorem d66_1 : decode (cc 66) 1 = .ok (.getfield 25, 3) := by decide +kernel
theorem d66_4 : decode (cc 66) 4 = .ok (.iload_n 1, 1) := by decide +kernel
theorem d66_5 : decode (cc 66) 5 = .ok (.invokestatic 127, 3) := by decide +kernel
theorem d66_8 : decode (cc 66) 8 = .ok (.iload_n 2, 1) := by decide +kernel
theorem d66_9 : decode (cc 66) 9 = .ok (.iconst 1, 1) := by decide +kernel
theorem d66_10 : decode (cc 66) 10 = .ok (.if_icmp .ne 14, 3) := by decide +kernel
theorem d66_13 : decode (cc 66) 13 = .ok (.aload_n 0, 1) := by decide +kernel
theorem d66_14 : decode (cc 66) 14 = .ok (.getfield 29, 3) := by decide +kernel
theorem d66_17 : decode (cc 66) 17 = .ok (.iload_n 3, 1) := by decide +kernel
theorem d66_18 : decode (cc 66) 18 = .ok (.invokestatic 127, 3) := by decide +kernel
theorem d66_21 : decode (cc 66) 21 = .ok (.goto 12, 3) := by decide +kernel
theorem d66_24 : decode (cc 66) 24 = .ok (.iload_n 2, 1) := by decide +kernel
theorem d66_25 : decode (cc 66) 25 = .ok (.iconst 2, 1) := by decide +kernel
theorem d66_26 : decode (cc 66) 26 = .ok (.if_icmp .ne 7, 3) := by decide +kernel
theorem d66_29 : decode (cc 66) 29 = .ok (.iload_n 3, 1) := by decide +kernel
theorem d66_30 : decode (cc 66) 30 = .ok (.invokestatic 143, 3) := by decide +kernel
theorem d66_33 : decode (cc 66) 33 = .ok (.iload_n 2, 1) := by decide +kernel
theorem d66_34 : decode (cc 66) 34 = .ok (.iconst 0, 1) := by decide +kernel
theorem d66_35 : decode (cc 66) 35 = .ok (.iconst 2, 1) := by decide +kernel
theorem d66_36 : decode (cc 66) 36 = .ok (.invokestatic 54, 3) := by decide +kernel
theorem d66_39 : decode (cc 66) 39 = .ok (.aload_n 0, 1) := by decide +kernel
theorem d66_40 : decode (cc 66) 40 = .ok (.invokevirtual 146, 3) := by decide +kernel
theorem d66_43 : decode (cc 66) 43 = .ok (.iload_n 2, 1) := by decide +kernel
theorem d66_44 : decode (cc 66) 44 = .ok (.lookupswitch 42 #[(1, 28), (2, 35)], 28) := by decide +kernel
theorem d66_72 : decode (cc 66) 72 = .ok (.aload_n 0, 1) := by decide +kernel
theorem d66_73 : decode (cc 66) 73 = .ok (.iload_n 1, 1) := by decide +kernel
theorem d66_74 : decode (cc 66) 74 = .ok (.iload_n 3, 1) := by decide +kernel
theorem d66_75 : decode (cc 66) 75 = .ok (.invokevirtual 158, 3) := by decide +kernel
theorem d66_78 : decode (cc 66) 78 = .ok (.lreturn, 1) := by decide +kernel
theorem d66_79 : decode (cc 66) 79 = .ok (.aload_n 0, 1) := by decide +kernel
theorem d66_80 : decode (cc 66) 80 = .ok (.iload_n 1, 1) := by decide +kernel
theorem d66_81 : decode (cc 66) 81 = .ok (.iload_n 3, 1) := by decide +kernel
theorem d66_82 : decode (cc 66) 82 = .ok (.invokevirtual 162, 3) := by decide +kernel
theorem d66_85 : decode (cc 66) 85 = .ok (.lreturn, 1) := by decide +kernel
theorem d66_86 : decode (cc 66) 86 = .ok (.aload_n 0, 1) := by decide +kernel
theorem d66_87 : decode (cc 66) 87 = .ok (.iload_n 1, 1) := by decide +kernel
theorem d66_88 : decode (cc 66) 88 = .ok (.lconst 0, 1) := by decide +kernel
theorem d66_89 : decode (cc 66) 89 = .ok (.aload_n 0, 1) := by decide +kernel
theorem d66_90 : decode (cc 66) 90 = .ok (.aload_n 0, 1) := by decide +kernel
theorem d66_91 : decode (cc 66) 91 = .ok (.getfield 25, 3) := by decide +kernel
theorem d66_94 : decode (cc 66) 94 = .ok (.getfield 131, 3) := by decide +kernel
theorem d66_97 : decode (cc 66) 97 = .ok (.iload_n 1, 1) := by decide +kernel
theorem d66_98 : decode (cc 66) 98 = .ok (.iaload, 1) := by decide +kernel
theorem d66_99 : decode (cc 66) 99 = .ok (.invokevirtual 50, 3) := by decide +kernel
theorem d66_102 : decode (cc 66) 102 = .ok (.getfield 120, 3) := by decide +kernel
theorem d66_105 : decode (cc 66) 105 = .ok (.i2l, 1) := by decide +kernel
theorem d66_106 : decode (cc 66) 106 = .ok (.invokevirtual 165, 3) := by decide +kernel
theorem d66_109 : decode (cc 66) 109 = .ok (.lreturn, 1) := by decide +kernel
theorem d67_0 : decode (cc 67) 0 = .ok (.aload_n 0, 1) := by decide +kernel
theorem d67_1 : decode (cc 67) 1 = .ok (.getfield 29, 3) := by decide +kernel
theorem d67_4 : decode (cc 67) 4 = .ok (.getfield 131, 3) := by decide +kernel
theorem d67_7 : decode (cc 67) 7 = .ok (.iload_n 2, 1) := by decide +kernel
theorem d67_8 : decode (cc 67) 8 = .ok (.iaload, 1) := by decide +kernel
theorem d67_9 : decode (cc 67) 9 = .ok (.istore_n 3, 1) := by decide +kernel
theorem d67_10 : decode (cc 67) 10 = .ok (.iload_n 3, 1) := by decide +kernel
theorem d67_11 : decode (cc 67) 11 = .ok (.aload_n 0, 1) := by decide +kernel
theorem d67_12 : decode (cc 67) 12 = .ok (.getfield 25, 3) := by decide +kernel
theorem d67_15 : decode (cc 67) 15 = .ok (.getfield 131, 3) := by decide +kernel
theorem d67_18 : decode (cc 67) 18 = .ok (.iload_n 1, 1) := by decide +kernel
theorem d67_19 : decode (cc 67) 19 = .ok (.iaload, 1) := by decide +kernel
theorem d67_20 : decode (cc 67) 20 = .ok (.if_icmp .eq 5, 3) := by decide +kernel
theorem d67_23 : decode (cc 67) 23 = .ok (.lconst 0, 1) := by decide +kernel
theorem d67_24 : decode (cc 67) 24 = .ok (.lreturn, 1) := by decide +kernel
theorem d67_25 : decode (cc 67) 25 = .ok (.aload_n 0, 1) := by decide +kernel
theorem d67_26 : decode (cc 67) 26 = .ok (.getfield 29, 3) := by decide +kernel
theorem d67_29 : decode (cc 67) 29 = .ok (.getfield 263, 3) := by decide +kernel
theorem d67_32 : decode (cc 67) 32 = .ok (.iload_n 2, 1) := by decide +kernel
theorem d67_33 : decode (cc 67) 33 = .ok (.iaload, 1) := by decide +kernel
theorem d67_34 : decode (cc 67) 34 = .ok (.iconst 1, 1) := by decide +kernel
theorem d67_35 : decode (cc 67) 35 = .ok (.isub, 1) := by decide +kernel
theorem d67_36 : decode (cc 67) 36 = .ok (.istore 4, 2) := by decide +kernel
theorem d67_38 : decode (cc 67) 38 = .ok (.aload_n 0, 1) := by decide +kernel
theorem d67_39 : decode (cc 67) 39 = .ok (.iload_n 3, 1) := by decide +kernel
theorem d67_40 : decode (cc 67) 40 = .ok (.invokevirtual 50, 3) := by decide +kernel
theorem d67_43 : decode (cc 67) 43 = .ok (.getfield 120, 3) := by decide +kernel
theorem d67_46 : decode (cc 67) 46 = .ok (.i2l, 1) := by decide +kernel
theorem d67_47 : decode (cc 67) 47 = .ok (.aload_n 0, 1) := by decide +kernel
theorem d67_48 : decode (cc 67) 48 = .ok (.getfield 29, 3) := by decide +kernel
theorem d67_51 : decode (cc 67) 51 = .ok (.iload_n 3, 1) := by decide +kernel
theorem d67_52 : decode (cc 67) 52 = .ok (.iload 4, 2) := by decide +kernel
theorem d67_54 : decode (cc 67) 54 = .ok (.invokevirtual 266, 3) := by decide +kernel
theorem d67_57 : decode (cc 67) 57 = .ok (.ladd, 1) := by decide +kernel
theorem d67_58 : decode (cc 67) 58 = .ok (.aload_n 0, 1) := by decide +kernel
theorem d67_59 : decode (cc 67) 59 = .ok (.getfield 29, 3) := by decide +kernel
theorem d67_62 : decode (cc 67) 62 = .ok (.iload_n 2, 1) := by decide +kernel
theorem d67_63 : decode (cc 67) 63 = .ok (.invokevirtual 269, 3) := by decide +kernel
theorem d67_66 : decode (cc 67) 66 = .ok (.ladd, 1) := by decide +kernel
theorem d67_67 : decode (cc 67) 67 = .ok (.aload_n 0, 1) := by decide +kernel
theorem d67_68 : decode (cc 67) 68 = .ok (.getfield 11, 3) := by decide +kernel
theorem d67_71 : decode (cc 67) 71 = .ok (.iload_n 3, 1) := by decide +kernel
theorem d67_72 : decode (cc 67) 72 = .ok (.aaload, 1) := by decide +kernel
theorem d67_73 : decode (cc 67) 73 = .ok (.getfield 152, 3) := by decide +kernel
theorem d67_76 : decode (cc 67) 76 = .ok (.iload 4, 2) := by decide +kernel
theorem d67_78 : decode (cc 67) 78 = .ok (.invokestatic 272, 3) := by decide +kernel
theorem d67_81 : decode (cc 67) 81 = .ok (.ladd, 1) := by decide +kernel
theorem d67_82 : decode (cc 67) 82 = .ok (.lstore 5, 2) := by decide +kernel
theorem d67_84 : decode (cc 67) 84 = .ok (.aload_n 0, 1) := by decide +kernel
theorem d67_85 : decode (cc 67) 85 = .ok (.iload_n 1, 1) := by decide +kernel
theorem d67_86 : decode (cc 67) 86 = .ok (.lload 5, 2) := by decide +kernel
theorem d67_88 : decode (cc 67) 88 = .ok (.aload_n 0, 1) := by decide +kernel
theorem d67_89 : decode (cc 67) 89 = .ok (.getfield 29, 3) := by decide +kernel
theorem d67_92 : decode (cc 67) 92 = .ok (.getfield 276, 3) := by decide +kernel
theorem d67_95 : decode (cc 67) 95 = .ok (.iload_n 2, 1) := by decide +kernel
theorem d67_96 : decode (cc 67) 96 = .ok (.iaload, 1) := by decide +kernel
theorem d67_97 : decode (cc 67) 97 = .ok (.i2l, 1) := by decide +kernel
theorem d67_98 : decode (cc 67) 98 = .ok (.invokevirtual 165, 3) := by decide +kernel
theorem d67_101 : decode (cc 67) 101 = .ok (.lreturn, 1) := by decide +kernel
theorem d68_0 : decode (cc 68) 0 = .ok (.lconst 0, 1) := by decide +kernel
theorem d68_1 : decode (cc 68) 1 = .ok (.lstore_n 3, 1) := by decide +kernel
theorem d68_2 : decode (cc 68) 2 = .ok (.iconst 0, 1) := by decide +kernel
theorem d68_3 : decode (cc 68) 3 = .ok (.istore 5, 2) := by decide +kernel
theorem d68_5 : decode (cc 68) 5 = .ok (.iload 5, 2) := by decide +kernel
theorem d68_7 : decode (cc 68) 7 = .ok (.aload_n 0, 1) := by decide +kernel
theorem d68_8 : decode (cc 68) 8 = .ok (.getfield 21, 3) := by decide +kernel
theorem d68_11 : decode (cc 68) 11 = .ok (.if_icmp .ge 42, 3) := by decide +kernel
theorem d68_14 : decode (cc 68) 14 = .ok (.aload_n 0, 1) := by decide +kernel
theorem d68_15 : decode (cc 68) 15 = .ok (.getfield 9, 3) := by decide +kernel
theorem d68_18 : decode (cc 68) 18 = .ok (.iload 5, 2) := by decide +kernel
theorem d68_20 : decode (cc 68) 20 = .ok (.iaload, 1) := by decide +kernel
theorem d68_21 : decode (cc 68) 21 = .ok (.iload_n 1, 1) := by decide +kernel
theorem d68_22 : decode (cc 68) 22 = .ok (.if_icmp .ne 25, 3) := by decide +kernel
theorem d68_25 : decode (cc 68) 25 = .ok (.aload_n 0, 1) := by decide +kernel
theorem d68_26 : decode (cc 68) 26 = .ok (.getfield 15, 3) := by decide +kernel
theorem d68_29 : decode (cc 68) 29 = .ok (.iload 5, 2) := by decide +kernel
theorem d68_31 : decode (cc 68) 31 = .ok (.iaload, 1) := by decide +kernel
theorem d68_32 : decode (cc 68) 32 = .ok (.iload_n 2, 1) := by decide +kernel
theorem d68_33 : decode (cc 68) 33 = .ok (.if_icmp .gt 14, 3) := by decide +kernel
theorem d68_36 : decode (cc 68) 36 = .ok (.lload_n 3, 1) := by decide +kernel
theorem d68_37 : decode (cc 68) 37 = .ok (.aload_n 0, 1) := by decide +kernel
theorem d68_38 : decode (cc 68) 38 = .ok (.getfield 18, 3) := by decide +kernel
theorem d68_41 : decode (cc 68) 41 = .ok (.iload 5, 2) := by decide +kernel
theorem d68_43 : decode (cc 68) 43 = .ok (.iaload, 1) := by decide +kernel
theorem d68_44 : decode (cc 68) 44 = .ok (.i2l, 1) := by decide +kernel
theorem d68_45 : decode (cc 68) 45 = .ok (.ladd, 1) := by decide +kernel
theorem d68_46 : decode (cc 68) 46 = .ok (.lstore_n 3, 1) := by decide +kernel
theorem d68_47 : decode (cc 68) 47 = .ok (.iinc 5 1, 3) := by decide +kernel
theorem d68_50 : decode (cc 68) 50 = .ok (.goto (-45), 3) := by decide +kernel
theorem d68_53 : decode (cc 68) 53 = .ok (.lload_n 3, 1) := by decide +kernel
theorem d68_54 : decode (cc 68) 54 = .ok (.lreturn, 1) := by decide +kernel
theorem d69_0 : decode (cc 69) 0 = .ok (.lconst 0, 1) := by decide +kernel
theorem d69_1 : decode (cc 69) 1 = .ok (.lstore_n 2, 1) := by decide +kernel
theorem d69_2 : decode (cc 69) 2 = .ok (.iconst 0, 1) := by decide +kernel
theorem d69_3 : decode (cc 69) 3 = .ok (.istore 4, 2) := by decide +kernel
theorem d69_5 : decode (cc 69) 5 = .ok (.iload 4, 2) := by decide +kernel
theorem d69_7 : decode (cc 69) 7 = .ok (.iload_n 1, 1) := by decide +kernel
theorem d69_8 : decode (cc 69) 8 = .ok (.if_icmp .ge 52, 3) := by decide +kernel
theorem d69_11 : decode (cc 69) 11 = .ok (.aload_n 0, 1) := by decide +kernel
theorem d69_12 : decode (cc 69) 12 = .ok (.getfield 9, 3) := by decide +kernel
theorem d69_15 : decode (cc 69) 15 = .ok (.iload 4, 2) := by decide +kernel
theorem d69_17 : decode (cc 69) 17 = .ok (.iaload, 1) := by decide +kernel
theorem d69_18 : decode (cc 69) 18 = .ok (.aload_n 0, 1) := by decide +kernel
theorem d69_19 : decode (cc 69) 19 = .ok (.getfield 9, 3) := by decide +kernel
theorem d69_22 : decode (cc 69) 22 = .ok (.iload_n 1, 1) := by decide +kernel
theorem d69_23 : decode (cc 69) 23 = .ok (.iaload, 1) := by decide +kernel
theorem d69_24 : decode (cc 69) 24 = .ok (.if_icmp .ne 30, 3) := by decide +kernel
theorem d69_27 : decode (cc 69) 27 = .ok (.aload_n 0, 1) := by decide +kernel
theorem d69_28 : decode (cc 69) 28 = .ok (.getfield 15, 3) := by decide +kernel
theorem d69_31 : decode (cc 69) 31 = .ok (.iload 4, 2) := by decide +kernel
theorem d69_33 : decode (cc 69) 33 = .ok (.iaload, 1) := by decide +kernel
theorem d69_34 : decode (cc 69) 34 = .ok (.aload_n 0, 1) := by decide +kernel
theorem d69_35 : decode (cc 69) 35 = .ok (.getfield 15, 3) := by decide +kernel
theorem d69_38 : decode (cc 69) 38 = .ok (.iload_n 1, 1) := by decide +kernel
theorem d69_39 : decode (cc 69) 39 = .ok (.iaload, 1) := by decide +kernel
theorem d69_40 : decode (cc 69) 40 = .ok (.if_icmp .ne 14, 3) := by decide +kernel
theorem d69_43 : decode (cc 69) 43 = .ok (.lload_n 2, 1) := by decide +kernel
theorem d69_44 : decode (cc 69) 44 = .ok (.aload_n 0, 1) := by decide +kernel
theorem d69_45 : decode (cc 69) 45 = .ok (.getfield 18, 3) := by decide +kernel
theorem d69_48 : decode (cc 69) 48 = .ok (.iload 4, 2) := by decide +kernel
theorem d69_50 : decode (cc 69) 50 = .ok (.iaload, 1) := by decide +kernel
theorem d69_51 : decode (cc 69) 51 = .ok (.i2l, 1) := by decide +kernel
theorem d69_52 : decode (cc 69) 52 = .ok (.ladd, 1) := by decide +kernel
theorem d69_53 : decode (cc 69) 53 = .ok (.lstore_n 2, 1) := by decide +kernel
theorem d69_54 : decode (cc 69) 54 = .ok (.iinc 4 1, 3) := by decide +kernel
theorem d69_57 : decode (cc 69) 57 = .ok (.goto (-52), 3) := by decide +kernel
theorem d69_60 : decode (cc 69) 60 = .ok (.lload_n 2, 1) := by decide +kernel
theorem d69_61 : decode (cc 69) 61 = .ok (.lreturn, 1) := by decide +kernel
theorem d70_0 : decode (cc 70) 0 = .ok (.lconst 0, 1) := by decide +kernel
theorem d70_1 : decode (cc 70) 1 = .ok (.lstore_n 2, 1) := by decide +kernel
theorem d70_2 : decode (cc 70) 2 = .ok (.iconst 0, 1) := by decide +kernel
theorem d70_3 : decode (cc 70) 3 = .ok (.istore 4, 2) := by decide +kernel
theorem d70_5 : decode (cc 70) 5 = .ok (.iload 4, 2) := by decide +kernel
theorem d70_7 : decode (cc 70) 7 = .ok (.bipush 12, 2) := by decide +kernel
theorem d70_9 : decode (cc 70) 9 = .ok (.if_icmp .ge 22, 3) := by decide +kernel
theorem d70_12 : decode (cc 70) 12 = .ok (.iload 4, 2) := by decide +kernel
theorem d70_14 : decode (cc 70) 14 = .ok (.iload_n 1, 1) := by decide +kernel
theorem d70_15 : decode (cc 70) 15 = .ok (.if_icmp .gt 16, 3) := by decide +kernel
theorem d70_18 : decode (cc 70) 18 = .ok (.lload_n 2, 1) := by decide +kernel
theorem d70_19 : decode (cc 70) 19 = .ok (.aload_n 0, 1) := by decide +kernel
theorem d70_20 : decode (cc 70) 20 = .ok (.iload 4, 2) := by decide +kernel
theorem d70_22 : decode (cc 70) 22 = .ok (.laload, 1) := by decide +kernel
theorem d70_23 : decode (cc 70) 23 = .ok (.ladd, 1) := by decide +kernel
theorem d70_24 : decode (cc 70) 24 = .ok (.lstore_n 2, 1) := by decide +kernel
theorem d70_25 : decode (cc 70) 25 = .ok (.iinc 4 1, 3) := by decide +kernel
theorem d70_28 : decode (cc 70) 28 = .ok (.goto (-23), 3) := by decide +kernel
theorem d70_31 : decode (cc 70) 31 = .ok (.lload_n 2, 1) := by decide +kernel
theorem d70_32 : decode (cc 70) 32 = .ok (.lreturn, 1) := by decide +kernel
theorem d71_0 : decode (cc 71) 0 = .ok (.aload_n 0, 1) := by decide +kernel
theorem d71_1 : decode (cc 71) 1 = .ok (.aload_n 0, 1) := by decide +kernel
theorem d71_2 : decode (cc 71) 2 = .ok (.getfield 25, 3) := by decide +kernel
theorem d71_5 : decode (cc 71) 5 = .ok (.getfield 131, 3) := by decide +kernel
theorem d71_8 : decode (cc 71) 8 = .ok (.iload_n 1, 1) := by decide +kernel
theorem d71_9 : decode (cc 71) 9 = .ok (.iaload, 1) := by decide +kernel
theorem d71_10 : decode (cc 71) 10 = .ok (.invokevirtual 50, 3) := by decide +kernel
theorem d71_13 : decode (cc 71) 13 = .ok (.getfield 149, 3) := by decide +kernel
theorem d71_16 : decode (cc 71) 16 = .ok (.aload_n 0, 1) := by decide +kernel
theorem d71_17 : decode (cc 71) 17 = .ok (.getfield 25, 3) := by decide +kernel
theorem d71_20 : decode (cc 71) 20 = .ok (.getfield 263, 3) := by decide +kernel
theorem d71_23 : decode (cc 71) 23 = .ok (.iload_n 1, 1) := by decide +kernel
theorem d71_24 : decode (cc 71) 24 = .ok (.iaload, 1) := by decide +kernel
theorem d71_25 : decode (cc 71) 25 = .ok (.iconst 1, 1) := by decide +kernel
theorem d71_26 : decode (cc 71) 26 = .ok (.isub, 1) := by decide +kernel
theorem d71_27 : decode (cc 71) 27 = .ok (.invokestatic 272, 3) := by decide +kernel
theorem d71_30 : decode (cc 71) 30 = .ok (.aload_n 0, 1) := by decide +kernel
theorem d71_31 : decode (cc 71) 31 = .ok (.getfield 25, 3) := by decide +kernel
theorem d71_34 : decode (cc 71) 34 = .ok (.iload_n 1, 1) := by decide +kernel
theorem d71_35 : decode (cc 71) 35 = .ok (.invokevirtual 269, 3) := by decide +kernel
theorem d71_38 : decode (cc 71) 38 = .ok (.ladd, 1) := by decide +kernel
theorem d71_39 : decode (cc 71) 39 = .ok (.lstore 6, 2) := by decide +kernel
theorem d71_41 : decode (cc 71) 41 = .ok (.lload_n 2, 1) := by decide +kernel
theorem d71_42 : decode (cc 71) 42 = .ok (.lload 6, 2) := by decide +kernel
theorem d71_44 : decode (cc 71) 44 = .ok (.invokestatic 279, 3) := by decide +kernel
theorem d71_47 : decode (cc 71) 47 = .ok (.lstore 8, 2) := by decide +kernel
theorem d71_49 : decode (cc 71) 49 = .ok (.lload_n 2, 1) := by decide +kernel
theorem d71_50 : decode (cc 71) 50 = .ok (.lload 4, 2) := by decide +kernel
theorem d71_52 : decode (cc 71) 52 = .ok (.ladd, 1) := by decide +kernel
theorem d71_53 : decode (cc 71) 53 = .ok (.lload 6, 2) := by decide +kernel
theorem d71_55 : decode (cc 71) 55 = .ok (.aload_n 0, 1) := by decide +kernel
theorem d71_56 : decode (cc 71) 56 = .ok (.getfield 25, 3) := by decide +kernel
theorem d71_59 : decode (cc 71) 59 = .ok (.getfield 276, 3) := by decide +kernel
theorem d71_62 : decode (cc 71) 62 = .ok (.iload_n 1, 1) := by decide +kernel
theorem d71_63 : decode (cc 71) 63 = .ok (.iaload, 1) := by decide +kernel
theorem d71_64 : decode (cc 71) 64 = .ok (.i2l, 1) := by decide +kernel
theorem d71_65 : decode (cc 71) 65 = .ok (.ladd, 1) := by decide +kernel
theorem d71_66 : decode (cc 71) 66 = .ok (.invokestatic 285, 3) := by decide +kernel
theorem d71_69 : decode (cc 71) 69 = .ok (.lstore 10, 2) := by decide +kernel
theorem d71_71 : decode (cc 71) 71 = .ok (.lload 10, 2) := by decide +kernel
theorem d71_73 : decode (cc 71) 73 = .ok (.lload 8, 2) := by decide +kernel
theorem d71_75 : decode (cc 71) 75 = .ok (.lsub, 1) := by decide +kernel
theorem d71_76 : decode (cc 71) 76 = .ok (.lconst 0, 1) := by decide +kernel
theorem d71_77 : decode (cc 71) 77 = .ok (.invokestatic 279, 3) := by decide +kernel
theorem d71_80 : decode (cc 71) 80 = .ok (.lreturn, 1) := by decide +kernel
theorem d72_0 : decode (cc 72) 0 = .ok (.aload_n 0, 1) := by decide +kernel
theorem d72_1 : decode (cc 72) 1 = .ok (.getfield 25, 3) := by decide +kernel
theorem d72_4 : decode (cc 72) 4 = .ok (.getfield 131, 3) := by decide +kernel
theorem d72_7 : decode (cc 72) 7 = .ok (.iload_n 1, 1) := by decide +kernel
theorem d72_8 : decode (cc 72) 8 = .ok (.iaload, 1) := by decide +kernel
theorem d72_9 : decode (cc 72) 9 = .ok (.istore_n 3, 1) := by decide +kernel
theorem d72_10 : decode (cc 72) 10 = .ok (.aload_n 0, 1) := by decide +kernel
theorem d72_11 : decode (cc 72) 11 = .ok (.iload_n 3, 1) := by decide +kernel
theorem d72_12 : decode (cc 72) 12 = .ok (.invokevirtual 50, 3) := by decide +kernel
theorem d72_15 : decode (cc 72) 15 = .ok (.getfield 120, 3) := by decide +kernel
theorem d72_18 : decode (cc 72) 18 = .ok (.i2l, 1) := by decide +kernel
theorem d72_19 : decode (cc 72) 19 = .ok (.aload_n 0, 1) := by decide +kernel
theorem d72_20 : decode (cc 72) 20 = .ok (.getfield 29, 3) := by decide +kernel
theorem d72_23 : decode (cc 72) 23 = .ok (.iload_n 3, 1) := by decide +kernel
theorem d72_24 : decode (cc 72) 24 = .ok (.iload_n 2, 1) := by decide +kernel
theorem d72_25 : decode (cc 72) 25 = .ok (.invokevirtual 266, 3) := by decide +kernel
theorem d72_28 : decode (cc 72) 28 = .ok (.ladd, 1) := by decide +kernel
theorem d72_29 : decode (cc 72) 29 = .ok (.aload_n 0, 1) := by decide +kernel
theorem d72_30 : decode (cc 72) 30 = .ok (.getfield 11, 3) := by decide +kernel
theorem d72_33 : decode (cc 72) 33 = .ok (.iload_n 3, 1) := by decide +kernel
theorem d72_34 : decode (cc 72) 34 = .ok (.aaload, 1) := by decide +kernel
theorem d72_35 : decode (cc 72) 35 = .ok (.getfield 152, 3) := by decide +kernel
theorem d72_38 : decode (cc 72) 38 = .ok (.iload_n 2, 1) := by decide +kernel
theorem d72_39 : decode (cc 72) 39 = .ok (.iconst 1, 1) := by decide +kernel
theorem d72_40 : decode (cc 72) 40 = .ok (.isub, 1) := by decide +kernel
theorem d72_41 : decode (cc 72) 41 = .ok (.invokestatic 272, 3) := by decide +kernel
theorem d72_44 : decode (cc 72) 44 = .ok (.ladd, 1) := by decide +kernel
theorem d72_45 : decode (cc 72) 45 = .ok (.lstore 4, 2) := by decide +kernel
theorem d72_47 : decode (cc 72) 47 = .ok (.aload_n 0, 1) := by decide +kernel
theorem d72_48 : decode (cc 72) 48 = .ok (.iload_n 1, 1) := by decide +kernel
theorem d72_49 : decode (cc 72) 49 = .ok (.lload 4, 2) := by decide +kernel
theorem d72_51 : decode (cc 72) 51 = .ok (.aload_n 0, 1) := by decide +kernel
theorem d72_52 : decode (cc 72) 52 = .ok (.getfield 11, 3) := by decide +kernel
theorem d72_55 : decode (cc 72) 55 = .ok (.iload_n 3, 1) := by decide +kernel
theorem d72_56 : decode (cc 72) 56 = .ok (.aaload, 1) := by decide +kernel
theorem d72_57 : decode (cc 72) 57 = .ok (.getfield 152, 3) := by decide +kernel
theorem d72_60 : decode (cc 72) 60 = .ok (.iload_n 2, 1) := by decide +kernel
theorem d72_61 : decode (cc 72) 61 = .ok (.laload, 1) := by decide +kernel
theorem d72_62 : decode (cc 72) 62 = .ok (.invokevirtual 165, 3) := by decide +kernel
theorem d72_65 : decode (cc 72) 65 = .ok (.lreturn, 1) := by decide +kernel
theorem d73_0 : decode (cc 73) 0 = .ok (.aload 4, 2) := by decide +kernel
theorem d73_2 : decode (cc 73) 2 = .ok (.iconst 0, 1) := by decide +kernel
theorem d73_3 : decode (cc 73) 3 = .ok (.aload_n 0, 1) := by decide +kernel
theorem d73_4 : decode (cc 73) 4 = .ok (.iload_n 1, 1) := by decide +kernel
theorem d73_5 : decode (cc 73) 5 = .ok (.iload_n 2, 1) := by decide +kernel
theorem d73_6 : decode (cc 73) 6 = .ok (.iload_n 3, 1) := by decide +kernel
theorem d73_7 : decode (cc 73) 7 = .ok (.invokevirtual 62, 3) := by decide +kernel
theorem d73_10 : decode (cc 73) 10 = .ok (.i2l, 1) := by decide +kernel
theorem d73_11 : decode (cc 73) 11 = .ok (.lastore, 1) := by decide +kernel
theorem d73_12 : decode (cc 73) 12 = .ok (.goto 15, 3) := by decide +kernel
theorem d73_15 : decode (cc 73) 15 = .ok (.astore 5, 2) := by decide +kernel
theorem d73_17 : decode (cc 73) 17 = .ok (.iconst 1, 1) := by decide +kernel
theorem d73_18 : decode (cc 73) 18 = .ok (.ireturn, 1) := by decide +kernel
theorem d73_19 : decode (cc 73) 19 = .ok (.astore 5, 2) := by decide +kernel
theorem d73_21 : decode (cc 73) 21 = .ok (.iconst 2, 1) := by decide +kernel
theorem d73_22 : decode (cc 73) 22 = .ok (.ireturn, 1) := by decide +kernel
theorem d73_23 : decode (cc 73) 23 = .ok (.astore 5, 2) := by decide +kernel
theorem d73_25 : decode (cc 73) 25 = .ok (.iconst 3, 1) := by decide +kernel
theorem d73_26 : decode (cc 73) 26 = .ok (.ireturn, 1) := by decide +kernel
theorem d73_27 : decode (cc 73) 27 = .ok (.iconst 0, 1) := by decide +kernel
theorem d73_28 : decode (cc 73) 28 = .ok (.ireturn, 1) := by decide +kernel
theorem d74_0 : decode (cc 74) 0 = .ok (.iload_n 1, 1) := by decide +kernel
theorem d74_1 : decode (cc 74) 1 = .ok (.invokestatic 95, 3) := by decide +kernel
theorem d74_4 : decode (cc 74) 4 = .ok (.iload_n 3, 1) := by decide +kernel
theorem d74_5 : decode (cc 74) 5 = .ok (.invokestatic 143, 3) := by decide +kernel
theorem d74_8 : decode (cc 74) 8 = .ok (.iload_n 2, 1) := by decide +kernel
theorem d74_9 : decode (cc 74) 9 = .ok (.iconst 1, 1) := by decide +kernel
theorem d74_10 : decode (cc 74) 10 = .ok (.sipush 1000, 3) := by decide +kernel
theorem d74_13 : decode (cc 74) 13 = .ok (.invokestatic 54, 3) := by decide +kernel
theorem d74_16 : decode (cc 74) 16 = .ok (.aload_n 0, 1) := by decide +kernel
theorem d74_17 : decode (cc 74) 17 = .ok (.invokevirtual 146, 3) := by decide +kernel
theorem d74_20 : decode (cc 74) 20 = .ok (.aload_n 0, 1) := by decide +kernel
theorem d74_21 : decode (cc 74) 21 = .ok (.iload_n 1, 1) := by decide +kernel
theorem d74_22 : decode (cc 74) 22 = .ok (.iload_n 2, 1) := by decide +kernel
theorem d74_23 : decode (cc 74) 23 = .ok (.iload_n 3, 1) := by decide +kernel
theorem d74_24 : decode (cc 74) 24 = .ok (.invokevirtual 169, 3) := by decide +kernel
theorem d74_27 : decode (cc 74) 27 = .ok (.ireturn, 1) := by decide +kernel
theorem d75_0 : decode (cc 75) 0 = .ok (.iconst (-1), 1) := by decide +kernel
theorem d75_1 : decode (cc 75) 1 = .ok (.istore 4, 2) := by decide +kernel
theorem d75_3 : decode (cc 75) 3 = .ok (.bipush 11, 2) := by decide +kernel
theorem d75_5 : decode (cc 75) 5 = .ok (.istore 5, 2) := by decide +kernel
theorem d75_7 : decode (cc 75) 7 = .ok (.iload 5, 2) := by decide +kernel
theorem d75_9 : decode (cc 75) 9 = .ok (.iload_n 3, 1) := by decide +kernel
theorem d75_10 : decode (cc 75) 10 = .ok (.if_icmp .lt 44, 3) := by decide +kernel
theorem d75_13 : decode (cc 75) 13 = .ok (.aload_n 0, 1) := by decide +kernel
theorem d75_14 : decode (cc 75) 14 = .ok (.iload_n 1, 1) := by decide +kernel
theorem d75_15 : decode (cc 75) 15 = .ok (.invokevirtual 50, 3) := by decide +kernel
theorem d75_18 : decode (cc 75) 18 = .ok (.getfield 155, 3) := by decide +kernel
theorem d75_21 : decode (cc 75) 21 = .ok (.iload 5, 2) := by decide +kernel
theorem d75_23 : decode (cc 75) 23 = .ok (.laload, 1) := by decide +kernel
theorem d75_24 : decode (cc 75) 24 = .ok (.aload_n 0, 1) := by decide +kernel
theorem d75_25 : decode (cc 75) 25 = .ok (.getfield 32, 3) := by decide +kernel
theorem d75_28 : decode (cc 75) 28 = .ok (.iload_n 1, 1) := by decide +kernel
theorem d75_29 : decode (cc 75) 29 = .ok (.iload 5, 2) := by decide +kernel
theorem d75_31 : decode (cc 75) 31 = .ok (.invokevirtual 266, 3) := by decide +kernel
theorem d75_34 : decode (cc 75) 34 = .ok (.lsub, 1) := by decide +kernel
theorem d75_35 : decode (cc 75) 35 = .ok (.iload_n 2, 1) := by decide +kernel
theorem d75_36 : decode (cc 75) 36 = .ok (.i2l, 1) := by decide +kernel
theorem d75_37 : decode (cc 75) 37 = .ok (.lcmp, 1) := by decide +kernel
theorem d75_38 : decode (cc 75) 38 = .ok (.ifCond .ge 6, 3) := by decide +kernel
theorem d75_41 : decode (cc 75) 41 = .ok (.goto 13, 3) := by decide +kernel
theorem d75_44 : decode (cc 75) 44 = .ok (.iload 5, 2) := by decide +kernel
theorem d75_46 : decode (cc 75) 46 = .ok (.istore 4, 2) := by decide +kernel
theorem d75_48 : decode (cc 75) 48 = .ok (.iinc 5 (-1), 3) := by decide +kernel
theorem d75_51 : decode (cc 75) 51 = .ok (.goto (-44), 3) := by decide +kernel
theorem d75_54 : decode (cc 75) 54 = .ok (.iload 4, 2) := by decide +kernel
theorem d75_56 : decode (cc 75) 56 = .ok (.ireturn, 1) := by decide +kernel
theorem d76_0 : decode (cc 76) 0 = .ok (.aload 4, 2) := by decide +kernel
theorem d76_2 : decode (cc 76) 2 = .ok (.iconst 0, 1) := by decide +kernel
theorem d76_3 : decode (cc 76) 3 = .ok (.aload_n 0, 1) := by decide +kernel
theorem d76_4 : decode (cc 76) 4 = .ok (.iload_n 1, 1) := by decide +kernel
theorem d76_5 : decode (cc 76) 5 = .ok (.iload_n 2, 1) := by decide +kernel
theorem d76_6 : decode (cc 76) 6 = .ok (.iload_n 3, 1) := by decide +kernel
theorem d76_7 : decode (cc 76) 7 = .ok (.invokevirtual 65, 3) := by decide +kernel
theorem d76_10 : decode (cc 76) 10 = .ok (.i2l, 1) := by decide +kernel
theorem d76_11 : decode (cc 76) 11 = .ok (.lastore, 1) := by decide +kernel
theorem d76_12 : decode (cc 76) 12 = .ok (.goto 15, 3) := by decide +kernel
theorem d76_15 : decode (cc 76) 15 = .ok (.astore 5, 2) := by decide +kernel
theorem d76_17 : decode (cc 76) 17 = .ok (.iconst 1, 1) := by decide +kernel
theorem d76_18 : decode (cc 76) 18 = .ok (.ireturn, 1) := by decide +kernel
theorem d76_19 : decode (cc 76) 19 = .ok (.astore 5, 2) := by decide +kernel
theorem d76_21 : decode (cc 76) 21 = .ok (.iconst 2, 1) := by decide +kernel
theorem d76_22 : decode (cc 76) 22 = .ok (.ireturn, 1) := by decide +kernel
theorem d76_23 : decode (cc 76) 23 = .ok (.astore 5, 2) := by decide +kernel
theorem d76_25 : decode (cc 76) 25 = .ok (.iconst 3, 1) := by decide +kernel
theorem d76_26 : decode (cc 76) 26 = .ok (.ireturn, 1) := by decide +kernel
theorem d76_27 : decode (cc 76) 27 = .ok (.iconst 0, 1) := by decide +kernel
theorem d76_28 : decode (cc 76) 28 = .ok (.ireturn, 1) := by decide +kernel
theorem d77_0 : decode (cc 77) 0 = .ok (.iload_n 1, 1) := by decide +kernel
theorem d77_1 : decode (cc 77) 1 = .ok (.invokestatic 95, 3) := by decide +kernel
theorem d77_4 : decode (cc 77) 4 = .ok (.iload_n 3, 1) := by decide +kernel
theorem d77_5 : decode (cc 77) 5 = .ok (.invokestatic 143, 3) := by decide +kernel
theorem d77_8 : decode (cc 77) 8 = .ok (.iload_n 2, 1) := by decide +kernel
theorem d77_9 : decode (cc 77) 9 = .ok (.iconst 1, 1) := by decide +kernel
theorem d77_10 : decode (cc 77) 10 = .ok (.sipush 1000, 3) := by decide +kernel
theorem d77_13 : decode (cc 77) 13 = .ok (.invokestatic 54, 3) := by decide +kernel
theorem d77_16 : decode (cc 77) 16 = .ok (.aload_n 0, 1) := by decide +kernel
theorem d77_17 : decode (cc 77) 17 = .ok (.invokevirtual 146, 3) := by decide +kernel
theorem d77_20 : decode (cc 77) 20 = .ok (.aload_n 0, 1) := by decide +kernel
theorem d77_21 : decode (cc 77) 21 = .ok (.getfield 32, 3) := by decide +kernel
theorem d77_24 : decode (cc 77) 24 = .ok (.invokestatic 173, 3) := by decide +kernel
theorem d77_27 : decode (cc 77) 27 = .ok (.aload_n 0, 1) := by decide +kernel
theorem d77_28 : decode (cc 77) 28 = .ok (.iload_n 1, 1) := by decide +kernel
theorem d77_29 : decode (cc 77) 29 = .ok (.iload_n 2, 1) := by decide +kernel
theorem d77_30 : decode (cc 77) 30 = .ok (.iload_n 3, 1) := by decide +kernel
theorem d77_31 : decode (cc 77) 31 = .ok (.invokevirtual 169, 3) := by decide +kernel
theorem d77_34 : decode (cc 77) 34 = .ok (.iload_n 3, 1) := by decide +kernel
theorem d77_35 : decode (cc 77) 35 = .ok (.if_icmp .eq 5, 3) := by decide +kernel
theorem d77_38 : decode (cc 77) 38 = .ok (.iconst (-1), 1) := by decide +kernel
theorem d77_39 : decode (cc 77) 39 = .ok (.ireturn, 1) := by decide +kernel
theorem d77_40 : decode (cc 77) 40 = .ok (.aload_n 0, 1) := by decide +kernel
theorem d77_41 : decode (cc 77) 41 = .ok (.getfield 32, 3) := by decide +kernel
theorem d77_44 : decode (cc 77) 44 = .ok (.iload_n 1, 1) := by decide +kernel
theorem d77_45 : decode (cc 77) 45 = .ok (.iload_n 3, 1) := by decide +kernel
theorem d77_46 : decode (cc 77) 46 = .ok (.iload_n 2, 1) := by decide +kernel
theorem d77_47 : decode (cc 77) 47 = .ok (.invokevirtual 177, 3) := by decide +kernel
theorem d77_50 : decode (cc 77) 50 = .ok (.ireturn, 1) := by decide +kernel
theorem d78_0 : decode (cc 78) 0 = .ok (.aload_n 2, 1) := by decide +kernel
theorem d78_1 : decode (cc 78) 1 = .ok (.iconst 0, 1) := by decide +kernel
theorem d78_2 : decode (cc 78) 2 = .ok (.aload_n 0, 1) := by decide +kernel
theorem d78_3 : decode (cc 78) 3 = .ok (.iload_n 1, 1) := by decide +kernel
theorem d78_4 : decode (cc 78) 4 = .ok (.invokevirtual 68, 3) := by decide +kernel
theorem d78_7 : decode (cc 78) 7 = .ok (.i2l, 1) := by decide +kernel
theorem d78_8 : decode (cc 78) 8 = .ok (.lastore, 1) := by decide +kernel
theorem d78_9 : decode (cc 78) 9 = .ok (.goto 6, 3) := by decide +kernel
theorem d78_12 : decode (cc 78) 12 = .ok (.astore_n 3, 1) := by decide +kernel
theorem d78_13 : decode (cc 78) 13 = .ok (.iconst 1, 1) := by decide +kernel
theorem d78_14 : decode (cc 78) 14 = .ok (.ireturn, 1) := by decide +kernel
theorem d78_15 : decode (cc 78) 15 = .ok (.iconst 0, 1) := by decide +kernel
theorem d78_16 : decode (cc 78) 16 = .ok (.ireturn, 1) := by decide +kernel
theorem d79_0 : decode (cc 79) 0 = .ok (.aload_n 0, 1) := by decide +kernel
theorem d79_1 : decode (cc 79) 1 = .ok (.getfield 32, 3) := by decide +kernel
theorem d79_4 : decode (cc 79) 4 = .ok (.iload_n 1, 1) := by decide +kernel
theorem d79_5 : decode (cc 79) 5 = .ok (.invokestatic 127, 3) := by decide +kernel
theorem d79_8 : decode (cc 79) 8 = .ok (.aload_n 0, 1) := by decide +kernel
theorem d79_9 : decode (cc 79) 9 = .ok (.getfield 32, 3) := by decide +kernel
theorem d79_12 : decode (cc 79) 12 = .ok (.iload_n 1, 1) := by decide +kernel
theorem d79_13 : decode (cc 79) 13 = .ok (.iconst 0, 1) := by decide +kernel
theorem d79_14 : decode (cc 79) 14 = .ok (.invokevirtual 134, 3) := by decide +kernel
theorem d79_17 : decode (cc 79) 17 = .ok (.ireturn, 1) := by decide +kernel
theorem d80_0 : decode (cc 80) 0 = .ok (.aload_n 3, 1) := by decide +kernel
theorem d80_1 : decode (cc 80) 1 = .ok (.iconst 0, 1) := by decide +kernel
theorem d80_2 : decode (cc 80) 2 = .ok (.aload_n 0, 1) := by decide +kernel
theorem d80_3 : decode (cc 80) 3 = .ok (.iload_n 1, 1) := by decide +kernel
theorem d80_4 : decode (cc 80) 4 = .ok (.iload_n 2, 1) := by decide +kernel
theorem d80_5 : decode (cc 80) 5 = .ok (.invokevirtual 71, 3) := by decide +kernel
theorem d80_8 : decode (cc 80) 8 = .ok (.lastore, 1) := by decide +kernel
theorem d80_9 : decode (cc 80) 9 = .ok (.goto 11, 3) := by decide +kernel
theorem d80_12 : decode (cc 80) 12 = .ok (.astore 4, 2) := by decide +kernel
theorem d80_14 : decode (cc 80) 14 = .ok (.iconst 1, 1) := by decide +kernel
theorem d80_15 : decode (cc 80) 15 = .ok (.ireturn, 1) := by decide +kernel
theorem d80_16 : decode (cc 80) 16 = .ok (.astore 4, 2) := by decide +kernel
theorem d80_18 : decode (cc 80) 18 = .ok (.iconst 2, 1) := by decide +kernel
theorem d80_19 : decode (cc 80) 19 = .ok (.ireturn, 1) := by decide +kernel
theorem d80_20 : decode (cc 80) 20 = .ok (.iconst 0, 1) := by decide +kernel
theorem d80_21 : decode (cc 80) 21 = .ok (.ireturn, 1) := by decide +kernel
theorem d81_0 : decode (cc 81) 0 = .ok (.iload_n 1, 1) := by decide +kernel
theorem d81_1 : decode (cc 81) 1 = .ok (.invokestatic 85, 3) := by decide +kernel
theorem d81_4 : decode (cc 81) 4 = .ok (.iload_n 2, 1) := by decide +kernel
theorem d81_5 : decode (cc 81) 5 = .ok (.invokestatic 143, 3) := by decide +kernel
theorem d81_8 : decode (cc 81) 8 = .ok (.aload_n 0, 1) := by decide +kernel
theorem d81_9 : decode (cc 81) 9 = .ok (.invokevirtual 146, 3) := by decide +kernel
theorem d81_12 : decode (cc 81) 12 = .ok (.lconst 0, 1) := by decide +kernel
theorem d81_13 : decode (cc 81) 13 = .ok (.lstore_n 3, 1) := by decide +kernel
theorem d81_14 : decode (cc 81) 14 = .ok (.iconst 0, 1) := by decide +kernel
theorem d81_15 : decode (cc 81) 15 = .ok (.istore 5, 2) := by decide +kernel
theorem d81_17 : decode (cc 81) 17 = .ok (.iload 5, 2) := by decide +kernel
theorem d81_19 : decode (cc 81) 19 = .ok (.bipush 12, 2) := by decide +kernel
theorem d81_21 : decode (cc 81) 21 = .ok (.if_icmp .ge 49, 3) := by decide +kernel
theorem d81_24 : decode (cc 81) 24 = .ok (.aload_n 0, 1) := by decide +kernel
theorem d81_25 : decode (cc 81) 25 = .ok (.getfield 11, 3) := by decide +kernel
theorem d81_28 : decode (cc 81) 28 = .ok (.iload 5, 2) := by decide +kernel
theorem d81_30 : decode (cc 81) 30 = .ok (.aaload, 1) := by decide +kernel
theorem d81_31 : decode (cc 81) 31 = .ok (.getfield 89, 3) := by decide +kernel
theorem d81_34 : decode (cc 81) 34 = .ok (.iload_n 1, 1) := by decide +kernel
theorem d81_35 : decode (cc 81) 35 = .ok (.if_icmp .ne 29, 3) := by decide +kernel
theorem d81_38 : decode (cc 81) 38 = .ok (.lload_n 3, 1) := by decide +kernel
theorem d81_39 : decode (cc 81) 39 = .ok (.aload_n 0, 1) := by decide +kernel
theorem d81_40 : decode (cc 81) 40 = .ok (.getfield 11, 3) := by decide +kernel
theorem d81_43 : decode (cc 81) 43 = .ok (.iload 5, 2) := by decide +kernel
theorem d81_45 : decode (cc 81) 45 = .ok (.aaload, 1) := by decide +kernel
theorem d81_46 : decode (cc 81) 46 = .ok (.getfield 92, 3) := by decide +kernel
theorem d81_49 : decode (cc 81) 49 = .ok (.i2l, 1) := by decide +kernel
theorem d81_50 : decode (cc 81) 50 = .ok (.aload_n 0, 1) := by decide +kernel
theorem d81_51 : decode (cc 81) 51 = .ok (.getfield 11, 3) := by decide +kernel
theorem d81_54 : decode (cc 81) 54 = .ok (.iload 5, 2) := by decide +kernel
theorem d81_56 : decode (cc 81) 56 = .ok (.aaload, 1) := by decide +kernel
theorem d81_57 : decode (cc 81) 57 = .ok (.iload_n 2, 1) := by decide +kernel
theorem d81_58 : decode (cc 81) 58 = .ok (.invokevirtual 180, 3) := by decide +kernel
theorem d81_61 : decode (cc 81) 61 = .ok (.lmul, 1) := by decide +kernel
theorem d81_62 : decode (cc 81) 62 = .ok (.ladd, 1) := by decide +kernel
theorem d81_63 : decode (cc 81) 63 = .ok (.lstore_n 3, 1) := by decide +kernel
theorem d81_64 : decode (cc 81) 64 = .ok (.iinc 5 1, 3) := by decide +kernel
theorem d81_67 : decode (cc 81) 67 = .ok (.goto (-50), 3) := by decide +kernel
theorem d81_70 : decode (cc 81) 70 = .ok (.lload_n 3, 1) := by decide +kernel
theorem d81_71 : decode (cc 81) 71 = .ok (.lreturn, 1) := by decide +kernel
theorem d82_0 : decode (cc 82) 0 = .ok (.aload_n 2, 1) := by decide +kernel
theorem d82_1 : decode (cc 82) 1 = .ok (.iconst 0, 1) := by decide +kernel
theorem d82_2 : decode (cc 82) 2 = .ok (.aload_n 0, 1) := by decide +kernel
theorem d82_3 : decode (cc 82) 3 = .ok (.iload_n 1, 1) := by decide +kernel
theorem d82_4 : decode (cc 82) 4 = .ok (.invokevirtual 74, 3) := by decide +kernel
theorem d82_7 : decode (cc 82) 7 = .ok (.i2l, 1) := by decide +kernel
theorem d82_8 : decode (cc 82) 8 = .ok (.lastore, 1) := by decide +kernel
theorem d82_9 : decode (cc 82) 9 = .ok (.goto 6, 3) := by decide +kernel
theorem d82_12 : decode (cc 82) 12 = .ok (.astore_n 3, 1) := by decide +kernel
theorem d82_13 : decode (cc 82) 13 = .ok (.iconst 1, 1) := by decide +kernel
theorem d82_14 : decode (cc 82) 14 = .ok (.ireturn, 1) := by decide +kernel
theorem d82_15 : decode (cc 82) 15 = .ok (.iconst 0, 1) := by decide +kernel
theorem d82_16 : decode (cc 82) 16 = .ok (.ireturn, 1) := by decide +kernel
theorem d83_0 : decode (cc 83) 0 = .ok (.iload_n 1, 1) := by decide +kernel
theorem d83_1 : decode (cc 83) 1 = .ok (.tableswitch 93 0 5 #[39, 47, 55, 63, 71, 80], 39) := by decide +kernel
theorem d83_40 : decode (cc 83) 40 = .ok (.aload_n 0, 1) := by decide +kernel
theorem d83_41 : decode (cc 83) 41 = .ok (.getfield 18, 3) := by decide +kernel
theorem d83_44 : decode (cc 83) 44 = .ok (.getfield 184, 3) := by decide +kernel
theorem d83_47 : decode (cc 83) 47 = .ok (.ireturn, 1) := by decide +kernel
theorem d83_48 : decode (cc 83) 48 = .ok (.aload_n 0, 1) := by decide +kernel
theorem d83_49 : decode (cc 83) 49 = .ok (.getfield 25, 3) := by decide +kernel
theorem d83_52 : decode (cc 83) 52 = .ok (.getfield 187, 3) := by decide +kernel
theorem d83_55 : decode (cc 83) 55 = .ok (.ireturn, 1) := by decide +kernel
theorem d83_56 : decode (cc 83) 56 = .ok (.aload_n 0, 1) := by decide +kernel
theorem d83_57 : decode (cc 83) 57 = .ok (.getfield 29, 3) := by decide +kernel
theorem d83_60 : decode (cc 83) 60 = .ok (.getfield 187, 3) := by decide +kernel
theorem d83_63 : decode (cc 83) 63 = .ok (.ireturn, 1) := by decide +kernel
theorem d83_64 : decode (cc 83) 64 = .ok (.aload_n 0, 1) := by decide +kernel
theorem d83_65 : decode (cc 83) 65 = .ok (.getfield 32, 3) := by decide +kernel
theorem d83_68 : decode (cc 83) 68 = .ok (.getfield 187, 3) := by decide +kernel
theorem d83_71 : decode (cc 83) 71 = .ok (.ireturn, 1) := by decide +kernel
theorem d83_72 : decode (cc 83) 72 = .ok (.aload_n 0, 1) := by decide +kernel
theorem d83_73 : decode (cc 83) 73 = .ok (.invokevirtual 146, 3) := by decide +kernel
theorem d83_76 : decode (cc 83) 76 = .ok (.aload_n 0, 1) := by decide +kernel
theorem d83_77 : decode (cc 83) 77 = .ok (.invokevirtual 188, 3) := by decide +kernel
theorem d83_80 : decode (cc 83) 80 = .ok (.ireturn, 1) := by decide +kernel
theorem d83_81 : decode (cc 83) 81 = .ok (.aload_n 0, 1) := by decide +kernel
theorem d83_82 : decode (cc 83) 82 = .ok (.invokevirtual 192, 3) := by decide +kernel
theorem d83_85 : decode (cc 83) 85 = .ok (.ifCond .eq 7, 3) := by decide +kernel
theorem d83_88 : decode (cc 83) 88 = .ok (.iconst 1, 1) := by decide +kernel
theorem d83_89 : decode (cc 83) 89 = .ok (.goto 4, 3) := by decide +kernel
theorem d83_92 : decode (cc 83) 92 = .ok (.iconst 0, 1) := by decide +kernel
theorem d83_93 : decode (cc 83) 93 = .ok (.ireturn, 1) := by decide +kernel
theorem d83_94 : decode (cc 83) 94 = .ok (.iconst (-1), 1) := by decide +kernel
theorem d83_95 : decode (cc 83) 95 = .ok (.ireturn, 1) := by decide +kernel
theorem d84_0 : decode (cc 84) 0 = .ok (.iconst 0, 1) := by decide +kernel
theorem d84_1 : decode (cc 84) 1 = .ok (.istore_n 1, 1) := by decide +kernel
theorem d84_2 : decode (cc 84) 2 = .ok (.iconst 0, 1) := by decide +kernel
theorem d84_3 : decode (cc 84) 3 = .ok (.istore_n 2, 1) := by decide +kernel
theorem d84_4 : decode (cc 84) 4 = .ok (.iload_n 2, 1) := by decide +kernel
theorem d84_5 : decode (cc 84) 5 = .ok (.bipush 12, 2) := by decide +kernel
theorem d84_7 : decode (cc 84) 7 = .ok (.if_icmp .ge 24, 3) := by decide +kernel
theorem d84_10 : decode (cc 84) 10 = .ok (.aload_n 0, 1) := by decide +kernel
theorem d84_11 : decode (cc 84) 11 = .ok (.getfield 11, 3) := by decide +kernel
theorem d84_14 : decode (cc 84) 14 = .ok (.iload_n 2, 1) := by decide +kernel
theorem d84_15 : decode (cc 84) 15 = .ok (.aaload, 1) := by decide +kernel
theorem d84_16 : decode (cc 84) 16 = .ok (.invokevirtual 288, 3) := by decide +kernel
theorem d84_19 : decode (cc 84) 19 = .ok (.ifCond .eq 6, 3) := by decide +kernel
theorem d84_22 : decode (cc 84) 22 = .ok (.iinc 1 1, 3) := by decide +kernel
theorem d84_25 : decode (cc 84) 25 = .ok (.iinc 2 1, 3) := by decide +kernel
theorem d84_28 : decode (cc 84) 28 = .ok (.goto (-24), 3) := by decide +kernel
theorem d84_31 : decode (cc 84) 31 = .ok (.iload_n 1, 1) := by decide +kernel
theorem d84_32 : decode (cc 84) 32 = .ok (.ireturn, 1) := by decide +kernel
theorem d85_0 : decode (cc 85) 0 = .ok (.iconst 0, 1) := by decide +kernel
theorem d85_1 : decode (cc 85) 1 = .ok (.istore_n 1, 1) := by decide +kernel
theorem d85_2 : decode (cc 85) 2 = .ok (.iload_n 1, 1) := by decide +kernel
theorem d85_3 : decode (cc 85) 3 = .ok (.bipush 12, 2) := by decide +kernel
theorem d85_5 : decode (cc 85) 5 = .ok (.if_icmp .ge 22, 3) := by decide +kernel
theorem d85_8 : decode (cc 85) 8 = .ok (.aload_n 0, 1) := by decide +kernel
theorem d85_9 : decode (cc 85) 9 = .ok (.getfield 26, 3) := by decide +kernel
theorem d85_12 : decode (cc 85) 12 = .ok (.iload_n 1, 1) := by decide +kernel
theorem d85_13 : decode (cc 85) 13 = .ok (.laload, 1) := by decide +kernel
theorem d85_14 : decode (cc 85) 14 = .ok (.lconst 0, 1) := by decide +kernel
theorem d85_15 : decode (cc 85) 15 = .ok (.lcmp, 1) := by decide +kernel
theorem d85_16 : decode (cc 85) 16 = .ok (.ifCond .ge 5, 3) := by decide +kernel
theorem d85_19 : decode (cc 85) 19 = .ok (.iconst 1, 1) := by decide +kernel
theorem d85_20 : decode (cc 85) 20 = .ok (.ireturn, 1) := by decide +kernel
theorem d85_21 : decode (cc 85) 21 = .ok (.iinc 1 1, 3) := by decide +kernel
theorem d85_24 : decode (cc 85) 24 = .ok (.goto (-22), 3) := by decide +kernel
theorem d85_27 : decode (cc 85) 27 = .ok (.iconst 0, 1) := by decide +kernel
theorem d85_28 : decode (cc 85) 28 = .ok (.ireturn, 1) := by decide +kernel
theorem d86_0 : decode (cc 86) 0 = .ok (.aload_n 0, 1) := by decide +kernel
theorem d86_1 : decode (cc 86) 1 = .ok (.invokespecial 1, 3) := by decide +kernel
theorem d86_4 : decode (cc 86) 4 = .ok (.aload_n 0, 1) := by decide +kernel
theorem d86_5 : decode (cc 86) 5 = .ok (.bipush 12, 2) := by decide +kernel
theorem d86_7 : decode (cc 86) 7 = .ok (.newarray .int, 2) := by decide +kernel
theorem d86_9 : decode (cc 86) 9 = .ok (.putfield 7, 3) := by decide +kernel
theorem d86_12 : decode (cc 86) 12 = .ok (.aload_n 0, 1) := by decide +kernel
theorem d86_13 : decode (cc 86) 13 = .ok (.bipush 12, 2) := by decide +kernel
theorem d86_15 : decode (cc 86) 15 = .ok (.newarray .int, 2) := by decide +kernel
theorem d86_17 : decode (cc 86) 17 = .ok (.putfield 13, 3) := by decide +kernel
theorem d86_20 : decode (cc 86) 20 = .ok (.aload_n 0, 1) := by decide +kernel
theorem d86_21 : decode (cc 86) 21 = .ok (.bipush 12, 2) := by decide +kernel
theorem d86_23 : decode (cc 86) 23 = .ok (.newarray .int, 2) := by decide +kernel
theorem d86_25 : decode (cc 86) 25 = .ok (.putfield 16, 3) := by decide +kernel
theorem d86_28 : decode (cc 86) 28 = .ok (.aload_n 0, 1) := by decide +kernel
theorem d86_29 : decode (cc 86) 29 = .ok (.bipush 12, 2) := by decide +kernel
theorem d86_31 : decode (cc 86) 31 = .ok (.newarray .int, 2) := by decide +kernel
theorem d86_33 : decode (cc 86) 33 = .ok (.putfield 19, 3) := by decide +kernel
theorem d86_36 : decode (cc 86) 36 = .ok (.aload_n 0, 1) := by decide +kernel
theorem d86_37 : decode (cc 86) 37 = .ok (.bipush 12, 2) := by decide +kernel
theorem d86_39 : decode (cc 86) 39 = .ok (.newarray .int, 2) := by decide +kernel
theorem d86_41 : decode (cc 86) 41 = .ok (.putfield 22, 3) := by decide +kernel
theorem d86_44 : decode (cc 86) 44 = .ok (.aload_n 0, 1) := by decide +kernel
theorem d86_45 : decode (cc 86) 45 = .ok (.bipush 12, 2) := by decide +kernel
theorem d86_47 : decode (cc 86) 47 = .ok (.newarray .int, 2) := by decide +kernel
theorem d86_49 : decode (cc 86) 49 = .ok (.putfield 25, 3) := by decide +kernel
theorem d86_52 : decode (cc 86) 52 = .ok (.aload_n 0, 1) := by decide +kernel
theorem d86_53 : decode (cc 86) 53 = .ok (.bipush 12, 2) := by decide +kernel
theorem d86_55 : decode (cc 86) 55 = .ok (.newarray .int, 2) := by decide +kernel
theorem d86_57 : decode (cc 86) 57 = .ok (.putfield 28, 3) := by decide +kernel
theorem d86_60 : decode (cc 86) 60 = .ok (.aload_n 0, 1) := by decide +kernel
theorem d86_61 : decode (cc 86) 61 = .ok (.bipush 12, 2) := by decide +kernel
theorem d86_63 : decode (cc 86) 63 = .ok (.newarray .int, 2) := by decide +kernel
theorem d86_65 : decode (cc 86) 65 = .ok (.putfield 31, 3) := by decide +kernel
theorem d86_68 : decode (cc 86) 68 = .ok (.aload_n 0, 1) := by decide +kernel
theorem d86_69 : decode (cc 86) 69 = .ok (.bipush 12, 2) := by decide +kernel
theorem d86_71 : decode (cc 86) 71 = .ok (.newarray .int, 2) := by decide +kernel
theorem d86_73 : decode (cc 86) 73 = .ok (.putfield 34, 3) := by decide +kernel
theorem d86_76 : decode (cc 86) 76 = .ok (.aload_n 0, 1) := by decide +kernel
theorem d86_77 : decode (cc 86) 77 = .ok (.bipush 12, 2) := by decide +kernel
theorem d86_79 : decode (cc 86) 79 = .ok (.newarray .int, 2) := by decide +kernel
theorem d86_81 : decode (cc 86) 81 = .ok (.putfield 37, 3) := by decide +kernel
theorem d86_84 : decode (cc 86) 84 = .ok (.aload_n 0, 1) := by decide +kernel
theorem d86_85 : decode (cc 86) 85 = .ok (.sipush 144, 3) := by decide +kernel
theorem d86_88 : decode (cc 86) 88 = .ok (.newarray .int, 2) := by decide +kernel
theorem d86_90 : decode (cc 86) 90 = .ok (.putfield 40, 3) := by decide +kernel
theorem d86_93 : decode (cc 86) 93 = .ok (.aload_n 0, 1) := by decide +kernel
theorem d86_94 : decode (cc 86) 94 = .ok (.sipush 144, 3) := by decide +kernel
theorem d86_97 : decode (cc 86) 97 = .ok (.newarray .int, 2) := by decide +kernel
theorem d86_99 : decode (cc 86) 99 = .ok (.putfield 43, 3) := by decide +kernel
theorem d86_102 : decode (cc 86) 102 = .ok (.aload_n 0, 1) := by decide +kernel
theorem d86_103 : decode (cc 86) 103 = .ok (.sipush 144, 3) := by decide +kernel
theorem d86_106 : decode (cc 86) 106 = .ok (.newarray .int, 2) := by decide +kernel
theorem d86_108 : decode (cc 86) 108 = .ok (.putfield 46, 3) := by decide +kernel
theorem d86_111 : decode (cc 86) 111 = .ok (.aload_n 0, 1) := by decide +kernel
theorem d86_112 : decode (cc 86) 112 = .ok (.iconst 3, 1) := by decide +kernel
theorem d86_113 : decode (cc 86) 113 = .ok (.newarray .int, 2) := by decide +kernel
theorem d86_115 : decode (cc 86) 115 = .ok (.putfield 49, 3) := by decide +kernel
theorem d86_118 : decode (cc 86) 118 = .ok (.aload_n 0, 1) := by decide +kernel
theorem d86_119 : decode (cc 86) 119 = .ok (.bipush 72, 2) := by decide +kernel
theorem d86_121 : decode (cc 86) 121 = .ok (.newarray .int, 2) := by decide +kernel
theorem d86_123 : decode (cc 86) 123 = .ok (.putfield 52, 3) := by decide +kernel
theorem d86_126 : decode (cc 86) 126 = .ok (.aload_n 0, 1) := by decide +kernel
theorem d86_127 : decode (cc 86) 127 = .ok (.bipush 72, 2) := by decide +kernel
theorem d86_129 : decode (cc 86) 129 = .ok (.newarray .int, 2) := by decide +kernel
theorem d86_131 : decode (cc 86) 131 = .ok (.putfield 55, 3) := by decide +kernel
theorem d86_134 : decode (cc 86) 134 = .ok (.aload_n 0, 1) := by decide +kernel
theorem d86_135 : decode (cc 86) 135 = .ok (.bipush 72, 2) := by decide +kernel
theorem d86_137 : decode (cc 86) 137 = .ok (.newarray .int, 2) := by decide +kernel
theorem d86_139 : decode (cc 86) 139 = .ok (.putfield 58, 3) := by decide +kernel
theorem d86_142 : decode (cc 86) 142 = .ok (.aload_n 0, 1) := by decide +kernel
theorem d86_143 : decode (cc 86) 143 = .ok (.iconst 1, 1) := by decide +kernel
theorem d86_144 : decode (cc 86) 144 = .ok (.putfield 61, 3) := by decide +kernel
theorem d86_147 : decode (cc 86) 147 = .ok (.aload_n 0, 1) := by decide +kernel
theorem d86_148 : decode (cc 86) 148 = .ok (.bipush 12, 2) := by decide +kernel
theorem d86_150 : decode (cc 86) 150 = .ok (.newarray .boolean, 2) := by decide +kernel
theorem d86_152 : decode (cc 86) 152 = .ok (.putfield 65, 3) := by decide +kernel
theorem d86_155 : decode (cc 86) 155 = .ok (.aload_n 0, 1) := by decide +kernel
theorem d86_156 : decode (cc 86) 156 = .ok (.sipush 144, 3) := by decide +kernel
theorem d86_159 : decode (cc 86) 159 = .ok (.newarray .long, 2) := by decide +kernel
theorem d86_161 : decode (cc 86) 161 = .ok (.putfield 69, 3) := by decide +kernel
theorem d86_164 : decode (cc 86) 164 = .ok (.aload_n 0, 1) := by decide +kernel
theorem d86_165 : decode (cc 86) 165 = .ok (.sipush 144, 3) := by decide +kernel
theorem d86_168 : decode (cc 86) 168 = .ok (.newarray .long, 2) := by decide +kernel
theorem d86_170 : decode (cc 86) 170 = .ok (.putfield 73, 3) := by decide +kernel
theorem d86_173 : decode (cc 86) 173 = .ok (.aload_n 0, 1) := by decide +kernel
theorem d86_174 : decode (cc 86) 174 = .ok (.bipush 12, 2) := by decide +kernel
theorem d86_176 : decode (cc 86) 176 = .ok (.newarray .long, 2) := by decide +kernel
theorem d86_178 : decode (cc 86) 178 = .ok (.putfield 76, 3) := by decide +kernel
theorem d86_181 : decode (cc 86) 181 = .ok (.aload_n 0, 1) := by decide +kernel
theorem d86_182 : decode (cc 86) 182 = .ok (.bipush 13, 2) := by decide +kernel
theorem d86_184 : decode (cc 86) 184 = .ok (.newarray .long, 2) := by decide +kernel
theorem d86_186 : decode (cc 86) 186 = .ok (.putfield 79, 3) := by decide +kernel
theorem d86_189 : decode (cc 86) 189 = .ok (.aload_n 0, 1) := by decide +kernel
theorem d86_190 : decode (cc 86) 190 = .ok (.bipush 13, 2) := by decide +kernel
theorem d86_192 : decode (cc 86) 192 = .ok (.newarray .long, 2) := by decide +kernel
theorem d86_194 : decode (cc 86) 194 = .ok (.putfield 82, 3) := by decide +kernel
theorem d86_197 : decode (cc 86) 197 = .ok (.iconst 0, 1) := by decide +kernel
theorem d86_198 : decode (cc 86) 198 = .ok (.istore_n 1, 1) := by decide +kernel
theorem d86_199 : decode (cc 86) 199 = .ok (.iload_n 1, 1) := by decide +kernel
theorem d86_200 : decode (cc 86) 200 = .ok (.bipush 12, 2) := by decide +kernel
theorem d86_202 : decode (cc 86) 202 = .ok (.if_icmp .ge 16, 3) := by decide +kernel
theorem d86_205 : decode (cc 86) 205 = .ok (.aload_n 0, 1) := by decide +kernel
theorem d86_206 : decode (cc 86) 206 = .ok (.getfield 13, 3) := by decide +kernel
theorem d86_209 : decode (cc 86) 209 = .ok (.iload_n 1, 1) := by decide +kernel
theorem d86_210 : decode (cc 86) 210 = .ok (.iconst 1, 1) := by decide +kernel
theorem d86_211 : decode (cc 86) 211 = .ok (.iastore, 1) := by decide +kernel
theorem d86_212 : decode (cc 86) 212 = .ok (.iinc 1 1, 3) := by decide +kernel
theorem d86_215 : decode (cc 86) 215 = .ok (.goto (-16), 3) := by decide +kernel
theorem d86_218 : decode (cc 86) 218 = .ok (.return_, 1) := by decide +kernel
theorem d87_0 : decode (cc 87) 0 = .ok (.aload_n 0, 1) := by decide +kernel
theorem d87_1 : decode (cc 87) 1 = .ok (.getfield 85, 3) := by decide +kernel
theorem d87_4 : decode (cc 87) 4 = .ok (.ireturn, 1) := by decide +kernel
theorem d88_0 : decode (cc 88) 0 = .ok (.iload_n 2, 1) := by decide +kernel
theorem d88_1 : decode (cc 88) 1 = .ok (.iconst 0, 1) := by decide +kernel
theorem d88_2 : decode (cc 88) 2 = .ok (.iconst 3, 1) := by decide +kernel
theorem d88_3 : decode (cc 88) 3 = .ok (.invokestatic 89, 3) := by decide +kernel
theorem d88_6 : decode (cc 88) 6 = .ok (.ifCond .eq 40, 3) := by decide +kernel
theorem d88_9 : decode (cc 88) 9 = .ok (.iload_n 3, 1) := by decide +kernel
theorem d88_10 : decode (cc 88) 10 = .ok (.iconst 1, 1) := by decide +kernel
theorem d88_11 : decode (cc 88) 11 = .ok (.sipush 1000, 3) := by decide +kernel
theorem d88_14 : decode (cc 88) 14 = .ok (.invokestatic 89, 3) := by decide +kernel
theorem d88_17 : decode (cc 88) 17 = .ok (.ifCond .eq 29, 3) := by decide +kernel
theorem d88_20 : decode (cc 88) 20 = .ok (.iload 4, 2) := by decide +kernel
theorem d88_22 : decode (cc 88) 22 = .ok (.iconst 0, 1) := by decide +kernel
theorem d88_23 : decode (cc 88) 23 = .ok (.iconst 4, 1) := by decide +kernel
theorem d88_24 : decode (cc 88) 24 = .ok (.invokestatic 89, 3) := by decide +kernel
theorem d88_27 : decode (cc 88) 27 = .ok (.ifCond .eq 19, 3) := by decide +kernel
theorem d88_30 : decode (cc 88) 30 = .ok (.iload 5, 2) := by decide +kernel
theorem d88_32 : decode (cc 88) 32 = .ok (.iconst 0, 1) := by decide +kernel
theorem d88_33 : decode (cc 88) 33 = .ok (.sipush 1000, 3) := by decide +kernel
theorem d88_36 : decode (cc 88) 36 = .ok (.invokestatic 89, 3) := by decide +kernel
theorem d88_39 : decode (cc 88) 39 = .ok (.ifCond .eq 7, 3) := by decide +kernel
theorem d88_42 : decode (cc 88) 42 = .ok (.iconst 1, 1) := by decide +kernel
theorem d88_43 : decode (cc 88) 43 = .ok (.goto 4, 3) := by decide +kernel
theorem d88_46 : decode (cc 88) 46 = .ok (.iconst 0, 1) := by decide +kernel
theorem d88_47 : decode (cc 88) 47 = .ok (.istore 6, 2) := by decide +kernel
theorem d88_49 : decode (cc 88) 49 = .ok (.aload_n 0, 1) := by decide +kernel
theorem d88_50 : decode (cc 88) 50 = .ok (.iload_n 1, 1) := by decide +kernel
theorem d88_51 : decode (cc 88) 51 = .ok (.invokestatic 93, 3) := by decide +kernel
theorem d88_54 : decode (cc 88) 54 = .ok (.ifCond .ne 7, 3) := by decide +kernel
theorem d88_57 : decode (cc 88) 57 = .ok (.iconst 1, 1) := by decide +kernel
theorem d88_58 : decode (cc 88) 58 = .ok (.goto 13, 3) := by decide +kernel
theorem d88_61 : decode (cc 88) 61 = .ok (.iload 6, 2) := by decide +kernel
theorem d88_63 : decode (cc 88) 63 = .ok (.ifCond .ne 7, 3) := by decide +kernel
theorem d88_66 : decode (cc 88) 66 = .ok (.iconst 2, 1) := by decide +kernel
theorem d88_67 : decode (cc 88) 67 = .ok (.goto 4, 3) := by decide +kernel
theorem d88_70 : decode (cc 88) 70 = .ok (.iconst 0, 1) := by decide +kernel
theorem d88_71 : decode (cc 88) 71 = .ok (.invokevirtual 97, 3) := by decide +kernel
theorem d88_74 : decode (cc 88) 74 = .ok (.ifCond .ne 38, 3) := by decide +kernel
theorem d88_77 : decode (cc 88) 77 = .ok (.aload_n 0, 1) := by decide +kernel
theorem d88_78 : decode (cc 88) 78 = .ok (.getfield 7, 3) := by decide +kernel
theorem d88_81 : decode (cc 88) 81 = .ok (.iload_n 1, 1) := by decide +kernel
theorem d88_82 : decode (cc 88) 82 = .ok (.iload_n 2, 1) := by decide +kernel
theorem d88_83 : decode (cc 88) 83 = .ok (.iastore, 1) := by decide +kernel
theorem d88_84 : decode (cc 88) 84 = .ok (.aload_n 0, 1) := by decide +kernel
theorem d88_85 : decode (cc 88) 85 = .ok (.getfield 13, 3) := by decide +kernel
theorem d88_88 : decode (cc 88) 88 = .ok (.iload_n 1, 1) := by decide +kernel
theorem d88_89 : decode (cc 88) 89 = .ok (.iload_n 3, 1) := by decide +kernel
theorem d88_90 : decode (cc 88) 90 = .ok (.iastore, 1) := by decide +kernel
theorem d88_91 : decode (cc 88) 91 = .ok (.aload_n 0, 1) := by decide +kernel
theorem d88_92 : decode (cc 88) 92 = .ok (.getfield 16, 3) := by decide +kernel
theorem d88_95 : decode (cc 88) 95 = .ok (.iload_n 1, 1) := by decide +kernel
theorem d88_96 : decode (cc 88) 96 = .ok (.iload 4, 2) := by decide +kernel
theorem d88_98 : decode (cc 88) 98 = .ok (.iastore, 1) := by decide +kernel
theorem d88_99 : decode (cc 88) 99 = .ok (.aload_n 0, 1) := by decide +kernel
theorem d88_100 : decode (cc 88) 100 = .ok (.getfield 19, 3) := by decide +kernel
theorem d88_103 : decode (cc 88) 103 = .ok (.iload_n 1, 1) := by decide +kernel
theorem d88_104 : decode (cc 88) 104 = .ok (.iload 5, 2) := by decide +kernel
theorem d88_106 : decode (cc 88) 106 = .ok (.iastore, 1) := by decide +kernel
theorem d88_107 : decode (cc 88) 107 = .ok (.aload_n 0, 1) := by decide +kernel
theorem d88_108 : decode (cc 88) 108 = .ok (.iload_n 1, 1) := by decide +kernel
theorem d88_109 : decode (cc 88) 109 = .ok (.invokevirtual 100, 3) := by decide +kernel
theorem d88_112 : decode (cc 88) 112 = .ok (.return_, 1) := by decide +kernel
theorem d89_0 : decode (cc 89) 0 = .ok (.iload_n 0, 1) := by decide +kernel
theorem d89_1 : decode (cc 89) 1 = .ok (.iload_n 1, 1) := by decide +kernel
theorem d89_2 : decode (cc 89) 2 = .ok (.if_icmp .lt 12, 3) := by decide +kernel
theorem d89_5 : decode (cc 89) 5 = .ok (.iload_n 0, 1) := by decide +kernel
theorem d89_6 : decode (cc 89) 6 = .ok (.iload_n 2, 1) := by decide +kernel
theorem d89_7 : decode (cc 89) 7 = .ok (.if_icmp .gt 7, 3) := by decide +kernel
theorem d89_10 : decode (cc 89) 10 = .ok (.iconst 1, 1) := by decide +kernel
theorem d89_11 : decode (cc 89) 11 = .ok (.goto 4, 3) := by decide +kernel
theorem d89_14 : decode (cc 89) 14 = .ok (.iconst 0, 1) := by decide +kernel
theorem d89_15 : decode (cc 89) 15 = .ok (.ireturn, 1) := by decide +kernel
theorem d90_0 : decode (cc 90) 0 = .ok (.iload_n 0, 1) := by decide +kernel
theorem d90_1 : decode (cc 90) 1 = .ok (.iconst 0, 1) := by decide +kernel
theorem d90_2 : decode (cc 90) 2 = .ok (.bipush 11, 2) := by decide +kernel
theorem d90_4 : decode (cc 90) 4 = .ok (.invokestatic 89, 3) := by decide +kernel
theorem d90_7 : decode (cc 90) 7 = .ok (.ireturn, 1) := by decide +kernel
theorem d91_0 : decode (cc 91) 0 = .ok (.aload_n 0, 1) := by decide +kernel
theorem d91_1 : decode (cc 91) 1 = .ok (.iload_n 1, 1) := by decide +kernel
theorem d91_2 : decode (cc 91) 2 = .ok (.putfield 85, 3) := by decide +kernel
theorem d91_5 : decode (cc 91) 5 = .ok (.iload_n 1, 1) := by decide +kernel
theorem d91_6 : decode (cc 91) 6 = .ok (.ifCond .le 7, 3) := by decide +kernel
theorem d91_9 : decode (cc 91) 9 = .ok (.iconst 1, 1) := by decide +kernel
theorem d91_10 : decode (cc 91) 10 = .ok (.goto 4, 3) := by decide +kernel
theorem d91_13 : decode (cc 91) 13 = .ok (.iconst 0, 1) := by decide +kernel
theorem d91_14 : decode (cc 91) 14 = .ok (.ireturn, 1) := by decide +kernel
theorem d92_0 : decode (cc 92) 0 = .ok (.aload_n 0, 1) := by decide +kernel
theorem d92_1 : decode (cc 92) 1 = .ok (.getfield 65, 3) := by decide +kernel
theorem d92_4 : decode (cc 92) 4 = .ok (.iload_n 1, 1) := by decide +kernel
theorem d92_5 : decode (cc 92) 5 = .ok (.iconst 1, 1) := by decide +kernel
theorem d92_6 : decode (cc 92) 6 = .ok (.bastore, 1) := by decide +kernel
theorem d92_7 : decode (cc 92) 7 = .ok (.aload_n 0, 1) := by decide +kernel
theorem d92_8 : decode (cc 92) 8 = .ok (.iconst 1, 1) := by decide +kernel
theorem d92_9 : decode (cc 92) 9 = .ok (.putfield 61, 3) := by decide +kernel
theorem d92_12 : decode (cc 92) 12 = .ok (.return_, 1) := by decide +kernel
theorem d93_0 : decode (cc 93) 0 = .ok (.iload_n 2, 1) := by decide +kernel
theorem d93_1 : decode (cc 93) 1 = .ok (.iconst 0, 1) := by decide +kernel
theorem d93_2 : decode (cc 93) 2 = .ok (.sipush 200, 3) := by decide +kernel
theorem d93_5 : decode (cc 93) 5 = .ok (.invokestatic 89, 3) := by decide +kernel
theorem d93_8 : decode (cc 93) 8 = .ok (.ifCond .eq 28, 3) := by decide +kernel
theorem d93_11 : decode (cc 93) 11 = .ok (.iload_n 3, 1) := by decide +kernel
theorem d93_12 : decode (cc 93) 12 = .ok (.iconst 0, 1) := by decide +kernel
theorem d93_13 : decode (cc 93) 13 = .ok (.ldc 104, 2) := by decide +kernel
theorem d93_15 : decode (cc 93) 15 = .ok (.invokestatic 89, 3) := by decide +kernel
theorem d93_18 : decode (cc 93) 18 = .ok (.ifCond .eq 18, 3) := by decide +kernel
theorem d93_21 : decode (cc 93) 21 = .ok (.iload 4, 2) := by decide +kernel
theorem d93_23 : decode (cc 93) 23 = .ok (.iconst 0, 1) := by decide +kernel
theorem d93_24 : decode (cc 93) 24 = .ok (.bipush 100, 2) := by decide +kernel
theorem d93_26 : decode (cc 93) 26 = .ok (.invokestatic 89, 3) := by decide +kernel
theorem d93_29 : decode (cc 93) 29 = .ok (.ifCond .eq 7, 3) := by decide +kernel
theorem d93_32 : decode (cc 93) 32 = .ok (.iconst 1, 1) := by decide +kernel
theorem d93_33 : decode (cc 93) 33 = .ok (.goto 4, 3) := by decide +kernel
theorem d93_36 : decode (cc 93) 36 = .ok (.iconst 0, 1) := by decide +kernel
theorem d93_37 : decode (cc 93) 37 = .ok (.istore 5, 2) := by decide +kernel
theorem d93_39 : decode (cc 93) 39 = .ok (.aload_n 0, 1) := by decide +kernel
theorem d93_40 : decode (cc 93) 40 = .ok (.iload_n 1, 1) := by decide +kernel
theorem d93_41 : decode (cc 93) 41 = .ok (.invokestatic 93, 3) := by decide +kernel
theorem d93_44 : decode (cc 93) 44 = .ok (.ifCond .ne 7, 3) := by decide +kernel
theorem d93_47 : decode (cc 93) 47 = .ok (.iconst 1, 1) := by decide +kernel
theorem d93_48 : decode (cc 93) 48 = .ok (.goto 13, 3) := by decide +kernel
theorem d93_51 : decode (cc 93) 51 = .ok (.iload 5, 2) := by decide +kernel
theorem d93_53 : decode (cc 93) 53 = .ok (.ifCond .ne 7, 3) := by decide +kernel
theorem d93_56 : decode (cc 93) 56 = .ok (.iconst 2, 1) := by decide +kernel
theorem d93_57 : decode (cc 93) 57 = .ok (.goto 4, 3) := by decide +kernel
theorem d93_60 : decode (cc 93) 60 = .ok (.iconst 0, 1) := by decide +kernel
theorem d93_61 : decode (cc 93) 61 = .ok (.invokevirtual 97, 3) := by decide +kernel
theorem d93_64 : decode (cc 93) 64 = .ok (.ifCond .ne 30, 3) := by decide +kernel
theorem d93_67 : decode (cc 93) 67 = .ok (.aload_n 0, 1) := by decide +kernel
theorem d93_68 : decode (cc 93) 68 = .ok (.getfield 22, 3) := by decide +kernel
theorem d93_71 : decode (cc 93) 71 = .ok (.iload_n 1, 1) := by decide +kernel
theorem d93_72 : decode (cc 93) 72 = .ok (.iload_n 2, 1) := by decide +kernel
theorem d93_73 : decode (cc 93) 73 = .ok (.iastore, 1) := by decide +kernel
theorem d93_74 : decode (cc 93) 74 = .ok (.aload_n 0, 1) := by decide +kernel
theorem d93_75 : decode (cc 93) 75 = .ok (.getfield 25, 3) := by decide +kernel
theorem d93_78 : decode (cc 93) 78 = .ok (.iload_n 1, 1) := by decide +kernel
theorem d93_79 : decode (cc 93) 79 = .ok (.iload_n 3, 1) := by decide +kernel
theorem d93_80 : decode (cc 93) 80 = .ok (.iastore, 1) := by decide +kernel
theorem d93_81 : decode (cc 93) 81 = .ok (.aload_n 0, 1) := by decide +kernel
theorem d93_82 : decode (cc 93) 82 = .ok (.getfield 28, 3) := by decide +kernel
theorem d93_85 : decode (cc 93) 85 = .ok (.iload_n 1, 1) := by decide +kernel
theorem d93_86 : decode (cc 93) 86 = .ok (.iload 4, 2) := by decide +kernel
theorem d93_88 : decode (cc 93) 88 = .ok (.iastore, 1) := by decide +kernel
theorem d93_89 : decode (cc 93) 89 = .ok (.aload_n 0, 1) := by decide +kernel
theorem d93_90 : decode (cc 93) 90 = .ok (.iload_n 1, 1) := by decide +kernel
theorem d93_91 : decode (cc 93) 91 = .ok (.invokevirtual 100, 3) := by decide +kernel
theorem d93_94 : decode (cc 93) 94 = .ok (.return_, 1) := by decide +kernel
theorem d94_0 : decode (cc 94) 0 = .ok (.aload_n 0, 1) := by decide +kernel
theorem d94_1 : decode (cc 94) 1 = .ok (.iload_n 1, 1) := by decide +kernel
theorem d94_2 : decode (cc 94) 2 = .ok (.invokestatic 93, 3) := by decide +kernel
theorem d94_5 : decode (cc 94) 5 = .ok (.ifCond .eq 12, 3) := by decide +kernel
theorem d94_8 : decode (cc 94) 8 = .ok (.iload_n 2, 1) := by decide +kernel
theorem d94_9 : decode (cc 94) 9 = .ok (.iconst 0, 1) := by decide +kernel
theorem d94_10 : decode (cc 94) 10 = .ok (.iconst 2, 1) := by decide +kernel
theorem d94_11 : decode (cc 94) 11 = .ok (.invokestatic 89, 3) := by decide +kernel
theorem d94_14 : decode (cc 94) 14 = .ok (.ifCond .ne 7, 3) := by decide +kernel
theorem d94_17 : decode (cc 94) 17 = .ok (.iconst 1, 1) := by decide +kernel
theorem d94_18 : decode (cc 94) 18 = .ok (.goto 18, 3) := by decide +kernel
theorem d94_21 : decode (cc 94) 21 = .ok (.iload_n 3, 1) := by decide +kernel
theorem d94_22 : decode (cc 94) 22 = .ok (.iconst 0, 1) := by decide +kernel
theorem d94_23 : decode (cc 94) 23 = .ok (.bipush 9, 2) := by decide +kernel
theorem d94_25 : decode (cc 94) 25 = .ok (.invokestatic 89, 3) := by decide +kernel
theorem d94_28 : decode (cc 94) 28 = .ok (.ifCond .ne 7, 3) := by decide +kernel
theorem d94_31 : decode (cc 94) 31 = .ok (.iconst 2, 1) := by decide +kernel
theorem d94_32 : decode (cc 94) 32 = .ok (.goto 4, 3) := by decide +kernel
theorem d94_35 : decode (cc 94) 35 = .ok (.iconst 0, 1) := by decide +kernel
theorem d94_36 : decode (cc 94) 36 = .ok (.invokevirtual 97, 3) := by decide +kernel
theorem d94_39 : decode (cc 94) 39 = .ok (.ifCond .ne 17, 3) := by decide +kernel
theorem d94_42 : decode (cc 94) 42 = .ok (.aload_n 0, 1) := by decide +kernel
theorem d94_43 : decode (cc 94) 43 = .ok (.getfield 34, 3) := by decide +kernel
theorem d94_46 : decode (cc 94) 46 = .ok (.iload_n 1, 1) := by decide +kernel
theorem d94_47 : decode (cc 94) 47 = .ok (.iload_n 2, 1) := by decide +kernel
theorem d94_48 : decode (cc 94) 48 = .ok (.iastore, 1) := by decide +kernel
theorem d94_49 : decode (cc 94) 49 = .ok (.aload_n 0, 1) := by decide +kernel
theorem d94_50 : decode (cc 94) 50 = .ok (.getfield 37, 3) := by decide +kernel
theorem d94_53 : decode (cc 94) 53 = .ok (.iload_n 1, 1) := by decide +kernel
theorem d94_54 : decode (cc 94) 54 = .ok (.iload_n 3, 1) := by decide +kernel
theorem d94_55 : decode (cc 94) 55 = .ok (.iastore, 1) := by decide +kernel
theorem d94_56 : decode (cc 94) 56 = .ok (.return_, 1) := by decide +kernel
theorem d95_0 : decode (cc 95) 0 = .ok (.iload_n 3, 1) := by decide +kernel
theorem d95_1 : decode (cc 95) 1 = .ok (.ifCond .eq 26, 3) := by decide +kernel
theorem d95_4 : decode (cc 95) 4 = .ok (.iload 4, 2) := by decide +kernel
theorem d95_6 : decode (cc 95) 6 = .ok (.invokestatic 93, 3) := by decide +kernel
theorem d95_9 : decode (cc 95) 9 = .ok (.ifCond .eq 22, 3) := by decide +kernel
theorem d95_12 : decode (cc 95) 12 = .ok (.iload 5, 2) := by decide +kernel
theorem d95_14 : decode (cc 95) 14 = .ok (.invokestatic 93, 3) := by decide +kernel
theorem d95_17 : decode (cc 95) 17 = .ok (.ifCond .eq 14, 3) := by decide +kernel
theorem d95_20 : decode (cc 95) 20 = .ok (.iload 4, 2) := by decide +kernel
theorem d95_22 : decode (cc 95) 22 = .ok (.iload 5, 2) := by decide +kernel
theorem d95_24 : decode (cc 95) 24 = .ok (.if_icmp .gt 7, 3) := by decide +kernel
theorem d95_27 : decode (cc 95) 27 = .ok (.iconst 1, 1) := by decide +kernel
theorem d95_28 : decode (cc 95) 28 = .ok (.goto 4, 3) := by decide +kernel
theorem d95_31 : decode (cc 95) 31 = .ok (.iconst 0, 1) := by decide +kernel
theorem d95_32 : decode (cc 95) 32 = .ok (.istore 6, 2) := by decide +kernel
theorem d95_34 : decode (cc 95) 34 = .ok (.aload_n 0, 1) := by decide +kernel
theorem d95_35 : decode (cc 95) 35 = .ok (.iload_n 1, 1) := by decide +kernel
theorem d95_36 : decode (cc 95) 36 = .ok (.invokestatic 93, 3) := by decide +kernel
theorem d95_39 : decode (cc 95) 39 = .ok (.ifCond .eq 10, 3) := by decide +kernel
theorem d95_42 : decode (cc 95) 42 = .ok (.iload_n 2, 1) := by decide +kernel
theorem d95_43 : decode (cc 95) 43 = .ok (.invokestatic 93, 3) := by decide +kernel
theorem d95_46 : decode (cc 95) 46 = .ok (.ifCond .ne 7, 3) := by decide +kernel
theorem d95_49 : decode (cc 95) 49 = .ok (.iconst 1, 1) := by decide +kernel
theorem d95_50 : decode (cc 95) 50 = .ok (.goto 23, 3) := by decide +kernel
theorem d95_53 : decode (cc 95) 53 = .ok (.iload_n 3, 1) := by decide +kernel
theorem d95_54 : decode (cc 95) 54 = .ok (.iconst 0, 1) := by decide +kernel
theorem d95_55 : decode (cc 95) 55 = .ok (.bipush 9, 2) := by decide +kernel
theorem d95_57 : decode (cc 95) 57 = .ok (.invokestatic 89, 3) := by decide +kernel
theorem d95_60 : decode (cc 95) 60 = .ok (.ifCond .eq 8, 3) := by decide +kernel
theorem d95_63 : decode (cc 95) 63 = .ok (.iload 6, 2) := by decide +kernel
theorem d95_65 : decode (cc 95) 65 = .ok (.ifCond .ne 7, 3) := by decide +kernel
theorem d95_68 : decode (cc 95) 68 = .ok (.iconst 2, 1) := by decide +kernel
theorem d95_69 : decode (cc 95) 69 = .ok (.goto 4, 3) := by decide +kernel
theorem d95_72 : decode (cc 95) 72 = .ok (.iconst 0, 1) := by decide +kernel
theorem d95_73 : decode (cc 95) 73 = .ok (.invokevirtual 97, 3) := by decide +kernel
theorem d95_76 : decode (cc 95) 76 = .ok (.ifCond .eq 4, 3) := by decide +kernel
theorem d95_79 : decode (cc 95) 79 = .ok (.return_, 1) := by decide +kernel
theorem d95_80 : decode (cc 95) 80 = .ok (.bipush 12, 2) := by decide +kernel
theorem d95_82 : decode (cc 95) 82 = .ok (.iload_n 1, 1) := by decide +kernel
theorem d95_83 : decode (cc 95) 83 = .ok (.imul, 1) := by decide +kernel
theorem d95_84 : decode (cc 95) 84 = .ok (.iload_n 2, 1) := by decide +kernel
theorem d95_85 : decode (cc 95) 85 = .ok (.iadd, 1) := by decide +kernel
theorem d95_86 : decode (cc 95) 86 = .ok (.istore 7, 2) := by decide +kernel
theorem d95_88 : decode (cc 95) 88 = .ok (.aload_n 0, 1) := by decide +kernel
theorem d95_89 : decode (cc 95) 89 = .ok (.getfield 40, 3) := by decide +kernel
theorem d95_92 : decode (cc 95) 92 = .ok (.iload 7, 2) := by decide +kernel
theorem d95_94 : decode (cc 95) 94 = .ok (.iaload, 1) := by decide +kernel
theorem d95_95 : decode (cc 95) 95 = .ok (.istore 8, 2) := by decide +kernel
theorem d95_97 : decode (cc 95) 97 = .ok (.aload_n 0, 1) := by decide +kernel
theorem d95_98 : decode (cc 95) 98 = .ok (.getfield 43, 3) := by decide +kernel
theorem d95_101 : decode (cc 95) 101 = .ok (.iload 7, 2) := by decide +kernel
theorem d95_103 : decode (cc 95) 103 = .ok (.iaload, 1) := by decide +kernel
theorem d95_104 : decode (cc 95) 104 = .ok (.istore 9, 2) := by decide +kernel
theorem d95_106 : decode (cc 95) 106 = .ok (.aload_n 0, 1) := by decide +kernel
theorem d95_107 : decode (cc 95) 107 = .ok (.getfield 46, 3) := by decide +kernel
theorem d95_110 : decode (cc 95) 110 = .ok (.iload 7, 2) := by decide +kernel
theorem d95_112 : decode (cc 95) 112 = .ok (.iaload, 1) := by decide +kernel
theorem d95_113 : decode (cc 95) 113 = .ok (.istore 10, 2) := by decide +kernel
theorem d95_115 : decode (cc 95) 115 = .ok (.aload_n 0, 1) := by decide +kernel
theorem d95_116 : decode (cc 95) 116 = .ok (.iload_n 3, 1) := by decide +kernel
theorem d95_117 : decode (cc 95) 117 = .ok (.ifCond .le 21, 3) := by decide +kernel
theorem d95_120 : decode (cc 95) 120 = .ok (.iload 8, 2) := by decide +kernel
theorem d95_122 : decode (cc 95) 122 = .ok (.ifCond .ne 16, 3) := by decide +kernel
theorem d95_125 : decode (cc 95) 125 = .ok (.aload_n 0, 1) := by decide +kernel
theorem d95_126 : decode (cc 95) 126 = .ok (.getfield 109, 3) := by decide +kernel
theorem d95_129 : decode (cc 95) 129 = .ok (.bipush 24, 2) := by decide +kernel
theorem d95_131 : decode (cc 95) 131 = .ok (.if_icmp .ne 7, 3) := by decide +kernel
theorem d95_134 : decode (cc 95) 134 = .ok (.iconst 3, 1) := by decide +kernel
theorem d95_135 : decode (cc 95) 135 = .ok (.goto 4, 3) := by decide +kernel
theorem d95_138 : decode (cc 95) 138 = .ok (.iconst 0, 1) := by decide +kernel
theorem d95_139 : decode (cc 95) 139 = .ok (.invokevirtual 97, 3) := by decide +kernel
theorem d95_142 : decode (cc 95) 142 = .ok (.ifCond .eq 4, 3) := by decide +kernel
theorem d95_145 : decode (cc 95) 145 = .ok (.return_, 1) := by decide +kernel
theorem d95_146 : decode (cc 95) 146 = .ok (.aload_n 0, 1) := by decide +kernel
theorem d95_147 : decode (cc 95) 147 = .ok (.iload 7, 2) := by decide +kernel
theorem d95_149 : decode (cc 95) 149 = .ok (.iload_n 3, 1) := by decide +kernel
theorem d95_150 : decode (cc 95) 150 = .ok (.iload 4, 2) := by decide +kernel
theorem d95_152 : decode (cc 95) 152 = .ok (.iload 5, 2) := by decide +kernel
theorem d95_154 : decode (cc 95) 154 = .ok (.invokevirtual 112, 3) := by decide +kernel
theorem d95_157 : decode (cc 95) 157 = .ok (.aload_n 0, 1) := by decide +kernel
theorem d95_158 : decode (cc 95) 158 = .ok (.invokevirtual 116, 3) := by decide +kernel
theorem d95_161 : decode (cc 95) 161 = .ok (.ifCond .ne 21, 3) := by decide +kernel
theorem d95_164 : decode (cc 95) 164 = .ok (.aload_n 0, 1) := by decide +kernel
theorem d95_165 : decode (cc 95) 165 = .ok (.iload 7, 2) := by decide +kernel
theorem d95_167 : decode (cc 95) 167 = .ok (.iload 8, 2) := by decide +kernel
theorem d95_169 : decode (cc 95) 169 = .ok (.iload 9, 2) := by decide +kernel
theorem d95_171 : decode (cc 95) 171 = .ok (.iload 10, 2) := by decide +kernel
theorem d95_173 : decode (cc 95) 173 = .ok (.invokevirtual 112, 3) := by decide +kernel
theorem d95_176 : decode (cc 95) 176 = .ok (.aload_n 0, 1) := by decide +kernel
theorem d95_177 : decode (cc 95) 177 = .ok (.iconst 3, 1) := by decide +kernel
theorem d95_178 : decode (cc 95) 178 = .ok (.putfield 85, 3) := by decide +kernel
theorem d95_181 : decode (cc 95) 181 = .ok (.return_, 1) := by decide +kernel
theorem d95_182 : decode (cc 95) 182 = .ok (.aload_n 0, 1) := by decide +kernel
theorem d95_183 : decode (cc 95) 183 = .ok (.iload_n 2, 1) := by decide +kernel
theorem d95_184 : decode (cc 95) 184 = .ok (.invokevirtual 100, 3) := by decide +kernel
theorem d95_187 : decode (cc 95) 187 = .ok (.return_, 1) := by decide +kernel
theorem d96_0 : decode (cc 96) 0 = .ok (.aload_n 0, 1) := by decide +kernel
theorem d96_1 : decode (cc 96) 1 = .ok (.aload_n 0, 1) := by decide +kernel
theorem d96_2 : decode (cc 96) 2 = .ok (.getfield 109, 3) := by decide +kernel
theorem d96_5 : decode (cc 96) 5 = .ok (.iload_n 2, 1) := by decide +kernel
theorem d96_6 : decode (cc 96) 6 = .ok (.ifCond .le 7, 3) := by decide +kernel
theorem d96_9 : decode (cc 96) 9 = .ok (.iconst 1, 1) := by decide +kernel
theorem d96_10 : decode (cc 96) 10 = .ok (.goto 4, 3) := by decide +kernel
theorem d96_13 : decode (cc 96) 13 = .ok (.iconst 0, 1) := by decide +kernel
theorem d96_14 : decode (cc 96) 14 = .ok (.iadd, 1) := by decide +kernel
theorem d96_15 : decode (cc 96) 15 = .ok (.aload_n 0, 1) := by decide +kernel
theorem d96_16 : decode (cc 96) 16 = .ok (.getfield 40, 3) := by decide +kernel
theorem d96_19 : decode (cc 96) 19 = .ok (.iload_n 1, 1) := by decide +kernel
theorem d96_20 : decode (cc 96) 20 = .ok (.iaload, 1) := by decide +kernel
theorem d96_21 : decode (cc 96) 21 = .ok (.ifCond .le 7, 3) := by decide +kernel
theorem d96_24 : decode (cc 96) 24 = .ok (.iconst 1, 1) := by decide +kernel
theorem d96_25 : decode (cc 96) 25 = .ok (.goto 4, 3) := by decide +kernel
theorem d96_28 : decode (cc 96) 28 = .ok (.iconst 0, 1) := by decide +kernel
theorem d96_29 : decode (cc 96) 29 = .ok (.isub, 1) := by decide +kernel
theorem d96_30 : decode (cc 96) 30 = .ok (.putfield 109, 3) := by decide +kernel
theorem d96_33 : decode (cc 96) 33 = .ok (.aload_n 0, 1) := by decide +kernel
theorem d96_34 : decode (cc 96) 34 = .ok (.getfield 40, 3) := by decide +kernel
theorem d96_37 : decode (cc 96) 37 = .ok (.iload_n 1, 1) := by decide +kernel
theorem d96_38 : decode (cc 96) 38 = .ok (.iload_n 2, 1) := by decide +kernel
theorem d96_39 : decode (cc 96) 39 = .ok (.iastore, 1) := by decide +kernel
theorem d96_40 : decode (cc 96) 40 = .ok (.aload_n 0, 1) := by decide +kernel
theorem d96_41 : decode (cc 96) 41 = .ok (.getfield 43, 3) := by decide +kernel
theorem d96_44 : decode (cc 96) 44 = .ok (.iload_n 1, 1) := by decide +kernel
theorem d96_45 : decode (cc 96) 45 = .ok (.iload_n 3, 1) := by decide +kernel
theorem d96_46 : decode (cc 96) 46 = .ok (.iastore, 1) := by decide +kernel
theorem d96_47 : decode (cc 96) 47 = .ok (.aload_n 0, 1) := by decide +kernel
theorem d96_48 : decode (cc 96) 48 = .ok (.getfield 46, 3) := by decide +kernel
theorem d96_51 : decode (cc 96) 51 = .ok (.iload_n 1, 1) := by decide +kernel
theorem d96_52 : decode (cc 96) 52 = .ok (.iload 4, 2) := by decide +kernel
theorem d96_54 : decode (cc 96) 54 = .ok (.iastore, 1) := by decide +kernel
theorem d96_55 : decode (cc 96) 55 = .ok (.return_, 1) := by decide +kernel
theorem d97_0 : decode (cc 97) 0 = .ok (.iconst 1, 1) := by decide +kernel
theorem d97_1 : decode (cc 97) 1 = .ok (.istore_n 1, 1) := by decide +kernel
theorem d97_2 : decode (cc 97) 2 = .ok (.iconst 0, 1) := by decide +kernel
theorem d97_3 : decode (cc 97) 3 = .ok (.istore_n 2, 1) := by decide +kernel
theorem d97_4 : decode (cc 97) 4 = .ok (.iload_n 2, 1) := by decide +kernel
theorem d97_5 : decode (cc 97) 5 = .ok (.bipush 12, 2) := by decide +kernel
theorem d97_7 : decode (cc 97) 7 = .ok (.if_icmp .ge 28, 3) := by decide +kernel
theorem d97_10 : decode (cc 97) 10 = .ok (.iload_n 1, 1) := by decide +kernel
theorem d97_11 : decode (cc 97) 11 = .ok (.ifCond .eq 16, 3) := by decide +kernel
theorem d97_14 : decode (cc 97) 14 = .ok (.aload_n 0, 1) := by decide +kernel
theorem d97_15 : decode (cc 97) 15 = .ok (.iload_n 2, 1) := by decide +kernel
theorem d97_16 : decode (cc 97) 16 = .ok (.invokevirtual 105, 3) := by decide +kernel
theorem d97_19 : decode (cc 97) 19 = .ok (.iconst 4, 1) := by decide +kernel
theorem d97_20 : decode (cc 97) 20 = .ok (.if_icmp .gt 7, 3) := by decide +kernel
theorem d97_23 : decode (cc 97) 23 = .ok (.iconst 1, 1) := by decide +kernel
theorem d97_24 : decode (cc 97) 24 = .ok (.goto 4, 3) := by decide +kernel
theorem d97_27 : decode (cc 97) 27 = .ok (.iconst 0, 1) := by decide +kernel
theorem d97_28 : decode (cc 97) 28 = .ok (.istore_n 1, 1) := by decide +kernel
theorem d97_29 : decode (cc 97) 29 = .ok (.iinc 2 1, 3) := by decide +kernel
theorem d97_32 : decode (cc 97) 32 = .ok (.goto (-28), 3) := by decide +kernel
theorem d97_35 : decode (cc 97) 35 = .ok (.iload_n 1, 1) := by decide +kernel
theorem d97_36 : decode (cc 97) 36 = .ok (.ireturn, 1) := by decide +kernel
theorem d98_0 : decode (cc 98) 0 = .ok (.iconst 1, 1) := by decide +kernel
theorem d98_1 : decode (cc 98) 1 = .ok (.iload_n 1, 1) := by decide +kernel
theorem d98_2 : decode (cc 98) 2 = .ok (.ishl, 1) := by decide +kernel
theorem d98_3 : decode (cc 98) 3 = .ok (.istore_n 2, 1) := by decide +kernel
theorem d98_4 : decode (cc 98) 4 = .ok (.iconst (-1), 1) := by decide +kernel
theorem d98_5 : decode (cc 98) 5 = .ok (.istore_n 3, 1) := by decide +kernel
theorem d98_6 : decode (cc 98) 6 = .ok (.iload_n 2, 1) := by decide +kernel
theorem d98_7 : decode (cc 98) 7 = .ok (.ifCond .eq 90, 3) := by decide +kernel
theorem d98_10 : decode (cc 98) 10 = .ok (.iload_n 3, 1) := by decide +kernel
theorem d98_11 : decode (cc 98) 11 = .ok (.bipush 20, 2) := by decide +kernel
theorem d98_13 : decode (cc 98) 13 = .ok (.if_icmp .ge 84, 3) := by decide +kernel
theorem d98_16 : decode (cc 98) 16 = .ok (.iconst 0, 1) := by decide +kernel
theorem d98_17 : decode (cc 98) 17 = .ok (.istore 4, 2) := by decide +kernel
theorem d98_19 : decode (cc 98) 19 = .ok (.iconst 0, 1) := by decide +kernel
theorem d98_20 : decode (cc 98) 20 = .ok (.istore 5, 2) := by decide +kernel
theorem d98_22 : decode (cc 98) 22 = .ok (.iload 5, 2) := by decide +kernel
theorem d98_24 : decode (cc 98) 24 = .ok (.sipush 144, 3) := by decide +kernel
theorem d98_27 : decode (cc 98) 27 = .ok (.if_icmp .ge 61, 3) := by decide +kernel
theorem d98_30 : decode (cc 98) 30 = .ok (.aload_n 0, 1) := by decide +kernel
theorem d98_31 : decode (cc 98) 31 = .ok (.getfield 40, 3) := by decide +kernel
theorem d98_34 : decode (cc 98) 34 = .ok (.iload 5, 2) := by decide +kernel
theorem d98_36 : decode (cc 98) 36 = .ok (.iaload, 1) := by decide +kernel
theorem d98_37 : decode (cc 98) 37 = .ok (.ifCond .le 20, 3) := by decide +kernel
theorem d98_40 : decode (cc 98) 40 = .ok (.iload_n 2, 1) := by decide +kernel
theorem d98_41 : decode (cc 98) 41 = .ok (.iload 5, 2) := by decide +kernel
theorem d98_43 : decode (cc 98) 43 = .ok (.bipush 12, 2) := by decide +kernel
theorem d98_45 : decode (cc 98) 45 = .ok (.irem, 1) := by decide +kernel
theorem d98_46 : decode (cc 98) 46 = .ok (.ishr, 1) := by decide +kernel
theorem d98_47 : decode (cc 98) 47 = .ok (.iconst 1, 1) := by decide +kernel
theorem d98_48 : decode (cc 98) 48 = .ok (.iand, 1) := by decide +kernel
theorem d98_49 : decode (cc 98) 49 = .ok (.iconst 1, 1) := by decide +kernel
theorem d98_50 : decode (cc 98) 50 = .ok (.if_icmp .ne 7, 3) := by decide +kernel
theorem d98_53 : decode (cc 98) 53 = .ok (.iconst 1, 1) := by decide +kernel
theorem d98_54 : decode (cc 98) 54 = .ok (.goto 4, 3) := by decide +kernel
theorem d98_57 : decode (cc 98) 57 = .ok (.iconst 0, 1) := by decide +kernel
theorem d98_58 : decode (cc 98) 58 = .ok (.istore 6, 2) := by decide +kernel
theorem d98_60 : decode (cc 98) 60 = .ok (.iload 6, 2) := by decide +kernel
theorem d98_62 : decode (cc 98) 62 = .ok (.ifCond .eq 16, 3) := by decide +kernel
theorem d98_65 : decode (cc 98) 65 = .ok (.iload 4, 2) := by decide +kernel
theorem d98_67 : decode (cc 98) 67 = .ok (.iconst 1, 1) := by decide +kernel
theorem d98_68 : decode (cc 98) 68 = .ok (.iload 5, 2) := by decide +kernel
theorem d98_70 : decode (cc 98) 70 = .ok (.bipush 12, 2) := by decide +kernel
theorem d98_72 : decode (cc 98) 72 = .ok (.idiv, 1) := by decide +kernel
theorem d98_73 : decode (cc 98) 73 = .ok (.ishl, 1) := by decide +kernel
theorem d98_74 : decode (cc 98) 74 = .ok (.ior, 1) := by decide +kernel
theorem d98_75 : decode (cc 98) 75 = .ok (.goto 5, 3) := by decide +kernel
theorem d98_78 : decode (cc 98) 78 = .ok (.iload 4, 2) := by decide +kernel
theorem d98_80 : decode (cc 98) 80 = .ok (.istore 4, 2) := by decide +kernel
theorem d98_82 : decode (cc 98) 82 = .ok (.iinc 5 1, 3) := by decide +kernel
theorem d98_85 : decode (cc 98) 85 = .ok (.goto (-63), 3) := by decide +kernel
theorem d98_88 : decode (cc 98) 88 = .ok (.iload 4, 2) := by decide +kernel
theorem d98_90 : decode (cc 98) 90 = .ok (.istore_n 2, 1) := by decide +kernel
theorem d98_91 : decode (cc 98) 91 = .ok (.iinc 3 1, 3) := by decide +kernel
theorem d98_94 : decode (cc 98) 94 = .ok (.goto (-88), 3) := by decide +kernel
theorem d98_97 : decode (cc 98) 97 = .ok (.iload_n 3, 1) := by decide +kernel
theorem d98_98 : decode (cc 98) 98 = .ok (.bipush 20, 2) := by decide +kernel
theorem d98_100 : decode (cc 98) 100 = .ok (.if_icmp .lt 8, 3) := by decide +kernel
theorem d98_103 : decode (cc 98) 103 = .ok (.bipush 99, 2) := by decide +kernel
theorem d98_105 : decode (cc 98) 105 = .ok (.goto 4, 3) := by decide +kernel
theorem d98_108 : decode (cc 98) 108 = .ok (.iload_n 3, 1) := by decide +kernel
theorem d98_109 : decode (cc 98) 109 = .ok (.ireturn, 1) := by decide +kernel
theorem d99_0 : decode (cc 99) 0 = .ok (.aload_n 0, 1) := by decide +kernel
theorem d99_1 : decode (cc 99) 1 = .ok (.iload_n 1, 1) := by decide +kernel
theorem d99_2 : decode (cc 99) 2 = .ok (.invokestatic 93, 3) := by decide +kernel
theorem d99_5 : decode (cc 99) 5 = .ok (.ifCond .ne 7, 3) := by decide +kernel
theorem d99_8 : decode (cc 99) 8 = .ok (.iconst 1, 1) := by decide +kernel
theorem d99_9 : decode (cc 99) 9 = .ok (.goto 19, 3) := by decide +kernel
theorem d99_12 : decode (cc 99) 12 = .ok (.iload_n 2, 1) := by decide +kernel
theorem d99_13 : decode (cc 99) 13 = .ok (.iconst 0, 1) := by decide +kernel
theorem d99_14 : decode (cc 99) 14 = .ok (.sipush 10000, 3) := by decide +kernel
theorem d99_17 : decode (cc 99) 17 = .ok (.invokestatic 89, 3) := by decide +kernel
theorem d99_20 : decode (cc 99) 20 = .ok (.ifCond .ne 7, 3) := by decide +kernel
theorem d99_23 : decode (cc 99) 23 = .ok (.iconst 2, 1) := by decide +kernel
theorem d99_24 : decode (cc 99) 24 = .ok (.goto 4, 3) := by decide +kernel
theorem d99_27 : decode (cc 99) 27 = .ok (.iconst 0, 1) := by decide +kernel
theorem d99_28 : decode (cc 99) 28 = .ok (.invokevirtual 97, 3) := by decide +kernel
theorem d99_31 : decode (cc 99) 31 = .ok (.ifCond .eq 5, 3) := by decide +kernel
theorem d99_34 : decode (cc 99) 34 = .ok (.iconst 0, 1) := by decide +kernel
theorem d99_35 : decode (cc 99) 35 = .ok (.ireturn, 1) := by decide +kernel
theorem d99_36 : decode (cc 99) 36 = .ok (.aload_n 0, 1) := by decide +kernel
theorem d99_37 : decode (cc 99) 37 = .ok (.getfield 31, 3) := by decide +kernel
theorem d99_40 : decode (cc 99) 40 = .ok (.iload_n 1, 1) := by decide +kernel
theorem d99_41 : decode (cc 99) 41 = .ok (.iaload, 1) := by decide +kernel
theorem d99_42 : decode (cc 99) 42 = .ok (.istore_n 3, 1) := by decide +kernel
theorem d99_43 : decode (cc 99) 43 = .ok (.aload_n 0, 1) := by decide +kernel
theorem d99_44 : decode (cc 99) 44 = .ok (.getfield 31, 3) := by decide +kernel
theorem d99_47 : decode (cc 99) 47 = .ok (.iload_n 1, 1) := by decide +kernel
theorem d99_48 : decode (cc 99) 48 = .ok (.iload_n 2, 1) := by decide +kernel
theorem d99_49 : decode (cc 99) 49 = .ok (.iastore, 1) := by decide +kernel
theorem d99_50 : decode (cc 99) 50 = .ok (.aload_n 0, 1) := by decide +kernel
theorem d99_51 : decode (cc 99) 51 = .ok (.iload_n 1, 1) := by decide +kernel
theorem d99_52 : decode (cc 99) 52 = .ok (.invokevirtual 100, 3) := by decide +kernel
theorem d99_55 : decode (cc 99) 55 = .ok (.iload_n 3, 1) := by decide +kernel
theorem d99_56 : decode (cc 99) 56 = .ok (.ireturn, 1) := by decide +kernel
theorem d100_0 : decode (cc 100) 0 = .ok (.aload_n 0, 1) := by decide +kernel
theorem d100_1 : decode (cc 100) 1 = .ok (.iconst 0, 1) := by decide +kernel
theorem d100_2 : decode (cc 100) 2 = .ok (.iload_n 1, 1) := by decide +kernel
theorem d100_3 : decode (cc 100) 3 = .ok (.iload_n 2, 1) := by decide +kernel
theorem d100_4 : decode (cc 100) 4 = .ok (.iload_n 3, 1) := by decide +kernel
theorem d100_5 : decode (cc 100) 5 = .ok (.invokevirtual 124, 3) := by decide +kernel
theorem d100_8 : decode (cc 100) 8 = .ok (.ireturn, 1) := by decide +kernel
theorem d101_0 : decode (cc 101) 0 = .ok (.aload_n 0, 1) := by decide +kernel
theorem d101_1 : decode (cc 101) 1 = .ok (.iload_n 2, 1) := by decide +kernel
theorem d101_2 : decode (cc 101) 2 = .ok (.invokestatic 93, 3) := by decide +kernel
theorem d101_5 : decode (cc 101) 5 = .ok (.ifCond .eq 10, 3) := by decide +kernel
theorem d101_8 : decode (cc 101) 8 = .ok (.iload_n 3, 1) := by decide +kernel
theorem d101_9 : decode (cc 101) 9 = .ok (.invokestatic 93, 3) := by decide +kernel
theorem d101_12 : decode (cc 101) 12 = .ok (.ifCond .ne 7, 3) := by decide +kernel
theorem d101_15 : decode (cc 101) 15 = .ok (.iconst 1, 1) := by decide +kernel
theorem d101_16 : decode (cc 101) 16 = .ok (.goto 35, 3) := by decide +kernel
theorem d101_19 : decode (cc 101) 19 = .ok (.iload 4, 2) := by decide +kernel
theorem d101_21 : decode (cc 101) 21 = .ok (.iconst 0, 1) := by decide +kernel
theorem d101_22 : decode (cc 101) 22 = .ok (.sipush 1000, 3) := by decide +kernel
theorem d101_25 : decode (cc 101) 25 = .ok (.invokestatic 89, 3) := by decide +kernel
theorem d101_28 : decode (cc 101) 28 = .ok (.ifCond .ne 7, 3) := by decide +kernel
theorem d101_31 : decode (cc 101) 31 = .ok (.iconst 2, 1) := by decide +kernel
theorem d101_32 : decode (cc 101) 32 = .ok (.goto 19, 3) := by decide +kernel
theorem d101_35 : decode (cc 101) 35 = .ok (.aload_n 0, 1) := by decide +kernel
theorem d101_36 : decode (cc 101) 36 = .ok (.getfield 49, 3) := by decide +kernel
theorem d101_39 : decode (cc 101) 39 = .ok (.iload_n 1, 1) := by decide +kernel
theorem d101_40 : decode (cc 101) 40 = .ok (.iaload, 1) := by decide +kernel
theorem d101_41 : decode (cc 101) 41 = .ok (.bipush 24, 2) := by decide +kernel
theorem d101_43 : decode (cc 101) 43 = .ok (.if_icmp .ne 7, 3) := by decide +kernel
theorem d101_46 : decode (cc 101) 46 = .ok (.iconst 3, 1) := by decide +kernel
theorem d101_47 : decode (cc 101) 47 = .ok (.goto 4, 3) := by decide +kernel
theorem d101_50 : decode (cc 101) 50 = .ok (.iconst 0, 1) := by decide +kernel
theorem d101_51 : decode (cc 101) 51 = .ok (.invokevirtual 97, 3) := by decide +kernel
theorem d101_54 : decode (cc 101) 54 = .ok (.ifCond .eq 5, 3) := by decide +kernel
theorem d101_57 : decode (cc 101) 57 = .ok (.iconst 0, 1) := by decide +kernel
theorem d101_58 : decode (cc 101) 58 = .ok (.ireturn, 1) := by decide +kernel
theorem d101_59 : decode (cc 101) 59 = .ok (.aload_n 0, 1) := by decide +kernel
