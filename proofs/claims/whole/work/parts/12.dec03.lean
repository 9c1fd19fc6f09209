theorem d130_43 : decode (cc 130) 43 = .ok (.iconst 0, 1) := by decide +kernel
theorem d130_44 : decode (cc 130) 44 = .ok (.istore 5, 2) := by decide +kernel
theorem d130_46 : decode (cc 130) 46 = .ok (.iload 5, 2) := by decide +kernel
theorem d130_48 : decode (cc 130) 48 = .ok (.bipush 12, 2) := by decide +kernel
theorem d130_50 : decode (cc 130) 50 = .ok (.if_icmp .ge 67, 3) := by decide +kernel
theorem d130_53 : decode (cc 130) 53 = .ok (.iload_n 2, 1) := by decide +kernel
theorem d130_54 : decode (cc 130) 54 = .ok (.aload_n 0, 1) := by decide +kernel
theorem d130_55 : decode (cc 130) 55 = .ok (.getfield 16, 3) := by decide +kernel
theorem d130_58 : decode (cc 130) 58 = .ok (.iload 5, 2) := by decide +kernel
theorem d130_60 : decode (cc 130) 60 = .ok (.iaload, 1) := by decide +kernel
theorem d130_61 : decode (cc 130) 61 = .ok (.iadd, 1) := by decide +kernel
theorem d130_62 : decode (cc 130) 62 = .ok (.istore 6, 2) := by decide +kernel
theorem d130_64 : decode (cc 130) 64 = .ok (.aload_n 0, 1) := by decide +kernel
theorem d130_65 : decode (cc 130) 65 = .ok (.getfield 34, 3) := by decide +kernel
theorem d130_68 : decode (cc 130) 68 = .ok (.iload 5, 2) := by decide +kernel
theorem d130_70 : decode (cc 130) 70 = .ok (.iaload, 1) := by decide +kernel
theorem d130_71 : decode (cc 130) 71 = .ok (.iload_n 1, 1) := by decide +kernel
theorem d130_72 : decode (cc 130) 72 = .ok (.if_icmp .ne 37, 3) := by decide +kernel
theorem d130_75 : decode (cc 130) 75 = .ok (.iload 6, 2) := by decide +kernel
theorem d130_77 : decode (cc 130) 77 = .ok (.bipush 12, 2) := by decide +kernel
theorem d130_79 : decode (cc 130) 79 = .ok (.if_icmp .ge 30, 3) := by decide +kernel
theorem d130_82 : decode (cc 130) 82 = .ok (.lload_n 3, 1) := by decide +kernel
theorem d130_83 : decode (cc 130) 83 = .ok (.aload_n 0, 1) := by decide +kernel
theorem d130_84 : decode (cc 130) 84 = .ok (.getfield 37, 3) := by decide +kernel
theorem d130_87 : decode (cc 130) 87 = .ok (.iload 5, 2) := by decide +kernel
theorem d130_89 : decode (cc 130) 89 = .ok (.iaload, 1) := by decide +kernel
theorem d130_90 : decode (cc 130) 90 = .ok (.i2l, 1) := by decide +kernel
theorem d130_91 : decode (cc 130) 91 = .ok (.aload_n 0, 1) := by decide +kernel
theorem d130_92 : decode (cc 130) 92 = .ok (.getfield 73, 3) := by decide +kernel
theorem d130_95 : decode (cc 130) 95 = .ok (.bipush 12, 2) := by decide +kernel
theorem d130_97 : decode (cc 130) 97 = .ok (.iload 5, 2) := by decide +kernel
theorem d130_99 : decode (cc 130) 99 = .ok (.imul, 1) := by decide +kernel
theorem d130_100 : decode (cc 130) 100 = .ok (.iload 6, 2) := by decide +kernel
theorem d130_102 : decode (cc 130) 102 = .ok (.iadd, 1) := by decide +kernel
theorem d130_103 : decode (cc 130) 103 = .ok (.laload, 1) := by decide +kernel
theorem d130_104 : decode (cc 130) 104 = .ok (.lmul, 1) := by decide +kernel
theorem d130_105 : decode (cc 130) 105 = .ok (.ladd, 1) := by decide +kernel
theorem d130_106 : decode (cc 130) 106 = .ok (.goto 4, 3) := by decide +kernel
theorem d130_109 : decode (cc 130) 109 = .ok (.lload_n 3, 1) := by decide +kernel
theorem d130_110 : decode (cc 130) 110 = .ok (.lstore_n 3, 1) := by decide +kernel
theorem d130_111 : decode (cc 130) 111 = .ok (.iinc 5 1, 3) := by decide +kernel
theorem d130_114 : decode (cc 130) 114 = .ok (.goto (-68), 3) := by decide +kernel
theorem d130_117 : decode (cc 130) 117 = .ok (.lload_n 3, 1) := by decide +kernel
theorem d130_118 : decode (cc 130) 118 = .ok (.lreturn, 1) := by decide +kernel
theorem d131_0 : decode (cc 131) 0 = .ok (.aload_n 0, 1) := by decide +kernel
theorem d131_1 : decode (cc 131) 1 = .ok (.iload_n 1, 1) := by decide +kernel
theorem d131_2 : decode (cc 131) 2 = .ok (.iconst 4, 1) := by decide +kernel
theorem d131_3 : decode (cc 131) 3 = .ok (.if_icmp .ne 14, 3) := by decide +kernel
theorem d131_6 : decode (cc 131) 6 = .ok (.aload_n 0, 1) := by decide +kernel
theorem d131_7 : decode (cc 131) 7 = .ok (.getfield 61, 3) := by decide +kernel
theorem d131_10 : decode (cc 131) 10 = .ok (.ifCond .eq 7, 3) := by decide +kernel
theorem d131_13 : decode (cc 131) 13 = .ok (.iconst 1, 1) := by decide +kernel
theorem d131_14 : decode (cc 131) 14 = .ok (.goto 4, 3) := by decide +kernel
theorem d131_17 : decode (cc 131) 17 = .ok (.iconst 0, 1) := by decide +kernel
theorem d131_18 : decode (cc 131) 18 = .ok (.invokevirtual 97, 3) := by decide +kernel
theorem d131_21 : decode (cc 131) 21 = .ok (.ifCond .eq 5, 3) := by decide +kernel
theorem d131_24 : decode (cc 131) 24 = .ok (.iconst 0, 1) := by decide +kernel
theorem d131_25 : decode (cc 131) 25 = .ok (.ireturn, 1) := by decide +kernel
theorem d131_26 : decode (cc 131) 26 = .ok (.iload_n 1, 1) := by decide +kernel
theorem d131_27 : decode (cc 131) 27 = .ok (.tableswitch 81 0 5 #[37, 42, 49, 56, 63, 68], 37) := by decide +kernel
theorem d131_64 : decode (cc 131) 64 = .ok (.aload_n 0, 1) := by decide +kernel
theorem d131_65 : decode (cc 131) 65 = .ok (.getfield 109, 3) := by decide +kernel
theorem d131_68 : decode (cc 131) 68 = .ok (.ireturn, 1) := by decide +kernel
theorem d131_69 : decode (cc 131) 69 = .ok (.aload_n 0, 1) := by decide +kernel
theorem d131_70 : decode (cc 131) 70 = .ok (.getfield 49, 3) := by decide +kernel
theorem d131_73 : decode (cc 131) 73 = .ok (.iconst 0, 1) := by decide +kernel
theorem d131_74 : decode (cc 131) 74 = .ok (.iaload, 1) := by decide +kernel
theorem d131_75 : decode (cc 131) 75 = .ok (.ireturn, 1) := by decide +kernel
theorem d131_76 : decode (cc 131) 76 = .ok (.aload_n 0, 1) := by decide +kernel
theorem d131_77 : decode (cc 131) 77 = .ok (.getfield 49, 3) := by decide +kernel
theorem d131_80 : decode (cc 131) 80 = .ok (.iconst 1, 1) := by decide +kernel
theorem d131_81 : decode (cc 131) 81 = .ok (.iaload, 1) := by decide +kernel
theorem d131_82 : decode (cc 131) 82 = .ok (.ireturn, 1) := by decide +kernel
theorem d131_83 : decode (cc 131) 83 = .ok (.aload_n 0, 1) := by decide +kernel
theorem d131_84 : decode (cc 131) 84 = .ok (.getfield 49, 3) := by decide +kernel
theorem d131_87 : decode (cc 131) 87 = .ok (.iconst 2, 1) := by decide +kernel
theorem d131_88 : decode (cc 131) 88 = .ok (.iaload, 1) := by decide +kernel
theorem d131_89 : decode (cc 131) 89 = .ok (.ireturn, 1) := by decide +kernel
theorem d131_90 : decode (cc 131) 90 = .ok (.aload_n 0, 1) := by decide +kernel
theorem d131_91 : decode (cc 131) 91 = .ok (.invokevirtual 189, 3) := by decide +kernel
theorem d131_94 : decode (cc 131) 94 = .ok (.ireturn, 1) := by decide +kernel
theorem d131_95 : decode (cc 131) 95 = .ok (.aload_n 0, 1) := by decide +kernel
theorem d131_96 : decode (cc 131) 96 = .ok (.getfield 61, 3) := by decide +kernel
theorem d131_99 : decode (cc 131) 99 = .ok (.ifCond .eq 7, 3) := by decide +kernel
theorem d131_102 : decode (cc 131) 102 = .ok (.iconst 1, 1) := by decide +kernel
theorem d131_103 : decode (cc 131) 103 = .ok (.goto 4, 3) := by decide +kernel
theorem d131_106 : decode (cc 131) 106 = .ok (.iconst 0, 1) := by decide +kernel
theorem d131_107 : decode (cc 131) 107 = .ok (.ireturn, 1) := by decide +kernel
theorem d131_108 : decode (cc 131) 108 = .ok (.iconst (-1), 1) := by decide +kernel
theorem d131_109 : decode (cc 131) 109 = .ok (.ireturn, 1) := by decide +kernel
theorem d132_0 : decode (cc 132) 0 = .ok (.iconst 0, 1) := by decide +kernel
theorem d132_1 : decode (cc 132) 1 = .ok (.istore_n 1, 1) := by decide +kernel
theorem d132_2 : decode (cc 132) 2 = .ok (.iconst 0, 1) := by decide +kernel
theorem d132_3 : decode (cc 132) 3 = .ok (.istore_n 2, 1) := by decide +kernel
theorem d132_4 : decode (cc 132) 4 = .ok (.iload_n 2, 1) := by decide +kernel
theorem d132_5 : decode (cc 132) 5 = .ok (.bipush 12, 2) := by decide +kernel
theorem d132_7 : decode (cc 132) 7 = .ok (.if_icmp .ge 72, 3) := by decide +kernel
theorem d132_10 : decode (cc 132) 10 = .ok (.iconst 0, 1) := by decide +kernel
theorem d132_11 : decode (cc 132) 11 = .ok (.istore_n 3, 1) := by decide +kernel
theorem d132_12 : decode (cc 132) 12 = .ok (.iconst 0, 1) := by decide +kernel
theorem d132_13 : decode (cc 132) 13 = .ok (.istore 4, 2) := by decide +kernel
theorem d132_15 : decode (cc 132) 15 = .ok (.iload 4, 2) := by decide +kernel
theorem d132_17 : decode (cc 132) 17 = .ok (.bipush 12, 2) := by decide +kernel
theorem d132_19 : decode (cc 132) 19 = .ok (.if_icmp .ge 42, 3) := by decide +kernel
theorem d132_22 : decode (cc 132) 22 = .ok (.iload_n 3, 1) := by decide +kernel
theorem d132_23 : decode (cc 132) 23 = .ok (.ifCond .ne 26, 3) := by decide +kernel
theorem d132_26 : decode (cc 132) 26 = .ok (.aload_n 0, 1) := by decide +kernel
theorem d132_27 : decode (cc 132) 27 = .ok (.iload_n 2, 1) := by decide +kernel
theorem d132_28 : decode (cc 132) 28 = .ok (.iload 4, 2) := by decide +kernel
theorem d132_30 : decode (cc 132) 30 = .ok (.invokevirtual 143, 3) := by decide +kernel
theorem d132_33 : decode (cc 132) 33 = .ok (.aload_n 0, 1) := by decide +kernel
theorem d132_34 : decode (cc 132) 34 = .ok (.getfield 73, 3) := by decide +kernel
theorem d132_37 : decode (cc 132) 37 = .ok (.iload_n 2, 1) := by decide +kernel
theorem d132_38 : decode (cc 132) 38 = .ok (.iload 4, 2) := by decide +kernel
theorem d132_40 : decode (cc 132) 40 = .ok (.invokestatic 131, 3) := by decide +kernel
theorem d132_43 : decode (cc 132) 43 = .ok (.ladd, 1) := by decide +kernel
theorem d132_44 : decode (cc 132) 44 = .ok (.lconst 0, 1) := by decide +kernel
theorem d132_45 : decode (cc 132) 45 = .ok (.lcmp, 1) := by decide +kernel
theorem d132_46 : decode (cc 132) 46 = .ok (.ifCond .ge 7, 3) := by decide +kernel
theorem d132_49 : decode (cc 132) 49 = .ok (.iconst 1, 1) := by decide +kernel
theorem d132_50 : decode (cc 132) 50 = .ok (.goto 4, 3) := by decide +kernel
theorem d132_53 : decode (cc 132) 53 = .ok (.iconst 0, 1) := by decide +kernel
theorem d132_54 : decode (cc 132) 54 = .ok (.istore_n 3, 1) := by decide +kernel
theorem d132_55 : decode (cc 132) 55 = .ok (.iinc 4 1, 3) := by decide +kernel
theorem d132_58 : decode (cc 132) 58 = .ok (.goto (-43), 3) := by decide +kernel
theorem d132_61 : decode (cc 132) 61 = .ok (.iload_n 3, 1) := by decide +kernel
theorem d132_62 : decode (cc 132) 62 = .ok (.ifCond .eq 9, 3) := by decide +kernel
theorem d132_65 : decode (cc 132) 65 = .ok (.iload_n 1, 1) := by decide +kernel
theorem d132_66 : decode (cc 132) 66 = .ok (.iconst 1, 1) := by decide +kernel
theorem d132_67 : decode (cc 132) 67 = .ok (.iadd, 1) := by decide +kernel
theorem d132_68 : decode (cc 132) 68 = .ok (.goto 4, 3) := by decide +kernel
theorem d132_71 : decode (cc 132) 71 = .ok (.iload_n 1, 1) := by decide +kernel
theorem d132_72 : decode (cc 132) 72 = .ok (.istore_n 1, 1) := by decide +kernel
theorem d132_73 : decode (cc 132) 73 = .ok (.iinc 2 1, 3) := by decide +kernel
theorem d132_76 : decode (cc 132) 76 = .ok (.goto (-72), 3) := by decide +kernel
theorem d132_79 : decode (cc 132) 79 = .ok (.iload_n 1, 1) := by decide +kernel
theorem d132_80 : decode (cc 132) 80 = .ok (.ireturn, 1) := by decide +kernel
theorem d133_0 : decode (cc 133) 0 = .ok (.new 8, 3) := by decide +kernel
theorem d133_3 : decode (cc 133) 3 = .ok (.dup, 1) := by decide +kernel
theorem d133_4 : decode (cc 133) 4 = .ok (.invokespecial 77, 3) := by decide +kernel
theorem d133_7 : decode (cc 133) 7 = .ok (.astore_n 1, 1) := by decide +kernel
theorem d133_8 : decode (cc 133) 8 = .ok (.new 78, 3) := by decide +kernel
theorem d133_11 : decode (cc 133) 11 = .ok (.dup, 1) := by decide +kernel
theorem d133_12 : decode (cc 133) 12 = .ok (.invokespecial 80, 3) := by decide +kernel
theorem d133_15 : decode (cc 133) 15 = .ok (.astore_n 2, 1) := by decide +kernel
theorem d133_16 : decode (cc 133) 16 = .ok (.iconst 1, 1) := by decide +kernel
theorem d133_17 : decode (cc 133) 17 = .ok (.newarray .long, 2) := by decide +kernel
theorem d133_19 : decode (cc 133) 19 = .ok (.astore_n 3, 1) := by decide +kernel
theorem d133_20 : decode (cc 133) 20 = .ok (.iconst 0, 1) := by decide +kernel
theorem d133_21 : decode (cc 133) 21 = .ok (.istore 4, 2) := by decide +kernel
theorem d133_23 : decode (cc 133) 23 = .ok (.iload 4, 2) := by decide +kernel
theorem d133_25 : decode (cc 133) 25 = .ok (.aload_n 0, 1) := by decide +kernel
theorem d133_26 : decode (cc 133) 26 = .ok (.arraylength, 1) := by decide +kernel
theorem d133_27 : decode (cc 133) 27 = .ok (.bipush 6, 2) := by decide +kernel
theorem d133_29 : decode (cc 133) 29 = .ok (.isub, 1) := by decide +kernel
theorem d133_30 : decode (cc 133) 30 = .ok (.if_icmp .gt 1404, 3) := by decide +kernel
theorem d133_33 : decode (cc 133) 33 = .ok (.aload_n 0, 1) := by decide +kernel
theorem d133_34 : decode (cc 133) 34 = .ok (.iload 4, 2) := by decide +kernel
theorem d133_36 : decode (cc 133) 36 = .ok (.iaload, 1) := by decide +kernel
theorem d133_37 : decode (cc 133) 37 = .ok (.bipush 31, 2) := by decide +kernel
theorem d133_39 : decode (cc 133) 39 = .ok (.iand, 1) := by decide +kernel
theorem d133_40 : decode (cc 133) 40 = .ok (.tableswitch 1388 0 18 #[92, 176, 248, 308, 392, 460, 540, 620, 700, 713, 769, 836, 903, 970, 1049, 1129, 1209, 1265, 1332], 92) := by decide +kernel
theorem d133_132 : decode (cc 133) 132 = .ok (.aload_n 1, 1) := by decide +kernel
theorem d133_133 : decode (cc 133) 133 = .ok (.aload_n 0, 1) := by decide +kernel
theorem d133_134 : decode (cc 133) 134 = .ok (.iload 4, 2) := by decide +kernel
theorem d133_136 : decode (cc 133) 136 = .ok (.iconst 1, 1) := by decide +kernel
theorem d133_137 : decode (cc 133) 137 = .ok (.iadd, 1) := by decide +kernel
theorem d133_138 : decode (cc 133) 138 = .ok (.iaload, 1) := by decide +kernel
theorem d133_139 : decode (cc 133) 139 = .ok (.aload_n 0, 1) := by decide +kernel
theorem d133_140 : decode (cc 133) 140 = .ok (.iload 4, 2) := by decide +kernel
theorem d133_142 : decode (cc 133) 142 = .ok (.iconst 2, 1) := by decide +kernel
theorem d133_143 : decode (cc 133) 143 = .ok (.iadd, 1) := by decide +kernel
theorem d133_144 : decode (cc 133) 144 = .ok (.iaload, 1) := by decide +kernel
theorem d133_145 : decode (cc 133) 145 = .ok (.aload_n 0, 1) := by decide +kernel
theorem d133_146 : decode (cc 133) 146 = .ok (.iload 4, 2) := by decide +kernel
theorem d133_148 : decode (cc 133) 148 = .ok (.iconst 3, 1) := by decide +kernel
theorem d133_149 : decode (cc 133) 149 = .ok (.iadd, 1) := by decide +kernel
theorem d133_150 : decode (cc 133) 150 = .ok (.iaload, 1) := by decide +kernel
theorem d133_151 : decode (cc 133) 151 = .ok (.aload_n 0, 1) := by decide +kernel
theorem d133_152 : decode (cc 133) 152 = .ok (.iload 4, 2) := by decide +kernel
theorem d133_154 : decode (cc 133) 154 = .ok (.iconst 4, 1) := by decide +kernel
theorem d133_155 : decode (cc 133) 155 = .ok (.iadd, 1) := by decide +kernel
theorem d133_156 : decode (cc 133) 156 = .ok (.iaload, 1) := by decide +kernel
theorem d133_157 : decode (cc 133) 157 = .ok (.aload_n 0, 1) := by decide +kernel
theorem d133_158 : decode (cc 133) 158 = .ok (.iload 4, 2) := by decide +kernel
theorem d133_160 : decode (cc 133) 160 = .ok (.iconst 5, 1) := by decide +kernel
theorem d133_161 : decode (cc 133) 161 = .ok (.iadd, 1) := by decide +kernel
theorem d133_162 : decode (cc 133) 162 = .ok (.iaload, 1) := by decide +kernel
theorem d133_163 : decode (cc 133) 163 = .ok (.invokestatic 81, 3) := by decide +kernel
theorem d133_166 : decode (cc 133) 166 = .ok (.istore 5, 2) := by decide +kernel
theorem d133_168 : decode (cc 133) 168 = .ok (.aload_n 2, 1) := by decide +kernel
theorem d133_169 : decode (cc 133) 169 = .ok (.aload_n 0, 1) := by decide +kernel
theorem d133_170 : decode (cc 133) 170 = .ok (.iload 4, 2) := by decide +kernel
theorem d133_172 : decode (cc 133) 172 = .ok (.iconst 1, 1) := by decide +kernel
theorem d133_173 : decode (cc 133) 173 = .ok (.iadd, 1) := by decide +kernel
theorem d133_174 : decode (cc 133) 174 = .ok (.iaload, 1) := by decide +kernel
theorem d133_175 : decode (cc 133) 175 = .ok (.aload_n 0, 1) := by decide +kernel
theorem d133_176 : decode (cc 133) 176 = .ok (.iload 4, 2) := by decide +kernel
theorem d133_178 : decode (cc 133) 178 = .ok (.iconst 2, 1) := by decide +kernel
theorem d133_179 : decode (cc 133) 179 = .ok (.iadd, 1) := by decide +kernel
theorem d133_180 : decode (cc 133) 180 = .ok (.iaload, 1) := by decide +kernel
theorem d133_181 : decode (cc 133) 181 = .ok (.aload_n 0, 1) := by decide +kernel
theorem d133_182 : decode (cc 133) 182 = .ok (.iload 4, 2) := by decide +kernel
theorem d133_184 : decode (cc 133) 184 = .ok (.iconst 3, 1) := by decide +kernel
theorem d133_185 : decode (cc 133) 185 = .ok (.iadd, 1) := by decide +kernel
theorem d133_186 : decode (cc 133) 186 = .ok (.iaload, 1) := by decide +kernel
theorem d133_187 : decode (cc 133) 187 = .ok (.aload_n 0, 1) := by decide +kernel
theorem d133_188 : decode (cc 133) 188 = .ok (.iload 4, 2) := by decide +kernel
theorem d133_190 : decode (cc 133) 190 = .ok (.iconst 4, 1) := by decide +kernel
theorem d133_191 : decode (cc 133) 191 = .ok (.iadd, 1) := by decide +kernel
theorem d133_192 : decode (cc 133) 192 = .ok (.iaload, 1) := by decide +kernel
theorem d133_193 : decode (cc 133) 193 = .ok (.aload_n 0, 1) := by decide +kernel
theorem d133_194 : decode (cc 133) 194 = .ok (.iload 4, 2) := by decide +kernel
theorem d133_196 : decode (cc 133) 196 = .ok (.iconst 5, 1) := by decide +kernel
theorem d133_197 : decode (cc 133) 197 = .ok (.iadd, 1) := by decide +kernel
theorem d133_198 : decode (cc 133) 198 = .ok (.iaload, 1) := by decide +kernel
theorem d133_199 : decode (cc 133) 199 = .ok (.invokevirtual 86, 3) := by decide +kernel
theorem d133_202 : decode (cc 133) 202 = .ok (.aload_n 2, 1) := by decide +kernel
theorem d133_203 : decode (cc 133) 203 = .ok (.invokevirtual 87, 3) := by decide +kernel
theorem d133_206 : decode (cc 133) 206 = .ok (.iload 5, 2) := by decide +kernel
theorem d133_208 : decode (cc 133) 208 = .ok (.if_icmp .eq 5, 3) := by decide +kernel
theorem d133_211 : decode (cc 133) 211 = .ok (.iconst 0, 1) := by decide +kernel
theorem d133_212 : decode (cc 133) 212 = .ok (.ireturn, 1) := by decide +kernel
theorem d133_213 : decode (cc 133) 213 = .ok (.goto 1215, 3) := by decide +kernel
theorem d133_216 : decode (cc 133) 216 = .ok (.aload_n 1, 1) := by decide +kernel
theorem d133_217 : decode (cc 133) 217 = .ok (.aload_n 0, 1) := by decide +kernel
theorem d133_218 : decode (cc 133) 218 = .ok (.iload 4, 2) := by decide +kernel
theorem d133_220 : decode (cc 133) 220 = .ok (.iconst 1, 1) := by decide +kernel
theorem d133_221 : decode (cc 133) 221 = .ok (.iadd, 1) := by decide +kernel
theorem d133_222 : decode (cc 133) 222 = .ok (.iaload, 1) := by decide +kernel
theorem d133_223 : decode (cc 133) 223 = .ok (.aload_n 0, 1) := by decide +kernel
theorem d133_224 : decode (cc 133) 224 = .ok (.iload 4, 2) := by decide +kernel
theorem d133_226 : decode (cc 133) 226 = .ok (.iconst 2, 1) := by decide +kernel
theorem d133_227 : decode (cc 133) 227 = .ok (.iadd, 1) := by decide +kernel
theorem d133_228 : decode (cc 133) 228 = .ok (.iaload, 1) := by decide +kernel
theorem d133_229 : decode (cc 133) 229 = .ok (.aload_n 0, 1) := by decide +kernel
theorem d133_230 : decode (cc 133) 230 = .ok (.iload 4, 2) := by decide +kernel
theorem d133_232 : decode (cc 133) 232 = .ok (.iconst 3, 1) := by decide +kernel
theorem d133_233 : decode (cc 133) 233 = .ok (.iadd, 1) := by decide +kernel
theorem d133_234 : decode (cc 133) 234 = .ok (.iaload, 1) := by decide +kernel
theorem d133_235 : decode (cc 133) 235 = .ok (.aload_n 0, 1) := by decide +kernel
theorem d133_236 : decode (cc 133) 236 = .ok (.iload 4, 2) := by decide +kernel
theorem d133_238 : decode (cc 133) 238 = .ok (.iconst 4, 1) := by decide +kernel
theorem d133_239 : decode (cc 133) 239 = .ok (.iadd, 1) := by decide +kernel
theorem d133_240 : decode (cc 133) 240 = .ok (.iaload, 1) := by decide +kernel
theorem d133_241 : decode (cc 133) 241 = .ok (.invokestatic 91, 3) := by decide +kernel
theorem d133_244 : decode (cc 133) 244 = .ok (.istore 5, 2) := by decide +kernel
theorem d133_246 : decode (cc 133) 246 = .ok (.aload_n 2, 1) := by decide +kernel
theorem d133_247 : decode (cc 133) 247 = .ok (.aload_n 0, 1) := by decide +kernel
theorem d133_248 : decode (cc 133) 248 = .ok (.iload 4, 2) := by decide +kernel
theorem d133_250 : decode (cc 133) 250 = .ok (.iconst 1, 1) := by decide +kernel
theorem d133_251 : decode (cc 133) 251 = .ok (.iadd, 1) := by decide +kernel
theorem d133_252 : decode (cc 133) 252 = .ok (.iaload, 1) := by decide +kernel
theorem d133_253 : decode (cc 133) 253 = .ok (.aload_n 0, 1) := by decide +kernel
theorem d133_254 : decode (cc 133) 254 = .ok (.iload 4, 2) := by decide +kernel
theorem d133_256 : decode (cc 133) 256 = .ok (.iconst 2, 1) := by decide +kernel
theorem d133_257 : decode (cc 133) 257 = .ok (.iadd, 1) := by decide +kernel
theorem d133_258 : decode (cc 133) 258 = .ok (.iaload, 1) := by decide +kernel
theorem d133_259 : decode (cc 133) 259 = .ok (.aload_n 0, 1) := by decide +kernel
theorem d133_260 : decode (cc 133) 260 = .ok (.iload 4, 2) := by decide +kernel
theorem d133_262 : decode (cc 133) 262 = .ok (.iconst 3, 1) := by decide +kernel
theorem d133_263 : decode (cc 133) 263 = .ok (.iadd, 1) := by decide +kernel
theorem d133_264 : decode (cc 133) 264 = .ok (.iaload, 1) := by decide +kernel
theorem d133_265 : decode (cc 133) 265 = .ok (.aload_n 0, 1) := by decide +kernel
theorem d133_266 : decode (cc 133) 266 = .ok (.iload 4, 2) := by decide +kernel
theorem d133_268 : decode (cc 133) 268 = .ok (.iconst 4, 1) := by decide +kernel
theorem d133_269 : decode (cc 133) 269 = .ok (.iadd, 1) := by decide +kernel
theorem d133_270 : decode (cc 133) 270 = .ok (.iaload, 1) := by decide +kernel
theorem d133_271 : decode (cc 133) 271 = .ok (.invokevirtual 94, 3) := by decide +kernel
theorem d133_274 : decode (cc 133) 274 = .ok (.aload_n 2, 1) := by decide +kernel
theorem d133_275 : decode (cc 133) 275 = .ok (.invokevirtual 87, 3) := by decide +kernel
theorem d133_278 : decode (cc 133) 278 = .ok (.iload 5, 2) := by decide +kernel
theorem d133_280 : decode (cc 133) 280 = .ok (.if_icmp .eq 5, 3) := by decide +kernel
theorem d133_283 : decode (cc 133) 283 = .ok (.iconst 0, 1) := by decide +kernel
theorem d133_284 : decode (cc 133) 284 = .ok (.ireturn, 1) := by decide +kernel
theorem d133_285 : decode (cc 133) 285 = .ok (.goto 1143, 3) := by decide +kernel
theorem d133_288 : decode (cc 133) 288 = .ok (.aload_n 1, 1) := by decide +kernel
theorem d133_289 : decode (cc 133) 289 = .ok (.aload_n 0, 1) := by decide +kernel
theorem d133_290 : decode (cc 133) 290 = .ok (.iload 4, 2) := by decide +kernel
theorem d133_292 : decode (cc 133) 292 = .ok (.iconst 1, 1) := by decide +kernel
theorem d133_293 : decode (cc 133) 293 = .ok (.iadd, 1) := by decide +kernel
theorem d133_294 : decode (cc 133) 294 = .ok (.iaload, 1) := by decide +kernel
theorem d133_295 : decode (cc 133) 295 = .ok (.aload_n 0, 1) := by decide +kernel
theorem d133_296 : decode (cc 133) 296 = .ok (.iload 4, 2) := by decide +kernel
theorem d133_298 : decode (cc 133) 298 = .ok (.iconst 2, 1) := by decide +kernel
theorem d133_299 : decode (cc 133) 299 = .ok (.iadd, 1) := by decide +kernel
theorem d133_300 : decode (cc 133) 300 = .ok (.iaload, 1) := by decide +kernel
theorem d133_301 : decode (cc 133) 301 = .ok (.aload_n 0, 1) := by decide +kernel
theorem d133_302 : decode (cc 133) 302 = .ok (.iload 4, 2) := by decide +kernel
theorem d133_304 : decode (cc 133) 304 = .ok (.iconst 3, 1) := by decide +kernel
theorem d133_305 : decode (cc 133) 305 = .ok (.iadd, 1) := by decide +kernel
theorem d133_306 : decode (cc 133) 306 = .ok (.iaload, 1) := by decide +kernel
theorem d133_307 : decode (cc 133) 307 = .ok (.invokestatic 95, 3) := by decide +kernel
theorem d133_310 : decode (cc 133) 310 = .ok (.istore 5, 2) := by decide +kernel
theorem d133_312 : decode (cc 133) 312 = .ok (.aload_n 2, 1) := by decide +kernel
theorem d133_313 : decode (cc 133) 313 = .ok (.aload_n 0, 1) := by decide +kernel
theorem d133_314 : decode (cc 133) 314 = .ok (.iload 4, 2) := by decide +kernel
theorem d133_316 : decode (cc 133) 316 = .ok (.iconst 1, 1) := by decide +kernel
theorem d133_317 : decode (cc 133) 317 = .ok (.iadd, 1) := by decide +kernel
theorem d133_318 : decode (cc 133) 318 = .ok (.iaload, 1) := by decide +kernel
theorem d133_319 : decode (cc 133) 319 = .ok (.aload_n 0, 1) := by decide +kernel
theorem d133_320 : decode (cc 133) 320 = .ok (.iload 4, 2) := by decide +kernel
theorem d133_322 : decode (cc 133) 322 = .ok (.iconst 2, 1) := by decide +kernel
theorem d133_323 : decode (cc 133) 323 = .ok (.iadd, 1) := by decide +kernel
theorem d133_324 : decode (cc 133) 324 = .ok (.iaload, 1) := by decide +kernel
theorem d133_325 : decode (cc 133) 325 = .ok (.aload_n 0, 1) := by decide +kernel
theorem d133_326 : decode (cc 133) 326 = .ok (.iload 4, 2) := by decide +kernel
theorem d133_328 : decode (cc 133) 328 = .ok (.iconst 3, 1) := by decide +kernel
theorem d133_329 : decode (cc 133) 329 = .ok (.iadd, 1) := by decide +kernel
theorem d133_330 : decode (cc 133) 330 = .ok (.iaload, 1) := by decide +kernel
theorem d133_331 : decode (cc 133) 331 = .ok (.invokevirtual 98, 3) := by decide +kernel
theorem d133_334 : decode (cc 133) 334 = .ok (.aload_n 2, 1) := by decide +kernel
theorem d133_335 : decode (cc 133) 335 = .ok (.invokevirtual 87, 3) := by decide +kernel
theorem d133_338 : decode (cc 133) 338 = .ok (.iload 5, 2) := by decide +kernel
theorem d133_340 : decode (cc 133) 340 = .ok (.if_icmp .eq 5, 3) := by decide +kernel
theorem d133_343 : decode (cc 133) 343 = .ok (.iconst 0, 1) := by decide +kernel
theorem d133_344 : decode (cc 133) 344 = .ok (.ireturn, 1) := by decide +kernel
theorem d133_345 : decode (cc 133) 345 = .ok (.goto 1083, 3) := by decide +kernel
theorem d133_348 : decode (cc 133) 348 = .ok (.aload_n 1, 1) := by decide +kernel
theorem d133_349 : decode (cc 133) 349 = .ok (.aload_n 0, 1) := by decide +kernel
theorem d133_350 : decode (cc 133) 350 = .ok (.iload 4, 2) := by decide +kernel
theorem d133_352 : decode (cc 133) 352 = .ok (.iconst 1, 1) := by decide +kernel
theorem d133_353 : decode (cc 133) 353 = .ok (.iadd, 1) := by decide +kernel
theorem d133_354 : decode (cc 133) 354 = .ok (.iaload, 1) := by decide +kernel
theorem d133_355 : decode (cc 133) 355 = .ok (.aload_n 0, 1) := by decide +kernel
theorem d133_356 : decode (cc 133) 356 = .ok (.iload 4, 2) := by decide +kernel
theorem d133_358 : decode (cc 133) 358 = .ok (.iconst 2, 1) := by decide +kernel
theorem d133_359 : decode (cc 133) 359 = .ok (.iadd, 1) := by decide +kernel
theorem d133_360 : decode (cc 133) 360 = .ok (.iaload, 1) := by decide +kernel
theorem d133_361 : decode (cc 133) 361 = .ok (.aload_n 0, 1) := by decide +kernel
theorem d133_362 : decode (cc 133) 362 = .ok (.iload 4, 2) := by decide +kernel
theorem d133_364 : decode (cc 133) 364 = .ok (.iconst 3, 1) := by decide +kernel
theorem d133_365 : decode (cc 133) 365 = .ok (.iadd, 1) := by decide +kernel
theorem d133_366 : decode (cc 133) 366 = .ok (.iaload, 1) := by decide +kernel
theorem d133_367 : decode (cc 133) 367 = .ok (.aload_n 0, 1) := by decide +kernel
theorem d133_368 : decode (cc 133) 368 = .ok (.iload 4, 2) := by decide +kernel
theorem d133_370 : decode (cc 133) 370 = .ok (.iconst 4, 1) := by decide +kernel
theorem d133_371 : decode (cc 133) 371 = .ok (.iadd, 1) := by decide +kernel
theorem d133_372 : decode (cc 133) 372 = .ok (.iaload, 1) := by decide +kernel
theorem d133_373 : decode (cc 133) 373 = .ok (.aload_n 0, 1) := by decide +kernel
theorem d133_374 : decode (cc 133) 374 = .ok (.iload 4, 2) := by decide +kernel
theorem d133_376 : decode (cc 133) 376 = .ok (.iconst 5, 1) := by decide +kernel
theorem d133_377 : decode (cc 133) 377 = .ok (.iadd, 1) := by decide +kernel
theorem d133_378 : decode (cc 133) 378 = .ok (.iaload, 1) := by decide +kernel
theorem d133_379 : decode (cc 133) 379 = .ok (.invokestatic 99, 3) := by decide +kernel
theorem d133_382 : decode (cc 133) 382 = .ok (.istore 5, 2) := by decide +kernel
theorem d133_384 : decode (cc 133) 384 = .ok (.aload_n 2, 1) := by decide +kernel
theorem d133_385 : decode (cc 133) 385 = .ok (.aload_n 0, 1) := by decide +kernel
theorem d133_386 : decode (cc 133) 386 = .ok (.iload 4, 2) := by decide +kernel
theorem d133_388 : decode (cc 133) 388 = .ok (.iconst 1, 1) := by decide +kernel
theorem d133_389 : decode (cc 133) 389 = .ok (.iadd, 1) := by decide +kernel
theorem d133_390 : decode (cc 133) 390 = .ok (.iaload, 1) := by decide +kernel
theorem d133_391 : decode (cc 133) 391 = .ok (.aload_n 0, 1) := by decide +kernel
theorem d133_392 : decode (cc 133) 392 = .ok (.iload 4, 2) := by decide +kernel
theorem d133_394 : decode (cc 133) 394 = .ok (.iconst 2, 1) := by decide +kernel
theorem d133_395 : decode (cc 133) 395 = .ok (.iadd, 1) := by decide +kernel
theorem d133_396 : decode (cc 133) 396 = .ok (.iaload, 1) := by decide +kernel
theorem d133_397 : decode (cc 133) 397 = .ok (.aload_n 0, 1) := by decide +kernel
theorem d133_398 : decode (cc 133) 398 = .ok (.iload 4, 2) := by decide +kernel
theorem d133_400 : decode (cc 133) 400 = .ok (.iconst 3, 1) := by decide +kernel
theorem d133_401 : decode (cc 133) 401 = .ok (.iadd, 1) := by decide +kernel
theorem d133_402 : decode (cc 133) 402 = .ok (.iaload, 1) := by decide +kernel
theorem d133_403 : decode (cc 133) 403 = .ok (.aload_n 0, 1) := by decide +kernel
theorem d133_404 : decode (cc 133) 404 = .ok (.iload 4, 2) := by decide +kernel
theorem d133_406 : decode (cc 133) 406 = .ok (.iconst 4, 1) := by decide +kernel
theorem d133_407 : decode (cc 133) 407 = .ok (.iadd, 1) := by decide +kernel
theorem d133_408 : decode (cc 133) 408 = .ok (.iaload, 1) := by decide +kernel
theorem d133_409 : decode (cc 133) 409 = .ok (.aload_n 0, 1) := by decide +kernel
theorem d133_410 : decode (cc 133) 410 = .ok (.iload 4, 2) := by decide +kernel
theorem d133_412 : decode (cc 133) 412 = .ok (.iconst 5, 1) := by decide +kernel
theorem d133_413 : decode (cc 133) 413 = .ok (.iadd, 1) := by decide +kernel
theorem d133_414 : decode (cc 133) 414 = .ok (.iaload, 1) := by decide +kernel
theorem d133_415 : decode (cc 133) 415 = .ok (.invokevirtual 101, 3) := by decide +kernel
theorem d133_418 : decode (cc 133) 418 = .ok (.aload_n 2, 1) := by decide +kernel
theorem d133_419 : decode (cc 133) 419 = .ok (.invokevirtual 87, 3) := by decide +kernel
theorem d133_422 : decode (cc 133) 422 = .ok (.iload 5, 2) := by decide +kernel
theorem d133_424 : decode (cc 133) 424 = .ok (.if_icmp .eq 5, 3) := by decide +kernel
theorem d133_427 : decode (cc 133) 427 = .ok (.iconst 0, 1) := by decide +kernel
theorem d133_428 : decode (cc 133) 428 = .ok (.ireturn, 1) := by decide +kernel
theorem d133_429 : decode (cc 133) 429 = .ok (.goto 999, 3) := by decide +kernel
theorem d133_432 : decode (cc 133) 432 = .ok (.aload_n 1, 1) := by decide +kernel
theorem d133_433 : decode (cc 133) 433 = .ok (.aload_n 0, 1) := by decide +kernel
theorem d133_434 : decode (cc 133) 434 = .ok (.iload 4, 2) := by decide +kernel
theorem d133_436 : decode (cc 133) 436 = .ok (.iconst 1, 1) := by decide +kernel
theorem d133_437 : decode (cc 133) 437 = .ok (.iadd, 1) := by decide +kernel
theorem d133_438 : decode (cc 133) 438 = .ok (.iaload, 1) := by decide +kernel
theorem d133_439 : decode (cc 133) 439 = .ok (.aload_n 0, 1) := by decide +kernel
theorem d133_440 : decode (cc 133) 440 = .ok (.iload 4, 2) := by decide +kernel
theorem d133_442 : decode (cc 133) 442 = .ok (.iconst 2, 1) := by decide +kernel
theorem d133_443 : decode (cc 133) 443 = .ok (.iadd, 1) := by decide +kernel
theorem d133_444 : decode (cc 133) 444 = .ok (.iaload, 1) := by decide +kernel
theorem d133_445 : decode (cc 133) 445 = .ok (.aload_n 3, 1) := by decide +kernel
theorem d133_446 : decode (cc 133) 446 = .ok (.invokestatic 102, 3) := by decide +kernel
theorem d133_449 : decode (cc 133) 449 = .ok (.istore 5, 2) := by decide +kernel
theorem d133_451 : decode (cc 133) 451 = .ok (.aload_n 2, 1) := by decide +kernel
theorem d133_452 : decode (cc 133) 452 = .ok (.aload_n 0, 1) := by decide +kernel
theorem d133_453 : decode (cc 133) 453 = .ok (.iload 4, 2) := by decide +kernel
theorem d133_455 : decode (cc 133) 455 = .ok (.iconst 1, 1) := by decide +kernel
theorem d133_456 : decode (cc 133) 456 = .ok (.iadd, 1) := by decide +kernel
theorem d133_457 : decode (cc 133) 457 = .ok (.iaload, 1) := by decide +kernel
theorem d133_458 : decode (cc 133) 458 = .ok (.aload_n 0, 1) := by decide +kernel
theorem d133_459 : decode (cc 133) 459 = .ok (.iload 4, 2) := by decide +kernel
theorem d133_461 : decode (cc 133) 461 = .ok (.iconst 2, 1) := by decide +kernel
theorem d133_462 : decode (cc 133) 462 = .ok (.iadd, 1) := by decide +kernel
theorem d133_463 : decode (cc 133) 463 = .ok (.iaload, 1) := by decide +kernel
theorem d133_464 : decode (cc 133) 464 = .ok (.invokevirtual 105, 3) := by decide +kernel
theorem d133_467 : decode (cc 133) 467 = .ok (.istore 6, 2) := by decide +kernel
theorem d133_469 : decode (cc 133) 469 = .ok (.aload_n 2, 1) := by decide +kernel
theorem d133_470 : decode (cc 133) 470 = .ok (.invokevirtual 87, 3) := by decide +kernel
theorem d133_473 : decode (cc 133) 473 = .ok (.iload 5, 2) := by decide +kernel
theorem d133_475 : decode (cc 133) 475 = .ok (.if_icmp .eq 5, 3) := by decide +kernel
theorem d133_478 : decode (cc 133) 478 = .ok (.iconst 0, 1) := by decide +kernel
theorem d133_479 : decode (cc 133) 479 = .ok (.ireturn, 1) := by decide +kernel
theorem d133_480 : decode (cc 133) 480 = .ok (.iload 5, 2) := by decide +kernel
theorem d133_482 : decode (cc 133) 482 = .ok (.ifCond .ne 15, 3) := by decide +kernel
theorem d133_485 : decode (cc 133) 485 = .ok (.aload_n 3, 1) := by decide +kernel
theorem d133_486 : decode (cc 133) 486 = .ok (.iconst 0, 1) := by decide +kernel
theorem d133_487 : decode (cc 133) 487 = .ok (.laload, 1) := by decide +kernel
theorem d133_488 : decode (cc 133) 488 = .ok (.iload 6, 2) := by decide +kernel
theorem d133_490 : decode (cc 133) 490 = .ok (.i2l, 1) := by decide +kernel
theorem d133_491 : decode (cc 133) 491 = .ok (.lcmp, 1) := by decide +kernel
theorem d133_492 : decode (cc 133) 492 = .ok (.ifCond .eq 5, 3) := by decide +kernel
theorem d133_495 : decode (cc 133) 495 = .ok (.iconst 0, 1) := by decide +kernel
theorem d133_496 : decode (cc 133) 496 = .ok (.ireturn, 1) := by decide +kernel
theorem d133_497 : decode (cc 133) 497 = .ok (.goto 931, 3) := by decide +kernel
theorem d133_500 : decode (cc 133) 500 = .ok (.aload_n 1, 1) := by decide +kernel
theorem d133_501 : decode (cc 133) 501 = .ok (.aload_n 0, 1) := by decide +kernel
theorem d133_502 : decode (cc 133) 502 = .ok (.iload 4, 2) := by decide +kernel
theorem d133_504 : decode (cc 133) 504 = .ok (.iconst 1, 1) := by decide +kernel
theorem d133_505 : decode (cc 133) 505 = .ok (.iadd, 1) := by decide +kernel
theorem d133_506 : decode (cc 133) 506 = .ok (.iaload, 1) := by decide +kernel
theorem d133_507 : decode (cc 133) 507 = .ok (.aload_n 0, 1) := by decide +kernel
theorem d133_508 : decode (cc 133) 508 = .ok (.iload 4, 2) := by decide +kernel
theorem d133_510 : decode (cc 133) 510 = .ok (.iconst 2, 1) := by decide +kernel
theorem d133_511 : decode (cc 133) 511 = .ok (.iadd, 1) := by decide +kernel
theorem d133_512 : decode (cc 133) 512 = .ok (.iaload, 1) := by decide +kernel
theorem d133_513 : decode (cc 133) 513 = .ok (.aload_n 0, 1) := by decide +kernel
theorem d133_514 : decode (cc 133) 514 = .ok (.iload 4, 2) := by decide +kernel
theorem d133_516 : decode (cc 133) 516 = .ok (.iconst 3, 1) := by decide +kernel
theorem d133_517 : decode (cc 133) 517 = .ok (.iadd, 1) := by decide +kernel
theorem d133_518 : decode (cc 133) 518 = .ok (.iaload, 1) := by decide +kernel
theorem d133_519 : decode (cc 133) 519 = .ok (.aload_n 3, 1) := by decide +kernel
theorem d133_520 : decode (cc 133) 520 = .ok (.invokestatic 106, 3) := by decide +kernel
theorem d133_523 : decode (cc 133) 523 = .ok (.istore 5, 2) := by decide +kernel
theorem d133_525 : decode (cc 133) 525 = .ok (.aload_n 2, 1) := by decide +kernel
theorem d133_526 : decode (cc 133) 526 = .ok (.aload_n 0, 1) := by decide +kernel
theorem d133_527 : decode (cc 133) 527 = .ok (.iload 4, 2) := by decide +kernel
theorem d133_529 : decode (cc 133) 529 = .ok (.iconst 1, 1) := by decide +kernel
theorem d133_530 : decode (cc 133) 530 = .ok (.iadd, 1) := by decide +kernel
theorem d133_531 : decode (cc 133) 531 = .ok (.iaload, 1) := by decide +kernel
theorem d133_532 : decode (cc 133) 532 = .ok (.aload_n 0, 1) := by decide +kernel
theorem d133_533 : decode (cc 133) 533 = .ok (.iload 4, 2) := by decide +kernel
theorem d133_535 : decode (cc 133) 535 = .ok (.iconst 2, 1) := by decide +kernel
theorem d133_536 : decode (cc 133) 536 = .ok (.iadd, 1) := by decide +kernel
theorem d133_537 : decode (cc 133) 537 = .ok (.iaload, 1) := by decide +kernel
theorem d133_538 : decode (cc 133) 538 = .ok (.aload_n 0, 1) := by decide +kernel
theorem d133_539 : decode (cc 133) 539 = .ok (.iload 4, 2) := by decide +kernel
theorem d133_541 : decode (cc 133) 541 = .ok (.iconst 3, 1) := by decide +kernel
theorem d133_542 : decode (cc 133) 542 = .ok (.iadd, 1) := by decide +kernel
theorem d133_543 : decode (cc 133) 543 = .ok (.iaload, 1) := by decide +kernel
theorem d133_544 : decode (cc 133) 544 = .ok (.invokevirtual 109, 3) := by decide +kernel
theorem d133_547 : decode (cc 133) 547 = .ok (.istore 6, 2) := by decide +kernel
theorem d133_549 : decode (cc 133) 549 = .ok (.aload_n 2, 1) := by decide +kernel
theorem d133_550 : decode (cc 133) 550 = .ok (.invokevirtual 87, 3) := by decide +kernel
theorem d133_553 : decode (cc 133) 553 = .ok (.iload 5, 2) := by decide +kernel
theorem d133_555 : decode (cc 133) 555 = .ok (.if_icmp .eq 5, 3) := by decide +kernel
theorem d133_558 : decode (cc 133) 558 = .ok (.iconst 0, 1) := by decide +kernel
theorem d133_559 : decode (cc 133) 559 = .ok (.ireturn, 1) := by decide +kernel
theorem d133_560 : decode (cc 133) 560 = .ok (.iload 5, 2) := by decide +kernel
theorem d133_562 : decode (cc 133) 562 = .ok (.ifCond .ne 15, 3) := by decide +kernel
theorem d133_565 : decode (cc 133) 565 = .ok (.aload_n 3, 1) := by decide +kernel
theorem d133_566 : decode (cc 133) 566 = .ok (.iconst 0, 1) := by decide +kernel
theorem d133_567 : decode (cc 133) 567 = .ok (.laload, 1) := by decide +kernel
theorem d133_568 : decode (cc 133) 568 = .ok (.iload 6, 2) := by decide +kernel
theorem d133_570 : decode (cc 133) 570 = .ok (.i2l, 1) := by decide +kernel
theorem d133_571 : decode (cc 133) 571 = .ok (.lcmp, 1) := by decide +kernel
theorem d133_572 : decode (cc 133) 572 = .ok (.ifCond .eq 5, 3) := by decide +kernel
theorem d133_575 : decode (cc 133) 575 = .ok (.iconst 0, 1) := by decide +kernel
theorem d133_576 : decode (cc 133) 576 = .ok (.ireturn, 1) := by decide +kernel
theorem d133_577 : decode (cc 133) 577 = .ok (.goto 851, 3) := by decide +kernel
theorem d133_580 : decode (cc 133) 580 = .ok (.aload_n 1, 1) := by decide +kernel
theorem d133_581 : decode (cc 133) 581 = .ok (.aload_n 0, 1) := by decide +kernel
theorem d133_582 : decode (cc 133) 582 = .ok (.iload 4, 2) := by decide +kernel
theorem d133_584 : decode (cc 133) 584 = .ok (.iconst 1, 1) := by decide +kernel
theorem d133_585 : decode (cc 133) 585 = .ok (.iadd, 1) := by decide +kernel
theorem d133_586 : decode (cc 133) 586 = .ok (.iaload, 1) := by decide +kernel
theorem d133_587 : decode (cc 133) 587 = .ok (.aload_n 0, 1) := by decide +kernel
theorem d133_588 : decode (cc 133) 588 = .ok (.iload 4, 2) := by decide +kernel
theorem d133_590 : decode (cc 133) 590 = .ok (.iconst 2, 1) := by decide +kernel
theorem d133_591 : decode (cc 133) 591 = .ok (.iadd, 1) := by decide +kernel
theorem d133_592 : decode (cc 133) 592 = .ok (.iaload, 1) := by decide +kernel
theorem d133_593 : decode (cc 133) 593 = .ok (.aload_n 0, 1) := by decide +kernel
theorem d133_594 : decode (cc 133) 594 = .ok (.iload 4, 2) := by decide +kernel
theorem d133_596 : decode (cc 133) 596 = .ok (.iconst 3, 1) := by decide +kernel
theorem d133_597 : decode (cc 133) 597 = .ok (.iadd, 1) := by decide +kernel
theorem d133_598 : decode (cc 133) 598 = .ok (.iaload, 1) := by decide +kernel
theorem d133_599 : decode (cc 133) 599 = .ok (.aload_n 3, 1) := by decide +kernel
theorem d133_600 : decode (cc 133) 600 = .ok (.invokestatic 110, 3) := by decide +kernel
theorem d133_603 : decode (cc 133) 603 = .ok (.istore 5, 2) := by decide +kernel
theorem d133_605 : decode (cc 133) 605 = .ok (.aload_n 2, 1) := by decide +kernel
theorem d133_606 : decode (cc 133) 606 = .ok (.aload_n 0, 1) := by decide +kernel
theorem d133_607 : decode (cc 133) 607 = .ok (.iload 4, 2) := by decide +kernel
theorem d133_609 : decode (cc 133) 609 = .ok (.iconst 1, 1) := by decide +kernel
theorem d133_610 : decode (cc 133) 610 = .ok (.iadd, 1) := by decide +kernel
theorem d133_611 : decode (cc 133) 611 = .ok (.iaload, 1) := by decide +kernel
theorem d133_612 : decode (cc 133) 612 = .ok (.aload_n 0, 1) := by decide +kernel
theorem d133_613 : decode (cc 133) 613 = .ok (.iload 4, 2) := by decide +kernel
theorem d133_615 : decode (cc 133) 615 = .ok (.iconst 2, 1) := by decide +kernel
theorem d133_616 : decode (cc 133) 616 = .ok (.iadd, 1) := by decide +kernel
theorem d133_617 : decode (cc 133) 617 = .ok (.iaload, 1) := by decide +kernel
theorem d133_618 : decode (cc 133) 618 = .ok (.aload_n 0, 1) := by decide +kernel
theorem d133_619 : decode (cc 133) 619 = .ok (.iload 4, 2) := by decide +kernel
theorem d133_621 : decode (cc 133) 621 = .ok (.iconst 3, 1) := by decide +kernel
theorem d133_622 : decode (cc 133) 622 = .ok (.iadd, 1) := by decide +kernel
theorem d133_623 : decode (cc 133) 623 = .ok (.iaload, 1) := by decide +kernel
theorem d133_624 : decode (cc 133) 624 = .ok (.invokevirtual 112, 3) := by decide +kernel
theorem d133_627 : decode (cc 133) 627 = .ok (.istore 6, 2) := by decide +kernel
theorem d133_629 : decode (cc 133) 629 = .ok (.aload_n 2, 1) := by decide +kernel
theorem d133_630 : decode (cc 133) 630 = .ok (.invokevirtual 87, 3) := by decide +kernel
theorem d133_633 : decode (cc 133) 633 = .ok (.iload 5, 2) := by decide +kernel
theorem d133_635 : decode (cc 133) 635 = .ok (.if_icmp .eq 5, 3) := by decide +kernel
theorem d133_638 : decode (cc 133) 638 = .ok (.iconst 0, 1) := by decide +kernel
theorem d133_639 : decode (cc 133) 639 = .ok (.ireturn, 1) := by decide +kernel
theorem d133_640 : decode (cc 133) 640 = .ok (.iload 5, 2) := by decide +kernel
theorem d133_642 : decode (cc 133) 642 = .ok (.ifCond .ne 15, 3) := by decide +kernel
theorem d133_645 : decode (cc 133) 645 = .ok (.aload_n 3, 1) := by decide +kernel
theorem d133_646 : decode (cc 133) 646 = .ok (.iconst 0, 1) := by decide +kernel
theorem d133_647 : decode (cc 133) 647 = .ok (.laload, 1) := by decide +kernel
theorem d133_648 : decode (cc 133) 648 = .ok (.iload 6, 2) := by decide +kernel
theorem d133_650 : decode (cc 133) 650 = .ok (.i2l, 1) := by decide +kernel
theorem d133_651 : decode (cc 133) 651 = .ok (.lcmp, 1) := by decide +kernel
theorem d133_652 : decode (cc 133) 652 = .ok (.ifCond .eq 5, 3) := by decide +kernel
theorem d133_655 : decode (cc 133) 655 = .ok (.iconst 0, 1) := by decide +kernel
theorem d133_656 : decode (cc 133) 656 = .ok (.ireturn, 1) := by decide +kernel
theorem d133_657 : decode (cc 133) 657 = .ok (.goto 771, 3) := by decide +kernel
theorem d133_660 : decode (cc 133) 660 = .ok (.aload_n 1, 1) := by decide +kernel
theorem d133_661 : decode (cc 133) 661 = .ok (.aload_n 0, 1) := by decide +kernel
theorem d133_662 : decode (cc 133) 662 = .ok (.iload 4, 2) := by decide +kernel
theorem d133_664 : decode (cc 133) 664 = .ok (.iconst 1, 1) := by decide +kernel
theorem d133_665 : decode (cc 133) 665 = .ok (.iadd, 1) := by decide +kernel
theorem d133_666 : decode (cc 133) 666 = .ok (.iaload, 1) := by decide +kernel
theorem d133_667 : decode (cc 133) 667 = .ok (.aload_n 0, 1) := by decide +kernel
theorem d133_668 : decode (cc 133) 668 = .ok (.iload 4, 2) := by decide +kernel
theorem d133_670 : decode (cc 133) 670 = .ok (.iconst 2, 1) := by decide +kernel
theorem d133_671 : decode (cc 133) 671 = .ok (.iadd, 1) := by decide +kernel
theorem d133_672 : decode (cc 133) 672 = .ok (.iaload, 1) := by decide +kernel
theorem d133_673 : decode (cc 133) 673 = .ok (.aload_n 0, 1) := by decide +kernel
theorem d133_674 : decode (cc 133) 674 = .ok (.iload 4, 2) := by decide +kernel
theorem d133_676 : decode (cc 133) 676 = .ok (.iconst 3, 1) := by decide +kernel
theorem d133_677 : decode (cc 133) 677 = .ok (.iadd, 1) := by decide +kernel
theorem d133_678 : decode (cc 133) 678 = .ok (.iaload, 1) := by decide +kernel
theorem d133_679 : decode (cc 133) 679 = .ok (.aload_n 3, 1) := by decide +kernel
theorem d133_680 : decode (cc 133) 680 = .ok (.invokestatic 113, 3) := by decide +kernel
theorem d133_683 : decode (cc 133) 683 = .ok (.istore 5, 2) := by decide +kernel
theorem d133_685 : decode (cc 133) 685 = .ok (.aload_n 2, 1) := by decide +kernel
theorem d133_686 : decode (cc 133) 686 = .ok (.aload_n 0, 1) := by decide +kernel
theorem d133_687 : decode (cc 133) 687 = .ok (.iload 4, 2) := by decide +kernel
theorem d133_689 : decode (cc 133) 689 = .ok (.iconst 1, 1) := by decide +kernel
theorem d133_690 : decode (cc 133) 690 = .ok (.iadd, 1) := by decide +kernel
theorem d133_691 : decode (cc 133) 691 = .ok (.iaload, 1) := by decide +kernel
theorem d133_692 : decode (cc 133) 692 = .ok (.aload_n 0, 1) := by decide +kernel
theorem d133_693 : decode (cc 133) 693 = .ok (.iload 4, 2) := by decide +kernel
theorem d133_695 : decode (cc 133) 695 = .ok (.iconst 2, 1) := by decide +kernel
theorem d133_696 : decode (cc 133) 696 = .ok (.iadd, 1) := by decide +kernel
theorem d133_697 : decode (cc 133) 697 = .ok (.iaload, 1) := by decide +kernel
theorem d133_698 : decode (cc 133) 698 = .ok (.aload_n 0, 1) := by decide +kernel
theorem d133_699 : decode (cc 133) 699 = .ok (.iload 4, 2) := by decide +kernel
theorem d133_701 : decode (cc 133) 701 = .ok (.iconst 3, 1) := by decide +kernel
theorem d133_702 : decode (cc 133) 702 = .ok (.iadd, 1) := by decide +kernel
theorem d133_703 : decode (cc 133) 703 = .ok (.iaload, 1) := by decide +kernel
theorem d133_704 : decode (cc 133) 704 = .ok (.invokevirtual 115, 3) := by decide +kernel
theorem d133_707 : decode (cc 133) 707 = .ok (.istore 6, 2) := by decide +kernel
theorem d133_709 : decode (cc 133) 709 = .ok (.aload_n 2, 1) := by decide +kernel
theorem d133_710 : decode (cc 133) 710 = .ok (.invokevirtual 87, 3) := by decide +kernel
theorem d133_713 : decode (cc 133) 713 = .ok (.iload 5, 2) := by decide +kernel
theorem d133_715 : decode (cc 133) 715 = .ok (.if_icmp .eq 5, 3) := by decide +kernel
theorem d133_718 : decode (cc 133) 718 = .ok (.iconst 0, 1) := by decide +kernel
theorem d133_719 : decode (cc 133) 719 = .ok (.ireturn, 1) := by decide +kernel
theorem d133_720 : decode (cc 133) 720 = .ok (.iload 5, 2) := by decide +kernel
theorem d133_722 : decode (cc 133) 722 = .ok (.ifCond .ne 15, 3) := by decide +kernel
theorem d133_725 : decode (cc 133) 725 = .ok (.aload_n 3, 1) := by decide +kernel
theorem d133_726 : decode (cc 133) 726 = .ok (.iconst 0, 1) := by decide +kernel
theorem d133_727 : decode (cc 133) 727 = .ok (.laload, 1) := by decide +kernel
theorem d133_728 : decode (cc 133) 728 = .ok (.iload 6, 2) := by decide +kernel
theorem d133_730 : decode (cc 133) 730 = .ok (.i2l, 1) := by decide +kernel
theorem d133_731 : decode (cc 133) 731 = .ok (.lcmp, 1) := by decide +kernel
theorem d133_732 : decode (cc 133) 732 = .ok (.ifCond .eq 5, 3) := by decide +kernel
theorem d133_735 : decode (cc 133) 735 = .ok (.iconst 0, 1) := by decide +kernel
theorem d133_736 : decode (cc 133) 736 = .ok (.ireturn, 1) := by decide +kernel
theorem d133_737 : decode (cc 133) 737 = .ok (.goto 691, 3) := by decide +kernel
theorem d133_740 : decode (cc 133) 740 = .ok (.aload_n 1, 1) := by decide +kernel
theorem d133_741 : decode (cc 133) 741 = .ok (.invokevirtual 116, 3) := by decide +kernel
theorem d133_744 : decode (cc 133) 744 = .ok (.aload_n 2, 1) := by decide +kernel
theorem d133_745 : decode (cc 133) 745 = .ok (.invokevirtual 119, 3) := by decide +kernel
theorem d133_748 : decode (cc 133) 748 = .ok (.if_icmp .eq 680, 3) := by decide +kernel
theorem d133_751 : decode (cc 133) 751 = .ok (.iconst 0, 1) := by decide +kernel
theorem d133_752 : decode (cc 133) 752 = .ok (.ireturn, 1) := by decide +kernel
theorem d133_753 : decode (cc 133) 753 = .ok (.aload_n 1, 1) := by decide +kernel
theorem d133_754 : decode (cc 133) 754 = .ok (.aload_n 0, 1) := by decide +kernel
theorem d133_755 : decode (cc 133) 755 = .ok (.iload 4, 2) := by decide +kernel
theorem d133_757 : decode (cc 133) 757 = .ok (.iconst 1, 1) := by decide +kernel
theorem d133_758 : decode (cc 133) 758 = .ok (.iadd, 1) := by decide +kernel
theorem d133_759 : decode (cc 133) 759 = .ok (.iaload, 1) := by decide +kernel
theorem d133_760 : decode (cc 133) 760 = .ok (.aload_n 3, 1) := by decide +kernel
theorem d133_761 : decode (cc 133) 761 = .ok (.invokestatic 120, 3) := by decide +kernel
theorem d133_764 : decode (cc 133) 764 = .ok (.istore 5, 2) := by decide +kernel
theorem d133_766 : decode (cc 133) 766 = .ok (.aload_n 2, 1) := by decide +kernel
theorem d133_767 : decode (cc 133) 767 = .ok (.aload_n 0, 1) := by decide +kernel
theorem d133_768 : decode (cc 133) 768 = .ok (.iload 4, 2) := by decide +kernel
theorem d133_770 : decode (cc 133) 770 = .ok (.iconst 1, 1) := by decide +kernel
theorem d133_771 : decode (cc 133) 771 = .ok (.iadd, 1) := by decide +kernel
theorem d133_772 : decode (cc 133) 772 = .ok (.iaload, 1) := by decide +kernel
theorem d133_773 : decode (cc 133) 773 = .ok (.invokevirtual 123, 3) := by decide +kernel
theorem d133_776 : decode (cc 133) 776 = .ok (.istore 6, 2) := by decide +kernel
theorem d133_778 : decode (cc 133) 778 = .ok (.aload_n 2, 1) := by decide +kernel
theorem d133_779 : decode (cc 133) 779 = .ok (.invokevirtual 87, 3) := by decide +kernel
theorem d133_782 : decode (cc 133) 782 = .ok (.iload 5, 2) := by decide +kernel
theorem d133_784 : decode (cc 133) 784 = .ok (.if_icmp .eq 5, 3) := by decide +kernel
theorem d133_787 : decode (cc 133) 787 = .ok (.iconst 0, 1) := by decide +kernel
theorem d133_788 : decode (cc 133) 788 = .ok (.ireturn, 1) := by decide +kernel
theorem d133_789 : decode (cc 133) 789 = .ok (.iload 5, 2) := by decide +kernel
theorem d133_791 : decode (cc 133) 791 = .ok (.ifCond .ne 15, 3) := by decide +kernel
theorem d133_794 : decode (cc 133) 794 = .ok (.aload_n 3, 1) := by decide +kernel
theorem d133_795 : decode (cc 133) 795 = .ok (.iconst 0, 1) := by decide +kernel
theorem d133_796 : decode (cc 133) 796 = .ok (.laload, 1) := by decide +kernel
theorem d133_797 : decode (cc 133) 797 = .ok (.iload 6, 2) := by decide +kernel
theorem d133_799 : decode (cc 133) 799 = .ok (.i2l, 1) := by decide +kernel
theorem d133_800 : decode (cc 133) 800 = .ok (.lcmp, 1) := by decide +kernel
theorem d133_801 : decode (cc 133) 801 = .ok (.ifCond .eq 5, 3) := by decide +kernel
theorem d133_804 : decode (cc 133) 804 = .ok (.iconst 0, 1) := by decide +kernel
theorem d133_805 : decode (cc 133) 805 = .ok (.ireturn, 1) := by decide +kernel
theorem d133_806 : decode (cc 133) 806 = .ok (.goto 622, 3) := by decide +kernel
theorem d133_809 : decode (cc 133) 809 = .ok (.aload_n 1, 1) := by decide +kernel
theorem d133_810 : decode (cc 133) 810 = .ok (.aload_n 0, 1) := by decide +kernel
theorem d133_811 : decode (cc 133) 811 = .ok (.iload 4, 2) := by decide +kernel
theorem d133_813 : decode (cc 133) 813 = .ok (.iconst 1, 1) := by decide +kernel
theorem d133_814 : decode (cc 133) 814 = .ok (.iadd, 1) := by decide +kernel
theorem d133_815 : decode (cc 133) 815 = .ok (.iaload, 1) := by decide +kernel
theorem d133_816 : decode (cc 133) 816 = .ok (.aload_n 0, 1) := by decide +kernel
theorem d133_817 : decode (cc 133) 817 = .ok (.iload 4, 2) := by decide +kernel
theorem d133_819 : decode (cc 133) 819 = .ok (.iconst 2, 1) := by decide +kernel
theorem d133_820 : decode (cc 133) 820 = .ok (.iadd, 1) := by decide +kernel
theorem d133_821 : decode (cc 133) 821 = .ok (.iaload, 1) := by decide +kernel
theorem d133_822 : decode (cc 133) 822 = .ok (.aload_n 3, 1) := by decide +kernel
theorem d133_823 : decode (cc 133) 823 = .ok (.invokestatic 124, 3) := by decide +kernel
theorem d133_826 : decode (cc 133) 826 = .ok (.istore 5, 2) := by decide +kernel
theorem d133_828 : decode (cc 133) 828 = .ok (.aload_n 2, 1) := by decide +kernel
theorem d133_829 : decode (cc 133) 829 = .ok (.aload_n 0, 1) := by decide +kernel
theorem d133_830 : decode (cc 133) 830 = .ok (.iload 4, 2) := by decide +kernel
theorem d133_832 : decode (cc 133) 832 = .ok (.iconst 1, 1) := by decide +kernel
theorem d133_833 : decode (cc 133) 833 = .ok (.iadd, 1) := by decide +kernel
theorem d133_834 : decode (cc 133) 834 = .ok (.iaload, 1) := by decide +kernel
theorem d133_835 : decode (cc 133) 835 = .ok (.aload_n 0, 1) := by decide +kernel
theorem d133_836 : decode (cc 133) 836 = .ok (.iload 4, 2) := by decide +kernel
theorem d133_838 : decode (cc 133) 838 = .ok (.iconst 2, 1) := by decide +kernel
theorem d133_839 : decode (cc 133) 839 = .ok (.iadd, 1) := by decide +kernel
theorem d133_840 : decode (cc 133) 840 = .ok (.iaload, 1) := by decide +kernel
theorem d133_841 : decode (cc 133) 841 = .ok (.invokevirtual 126, 3) := by decide +kernel
theorem d133_844 : decode (cc 133) 844 = .ok (.lstore 6, 2) := by decide +kernel
theorem d133_846 : decode (cc 133) 846 = .ok (.aload_n 2, 1) := by decide +kernel
theorem d133_847 : decode (cc 133) 847 = .ok (.invokevirtual 87, 3) := by decide +kernel
theorem d133_850 : decode (cc 133) 850 = .ok (.iload 5, 2) := by decide +kernel
theorem d133_852 : decode (cc 133) 852 = .ok (.if_icmp .eq 5, 3) := by decide +kernel
theorem d133_855 : decode (cc 133) 855 = .ok (.iconst 0, 1) := by decide +kernel
theorem d133_856 : decode (cc 133) 856 = .ok (.ireturn, 1) := by decide +kernel
theorem d133_857 : decode (cc 133) 857 = .ok (.iload 5, 2) := by decide +kernel
theorem d133_859 : decode (cc 133) 859 = .ok (.ifCond .ne 14, 3) := by decide +kernel
theorem d133_862 : decode (cc 133) 862 = .ok (.aload_n 3, 1) := by decide +kernel
theorem d133_863 : decode (cc 133) 863 = .ok (.iconst 0, 1) := by decide +kernel
theorem d133_864 : decode (cc 133) 864 = .ok (.laload, 1) := by decide +kernel
theorem d133_865 : decode (cc 133) 865 = .ok (.lload 6, 2) := by decide +kernel
theorem d133_867 : decode (cc 133) 867 = .ok (.lcmp, 1) := by decide +kernel
theorem d133_868 : decode (cc 133) 868 = .ok (.ifCond .eq 5, 3) := by decide +kernel
theorem d133_871 : decode (cc 133) 871 = .ok (.iconst 0, 1) := by decide +kernel
theorem d133_872 : decode (cc 133) 872 = .ok (.ireturn, 1) := by decide +kernel
theorem d133_873 : decode (cc 133) 873 = .ok (.goto 555, 3) := by decide +kernel
theorem d133_876 : decode (cc 133) 876 = .ok (.aload_n 1, 1) := by decide +kernel
theorem d133_877 : decode (cc 133) 877 = .ok (.aload_n 0, 1) := by decide +kernel
theorem d133_878 : decode (cc 133) 878 = .ok (.iload 4, 2) := by decide +kernel
theorem d133_880 : decode (cc 133) 880 = .ok (.iconst 1, 1) := by decide +kernel
theorem d133_881 : decode (cc 133) 881 = .ok (.iadd, 1) := by decide +kernel
theorem d133_882 : decode (cc 133) 882 = .ok (.iaload, 1) := by decide +kernel
theorem d133_883 : decode (cc 133) 883 = .ok (.aload_n 0, 1) := by decide +kernel
theorem d133_884 : decode (cc 133) 884 = .ok (.iload 4, 2) := by decide +kernel
theorem d133_886 : decode (cc 133) 886 = .ok (.iconst 2, 1) := by decide +kernel
theorem d133_887 : decode (cc 133) 887 = .ok (.iadd, 1) := by decide +kernel
theorem d133_888 : decode (cc 133) 888 = .ok (.iaload, 1) := by decide +kernel
theorem d133_889 : decode (cc 133) 889 = .ok (.aload_n 3, 1) := by decide +kernel
theorem d133_890 : decode (cc 133) 890 = .ok (.invokestatic 127, 3) := by decide +kernel
theorem d133_893 : decode (cc 133) 893 = .ok (.istore 5, 2) := by decide +kernel
theorem d133_895 : decode (cc 133) 895 = .ok (.aload_n 2, 1) := by decide +kernel
theorem d133_896 : decode (cc 133) 896 = .ok (.aload_n 0, 1) := by decide +kernel
theorem d133_897 : decode (cc 133) 897 = .ok (.iload 4, 2) := by decide +kernel
theorem d133_899 : decode (cc 133) 899 = .ok (.iconst 1, 1) := by decide +kernel
theorem d133_900 : decode (cc 133) 900 = .ok (.iadd, 1) := by decide +kernel
theorem d133_901 : decode (cc 133) 901 = .ok (.iaload, 1) := by decide +kernel
theorem d133_902 : decode (cc 133) 902 = .ok (.aload_n 0, 1) := by decide +kernel
theorem d133_903 : decode (cc 133) 903 = .ok (.iload 4, 2) := by decide +kernel
theorem d133_905 : decode (cc 133) 905 = .ok (.iconst 2, 1) := by decide +kernel
theorem d133_906 : decode (cc 133) 906 = .ok (.iadd, 1) := by decide +kernel
theorem d133_907 : decode (cc 133) 907 = .ok (.iaload, 1) := by decide +kernel
theorem d133_908 : decode (cc 133) 908 = .ok (.invokevirtual 129, 3) := by decide +kernel
theorem d133_911 : decode (cc 133) 911 = .ok (.lstore 6, 2) := by decide +kernel
theorem d133_913 : decode (cc 133) 913 = .ok (.aload_n 2, 1) := by decide +kernel
theorem d133_914 : decode (cc 133) 914 = .ok (.invokevirtual 87, 3) := by decide +kernel
theorem d133_917 : decode (cc 133) 917 = .ok (.iload 5, 2) := by decide +kernel
theorem d133_919 : decode (cc 133) 919 = .ok (.if_icmp .eq 5, 3) := by decide +kernel
theorem d133_922 : decode (cc 133) 922 = .ok (.iconst 0, 1) := by decide +kernel
theorem d133_923 : decode (cc 133) 923 = .ok (.ireturn, 1) := by decide +kernel
theorem d133_924 : decode (cc 133) 924 = .ok (.iload 5, 2) := by decide +kernel
theorem d133_926 : decode (cc 133) 926 = .ok (.ifCond .ne 14, 3) := by decide +kernel
theorem d133_929 : decode (cc 133) 929 = .ok (.aload_n 3, 1) := by decide +kernel
theorem d133_930 : decode (cc 133) 930 = .ok (.iconst 0, 1) := by decide +kernel
theorem d133_931 : decode (cc 133) 931 = .ok (.laload, 1) := by decide +kernel
theorem d133_932 : decode (cc 133) 932 = .ok (.lload 6, 2) := by decide +kernel
theorem d133_934 : decode (cc 133) 934 = .ok (.lcmp, 1) := by decide +kernel
theorem d133_935 : decode (cc 133) 935 = .ok (.ifCond .eq 5, 3) := by decide +kernel
theorem d133_938 : decode (cc 133) 938 = .ok (.iconst 0, 1) := by decide +kernel
theorem d133_939 : decode (cc 133) 939 = .ok (.ireturn, 1) := by decide +kernel
theorem d133_940 : decode (cc 133) 940 = .ok (.goto 488, 3) := by decide +kernel
theorem d133_943 : decode (cc 133) 943 = .ok (.aload_n 1, 1) := by decide +kernel
theorem d133_944 : decode (cc 133) 944 = .ok (.aload_n 0, 1) := by decide +kernel
theorem d133_945 : decode (cc 133) 945 = .ok (.iload 4, 2) := by decide +kernel
theorem d133_947 : decode (cc 133) 947 = .ok (.iconst 1, 1) := by decide +kernel
theorem d133_948 : decode (cc 133) 948 = .ok (.iadd, 1) := by decide +kernel
theorem d133_949 : decode (cc 133) 949 = .ok (.iaload, 1) := by decide +kernel
theorem d133_950 : decode (cc 133) 950 = .ok (.aload_n 0, 1) := by decide +kernel
theorem d133_951 : decode (cc 133) 951 = .ok (.iload 4, 2) := by decide +kernel
theorem d133_953 : decode (cc 133) 953 = .ok (.iconst 2, 1) := by decide +kernel
theorem d133_954 : decode (cc 133) 954 = .ok (.iadd, 1) := by decide +kernel
theorem d133_955 : decode (cc 133) 955 = .ok (.iaload, 1) := by decide +kernel
theorem d133_956 : decode (cc 133) 956 = .ok (.aload_n 3, 1) := by decide +kernel
theorem d133_957 : decode (cc 133) 957 = .ok (.invokestatic 130, 3) := by decide +kernel
theorem d133_960 : decode (cc 133) 960 = .ok (.istore 5, 2) := by decide +kernel
theorem d133_962 : decode (cc 133) 962 = .ok (.aload_n 2, 1) := by decide +kernel
theorem d133_963 : decode (cc 133) 963 = .ok (.aload_n 0, 1) := by decide +kernel
theorem d133_964 : decode (cc 133) 964 = .ok (.iload 4, 2) := by decide +kernel
theorem d133_966 : decode (cc 133) 966 = .ok (.iconst 1, 1) := by decide +kernel
theorem d133_967 : decode (cc 133) 967 = .ok (.iadd, 1) := by decide +kernel
theorem d133_968 : decode (cc 133) 968 = .ok (.iaload, 1) := by decide +kernel
theorem d133_969 : decode (cc 133) 969 = .ok (.aload_n 0, 1) := by decide +kernel
theorem d133_970 : decode (cc 133) 970 = .ok (.iload 4, 2) := by decide +kernel
theorem d133_972 : decode (cc 133) 972 = .ok (.iconst 2, 1) := by decide +kernel
theorem d133_973 : decode (cc 133) 973 = .ok (.iadd, 1) := by decide +kernel
theorem d133_974 : decode (cc 133) 974 = .ok (.iaload, 1) := by decide +kernel
theorem d133_975 : decode (cc 133) 975 = .ok (.invokevirtual 132, 3) := by decide +kernel
theorem d133_978 : decode (cc 133) 978 = .ok (.lstore 6, 2) := by decide +kernel
theorem d133_980 : decode (cc 133) 980 = .ok (.aload_n 2, 1) := by decide +kernel
theorem d133_981 : decode (cc 133) 981 = .ok (.invokevirtual 87, 3) := by decide +kernel
theorem d133_984 : decode (cc 133) 984 = .ok (.iload 5, 2) := by decide +kernel
theorem d133_986 : decode (cc 133) 986 = .ok (.if_icmp .eq 5, 3) := by decide +kernel
theorem d133_989 : decode (cc 133) 989 = .ok (.iconst 0, 1) := by decide +kernel
theorem d133_990 : decode (cc 133) 990 = .ok (.ireturn, 1) := by decide +kernel
theorem d133_991 : decode (cc 133) 991 = .ok (.iload 5, 2) := by decide +kernel
theorem d133_993 : decode (cc 133) 993 = .ok (.ifCond .ne 14, 3) := by decide +kernel
theorem d133_996 : decode (cc 133) 996 = .ok (.aload_n 3, 1) := by decide +kernel
theorem d133_997 : decode (cc 133) 997 = .ok (.iconst 0, 1) := by decide +kernel
theorem d133_998 : decode (cc 133) 998 = .ok (.laload, 1) := by decide +kernel
theorem d133_999 : decode (cc 133) 999 = .ok (.lload 6, 2) := by decide +kernel
theorem d133_1001 : decode (cc 133) 1001 = .ok (.lcmp, 1) := by decide +kernel
theorem d133_1002 : decode (cc 133) 1002 = .ok (.ifCond .eq 5, 3) := by decide +kernel
theorem d133_1005 : decode (cc 133) 1005 = .ok (.iconst 0, 1) := by decide +kernel
theorem d133_1006 : decode (cc 133) 1006 = .ok (.ireturn, 1) := by decide +kernel
theorem d133_1007 : decode (cc 133) 1007 = .ok (.goto 421, 3) := by decide +kernel
theorem d133_1010 : decode (cc 133) 1010 = .ok (.aload_n 1, 1) := by decide +kernel
theorem d133_1011 : decode (cc 133) 1011 = .ok (.aload_n 0, 1) := by decide +kernel
theorem d133_1012 : decode (cc 133) 1012 = .ok (.iload 4, 2) := by decide +kernel
theorem d133_1014 : decode (cc 133) 1014 = .ok (.iconst 1, 1) := by decide +kernel
theorem d133_1015 : decode (cc 133) 1015 = .ok (.iadd, 1) := by decide +kernel
theorem d133_1016 : decode (cc 133) 1016 = .ok (.iaload, 1) := by decide +kernel
theorem d133_1017 : decode (cc 133) 1017 = .ok (.aload_n 0, 1) := by decide +kernel
theorem d133_1018 : decode (cc 133) 1018 = .ok (.iload 4, 2) := by decide +kernel
theorem d133_1020 : decode (cc 133) 1020 = .ok (.iconst 2, 1) := by decide +kernel
theorem d133_1021 : decode (cc 133) 1021 = .ok (.iadd, 1) := by decide +kernel
theorem d133_1022 : decode (cc 133) 1022 = .ok (.iaload, 1) := by decide +kernel
theorem d133_1023 : decode (cc 133) 1023 = .ok (.aload_n 0, 1) := by decide +kernel
theorem d133_1024 : decode (cc 133) 1024 = .ok (.iload 4, 2) := by decide +kernel
theorem d133_1026 : decode (cc 133) 1026 = .ok (.iconst 3, 1) := by decide +kernel
theorem d133_1027 : decode (cc 133) 1027 = .ok (.iadd, 1) := by decide +kernel
theorem d133_1028 : decode (cc 133) 1028 = .ok (.iaload, 1) := by decide +kernel
theorem d133_1029 : decode (cc 133) 1029 = .ok (.aload_n 3, 1) := by decide +kernel
theorem d133_1030 : decode (cc 133) 1030 = .ok (.invokestatic 133, 3) := by decide +kernel
theorem d133_1033 : decode (cc 133) 1033 = .ok (.istore 5, 2) := by decide +kernel
theorem d133_1035 : decode (cc 133) 1035 = .ok (.aload_n 2, 1) := by decide +kernel
theorem d133_1036 : decode (cc 133) 1036 = .ok (.aload_n 0, 1) := by decide +kernel
theorem d133_1037 : decode (cc 133) 1037 = .ok (.iload 4, 2) := by decide +kernel
theorem d133_1039 : decode (cc 133) 1039 = .ok (.iconst 1, 1) := by decide +kernel
theorem d133_1040 : decode (cc 133) 1040 = .ok (.iadd, 1) := by decide +kernel
theorem d133_1041 : decode (cc 133) 1041 = .ok (.iaload, 1) := by decide +kernel
theorem d133_1042 : decode (cc 133) 1042 = .ok (.aload_n 0, 1) := by decide +kernel
theorem d133_1043 : decode (cc 133) 1043 = .ok (.iload 4, 2) := by decide +kernel
theorem d133_1045 : decode (cc 133) 1045 = .ok (.iconst 2, 1) := by decide +kernel
theorem d133_1046 : decode (cc 133) 1046 = .ok (.iadd, 1) := by decide +kernel
theorem d133_1047 : decode (cc 133) 1047 = .ok (.iaload, 1) := by decide +kernel
theorem d133_1048 : decode (cc 133) 1048 = .ok (.aload_n 0, 1) := by decide +kernel
theorem d133_1049 : decode (cc 133) 1049 = .ok (.iload 4, 2) := by decide +kernel
theorem d133_1051 : decode (cc 133) 1051 = .ok (.iconst 3, 1) := by decide +kernel
theorem d133_1052 : decode (cc 133) 1052 = .ok (.iadd, 1) := by decide +kernel
theorem d133_1053 : decode (cc 133) 1053 = .ok (.iaload, 1) := by decide +kernel
theorem d133_1054 : decode (cc 133) 1054 = .ok (.invokevirtual 135, 3) := by decide +kernel
theorem d133_1057 : decode (cc 133) 1057 = .ok (.lstore 6, 2) := by decide +kernel
theorem d133_1059 : decode (cc 133) 1059 = .ok (.aload_n 2, 1) := by decide +kernel
theorem d133_1060 : decode (cc 133) 1060 = .ok (.invokevirtual 87, 3) := by decide +kernel
theorem d133_1063 : decode (cc 133) 1063 = .ok (.iload 5, 2) := by decide +kernel
theorem d133_1065 : decode (cc 133) 1065 = .ok (.if_icmp .eq 5, 3) := by decide +kernel
theorem d133_1068 : decode (cc 133) 1068 = .ok (.iconst 0, 1) := by decide +kernel
theorem d133_1069 : decode (cc 133) 1069 = .ok (.ireturn, 1) := by decide +kernel
theorem d133_1070 : decode (cc 133) 1070 = .ok (.iload 5, 2) := by decide +kernel
theorem d133_1072 : decode (cc 133) 1072 = .ok (.ifCond .ne 14, 3) := by decide +kernel
theorem d133_1075 : decode (cc 133) 1075 = .ok (.aload_n 3, 1) := by decide +kernel
theorem d133_1076 : decode (cc 133) 1076 = .ok (.iconst 0, 1) := by decide +kernel
theorem d133_1077 : decode (cc 133) 1077 = .ok (.laload, 1) := by decide +kernel
theorem d133_1078 : decode (cc 133) 1078 = .ok (.lload 6, 2) := by decide +kernel
theorem d133_1080 : decode (cc 133) 1080 = .ok (.lcmp, 1) := by decide +kernel
theorem d133_1081 : decode (cc 133) 1081 = .ok (.ifCond .eq 5, 3) := by decide +kernel
theorem d133_1084 : decode (cc 133) 1084 = .ok (.iconst 0, 1) := by decide +kernel
theorem d133_1085 : decode (cc 133) 1085 = .ok (.ireturn, 1) := by decide +kernel
theorem d133_1086 : decode (cc 133) 1086 = .ok (.goto 342, 3) := by decide +kernel
theorem d133_1089 : decode (cc 133) 1089 = .ok (.aload_n 1, 1) := by decide +kernel
theorem d133_1090 : decode (cc 133) 1090 = .ok (.aload_n 0, 1) := by decide +kernel
theorem d133_1091 : decode (cc 133) 1091 = .ok (.iload 4, 2) := by decide +kernel
theorem d133_1093 : decode (cc 133) 1093 = .ok (.iconst 1, 1) := by decide +kernel
theorem d133_1094 : decode (cc 133) 1094 = .ok (.iadd, 1) := by decide +kernel
theorem d133_1095 : decode (cc 133) 1095 = .ok (.iaload, 1) := by decide +kernel
theorem d133_1096 : decode (cc 133) 1096 = .ok (.aload_n 0, 1) := by decide +kernel
theorem d133_1097 : decode (cc 133) 1097 = .ok (.iload 4, 2) := by decide +kernel
theorem d133_1099 : decode (cc 133) 1099 = .ok (.iconst 2, 1) := by decide +kernel
theorem d133_1100 : decode (cc 133) 1100 = .ok (.iadd, 1) := by decide +kernel
theorem d133_1101 : decode (cc 133) 1101 = .ok (.iaload, 1) := by decide +kernel
theorem d133_1102 : decode (cc 133) 1102 = .ok (.aload_n 0, 1) := by decide +kernel
theorem d133_1103 : decode (cc 133) 1103 = .ok (.iload 4, 2) := by decide +kernel
theorem d133_1105 : decode (cc 133) 1105 = .ok (.iconst 3, 1) := by decide +kernel
theorem d133_1106 : decode (cc 133) 1106 = .ok (.iadd, 1) := by decide +kernel
theorem d133_1107 : decode (cc 133) 1107 = .ok (.iaload, 1) := by decide +kernel
theorem d133_1108 : decode (cc 133) 1108 = .ok (.aload_n 3, 1) := by decide +kernel
theorem d133_1109 : decode (cc 133) 1109 = .ok (.invokestatic 136, 3) := by decide +kernel
theorem d133_1112 : decode (cc 133) 1112 = .ok (.istore 5, 2) := by decide +kernel
theorem d133_1114 : decode (cc 133) 1114 = .ok (.aload_n 2, 1) := by decide +kernel
theorem d133_1115 : decode (cc 133) 1115 = .ok (.aload_n 0, 1) := by decide +kernel
theorem d133_1116 : decode (cc 133) 1116 = .ok (.iload 4, 2) := by decide +kernel
theorem d133_1118 : decode (cc 133) 1118 = .ok (.iconst 1, 1) := by decide +kernel
theorem d133_1119 : decode (cc 133) 1119 = .ok (.iadd, 1) := by decide +kernel
theorem d133_1120 : decode (cc 133) 1120 = .ok (.iaload, 1) := by decide +kernel
theorem d133_1121 : decode (cc 133) 1121 = .ok (.aload_n 0, 1) := by decide +kernel
theorem d133_1122 : decode (cc 133) 1122 = .ok (.iload 4, 2) := by decide +kernel
theorem d133_1124 : decode (cc 133) 1124 = .ok (.iconst 2, 1) := by decide +kernel
theorem d133_1125 : decode (cc 133) 1125 = .ok (.iadd, 1) := by decide +kernel
theorem d133_1126 : decode (cc 133) 1126 = .ok (.iaload, 1) := by decide +kernel
theorem d133_1127 : decode (cc 133) 1127 = .ok (.aload_n 0, 1) := by decide +kernel
theorem d133_1128 : decode (cc 133) 1128 = .ok (.iload 4, 2) := by decide +kernel
theorem d133_1130 : decode (cc 133) 1130 = .ok (.iconst 3, 1) := by decide +kernel
theorem d133_1131 : decode (cc 133) 1131 = .ok (.iadd, 1) := by decide +kernel
theorem d133_1132 : decode (cc 133) 1132 = .ok (.iaload, 1) := by decide +kernel
theorem d133_1133 : decode (cc 133) 1133 = .ok (.invokevirtual 138, 3) := by decide +kernel
theorem d133_1136 : decode (cc 133) 1136 = .ok (.istore 6, 2) := by decide +kernel
theorem d133_1138 : decode (cc 133) 1138 = .ok (.aload_n 2, 1) := by decide +kernel
theorem d133_1139 : decode (cc 133) 1139 = .ok (.invokevirtual 87, 3) := by decide +kernel
theorem d133_1142 : decode (cc 133) 1142 = .ok (.iload 5, 2) := by decide +kernel
theorem d133_1144 : decode (cc 133) 1144 = .ok (.if_icmp .eq 5, 3) := by decide +kernel
theorem d133_1147 : decode (cc 133) 1147 = .ok (.iconst 0, 1) := by decide +kernel
theorem d133_1148 : decode (cc 133) 1148 = .ok (.ireturn, 1) := by decide +kernel
theorem d133_1149 : decode (cc 133) 1149 = .ok (.iload 5, 2) := by decide +kernel
theorem d133_1151 : decode (cc 133) 1151 = .ok (.ifCond .ne 15, 3) := by decide +kernel
theorem d133_1154 : decode (cc 133) 1154 = .ok (.aload_n 3, 1) := by decide +kernel
theorem d133_1155 : decode (cc 133) 1155 = .ok (.iconst 0, 1) := by decide +kernel
theorem d133_1156 : decode (cc 133) 1156 = .ok (.laload, 1) := by decide +kernel
theorem d133_1157 : decode (cc 133) 1157 = .ok (.iload 6, 2) := by decide +kernel
theorem d133_1159 : decode (cc 133) 1159 = .ok (.i2l, 1) := by decide +kernel
theorem d133_1160 : decode (cc 133) 1160 = .ok (.lcmp, 1) := by decide +kernel
theorem d133_1161 : decode (cc 133) 1161 = .ok (.ifCond .eq 5, 3) := by decide +kernel
theorem d133_1164 : decode (cc 133) 1164 = .ok (.iconst 0, 1) := by decide +kernel
theorem d133_1165 : decode (cc 133) 1165 = .ok (.ireturn, 1) := by decide +kernel
theorem d133_1166 : decode (cc 133) 1166 = .ok (.goto 262, 3) := by decide +kernel
theorem d133_1169 : decode (cc 133) 1169 = .ok (.aload_n 1, 1) := by decide +kernel
theorem d133_1170 : decode (cc 133) 1170 = .ok (.aload_n 0, 1) := by decide +kernel
theorem d133_1171 : decode (cc 133) 1171 = .ok (.iload 4, 2) := by decide +kernel
theorem d133_1173 : decode (cc 133) 1173 = .ok (.iconst 1, 1) := by decide +kernel
theorem d133_1174 : decode (cc 133) 1174 = .ok (.iadd, 1) := by decide +kernel
theorem d133_1175 : decode (cc 133) 1175 = .ok (.iaload, 1) := by decide +kernel
theorem d133_1176 : decode (cc 133) 1176 = .ok (.aload_n 0, 1) := by decide +kernel
theorem d133_1177 : decode (cc 133) 1177 = .ok (.iload 4, 2) := by decide +kernel
theorem d133_1179 : decode (cc 133) 1179 = .ok (.iconst 2, 1) := by decide +kernel
theorem d133_1180 : decode (cc 133) 1180 = .ok (.iadd, 1) := by decide +kernel
theorem d133_1181 : decode (cc 133) 1181 = .ok (.iaload, 1) := by decide +kernel
theorem d133_1182 : decode (cc 133) 1182 = .ok (.aload_n 0, 1) := by decide +kernel
theorem d133_1183 : decode (cc 133) 1183 = .ok (.iload 4, 2) := by decide +kernel
theorem d133_1185 : decode (cc 133) 1185 = .ok (.iconst 3, 1) := by decide +kernel
theorem d133_1186 : decode (cc 133) 1186 = .ok (.iadd, 1) := by decide +kernel
theorem d133_1187 : decode (cc 133) 1187 = .ok (.iaload, 1) := by decide +kernel
theorem d133_1188 : decode (cc 133) 1188 = .ok (.aload_n 3, 1) := by decide +kernel
theorem d133_1189 : decode (cc 133) 1189 = .ok (.invokestatic 139, 3) := by decide +kernel
theorem d133_1192 : decode (cc 133) 1192 = .ok (.istore 5, 2) := by decide +kernel
theorem d133_1194 : decode (cc 133) 1194 = .ok (.aload_n 2, 1) := by decide +kernel
theorem d133_1195 : decode (cc 133) 1195 = .ok (.aload_n 0, 1) := by decide +kernel
theorem d133_1196 : decode (cc 133) 1196 = .ok (.iload 4, 2) := by decide +kernel
theorem d133_1198 : decode (cc 133) 1198 = .ok (.iconst 1, 1) := by decide +kernel
theorem d133_1199 : decode (cc 133) 1199 = .ok (.iadd, 1) := by decide +kernel
theorem d133_1200 : decode (cc 133) 1200 = .ok (.iaload, 1) := by decide +kernel
theorem d133_1201 : decode (cc 133) 1201 = .ok (.aload_n 0, 1) := by decide +kernel
theorem d133_1202 : decode (cc 133) 1202 = .ok (.iload 4, 2) := by decide +kernel
theorem d133_1204 : decode (cc 133) 1204 = .ok (.iconst 2, 1) := by decide +kernel
theorem d133_1205 : decode (cc 133) 1205 = .ok (.iadd, 1) := by decide +kernel
theorem d133_1206 : decode (cc 133) 1206 = .ok (.iaload, 1) := by decide +kernel
theorem d133_1207 : decode (cc 133) 1207 = .ok (.aload_n 0, 1) := by decide +kernel
theorem d133_1208 : decode (cc 133) 1208 = .ok (.iload 4, 2) := by decide +kernel
theorem d133_1210 : decode (cc 133) 1210 = .ok (.iconst 3, 1) := by decide +kernel
theorem d133_1211 : decode (cc 133) 1211 = .ok (.iadd, 1) := by decide +kernel
theorem d133_1212 : decode (cc 133) 1212 = .ok (.iaload, 1) := by decide +kernel
theorem d133_1213 : decode (cc 133) 1213 = .ok (.invokevirtual 141, 3) := by decide +kernel
theorem d133_1216 : decode (cc 133) 1216 = .ok (.istore 6, 2) := by decide +kernel
theorem d133_1218 : decode (cc 133) 1218 = .ok (.aload_n 2, 1) := by decide +kernel
theorem d133_1219 : decode (cc 133) 1219 = .ok (.invokevirtual 87, 3) := by decide +kernel
theorem d133_1222 : decode (cc 133) 1222 = .ok (.iload 5, 2) := by decide +kernel
theorem d133_1224 : decode (cc 133) 1224 = .ok (.if_icmp .eq 5, 3) := by decide +kernel
theorem d133_1227 : decode (cc 133) 1227 = .ok (.iconst 0, 1) := by decide +kernel
theorem d133_1228 : decode (cc 133) 1228 = .ok (.ireturn, 1) := by decide +kernel
theorem d133_1229 : decode (cc 133) 1229 = .ok (.iload 5, 2) := by decide +kernel
theorem d133_1231 : decode (cc 133) 1231 = .ok (.ifCond .ne 15, 3) := by decide +kernel
theorem d133_1234 : decode (cc 133) 1234 = .ok (.aload_n 3, 1) := by decide +kernel
theorem d133_1235 : decode (cc 133) 1235 = .ok (.iconst 0, 1) := by decide +kernel
theorem d133_1236 : decode (cc 133) 1236 = .ok (.laload, 1) := by decide +kernel
theorem d133_1237 : decode (cc 133) 1237 = .ok (.iload 6, 2) := by decide +kernel
theorem d133_1239 : decode (cc 133) 1239 = .ok (.i2l, 1) := by decide +kernel
theorem d133_1240 : decode (cc 133) 1240 = .ok (.lcmp, 1) := by decide +kernel
theorem d133_1241 : decode (cc 133) 1241 = .ok (.ifCond .eq 5, 3) := by decide +kernel
theorem d133_1244 : decode (cc 133) 1244 = .ok (.iconst 0, 1) := by decide +kernel
theorem d133_1245 : decode (cc 133) 1245 = .ok (.ireturn, 1) := by decide +kernel
theorem d133_1246 : decode (cc 133) 1246 = .ok (.goto 182, 3) := by decide +kernel
theorem d133_1249 : decode (cc 133) 1249 = .ok (.aload_n 1, 1) := by decide +kernel
theorem d133_1250 : decode (cc 133) 1250 = .ok (.aload_n 0, 1) := by decide +kernel
theorem d133_1251 : decode (cc 133) 1251 = .ok (.iload 4, 2) := by decide +kernel
theorem d133_1253 : decode (cc 133) 1253 = .ok (.iconst 1, 1) := by decide +kernel
theorem d133_1254 : decode (cc 133) 1254 = .ok (.iadd, 1) := by decide +kernel
theorem d133_1255 : decode (cc 133) 1255 = .ok (.iaload, 1) := by decide +kernel
theorem d133_1256 : decode (cc 133) 1256 = .ok (.aload_n 3, 1) := by decide +kernel
theorem d133_1257 : decode (cc 133) 1257 = .ok (.invokestatic 142, 3) := by decide +kernel
theorem d133_1260 : decode (cc 133) 1260 = .ok (.istore 5, 2) := by decide +kernel
theorem d133_1262 : decode (cc 133) 1262 = .ok (.aload_n 2, 1) := by decide +kernel
theorem d133_1263 : decode (cc 133) 1263 = .ok (.aload_n 0, 1) := by decide +kernel
theorem d133_1264 : decode (cc 133) 1264 = .ok (.iload 4, 2) := by decide +kernel
theorem d133_1266 : decode (cc 133) 1266 = .ok (.iconst 1, 1) := by decide +kernel
theorem d133_1267 : decode (cc 133) 1267 = .ok (.iadd, 1) := by decide +kernel
theorem d133_1268 : decode (cc 133) 1268 = .ok (.iaload, 1) := by decide +kernel
theorem d133_1269 : decode (cc 133) 1269 = .ok (.invokevirtual 144, 3) := by decide +kernel
theorem d133_1272 : decode (cc 133) 1272 = .ok (.istore 6, 2) := by decide +kernel
theorem d133_1274 : decode (cc 133) 1274 = .ok (.aload_n 2, 1) := by decide +kernel
theorem d133_1275 : decode (cc 133) 1275 = .ok (.invokevirtual 87, 3) := by decide +kernel
theorem d133_1278 : decode (cc 133) 1278 = .ok (.iload 5, 2) := by decide +kernel
theorem d133_1280 : decode (cc 133) 1280 = .ok (.if_icmp .eq 5, 3) := by decide +kernel
theorem d133_1283 : decode (cc 133) 1283 = .ok (.iconst 0, 1) := by decide +kernel
theorem d133_1284 : decode (cc 133) 1284 = .ok (.ireturn, 1) := by decide +kernel
theorem d133_1285 : decode (cc 133) 1285 = .ok (.iload 5, 2) := by decide +kernel
theorem d133_1287 : decode (cc 133) 1287 = .ok (.ifCond .ne 15, 3) := by decide +kernel
theorem d133_1290 : decode (cc 133) 1290 = .ok (.aload_n 3, 1) := by decide +kernel
theorem d133_1291 : decode (cc 133) 1291 = .ok (.iconst 0, 1) := by decide +kernel
theorem d133_1292 : decode (cc 133) 1292 = .ok (.laload, 1) := by decide +kernel
theorem d133_1293 : decode (cc 133) 1293 = .ok (.iload 6, 2) := by decide +kernel
theorem d133_1295 : decode (cc 133) 1295 = .ok (.i2l, 1) := by decide +kernel
theorem d133_1296 : decode (cc 133) 1296 = .ok (.lcmp, 1) := by decide +kernel
theorem d133_1297 : decode (cc 133) 1297 = .ok (.ifCond .eq 5, 3) := by decide +kernel
theorem d133_1300 : decode (cc 133) 1300 = .ok (.iconst 0, 1) := by decide +kernel
theorem d133_1301 : decode (cc 133) 1301 = .ok (.ireturn, 1) := by decide +kernel
theorem d133_1302 : decode (cc 133) 1302 = .ok (.goto 126, 3) := by decide +kernel
theorem d133_1305 : decode (cc 133) 1305 = .ok (.aload_n 1, 1) := by decide +kernel
theorem d133_1306 : decode (cc 133) 1306 = .ok (.aload_n 0, 1) := by decide +kernel
theorem d133_1307 : decode (cc 133) 1307 = .ok (.iload 4, 2) := by decide +kernel
theorem d133_1309 : decode (cc 133) 1309 = .ok (.iconst 1, 1) := by decide +kernel
theorem d133_1310 : decode (cc 133) 1310 = .ok (.iadd, 1) := by decide +kernel
theorem d133_1311 : decode (cc 133) 1311 = .ok (.iaload, 1) := by decide +kernel
theorem d133_1312 : decode (cc 133) 1312 = .ok (.aload_n 0, 1) := by decide +kernel
theorem d133_1313 : decode (cc 133) 1313 = .ok (.iload 4, 2) := by decide +kernel
theorem d133_1315 : decode (cc 133) 1315 = .ok (.iconst 2, 1) := by decide +kernel
theorem d133_1316 : decode (cc 133) 1316 = .ok (.iadd, 1) := by decide +kernel
theorem d133_1317 : decode (cc 133) 1317 = .ok (.iaload, 1) := by decide +kernel
theorem d133_1318 : decode (cc 133) 1318 = .ok (.aload_n 3, 1) := by decide +kernel
theorem d133_1319 : decode (cc 133) 1319 = .ok (.invokestatic 145, 3) := by decide +kernel
theorem d133_1322 : decode (cc 133) 1322 = .ok (.istore 5, 2) := by decide +kernel
theorem d133_1324 : decode (cc 133) 1324 = .ok (.aload_n 2, 1) := by decide +kernel
theorem d133_1325 : decode (cc 133) 1325 = .ok (.aload_n 0, 1) := by decide +kernel
theorem d133_1326 : decode (cc 133) 1326 = .ok (.iload 4, 2) := by decide +kernel
theorem d133_1328 : decode (cc 133) 1328 = .ok (.iconst 1, 1) := by decide +kernel
theorem d133_1329 : decode (cc 133) 1329 = .ok (.iadd, 1) := by decide +kernel
theorem d133_1330 : decode (cc 133) 1330 = .ok (.iaload, 1) := by decide +kernel
theorem d133_1331 : decode (cc 133) 1331 = .ok (.aload_n 0, 1) := by decide +kernel
theorem d133_1332 : decode (cc 133) 1332 = .ok (.iload 4, 2) := by decide +kernel
theorem d133_1334 : decode (cc 133) 1334 = .ok (.iconst 2, 1) := by decide +kernel
theorem d133_1335 : decode (cc 133) 1335 = .ok (.iadd, 1) := by decide +kernel
theorem d133_1336 : decode (cc 133) 1336 = .ok (.iaload, 1) := by decide +kernel
theorem d133_1337 : decode (cc 133) 1337 = .ok (.invokevirtual 147, 3) := by decide +kernel
theorem d133_1340 : decode (cc 133) 1340 = .ok (.lstore 6, 2) := by decide +kernel
theorem d133_1342 : decode (cc 133) 1342 = .ok (.aload_n 2, 1) := by decide +kernel
theorem d133_1343 : decode (cc 133) 1343 = .ok (.invokevirtual 87, 3) := by decide +kernel
theorem d133_1346 : decode (cc 133) 1346 = .ok (.iload 5, 2) := by decide +kernel
theorem d133_1348 : decode (cc 133) 1348 = .ok (.if_icmp .eq 5, 3) := by decide +kernel
theorem d133_1351 : decode (cc 133) 1351 = .ok (.iconst 0, 1) := by decide +kernel
theorem d133_1352 : decode (cc 133) 1352 = .ok (.ireturn, 1) := by decide +kernel
theorem d133_1353 : decode (cc 133) 1353 = .ok (.iload 5, 2) := by decide +kernel
theorem d133_1355 : decode (cc 133) 1355 = .ok (.ifCond .ne 14, 3) := by decide +kernel
theorem d133_1358 : decode (cc 133) 1358 = .ok (.aload_n 3, 1) := by decide +kernel
theorem d133_1359 : decode (cc 133) 1359 = .ok (.iconst 0, 1) := by decide +kernel
theorem d133_1360 : decode (cc 133) 1360 = .ok (.laload, 1) := by decide +kernel
theorem d133_1361 : decode (cc 133) 1361 = .ok (.lload 6, 2) := by decide +kernel
theorem d133_1363 : decode (cc 133) 1363 = .ok (.lcmp, 1) := by decide +kernel
theorem d133_1364 : decode (cc 133) 1364 = .ok (.ifCond .eq 5, 3) := by decide +kernel
theorem d133_1367 : decode (cc 133) 1367 = .ok (.iconst 0, 1) := by decide +kernel
theorem d133_1368 : decode (cc 133) 1368 = .ok (.ireturn, 1) := by decide +kernel
theorem d133_1369 : decode (cc 133) 1369 = .ok (.goto 59, 3) := by decide +kernel
theorem d133_1372 : decode (cc 133) 1372 = .ok (.aload_n 1, 1) := by decide +kernel
theorem d133_1373 : decode (cc 133) 1373 = .ok (.aload_n 0, 1) := by decide +kernel
theorem d133_1374 : decode (cc 133) 1374 = .ok (.iload 4, 2) := by decide +kernel
theorem d133_1376 : decode (cc 133) 1376 = .ok (.iconst 1, 1) := by decide +kernel
theorem d133_1377 : decode (cc 133) 1377 = .ok (.iadd, 1) := by decide +kernel
theorem d133_1378 : decode (cc 133) 1378 = .ok (.iaload, 1) := by decide +kernel
theorem d133_1379 : decode (cc 133) 1379 = .ok (.aload_n 3, 1) := by decide +kernel
theorem d133_1380 : decode (cc 133) 1380 = .ok (.invokestatic 148, 3) := by decide +kernel
theorem d133_1383 : decode (cc 133) 1383 = .ok (.istore 5, 2) := by decide +kernel
theorem d133_1385 : decode (cc 133) 1385 = .ok (.aload_n 2, 1) := by decide +kernel
theorem d133_1386 : decode (cc 133) 1386 = .ok (.aload_n 0, 1) := by decide +kernel
theorem d133_1387 : decode (cc 133) 1387 = .ok (.iload 4, 2) := by decide +kernel
theorem d133_1389 : decode (cc 133) 1389 = .ok (.iconst 1, 1) := by decide +kernel
theorem d133_1390 : decode (cc 133) 1390 = .ok (.iadd, 1) := by decide +kernel
theorem d133_1391 : decode (cc 133) 1391 = .ok (.iaload, 1) := by decide +kernel
theorem d133_1392 : decode (cc 133) 1392 = .ok (.invokevirtual 150, 3) := by decide +kernel
theorem d133_1395 : decode (cc 133) 1395 = .ok (.istore 6, 2) := by decide +kernel
theorem d133_1397 : decode (cc 133) 1397 = .ok (.aload_n 2, 1) := by decide +kernel
theorem d133_1398 : decode (cc 133) 1398 = .ok (.invokevirtual 87, 3) := by decide +kernel
theorem d133_1401 : decode (cc 133) 1401 = .ok (.iload 5, 2) := by decide +kernel
theorem d133_1403 : decode (cc 133) 1403 = .ok (.if_icmp .eq 5, 3) := by decide +kernel
theorem d133_1406 : decode (cc 133) 1406 = .ok (.iconst 0, 1) := by decide +kernel
theorem d133_1407 : decode (cc 133) 1407 = .ok (.ireturn, 1) := by decide +kernel
theorem d133_1408 : decode (cc 133) 1408 = .ok (.iload 5, 2) := by decide +kernel
theorem d133_1410 : decode (cc 133) 1410 = .ok (.ifCond .ne 15, 3) := by decide +kernel
theorem d133_1413 : decode (cc 133) 1413 = .ok (.aload_n 3, 1) := by decide +kernel
theorem d133_1414 : decode (cc 133) 1414 = .ok (.iconst 0, 1) := by decide +kernel
theorem d133_1415 : decode (cc 133) 1415 = .ok (.laload, 1) := by decide +kernel
theorem d133_1416 : decode (cc 133) 1416 = .ok (.iload 6, 2) := by decide +kernel
theorem d133_1418 : decode (cc 133) 1418 = .ok (.i2l, 1) := by decide +kernel
theorem d133_1419 : decode (cc 133) 1419 = .ok (.lcmp, 1) := by decide +kernel
theorem d133_1420 : decode (cc 133) 1420 = .ok (.ifCond .eq 5, 3) := by decide +kernel
theorem d133_1423 : decode (cc 133) 1423 = .ok (.iconst 0, 1) := by decide +kernel
theorem d133_1424 : decode (cc 133) 1424 = .ok (.ireturn, 1) := by decide +kernel
theorem d133_1425 : decode (cc 133) 1425 = .ok (.goto 3, 3) := by decide +kernel
theorem d133_1428 : decode (cc 133) 1428 = .ok (.iinc 4 6, 3) := by decide +kernel
theorem d133_1431 : decode (cc 133) 1431 = .ok (.goto (-1408), 3) := by decide +kernel
theorem d133_1434 : decode (cc 133) 1434 = .ok (.iconst 1, 1) := by decide +kernel
theorem d133_1435 : decode (cc 133) 1435 = .ok (.ireturn, 1) := by decide +kernel
