theorem dX9_readPart_12 : decode cX9_readPart 12 = .ok (.iconst 4, 1) := by decide +kernel
theorem dX9_readPart_13 : decode cX9_readPart 13 = .ok (.if_icmp .ge 25, 3) := by decide +kernel
theorem dX9_readPart_16 : decode cX9_readPart 16 = .ok (.aload_n 0, 1) := by decide +kernel
theorem dX9_readPart_17 : decode cX9_readPart 17 = .ok (.getfield 29, 3) := by decide +kernel
theorem dX9_readPart_20 : decode cX9_readPart 20 = .ok (.iconst 4, 1) := by decide +kernel
theorem dX9_readPart_21 : decode cX9_readPart 21 = .ok (.iload_n 1, 1) := by decide +kernel
theorem dX9_readPart_22 : decode cX9_readPart 22 = .ok (.imul, 1) := by decide +kernel
theorem dX9_readPart_23 : decode cX9_readPart 23 = .ok (.aload_n 0, 1) := by decide +kernel
theorem dX9_readPart_24 : decode cX9_readPart 24 = .ok (.getfield 121, 3) := by decide +kernel
theorem dX9_readPart_27 : decode cX9_readPart 27 = .ok (.iadd, 1) := by decide +kernel
theorem dX9_readPart_28 : decode cX9_readPart 28 = .ok (.baload, 1) := by decide +kernel
theorem dX9_readPart_29 : decode cX9_readPart 29 = .ok (.ifCond .eq 9, 3) := by decide +kernel
theorem dX9_readPart_32 : decode cX9_readPart 32 = .ok (.aload_n 0, 1) := by decide +kernel
theorem dX9_readPart_33 : decode cX9_readPart 33 = .ok (.iconst 3, 1) := by decide +kernel
theorem dX9_readPart_34 : decode cX9_readPart 34 = .ok (.invokevirtual 168, 3) := by decide +kernel
theorem dX9_readPart_37 : decode cX9_readPart 37 = .ok (.ireturn, 1) := by decide +kernel
theorem dX9_readPart_38 : decode cX9_readPart 38 = .ok (.aload_n 0, 1) := by decide +kernel
theorem dX9_readPart_39 : decode cX9_readPart 39 = .ok (.iconst 0, 1) := by decide +kernel
theorem dX9_readPart_40 : decode cX9_readPart 40 = .ok (.iconst 3, 1) := by decide +kernel
theorem dX9_readPart_41 : decode cX9_readPart 41 = .ok (.invokevirtual 181, 3) := by decide +kernel
theorem dX9_readPart_44 : decode cX9_readPart 44 = .ok (.ifCond .ne 5, 3) := by decide +kernel
theorem dX9_readPart_47 : decode cX9_readPart 47 = .ok (.iconst 0, 1) := by decide +kernel
theorem dX9_readPart_48 : decode cX9_readPart 48 = .ok (.ireturn, 1) := by decide +kernel
theorem dX9_readPart_49 : decode cX9_readPart 49 = .ok (.iconst 4, 1) := by decide +kernel
theorem dX9_readPart_50 : decode cX9_readPart 50 = .ok (.iload_n 1, 1) := by decide +kernel
theorem dX9_readPart_51 : decode cX9_readPart 51 = .ok (.imul, 1) := by decide +kernel
theorem dX9_readPart_52 : decode cX9_readPart 52 = .ok (.aload_n 0, 1) := by decide +kernel
theorem dX9_readPart_53 : decode cX9_readPart 53 = .ok (.getfield 171, 3) := by decide +kernel
theorem dX9_readPart_56 : decode cX9_readPart 56 = .ok (.iadd, 1) := by decide +kernel
theorem dX9_readPart_57 : decode cX9_readPart 57 = .ok (.istore_n 2, 1) := by decide +kernel
theorem dX9_readPart_58 : decode cX9_readPart 58 = .ok (.aload_n 0, 1) := by decide +kernel
theorem dX9_readPart_59 : decode cX9_readPart 59 = .ok (.getfield 29, 3) := by decide +kernel
theorem dX9_readPart_62 : decode cX9_readPart 62 = .ok (.iload_n 2, 1) := by decide +kernel
theorem dX9_readPart_63 : decode cX9_readPart 63 = .ok (.iconst 1, 1) := by decide +kernel
theorem dX9_readPart_64 : decode cX9_readPart 64 = .ok (.bastore, 1) := by decide +kernel
theorem dX9_readPart_65 : decode cX9_readPart 65 = .ok (.aload_n 0, 1) := by decide +kernel
theorem dX9_readPart_66 : decode cX9_readPart 66 = .ok (.getfield 33, 3) := by decide +kernel
theorem dX9_readPart_69 : decode cX9_readPart 69 = .ok (.iload_n 2, 1) := by decide +kernel
theorem dX9_readPart_70 : decode cX9_readPart 70 = .ok (.iconst 0, 1) := by decide +kernel
theorem dX9_readPart_71 : decode cX9_readPart 71 = .ok (.iastore, 1) := by decide +kernel
theorem dX9_readPart_72 : decode cX9_readPart 72 = .ok (.aload_n 0, 1) := by decide +kernel
theorem dX9_readPart_73 : decode cX9_readPart 73 = .ok (.getfield 36, 3) := by decide +kernel
theorem dX9_readPart_76 : decode cX9_readPart 76 = .ok (.iload_n 2, 1) := by decide +kernel
theorem dX9_readPart_77 : decode cX9_readPart 77 = .ok (.iconst 0, 1) := by decide +kernel
theorem dX9_readPart_78 : decode cX9_readPart 78 = .ok (.iastore, 1) := by decide +kernel
theorem dX9_readPart_79 : decode cX9_readPart 79 = .ok (.aload_n 0, 1) := by decide +kernel
theorem dX9_readPart_80 : decode cX9_readPart 80 = .ok (.getstatic 150, 3) := by decide +kernel
theorem dX9_readPart_83 : decode cX9_readPart 83 = .ok (.invokevirtual 177, 3) := by decide +kernel
theorem dX9_readPart_86 : decode cX9_readPart 86 = .ok (.ifCond .eq 30, 3) := by decide +kernel
theorem dX9_readPart_89 : decode cX9_readPart 89 = .ok (.aload_n 0, 1) := by decide +kernel
theorem dX9_readPart_90 : decode cX9_readPart 90 = .ok (.invokevirtual 174, 3) := by decide +kernel
theorem dX9_readPart_93 : decode cX9_readPart 93 = .ok (.aload_n 0, 1) := by decide +kernel
theorem dX9_readPart_94 : decode cX9_readPart 94 = .ok (.iconst 0, 1) := by decide +kernel
theorem dX9_readPart_95 : decode cX9_readPart 95 = .ok (.sipush 20000, 3) := by decide +kernel
theorem dX9_readPart_98 : decode cX9_readPart 98 = .ok (.invokevirtual 181, 3) := by decide +kernel
theorem dX9_readPart_101 : decode cX9_readPart 101 = .ok (.ifCond .ne 5, 3) := by decide +kernel
theorem dX9_readPart_104 : decode cX9_readPart 104 = .ok (.iconst 0, 1) := by decide +kernel
theorem dX9_readPart_105 : decode cX9_readPart 105 = .ok (.ireturn, 1) := by decide +kernel
theorem dX9_readPart_106 : decode cX9_readPart 106 = .ok (.aload_n 0, 1) := by decide +kernel
theorem dX9_readPart_107 : decode cX9_readPart 107 = .ok (.getfield 33, 3) := by decide +kernel
theorem dX9_readPart_110 : decode cX9_readPart 110 = .ok (.iload_n 2, 1) := by decide +kernel
theorem dX9_readPart_111 : decode cX9_readPart 111 = .ok (.aload_n 0, 1) := by decide +kernel
theorem dX9_readPart_112 : decode cX9_readPart 112 = .ok (.getfield 171, 3) := by decide +kernel
theorem dX9_readPart_115 : decode cX9_readPart 115 = .ok (.iastore, 1) := by decide +kernel
theorem dX9_readPart_116 : decode cX9_readPart 116 = .ok (.iconst 0, 1) := by decide +kernel
theorem dX9_readPart_117 : decode cX9_readPart 117 = .ok (.istore_n 3, 1) := by decide +kernel
theorem dX9_readPart_118 : decode cX9_readPart 118 = .ok (.aload_n 0, 1) := by decide +kernel
theorem dX9_readPart_119 : decode cX9_readPart 119 = .ok (.getstatic 153, 3) := by decide +kernel
theorem dX9_readPart_122 : decode cX9_readPart 122 = .ok (.invokevirtual 177, 3) := by decide +kernel
theorem dX9_readPart_125 : decode cX9_readPart 125 = .ok (.ifCond .eq 113, 3) := by decide +kernel
theorem dX9_readPart_128 : decode cX9_readPart 128 = .ok (.aload_n 0, 1) := by decide +kernel
theorem dX9_readPart_129 : decode cX9_readPart 129 = .ok (.getfield 36, 3) := by decide +kernel
theorem dX9_readPart_132 : decode cX9_readPart 132 = .ok (.iload_n 2, 1) := by decide +kernel
theorem dX9_readPart_133 : decode cX9_readPart 133 = .ok (.iaload, 1) := by decide +kernel
theorem dX9_readPart_134 : decode cX9_readPart 134 = .ok (.iconst 3, 1) := by decide +kernel
theorem dX9_readPart_135 : decode cX9_readPart 135 = .ok (.if_icmp .ne 9, 3) := by decide +kernel
theorem dX9_readPart_138 : decode cX9_readPart 138 = .ok (.aload_n 0, 1) := by decide +kernel
theorem dX9_readPart_139 : decode cX9_readPart 139 = .ok (.iconst 4, 1) := by decide +kernel
theorem dX9_readPart_140 : decode cX9_readPart 140 = .ok (.invokevirtual 168, 3) := by decide +kernel
theorem dX9_readPart_143 : decode cX9_readPart 143 = .ok (.ireturn, 1) := by decide +kernel
theorem dX9_readPart_144 : decode cX9_readPart 144 = .ok (.aload_n 0, 1) := by decide +kernel
theorem dX9_readPart_145 : decode cX9_readPart 145 = .ok (.invokevirtual 174, 3) := by decide +kernel
theorem dX9_readPart_148 : decode cX9_readPart 148 = .ok (.aload_n 0, 1) := by decide +kernel
theorem dX9_readPart_149 : decode cX9_readPart 149 = .ok (.iload_n 3, 1) := by decide +kernel
theorem dX9_readPart_150 : decode cX9_readPart 150 = .ok (.iconst 1, 1) := by decide +kernel
theorem dX9_readPart_151 : decode cX9_readPart 151 = .ok (.iadd, 1) := by decide +kernel
theorem dX9_readPart_152 : decode cX9_readPart 152 = .ok (.sipush 20000, 3) := by decide +kernel
theorem dX9_readPart_155 : decode cX9_readPart 155 = .ok (.invokevirtual 181, 3) := by decide +kernel
theorem dX9_readPart_158 : decode cX9_readPart 158 = .ok (.ifCond .ne 5, 3) := by decide +kernel
theorem dX9_readPart_161 : decode cX9_readPart 161 = .ok (.iconst 0, 1) := by decide +kernel
theorem dX9_readPart_162 : decode cX9_readPart 162 = .ok (.ireturn, 1) := by decide +kernel
theorem dX9_readPart_163 : decode cX9_readPart 163 = .ok (.aload_n 0, 1) := by decide +kernel
theorem dX9_readPart_164 : decode cX9_readPart 164 = .ok (.getfield 171, 3) := by decide +kernel
theorem dX9_readPart_167 : decode cX9_readPart 167 = .ok (.istore_n 3, 1) := by decide +kernel
theorem dX9_readPart_168 : decode cX9_readPart 168 = .ok (.iconst 3, 1) := by decide +kernel
theorem dX9_readPart_169 : decode cX9_readPart 169 = .ok (.iload_n 2, 1) := by decide +kernel
theorem dX9_readPart_170 : decode cX9_readPart 170 = .ok (.imul, 1) := by decide +kernel
theorem dX9_readPart_171 : decode cX9_readPart 171 = .ok (.aload_n 0, 1) := by decide +kernel
theorem dX9_readPart_172 : decode cX9_readPart 172 = .ok (.getfield 36, 3) := by decide +kernel
theorem dX9_readPart_175 : decode cX9_readPart 175 = .ok (.iload_n 2, 1) := by decide +kernel
theorem dX9_readPart_176 : decode cX9_readPart 176 = .ok (.iaload, 1) := by decide +kernel
theorem dX9_readPart_177 : decode cX9_readPart 177 = .ok (.iadd, 1) := by decide +kernel
theorem dX9_readPart_178 : decode cX9_readPart 178 = .ok (.istore 4, 2) := by decide +kernel
theorem dX9_readPart_180 : decode cX9_readPart 180 = .ok (.aload_n 0, 1) := by decide +kernel
theorem dX9_readPart_181 : decode cX9_readPart 181 = .ok (.getfield 39, 3) := by decide +kernel
theorem dX9_readPart_184 : decode cX9_readPart 184 = .ok (.iload 4, 2) := by decide +kernel
theorem dX9_readPart_186 : decode cX9_readPart 186 = .ok (.aload_n 0, 1) := by decide +kernel
theorem dX9_readPart_187 : decode cX9_readPart 187 = .ok (.getfield 171, 3) := by decide +kernel
theorem dX9_readPart_190 : decode cX9_readPart 190 = .ok (.iastore, 1) := by decide +kernel
theorem dX9_readPart_191 : decode cX9_readPart 191 = .ok (.aload_n 0, 1) := by decide +kernel
theorem dX9_readPart_192 : decode cX9_readPart 192 = .ok (.getstatic 156, 3) := by decide +kernel
theorem dX9_readPart_195 : decode cX9_readPart 195 = .ok (.invokevirtual 185, 3) := by decide +kernel
theorem dX9_readPart_198 : decode cX9_readPart 198 = .ok (.ifCond .eq 14, 3) := by decide +kernel
theorem dX9_readPart_201 : decode cX9_readPart 201 = .ok (.aload_n 0, 1) := by decide +kernel
theorem dX9_readPart_202 : decode cX9_readPart 202 = .ok (.iconst 0, 1) := by decide +kernel
theorem dX9_readPart_203 : decode cX9_readPart 203 = .ok (.sipush 9999, 3) := by decide +kernel
theorem dX9_readPart_206 : decode cX9_readPart 206 = .ok (.invokevirtual 181, 3) := by decide +kernel
theorem dX9_readPart_209 : decode cX9_readPart 209 = .ok (.ifCond .ne 5, 3) := by decide +kernel
theorem dX9_readPart_212 : decode cX9_readPart 212 = .ok (.iconst 0, 1) := by decide +kernel
theorem dX9_readPart_213 : decode cX9_readPart 213 = .ok (.ireturn, 1) := by decide +kernel
theorem dX9_readPart_214 : decode cX9_readPart 214 = .ok (.aload_n 0, 1) := by decide +kernel
theorem dX9_readPart_215 : decode cX9_readPart 215 = .ok (.getfield 42, 3) := by decide +kernel
theorem dX9_readPart_218 : decode cX9_readPart 218 = .ok (.iload 4, 2) := by decide +kernel
theorem dX9_readPart_220 : decode cX9_readPart 220 = .ok (.aload_n 0, 1) := by decide +kernel
theorem dX9_readPart_221 : decode cX9_readPart 221 = .ok (.getfield 171, 3) := by decide +kernel
theorem dX9_readPart_224 : decode cX9_readPart 224 = .ok (.iastore, 1) := by decide +kernel
theorem dX9_readPart_225 : decode cX9_readPart 225 = .ok (.aload_n 0, 1) := by decide +kernel
theorem dX9_readPart_226 : decode cX9_readPart 226 = .ok (.getfield 36, 3) := by decide +kernel
theorem dX9_readPart_229 : decode cX9_readPart 229 = .ok (.iload_n 2, 1) := by decide +kernel
theorem dX9_readPart_230 : decode cX9_readPart 230 = .ok (.dup2, 1) := by decide +kernel
theorem dX9_readPart_231 : decode cX9_readPart 231 = .ok (.iaload, 1) := by decide +kernel
theorem dX9_readPart_232 : decode cX9_readPart 232 = .ok (.iconst 1, 1) := by decide +kernel
theorem dX9_readPart_233 : decode cX9_readPart 233 = .ok (.iadd, 1) := by decide +kernel
theorem dX9_readPart_234 : decode cX9_readPart 234 = .ok (.iastore, 1) := by decide +kernel
theorem dX9_readPart_235 : decode cX9_readPart 235 = .ok (.goto (-117), 3) := by decide +kernel
theorem dX9_readPart_238 : decode cX9_readPart 238 = .ok (.aload_n 0, 1) := by decide +kernel
theorem dX9_readPart_239 : decode cX9_readPart 239 = .ok (.getstatic 159, 3) := by decide +kernel
theorem dX9_readPart_242 : decode cX9_readPart 242 = .ok (.invokevirtual 185, 3) := by decide +kernel
theorem dX9_readPart_245 : decode cX9_readPart 245 = .ok (.ifCond .eq 14, 3) := by decide +kernel
theorem dX9_readPart_248 : decode cX9_readPart 248 = .ok (.aload_n 0, 1) := by decide +kernel
theorem dX9_readPart_249 : decode cX9_readPart 249 = .ok (.iconst 0, 1) := by decide +kernel
theorem dX9_readPart_250 : decode cX9_readPart 250 = .ok (.sipush 9999, 3) := by decide +kernel
theorem dX9_readPart_253 : decode cX9_readPart 253 = .ok (.invokevirtual 181, 3) := by decide +kernel
theorem dX9_readPart_256 : decode cX9_readPart 256 = .ok (.ifCond .ne 5, 3) := by decide +kernel
theorem dX9_readPart_259 : decode cX9_readPart 259 = .ok (.iconst 0, 1) := by decide +kernel
theorem dX9_readPart_260 : decode cX9_readPart 260 = .ok (.ireturn, 1) := by decide +kernel
theorem dX9_readPart_261 : decode cX9_readPart 261 = .ok (.aload_n 0, 1) := by decide +kernel
theorem dX9_readPart_262 : decode cX9_readPart 262 = .ok (.getfield 45, 3) := by decide +kernel
theorem dX9_readPart_265 : decode cX9_readPart 265 = .ok (.iload_n 2, 1) := by decide +kernel
theorem dX9_readPart_266 : decode cX9_readPart 266 = .ok (.aload_n 0, 1) := by decide +kernel
theorem dX9_readPart_267 : decode cX9_readPart 267 = .ok (.getfield 171, 3) := by decide +kernel
theorem dX9_readPart_270 : decode cX9_readPart 270 = .ok (.iastore, 1) := by decide +kernel
theorem dX9_readPart_271 : decode cX9_readPart 271 = .ok (.iconst 1, 1) := by decide +kernel
theorem dX9_readPart_272 : decode cX9_readPart 272 = .ok (.ireturn, 1) := by decide +kernel
theorem dX9_readPlan_0 : decode cX9_readPlan 0 = .ok (.bipush 10, 2) := by decide +kernel
theorem dX9_readPlan_2 : decode cX9_readPlan 2 = .ok (.iload_n 1, 1) := by decide +kernel
theorem dX9_readPlan_3 : decode cX9_readPlan 3 = .ok (.iadd, 1) := by decide +kernel
theorem dX9_readPlan_4 : decode cX9_readPlan 4 = .ok (.istore_n 2, 1) := by decide +kernel
theorem dX9_readPlan_5 : decode cX9_readPlan 5 = .ok (.aload_n 0, 1) := by decide +kernel
theorem dX9_readPlan_6 : decode cX9_readPlan 6 = .ok (.invokevirtual 188, 3) := by decide +kernel
theorem dX9_readPlan_9 : decode cX9_readPlan 9 = .ok (.ifCond .ne 9, 3) := by decide +kernel
theorem dX9_readPlan_12 : decode cX9_readPlan 12 = .ok (.aload_n 0, 1) := by decide +kernel
theorem dX9_readPlan_13 : decode cX9_readPlan 13 = .ok (.iconst 1, 1) := by decide +kernel
theorem dX9_readPlan_14 : decode cX9_readPlan 14 = .ok (.invokevirtual 168, 3) := by decide +kernel
theorem dX9_readPlan_17 : decode cX9_readPlan 17 = .ok (.ireturn, 1) := by decide +kernel
theorem dX9_readPlan_18 : decode cX9_readPlan 18 = .ok (.bipush 10, 2) := by decide +kernel
theorem dX9_readPlan_20 : decode cX9_readPlan 20 = .ok (.istore_n 3, 1) := by decide +kernel
theorem dX9_readPlan_21 : decode cX9_readPlan 21 = .ok (.iload_n 3, 1) := by decide +kernel
theorem dX9_readPlan_22 : decode cX9_readPlan 22 = .ok (.iload_n 2, 1) := by decide +kernel
theorem dX9_readPlan_23 : decode cX9_readPlan 23 = .ok (.if_icmp .ge 29, 3) := by decide +kernel
theorem dX9_readPlan_26 : decode cX9_readPlan 26 = .ok (.aload_n 0, 1) := by decide +kernel
theorem dX9_readPlan_27 : decode cX9_readPlan 27 = .ok (.getfield 13, 3) := by decide +kernel
theorem dX9_readPlan_30 : decode cX9_readPlan 30 = .ok (.iload_n 3, 1) := by decide +kernel
theorem dX9_readPlan_31 : decode cX9_readPlan 31 = .ok (.laload, 1) := by decide +kernel
theorem dX9_readPlan_32 : decode cX9_readPlan 32 = .ok (.aload_n 0, 1) := by decide +kernel
theorem dX9_readPlan_33 : decode cX9_readPlan 33 = .ok (.getfield 117, 3) := by decide +kernel
theorem dX9_readPlan_36 : decode cX9_readPlan 36 = .ok (.lcmp, 1) := by decide +kernel
theorem dX9_readPlan_37 : decode cX9_readPlan 37 = .ok (.ifCond .ne 9, 3) := by decide +kernel
theorem dX9_readPlan_40 : decode cX9_readPlan 40 = .ok (.aload_n 0, 1) := by decide +kernel
theorem dX9_readPlan_41 : decode cX9_readPlan 41 = .ok (.iconst 3, 1) := by decide +kernel
theorem dX9_readPlan_42 : decode cX9_readPlan 42 = .ok (.invokevirtual 168, 3) := by decide +kernel
theorem dX9_readPlan_45 : decode cX9_readPlan 45 = .ok (.ireturn, 1) := by decide +kernel
theorem dX9_readPlan_46 : decode cX9_readPlan 46 = .ok (.iinc 3 1, 3) := by decide +kernel
theorem dX9_readPlan_49 : decode cX9_readPlan 49 = .ok (.goto (-28), 3) := by decide +kernel
theorem dX9_readPlan_52 : decode cX9_readPlan 52 = .ok (.aload_n 0, 1) := by decide +kernel
theorem dX9_readPlan_53 : decode cX9_readPlan 53 = .ok (.getfield 13, 3) := by decide +kernel
theorem dX9_readPlan_56 : decode cX9_readPlan 56 = .ok (.iload_n 2, 1) := by decide +kernel
theorem dX9_readPlan_57 : decode cX9_readPlan 57 = .ok (.aload_n 0, 1) := by decide +kernel
theorem dX9_readPlan_58 : decode cX9_readPlan 58 = .ok (.getfield 117, 3) := by decide +kernel
theorem dX9_readPlan_61 : decode cX9_readPlan 61 = .ok (.lastore, 1) := by decide +kernel
theorem dX9_readPlan_62 : decode cX9_readPlan 62 = .ok (.aload_n 0, 1) := by decide +kernel
theorem dX9_readPlan_63 : decode cX9_readPlan 63 = .ok (.getfield 20, 3) := by decide +kernel
theorem dX9_readPlan_66 : decode cX9_readPlan 66 = .ok (.iload_n 2, 1) := by decide +kernel
theorem dX9_readPlan_67 : decode cX9_readPlan 67 = .ok (.iconst 1, 1) := by decide +kernel
theorem dX9_readPlan_68 : decode cX9_readPlan 68 = .ok (.iastore, 1) := by decide +kernel
theorem dX9_readPlan_69 : decode cX9_readPlan 69 = .ok (.aload_n 0, 1) := by decide +kernel
theorem dX9_readPlan_70 : decode cX9_readPlan 70 = .ok (.getfield 23, 3) := by decide +kernel
theorem dX9_readPlan_73 : decode cX9_readPlan 73 = .ok (.iload_n 2, 1) := by decide +kernel
theorem dX9_readPlan_74 : decode cX9_readPlan 74 = .ok (.iconst 0, 1) := by decide +kernel
theorem dX9_readPlan_75 : decode cX9_readPlan 75 = .ok (.iastore, 1) := by decide +kernel
theorem dX9_readPlan_76 : decode cX9_readPlan 76 = .ok (.aload_n 0, 1) := by decide +kernel
theorem dX9_readPlan_77 : decode cX9_readPlan 77 = .ok (.getfield 26, 3) := by decide +kernel
theorem dX9_readPlan_80 : decode cX9_readPlan 80 = .ok (.iload_n 2, 1) := by decide +kernel
theorem dX9_readPlan_81 : decode cX9_readPlan 81 = .ok (.bipush 23, 2) := by decide +kernel
theorem dX9_readPlan_83 : decode cX9_readPlan 83 = .ok (.iastore, 1) := by decide +kernel
theorem dX9_readPlan_84 : decode cX9_readPlan 84 = .ok (.iconst 0, 1) := by decide +kernel
theorem dX9_readPlan_85 : decode cX9_readPlan 85 = .ok (.istore_n 3, 1) := by decide +kernel
theorem dX9_readPlan_86 : decode cX9_readPlan 86 = .ok (.iload_n 3, 1) := by decide +kernel
theorem dX9_readPlan_87 : decode cX9_readPlan 87 = .ok (.iconst 4, 1) := by decide +kernel
theorem dX9_readPlan_88 : decode cX9_readPlan 88 = .ok (.if_icmp .ge 20, 3) := by decide +kernel
theorem dX9_readPlan_91 : decode cX9_readPlan 91 = .ok (.aload_n 0, 1) := by decide +kernel
theorem dX9_readPlan_92 : decode cX9_readPlan 92 = .ok (.getfield 29, 3) := by decide +kernel
theorem dX9_readPlan_95 : decode cX9_readPlan 95 = .ok (.iconst 4, 1) := by decide +kernel
theorem dX9_readPlan_96 : decode cX9_readPlan 96 = .ok (.iload_n 2, 1) := by decide +kernel
theorem dX9_readPlan_97 : decode cX9_readPlan 97 = .ok (.imul, 1) := by decide +kernel
theorem dX9_readPlan_98 : decode cX9_readPlan 98 = .ok (.iload_n 3, 1) := by decide +kernel
theorem dX9_readPlan_99 : decode cX9_readPlan 99 = .ok (.iadd, 1) := by decide +kernel
theorem dX9_readPlan_100 : decode cX9_readPlan 100 = .ok (.iconst 0, 1) := by decide +kernel
theorem dX9_readPlan_101 : decode cX9_readPlan 101 = .ok (.bastore, 1) := by decide +kernel
theorem dX9_readPlan_102 : decode cX9_readPlan 102 = .ok (.iinc 3 1, 3) := by decide +kernel
theorem dX9_readPlan_105 : decode cX9_readPlan 105 = .ok (.goto (-19), 3) := by decide +kernel
theorem dX9_readPlan_108 : decode cX9_readPlan 108 = .ok (.aload_n 0, 1) := by decide +kernel
theorem dX9_readPlan_109 : decode cX9_readPlan 109 = .ok (.invokevirtual 174, 3) := by decide +kernel
theorem dX9_readPlan_112 : decode cX9_readPlan 112 = .ok (.aload_n 0, 1) := by decide +kernel
theorem dX9_readPlan_113 : decode cX9_readPlan 113 = .ok (.getstatic 135, 3) := by decide +kernel
theorem dX9_readPlan_116 : decode cX9_readPlan 116 = .ok (.invokevirtual 185, 3) := by decide +kernel
theorem dX9_readPlan_119 : decode cX9_readPlan 119 = .ok (.ifCond .eq 13, 3) := by decide +kernel
theorem dX9_readPlan_122 : decode cX9_readPlan 122 = .ok (.aload_n 0, 1) := by decide +kernel
theorem dX9_readPlan_123 : decode cX9_readPlan 123 = .ok (.iconst 0, 1) := by decide +kernel
theorem dX9_readPlan_124 : decode cX9_readPlan 124 = .ok (.ldc 192, 2) := by decide +kernel
theorem dX9_readPlan_126 : decode cX9_readPlan 126 = .ok (.invokevirtual 181, 3) := by decide +kernel
theorem dX9_readPlan_129 : decode cX9_readPlan 129 = .ok (.ifCond .ne 5, 3) := by decide +kernel
theorem dX9_readPlan_132 : decode cX9_readPlan 132 = .ok (.iconst 0, 1) := by decide +kernel
theorem dX9_readPlan_133 : decode cX9_readPlan 133 = .ok (.ireturn, 1) := by decide +kernel
theorem dX9_readPlan_134 : decode cX9_readPlan 134 = .ok (.aload_n 0, 1) := by decide +kernel
theorem dX9_readPlan_135 : decode cX9_readPlan 135 = .ok (.getfield 17, 3) := by decide +kernel
theorem dX9_readPlan_138 : decode cX9_readPlan 138 = .ok (.iload_n 2, 1) := by decide +kernel
theorem dX9_readPlan_139 : decode cX9_readPlan 139 = .ok (.aload_n 0, 1) := by decide +kernel
theorem dX9_readPlan_140 : decode cX9_readPlan 140 = .ok (.getfield 171, 3) := by decide +kernel
theorem dX9_readPlan_143 : decode cX9_readPlan 143 = .ok (.iastore, 1) := by decide +kernel
theorem dX9_readPlan_144 : decode cX9_readPlan 144 = .ok (.aload_n 0, 1) := by decide +kernel
theorem dX9_readPlan_145 : decode cX9_readPlan 145 = .ok (.getstatic 138, 3) := by decide +kernel
theorem dX9_readPlan_148 : decode cX9_readPlan 148 = .ok (.invokevirtual 177, 3) := by decide +kernel
theorem dX9_readPlan_151 : decode cX9_readPlan 151 = .ok (.ifCond .eq 29, 3) := by decide +kernel
theorem dX9_readPlan_154 : decode cX9_readPlan 154 = .ok (.aload_n 0, 1) := by decide +kernel
theorem dX9_readPlan_155 : decode cX9_readPlan 155 = .ok (.invokevirtual 174, 3) := by decide +kernel
theorem dX9_readPlan_158 : decode cX9_readPlan 158 = .ok (.aload_n 0, 1) := by decide +kernel
theorem dX9_readPlan_159 : decode cX9_readPlan 159 = .ok (.iconst 1, 1) := by decide +kernel
theorem dX9_readPlan_160 : decode cX9_readPlan 160 = .ok (.bipush 24, 2) := by decide +kernel
theorem dX9_readPlan_162 : decode cX9_readPlan 162 = .ok (.invokevirtual 181, 3) := by decide +kernel
theorem dX9_readPlan_165 : decode cX9_readPlan 165 = .ok (.ifCond .ne 5, 3) := by decide +kernel
theorem dX9_readPlan_168 : decode cX9_readPlan 168 = .ok (.iconst 0, 1) := by decide +kernel
theorem dX9_readPlan_169 : decode cX9_readPlan 169 = .ok (.ireturn, 1) := by decide +kernel
theorem dX9_readPlan_170 : decode cX9_readPlan 170 = .ok (.aload_n 0, 1) := by decide +kernel
theorem dX9_readPlan_171 : decode cX9_readPlan 171 = .ok (.getfield 20, 3) := by decide +kernel
theorem dX9_readPlan_174 : decode cX9_readPlan 174 = .ok (.iload_n 2, 1) := by decide +kernel
theorem dX9_readPlan_175 : decode cX9_readPlan 175 = .ok (.aload_n 0, 1) := by decide +kernel
theorem dX9_readPlan_176 : decode cX9_readPlan 176 = .ok (.getfield 171, 3) := by decide +kernel
theorem dX9_readPlan_179 : decode cX9_readPlan 179 = .ok (.iastore, 1) := by decide +kernel
theorem dX9_readPlan_180 : decode cX9_readPlan 180 = .ok (.aload_n 0, 1) := by decide +kernel
theorem dX9_readPlan_181 : decode cX9_readPlan 181 = .ok (.getstatic 141, 3) := by decide +kernel
theorem dX9_readPlan_184 : decode cX9_readPlan 184 = .ok (.invokevirtual 177, 3) := by decide +kernel
theorem dX9_readPlan_187 : decode cX9_readPlan 187 = .ok (.ifCond .eq 66, 3) := by decide +kernel
theorem dX9_readPlan_190 : decode cX9_readPlan 190 = .ok (.aload_n 0, 1) := by decide +kernel
theorem dX9_readPlan_191 : decode cX9_readPlan 191 = .ok (.invokevirtual 174, 3) := by decide +kernel
theorem dX9_readPlan_194 : decode cX9_readPlan 194 = .ok (.aload_n 0, 1) := by decide +kernel
theorem dX9_readPlan_195 : decode cX9_readPlan 195 = .ok (.iconst 0, 1) := by decide +kernel
theorem dX9_readPlan_196 : decode cX9_readPlan 196 = .ok (.bipush 23, 2) := by decide +kernel
theorem dX9_readPlan_198 : decode cX9_readPlan 198 = .ok (.invokevirtual 181, 3) := by decide +kernel
theorem dX9_readPlan_201 : decode cX9_readPlan 201 = .ok (.ifCond .ne 5, 3) := by decide +kernel
theorem dX9_readPlan_204 : decode cX9_readPlan 204 = .ok (.iconst 0, 1) := by decide +kernel
theorem dX9_readPlan_205 : decode cX9_readPlan 205 = .ok (.ireturn, 1) := by decide +kernel
theorem dX9_readPlan_206 : decode cX9_readPlan 206 = .ok (.aload_n 0, 1) := by decide +kernel
theorem dX9_readPlan_207 : decode cX9_readPlan 207 = .ok (.getfield 23, 3) := by decide +kernel
theorem dX9_readPlan_210 : decode cX9_readPlan 210 = .ok (.iload_n 2, 1) := by decide +kernel
theorem dX9_readPlan_211 : decode cX9_readPlan 211 = .ok (.aload_n 0, 1) := by decide +kernel
theorem dX9_readPlan_212 : decode cX9_readPlan 212 = .ok (.getfield 171, 3) := by decide +kernel
theorem dX9_readPlan_215 : decode cX9_readPlan 215 = .ok (.iastore, 1) := by decide +kernel
theorem dX9_readPlan_216 : decode cX9_readPlan 216 = .ok (.aload_n 0, 1) := by decide +kernel
theorem dX9_readPlan_217 : decode cX9_readPlan 217 = .ok (.getstatic 144, 3) := by decide +kernel
theorem dX9_readPlan_220 : decode cX9_readPlan 220 = .ok (.invokevirtual 185, 3) := by decide +kernel
theorem dX9_readPlan_223 : decode cX9_readPlan 223 = .ok (.ifCond .eq 18, 3) := by decide +kernel
theorem dX9_readPlan_226 : decode cX9_readPlan 226 = .ok (.aload_n 0, 1) := by decide +kernel
theorem dX9_readPlan_227 : decode cX9_readPlan 227 = .ok (.aload_n 0, 1) := by decide +kernel
theorem dX9_readPlan_228 : decode cX9_readPlan 228 = .ok (.getfield 23, 3) := by decide +kernel
theorem dX9_readPlan_231 : decode cX9_readPlan 231 = .ok (.iload_n 2, 1) := by decide +kernel
theorem dX9_readPlan_232 : decode cX9_readPlan 232 = .ok (.iaload, 1) := by decide +kernel
theorem dX9_readPlan_233 : decode cX9_readPlan 233 = .ok (.bipush 23, 2) := by decide +kernel
theorem dX9_readPlan_235 : decode cX9_readPlan 235 = .ok (.invokevirtual 181, 3) := by decide +kernel
theorem dX9_readPlan_238 : decode cX9_readPlan 238 = .ok (.ifCond .ne 5, 3) := by decide +kernel
theorem dX9_readPlan_241 : decode cX9_readPlan 241 = .ok (.iconst 0, 1) := by decide +kernel
theorem dX9_readPlan_242 : decode cX9_readPlan 242 = .ok (.ireturn, 1) := by decide +kernel
theorem dX9_readPlan_243 : decode cX9_readPlan 243 = .ok (.aload_n 0, 1) := by decide +kernel
theorem dX9_readPlan_244 : decode cX9_readPlan 244 = .ok (.getfield 26, 3) := by decide +kernel
theorem dX9_readPlan_247 : decode cX9_readPlan 247 = .ok (.iload_n 2, 1) := by decide +kernel
theorem dX9_readPlan_248 : decode cX9_readPlan 248 = .ok (.aload_n 0, 1) := by decide +kernel
theorem dX9_readPlan_249 : decode cX9_readPlan 249 = .ok (.getfield 171, 3) := by decide +kernel
theorem dX9_readPlan_252 : decode cX9_readPlan 252 = .ok (.iastore, 1) := by decide +kernel
theorem dX9_readPlan_253 : decode cX9_readPlan 253 = .ok (.aload_n 0, 1) := by decide +kernel
theorem dX9_readPlan_254 : decode cX9_readPlan 254 = .ok (.getstatic 147, 3) := by decide +kernel
theorem dX9_readPlan_257 : decode cX9_readPlan 257 = .ok (.invokevirtual 177, 3) := by decide +kernel
theorem dX9_readPlan_260 : decode cX9_readPlan 260 = .ok (.ifCond .eq 17, 3) := by decide +kernel
theorem dX9_readPlan_263 : decode cX9_readPlan 263 = .ok (.aload_n 0, 1) := by decide +kernel
theorem dX9_readPlan_264 : decode cX9_readPlan 264 = .ok (.invokevirtual 174, 3) := by decide +kernel
theorem dX9_readPlan_267 : decode cX9_readPlan 267 = .ok (.aload_n 0, 1) := by decide +kernel
theorem dX9_readPlan_268 : decode cX9_readPlan 268 = .ok (.iload_n 2, 1) := by decide +kernel
theorem dX9_readPlan_269 : decode cX9_readPlan 269 = .ok (.invokevirtual 193, 3) := by decide +kernel
theorem dX9_readPlan_272 : decode cX9_readPlan 272 = .ok (.ifCond .ne (-19), 3) := by decide +kernel
theorem dX9_readPlan_275 : decode cX9_readPlan 275 = .ok (.iconst 0, 1) := by decide +kernel
theorem dX9_readPlan_276 : decode cX9_readPlan 276 = .ok (.ireturn, 1) := by decide +kernel
theorem dX9_readPlan_277 : decode cX9_readPlan 277 = .ok (.aload_n 0, 1) := by decide +kernel
theorem dX9_readPlan_278 : decode cX9_readPlan 278 = .ok (.getfield 107, 3) := by decide +kernel
theorem dX9_readPlan_281 : decode cX9_readPlan 281 = .ok (.iconst 4, 1) := by decide +kernel
theorem dX9_readPlan_282 : decode cX9_readPlan 282 = .ok (.if_icmp .eq 9, 3) := by decide +kernel
theorem dX9_readPlan_285 : decode cX9_readPlan 285 = .ok (.aload_n 0, 1) := by decide +kernel
theorem dX9_readPlan_286 : decode cX9_readPlan 286 = .ok (.iconst 1, 1) := by decide +kernel
theorem dX9_readPlan_287 : decode cX9_readPlan 287 = .ok (.invokevirtual 168, 3) := by decide +kernel
theorem dX9_readPlan_290 : decode cX9_readPlan 290 = .ok (.ireturn, 1) := by decide +kernel
theorem dX9_readPlan_291 : decode cX9_readPlan 291 = .ok (.aload_n 0, 1) := by decide +kernel
theorem dX9_readPlan_292 : decode cX9_readPlan 292 = .ok (.invokevirtual 174, 3) := by decide +kernel
theorem dX9_readPlan_295 : decode cX9_readPlan 295 = .ok (.iconst 1, 1) := by decide +kernel
theorem dX9_readPlan_296 : decode cX9_readPlan 296 = .ok (.ireturn, 1) := by decide +kernel
theorem dX9_readText_0 : decode cX9_readText 0 = .ok (.aload_n 0, 1) := by decide +kernel
theorem dX9_readText_1 : decode cX9_readText 1 = .ok (.iconst 0, 1) := by decide +kernel
theorem dX9_readText_2 : decode cX9_readText 2 = .ok (.putfield 196, 3) := by decide +kernel
theorem dX9_readText_5 : decode cX9_readText 5 = .ok (.aload_n 0, 1) := by decide +kernel
theorem dX9_readText_6 : decode cX9_readText 6 = .ok (.iconst 0, 1) := by decide +kernel
theorem dX9_readText_7 : decode cX9_readText 7 = .ok (.putfield 101, 3) := by decide +kernel
theorem dX9_readText_10 : decode cX9_readText 10 = .ok (.aload_n 0, 1) := by decide +kernel
theorem dX9_readText_11 : decode cX9_readText 11 = .ok (.invokevirtual 174, 3) := by decide +kernel
theorem dX9_readText_14 : decode cX9_readText 14 = .ok (.aload_n 0, 1) := by decide +kernel
theorem dX9_readText_15 : decode cX9_readText 15 = .ok (.getstatic 132, 3) := by decide +kernel
theorem dX9_readText_18 : decode cX9_readText 18 = .ok (.invokevirtual 177, 3) := by decide +kernel
theorem dX9_readText_21 : decode cX9_readText 21 = .ok (.ifCond .ne 9, 3) := by decide +kernel
theorem dX9_readText_24 : decode cX9_readText 24 = .ok (.aload_n 0, 1) := by decide +kernel
theorem dX9_readText_25 : decode cX9_readText 25 = .ok (.iconst 1, 1) := by decide +kernel
theorem dX9_readText_26 : decode cX9_readText 26 = .ok (.invokevirtual 168, 3) := by decide +kernel
theorem dX9_readText_29 : decode cX9_readText 29 = .ok (.ireturn, 1) := by decide +kernel
theorem dX9_readText_30 : decode cX9_readText 30 = .ok (.aload_n 0, 1) := by decide +kernel
theorem dX9_readText_31 : decode cX9_readText 31 = .ok (.getfield 196, 3) := by decide +kernel
theorem dX9_readText_34 : decode cX9_readText 34 = .ok (.bipush 10, 2) := by decide +kernel
theorem dX9_readText_36 : decode cX9_readText 36 = .ok (.if_icmp .ne 9, 3) := by decide +kernel
theorem dX9_readText_39 : decode cX9_readText 39 = .ok (.aload_n 0, 1) := by decide +kernel
theorem dX9_readText_40 : decode cX9_readText 40 = .ok (.iconst 4, 1) := by decide +kernel
theorem dX9_readText_41 : decode cX9_readText 41 = .ok (.invokevirtual 168, 3) := by decide +kernel
theorem dX9_readText_44 : decode cX9_readText 44 = .ok (.ireturn, 1) := by decide +kernel
theorem dX9_readText_45 : decode cX9_readText 45 = .ok (.aload_n 0, 1) := by decide +kernel
theorem dX9_readText_46 : decode cX9_readText 46 = .ok (.invokevirtual 174, 3) := by decide +kernel
theorem dX9_readText_49 : decode cX9_readText 49 = .ok (.aload_n 0, 1) := by decide +kernel
theorem dX9_readText_50 : decode cX9_readText 50 = .ok (.aload_n 0, 1) := by decide +kernel
theorem dX9_readText_51 : decode cX9_readText 51 = .ok (.getfield 196, 3) := by decide +kernel
theorem dX9_readText_54 : decode cX9_readText 54 = .ok (.invokevirtual 199, 3) := by decide +kernel
theorem dX9_readText_57 : decode cX9_readText 57 = .ok (.ifCond .ne 5, 3) := by decide +kernel
theorem dX9_readText_60 : decode cX9_readText 60 = .ok (.iconst 0, 1) := by decide +kernel
theorem dX9_readText_61 : decode cX9_readText 61 = .ok (.ireturn, 1) := by decide +kernel
theorem dX9_readText_62 : decode cX9_readText 62 = .ok (.aload_n 0, 1) := by decide +kernel
theorem dX9_readText_63 : decode cX9_readText 63 = .ok (.dup, 1) := by decide +kernel
theorem dX9_readText_64 : decode cX9_readText 64 = .ok (.getfield 196, 3) := by decide +kernel
theorem dX9_readText_67 : decode cX9_readText 67 = .ok (.iconst 1, 1) := by decide +kernel
theorem dX9_readText_68 : decode cX9_readText 68 = .ok (.iadd, 1) := by decide +kernel
theorem dX9_readText_69 : decode cX9_readText 69 = .ok (.putfield 196, 3) := by decide +kernel
theorem dX9_readText_72 : decode cX9_readText 72 = .ok (.aload_n 0, 1) := by decide +kernel
theorem dX9_readText_73 : decode cX9_readText 73 = .ok (.getfield 107, 3) := by decide +kernel
theorem dX9_readText_76 : decode cX9_readText 76 = .ok (.ifCond .ne (-62), 3) := by decide +kernel
theorem dX9_readText_79 : decode cX9_readText 79 = .ok (.iconst 1, 1) := by decide +kernel
theorem dX9_readText_80 : decode cX9_readText 80 = .ok (.ireturn, 1) := by decide +kernel
theorem dX9_plans_0 : decode cX9_plans 0 = .ok (.aload_n 0, 1) := by decide +kernel
theorem dX9_plans_1 : decode cX9_plans 1 = .ok (.iconst 0, 1) := by decide +kernel
theorem dX9_plans_2 : decode cX9_plans 2 = .ok (.putfield 87, 3) := by decide +kernel
theorem dX9_plans_5 : decode cX9_plans 5 = .ok (.aload_n 0, 1) := by decide +kernel
theorem dX9_plans_6 : decode cX9_plans 6 = .ok (.aload_n 0, 1) := by decide +kernel
theorem dX9_plans_7 : decode cX9_plans 7 = .ok (.getfield 91, 3) := by decide +kernel
theorem dX9_plans_10 : decode cX9_plans 10 = .ok (.putfield 98, 3) := by decide +kernel
theorem dX9_plans_13 : decode cX9_plans 13 = .ok (.aload_n 0, 1) := by decide +kernel
theorem dX9_plans_14 : decode cX9_plans 14 = .ok (.iconst 0, 1) := by decide +kernel
theorem dX9_plans_15 : decode cX9_plans 15 = .ok (.putfield 91, 3) := by decide +kernel
theorem dX9_plans_18 : decode cX9_plans 18 = .ok (.aload_n 0, 1) := by decide +kernel
theorem dX9_plans_19 : decode cX9_plans 19 = .ok (.iconst 0, 1) := by decide +kernel
theorem dX9_plans_20 : decode cX9_plans 20 = .ok (.putfield 162, 3) := by decide +kernel
theorem dX9_plans_23 : decode cX9_plans 23 = .ok (.aload_n 0, 1) := by decide +kernel
theorem dX9_plans_24 : decode cX9_plans 24 = .ok (.invokevirtual 202, 3) := by decide +kernel
theorem dX9_plans_27 : decode cX9_plans 27 = .ok (.ifCond .ne 10, 3) := by decide +kernel
theorem dX9_plans_30 : decode cX9_plans 30 = .ok (.iconst (-1), 1) := by decide +kernel
theorem dX9_plans_31 : decode cX9_plans 31 = .ok (.aload_n 0, 1) := by decide +kernel
theorem dX9_plans_32 : decode cX9_plans 32 = .ok (.getfield 165, 3) := by decide +kernel
theorem dX9_plans_35 : decode cX9_plans 35 = .ok (.isub, 1) := by decide +kernel
theorem dX9_plans_36 : decode cX9_plans 36 = .ok (.ireturn, 1) := by decide +kernel
theorem dX9_plans_37 : decode cX9_plans 37 = .ok (.aload_n 0, 1) := by decide +kernel
theorem dX9_plans_38 : decode cX9_plans 38 = .ok (.aload_n 0, 1) := by decide +kernel
theorem dX9_plans_39 : decode cX9_plans 39 = .ok (.getfield 196, 3) := by decide +kernel
theorem dX9_plans_42 : decode cX9_plans 42 = .ok (.putfield 205, 3) := by decide +kernel
theorem dX9_plans_45 : decode cX9_plans 45 = .ok (.iconst 0, 1) := by decide +kernel
theorem dX9_plans_46 : decode cX9_plans 46 = .ok (.istore_n 1, 1) := by decide +kernel
theorem dX9_plans_47 : decode cX9_plans 47 = .ok (.iload_n 1, 1) := by decide +kernel
theorem dX9_plans_48 : decode cX9_plans 48 = .ok (.aload_n 0, 1) := by decide +kernel
theorem dX9_plans_49 : decode cX9_plans 49 = .ok (.getfield 205, 3) := by decide +kernel
theorem dX9_plans_52 : decode cX9_plans 52 = .ok (.if_icmp .ge 220, 3) := by decide +kernel
theorem dX9_plans_55 : decode cX9_plans 55 = .ok (.bipush 10, 2) := by decide +kernel
theorem dX9_plans_57 : decode cX9_plans 57 = .ok (.iload_n 1, 1) := by decide +kernel
theorem dX9_plans_58 : decode cX9_plans 58 = .ok (.iadd, 1) := by decide +kernel
theorem dX9_plans_59 : decode cX9_plans 59 = .ok (.istore_n 2, 1) := by decide +kernel
theorem dX9_plans_60 : decode cX9_plans 60 = .ok (.aload_n 0, 1) := by decide +kernel
theorem dX9_plans_61 : decode cX9_plans 61 = .ok (.getfield 13, 3) := by decide +kernel
theorem dX9_plans_64 : decode cX9_plans 64 = .ok (.iload_n 1, 1) := by decide +kernel
theorem dX9_plans_65 : decode cX9_plans 65 = .ok (.aload_n 0, 1) := by decide +kernel
theorem dX9_plans_66 : decode cX9_plans 66 = .ok (.getfield 13, 3) := by decide +kernel
theorem dX9_plans_69 : decode cX9_plans 69 = .ok (.iload_n 2, 1) := by decide +kernel
theorem dX9_plans_70 : decode cX9_plans 70 = .ok (.laload, 1) := by decide +kernel
theorem dX9_plans_71 : decode cX9_plans 71 = .ok (.lastore, 1) := by decide +kernel
theorem dX9_plans_72 : decode cX9_plans 72 = .ok (.aload_n 0, 1) := by decide +kernel
theorem dX9_plans_73 : decode cX9_plans 73 = .ok (.getfield 17, 3) := by decide +kernel
theorem dX9_plans_76 : decode cX9_plans 76 = .ok (.iload_n 1, 1) := by decide +kernel
theorem dX9_plans_77 : decode cX9_plans 77 = .ok (.aload_n 0, 1) := by decide +kernel
theorem dX9_plans_78 : decode cX9_plans 78 = .ok (.getfield 17, 3) := by decide +kernel
theorem dX9_plans_81 : decode cX9_plans 81 = .ok (.iload_n 2, 1) := by decide +kernel
theorem dX9_plans_82 : decode cX9_plans 82 = .ok (.iaload, 1) := by decide +kernel
theorem dX9_plans_83 : decode cX9_plans 83 = .ok (.iastore, 1) := by decide +kernel
theorem dX9_plans_84 : decode cX9_plans 84 = .ok (.aload_n 0, 1) := by decide +kernel
theorem dX9_plans_85 : decode cX9_plans 85 = .ok (.getfield 20, 3) := by decide +kernel
theorem dX9_plans_88 : decode cX9_plans 88 = .ok (.iload_n 1, 1) := by decide +kernel
theorem dX9_plans_89 : decode cX9_plans 89 = .ok (.aload_n 0, 1) := by decide +kernel
theorem dX9_plans_90 : decode cX9_plans 90 = .ok (.getfield 20, 3) := by decide +kernel
theorem dX9_plans_93 : decode cX9_plans 93 = .ok (.iload_n 2, 1) := by decide +kernel
theorem dX9_plans_94 : decode cX9_plans 94 = .ok (.iaload, 1) := by decide +kernel
theorem dX9_plans_95 : decode cX9_plans 95 = .ok (.iastore, 1) := by decide +kernel
theorem dX9_plans_96 : decode cX9_plans 96 = .ok (.aload_n 0, 1) := by decide +kernel
theorem dX9_plans_97 : decode cX9_plans 97 = .ok (.getfield 23, 3) := by decide +kernel
theorem dX9_plans_100 : decode cX9_plans 100 = .ok (.iload_n 1, 1) := by decide +kernel
theorem dX9_plans_101 : decode cX9_plans 101 = .ok (.aload_n 0, 1) := by decide +kernel
theorem dX9_plans_102 : decode cX9_plans 102 = .ok (.getfield 23, 3) := by decide +kernel
theorem dX9_plans_105 : decode cX9_plans 105 = .ok (.iload_n 2, 1) := by decide +kernel
theorem dX9_plans_106 : decode cX9_plans 106 = .ok (.iaload, 1) := by decide +kernel
theorem dX9_plans_107 : decode cX9_plans 107 = .ok (.iastore, 1) := by decide +kernel
theorem dX9_plans_108 : decode cX9_plans 108 = .ok (.aload_n 0, 1) := by decide +kernel
theorem dX9_plans_109 : decode cX9_plans 109 = .ok (.getfield 26, 3) := by decide +kernel
theorem dX9_plans_112 : decode cX9_plans 112 = .ok (.iload_n 1, 1) := by decide +kernel
theorem dX9_plans_113 : decode cX9_plans 113 = .ok (.aload_n 0, 1) := by decide +kernel
theorem dX9_plans_114 : decode cX9_plans 114 = .ok (.getfield 26, 3) := by decide +kernel
theorem dX9_plans_117 : decode cX9_plans 117 = .ok (.iload_n 2, 1) := by decide +kernel
theorem dX9_plans_118 : decode cX9_plans 118 = .ok (.iaload, 1) := by decide +kernel
theorem dX9_plans_119 : decode cX9_plans 119 = .ok (.iastore, 1) := by decide +kernel
theorem dX9_plans_120 : decode cX9_plans 120 = .ok (.iconst 0, 1) := by decide +kernel
theorem dX9_plans_121 : decode cX9_plans 121 = .ok (.istore_n 3, 1) := by decide +kernel
theorem dX9_plans_122 : decode cX9_plans 122 = .ok (.iload_n 3, 1) := by decide +kernel
theorem dX9_plans_123 : decode cX9_plans 123 = .ok (.iconst 4, 1) := by decide +kernel
theorem dX9_plans_124 : decode cX9_plans 124 = .ok (.if_icmp .ge 142, 3) := by decide +kernel
theorem dX9_plans_127 : decode cX9_plans 127 = .ok (.iconst 4, 1) := by decide +kernel
theorem dX9_plans_128 : decode cX9_plans 128 = .ok (.iload_n 1, 1) := by decide +kernel
theorem dX9_plans_129 : decode cX9_plans 129 = .ok (.imul, 1) := by decide +kernel
theorem dX9_plans_130 : decode cX9_plans 130 = .ok (.iload_n 3, 1) := by decide +kernel
theorem dX9_plans_131 : decode cX9_plans 131 = .ok (.iadd, 1) := by decide +kernel
theorem dX9_plans_132 : decode cX9_plans 132 = .ok (.istore 4, 2) := by decide +kernel
theorem dX9_plans_134 : decode cX9_plans 134 = .ok (.iconst 4, 1) := by decide +kernel
theorem dX9_plans_135 : decode cX9_plans 135 = .ok (.iload_n 2, 1) := by decide +kernel
theorem dX9_plans_136 : decode cX9_plans 136 = .ok (.imul, 1) := by decide +kernel
theorem dX9_plans_137 : decode cX9_plans 137 = .ok (.iload_n 3, 1) := by decide +kernel
theorem dX9_plans_138 : decode cX9_plans 138 = .ok (.iadd, 1) := by decide +kernel
theorem dX9_plans_139 : decode cX9_plans 139 = .ok (.istore 5, 2) := by decide +kernel
theorem dX9_plans_141 : decode cX9_plans 141 = .ok (.aload_n 0, 1) := by decide +kernel
theorem dX9_plans_142 : decode cX9_plans 142 = .ok (.getfield 29, 3) := by decide +kernel
theorem dX9_plans_145 : decode cX9_plans 145 = .ok (.iload 4, 2) := by decide +kernel
theorem dX9_plans_147 : decode cX9_plans 147 = .ok (.aload_n 0, 1) := by decide +kernel
theorem dX9_plans_148 : decode cX9_plans 148 = .ok (.getfield 29, 3) := by decide +kernel
theorem dX9_plans_151 : decode cX9_plans 151 = .ok (.iload 5, 2) := by decide +kernel
theorem dX9_plans_153 : decode cX9_plans 153 = .ok (.baload, 1) := by decide +kernel
theorem dX9_plans_154 : decode cX9_plans 154 = .ok (.bastore, 1) := by decide +kernel
theorem dX9_plans_155 : decode cX9_plans 155 = .ok (.aload_n 0, 1) := by decide +kernel
theorem dX9_plans_156 : decode cX9_plans 156 = .ok (.getfield 33, 3) := by decide +kernel
theorem dX9_plans_159 : decode cX9_plans 159 = .ok (.iload 4, 2) := by decide +kernel
theorem dX9_plans_161 : decode cX9_plans 161 = .ok (.aload_n 0, 1) := by decide +kernel
theorem dX9_plans_162 : decode cX9_plans 162 = .ok (.getfield 33, 3) := by decide +kernel
theorem dX9_plans_165 : decode cX9_plans 165 = .ok (.iload 5, 2) := by decide +kernel
theorem dX9_plans_167 : decode cX9_plans 167 = .ok (.iaload, 1) := by decide +kernel
theorem dX9_plans_168 : decode cX9_plans 168 = .ok (.iastore, 1) := by decide +kernel
theorem dX9_plans_169 : decode cX9_plans 169 = .ok (.aload_n 0, 1) := by decide +kernel
theorem dX9_plans_170 : decode cX9_plans 170 = .ok (.getfield 36, 3) := by decide +kernel
theorem dX9_plans_173 : decode cX9_plans 173 = .ok (.iload 4, 2) := by decide +kernel
theorem dX9_plans_175 : decode cX9_plans 175 = .ok (.aload_n 0, 1) := by decide +kernel
theorem dX9_plans_176 : decode cX9_plans 176 = .ok (.getfield 36, 3) := by decide +kernel
theorem dX9_plans_179 : decode cX9_plans 179 = .ok (.iload 5, 2) := by decide +kernel
theorem dX9_plans_181 : decode cX9_plans 181 = .ok (.iaload, 1) := by decide +kernel
theorem dX9_plans_182 : decode cX9_plans 182 = .ok (.iastore, 1) := by decide +kernel
theorem dX9_plans_183 : decode cX9_plans 183 = .ok (.aload_n 0, 1) := by decide +kernel
theorem dX9_plans_184 : decode cX9_plans 184 = .ok (.getfield 45, 3) := by decide +kernel
theorem dX9_plans_187 : decode cX9_plans 187 = .ok (.iload 4, 2) := by decide +kernel
theorem dX9_plans_189 : decode cX9_plans 189 = .ok (.aload_n 0, 1) := by decide +kernel
theorem dX9_plans_190 : decode cX9_plans 190 = .ok (.getfield 45, 3) := by decide +kernel
theorem dX9_plans_193 : decode cX9_plans 193 = .ok (.iload 5, 2) := by decide +kernel
theorem dX9_plans_195 : decode cX9_plans 195 = .ok (.iaload, 1) := by decide +kernel
theorem dX9_plans_196 : decode cX9_plans 196 = .ok (.iastore, 1) := by decide +kernel
theorem dX9_plans_197 : decode cX9_plans 197 = .ok (.iconst 0, 1) := by decide +kernel
theorem dX9_plans_198 : decode cX9_plans 198 = .ok (.istore 6, 2) := by decide +kernel
theorem dX9_plans_200 : decode cX9_plans 200 = .ok (.iload 6, 2) := by decide +kernel
theorem dX9_plans_202 : decode cX9_plans 202 = .ok (.iconst 3, 1) := by decide +kernel
theorem dX9_plans_203 : decode cX9_plans 203 = .ok (.if_icmp .ge 57, 3) := by decide +kernel
theorem dX9_plans_206 : decode cX9_plans 206 = .ok (.aload_n 0, 1) := by decide +kernel
theorem dX9_plans_207 : decode cX9_plans 207 = .ok (.getfield 39, 3) := by decide +kernel
theorem dX9_plans_210 : decode cX9_plans 210 = .ok (.iconst 3, 1) := by decide +kernel
theorem dX9_plans_211 : decode cX9_plans 211 = .ok (.iload 4, 2) := by decide +kernel
theorem dX9_plans_213 : decode cX9_plans 213 = .ok (.imul, 1) := by decide +kernel
theorem dX9_plans_214 : decode cX9_plans 214 = .ok (.iload 6, 2) := by decide +kernel
theorem dX9_plans_216 : decode cX9_plans 216 = .ok (.iadd, 1) := by decide +kernel
theorem dX9_plans_217 : decode cX9_plans 217 = .ok (.aload_n 0, 1) := by decide +kernel
theorem dX9_plans_218 : decode cX9_plans 218 = .ok (.getfield 39, 3) := by decide +kernel
theorem dX9_plans_221 : decode cX9_plans 221 = .ok (.iconst 3, 1) := by decide +kernel
theorem dX9_plans_222 : decode cX9_plans 222 = .ok (.iload 5, 2) := by decide +kernel
theorem dX9_plans_224 : decode cX9_plans 224 = .ok (.imul, 1) := by decide +kernel
theorem dX9_plans_225 : decode cX9_plans 225 = .ok (.iload 6, 2) := by decide +kernel
theorem dX9_plans_227 : decode cX9_plans 227 = .ok (.iadd, 1) := by decide +kernel
theorem dX9_plans_228 : decode cX9_plans 228 = .ok (.iaload, 1) := by decide +kernel
theorem dX9_plans_229 : decode cX9_plans 229 = .ok (.iastore, 1) := by decide +kernel
theorem dX9_plans_230 : decode cX9_plans 230 = .ok (.aload_n 0, 1) := by decide +kernel
theorem dX9_plans_231 : decode cX9_plans 231 = .ok (.getfield 42, 3) := by decide +kernel
theorem dX9_plans_234 : decode cX9_plans 234 = .ok (.iconst 3, 1) := by decide +kernel
theorem dX9_plans_235 : decode cX9_plans 235 = .ok (.iload 4, 2) := by decide +kernel
theorem dX9_plans_237 : decode cX9_plans 237 = .ok (.imul, 1) := by decide +kernel
theorem dX9_plans_238 : decode cX9_plans 238 = .ok (.iload 6, 2) := by decide +kernel
theorem dX9_plans_240 : decode cX9_plans 240 = .ok (.iadd, 1) := by decide +kernel
theorem dX9_plans_241 : decode cX9_plans 241 = .ok (.aload_n 0, 1) := by decide +kernel
theorem dX9_plans_242 : decode cX9_plans 242 = .ok (.getfield 42, 3) := by decide +kernel
theorem dX9_plans_245 : decode cX9_plans 245 = .ok (.iconst 3, 1) := by decide +kernel
theorem dX9_plans_246 : decode cX9_plans 246 = .ok (.iload 5, 2) := by decide +kernel
theorem dX9_plans_248 : decode cX9_plans 248 = .ok (.imul, 1) := by decide +kernel
theorem dX9_plans_249 : decode cX9_plans 249 = .ok (.iload 6, 2) := by decide +kernel
theorem dX9_plans_251 : decode cX9_plans 251 = .ok (.iadd, 1) := by decide +kernel
theorem dX9_plans_252 : decode cX9_plans 252 = .ok (.iaload, 1) := by decide +kernel
theorem dX9_plans_253 : decode cX9_plans 253 = .ok (.iastore, 1) := by decide +kernel
theorem dX9_plans_254 : decode cX9_plans 254 = .ok (.iinc 6 1, 3) := by decide +kernel
theorem dX9_plans_257 : decode cX9_plans 257 = .ok (.goto (-57), 3) := by decide +kernel
theorem dX9_plans_260 : decode cX9_plans 260 = .ok (.iinc 3 1, 3) := by decide +kernel
theorem dX9_plans_263 : decode cX9_plans 263 = .ok (.goto (-141), 3) := by decide +kernel
theorem dX9_plans_266 : decode cX9_plans 266 = .ok (.iinc 1 1, 3) := by decide +kernel
theorem dX9_plans_269 : decode cX9_plans 269 = .ok (.goto (-222), 3) := by decide +kernel
theorem dX9_plans_272 : decode cX9_plans 272 = .ok (.aload_n 0, 1) := by decide +kernel
theorem dX9_plans_273 : decode cX9_plans 273 = .ok (.iconst 0, 1) := by decide +kernel
theorem dX9_plans_274 : decode cX9_plans 274 = .ok (.putfield 208, 3) := by decide +kernel
theorem dX9_plans_277 : decode cX9_plans 277 = .ok (.aload_n 0, 1) := by decide +kernel
theorem dX9_plans_278 : decode cX9_plans 278 = .ok (.iconst 0, 1) := by decide +kernel
theorem dX9_plans_279 : decode cX9_plans 279 = .ok (.putfield 211, 3) := by decide +kernel
theorem dX9_plans_282 : decode cX9_plans 282 = .ok (.iconst 0, 1) := by decide +kernel
theorem dX9_plans_283 : decode cX9_plans 283 = .ok (.istore_n 1, 1) := by decide +kernel
theorem dX9_plans_284 : decode cX9_plans 284 = .ok (.iload_n 1, 1) := by decide +kernel
theorem dX9_plans_285 : decode cX9_plans 285 = .ok (.iconst 4, 1) := by decide +kernel
theorem dX9_plans_286 : decode cX9_plans 286 = .ok (.if_icmp .ge 16, 3) := by decide +kernel
theorem dX9_plans_289 : decode cX9_plans 289 = .ok (.aload_n 0, 1) := by decide +kernel
theorem dX9_plans_290 : decode cX9_plans 290 = .ok (.getfield 78, 3) := by decide +kernel
theorem dX9_plans_293 : decode cX9_plans 293 = .ok (.iload_n 1, 1) := by decide +kernel
theorem dX9_plans_294 : decode cX9_plans 294 = .ok (.iconst 0, 1) := by decide +kernel
theorem dX9_plans_295 : decode cX9_plans 295 = .ok (.iastore, 1) := by decide +kernel
theorem dX9_plans_296 : decode cX9_plans 296 = .ok (.iinc 1 1, 3) := by decide +kernel
theorem dX9_plans_299 : decode cX9_plans 299 = .ok (.goto (-15), 3) := by decide +kernel
theorem dX9_plans_302 : decode cX9_plans 302 = .ok (.aload_n 0, 1) := by decide +kernel
theorem dX9_plans_303 : decode cX9_plans 303 = .ok (.getfield 205, 3) := by decide +kernel
theorem dX9_plans_306 : decode cX9_plans 306 = .ok (.ireturn, 1) := by decide +kernel
theorem dX9_fault_0 : decode cX9_fault 0 = .ok (.aload_n 0, 1) := by decide +kernel
theorem dX9_fault_1 : decode cX9_fault 1 = .ok (.iconst 0, 1) := by decide +kernel
theorem dX9_fault_2 : decode cX9_fault 2 = .ok (.putfield 87, 3) := by decide +kernel
theorem dX9_fault_5 : decode cX9_fault 5 = .ok (.aload_n 0, 1) := by decide +kernel
theorem dX9_fault_6 : decode cX9_fault 6 = .ok (.getfield 162, 3) := by decide +kernel
theorem dX9_fault_9 : decode cX9_fault 9 = .ok (.ireturn, 1) := by decide +kernel
theorem dX9_isPlan_0 : decode cX9_isPlan 0 = .ok (.iload_n 1, 1) := by decide +kernel
theorem dX9_isPlan_1 : decode cX9_isPlan 1 = .ok (.ifCond .lt 15, 3) := by decide +kernel
theorem dX9_isPlan_4 : decode cX9_isPlan 4 = .ok (.iload_n 1, 1) := by decide +kernel
theorem dX9_isPlan_5 : decode cX9_isPlan 5 = .ok (.aload_n 0, 1) := by decide +kernel
theorem dX9_isPlan_6 : decode cX9_isPlan 6 = .ok (.getfield 205, 3) := by decide +kernel
theorem dX9_isPlan_9 : decode cX9_isPlan 9 = .ok (.if_icmp .ge 7, 3) := by decide +kernel
theorem dX9_isPlan_12 : decode cX9_isPlan 12 = .ok (.iconst 1, 1) := by decide +kernel
theorem dX9_isPlan_13 : decode cX9_isPlan 13 = .ok (.goto 4, 3) := by decide +kernel
theorem dX9_isPlan_16 : decode cX9_isPlan 16 = .ok (.iconst 0, 1) := by decide +kernel
theorem dX9_isPlan_17 : decode cX9_isPlan 17 = .ok (.ireturn, 1) := by decide +kernel
theorem dX9_plan_0 : decode cX9_plan 0 = .ok (.aload_n 0, 1) := by decide +kernel
theorem dX9_plan_1 : decode cX9_plan 1 = .ok (.iload_n 1, 1) := by decide +kernel
theorem dX9_plan_2 : decode cX9_plan 2 = .ok (.invokevirtual 214, 3) := by decide +kernel
theorem dX9_plan_5 : decode cX9_plan 5 = .ok (.ifCond .eq 12, 3) := by decide +kernel
theorem dX9_plan_8 : decode cX9_plan 8 = .ok (.iload_n 2, 1) := by decide +kernel
theorem dX9_plan_9 : decode cX9_plan 9 = .ok (.ifCond .lt 8, 3) := by decide +kernel
theorem dX9_plan_12 : decode cX9_plan 12 = .ok (.iload_n 2, 1) := by decide +kernel
theorem dX9_plan_13 : decode cX9_plan 13 = .ok (.iconst 4, 1) := by decide +kernel
theorem dX9_plan_14 : decode cX9_plan 14 = .ok (.if_icmp .le 8, 3) := by decide +kernel
theorem dX9_plan_17 : decode cX9_plan 17 = .ok (.aload_n 0, 1) := by decide +kernel
theorem dX9_plan_18 : decode cX9_plan 18 = .ok (.invokevirtual 217, 3) := by decide +kernel
theorem dX9_plan_21 : decode cX9_plan 21 = .ok (.ireturn, 1) := by decide +kernel
theorem dX9_plan_22 : decode cX9_plan 22 = .ok (.aload_n 0, 1) := by decide +kernel
theorem dX9_plan_23 : decode cX9_plan 23 = .ok (.iconst 0, 1) := by decide +kernel
theorem dX9_plan_24 : decode cX9_plan 24 = .ok (.putfield 87, 3) := by decide +kernel
theorem dX9_plan_27 : decode cX9_plan 27 = .ok (.iconst 0, 1) := by decide +kernel
theorem dX9_plan_28 : decode cX9_plan 28 = .ok (.istore_n 3, 1) := by decide +kernel
theorem dX9_plan_29 : decode cX9_plan 29 = .ok (.iconst 0, 1) := by decide +kernel
theorem dX9_plan_30 : decode cX9_plan 30 = .ok (.istore 4, 2) := by decide +kernel
theorem dX9_plan_32 : decode cX9_plan 32 = .ok (.iload 4, 2) := by decide +kernel
theorem dX9_plan_34 : decode cX9_plan 34 = .ok (.iconst 4, 1) := by decide +kernel
theorem dX9_plan_35 : decode cX9_plan 35 = .ok (.if_icmp .ge 30, 3) := by decide +kernel
theorem dX9_plan_38 : decode cX9_plan 38 = .ok (.aload_n 0, 1) := by decide +kernel
theorem dX9_plan_39 : decode cX9_plan 39 = .ok (.getfield 29, 3) := by decide +kernel
theorem dX9_plan_42 : decode cX9_plan 42 = .ok (.iconst 4, 1) := by decide +kernel
theorem dX9_plan_43 : decode cX9_plan 43 = .ok (.iload_n 1, 1) := by decide +kernel
theorem dX9_plan_44 : decode cX9_plan 44 = .ok (.imul, 1) := by decide +kernel
theorem dX9_plan_45 : decode cX9_plan 45 = .ok (.iload 4, 2) := by decide +kernel
theorem dX9_plan_47 : decode cX9_plan 47 = .ok (.iadd, 1) := by decide +kernel
theorem dX9_plan_48 : decode cX9_plan 48 = .ok (.baload, 1) := by decide +kernel
theorem dX9_plan_49 : decode cX9_plan 49 = .ok (.ifCond .eq 10, 3) := by decide +kernel
theorem dX9_plan_52 : decode cX9_plan 52 = .ok (.iload_n 3, 1) := by decide +kernel
theorem dX9_plan_53 : decode cX9_plan 53 = .ok (.iconst 1, 1) := by decide +kernel
theorem dX9_plan_54 : decode cX9_plan 54 = .ok (.iload 4, 2) := by decide +kernel
theorem dX9_plan_56 : decode cX9_plan 56 = .ok (.ishl, 1) := by decide +kernel
theorem dX9_plan_57 : decode cX9_plan 57 = .ok (.ior, 1) := by decide +kernel
theorem dX9_plan_58 : decode cX9_plan 58 = .ok (.istore_n 3, 1) := by decide +kernel
theorem dX9_plan_59 : decode cX9_plan 59 = .ok (.iinc 4 1, 3) := by decide +kernel
theorem dX9_plan_62 : decode cX9_plan 62 = .ok (.goto (-30), 3) := by decide +kernel
theorem dX9_plan_65 : decode cX9_plan 65 = .ok (.iload_n 2, 1) := by decide +kernel
theorem dX9_plan_66 : decode cX9_plan 66 = .ok (.ifCond .ne 12, 3) := by decide +kernel
theorem dX9_plan_69 : decode cX9_plan 69 = .ok (.aload_n 0, 1) := by decide +kernel
theorem dX9_plan_70 : decode cX9_plan 70 = .ok (.getfield 17, 3) := by decide +kernel
theorem dX9_plan_73 : decode cX9_plan 73 = .ok (.iload_n 1, 1) := by decide +kernel
theorem dX9_plan_74 : decode cX9_plan 74 = .ok (.iaload, 1) := by decide +kernel
theorem dX9_plan_75 : decode cX9_plan 75 = .ok (.goto 46, 3) := by decide +kernel
theorem dX9_plan_78 : decode cX9_plan 78 = .ok (.iload_n 2, 1) := by decide +kernel
theorem dX9_plan_79 : decode cX9_plan 79 = .ok (.iconst 1, 1) := by decide +kernel
theorem dX9_plan_80 : decode cX9_plan 80 = .ok (.if_icmp .ne 12, 3) := by decide +kernel
theorem dX9_plan_83 : decode cX9_plan 83 = .ok (.aload_n 0, 1) := by decide +kernel
theorem dX9_plan_84 : decode cX9_plan 84 = .ok (.getfield 20, 3) := by decide +kernel
theorem dX9_plan_87 : decode cX9_plan 87 = .ok (.iload_n 1, 1) := by decide +kernel
theorem dX9_plan_88 : decode cX9_plan 88 = .ok (.iaload, 1) := by decide +kernel
theorem dX9_plan_89 : decode cX9_plan 89 = .ok (.goto 32, 3) := by decide +kernel
theorem dX9_plan_92 : decode cX9_plan 92 = .ok (.iload_n 2, 1) := by decide +kernel
theorem dX9_plan_93 : decode cX9_plan 93 = .ok (.iconst 2, 1) := by decide +kernel
theorem dX9_plan_94 : decode cX9_plan 94 = .ok (.if_icmp .ne 12, 3) := by decide +kernel
theorem dX9_plan_97 : decode cX9_plan 97 = .ok (.aload_n 0, 1) := by decide +kernel
theorem dX9_plan_98 : decode cX9_plan 98 = .ok (.getfield 23, 3) := by decide +kernel
theorem dX9_plan_101 : decode cX9_plan 101 = .ok (.iload_n 1, 1) := by decide +kernel
theorem dX9_plan_102 : decode cX9_plan 102 = .ok (.iaload, 1) := by decide +kernel
theorem dX9_plan_103 : decode cX9_plan 103 = .ok (.goto 18, 3) := by decide +kernel
theorem dX9_plan_106 : decode cX9_plan 106 = .ok (.iload_n 2, 1) := by decide +kernel
theorem dX9_plan_107 : decode cX9_plan 107 = .ok (.iconst 3, 1) := by decide +kernel
theorem dX9_plan_108 : decode cX9_plan 108 = .ok (.if_icmp .ne 12, 3) := by decide +kernel
theorem dX9_plan_111 : decode cX9_plan 111 = .ok (.aload_n 0, 1) := by decide +kernel
theorem dX9_plan_112 : decode cX9_plan 112 = .ok (.getfield 26, 3) := by decide +kernel
theorem dX9_plan_115 : decode cX9_plan 115 = .ok (.iload_n 1, 1) := by decide +kernel
theorem dX9_plan_116 : decode cX9_plan 116 = .ok (.iaload, 1) := by decide +kernel
theorem dX9_plan_117 : decode cX9_plan 117 = .ok (.goto 4, 3) := by decide +kernel
theorem dX9_plan_120 : decode cX9_plan 120 = .ok (.iload_n 3, 1) := by decide +kernel
theorem dX9_plan_121 : decode cX9_plan 121 = .ok (.ireturn, 1) := by decide +kernel
theorem dX9_name_0 : decode cX9_name 0 = .ok (.aload_n 0, 1) := by decide +kernel
theorem dX9_name_1 : decode cX9_name 1 = .ok (.iconst 0, 1) := by decide +kernel
theorem dX9_name_2 : decode cX9_name 2 = .ok (.putfield 87, 3) := by decide +kernel
theorem dX9_name_5 : decode cX9_name 5 = .ok (.aload_n 0, 1) := by decide +kernel
theorem dX9_name_6 : decode cX9_name 6 = .ok (.iload_n 1, 1) := by decide +kernel
theorem dX9_name_7 : decode cX9_name 7 = .ok (.invokevirtual 214, 3) := by decide +kernel
theorem dX9_name_10 : decode cX9_name 10 = .ok (.ifCond .ne 5, 3) := by decide +kernel
theorem dX9_name_13 : decode cX9_name 13 = .ok (.iconst (-1), 1) := by decide +kernel
theorem dX9_name_14 : decode cX9_name 14 = .ok (.ireturn, 1) := by decide +kernel
theorem dX9_name_15 : decode cX9_name 15 = .ok (.aload_n 0, 1) := by decide +kernel
theorem dX9_name_16 : decode cX9_name 16 = .ok (.iconst 0, 1) := by decide +kernel
theorem dX9_name_17 : decode cX9_name 17 = .ok (.putfield 221, 3) := by decide +kernel
theorem dX9_name_20 : decode cX9_name 20 = .ok (.aload_n 0, 1) := by decide +kernel
theorem dX9_name_21 : decode cX9_name 21 = .ok (.getfield 13, 3) := by decide +kernel
theorem dX9_name_24 : decode cX9_name 24 = .ok (.iload_n 1, 1) := by decide +kernel
theorem dX9_name_25 : decode cX9_name 25 = .ok (.laload, 1) := by decide +kernel
theorem dX9_name_26 : decode cX9_name 26 = .ok (.lstore_n 2, 1) := by decide +kernel
theorem dX9_name_27 : decode cX9_name 27 = .ok (.lload_n 2, 1) := by decide +kernel
theorem dX9_name_28 : decode cX9_name 28 = .ok (.lconst 0, 1) := by decide +kernel
theorem dX9_name_29 : decode cX9_name 29 = .ok (.lcmp, 1) := by decide +kernel
theorem dX9_name_30 : decode cX9_name 30 = .ok (.ifCond .le 22, 3) := by decide +kernel
theorem dX9_name_33 : decode cX9_name 33 = .ok (.aload_n 0, 1) := by decide +kernel
theorem dX9_name_34 : decode cX9_name 34 = .ok (.dup, 1) := by decide +kernel
theorem dX9_name_35 : decode cX9_name 35 = .ok (.getfield 221, 3) := by decide +kernel
theorem dX9_name_38 : decode cX9_name 38 = .ok (.iconst 1, 1) := by decide +kernel
theorem dX9_name_39 : decode cX9_name 39 = .ok (.iadd, 1) := by decide +kernel
theorem dX9_name_40 : decode cX9_name 40 = .ok (.putfield 221, 3) := by decide +kernel
theorem dX9_name_43 : decode cX9_name 43 = .ok (.lload_n 2, 1) := by decide +kernel
theorem dX9_name_44 : decode cX9_name 44 = .ok (.ldc2_w 128, 3) := by decide +kernel
theorem dX9_name_47 : decode cX9_name 47 = .ok (.ldiv, 1) := by decide +kernel
theorem dX9_name_48 : decode cX9_name 48 = .ok (.lstore_n 2, 1) := by decide +kernel
theorem dX9_name_49 : decode cX9_name 49 = .ok (.goto (-22), 3) := by decide +kernel
theorem dX9_name_52 : decode cX9_name 52 = .ok (.aload_n 0, 1) := by decide +kernel
theorem dX9_name_53 : decode cX9_name 53 = .ok (.getfield 13, 3) := by decide +kernel
theorem dX9_name_56 : decode cX9_name 56 = .ok (.iload_n 1, 1) := by decide +kernel
theorem dX9_name_57 : decode cX9_name 57 = .ok (.laload, 1) := by decide +kernel
theorem dX9_name_58 : decode cX9_name 58 = .ok (.lstore_n 2, 1) := by decide +kernel
theorem dX9_name_59 : decode cX9_name 59 = .ok (.aload_n 0, 1) := by decide +kernel
theorem dX9_name_60 : decode cX9_name 60 = .ok (.getfield 221, 3) := by decide +kernel
theorem dX9_name_63 : decode cX9_name 63 = .ok (.iconst 1, 1) := by decide +kernel
theorem dX9_name_64 : decode cX9_name 64 = .ok (.isub, 1) := by decide +kernel
theorem dX9_name_65 : decode cX9_name 65 = .ok (.istore 4, 2) := by decide +kernel
theorem dX9_name_67 : decode cX9_name 67 = .ok (.iload 4, 2) := by decide +kernel
theorem dX9_name_69 : decode cX9_name 69 = .ok (.ifCond .lt 31, 3) := by decide +kernel
theorem dX9_name_72 : decode cX9_name 72 = .ok (.aload_n 0, 1) := by decide +kernel
theorem dX9_name_73 : decode cX9_name 73 = .ok (.getfield 48, 3) := by decide +kernel
theorem dX9_name_76 : decode cX9_name 76 = .ok (.iload 4, 2) := by decide +kernel
theorem dX9_name_78 : decode cX9_name 78 = .ok (.lload_n 2, 1) := by decide +kernel
theorem dX9_name_79 : decode cX9_name 79 = .ok (.ldc2_w 128, 3) := by decide +kernel
theorem dX9_name_82 : decode cX9_name 82 = .ok (.lrem, 1) := by decide +kernel
theorem dX9_name_83 : decode cX9_name 83 = .ok (.l2i, 1) := by decide +kernel
theorem dX9_name_84 : decode cX9_name 84 = .ok (.bipush 96, 2) := by decide +kernel
theorem dX9_name_86 : decode cX9_name 86 = .ok (.iadd, 1) := by decide +kernel
theorem dX9_name_87 : decode cX9_name 87 = .ok (.iastore, 1) := by decide +kernel
theorem dX9_name_88 : decode cX9_name 88 = .ok (.lload_n 2, 1) := by decide +kernel
theorem dX9_name_89 : decode cX9_name 89 = .ok (.ldc2_w 128, 3) := by decide +kernel
theorem dX9_name_92 : decode cX9_name 92 = .ok (.ldiv, 1) := by decide +kernel
theorem dX9_name_93 : decode cX9_name 93 = .ok (.lstore_n 2, 1) := by decide +kernel
theorem dX9_name_94 : decode cX9_name 94 = .ok (.iinc 4 (-1), 3) := by decide +kernel
theorem dX9_name_97 : decode cX9_name 97 = .ok (.goto (-30), 3) := by decide +kernel
theorem dX9_name_100 : decode cX9_name 100 = .ok (.aload_n 0, 1) := by decide +kernel
theorem dX9_name_101 : decode cX9_name 101 = .ok (.getfield 221, 3) := by decide +kernel
theorem dX9_name_104 : decode cX9_name 104 = .ok (.ireturn, 1) := by decide +kernel
theorem dX9_octet_0 : decode cX9_octet 0 = .ok (.iload_n 1, 1) := by decide +kernel
theorem dX9_octet_1 : decode cX9_octet 1 = .ok (.ifCond .lt 11, 3) := by decide +kernel
theorem dX9_octet_4 : decode cX9_octet 4 = .ok (.iload_n 1, 1) := by decide +kernel
theorem dX9_octet_5 : decode cX9_octet 5 = .ok (.aload_n 0, 1) := by decide +kernel
theorem dX9_octet_6 : decode cX9_octet 6 = .ok (.getfield 221, 3) := by decide +kernel
theorem dX9_octet_9 : decode cX9_octet 9 = .ok (.if_icmp .lt 8, 3) := by decide +kernel
theorem dX9_octet_12 : decode cX9_octet 12 = .ok (.aload_n 0, 1) := by decide +kernel
theorem dX9_octet_13 : decode cX9_octet 13 = .ok (.invokevirtual 217, 3) := by decide +kernel
theorem dX9_octet_16 : decode cX9_octet 16 = .ok (.ireturn, 1) := by decide +kernel
theorem dX9_octet_17 : decode cX9_octet 17 = .ok (.aload_n 0, 1) := by decide +kernel
theorem dX9_octet_18 : decode cX9_octet 18 = .ok (.iconst 0, 1) := by decide +kernel
theorem dX9_octet_19 : decode cX9_octet 19 = .ok (.putfield 87, 3) := by decide +kernel
theorem dX9_octet_22 : decode cX9_octet 22 = .ok (.aload_n 0, 1) := by decide +kernel
theorem dX9_octet_23 : decode cX9_octet 23 = .ok (.getfield 48, 3) := by decide +kernel
theorem dX9_octet_26 : decode cX9_octet 26 = .ok (.iload_n 1, 1) := by decide +kernel
theorem dX9_octet_27 : decode cX9_octet 27 = .ok (.iaload, 1) := by decide +kernel
theorem dX9_octet_28 : decode cX9_octet 28 = .ok (.ireturn, 1) := by decide +kernel
theorem dX9_isIn_0 : decode cX9_isIn 0 = .ok (.iload_n 0, 1) := by decide +kernel
theorem dX9_isIn_1 : decode cX9_isIn 1 = .ok (.ifCond .lt 12, 3) := by decide +kernel
theorem dX9_isIn_4 : decode cX9_isIn 4 = .ok (.iload_n 0, 1) := by decide +kernel
theorem dX9_isIn_5 : decode cX9_isIn 5 = .ok (.iload_n 1, 1) := by decide +kernel
theorem dX9_isIn_6 : decode cX9_isIn 6 = .ok (.if_icmp .ge 7, 3) := by decide +kernel
theorem dX9_isIn_9 : decode cX9_isIn 9 = .ok (.iconst 1, 1) := by decide +kernel
theorem dX9_isIn_10 : decode cX9_isIn 10 = .ok (.goto 4, 3) := by decide +kernel
theorem dX9_isIn_13 : decode cX9_isIn 13 = .ok (.iconst 0, 1) := by decide +kernel
theorem dX9_isIn_14 : decode cX9_isIn 14 = .ok (.ireturn, 1) := by decide +kernel
theorem dX9_cell_0 : decode cX9_cell 0 = .ok (.iconst 4, 1) := by decide +kernel
theorem dX9_cell_1 : decode cX9_cell 1 = .ok (.iload_n 0, 1) := by decide +kernel
theorem dX9_cell_2 : decode cX9_cell 2 = .ok (.imul, 1) := by decide +kernel
theorem dX9_cell_3 : decode cX9_cell 3 = .ok (.iload_n 1, 1) := by decide +kernel
theorem dX9_cell_4 : decode cX9_cell 4 = .ok (.iadd, 1) := by decide +kernel
theorem dX9_cell_5 : decode cX9_cell 5 = .ok (.bipush 24, 2) := by decide +kernel
theorem dX9_cell_7 : decode cX9_cell 7 = .ok (.imul, 1) := by decide +kernel
theorem dX9_cell_8 : decode cX9_cell 8 = .ok (.iload_n 2, 1) := by decide +kernel
theorem dX9_cell_9 : decode cX9_cell 9 = .ok (.iadd, 1) := by decide +kernel
theorem dX9_cell_10 : decode cX9_cell 10 = .ok (.ireturn, 1) := by decide +kernel
theorem dX9_uses_0 : decode cX9_uses 0 = .ok (.aload_n 0, 1) := by decide +kernel
theorem dX9_uses_1 : decode cX9_uses 1 = .ok (.iconst 0, 1) := by decide +kernel
theorem dX9_uses_2 : decode cX9_uses 2 = .ok (.putfield 87, 3) := by decide +kernel
theorem dX9_uses_5 : decode cX9_uses 5 = .ok (.aload_n 0, 1) := by decide +kernel
theorem dX9_uses_6 : decode cX9_uses 6 = .ok (.getfield 91, 3) := by decide +kernel
theorem dX9_uses_9 : decode cX9_uses 9 = .ok (.istore 4, 2) := by decide +kernel
theorem dX9_uses_11 : decode cX9_uses 11 = .ok (.aload_n 0, 1) := by decide +kernel
theorem dX9_uses_12 : decode cX9_uses 12 = .ok (.iconst 0, 1) := by decide +kernel
theorem dX9_uses_13 : decode cX9_uses 13 = .ok (.putfield 91, 3) := by decide +kernel
theorem dX9_uses_16 : decode cX9_uses 16 = .ok (.iload_n 1, 1) := by decide +kernel
theorem dX9_uses_17 : decode cX9_uses 17 = .ok (.iconst 4, 1) := by decide +kernel
theorem dX9_uses_18 : decode cX9_uses 18 = .ok (.invokestatic 224, 3) := by decide +kernel
theorem dX9_uses_21 : decode cX9_uses 21 = .ok (.ifCond .eq 38, 3) := by decide +kernel
theorem dX9_uses_24 : decode cX9_uses 24 = .ok (.iload_n 2, 1) := by decide +kernel
theorem dX9_uses_25 : decode cX9_uses 25 = .ok (.iconst 4, 1) := by decide +kernel
theorem dX9_uses_26 : decode cX9_uses 26 = .ok (.invokestatic 224, 3) := by decide +kernel
theorem dX9_uses_29 : decode cX9_uses 29 = .ok (.ifCond .eq 30, 3) := by decide +kernel
theorem dX9_uses_32 : decode cX9_uses 32 = .ok (.iload_n 3, 1) := by decide +kernel
theorem dX9_uses_33 : decode cX9_uses 33 = .ok (.bipush 24, 2) := by decide +kernel
theorem dX9_uses_35 : decode cX9_uses 35 = .ok (.invokestatic 224, 3) := by decide +kernel
theorem dX9_uses_38 : decode cX9_uses 38 = .ok (.ifCond .eq 21, 3) := by decide +kernel
theorem dX9_uses_41 : decode cX9_uses 41 = .ok (.iload 4, 2) := by decide +kernel
theorem dX9_uses_43 : decode cX9_uses 43 = .ok (.iconst 2, 1) := by decide +kernel
theorem dX9_uses_44 : decode cX9_uses 44 = .ok (.irem, 1) := by decide +kernel
theorem dX9_uses_45 : decode cX9_uses 45 = .ok (.ifCond .ne 14, 3) := by decide +kernel
theorem dX9_uses_48 : decode cX9_uses 48 = .ok (.iload_n 3, 1) := by decide +kernel
theorem dX9_uses_49 : decode cX9_uses 49 = .ok (.iload 4, 2) := by decide +kernel
theorem dX9_uses_51 : decode cX9_uses 51 = .ok (.iconst 2, 1) := by decide +kernel
theorem dX9_uses_52 : decode cX9_uses 52 = .ok (.idiv, 1) := by decide +kernel
theorem dX9_uses_53 : decode cX9_uses 53 = .ok (.iadd, 1) := by decide +kernel
theorem dX9_uses_54 : decode cX9_uses 54 = .ok (.bipush 24, 2) := by decide +kernel
theorem dX9_uses_56 : decode cX9_uses 56 = .ok (.if_icmp .le 5, 3) := by decide +kernel
theorem dX9_uses_59 : decode cX9_uses 59 = .ok (.iconst (-1), 1) := by decide +kernel
theorem dX9_uses_60 : decode cX9_uses 60 = .ok (.ireturn, 1) := by decide +kernel
theorem dX9_uses_61 : decode cX9_uses 61 = .ok (.iconst 0, 1) := by decide +kernel
theorem dX9_uses_62 : decode cX9_uses 62 = .ok (.istore 5, 2) := by decide +kernel
theorem dX9_uses_64 : decode cX9_uses 64 = .ok (.iload 5, 2) := by decide +kernel
theorem dX9_uses_66 : decode cX9_uses 66 = .ok (.iload 4, 2) := by decide +kernel
theorem dX9_uses_68 : decode cX9_uses 68 = .ok (.if_icmp .ge 38, 3) := by decide +kernel
theorem dX9_uses_71 : decode cX9_uses 71 = .ok (.sipush 256, 3) := by decide +kernel
theorem dX9_uses_74 : decode cX9_uses 74 = .ok (.aload_n 0, 1) := by decide +kernel
theorem dX9_uses_75 : decode cX9_uses 75 = .ok (.getfield 7, 3) := by decide +kernel
theorem dX9_uses_78 : decode cX9_uses 78 = .ok (.iload 5, 2) := by decide +kernel
theorem dX9_uses_80 : decode cX9_uses 80 = .ok (.iaload, 1) := by decide +kernel
theorem dX9_uses_81 : decode cX9_uses 81 = .ok (.imul, 1) := by decide +kernel
theorem dX9_uses_82 : decode cX9_uses 82 = .ok (.aload_n 0, 1) := by decide +kernel
theorem dX9_uses_83 : decode cX9_uses 83 = .ok (.getfield 7, 3) := by decide +kernel
theorem dX9_uses_86 : decode cX9_uses 86 = .ok (.iload 5, 2) := by decide +kernel
theorem dX9_uses_88 : decode cX9_uses 88 = .ok (.iconst 1, 1) := by decide +kernel
theorem dX9_uses_89 : decode cX9_uses 89 = .ok (.iadd, 1) := by decide +kernel
theorem dX9_uses_90 : decode cX9_uses 90 = .ok (.iaload, 1) := by decide +kernel
theorem dX9_uses_91 : decode cX9_uses 91 = .ok (.iadd, 1) := by decide +kernel
theorem dX9_uses_92 : decode cX9_uses 92 = .ok (.sipush 20000, 3) := by decide +kernel
theorem dX9_uses_95 : decode cX9_uses 95 = .ok (.if_icmp .le 5, 3) := by decide +kernel
theorem dX9_uses_98 : decode cX9_uses 98 = .ok (.iconst (-1), 1) := by decide +kernel
theorem dX9_uses_99 : decode cX9_uses 99 = .ok (.ireturn, 1) := by decide +kernel
theorem dX9_uses_100 : decode cX9_uses 100 = .ok (.iinc 5 2, 3) := by decide +kernel
theorem dX9_uses_103 : decode cX9_uses 103 = .ok (.goto (-39), 3) := by decide +kernel
theorem dX9_uses_106 : decode cX9_uses 106 = .ok (.iconst 0, 1) := by decide +kernel
theorem dX9_uses_107 : decode cX9_uses 107 = .ok (.istore 5, 2) := by decide +kernel
theorem dX9_uses_109 : decode cX9_uses 109 = .ok (.iload 5, 2) := by decide +kernel
theorem dX9_uses_111 : decode cX9_uses 111 = .ok (.iload 4, 2) := by decide +kernel
theorem dX9_uses_113 : decode cX9_uses 113 = .ok (.if_icmp .ge 46, 3) := by decide +kernel
theorem dX9_uses_116 : decode cX9_uses 116 = .ok (.aload_n 0, 1) := by decide +kernel
theorem dX9_uses_117 : decode cX9_uses 117 = .ok (.getfield 51, 3) := by decide +kernel
theorem dX9_uses_120 : decode cX9_uses 120 = .ok (.iload_n 1, 1) := by decide +kernel
theorem dX9_uses_121 : decode cX9_uses 121 = .ok (.iload_n 2, 1) := by decide +kernel
theorem dX9_uses_122 : decode cX9_uses 122 = .ok (.iload_n 3, 1) := by decide +kernel
theorem dX9_uses_123 : decode cX9_uses 123 = .ok (.iload 5, 2) := by decide +kernel
theorem dX9_uses_125 : decode cX9_uses 125 = .ok (.iconst 2, 1) := by decide +kernel
theorem dX9_uses_126 : decode cX9_uses 126 = .ok (.idiv, 1) := by decide +kernel
theorem dX9_uses_127 : decode cX9_uses 127 = .ok (.iadd, 1) := by decide +kernel
theorem dX9_uses_128 : decode cX9_uses 128 = .ok (.invokestatic 227, 3) := by decide +kernel
theorem dX9_uses_131 : decode cX9_uses 131 = .ok (.sipush 256, 3) := by decide +kernel
theorem dX9_uses_134 : decode cX9_uses 134 = .ok (.aload_n 0, 1) := by decide +kernel
theorem dX9_uses_135 : decode cX9_uses 135 = .ok (.getfield 7, 3) := by decide +kernel
theorem dX9_uses_138 : decode cX9_uses 138 = .ok (.iload 5, 2) := by decide +kernel
theorem dX9_uses_140 : decode cX9_uses 140 = .ok (.iaload, 1) := by decide +kernel
theorem dX9_uses_141 : decode cX9_uses 141 = .ok (.imul, 1) := by decide +kernel
theorem dX9_uses_142 : decode cX9_uses 142 = .ok (.aload_n 0, 1) := by decide +kernel
theorem dX9_uses_143 : decode cX9_uses 143 = .ok (.getfield 7, 3) := by decide +kernel
theorem dX9_uses_146 : decode cX9_uses 146 = .ok (.iload 5, 2) := by decide +kernel
theorem dX9_uses_148 : decode cX9_uses 148 = .ok (.iconst 1, 1) := by decide +kernel
theorem dX9_uses_149 : decode cX9_uses 149 = .ok (.iadd, 1) := by decide +kernel
theorem dX9_uses_150 : decode cX9_uses 150 = .ok (.iaload, 1) := by decide +kernel
theorem dX9_uses_151 : decode cX9_uses 151 = .ok (.iadd, 1) := by decide +kernel
theorem dX9_uses_152 : decode cX9_uses 152 = .ok (.iastore, 1) := by decide +kernel
theorem dX9_uses_153 : decode cX9_uses 153 = .ok (.iinc 5 2, 3) := by decide +kernel
theorem dX9_uses_156 : decode cX9_uses 156 = .ok (.goto (-47), 3) := by decide +kernel
theorem dX9_uses_159 : decode cX9_uses 159 = .ok (.iload 4, 2) := by decide +kernel
theorem dX9_uses_161 : decode cX9_uses 161 = .ok (.iconst 2, 1) := by decide +kernel
theorem dX9_uses_162 : decode cX9_uses 162 = .ok (.idiv, 1) := by decide +kernel
theorem dX9_uses_163 : decode cX9_uses 163 = .ok (.ireturn, 1) := by decide +kernel
theorem dX9_use_0 : decode cX9_use 0 = .ok (.aload_n 0, 1) := by decide +kernel
theorem dX9_use_1 : decode cX9_use 1 = .ok (.iconst 0, 1) := by decide +kernel
theorem dX9_use_2 : decode cX9_use 2 = .ok (.putfield 87, 3) := by decide +kernel
theorem dX9_use_5 : decode cX9_use 5 = .ok (.iload_n 1, 1) := by decide +kernel
theorem dX9_use_6 : decode cX9_use 6 = .ok (.iconst 4, 1) := by decide +kernel
theorem dX9_use_7 : decode cX9_use 7 = .ok (.invokestatic 224, 3) := by decide +kernel
theorem dX9_use_10 : decode cX9_use 10 = .ok (.ifCond .eq 34, 3) := by decide +kernel
theorem dX9_use_13 : decode cX9_use 13 = .ok (.iload_n 2, 1) := by decide +kernel
theorem dX9_use_14 : decode cX9_use 14 = .ok (.iconst 4, 1) := by decide +kernel
theorem dX9_use_15 : decode cX9_use 15 = .ok (.invokestatic 224, 3) := by decide +kernel
theorem dX9_use_18 : decode cX9_use 18 = .ok (.ifCond .eq 26, 3) := by decide +kernel
theorem dX9_use_21 : decode cX9_use 21 = .ok (.iload_n 3, 1) := by decide +kernel
theorem dX9_use_22 : decode cX9_use 22 = .ok (.bipush 24, 2) := by decide +kernel
theorem dX9_use_24 : decode cX9_use 24 = .ok (.invokestatic 224, 3) := by decide +kernel
theorem dX9_use_27 : decode cX9_use 27 = .ok (.ifCond .eq 17, 3) := by decide +kernel
theorem dX9_use_30 : decode cX9_use 30 = .ok (.aload_n 0, 1) := by decide +kernel
theorem dX9_use_31 : decode cX9_use 31 = .ok (.getfield 51, 3) := by decide +kernel
theorem dX9_use_34 : decode cX9_use 34 = .ok (.iload_n 1, 1) := by decide +kernel
theorem dX9_use_35 : decode cX9_use 35 = .ok (.iload_n 2, 1) := by decide +kernel
theorem dX9_use_36 : decode cX9_use 36 = .ok (.iload_n 3, 1) := by decide +kernel
theorem dX9_use_37 : decode cX9_use 37 = .ok (.invokestatic 227, 3) := by decide +kernel
theorem dX9_use_40 : decode cX9_use 40 = .ok (.iaload, 1) := by decide +kernel
theorem dX9_use_41 : decode cX9_use 41 = .ok (.goto 4, 3) := by decide +kernel
theorem dX9_use_44 : decode cX9_use 44 = .ok (.iconst (-1), 1) := by decide +kernel
theorem dX9_use_45 : decode cX9_use 45 = .ok (.ireturn, 1) := by decide +kernel
theorem dX9_change_0 : decode cX9_change 0 = .ok (.aload_n 0, 1) := by decide +kernel
theorem dX9_change_1 : decode cX9_change 1 = .ok (.iconst 0, 1) := by decide +kernel
theorem dX9_change_2 : decode cX9_change 2 = .ok (.putfield 87, 3) := by decide +kernel
theorem dX9_change_5 : decode cX9_change 5 = .ok (.iload_n 1, 1) := by decide +kernel
theorem dX9_change_6 : decode cX9_change 6 = .ok (.ifCond .lt 9, 3) := by decide +kernel
theorem dX9_change_9 : decode cX9_change 9 = .ok (.iload_n 1, 1) := by decide +kernel
theorem dX9_change_10 : decode cX9_change 10 = .ok (.ldc 231, 2) := by decide +kernel
theorem dX9_change_12 : decode cX9_change 12 = .ok (.if_icmp .le 5, 3) := by decide +kernel
theorem dX9_change_15 : decode cX9_change 15 = .ok (.iconst 0, 1) := by decide +kernel
theorem dX9_change_16 : decode cX9_change 16 = .ok (.ireturn, 1) := by decide +kernel
theorem dX9_change_17 : decode cX9_change 17 = .ok (.aload_n 0, 1) := by decide +kernel
theorem dX9_change_18 : decode cX9_change 18 = .ok (.iload_n 1, 1) := by decide +kernel
theorem dX9_change_19 : decode cX9_change 19 = .ok (.putfield 232, 3) := by decide +kernel
theorem dX9_change_22 : decode cX9_change 22 = .ok (.iconst 1, 1) := by decide +kernel
theorem dX9_change_23 : decode cX9_change 23 = .ok (.ireturn, 1) := by decide +kernel
theorem dX9_together_0 : decode cX9_together 0 = .ok (.iconst 0, 1) := by decide +kernel
theorem dX9_together_1 : decode cX9_together 1 = .ok (.istore 4, 2) := by decide +kernel
theorem dX9_together_3 : decode cX9_together 3 = .ok (.iconst 0, 1) := by decide +kernel
theorem dX9_together_4 : decode cX9_together 4 = .ok (.istore 5, 2) := by decide +kernel
theorem dX9_together_6 : decode cX9_together 6 = .ok (.iload 5, 2) := by decide +kernel
theorem dX9_together_8 : decode cX9_together 8 = .ok (.iconst 4, 1) := by decide +kernel
theorem dX9_together_9 : decode cX9_together 9 = .ok (.if_icmp .ge 36, 3) := by decide +kernel
theorem dX9_together_12 : decode cX9_together 12 = .ok (.iload_n 1, 1) := by decide +kernel
theorem dX9_together_13 : decode cX9_together 13 = .ok (.iload 5, 2) := by decide +kernel
theorem dX9_together_15 : decode cX9_together 15 = .ok (.ishr, 1) := by decide +kernel
theorem dX9_together_16 : decode cX9_together 16 = .ok (.iconst 1, 1) := by decide +kernel
theorem dX9_together_17 : decode cX9_together 17 = .ok (.iand, 1) := by decide +kernel
theorem dX9_together_18 : decode cX9_together 18 = .ok (.iconst 1, 1) := by decide +kernel
theorem dX9_together_19 : decode cX9_together 19 = .ok (.if_icmp .ne 20, 3) := by decide +kernel
theorem dX9_together_22 : decode cX9_together 22 = .ok (.iload 4, 2) := by decide +kernel
theorem dX9_together_24 : decode cX9_together 24 = .ok (.aload_n 0, 1) := by decide +kernel
theorem dX9_together_25 : decode cX9_together 25 = .ok (.getfield 51, 3) := by decide +kernel
theorem dX9_together_28 : decode cX9_together 28 = .ok (.iload 5, 2) := by decide +kernel
theorem dX9_together_30 : decode cX9_together 30 = .ok (.iload_n 2, 1) := by decide +kernel
theorem dX9_together_31 : decode cX9_together 31 = .ok (.iload_n 3, 1) := by decide +kernel
theorem dX9_together_32 : decode cX9_together 32 = .ok (.invokestatic 227, 3) := by decide +kernel
theorem dX9_together_35 : decode cX9_together 35 = .ok (.iaload, 1) := by decide +kernel
theorem dX9_together_36 : decode cX9_together 36 = .ok (.iadd, 1) := by decide +kernel
theorem dX9_together_37 : decode cX9_together 37 = .ok (.istore 4, 2) := by decide +kernel
theorem dX9_together_39 : decode cX9_together 39 = .ok (.iinc 5 1, 3) := by decide +kernel
theorem dX9_together_42 : decode cX9_together 42 = .ok (.goto (-36), 3) := by decide +kernel
theorem dX9_together_45 : decode cX9_together 45 = .ok (.iload 4, 2) := by decide +kernel
theorem dX9_together_47 : decode cX9_together 47 = .ok (.ireturn, 1) := by decide +kernel
theorem dX9_partCost_0 : decode cX9_partCost 0 = .ok (.iload_n 2, 1) := by decide +kernel
theorem dX9_partCost_1 : decode cX9_partCost 1 = .ok (.aload_n 0, 1) := by decide +kernel
theorem dX9_partCost_2 : decode cX9_partCost 2 = .ok (.getfield 33, 3) := by decide +kernel
theorem dX9_partCost_5 : decode cX9_partCost 5 = .ok (.iload_n 1, 1) := by decide +kernel
theorem dX9_partCost_6 : decode cX9_partCost 6 = .ok (.iaload, 1) := by decide +kernel
theorem dX9_partCost_7 : decode cX9_partCost 7 = .ok (.isub, 1) := by decide +kernel
theorem dX9_partCost_8 : decode cX9_partCost 8 = .ok (.istore_n 3, 1) := by decide +kernel
theorem dX9_partCost_9 : decode cX9_partCost 9 = .ok (.iload_n 3, 1) := by decide +kernel
theorem dX9_partCost_10 : decode cX9_partCost 10 = .ok (.ifCond .gt 5, 3) := by decide +kernel
theorem dX9_partCost_13 : decode cX9_partCost 13 = .ok (.lconst 0, 1) := by decide +kernel
theorem dX9_partCost_14 : decode cX9_partCost 14 = .ok (.lreturn, 1) := by decide +kernel
theorem dX9_partCost_15 : decode cX9_partCost 15 = .ok (.lconst 0, 1) := by decide +kernel
theorem dX9_partCost_16 : decode cX9_partCost 16 = .ok (.lstore 4, 2) := by decide +kernel
theorem dX9_partCost_18 : decode cX9_partCost 18 = .ok (.iconst 0, 1) := by decide +kernel
theorem dX9_partCost_19 : decode cX9_partCost 19 = .ok (.istore 6, 2) := by decide +kernel
theorem dX9_partCost_21 : decode cX9_partCost 21 = .ok (.iconst 0, 1) := by decide +kernel
theorem dX9_partCost_22 : decode cX9_partCost 22 = .ok (.istore 7, 2) := by decide +kernel
theorem dX9_partCost_24 : decode cX9_partCost 24 = .ok (.iload 7, 2) := by decide +kernel
theorem dX9_partCost_26 : decode cX9_partCost 26 = .ok (.aload_n 0, 1) := by decide +kernel
theorem dX9_partCost_27 : decode cX9_partCost 27 = .ok (.getfield 36, 3) := by decide +kernel
theorem dX9_partCost_30 : decode cX9_partCost 30 = .ok (.iload_n 1, 1) := by decide +kernel
theorem dX9_partCost_31 : decode cX9_partCost 31 = .ok (.iaload, 1) := by decide +kernel
theorem dX9_partCost_32 : decode cX9_partCost 32 = .ok (.if_icmp .ge 82, 3) := by decide +kernel
theorem dX9_partCost_35 : decode cX9_partCost 35 = .ok (.iload_n 3, 1) := by decide +kernel
theorem dX9_partCost_36 : decode cX9_partCost 36 = .ok (.ifCond .le 78, 3) := by decide +kernel
theorem dX9_partCost_39 : decode cX9_partCost 39 = .ok (.aload_n 0, 1) := by decide +kernel
theorem dX9_partCost_40 : decode cX9_partCost 40 = .ok (.getfield 39, 3) := by decide +kernel
theorem dX9_partCost_43 : decode cX9_partCost 43 = .ok (.iconst 3, 1) := by decide +kernel
theorem dX9_partCost_44 : decode cX9_partCost 44 = .ok (.iload_n 1, 1) := by decide +kernel
theorem dX9_partCost_45 : decode cX9_partCost 45 = .ok (.imul, 1) := by decide +kernel
theorem dX9_partCost_46 : decode cX9_partCost 46 = .ok (.iload 7, 2) := by decide +kernel
theorem dX9_partCost_48 : decode cX9_partCost 48 = .ok (.iadd, 1) := by decide +kernel
theorem dX9_partCost_49 : decode cX9_partCost 49 = .ok (.iaload, 1) := by decide +kernel
theorem dX9_partCost_50 : decode cX9_partCost 50 = .ok (.iload 6, 2) := by decide +kernel
theorem dX9_partCost_52 : decode cX9_partCost 52 = .ok (.isub, 1) := by decide +kernel
theorem dX9_partCost_53 : decode cX9_partCost 53 = .ok (.istore 8, 2) := by decide +kernel
theorem dX9_partCost_55 : decode cX9_partCost 55 = .ok (.iload_n 3, 1) := by decide +kernel
theorem dX9_partCost_56 : decode cX9_partCost 56 = .ok (.iload 8, 2) := by decide +kernel
theorem dX9_partCost_58 : decode cX9_partCost 58 = .ok (.if_icmp .ge 7, 3) := by decide +kernel
theorem dX9_partCost_61 : decode cX9_partCost 61 = .ok (.iload_n 3, 1) := by decide +kernel
theorem dX9_partCost_62 : decode cX9_partCost 62 = .ok (.goto 5, 3) := by decide +kernel
theorem dX9_partCost_65 : decode cX9_partCost 65 = .ok (.iload 8, 2) := by decide +kernel
theorem dX9_partCost_67 : decode cX9_partCost 67 = .ok (.istore 9, 2) := by decide +kernel
theorem dX9_partCost_69 : decode cX9_partCost 69 = .ok (.lload 4, 2) := by decide +kernel
theorem dX9_partCost_71 : decode cX9_partCost 71 = .ok (.iload 9, 2) := by decide +kernel
theorem dX9_partCost_73 : decode cX9_partCost 73 = .ok (.i2l, 1) := by decide +kernel
theorem dX9_partCost_74 : decode cX9_partCost 74 = .ok (.aload_n 0, 1) := by decide +kernel
theorem dX9_partCost_75 : decode cX9_partCost 75 = .ok (.getfield 42, 3) := by decide +kernel
theorem dX9_partCost_78 : decode cX9_partCost 78 = .ok (.iconst 3, 1) := by decide +kernel
theorem dX9_partCost_79 : decode cX9_partCost 79 = .ok (.iload_n 1, 1) := by decide +kernel
theorem dX9_partCost_80 : decode cX9_partCost 80 = .ok (.imul, 1) := by decide +kernel
theorem dX9_partCost_81 : decode cX9_partCost 81 = .ok (.iload 7, 2) := by decide +kernel
theorem dX9_partCost_83 : decode cX9_partCost 83 = .ok (.iadd, 1) := by decide +kernel
theorem dX9_partCost_84 : decode cX9_partCost 84 = .ok (.iaload, 1) := by decide +kernel
theorem dX9_partCost_85 : decode cX9_partCost 85 = .ok (.i2l, 1) := by decide +kernel
theorem dX9_partCost_86 : decode cX9_partCost 86 = .ok (.lmul, 1) := by decide +kernel
theorem dX9_partCost_87 : decode cX9_partCost 87 = .ok (.ladd, 1) := by decide +kernel
theorem dX9_partCost_88 : decode cX9_partCost 88 = .ok (.lstore 4, 2) := by decide +kernel
theorem dX9_partCost_90 : decode cX9_partCost 90 = .ok (.iload_n 3, 1) := by decide +kernel
theorem dX9_partCost_91 : decode cX9_partCost 91 = .ok (.iload 9, 2) := by decide +kernel
theorem dX9_partCost_93 : decode cX9_partCost 93 = .ok (.isub, 1) := by decide +kernel
theorem dX9_partCost_94 : decode cX9_partCost 94 = .ok (.istore_n 3, 1) := by decide +kernel
theorem dX9_partCost_95 : decode cX9_partCost 95 = .ok (.aload_n 0, 1) := by decide +kernel
theorem dX9_partCost_96 : decode cX9_partCost 96 = .ok (.getfield 39, 3) := by decide +kernel
theorem dX9_partCost_99 : decode cX9_partCost 99 = .ok (.iconst 3, 1) := by decide +kernel
theorem dX9_partCost_100 : decode cX9_partCost 100 = .ok (.iload_n 1, 1) := by decide +kernel
theorem dX9_partCost_101 : decode cX9_partCost 101 = .ok (.imul, 1) := by decide +kernel
theorem dX9_partCost_102 : decode cX9_partCost 102 = .ok (.iload 7, 2) := by decide +kernel
theorem dX9_partCost_104 : decode cX9_partCost 104 = .ok (.iadd, 1) := by decide +kernel
theorem dX9_partCost_105 : decode cX9_partCost 105 = .ok (.iaload, 1) := by decide +kernel
theorem dX9_partCost_106 : decode cX9_partCost 106 = .ok (.istore 6, 2) := by decide +kernel
theorem dX9_partCost_108 : decode cX9_partCost 108 = .ok (.iinc 7 1, 3) := by decide +kernel
theorem dX9_partCost_111 : decode cX9_partCost 111 = .ok (.goto (-87), 3) := by decide +kernel
theorem dX9_partCost_114 : decode cX9_partCost 114 = .ok (.lload 4, 2) := by decide +kernel
theorem dX9_partCost_116 : decode cX9_partCost 116 = .ok (.iload_n 3, 1) := by decide +kernel
theorem dX9_partCost_117 : decode cX9_partCost 117 = .ok (.i2l, 1) := by decide +kernel
theorem dX9_partCost_118 : decode cX9_partCost 118 = .ok (.aload_n 0, 1) := by decide +kernel
theorem dX9_partCost_119 : decode cX9_partCost 119 = .ok (.getfield 45, 3) := by decide +kernel
theorem dX9_partCost_122 : decode cX9_partCost 122 = .ok (.iload_n 1, 1) := by decide +kernel
theorem dX9_partCost_123 : decode cX9_partCost 123 = .ok (.iaload, 1) := by decide +kernel
theorem dX9_partCost_124 : decode cX9_partCost 124 = .ok (.i2l, 1) := by decide +kernel
theorem dX9_partCost_125 : decode cX9_partCost 125 = .ok (.lmul, 1) := by decide +kernel
theorem dX9_partCost_126 : decode cX9_partCost 126 = .ok (.ladd, 1) := by decide +kernel
theorem dX9_partCost_127 : decode cX9_partCost 127 = .ok (.lreturn, 1) := by decide +kernel
theorem dX9_mayHave_0 : decode cX9_mayHave 0 = .ok (.iconst 0, 1) := by decide +kernel
theorem dX9_mayHave_1 : decode cX9_mayHave 1 = .ok (.istore 4, 2) := by decide +kernel
theorem dX9_mayHave_3 : decode cX9_mayHave 3 = .ok (.iload 4, 2) := by decide +kernel
theorem dX9_mayHave_5 : decode cX9_mayHave 5 = .ok (.iconst 4, 1) := by decide +kernel
theorem dX9_mayHave_6 : decode cX9_mayHave 6 = .ok (.if_icmp .ge 36, 3) := by decide +kernel
theorem dX9_mayHave_9 : decode cX9_mayHave 9 = .ok (.aload_n 0, 1) := by decide +kernel
theorem dX9_mayHave_10 : decode cX9_mayHave 10 = .ok (.getfield 29, 3) := by decide +kernel
theorem dX9_mayHave_13 : decode cX9_mayHave 13 = .ok (.iconst 4, 1) := by decide +kernel
theorem dX9_mayHave_14 : decode cX9_mayHave 14 = .ok (.iload_n 1, 1) := by decide +kernel
theorem dX9_mayHave_15 : decode cX9_mayHave 15 = .ok (.imul, 1) := by decide +kernel
theorem dX9_mayHave_16 : decode cX9_mayHave 16 = .ok (.iload 4, 2) := by decide +kernel
theorem dX9_mayHave_18 : decode cX9_mayHave 18 = .ok (.iadd, 1) := by decide +kernel
theorem dX9_mayHave_19 : decode cX9_mayHave 19 = .ok (.baload, 1) := by decide +kernel
theorem dX9_mayHave_20 : decode cX9_mayHave 20 = .ok (.ifCond .ne 16, 3) := by decide +kernel
theorem dX9_mayHave_23 : decode cX9_mayHave 23 = .ok (.aload_n 0, 1) := by decide +kernel
theorem dX9_mayHave_24 : decode cX9_mayHave 24 = .ok (.iload_n 2, 1) := by decide +kernel
theorem dX9_mayHave_25 : decode cX9_mayHave 25 = .ok (.iload 4, 2) := by decide +kernel
theorem dX9_mayHave_27 : decode cX9_mayHave 27 = .ok (.iload_n 3, 1) := by decide +kernel
theorem dX9_mayHave_28 : decode cX9_mayHave 28 = .ok (.invokevirtual 235, 3) := by decide +kernel
theorem dX9_mayHave_31 : decode cX9_mayHave 31 = .ok (.ifCond .le 5, 3) := by decide +kernel
theorem dX9_mayHave_34 : decode cX9_mayHave 34 = .ok (.iconst 0, 1) := by decide +kernel
theorem dX9_mayHave_35 : decode cX9_mayHave 35 = .ok (.ireturn, 1) := by decide +kernel
theorem dX9_mayHave_36 : decode cX9_mayHave 36 = .ok (.iinc 4 1, 3) := by decide +kernel
theorem dX9_mayHave_39 : decode cX9_mayHave 39 = .ok (.goto (-36), 3) := by decide +kernel
theorem dX9_mayHave_42 : decode cX9_mayHave 42 = .ok (.iconst 1, 1) := by decide +kernel
theorem dX9_mayHave_43 : decode cX9_mayHave 43 = .ok (.ireturn, 1) := by decide +kernel
theorem dX9_serviceCost_0 : decode cX9_serviceCost 0 = .ok (.aload_n 0, 1) := by decide +kernel
theorem dX9_serviceCost_1 : decode cX9_serviceCost 1 = .ok (.getfield 29, 3) := by decide +kernel
theorem dX9_serviceCost_4 : decode cX9_serviceCost 4 = .ok (.iconst 4, 1) := by decide +kernel
theorem dX9_serviceCost_5 : decode cX9_serviceCost 5 = .ok (.iload_n 1, 1) := by decide +kernel
theorem dX9_serviceCost_6 : decode cX9_serviceCost 6 = .ok (.imul, 1) := by decide +kernel
theorem dX9_serviceCost_7 : decode cX9_serviceCost 7 = .ok (.iload_n 3, 1) := by decide +kernel
theorem dX9_serviceCost_8 : decode cX9_serviceCost 8 = .ok (.iadd, 1) := by decide +kernel
theorem dX9_serviceCost_9 : decode cX9_serviceCost 9 = .ok (.baload, 1) := by decide +kernel
theorem dX9_serviceCost_10 : decode cX9_serviceCost 10 = .ok (.ifCond .eq 23, 3) := by decide +kernel
theorem dX9_serviceCost_13 : decode cX9_serviceCost 13 = .ok (.aload_n 0, 1) := by decide +kernel
theorem dX9_serviceCost_14 : decode cX9_serviceCost 14 = .ok (.iconst 4, 1) := by decide +kernel
theorem dX9_serviceCost_15 : decode cX9_serviceCost 15 = .ok (.iload_n 1, 1) := by decide +kernel
theorem dX9_serviceCost_16 : decode cX9_serviceCost 16 = .ok (.imul, 1) := by decide +kernel
theorem dX9_serviceCost_17 : decode cX9_serviceCost 17 = .ok (.iload_n 3, 1) := by decide +kernel
theorem dX9_serviceCost_18 : decode cX9_serviceCost 18 = .ok (.iadd, 1) := by decide +kernel
theorem dX9_serviceCost_19 : decode cX9_serviceCost 19 = .ok (.aload_n 0, 1) := by decide +kernel
theorem dX9_serviceCost_20 : decode cX9_serviceCost 20 = .ok (.iload_n 2, 1) := by decide +kernel
theorem dX9_serviceCost_21 : decode cX9_serviceCost 21 = .ok (.iload_n 3, 1) := by decide +kernel
theorem dX9_serviceCost_22 : decode cX9_serviceCost 22 = .ok (.iload 4, 2) := by decide +kernel
theorem dX9_serviceCost_24 : decode cX9_serviceCost 24 = .ok (.invokevirtual 235, 3) := by decide +kernel
theorem dX9_serviceCost_27 : decode cX9_serviceCost 27 = .ok (.invokevirtual 238, 3) := by decide +kernel
theorem dX9_serviceCost_30 : decode cX9_serviceCost 30 = .ok (.goto 4, 3) := by decide +kernel
theorem dX9_serviceCost_33 : decode cX9_serviceCost 33 = .ok (.lconst 0, 1) := by decide +kernel
theorem dX9_serviceCost_34 : decode cX9_serviceCost 34 = .ok (.lreturn, 1) := by decide +kernel
theorem dX9_monthCost_0 : decode cX9_monthCost 0 = .ok (.aload_n 0, 1) := by decide +kernel
theorem dX9_monthCost_1 : decode cX9_monthCost 1 = .ok (.getfield 17, 3) := by decide +kernel
theorem dX9_monthCost_4 : decode cX9_monthCost 4 = .ok (.iload_n 1, 1) := by decide +kernel
theorem dX9_monthCost_5 : decode cX9_monthCost 5 = .ok (.iaload, 1) := by decide +kernel
theorem dX9_monthCost_6 : decode cX9_monthCost 6 = .ok (.i2l, 1) := by decide +kernel
theorem dX9_monthCost_7 : decode cX9_monthCost 7 = .ok (.lstore 4, 2) := by decide +kernel
theorem dX9_monthCost_9 : decode cX9_monthCost 9 = .ok (.iconst 0, 1) := by decide +kernel
theorem dX9_monthCost_10 : decode cX9_monthCost 10 = .ok (.istore 6, 2) := by decide +kernel
theorem dX9_monthCost_12 : decode cX9_monthCost 12 = .ok (.iload 6, 2) := by decide +kernel
theorem dX9_monthCost_14 : decode cX9_monthCost 14 = .ok (.iconst 4, 1) := by decide +kernel
theorem dX9_monthCost_15 : decode cX9_monthCost 15 = .ok (.if_icmp .ge 23, 3) := by decide +kernel
theorem dX9_monthCost_18 : decode cX9_monthCost 18 = .ok (.lload 4, 2) := by decide +kernel
theorem dX9_monthCost_20 : decode cX9_monthCost 20 = .ok (.aload_n 0, 1) := by decide +kernel
theorem dX9_monthCost_21 : decode cX9_monthCost 21 = .ok (.iload_n 1, 1) := by decide +kernel
theorem dX9_monthCost_22 : decode cX9_monthCost 22 = .ok (.iload_n 2, 1) := by decide +kernel
theorem dX9_monthCost_23 : decode cX9_monthCost 23 = .ok (.iload 6, 2) := by decide +kernel
theorem dX9_monthCost_25 : decode cX9_monthCost 25 = .ok (.iload_n 3, 1) := by decide +kernel
theorem dX9_monthCost_26 : decode cX9_monthCost 26 = .ok (.invokevirtual 242, 3) := by decide +kernel
theorem dX9_monthCost_29 : decode cX9_monthCost 29 = .ok (.ladd, 1) := by decide +kernel
theorem dX9_monthCost_30 : decode cX9_monthCost 30 = .ok (.lstore 4, 2) := by decide +kernel
theorem dX9_monthCost_32 : decode cX9_monthCost 32 = .ok (.iinc 6 1, 3) := by decide +kernel
theorem dX9_monthCost_35 : decode cX9_monthCost 35 = .ok (.goto (-23), 3) := by decide +kernel
theorem dX9_monthCost_38 : decode cX9_monthCost 38 = .ok (.lload 4, 2) := by decide +kernel
theorem dX9_monthCost_40 : decode cX9_monthCost 40 = .ok (.lreturn, 1) := by decide +kernel
theorem dX9_cost_0 : decode cX9_cost 0 = .ok (.aload_n 0, 1) := by decide +kernel
theorem dX9_cost_1 : decode cX9_cost 1 = .ok (.iload_n 1, 1) := by decide +kernel
theorem dX9_cost_2 : decode cX9_cost 2 = .ok (.invokevirtual 214, 3) := by decide +kernel
theorem dX9_cost_5 : decode cX9_cost 5 = .ok (.ifCond .eq 44, 3) := by decide +kernel
theorem dX9_cost_8 : decode cX9_cost 8 = .ok (.iload_n 2, 1) := by decide +kernel
theorem dX9_cost_9 : decode cX9_cost 9 = .ok (.iconst 1, 1) := by decide +kernel
theorem dX9_cost_10 : decode cX9_cost 10 = .ok (.if_icmp .lt 39, 3) := by decide +kernel
theorem dX9_cost_13 : decode cX9_cost 13 = .ok (.iload_n 2, 1) := by decide +kernel
theorem dX9_cost_14 : decode cX9_cost 14 = .ok (.bipush 15, 2) := by decide +kernel
theorem dX9_cost_16 : decode cX9_cost 16 = .ok (.if_icmp .gt 33, 3) := by decide +kernel
theorem dX9_cost_19 : decode cX9_cost 19 = .ok (.iload_n 3, 1) := by decide +kernel
theorem dX9_cost_20 : decode cX9_cost 20 = .ok (.bipush 24, 2) := by decide +kernel
theorem dX9_cost_22 : decode cX9_cost 22 = .ok (.invokestatic 224, 3) := by decide +kernel
theorem dX9_cost_25 : decode cX9_cost 25 = .ok (.ifCond .eq 24, 3) := by decide +kernel
theorem dX9_cost_28 : decode cX9_cost 28 = .ok (.iload 4, 2) := by decide +kernel
theorem dX9_cost_30 : decode cX9_cost 30 = .ok (.ifCond .lt 19, 3) := by decide +kernel
theorem dX9_cost_33 : decode cX9_cost 33 = .ok (.iload 4, 2) := by decide +kernel
theorem dX9_cost_35 : decode cX9_cost 35 = .ok (.iconst 5, 1) := by decide +kernel
theorem dX9_cost_36 : decode cX9_cost 36 = .ok (.if_icmp .gt 13, 3) := by decide +kernel
theorem dX9_cost_39 : decode cX9_cost 39 = .ok (.aload_n 0, 1) := by decide +kernel
theorem dX9_cost_40 : decode cX9_cost 40 = .ok (.iload_n 1, 1) := by decide +kernel
theorem dX9_cost_41 : decode cX9_cost 41 = .ok (.iload_n 2, 1) := by decide +kernel
theorem dX9_cost_42 : decode cX9_cost 42 = .ok (.iload_n 3, 1) := by decide +kernel
theorem dX9_cost_43 : decode cX9_cost 43 = .ok (.invokevirtual 246, 3) := by decide +kernel
theorem dX9_cost_46 : decode cX9_cost 46 = .ok (.ifCond .ne 9, 3) := by decide +kernel
theorem dX9_cost_49 : decode cX9_cost 49 = .ok (.aload_n 0, 1) := by decide +kernel
theorem dX9_cost_50 : decode cX9_cost 50 = .ok (.invokevirtual 217, 3) := by decide +kernel
theorem dX9_cost_53 : decode cX9_cost 53 = .ok (.i2l, 1) := by decide +kernel
theorem dX9_cost_54 : decode cX9_cost 54 = .ok (.lreturn, 1) := by decide +kernel
theorem dX9_cost_55 : decode cX9_cost 55 = .ok (.aload_n 0, 1) := by decide +kernel
theorem dX9_cost_56 : decode cX9_cost 56 = .ok (.iconst 0, 1) := by decide +kernel
theorem dX9_cost_57 : decode cX9_cost 57 = .ok (.putfield 87, 3) := by decide +kernel
theorem dX9_cost_60 : decode cX9_cost 60 = .ok (.iload 4, 2) := by decide +kernel
theorem dX9_cost_62 : decode cX9_cost 62 = .ok (.ifCond .ne 13, 3) := by decide +kernel
theorem dX9_cost_65 : decode cX9_cost 65 = .ok (.aload_n 0, 1) := by decide +kernel
theorem dX9_cost_66 : decode cX9_cost 66 = .ok (.iload_n 1, 1) := by decide +kernel
theorem dX9_cost_67 : decode cX9_cost 67 = .ok (.iload_n 2, 1) := by decide +kernel
theorem dX9_cost_68 : decode cX9_cost 68 = .ok (.iload_n 3, 1) := by decide +kernel
theorem dX9_cost_69 : decode cX9_cost 69 = .ok (.invokevirtual 250, 3) := by decide +kernel
theorem dX9_cost_72 : decode cX9_cost 72 = .ok (.goto 30, 3) := by decide +kernel
theorem dX9_cost_75 : decode cX9_cost 75 = .ok (.iload 4, 2) := by decide +kernel
theorem dX9_cost_77 : decode cX9_cost 77 = .ok (.iconst 1, 1) := by decide +kernel
theorem dX9_cost_78 : decode cX9_cost 78 = .ok (.if_icmp .ne 13, 3) := by decide +kernel
theorem dX9_cost_81 : decode cX9_cost 81 = .ok (.aload_n 0, 1) := by decide +kernel
theorem dX9_cost_82 : decode cX9_cost 82 = .ok (.getfield 17, 3) := by decide +kernel
theorem dX9_cost_85 : decode cX9_cost 85 = .ok (.iload_n 1, 1) := by decide +kernel
theorem dX9_cost_86 : decode cX9_cost 86 = .ok (.iaload, 1) := by decide +kernel
theorem dX9_cost_87 : decode cX9_cost 87 = .ok (.i2l, 1) := by decide +kernel
theorem dX9_cost_88 : decode cX9_cost 88 = .ok (.goto 14, 3) := by decide +kernel
theorem dX9_cost_91 : decode cX9_cost 91 = .ok (.aload_n 0, 1) := by decide +kernel
theorem dX9_cost_92 : decode cX9_cost 92 = .ok (.iload_n 1, 1) := by decide +kernel
theorem dX9_cost_93 : decode cX9_cost 93 = .ok (.iload_n 2, 1) := by decide +kernel
theorem dX9_cost_94 : decode cX9_cost 94 = .ok (.iload 4, 2) := by decide +kernel
theorem dX9_cost_96 : decode cX9_cost 96 = .ok (.iconst 2, 1) := by decide +kernel
theorem dX9_cost_97 : decode cX9_cost 97 = .ok (.isub, 1) := by decide +kernel
theorem dX9_cost_98 : decode cX9_cost 98 = .ok (.iload_n 3, 1) := by decide +kernel
theorem dX9_cost_99 : decode cX9_cost 99 = .ok (.invokevirtual 242, 3) := by decide +kernel
theorem dX9_cost_102 : decode cX9_cost 102 = .ok (.lreturn, 1) := by decide +kernel
theorem dX9_bill_0 : decode cX9_bill 0 = .ok (.aload_n 0, 1) := by decide +kernel
theorem dX9_bill_1 : decode cX9_bill 1 = .ok (.iload_n 1, 1) := by decide +kernel
theorem dX9_bill_2 : decode cX9_bill 2 = .ok (.invokevirtual 214, 3) := by decide +kernel
theorem dX9_bill_5 : decode cX9_bill 5 = .ok (.ifCond .eq 32, 3) := by decide +kernel
theorem dX9_bill_8 : decode cX9_bill 8 = .ok (.iload_n 2, 1) := by decide +kernel
theorem dX9_bill_9 : decode cX9_bill 9 = .ok (.iconst 4, 1) := by decide +kernel
theorem dX9_bill_10 : decode cX9_bill 10 = .ok (.invokestatic 224, 3) := by decide +kernel
theorem dX9_bill_13 : decode cX9_bill 13 = .ok (.ifCond .eq 24, 3) := by decide +kernel
theorem dX9_bill_16 : decode cX9_bill 16 = .ok (.iload_n 3, 1) := by decide +kernel
theorem dX9_bill_17 : decode cX9_bill 17 = .ok (.bipush 24, 2) := by decide +kernel
theorem dX9_bill_19 : decode cX9_bill 19 = .ok (.invokestatic 224, 3) := by decide +kernel
theorem dX9_bill_22 : decode cX9_bill 22 = .ok (.ifCond .eq 15, 3) := by decide +kernel
theorem dX9_bill_25 : decode cX9_bill 25 = .ok (.aload_n 0, 1) := by decide +kernel
theorem dX9_bill_26 : decode cX9_bill 26 = .ok (.iload_n 1, 1) := by decide +kernel
theorem dX9_bill_27 : decode cX9_bill 27 = .ok (.iconst 1, 1) := by decide +kernel
theorem dX9_bill_28 : decode cX9_bill 28 = .ok (.iload_n 2, 1) := by decide +kernel
theorem dX9_bill_29 : decode cX9_bill 29 = .ok (.ishl, 1) := by decide +kernel
theorem dX9_bill_30 : decode cX9_bill 30 = .ok (.iload_n 3, 1) := by decide +kernel
theorem dX9_bill_31 : decode cX9_bill 31 = .ok (.invokevirtual 246, 3) := by decide +kernel
theorem dX9_bill_34 : decode cX9_bill 34 = .ok (.ifCond .ne 9, 3) := by decide +kernel
theorem dX9_bill_37 : decode cX9_bill 37 = .ok (.aload_n 0, 1) := by decide +kernel
theorem dX9_bill_38 : decode cX9_bill 38 = .ok (.invokevirtual 217, 3) := by decide +kernel
theorem dX9_bill_41 : decode cX9_bill 41 = .ok (.i2l, 1) := by decide +kernel
theorem dX9_bill_42 : decode cX9_bill 42 = .ok (.lreturn, 1) := by decide +kernel
theorem dX9_bill_43 : decode cX9_bill 43 = .ok (.aload_n 0, 1) := by decide +kernel
theorem dX9_bill_44 : decode cX9_bill 44 = .ok (.iconst 0, 1) := by decide +kernel
theorem dX9_bill_45 : decode cX9_bill 45 = .ok (.putfield 87, 3) := by decide +kernel
theorem dX9_bill_48 : decode cX9_bill 48 = .ok (.lload 4, 2) := by decide +kernel
theorem dX9_bill_50 : decode cX9_bill 50 = .ok (.aload_n 0, 1) := by decide +kernel
theorem dX9_bill_51 : decode cX9_bill 51 = .ok (.iload_n 1, 1) := by decide +kernel
theorem dX9_bill_52 : decode cX9_bill 52 = .ok (.iconst 1, 1) := by decide +kernel
theorem dX9_bill_53 : decode cX9_bill 53 = .ok (.iload_n 2, 1) := by decide +kernel
theorem dX9_bill_54 : decode cX9_bill 54 = .ok (.ishl, 1) := by decide +kernel
theorem dX9_bill_55 : decode cX9_bill 55 = .ok (.iload_n 3, 1) := by decide +kernel
theorem dX9_bill_56 : decode cX9_bill 56 = .ok (.invokevirtual 250, 3) := by decide +kernel
theorem dX9_bill_59 : decode cX9_bill 59 = .ok (.lsub, 1) := by decide +kernel
theorem dX9_bill_60 : decode cX9_bill 60 = .ok (.lreturn, 1) := by decide +kernel
theorem dX9_state_0 : decode cX9_state 0 = .ok (.bipush 25, 2) := by decide +kernel
theorem dX9_state_2 : decode cX9_state 2 = .ok (.iload_n 0, 1) := by decide +kernel
theorem dX9_state_3 : decode cX9_state 3 = .ok (.imul, 1) := by decide +kernel
theorem dX9_state_4 : decode cX9_state 4 = .ok (.iload_n 1, 1) := by decide +kernel
theorem dX9_state_5 : decode cX9_state 5 = .ok (.iadd, 1) := by decide +kernel
theorem dX9_state_6 : decode cX9_state 6 = .ok (.ireturn, 1) := by decide +kernel
theorem dX9_offer_0 : decode cX9_offer 0 = .ok (.iload_n 2, 1) := by decide +kernel
theorem dX9_offer_1 : decode cX9_offer 1 = .ok (.iload_n 3, 1) := by decide +kernel
theorem dX9_offer_2 : decode cX9_offer 2 = .ok (.invokestatic 254, 3) := by decide +kernel
theorem dX9_offer_5 : decode cX9_offer 5 = .ok (.istore 7, 2) := by decide +kernel
theorem dX9_offer_7 : decode cX9_offer 7 = .ok (.lload 5, 2) := by decide +kernel
theorem dX9_offer_9 : decode cX9_offer 9 = .ok (.aload_n 0, 1) := by decide +kernel
theorem dX9_offer_10 : decode cX9_offer 10 = .ok (.getfield 57, 3) := by decide +kernel
theorem dX9_offer_13 : decode cX9_offer 13 = .ok (.iload 7, 2) := by decide +kernel
theorem dX9_offer_15 : decode cX9_offer 15 = .ok (.laload, 1) := by decide +kernel
theorem dX9_offer_16 : decode cX9_offer 16 = .ok (.lcmp, 1) := by decide +kernel
theorem dX9_offer_17 : decode cX9_offer 17 = .ok (.ifCond .ge 7, 3) := by decide +kernel
theorem dX9_offer_20 : decode cX9_offer 20 = .ok (.iconst 1, 1) := by decide +kernel
theorem dX9_offer_21 : decode cX9_offer 21 = .ok (.goto 4, 3) := by decide +kernel
theorem dX9_offer_24 : decode cX9_offer 24 = .ok (.iconst 0, 1) := by decide +kernel
theorem dX9_offer_25 : decode cX9_offer 25 = .ok (.istore 8, 2) := by decide +kernel
theorem dX9_offer_27 : decode cX9_offer 27 = .ok (.lload 5, 2) := by decide +kernel
theorem dX9_offer_29 : decode cX9_offer 29 = .ok (.aload_n 0, 1) := by decide +kernel
theorem dX9_offer_30 : decode cX9_offer 30 = .ok (.getfield 57, 3) := by decide +kernel
theorem dX9_offer_33 : decode cX9_offer 33 = .ok (.iload 7, 2) := by decide +kernel
theorem dX9_offer_35 : decode cX9_offer 35 = .ok (.laload, 1) := by decide +kernel
theorem dX9_offer_36 : decode cX9_offer 36 = .ok (.lcmp, 1) := by decide +kernel
theorem dX9_offer_37 : decode cX9_offer 37 = .ok (.ifCond .ne 89, 3) := by decide +kernel
theorem dX9_offer_40 : decode cX9_offer 40 = .ok (.iconst 0, 1) := by decide +kernel
theorem dX9_offer_41 : decode cX9_offer 41 = .ok (.istore 9, 2) := by decide +kernel
theorem dX9_offer_43 : decode cX9_offer 43 = .ok (.iload 9, 2) := by decide +kernel
theorem dX9_offer_45 : decode cX9_offer 45 = .ok (.iload 4, 2) := by decide +kernel
theorem dX9_offer_47 : decode cX9_offer 47 = .ok (.if_icmp .ge 37, 3) := by decide +kernel
theorem dX9_offer_50 : decode cX9_offer 50 = .ok (.aload_n 0, 1) := by decide +kernel
theorem dX9_offer_51 : decode cX9_offer 51 = .ok (.getfield 60, 3) := by decide +kernel
theorem dX9_offer_54 : decode cX9_offer 54 = .ok (.bipush 24, 2) := by decide +kernel
theorem dX9_offer_56 : decode cX9_offer 56 = .ok (.iload_n 1, 1) := by decide +kernel
theorem dX9_offer_57 : decode cX9_offer 57 = .ok (.imul, 1) := by decide +kernel
theorem dX9_offer_58 : decode cX9_offer 58 = .ok (.iload 9, 2) := by decide +kernel
theorem dX9_offer_60 : decode cX9_offer 60 = .ok (.iadd, 1) := by decide +kernel
theorem dX9_offer_61 : decode cX9_offer 61 = .ok (.iaload, 1) := by decide +kernel
theorem dX9_offer_62 : decode cX9_offer 62 = .ok (.aload_n 0, 1) := by decide +kernel
theorem dX9_offer_63 : decode cX9_offer 63 = .ok (.getfield 63, 3) := by decide +kernel
theorem dX9_offer_66 : decode cX9_offer 66 = .ok (.bipush 24, 2) := by decide +kernel
theorem dX9_offer_68 : decode cX9_offer 68 = .ok (.iload 7, 2) := by decide +kernel
theorem dX9_offer_70 : decode cX9_offer 70 = .ok (.imul, 1) := by decide +kernel
theorem dX9_offer_71 : decode cX9_offer 71 = .ok (.iload 9, 2) := by decide +kernel
theorem dX9_offer_73 : decode cX9_offer 73 = .ok (.iadd, 1) := by decide +kernel
theorem dX9_offer_74 : decode cX9_offer 74 = .ok (.iaload, 1) := by decide +kernel
theorem dX9_offer_75 : decode cX9_offer 75 = .ok (.if_icmp .ne 9, 3) := by decide +kernel
theorem dX9_offer_78 : decode cX9_offer 78 = .ok (.iinc 9 1, 3) := by decide +kernel
theorem dX9_offer_81 : decode cX9_offer 81 = .ok (.goto (-38), 3) := by decide +kernel
theorem dX9_offer_84 : decode cX9_offer 84 = .ok (.iload 9, 2) := by decide +kernel
theorem dX9_offer_86 : decode cX9_offer 86 = .ok (.iload 4, 2) := by decide +kernel
theorem dX9_offer_88 : decode cX9_offer 88 = .ok (.if_icmp .ge 35, 3) := by decide +kernel
theorem dX9_offer_91 : decode cX9_offer 91 = .ok (.aload_n 0, 1) := by decide +kernel
theorem dX9_offer_92 : decode cX9_offer 92 = .ok (.getfield 60, 3) := by decide +kernel
theorem dX9_offer_95 : decode cX9_offer 95 = .ok (.bipush 24, 2) := by decide +kernel
theorem dX9_offer_97 : decode cX9_offer 97 = .ok (.iload_n 1, 1) := by decide +kernel
theorem dX9_offer_98 : decode cX9_offer 98 = .ok (.imul, 1) := by decide +kernel
theorem dX9_offer_99 : decode cX9_offer 99 = .ok (.iload 9, 2) := by decide +kernel
theorem dX9_offer_101 : decode cX9_offer 101 = .ok (.iadd, 1) := by decide +kernel
theorem dX9_offer_102 : decode cX9_offer 102 = .ok (.iaload, 1) := by decide +kernel
theorem dX9_offer_103 : decode cX9_offer 103 = .ok (.aload_n 0, 1) := by decide +kernel
theorem dX9_offer_104 : decode cX9_offer 104 = .ok (.getfield 63, 3) := by decide +kernel
theorem dX9_offer_107 : decode cX9_offer 107 = .ok (.bipush 24, 2) := by decide +kernel
theorem dX9_offer_109 : decode cX9_offer 109 = .ok (.iload 7, 2) := by decide +kernel
theorem dX9_offer_111 : decode cX9_offer 111 = .ok (.imul, 1) := by decide +kernel
theorem dX9_offer_112 : decode cX9_offer 112 = .ok (.iload 9, 2) := by decide +kernel
theorem dX9_offer_114 : decode cX9_offer 114 = .ok (.iadd, 1) := by decide +kernel
theorem dX9_offer_115 : decode cX9_offer 115 = .ok (.iaload, 1) := by decide +kernel
theorem dX9_offer_116 : decode cX9_offer 116 = .ok (.if_icmp .ge 7, 3) := by decide +kernel
theorem dX9_offer_119 : decode cX9_offer 119 = .ok (.iconst 1, 1) := by decide +kernel
theorem dX9_offer_120 : decode cX9_offer 120 = .ok (.goto 4, 3) := by decide +kernel
theorem dX9_offer_123 : decode cX9_offer 123 = .ok (.iconst 0, 1) := by decide +kernel
theorem dX9_offer_124 : decode cX9_offer 124 = .ok (.istore 8, 2) := by decide +kernel
theorem dX9_offer_126 : decode cX9_offer 126 = .ok (.iload 8, 2) := by decide +kernel
theorem dX9_offer_128 : decode cX9_offer 128 = .ok (.ifCond .ne 4, 3) := by decide +kernel
theorem dX9_offer_131 : decode cX9_offer 131 = .ok (.return_, 1) := by decide +kernel
theorem dX9_offer_132 : decode cX9_offer 132 = .ok (.aload_n 0, 1) := by decide +kernel
theorem dX9_offer_133 : decode cX9_offer 133 = .ok (.getfield 57, 3) := by decide +kernel
theorem dX9_offer_136 : decode cX9_offer 136 = .ok (.iload 7, 2) := by decide +kernel
theorem dX9_offer_138 : decode cX9_offer 138 = .ok (.lload 5, 2) := by decide +kernel
theorem dX9_offer_140 : decode cX9_offer 140 = .ok (.lastore, 1) := by decide +kernel
theorem dX9_offer_141 : decode cX9_offer 141 = .ok (.iconst 0, 1) := by decide +kernel
theorem dX9_offer_142 : decode cX9_offer 142 = .ok (.istore 9, 2) := by decide +kernel
theorem dX9_offer_144 : decode cX9_offer 144 = .ok (.iload 9, 2) := by decide +kernel
theorem dX9_offer_146 : decode cX9_offer 146 = .ok (.iload 4, 2) := by decide +kernel
theorem dX9_offer_148 : decode cX9_offer 148 = .ok (.if_icmp .ge 34, 3) := by decide +kernel
theorem dX9_offer_151 : decode cX9_offer 151 = .ok (.aload_n 0, 1) := by decide +kernel
theorem dX9_offer_152 : decode cX9_offer 152 = .ok (.getfield 63, 3) := by decide +kernel
theorem dX9_offer_155 : decode cX9_offer 155 = .ok (.bipush 24, 2) := by decide +kernel
theorem dX9_offer_157 : decode cX9_offer 157 = .ok (.iload 7, 2) := by decide +kernel
theorem dX9_offer_159 : decode cX9_offer 159 = .ok (.imul, 1) := by decide +kernel
theorem dX9_offer_160 : decode cX9_offer 160 = .ok (.iload 9, 2) := by decide +kernel
theorem dX9_offer_162 : decode cX9_offer 162 = .ok (.iadd, 1) := by decide +kernel
theorem dX9_offer_163 : decode cX9_offer 163 = .ok (.aload_n 0, 1) := by decide +kernel
theorem dX9_offer_164 : decode cX9_offer 164 = .ok (.getfield 60, 3) := by decide +kernel
theorem dX9_offer_167 : decode cX9_offer 167 = .ok (.bipush 24, 2) := by decide +kernel
theorem dX9_offer_169 : decode cX9_offer 169 = .ok (.iload_n 1, 1) := by decide +kernel
theorem dX9_offer_170 : decode cX9_offer 170 = .ok (.imul, 1) := by decide +kernel
theorem dX9_offer_171 : decode cX9_offer 171 = .ok (.iload 9, 2) := by decide +kernel
theorem dX9_offer_173 : decode cX9_offer 173 = .ok (.iadd, 1) := by decide +kernel
theorem dX9_offer_174 : decode cX9_offer 174 = .ok (.iaload, 1) := by decide +kernel
theorem dX9_offer_175 : decode cX9_offer 175 = .ok (.iastore, 1) := by decide +kernel
theorem dX9_offer_176 : decode cX9_offer 176 = .ok (.iinc 9 1, 3) := by decide +kernel
theorem dX9_offer_179 : decode cX9_offer 179 = .ok (.goto (-35), 3) := by decide +kernel
theorem dX9_offer_182 : decode cX9_offer 182 = .ok (.aload_n 0, 1) := by decide +kernel
theorem dX9_offer_183 : decode cX9_offer 183 = .ok (.getfield 63, 3) := by decide +kernel
theorem dX9_offer_186 : decode cX9_offer 186 = .ok (.bipush 24, 2) := by decide +kernel
theorem dX9_offer_188 : decode cX9_offer 188 = .ok (.iload 7, 2) := by decide +kernel
theorem dX9_offer_190 : decode cX9_offer 190 = .ok (.imul, 1) := by decide +kernel
theorem dX9_offer_191 : decode cX9_offer 191 = .ok (.iload 4, 2) := by decide +kernel
theorem dX9_offer_193 : decode cX9_offer 193 = .ok (.iadd, 1) := by decide +kernel
theorem dX9_offer_194 : decode cX9_offer 194 = .ok (.iload_n 2, 1) := by decide +kernel
theorem dX9_offer_195 : decode cX9_offer 195 = .ok (.iastore, 1) := by decide +kernel
theorem dX9_offer_196 : decode cX9_offer 196 = .ok (.return_, 1) := by decide +kernel
theorem dX9_turn_0 : decode cX9_turn 0 = .ok (.iconst 0, 1) := by decide +kernel
theorem dX9_turn_1 : decode cX9_turn 1 = .ok (.istore_n 1, 1) := by decide +kernel
theorem dX9_turn_2 : decode cX9_turn 2 = .ok (.iload_n 1, 1) := by decide +kernel
theorem dX9_turn_3 : decode cX9_turn 3 = .ok (.sipush 250, 3) := by decide +kernel
theorem dX9_turn_6 : decode cX9_turn 6 = .ok (.if_icmp .ge 66, 3) := by decide +kernel
theorem dX9_turn_9 : decode cX9_turn 9 = .ok (.aload_n 0, 1) := by decide +kernel
theorem dX9_turn_10 : decode cX9_turn 10 = .ok (.getfield 54, 3) := by decide +kernel
theorem dX9_turn_13 : decode cX9_turn 13 = .ok (.iload_n 1, 1) := by decide +kernel
theorem dX9_turn_14 : decode cX9_turn 14 = .ok (.aload_n 0, 1) := by decide +kernel
theorem dX9_turn_15 : decode cX9_turn 15 = .ok (.getfield 57, 3) := by decide +kernel
theorem dX9_turn_18 : decode cX9_turn 18 = .ok (.iload_n 1, 1) := by decide +kernel
theorem dX9_turn_19 : decode cX9_turn 19 = .ok (.laload, 1) := by decide +kernel
theorem dX9_turn_20 : decode cX9_turn 20 = .ok (.lastore, 1) := by decide +kernel
theorem dX9_turn_21 : decode cX9_turn 21 = .ok (.aload_n 0, 1) := by decide +kernel
theorem dX9_turn_22 : decode cX9_turn 22 = .ok (.getfield 57, 3) := by decide +kernel
theorem dX9_turn_25 : decode cX9_turn 25 = .ok (.iload_n 1, 1) := by decide +kernel
theorem dX9_turn_26 : decode cX9_turn 26 = .ok (.ldc2_w 258, 3) := by decide +kernel
theorem dX9_turn_29 : decode cX9_turn 29 = .ok (.lastore, 1) := by decide +kernel
theorem dX9_turn_30 : decode cX9_turn 30 = .ok (.iconst 0, 1) := by decide +kernel
theorem dX9_turn_31 : decode cX9_turn 31 = .ok (.istore_n 2, 1) := by decide +kernel
theorem dX9_turn_32 : decode cX9_turn 32 = .ok (.iload_n 2, 1) := by decide +kernel
theorem dX9_turn_33 : decode cX9_turn 33 = .ok (.bipush 24, 2) := by decide +kernel
theorem dX9_turn_35 : decode cX9_turn 35 = .ok (.if_icmp .ge 31, 3) := by decide +kernel
theorem dX9_turn_38 : decode cX9_turn 38 = .ok (.aload_n 0, 1) := by decide +kernel
theorem dX9_turn_39 : decode cX9_turn 39 = .ok (.getfield 60, 3) := by decide +kernel
theorem dX9_turn_42 : decode cX9_turn 42 = .ok (.bipush 24, 2) := by decide +kernel
theorem dX9_turn_44 : decode cX9_turn 44 = .ok (.iload_n 1, 1) := by decide +kernel
theorem dX9_turn_45 : decode cX9_turn 45 = .ok (.imul, 1) := by decide +kernel
theorem dX9_turn_46 : decode cX9_turn 46 = .ok (.iload_n 2, 1) := by decide +kernel
theorem dX9_turn_47 : decode cX9_turn 47 = .ok (.iadd, 1) := by decide +kernel
theorem dX9_turn_48 : decode cX9_turn 48 = .ok (.aload_n 0, 1) := by decide +kernel
theorem dX9_turn_49 : decode cX9_turn 49 = .ok (.getfield 63, 3) := by decide +kernel
theorem dX9_turn_52 : decode cX9_turn 52 = .ok (.bipush 24, 2) := by decide +kernel
theorem dX9_turn_54 : decode cX9_turn 54 = .ok (.iload_n 1, 1) := by decide +kernel
theorem dX9_turn_55 : decode cX9_turn 55 = .ok (.imul, 1) := by decide +kernel
theorem dX9_turn_56 : decode cX9_turn 56 = .ok (.iload_n 2, 1) := by decide +kernel
theorem dX9_turn_57 : decode cX9_turn 57 = .ok (.iadd, 1) := by decide +kernel
theorem dX9_turn_58 : decode cX9_turn 58 = .ok (.iaload, 1) := by decide +kernel
theorem dX9_turn_59 : decode cX9_turn 59 = .ok (.iastore, 1) := by decide +kernel
theorem dX9_turn_60 : decode cX9_turn 60 = .ok (.iinc 2 1, 3) := by decide +kernel
theorem dX9_turn_63 : decode cX9_turn 63 = .ok (.goto (-31), 3) := by decide +kernel
theorem dX9_turn_66 : decode cX9_turn 66 = .ok (.iinc 1 1, 3) := by decide +kernel
theorem dX9_turn_69 : decode cX9_turn 69 = .ok (.goto (-67), 3) := by decide +kernel
theorem dX9_turn_72 : decode cX9_turn 72 = .ok (.return_, 1) := by decide +kernel
theorem dX9_mayBegin_0 : decode cX9_mayBegin 0 = .ok (.iload_n 2, 1) := by decide +kernel
theorem dX9_mayBegin_1 : decode cX9_mayBegin 1 = .ok (.aload_n 0, 1) := by decide +kernel
theorem dX9_mayBegin_2 : decode cX9_mayBegin 2 = .ok (.getfield 23, 3) := by decide +kernel
theorem dX9_mayBegin_5 : decode cX9_mayBegin 5 = .ok (.iload_n 1, 1) := by decide +kernel
theorem dX9_mayBegin_6 : decode cX9_mayBegin 6 = .ok (.iaload, 1) := by decide +kernel
theorem dX9_mayBegin_7 : decode cX9_mayBegin 7 = .ok (.if_icmp .lt 17, 3) := by decide +kernel
theorem dX9_mayBegin_10 : decode cX9_mayBegin 10 = .ok (.iload_n 2, 1) := by decide +kernel
theorem dX9_mayBegin_11 : decode cX9_mayBegin 11 = .ok (.aload_n 0, 1) := by decide +kernel
theorem dX9_mayBegin_12 : decode cX9_mayBegin 12 = .ok (.getfield 26, 3) := by decide +kernel
theorem dX9_mayBegin_15 : decode cX9_mayBegin 15 = .ok (.iload_n 1, 1) := by decide +kernel
theorem dX9_mayBegin_16 : decode cX9_mayBegin 16 = .ok (.iaload, 1) := by decide +kernel
theorem dX9_mayBegin_17 : decode cX9_mayBegin 17 = .ok (.if_icmp .gt 7, 3) := by decide +kernel
theorem dX9_mayBegin_20 : decode cX9_mayBegin 20 = .ok (.iconst 1, 1) := by decide +kernel
theorem dX9_mayBegin_21 : decode cX9_mayBegin 21 = .ok (.goto 4, 3) := by decide +kernel
theorem dX9_mayBegin_24 : decode cX9_mayBegin 24 = .ok (.iconst 0, 1) := by decide +kernel
theorem dX9_mayBegin_25 : decode cX9_mayBegin 25 = .ok (.ireturn, 1) := by decide +kernel
theorem dX9_find_0 : decode cX9_find 0 = .ok (.iconst 0, 1) := by decide +kernel
theorem dX9_find_1 : decode cX9_find 1 = .ok (.istore 4, 2) := by decide +kernel
theorem dX9_find_3 : decode cX9_find 3 = .ok (.iload 4, 2) := by decide +kernel
theorem dX9_find_5 : decode cX9_find 5 = .ok (.sipush 250, 3) := by decide +kernel
theorem dX9_find_8 : decode cX9_find 8 = .ok (.if_icmp .ge 19, 3) := by decide +kernel
theorem dX9_find_11 : decode cX9_find 11 = .ok (.aload_n 0, 1) := by decide +kernel
theorem dX9_find_12 : decode cX9_find 12 = .ok (.getfield 57, 3) := by decide +kernel
theorem dX9_find_15 : decode cX9_find 15 = .ok (.iload 4, 2) := by decide +kernel
theorem dX9_find_17 : decode cX9_find 17 = .ok (.ldc2_w 258, 3) := by decide +kernel
theorem dX9_find_20 : decode cX9_find 20 = .ok (.lastore, 1) := by decide +kernel
theorem dX9_find_21 : decode cX9_find 21 = .ok (.iinc 4 1, 3) := by decide +kernel
theorem dX9_find_24 : decode cX9_find 24 = .ok (.goto (-21), 3) := by decide +kernel
theorem dX9_find_27 : decode cX9_find 27 = .ok (.iconst 0, 1) := by decide +kernel
theorem dX9_find_28 : decode cX9_find 28 = .ok (.istore 4, 2) := by decide +kernel
theorem dX9_find_30 : decode cX9_find 30 = .ok (.iload 4, 2) := by decide +kernel
theorem dX9_find_32 : decode cX9_find 32 = .ok (.aload_n 0, 1) := by decide +kernel
theorem dX9_find_33 : decode cX9_find 33 = .ok (.getfield 205, 3) := by decide +kernel
theorem dX9_find_36 : decode cX9_find 36 = .ok (.if_icmp .ge 47, 3) := by decide +kernel
theorem dX9_find_39 : decode cX9_find 39 = .ok (.aload_n 0, 1) := by decide +kernel
theorem dX9_find_40 : decode cX9_find 40 = .ok (.iload 4, 2) := by decide +kernel
theorem dX9_find_42 : decode cX9_find 42 = .ok (.iload_n 2, 1) := by decide +kernel
theorem dX9_find_43 : decode cX9_find 43 = .ok (.invokevirtual 260, 3) := by decide +kernel
theorem dX9_find_46 : decode cX9_find 46 = .ok (.ifCond .eq 31, 3) := by decide +kernel
theorem dX9_find_49 : decode cX9_find 49 = .ok (.aload_n 0, 1) := by decide +kernel
theorem dX9_find_50 : decode cX9_find 50 = .ok (.iload 4, 2) := by decide +kernel
theorem dX9_find_52 : decode cX9_find 52 = .ok (.iload_n 1, 1) := by decide +kernel
theorem dX9_find_53 : decode cX9_find 53 = .ok (.iload_n 2, 1) := by decide +kernel
theorem dX9_find_54 : decode cX9_find 54 = .ok (.invokevirtual 246, 3) := by decide +kernel
theorem dX9_find_57 : decode cX9_find 57 = .ok (.ifCond .eq 20, 3) := by decide +kernel
theorem dX9_find_60 : decode cX9_find 60 = .ok (.aload_n 0, 1) := by decide +kernel
theorem dX9_find_61 : decode cX9_find 61 = .ok (.iconst 0, 1) := by decide +kernel
theorem dX9_find_62 : decode cX9_find 62 = .ok (.iload 4, 2) := by decide +kernel
theorem dX9_find_64 : decode cX9_find 64 = .ok (.iconst 1, 1) := by decide +kernel
theorem dX9_find_65 : decode cX9_find 65 = .ok (.iconst 0, 1) := by decide +kernel
theorem dX9_find_66 : decode cX9_find 66 = .ok (.aload_n 0, 1) := by decide +kernel
theorem dX9_find_67 : decode cX9_find 67 = .ok (.iload 4, 2) := by decide +kernel
theorem dX9_find_69 : decode cX9_find 69 = .ok (.iload_n 1, 1) := by decide +kernel
theorem dX9_find_70 : decode cX9_find 70 = .ok (.iload_n 2, 1) := by decide +kernel
theorem dX9_find_71 : decode cX9_find 71 = .ok (.invokevirtual 250, 3) := by decide +kernel
theorem dX9_find_74 : decode cX9_find 74 = .ok (.invokevirtual 263, 3) := by decide +kernel
theorem dX9_find_77 : decode cX9_find 77 = .ok (.iinc 4 1, 3) := by decide +kernel
theorem dX9_find_80 : decode cX9_find 80 = .ok (.goto (-50), 3) := by decide +kernel
theorem dX9_find_83 : decode cX9_find 83 = .ok (.aload_n 0, 1) := by decide +kernel
theorem dX9_find_84 : decode cX9_find 84 = .ok (.invokevirtual 267, 3) := by decide +kernel
theorem dX9_find_87 : decode cX9_find 87 = .ok (.iload_n 2, 1) := by decide +kernel
theorem dX9_find_88 : decode cX9_find 88 = .ok (.iconst 1, 1) := by decide +kernel
theorem dX9_find_89 : decode cX9_find 89 = .ok (.iadd, 1) := by decide +kernel
theorem dX9_find_90 : decode cX9_find 90 = .ok (.istore 4, 2) := by decide +kernel
theorem dX9_find_92 : decode cX9_find 92 = .ok (.iload 4, 2) := by decide +kernel
theorem dX9_find_94 : decode cX9_find 94 = .ok (.iload_n 3, 1) := by decide +kernel
theorem dX9_find_95 : decode cX9_find 95 = .ok (.if_icmp .ge 227, 3) := by decide +kernel
theorem dX9_find_98 : decode cX9_find 98 = .ok (.iconst 0, 1) := by decide +kernel
theorem dX9_find_99 : decode cX9_find 99 = .ok (.istore 5, 2) := by decide +kernel
theorem dX9_find_101 : decode cX9_find 101 = .ok (.iload 5, 2) := by decide +kernel
theorem dX9_find_103 : decode cX9_find 103 = .ok (.aload_n 0, 1) := by decide +kernel
theorem dX9_find_104 : decode cX9_find 104 = .ok (.getfield 205, 3) := by decide +kernel
theorem dX9_find_107 : decode cX9_find 107 = .ok (.if_icmp .ge 205, 3) := by decide +kernel
theorem dX9_find_110 : decode cX9_find 110 = .ok (.aload_n 0, 1) := by decide +kernel
theorem dX9_find_111 : decode cX9_find 111 = .ok (.iload 5, 2) := by decide +kernel
theorem dX9_find_113 : decode cX9_find 113 = .ok (.iload_n 1, 1) := by decide +kernel
theorem dX9_find_114 : decode cX9_find 114 = .ok (.iload 4, 2) := by decide +kernel
theorem dX9_find_116 : decode cX9_find 116 = .ok (.invokevirtual 246, 3) := by decide +kernel
theorem dX9_find_119 : decode cX9_find 119 = .ok (.ifCond .ne 6, 3) := by decide +kernel
theorem dX9_find_122 : decode cX9_find 122 = .ok (.goto 184, 3) := by decide +kernel
theorem dX9_find_125 : decode cX9_find 125 = .ok (.aload_n 0, 1) := by decide +kernel
theorem dX9_find_126 : decode cX9_find 126 = .ok (.iload 5, 2) := by decide +kernel
theorem dX9_find_128 : decode cX9_find 128 = .ok (.iload_n 1, 1) := by decide +kernel
theorem dX9_find_129 : decode cX9_find 129 = .ok (.iload 4, 2) := by decide +kernel
theorem dX9_find_131 : decode cX9_find 131 = .ok (.invokevirtual 250, 3) := by decide +kernel
theorem dX9_find_134 : decode cX9_find 134 = .ok (.lstore 6, 2) := by decide +kernel
theorem dX9_find_136 : decode cX9_find 136 = .ok (.iconst 0, 1) := by decide +kernel
theorem dX9_find_137 : decode cX9_find 137 = .ok (.istore 8, 2) := by decide +kernel
theorem dX9_find_139 : decode cX9_find 139 = .ok (.iload 8, 2) := by decide +kernel
theorem dX9_find_141 : decode cX9_find 141 = .ok (.aload_n 0, 1) := by decide +kernel
theorem dX9_find_142 : decode cX9_find 142 = .ok (.getfield 205, 3) := by decide +kernel
theorem dX9_find_145 : decode cX9_find 145 = .ok (.if_icmp .ge 161, 3) := by decide +kernel
theorem dX9_find_148 : decode cX9_find 148 = .ok (.iconst 1, 1) := by decide +kernel
theorem dX9_find_149 : decode cX9_find 149 = .ok (.istore 9, 2) := by decide +kernel
theorem dX9_find_151 : decode cX9_find 151 = .ok (.iload 9, 2) := by decide +kernel
theorem dX9_find_153 : decode cX9_find 153 = .ok (.aload_n 0, 1) := by decide +kernel
theorem dX9_find_154 : decode cX9_find 154 = .ok (.getfield 20, 3) := by decide +kernel
theorem dX9_find_157 : decode cX9_find 157 = .ok (.iload 8, 2) := by decide +kernel
theorem dX9_find_159 : decode cX9_find 159 = .ok (.iaload, 1) := by decide +kernel
theorem dX9_find_160 : decode cX9_find 160 = .ok (.if_icmp .gt 140, 3) := by decide +kernel
theorem dX9_find_163 : decode cX9_find 163 = .ok (.iload 8, 2) := by decide +kernel
theorem dX9_find_165 : decode cX9_find 165 = .ok (.iload 9, 2) := by decide +kernel
theorem dX9_find_167 : decode cX9_find 167 = .ok (.invokestatic 254, 3) := by decide +kernel
theorem dX9_find_170 : decode cX9_find 170 = .ok (.istore 10, 2) := by decide +kernel
theorem dX9_find_172 : decode cX9_find 172 = .ok (.aload_n 0, 1) := by decide +kernel
theorem dX9_find_173 : decode cX9_find 173 = .ok (.getfield 54, 3) := by decide +kernel
theorem dX9_find_176 : decode cX9_find 176 = .ok (.iload 10, 2) := by decide +kernel
theorem dX9_find_178 : decode cX9_find 178 = .ok (.laload, 1) := by decide +kernel
theorem dX9_find_179 : decode cX9_find 179 = .ok (.ldc2_w 258, 3) := by decide +kernel
theorem dX9_find_182 : decode cX9_find 182 = .ok (.lcmp, 1) := by decide +kernel
theorem dX9_find_183 : decode cX9_find 183 = .ok (.ifCond .ne 6, 3) := by decide +kernel
theorem dX9_find_186 : decode cX9_find 186 = .ok (.goto 108, 3) := by decide +kernel
theorem dX9_find_189 : decode cX9_find 189 = .ok (.iload 8, 2) := by decide +kernel
theorem dX9_find_191 : decode cX9_find 191 = .ok (.iload 5, 2) := by decide +kernel
theorem dX9_find_193 : decode cX9_find 193 = .ok (.if_icmp .ne 49, 3) := by decide +kernel
theorem dX9_find_196 : decode cX9_find 196 = .ok (.aload_n 0, 1) := by decide +kernel
theorem dX9_find_197 : decode cX9_find 197 = .ok (.iload 10, 2) := by decide +kernel
theorem dX9_find_199 : decode cX9_find 199 = .ok (.iload 5, 2) := by decide +kernel
theorem dX9_find_201 : decode cX9_find 201 = .ok (.iload 9, 2) := by decide +kernel
theorem dX9_find_203 : decode cX9_find 203 = .ok (.aload_n 0, 1) := by decide +kernel
theorem dX9_find_204 : decode cX9_find 204 = .ok (.getfield 20, 3) := by decide +kernel
theorem dX9_find_207 : decode cX9_find 207 = .ok (.iload 5, 2) := by decide +kernel
theorem dX9_find_209 : decode cX9_find 209 = .ok (.iaload, 1) := by decide +kernel
theorem dX9_find_210 : decode cX9_find 210 = .ok (.if_icmp .ge 10, 3) := by decide +kernel
theorem dX9_find_213 : decode cX9_find 213 = .ok (.iload 9, 2) := by decide +kernel
theorem dX9_find_215 : decode cX9_find 215 = .ok (.iconst 1, 1) := by decide +kernel
theorem dX9_find_216 : decode cX9_find 216 = .ok (.iadd, 1) := by decide +kernel
theorem dX9_find_217 : decode cX9_find 217 = .ok (.goto 5, 3) := by decide +kernel
theorem dX9_find_220 : decode cX9_find 220 = .ok (.iload 9, 2) := by decide +kernel
theorem dX9_find_222 : decode cX9_find 222 = .ok (.iload 4, 2) := by decide +kernel
theorem dX9_find_224 : decode cX9_find 224 = .ok (.iload_n 2, 1) := by decide +kernel
theorem dX9_find_225 : decode cX9_find 225 = .ok (.isub, 1) := by decide +kernel
theorem dX9_find_226 : decode cX9_find 226 = .ok (.aload_n 0, 1) := by decide +kernel
theorem dX9_find_227 : decode cX9_find 227 = .ok (.getfield 54, 3) := by decide +kernel
theorem dX9_find_230 : decode cX9_find 230 = .ok (.iload 10, 2) := by decide +kernel
theorem dX9_find_232 : decode cX9_find 232 = .ok (.laload, 1) := by decide +kernel
theorem dX9_find_233 : decode cX9_find 233 = .ok (.lload 6, 2) := by decide +kernel
theorem dX9_find_235 : decode cX9_find 235 = .ok (.ladd, 1) := by decide +kernel
theorem dX9_find_236 : decode cX9_find 236 = .ok (.invokevirtual 263, 3) := by decide +kernel
theorem dX9_find_239 : decode cX9_find 239 = .ok (.goto 55, 3) := by decide +kernel
theorem dX9_find_242 : decode cX9_find 242 = .ok (.iload 9, 2) := by decide +kernel
theorem dX9_find_244 : decode cX9_find 244 = .ok (.aload_n 0, 1) := by decide +kernel
theorem dX9_find_245 : decode cX9_find 245 = .ok (.getfield 20, 3) := by decide +kernel
theorem dX9_find_248 : decode cX9_find 248 = .ok (.iload 8, 2) := by decide +kernel
theorem dX9_find_250 : decode cX9_find 250 = .ok (.iaload, 1) := by decide +kernel
theorem dX9_find_251 : decode cX9_find 251 = .ok (.if_icmp .ne 43, 3) := by decide +kernel
theorem dX9_find_254 : decode cX9_find 254 = .ok (.aload_n 0, 1) := by decide +kernel
theorem dX9_find_255 : decode cX9_find 255 = .ok (.iload 5, 2) := by decide +kernel
theorem dX9_find_257 : decode cX9_find 257 = .ok (.iload 4, 2) := by decide +kernel
theorem dX9_find_259 : decode cX9_find 259 = .ok (.invokevirtual 260, 3) := by decide +kernel
theorem dX9_find_262 : decode cX9_find 262 = .ok (.ifCond .eq 32, 3) := by decide +kernel
theorem dX9_find_265 : decode cX9_find 265 = .ok (.aload_n 0, 1) := by decide +kernel
theorem dX9_find_266 : decode cX9_find 266 = .ok (.iload 10, 2) := by decide +kernel
theorem dX9_find_268 : decode cX9_find 268 = .ok (.iload 5, 2) := by decide +kernel
theorem dX9_find_270 : decode cX9_find 270 = .ok (.iconst 1, 1) := by decide +kernel
theorem dX9_find_271 : decode cX9_find 271 = .ok (.iload 4, 2) := by decide +kernel
theorem dX9_find_273 : decode cX9_find 273 = .ok (.iload_n 2, 1) := by decide +kernel
theorem dX9_find_274 : decode cX9_find 274 = .ok (.isub, 1) := by decide +kernel
theorem dX9_find_275 : decode cX9_find 275 = .ok (.aload_n 0, 1) := by decide +kernel
theorem dX9_find_276 : decode cX9_find 276 = .ok (.getfield 54, 3) := by decide +kernel
theorem dX9_find_279 : decode cX9_find 279 = .ok (.iload 10, 2) := by decide +kernel
theorem dX9_find_281 : decode cX9_find 281 = .ok (.laload, 1) := by decide +kernel
theorem dX9_find_282 : decode cX9_find 282 = .ok (.lload 6, 2) := by decide +kernel
theorem dX9_find_284 : decode cX9_find 284 = .ok (.ladd, 1) := by decide +kernel
theorem dX9_find_285 : decode cX9_find 285 = .ok (.aload_n 0, 1) := by decide +kernel
theorem dX9_find_286 : decode cX9_find 286 = .ok (.getfield 232, 3) := by decide +kernel
theorem dX9_find_289 : decode cX9_find 289 = .ok (.i2l, 1) := by decide +kernel
theorem dX9_find_290 : decode cX9_find 290 = .ok (.ladd, 1) := by decide +kernel
theorem dX9_find_291 : decode cX9_find 291 = .ok (.invokevirtual 263, 3) := by decide +kernel
theorem dX9_find_294 : decode cX9_find 294 = .ok (.iinc 9 1, 3) := by decide +kernel
theorem dX9_find_297 : decode cX9_find 297 = .ok (.goto (-146), 3) := by decide +kernel
theorem dX9_find_300 : decode cX9_find 300 = .ok (.iinc 8 1, 3) := by decide +kernel
theorem dX9_find_303 : decode cX9_find 303 = .ok (.goto (-164), 3) := by decide +kernel
theorem dX9_find_306 : decode cX9_find 306 = .ok (.iinc 5 1, 3) := by decide +kernel
theorem dX9_find_309 : decode cX9_find 309 = .ok (.goto (-208), 3) := by decide +kernel
theorem dX9_find_312 : decode cX9_find 312 = .ok (.aload_n 0, 1) := by decide +kernel
theorem dX9_find_313 : decode cX9_find 313 = .ok (.invokevirtual 267, 3) := by decide +kernel
theorem dX9_find_316 : decode cX9_find 316 = .ok (.iinc 4 1, 3) := by decide +kernel
theorem dX9_find_319 : decode cX9_find 319 = .ok (.goto (-227), 3) := by decide +kernel
theorem dX9_find_322 : decode cX9_find 322 = .ok (.iconst (-1), 1) := by decide +kernel
theorem dX9_find_323 : decode cX9_find 323 = .ok (.istore 4, 2) := by decide +kernel
theorem dX9_find_325 : decode cX9_find 325 = .ok (.iconst 0, 1) := by decide +kernel
theorem dX9_find_326 : decode cX9_find 326 = .ok (.istore 5, 2) := by decide +kernel
theorem dX9_find_328 : decode cX9_find 328 = .ok (.iload 5, 2) := by decide +kernel
