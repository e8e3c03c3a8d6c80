theorem dX9_digestBridge_96 : decode cX9_digestBridge 96 = .ok (.if_icmp .ge 62, 3) := by decide +kernel
theorem dX9_digestBridge_99 : decode cX9_digestBridge 99 = .ok (.ldc2_w 289, 3) := by decide +kernel
theorem dX9_digestBridge_102 : decode cX9_digestBridge 102 = .ok (.lload 4, 2) := by decide +kernel
theorem dX9_digestBridge_104 : decode cX9_digestBridge 104 = .ok (.lmul, 1) := by decide +kernel
theorem dX9_digestBridge_105 : decode cX9_digestBridge 105 = .ok (.aload_n 0, 1) := by decide +kernel
theorem dX9_digestBridge_106 : decode cX9_digestBridge 106 = .ok (.iload_n 3, 1) := by decide +kernel
theorem dX9_digestBridge_107 : decode cX9_digestBridge 107 = .ok (.iload 6, 2) := by decide +kernel
theorem dX9_digestBridge_109 : decode cX9_digestBridge 109 = .ok (.invokevirtual 313, 3) := by decide +kernel
theorem dX9_digestBridge_112 : decode cX9_digestBridge 112 = .ok (.i2l, 1) := by decide +kernel
theorem dX9_digestBridge_113 : decode cX9_digestBridge 113 = .ok (.ladd, 1) := by decide +kernel
theorem dX9_digestBridge_114 : decode cX9_digestBridge 114 = .ok (.lstore 4, 2) := by decide +kernel
theorem dX9_digestBridge_116 : decode cX9_digestBridge 116 = .ok (.ldc2_w 289, 3) := by decide +kernel
theorem dX9_digestBridge_119 : decode cX9_digestBridge 119 = .ok (.lload 4, 2) := by decide +kernel
theorem dX9_digestBridge_121 : decode cX9_digestBridge 121 = .ok (.lmul, 1) := by decide +kernel
theorem dX9_digestBridge_122 : decode cX9_digestBridge 122 = .ok (.aload_n 0, 1) := by decide +kernel
theorem dX9_digestBridge_123 : decode cX9_digestBridge 123 = .ok (.iload_n 3, 1) := by decide +kernel
theorem dX9_digestBridge_124 : decode cX9_digestBridge 124 = .ok (.iload 6, 2) := by decide +kernel
theorem dX9_digestBridge_126 : decode cX9_digestBridge 126 = .ok (.iconst 0, 1) := by decide +kernel
theorem dX9_digestBridge_127 : decode cX9_digestBridge 127 = .ok (.invokevirtual 316, 3) := by decide +kernel
theorem dX9_digestBridge_130 : decode cX9_digestBridge 130 = .ok (.i2l, 1) := by decide +kernel
theorem dX9_digestBridge_131 : decode cX9_digestBridge 131 = .ok (.ladd, 1) := by decide +kernel
theorem dX9_digestBridge_132 : decode cX9_digestBridge 132 = .ok (.lstore 4, 2) := by decide +kernel
theorem dX9_digestBridge_134 : decode cX9_digestBridge 134 = .ok (.ldc2_w 289, 3) := by decide +kernel
theorem dX9_digestBridge_137 : decode cX9_digestBridge 137 = .ok (.lload 4, 2) := by decide +kernel
theorem dX9_digestBridge_139 : decode cX9_digestBridge 139 = .ok (.lmul, 1) := by decide +kernel
theorem dX9_digestBridge_140 : decode cX9_digestBridge 140 = .ok (.aload_n 0, 1) := by decide +kernel
theorem dX9_digestBridge_141 : decode cX9_digestBridge 141 = .ok (.iload_n 3, 1) := by decide +kernel
theorem dX9_digestBridge_142 : decode cX9_digestBridge 142 = .ok (.iload 6, 2) := by decide +kernel
theorem dX9_digestBridge_144 : decode cX9_digestBridge 144 = .ok (.iconst 1, 1) := by decide +kernel
theorem dX9_digestBridge_145 : decode cX9_digestBridge 145 = .ok (.invokevirtual 316, 3) := by decide +kernel
theorem dX9_digestBridge_148 : decode cX9_digestBridge 148 = .ok (.i2l, 1) := by decide +kernel
theorem dX9_digestBridge_149 : decode cX9_digestBridge 149 = .ok (.ladd, 1) := by decide +kernel
theorem dX9_digestBridge_150 : decode cX9_digestBridge 150 = .ok (.lstore 4, 2) := by decide +kernel
theorem dX9_digestBridge_152 : decode cX9_digestBridge 152 = .ok (.iinc 6 1, 3) := by decide +kernel
theorem dX9_digestBridge_155 : decode cX9_digestBridge 155 = .ok (.goto (-68), 3) := by decide +kernel
theorem dX9_digestBridge_158 : decode cX9_digestBridge 158 = .ok (.lload 4, 2) := by decide +kernel
theorem dX9_digestBridge_160 : decode cX9_digestBridge 160 = .ok (.lreturn, 1) := by decide +kernel
theorem dX9_digestBoat_0 : decode cX9_digestBoat 0 = .ok (.lload_n 1, 1) := by decide +kernel
theorem dX9_digestBoat_1 : decode cX9_digestBoat 1 = .ok (.lstore 4, 2) := by decide +kernel
theorem dX9_digestBoat_3 : decode cX9_digestBoat 3 = .ok (.iconst 0, 1) := by decide +kernel
theorem dX9_digestBoat_4 : decode cX9_digestBoat 4 = .ok (.istore 6, 2) := by decide +kernel
theorem dX9_digestBoat_6 : decode cX9_digestBoat 6 = .ok (.iload 6, 2) := by decide +kernel
theorem dX9_digestBoat_8 : decode cX9_digestBoat 8 = .ok (.bipush 6, 2) := by decide +kernel
theorem dX9_digestBoat_10 : decode cX9_digestBoat 10 = .ok (.if_icmp .gt 26, 3) := by decide +kernel
theorem dX9_digestBoat_13 : decode cX9_digestBoat 13 = .ok (.ldc2_w 289, 3) := by decide +kernel
theorem dX9_digestBoat_16 : decode cX9_digestBoat 16 = .ok (.lload 4, 2) := by decide +kernel
theorem dX9_digestBoat_18 : decode cX9_digestBoat 18 = .ok (.lmul, 1) := by decide +kernel
theorem dX9_digestBoat_19 : decode cX9_digestBoat 19 = .ok (.aload_n 0, 1) := by decide +kernel
theorem dX9_digestBoat_20 : decode cX9_digestBoat 20 = .ok (.iload_n 3, 1) := by decide +kernel
theorem dX9_digestBoat_21 : decode cX9_digestBoat 21 = .ok (.iload 6, 2) := by decide +kernel
theorem dX9_digestBoat_23 : decode cX9_digestBoat 23 = .ok (.invokevirtual 320, 3) := by decide +kernel
theorem dX9_digestBoat_26 : decode cX9_digestBoat 26 = .ok (.i2l, 1) := by decide +kernel
theorem dX9_digestBoat_27 : decode cX9_digestBoat 27 = .ok (.ladd, 1) := by decide +kernel
theorem dX9_digestBoat_28 : decode cX9_digestBoat 28 = .ok (.lstore 4, 2) := by decide +kernel
theorem dX9_digestBoat_30 : decode cX9_digestBoat 30 = .ok (.iinc 6 1, 3) := by decide +kernel
theorem dX9_digestBoat_33 : decode cX9_digestBoat 33 = .ok (.goto (-27), 3) := by decide +kernel
theorem dX9_digestBoat_36 : decode cX9_digestBoat 36 = .ok (.ldc2_w 289, 3) := by decide +kernel
theorem dX9_digestBoat_39 : decode cX9_digestBoat 39 = .ok (.lload 4, 2) := by decide +kernel
theorem dX9_digestBoat_41 : decode cX9_digestBoat 41 = .ok (.lmul, 1) := by decide +kernel
theorem dX9_digestBoat_42 : decode cX9_digestBoat 42 = .ok (.aload_n 0, 1) := by decide +kernel
theorem dX9_digestBoat_43 : decode cX9_digestBoat 43 = .ok (.iconst 5, 1) := by decide +kernel
theorem dX9_digestBoat_44 : decode cX9_digestBoat 44 = .ok (.iload_n 3, 1) := by decide +kernel
theorem dX9_digestBoat_45 : decode cX9_digestBoat 45 = .ok (.invokevirtual 323, 3) := by decide +kernel
theorem dX9_digestBoat_48 : decode cX9_digestBoat 48 = .ok (.i2l, 1) := by decide +kernel
theorem dX9_digestBoat_49 : decode cX9_digestBoat 49 = .ok (.ladd, 1) := by decide +kernel
theorem dX9_digestBoat_50 : decode cX9_digestBoat 50 = .ok (.lstore 4, 2) := by decide +kernel
theorem dX9_digestBoat_52 : decode cX9_digestBoat 52 = .ok (.ldc2_w 289, 3) := by decide +kernel
theorem dX9_digestBoat_55 : decode cX9_digestBoat 55 = .ok (.lload 4, 2) := by decide +kernel
theorem dX9_digestBoat_57 : decode cX9_digestBoat 57 = .ok (.lmul, 1) := by decide +kernel
theorem dX9_digestBoat_58 : decode cX9_digestBoat 58 = .ok (.aload_n 0, 1) := by decide +kernel
theorem dX9_digestBoat_59 : decode cX9_digestBoat 59 = .ok (.bipush 30, 2) := by decide +kernel
theorem dX9_digestBoat_61 : decode cX9_digestBoat 61 = .ok (.iload_n 3, 1) := by decide +kernel
theorem dX9_digestBoat_62 : decode cX9_digestBoat 62 = .ok (.invokevirtual 323, 3) := by decide +kernel
theorem dX9_digestBoat_65 : decode cX9_digestBoat 65 = .ok (.i2l, 1) := by decide +kernel
theorem dX9_digestBoat_66 : decode cX9_digestBoat 66 = .ok (.ladd, 1) := by decide +kernel
theorem dX9_digestBoat_67 : decode cX9_digestBoat 67 = .ok (.lstore 4, 2) := by decide +kernel
theorem dX9_digestBoat_69 : decode cX9_digestBoat 69 = .ok (.ldc2_w 289, 3) := by decide +kernel
theorem dX9_digestBoat_72 : decode cX9_digestBoat 72 = .ok (.lload 4, 2) := by decide +kernel
theorem dX9_digestBoat_74 : decode cX9_digestBoat 74 = .ok (.lmul, 1) := by decide +kernel
theorem dX9_digestBoat_75 : decode cX9_digestBoat 75 = .ok (.aload_n 0, 1) := by decide +kernel
theorem dX9_digestBoat_76 : decode cX9_digestBoat 76 = .ok (.iload_n 3, 1) := by decide +kernel
theorem dX9_digestBoat_77 : decode cX9_digestBoat 77 = .ok (.invokevirtual 326, 3) := by decide +kernel
theorem dX9_digestBoat_80 : decode cX9_digestBoat 80 = .ok (.i2l, 1) := by decide +kernel
theorem dX9_digestBoat_81 : decode cX9_digestBoat 81 = .ok (.ladd, 1) := by decide +kernel
theorem dX9_digestBoat_82 : decode cX9_digestBoat 82 = .ok (.lstore 4, 2) := by decide +kernel
theorem dX9_digestBoat_84 : decode cX9_digestBoat 84 = .ok (.aload_n 0, 1) := by decide +kernel
theorem dX9_digestBoat_85 : decode cX9_digestBoat 85 = .ok (.iload_n 3, 1) := by decide +kernel
theorem dX9_digestBoat_86 : decode cX9_digestBoat 86 = .ok (.invokevirtual 172, 3) := by decide +kernel
theorem dX9_digestBoat_89 : decode cX9_digestBoat 89 = .ok (.ldc2_w 289, 3) := by decide +kernel
theorem dX9_digestBoat_92 : decode cX9_digestBoat 92 = .ok (.lload 4, 2) := by decide +kernel
theorem dX9_digestBoat_94 : decode cX9_digestBoat 94 = .ok (.lmul, 1) := by decide +kernel
theorem dX9_digestBoat_95 : decode cX9_digestBoat 95 = .ok (.aload_n 0, 1) := by decide +kernel
theorem dX9_digestBoat_96 : decode cX9_digestBoat 96 = .ok (.getfield 69, 3) := by decide +kernel
theorem dX9_digestBoat_99 : decode cX9_digestBoat 99 = .ok (.iconst (-1), 1) := by decide +kernel
theorem dX9_digestBoat_100 : decode cX9_digestBoat 100 = .ok (.invokevirtual 175, 3) := by decide +kernel
theorem dX9_digestBoat_103 : decode cX9_digestBoat 103 = .ok (.i2l, 1) := by decide +kernel
theorem dX9_digestBoat_104 : decode cX9_digestBoat 104 = .ok (.ladd, 1) := by decide +kernel
theorem dX9_digestBoat_105 : decode cX9_digestBoat 105 = .ok (.lstore 4, 2) := by decide +kernel
theorem dX9_digestBoat_107 : decode cX9_digestBoat 107 = .ok (.ldc2_w 289, 3) := by decide +kernel
theorem dX9_digestBoat_110 : decode cX9_digestBoat 110 = .ok (.lload 4, 2) := by decide +kernel
theorem dX9_digestBoat_112 : decode cX9_digestBoat 112 = .ok (.lmul, 1) := by decide +kernel
theorem dX9_digestBoat_113 : decode cX9_digestBoat 113 = .ok (.aload_n 0, 1) := by decide +kernel
theorem dX9_digestBoat_114 : decode cX9_digestBoat 114 = .ok (.getfield 69, 3) := by decide +kernel
theorem dX9_digestBoat_117 : decode cX9_digestBoat 117 = .ok (.iconst 0, 1) := by decide +kernel
theorem dX9_digestBoat_118 : decode cX9_digestBoat 118 = .ok (.invokevirtual 175, 3) := by decide +kernel
theorem dX9_digestBoat_121 : decode cX9_digestBoat 121 = .ok (.i2l, 1) := by decide +kernel
theorem dX9_digestBoat_122 : decode cX9_digestBoat 122 = .ok (.ladd, 1) := by decide +kernel
theorem dX9_digestBoat_123 : decode cX9_digestBoat 123 = .ok (.lstore 4, 2) := by decide +kernel
theorem dX9_digestBoat_125 : decode cX9_digestBoat 125 = .ok (.aload_n 0, 1) := by decide +kernel
theorem dX9_digestBoat_126 : decode cX9_digestBoat 126 = .ok (.iload_n 3, 1) := by decide +kernel
theorem dX9_digestBoat_127 : decode cX9_digestBoat 127 = .ok (.invokevirtual 178, 3) := by decide +kernel
theorem dX9_digestBoat_130 : decode cX9_digestBoat 130 = .ok (.ldc2_w 289, 3) := by decide +kernel
theorem dX9_digestBoat_133 : decode cX9_digestBoat 133 = .ok (.lload 4, 2) := by decide +kernel
theorem dX9_digestBoat_135 : decode cX9_digestBoat 135 = .ok (.lmul, 1) := by decide +kernel
theorem dX9_digestBoat_136 : decode cX9_digestBoat 136 = .ok (.aload_n 0, 1) := by decide +kernel
theorem dX9_digestBoat_137 : decode cX9_digestBoat 137 = .ok (.getfield 69, 3) := by decide +kernel
theorem dX9_digestBoat_140 : decode cX9_digestBoat 140 = .ok (.getfield 181, 3) := by decide +kernel
theorem dX9_digestBoat_143 : decode cX9_digestBoat 143 = .ok (.i2l, 1) := by decide +kernel
theorem dX9_digestBoat_144 : decode cX9_digestBoat 144 = .ok (.ladd, 1) := by decide +kernel
theorem dX9_digestBoat_145 : decode cX9_digestBoat 145 = .ok (.lstore 4, 2) := by decide +kernel
theorem dX9_digestBoat_147 : decode cX9_digestBoat 147 = .ok (.ldc2_w 289, 3) := by decide +kernel
theorem dX9_digestBoat_150 : decode cX9_digestBoat 150 = .ok (.lload 4, 2) := by decide +kernel
theorem dX9_digestBoat_152 : decode cX9_digestBoat 152 = .ok (.lmul, 1) := by decide +kernel
theorem dX9_digestBoat_153 : decode cX9_digestBoat 153 = .ok (.aload_n 0, 1) := by decide +kernel
theorem dX9_digestBoat_154 : decode cX9_digestBoat 154 = .ok (.getfield 69, 3) := by decide +kernel
theorem dX9_digestBoat_157 : decode cX9_digestBoat 157 = .ok (.getfield 184, 3) := by decide +kernel
theorem dX9_digestBoat_160 : decode cX9_digestBoat 160 = .ok (.i2l, 1) := by decide +kernel
theorem dX9_digestBoat_161 : decode cX9_digestBoat 161 = .ok (.ladd, 1) := by decide +kernel
theorem dX9_digestBoat_162 : decode cX9_digestBoat 162 = .ok (.lstore 4, 2) := by decide +kernel
theorem dX9_digestBoat_164 : decode cX9_digestBoat 164 = .ok (.ldc2_w 289, 3) := by decide +kernel
theorem dX9_digestBoat_167 : decode cX9_digestBoat 167 = .ok (.lload 4, 2) := by decide +kernel
theorem dX9_digestBoat_169 : decode cX9_digestBoat 169 = .ok (.lmul, 1) := by decide +kernel
theorem dX9_digestBoat_170 : decode cX9_digestBoat 170 = .ok (.aload_n 0, 1) := by decide +kernel
theorem dX9_digestBoat_171 : decode cX9_digestBoat 171 = .ok (.iload_n 3, 1) := by decide +kernel
theorem dX9_digestBoat_172 : decode cX9_digestBoat 172 = .ok (.invokevirtual 329, 3) := by decide +kernel
theorem dX9_digestBoat_175 : decode cX9_digestBoat 175 = .ok (.i2l, 1) := by decide +kernel
theorem dX9_digestBoat_176 : decode cX9_digestBoat 176 = .ok (.ladd, 1) := by decide +kernel
theorem dX9_digestBoat_177 : decode cX9_digestBoat 177 = .ok (.lstore 4, 2) := by decide +kernel
theorem dX9_digestBoat_179 : decode cX9_digestBoat 179 = .ok (.ldc2_w 289, 3) := by decide +kernel
theorem dX9_digestBoat_182 : decode cX9_digestBoat 182 = .ok (.lload 4, 2) := by decide +kernel
theorem dX9_digestBoat_184 : decode cX9_digestBoat 184 = .ok (.lmul, 1) := by decide +kernel
theorem dX9_digestBoat_185 : decode cX9_digestBoat 185 = .ok (.aload_n 0, 1) := by decide +kernel
theorem dX9_digestBoat_186 : decode cX9_digestBoat 186 = .ok (.iconst 5, 1) := by decide +kernel
theorem dX9_digestBoat_187 : decode cX9_digestBoat 187 = .ok (.iload_n 3, 1) := by decide +kernel
theorem dX9_digestBoat_188 : decode cX9_digestBoat 188 = .ok (.bipush 20, 2) := by decide +kernel
theorem dX9_digestBoat_190 : decode cX9_digestBoat 190 = .ok (.iconst 0, 1) := by decide +kernel
theorem dX9_digestBoat_191 : decode cX9_digestBoat 191 = .ok (.invokevirtual 332, 3) := by decide +kernel
theorem dX9_digestBoat_194 : decode cX9_digestBoat 194 = .ok (.ladd, 1) := by decide +kernel
theorem dX9_digestBoat_195 : decode cX9_digestBoat 195 = .ok (.lstore 4, 2) := by decide +kernel
theorem dX9_digestBoat_197 : decode cX9_digestBoat 197 = .ok (.ldc2_w 289, 3) := by decide +kernel
theorem dX9_digestBoat_200 : decode cX9_digestBoat 200 = .ok (.lload 4, 2) := by decide +kernel
theorem dX9_digestBoat_202 : decode cX9_digestBoat 202 = .ok (.lmul, 1) := by decide +kernel
theorem dX9_digestBoat_203 : decode cX9_digestBoat 203 = .ok (.aload_n 0, 1) := by decide +kernel
theorem dX9_digestBoat_204 : decode cX9_digestBoat 204 = .ok (.iconst 5, 1) := by decide +kernel
theorem dX9_digestBoat_205 : decode cX9_digestBoat 205 = .ok (.iload_n 3, 1) := by decide +kernel
theorem dX9_digestBoat_206 : decode cX9_digestBoat 206 = .ok (.bipush 20, 2) := by decide +kernel
theorem dX9_digestBoat_208 : decode cX9_digestBoat 208 = .ok (.iconst 1, 1) := by decide +kernel
theorem dX9_digestBoat_209 : decode cX9_digestBoat 209 = .ok (.invokevirtual 332, 3) := by decide +kernel
theorem dX9_digestBoat_212 : decode cX9_digestBoat 212 = .ok (.ladd, 1) := by decide +kernel
theorem dX9_digestBoat_213 : decode cX9_digestBoat 213 = .ok (.lstore 4, 2) := by decide +kernel
theorem dX9_digestBoat_215 : decode cX9_digestBoat 215 = .ok (.ldc2_w 289, 3) := by decide +kernel
theorem dX9_digestBoat_218 : decode cX9_digestBoat 218 = .ok (.lload 4, 2) := by decide +kernel
theorem dX9_digestBoat_220 : decode cX9_digestBoat 220 = .ok (.lmul, 1) := by decide +kernel
theorem dX9_digestBoat_221 : decode cX9_digestBoat 221 = .ok (.aload_n 0, 1) := by decide +kernel
theorem dX9_digestBoat_222 : decode cX9_digestBoat 222 = .ok (.bipush 7, 2) := by decide +kernel
theorem dX9_digestBoat_224 : decode cX9_digestBoat 224 = .ok (.iconst 4, 1) := by decide +kernel
theorem dX9_digestBoat_225 : decode cX9_digestBoat 225 = .ok (.iload_n 3, 1) := by decide +kernel
theorem dX9_digestBoat_226 : decode cX9_digestBoat 226 = .ok (.iconst 0, 1) := by decide +kernel
theorem dX9_digestBoat_227 : decode cX9_digestBoat 227 = .ok (.invokevirtual 336, 3) := by decide +kernel
theorem dX9_digestBoat_230 : decode cX9_digestBoat 230 = .ok (.i2l, 1) := by decide +kernel
theorem dX9_digestBoat_231 : decode cX9_digestBoat 231 = .ok (.ladd, 1) := by decide +kernel
theorem dX9_digestBoat_232 : decode cX9_digestBoat 232 = .ok (.lstore 4, 2) := by decide +kernel
theorem dX9_digestBoat_234 : decode cX9_digestBoat 234 = .ok (.ldc2_w 289, 3) := by decide +kernel
theorem dX9_digestBoat_237 : decode cX9_digestBoat 237 = .ok (.lload 4, 2) := by decide +kernel
theorem dX9_digestBoat_239 : decode cX9_digestBoat 239 = .ok (.lmul, 1) := by decide +kernel
theorem dX9_digestBoat_240 : decode cX9_digestBoat 240 = .ok (.aload_n 0, 1) := by decide +kernel
theorem dX9_digestBoat_241 : decode cX9_digestBoat 241 = .ok (.bipush 7, 2) := by decide +kernel
theorem dX9_digestBoat_243 : decode cX9_digestBoat 243 = .ok (.iconst 4, 1) := by decide +kernel
theorem dX9_digestBoat_244 : decode cX9_digestBoat 244 = .ok (.iload_n 3, 1) := by decide +kernel
theorem dX9_digestBoat_245 : decode cX9_digestBoat 245 = .ok (.iconst 1, 1) := by decide +kernel
theorem dX9_digestBoat_246 : decode cX9_digestBoat 246 = .ok (.invokevirtual 336, 3) := by decide +kernel
theorem dX9_digestBoat_249 : decode cX9_digestBoat 249 = .ok (.i2l, 1) := by decide +kernel
theorem dX9_digestBoat_250 : decode cX9_digestBoat 250 = .ok (.ladd, 1) := by decide +kernel
theorem dX9_digestBoat_251 : decode cX9_digestBoat 251 = .ok (.lreturn, 1) := by decide +kernel
theorem dX9_isWithin_0 : decode cX9_isWithin 0 = .ok (.iload_n 0, 1) := by decide +kernel
theorem dX9_isWithin_1 : decode cX9_isWithin 1 = .ok (.ifCond .lt 12, 3) := by decide +kernel
theorem dX9_isWithin_4 : decode cX9_isWithin 4 = .ok (.iload_n 0, 1) := by decide +kernel
theorem dX9_isWithin_5 : decode cX9_isWithin 5 = .ok (.iload_n 1, 1) := by decide +kernel
theorem dX9_isWithin_6 : decode cX9_isWithin 6 = .ok (.if_icmp .ge 7, 3) := by decide +kernel
theorem dX9_isWithin_9 : decode cX9_isWithin 9 = .ok (.iconst 1, 1) := by decide +kernel
theorem dX9_isWithin_10 : decode cX9_isWithin 10 = .ok (.goto 4, 3) := by decide +kernel
theorem dX9_isWithin_13 : decode cX9_isWithin 13 = .ok (.iconst 0, 1) := by decide +kernel
theorem dX9_isWithin_14 : decode cX9_isWithin 14 = .ok (.ireturn, 1) := by decide +kernel
theorem dX9_isBridge_0 : decode cX9_isBridge 0 = .ok (.iload_n 1, 1) := by decide +kernel
theorem dX9_isBridge_1 : decode cX9_isBridge 1 = .ok (.aload_n 0, 1) := by decide +kernel
theorem dX9_isBridge_2 : decode cX9_isBridge 2 = .ok (.getfield 18, 3) := by decide +kernel
theorem dX9_isBridge_5 : decode cX9_isBridge 5 = .ok (.getfield 279, 3) := by decide +kernel
theorem dX9_isBridge_8 : decode cX9_isBridge 8 = .ok (.invokestatic 84, 3) := by decide +kernel
theorem dX9_isBridge_11 : decode cX9_isBridge 11 = .ok (.ireturn, 1) := by decide +kernel
theorem dX9_isBoat_0 : decode cX9_isBoat 0 = .ok (.iload_n 1, 1) := by decide +kernel
theorem dX9_isBoat_1 : decode cX9_isBoat 1 = .ok (.aload_n 0, 1) := by decide +kernel
theorem dX9_isBoat_2 : decode cX9_isBoat 2 = .ok (.getfield 25, 3) := by decide +kernel
theorem dX9_isBoat_5 : decode cX9_isBoat 5 = .ok (.getfield 168, 3) := by decide +kernel
theorem dX9_isBoat_8 : decode cX9_isBoat 8 = .ok (.invokestatic 84, 3) := by decide +kernel
theorem dX9_isBoat_11 : decode cX9_isBoat 11 = .ok (.ireturn, 1) := by decide +kernel
theorem dX9_find_0 : decode cX9_find 0 = .ok (.aload_n 0, 1) := by decide +kernel
theorem dX9_find_1 : decode cX9_find 1 = .ok (.iload_n 1, 1) := by decide +kernel
theorem dX9_find_2 : decode cX9_find 2 = .ok (.putfield 259, 3) := by decide +kernel
theorem dX9_find_5 : decode cX9_find 5 = .ok (.bipush (-10), 2) := by decide +kernel
theorem dX9_find_7 : decode cX9_find 7 = .ok (.iload_n 1, 1) := by decide +kernel
theorem dX9_find_8 : decode cX9_find 8 = .ok (.isub, 1) := by decide +kernel
theorem dX9_find_9 : decode cX9_find 9 = .ok (.ireturn, 1) := by decide +kernel
theorem dX9_itemFinding_0 : decode cX9_itemFinding 0 = .ok (.aload_n 0, 1) := by decide +kernel
theorem dX9_itemFinding_1 : decode cX9_itemFinding 1 = .ok (.getfield 138, 3) := by decide +kernel
theorem dX9_itemFinding_4 : decode cX9_itemFinding 4 = .ok (.ifCond .eq 5, 3) := by decide +kernel
theorem dX9_itemFinding_7 : decode cX9_itemFinding 7 = .ok (.iconst 1, 1) := by decide +kernel
theorem dX9_itemFinding_8 : decode cX9_itemFinding 8 = .ok (.ireturn, 1) := by decide +kernel
theorem dX9_itemFinding_9 : decode cX9_itemFinding 9 = .ok (.aload_n 0, 1) := by decide +kernel
theorem dX9_itemFinding_10 : decode cX9_itemFinding 10 = .ok (.getfield 262, 3) := by decide +kernel
theorem dX9_itemFinding_13 : decode cX9_itemFinding 13 = .ok (.iload_n 1, 1) := by decide +kernel
theorem dX9_itemFinding_14 : decode cX9_itemFinding 14 = .ok (.if_icmp .eq 5, 3) := by decide +kernel
theorem dX9_itemFinding_17 : decode cX9_itemFinding 17 = .ok (.iconst 3, 1) := by decide +kernel
theorem dX9_itemFinding_18 : decode cX9_itemFinding 18 = .ok (.ireturn, 1) := by decide +kernel
theorem dX9_itemFinding_19 : decode cX9_itemFinding 19 = .ok (.iload_n 2, 1) := by decide +kernel
theorem dX9_itemFinding_20 : decode cX9_itemFinding 20 = .ok (.aload_n 0, 1) := by decide +kernel
theorem dX9_itemFinding_21 : decode cX9_itemFinding 21 = .ok (.getfield 146, 3) := by decide +kernel
theorem dX9_itemFinding_24 : decode cX9_itemFinding 24 = .ok (.invokestatic 84, 3) := by decide +kernel
theorem dX9_itemFinding_27 : decode cX9_itemFinding 27 = .ok (.ifCond .eq 7, 3) := by decide +kernel
theorem dX9_itemFinding_30 : decode cX9_itemFinding 30 = .ok (.iconst 0, 1) := by decide +kernel
theorem dX9_itemFinding_31 : decode cX9_itemFinding 31 = .ok (.goto 4, 3) := by decide +kernel
theorem dX9_itemFinding_34 : decode cX9_itemFinding 34 = .ok (.iconst 2, 1) := by decide +kernel
theorem dX9_itemFinding_35 : decode cX9_itemFinding 35 = .ok (.ireturn, 1) := by decide +kernel
theorem dX9_understand_0 : decode cX9_understand 0 = .ok (.iload_n 1, 1) := by decide +kernel
theorem dX9_understand_1 : decode cX9_understand 1 = .ok (.ifCond .ne 19, 3) := by decide +kernel
theorem dX9_understand_4 : decode cX9_understand 4 = .ok (.aload_n 0, 1) := by decide +kernel
theorem dX9_understand_5 : decode cX9_understand 5 = .ok (.getfield 18, 3) := by decide +kernel
theorem dX9_understand_8 : decode cX9_understand 8 = .ok (.aload_n 0, 1) := by decide +kernel
theorem dX9_understand_9 : decode cX9_understand 9 = .ok (.getfield 11, 3) := by decide +kernel
theorem dX9_understand_12 : decode cX9_understand 12 = .ok (.iconst 0, 1) := by decide +kernel
theorem dX9_understand_13 : decode cX9_understand 13 = .ok (.aaload, 1) := by decide +kernel
theorem dX9_understand_14 : decode cX9_understand 14 = .ok (.invokevirtual 340, 3) := by decide +kernel
theorem dX9_understand_17 : decode cX9_understand 17 = .ok (.goto 16, 3) := by decide +kernel
theorem dX9_understand_20 : decode cX9_understand 20 = .ok (.aload_n 0, 1) := by decide +kernel
theorem dX9_understand_21 : decode cX9_understand 21 = .ok (.getfield 25, 3) := by decide +kernel
theorem dX9_understand_24 : decode cX9_understand 24 = .ok (.aload_n 0, 1) := by decide +kernel
theorem dX9_understand_25 : decode cX9_understand 25 = .ok (.getfield 11, 3) := by decide +kernel
theorem dX9_understand_28 : decode cX9_understand 28 = .ok (.iconst 1, 1) := by decide +kernel
theorem dX9_understand_29 : decode cX9_understand 29 = .ok (.aaload, 1) := by decide +kernel
theorem dX9_understand_30 : decode cX9_understand 30 = .ok (.invokevirtual 344, 3) := by decide +kernel
theorem dX9_understand_33 : decode cX9_understand 33 = .ok (.aload_n 0, 1) := by decide +kernel
theorem dX9_understand_34 : decode cX9_understand 34 = .ok (.invokevirtual 131, 3) := by decide +kernel
theorem dX9_understand_37 : decode cX9_understand 37 = .ok (.return_, 1) := by decide +kernel
theorem dX9_resail_0 : decode cX9_resail 0 = .ok (.aload_n 0, 1) := by decide +kernel
theorem dX9_resail_1 : decode cX9_resail 1 = .ok (.getfield 62, 3) := by decide +kernel
theorem dX9_resail_4 : decode cX9_resail 4 = .ok (.iconst 0, 1) := by decide +kernel
theorem dX9_resail_5 : decode cX9_resail 5 = .ok (.putfield 345, 3) := by decide +kernel
theorem dX9_resail_8 : decode cX9_resail 8 = .ok (.aload_n 0, 1) := by decide +kernel
theorem dX9_resail_9 : decode cX9_resail 9 = .ok (.getfield 52, 3) := by decide +kernel
theorem dX9_resail_12 : decode cX9_resail 12 = .ok (.aload_n 0, 1) := by decide +kernel
theorem dX9_resail_13 : decode cX9_resail 13 = .ok (.getfield 18, 3) := by decide +kernel
theorem dX9_resail_16 : decode cX9_resail 16 = .ok (.getfield 279, 3) := by decide +kernel
theorem dX9_resail_19 : decode cX9_resail 19 = .ok (.putfield 348, 3) := by decide +kernel
theorem dX9_resail_22 : decode cX9_resail 22 = .ok (.aload_n 0, 1) := by decide +kernel
theorem dX9_resail_23 : decode cX9_resail 23 = .ok (.getfield 52, 3) := by decide +kernel
theorem dX9_resail_26 : decode cX9_resail 26 = .ok (.aload_n 0, 1) := by decide +kernel
theorem dX9_resail_27 : decode cX9_resail 27 = .ok (.getfield 25, 3) := by decide +kernel
theorem dX9_resail_30 : decode cX9_resail 30 = .ok (.getfield 168, 3) := by decide +kernel
theorem dX9_resail_33 : decode cX9_resail 33 = .ok (.putfield 351, 3) := by decide +kernel
theorem dX9_resail_36 : decode cX9_resail 36 = .ok (.aload_n 0, 1) := by decide +kernel
theorem dX9_resail_37 : decode cX9_resail 37 = .ok (.getfield 25, 3) := by decide +kernel
theorem dX9_resail_40 : decode cX9_resail 40 = .ok (.getfield 117, 3) := by decide +kernel
theorem dX9_resail_43 : decode cX9_resail 43 = .ok (.iconst 0, 1) := by decide +kernel
theorem dX9_resail_44 : decode cX9_resail 44 = .ok (.aload_n 0, 1) := by decide +kernel
theorem dX9_resail_45 : decode cX9_resail 45 = .ok (.getfield 52, 3) := by decide +kernel
theorem dX9_resail_48 : decode cX9_resail 48 = .ok (.getfield 354, 3) := by decide +kernel
theorem dX9_resail_51 : decode cX9_resail 51 = .ok (.iconst 0, 1) := by decide +kernel
theorem dX9_resail_52 : decode cX9_resail 52 = .ok (.bipush 8, 2) := by decide +kernel
theorem dX9_resail_54 : decode cX9_resail 54 = .ok (.invokestatic 268, 3) := by decide +kernel
theorem dX9_resail_57 : decode cX9_resail 57 = .ok (.iconst 0, 1) := by decide +kernel
theorem dX9_resail_58 : decode cX9_resail 58 = .ok (.istore_n 1, 1) := by decide +kernel
theorem dX9_resail_59 : decode cX9_resail 59 = .ok (.iload_n 1, 1) := by decide +kernel
theorem dX9_resail_60 : decode cX9_resail 60 = .ok (.aload_n 0, 1) := by decide +kernel
theorem dX9_resail_61 : decode cX9_resail 61 = .ok (.getfield 18, 3) := by decide +kernel
theorem dX9_resail_64 : decode cX9_resail 64 = .ok (.getfield 279, 3) := by decide +kernel
theorem dX9_resail_67 : decode cX9_resail 67 = .ok (.if_icmp .ge 41, 3) := by decide +kernel
theorem dX9_resail_70 : decode cX9_resail 70 = .ok (.aload_n 0, 1) := by decide +kernel
theorem dX9_resail_71 : decode cX9_resail 71 = .ok (.getfield 52, 3) := by decide +kernel
theorem dX9_resail_74 : decode cX9_resail 74 = .ok (.getfield 355, 3) := by decide +kernel
theorem dX9_resail_77 : decode cX9_resail 77 = .ok (.iload_n 1, 1) := by decide +kernel
theorem dX9_resail_78 : decode cX9_resail 78 = .ok (.aload_n 0, 1) := by decide +kernel
theorem dX9_resail_79 : decode cX9_resail 79 = .ok (.iload_n 1, 1) := by decide +kernel
theorem dX9_resail_80 : decode cX9_resail 80 = .ok (.aload_n 0, 1) := by decide +kernel
theorem dX9_resail_81 : decode cX9_resail 81 = .ok (.getfield 18, 3) := by decide +kernel
theorem dX9_resail_84 : decode cX9_resail 84 = .ok (.getfield 358, 3) := by decide +kernel
theorem dX9_resail_87 : decode cX9_resail 87 = .ok (.iload_n 1, 1) := by decide +kernel
theorem dX9_resail_88 : decode cX9_resail 88 = .ok (.iaload, 1) := by decide +kernel
theorem dX9_resail_89 : decode cX9_resail 89 = .ok (.aload_n 0, 1) := by decide +kernel
theorem dX9_resail_90 : decode cX9_resail 90 = .ok (.getfield 18, 3) := by decide +kernel
theorem dX9_resail_93 : decode cX9_resail 93 = .ok (.getfield 217, 3) := by decide +kernel
theorem dX9_resail_96 : decode cX9_resail 96 = .ok (.iload_n 1, 1) := by decide +kernel
theorem dX9_resail_97 : decode cX9_resail 97 = .ok (.iaload, 1) := by decide +kernel
theorem dX9_resail_98 : decode cX9_resail 98 = .ok (.invokevirtual 361, 3) := by decide +kernel
theorem dX9_resail_101 : decode cX9_resail 101 = .ok (.iastore, 1) := by decide +kernel
theorem dX9_resail_102 : decode cX9_resail 102 = .ok (.iinc 1 1, 3) := by decide +kernel
theorem dX9_resail_105 : decode cX9_resail 105 = .ok (.goto (-46), 3) := by decide +kernel
theorem dX9_resail_108 : decode cX9_resail 108 = .ok (.aload_n 0, 1) := by decide +kernel
theorem dX9_resail_109 : decode cX9_resail 109 = .ok (.getfield 52, 3) := by decide +kernel
theorem dX9_resail_112 : decode cX9_resail 112 = .ok (.invokevirtual 364, 3) := by decide +kernel
theorem dX9_resail_115 : decode cX9_resail 115 = .ok (.return_, 1) := by decide +kernel
theorem dX9_liftBits_0 : decode cX9_liftBits 0 = .ok (.iconst 0, 1) := by decide +kernel
theorem dX9_liftBits_1 : decode cX9_liftBits 1 = .ok (.istore 4, 2) := by decide +kernel
theorem dX9_liftBits_3 : decode cX9_liftBits 3 = .ok (.iconst 0, 1) := by decide +kernel
theorem dX9_liftBits_4 : decode cX9_liftBits 4 = .ok (.istore 5, 2) := by decide +kernel
theorem dX9_liftBits_6 : decode cX9_liftBits 6 = .ok (.iload 5, 2) := by decide +kernel
theorem dX9_liftBits_8 : decode cX9_liftBits 8 = .ok (.aload_n 0, 1) := by decide +kernel
theorem dX9_liftBits_9 : decode cX9_liftBits 9 = .ok (.getfield 25, 3) := by decide +kernel
theorem dX9_liftBits_12 : decode cX9_liftBits 12 = .ok (.getfield 168, 3) := by decide +kernel
theorem dX9_liftBits_15 : decode cX9_liftBits 15 = .ok (.if_icmp .ge 51, 3) := by decide +kernel
theorem dX9_liftBits_18 : decode cX9_liftBits 18 = .ok (.aload_n 0, 1) := by decide +kernel
theorem dX9_liftBits_19 : decode cX9_liftBits 19 = .ok (.getfield 18, 3) := by decide +kernel
theorem dX9_liftBits_22 : decode cX9_liftBits 22 = .ok (.iload_n 1, 1) := by decide +kernel
theorem dX9_liftBits_23 : decode cX9_liftBits 23 = .ok (.iload_n 2, 1) := by decide +kernel
theorem dX9_liftBits_24 : decode cX9_liftBits 24 = .ok (.iload_n 3, 1) := by decide +kernel
theorem dX9_liftBits_25 : decode cX9_liftBits 25 = .ok (.aload_n 0, 1) := by decide +kernel
theorem dX9_liftBits_26 : decode cX9_liftBits 26 = .ok (.getfield 25, 3) := by decide +kernel
theorem dX9_liftBits_29 : decode cX9_liftBits 29 = .ok (.getfield 120, 3) := by decide +kernel
theorem dX9_liftBits_32 : decode cX9_liftBits 32 = .ok (.iload 5, 2) := by decide +kernel
theorem dX9_liftBits_34 : decode cX9_liftBits 34 = .ok (.aaload, 1) := by decide +kernel
theorem dX9_liftBits_35 : decode cX9_liftBits 35 = .ok (.aload_n 0, 1) := by decide +kernel
theorem dX9_liftBits_36 : decode cX9_liftBits 36 = .ok (.getfield 32, 3) := by decide +kernel
theorem dX9_liftBits_39 : decode cX9_liftBits 39 = .ok (.getfield 367, 3) := by decide +kernel
theorem dX9_liftBits_42 : decode cX9_liftBits 42 = .ok (.iload 5, 2) := by decide +kernel
theorem dX9_liftBits_44 : decode cX9_liftBits 44 = .ok (.aaload, 1) := by decide +kernel
theorem dX9_liftBits_45 : decode cX9_liftBits 45 = .ok (.invokevirtual 370, 3) := by decide +kernel
theorem dX9_liftBits_48 : decode cX9_liftBits 48 = .ok (.ifCond .eq 12, 3) := by decide +kernel
theorem dX9_liftBits_51 : decode cX9_liftBits 51 = .ok (.iload 4, 2) := by decide +kernel
theorem dX9_liftBits_53 : decode cX9_liftBits 53 = .ok (.iconst 1, 1) := by decide +kernel
theorem dX9_liftBits_54 : decode cX9_liftBits 54 = .ok (.iload 5, 2) := by decide +kernel
theorem dX9_liftBits_56 : decode cX9_liftBits 56 = .ok (.ishl, 1) := by decide +kernel
theorem dX9_liftBits_57 : decode cX9_liftBits 57 = .ok (.ior, 1) := by decide +kernel
theorem dX9_liftBits_58 : decode cX9_liftBits 58 = .ok (.istore 4, 2) := by decide +kernel
theorem dX9_liftBits_60 : decode cX9_liftBits 60 = .ok (.iinc 5 1, 3) := by decide +kernel
theorem dX9_liftBits_63 : decode cX9_liftBits 63 = .ok (.goto (-57), 3) := by decide +kernel
theorem dX9_liftBits_66 : decode cX9_liftBits 66 = .ok (.iload 4, 2) := by decide +kernel
theorem dX9_liftBits_68 : decode cX9_liftBits 68 = .ok (.ireturn, 1) := by decide +kernel
theorem dX9_loadAsCarried_0 : decode cX9_loadAsCarried 0 = .ok (.aload_n 0, 1) := by decide +kernel
theorem dX9_loadAsCarried_1 : decode cX9_loadAsCarried 1 = .ok (.getfield 25, 3) := by decide +kernel
theorem dX9_loadAsCarried_4 : decode cX9_loadAsCarried 4 = .ok (.getfield 120, 3) := by decide +kernel
theorem dX9_loadAsCarried_7 : decode cX9_loadAsCarried 7 = .ok (.iload_n 1, 1) := by decide +kernel
theorem dX9_loadAsCarried_8 : decode cX9_loadAsCarried 8 = .ok (.aaload, 1) := by decide +kernel
theorem dX9_loadAsCarried_9 : decode cX9_loadAsCarried 9 = .ok (.iconst 0, 1) := by decide +kernel
theorem dX9_loadAsCarried_10 : decode cX9_loadAsCarried 10 = .ok (.aload_n 0, 1) := by decide +kernel
theorem dX9_loadAsCarried_11 : decode cX9_loadAsCarried 11 = .ok (.getfield 73, 3) := by decide +kernel
theorem dX9_loadAsCarried_14 : decode cX9_loadAsCarried 14 = .ok (.iconst 0, 1) := by decide +kernel
theorem dX9_loadAsCarried_15 : decode cX9_loadAsCarried 15 = .ok (.bipush 6, 2) := by decide +kernel
theorem dX9_loadAsCarried_17 : decode cX9_loadAsCarried 17 = .ok (.invokestatic 268, 3) := by decide +kernel
theorem dX9_loadAsCarried_20 : decode cX9_loadAsCarried 20 = .ok (.return_, 1) := by decide +kernel
theorem dX9_drawLoad_0 : decode cX9_drawLoad 0 = .ok (.aload_n 0, 1) := by decide +kernel
theorem dX9_drawLoad_1 : decode cX9_drawLoad 1 = .ok (.getfield 73, 3) := by decide +kernel
theorem dX9_drawLoad_4 : decode cX9_drawLoad 4 = .ok (.iconst 0, 1) := by decide +kernel
theorem dX9_drawLoad_5 : decode cX9_drawLoad 5 = .ok (.invokestatic 211, 3) := by decide +kernel
theorem dX9_drawLoad_8 : decode cX9_drawLoad 8 = .ok (.iload_n 1, 1) := by decide +kernel
theorem dX9_drawLoad_9 : decode cX9_drawLoad 9 = .ok (.istore_n 3, 1) := by decide +kernel
theorem dX9_drawLoad_10 : decode cX9_drawLoad 10 = .ok (.iconst 0, 1) := by decide +kernel
theorem dX9_drawLoad_11 : decode cX9_drawLoad 11 = .ok (.istore 4, 2) := by decide +kernel
theorem dX9_drawLoad_13 : decode cX9_drawLoad 13 = .ok (.iload 4, 2) := by decide +kernel
theorem dX9_drawLoad_15 : decode cX9_drawLoad 15 = .ok (.iload_n 2, 1) := by decide +kernel
theorem dX9_drawLoad_16 : decode cX9_drawLoad 16 = .ok (.if_icmp .ge 35, 3) := by decide +kernel
theorem dX9_drawLoad_19 : decode cX9_drawLoad 19 = .ok (.ldc_w 374, 3) := by decide +kernel
theorem dX9_drawLoad_22 : decode cX9_drawLoad 22 = .ok (.iload_n 3, 1) := by decide +kernel
theorem dX9_drawLoad_23 : decode cX9_drawLoad 23 = .ok (.imul, 1) := by decide +kernel
theorem dX9_drawLoad_24 : decode cX9_drawLoad 24 = .ok (.sipush 12345, 3) := by decide +kernel
theorem dX9_drawLoad_27 : decode cX9_drawLoad 27 = .ok (.iadd, 1) := by decide +kernel
theorem dX9_drawLoad_28 : decode cX9_drawLoad 28 = .ok (.istore_n 3, 1) := by decide +kernel
theorem dX9_drawLoad_29 : decode cX9_drawLoad 29 = .ok (.aload_n 0, 1) := by decide +kernel
theorem dX9_drawLoad_30 : decode cX9_drawLoad 30 = .ok (.getfield 73, 3) := by decide +kernel
theorem dX9_drawLoad_33 : decode cX9_drawLoad 33 = .ok (.iload_n 3, 1) := by decide +kernel
theorem dX9_drawLoad_34 : decode cX9_drawLoad 34 = .ok (.bipush 16, 2) := by decide +kernel
theorem dX9_drawLoad_36 : decode cX9_drawLoad 36 = .ok (.iushr, 1) := by decide +kernel
theorem dX9_drawLoad_37 : decode cX9_drawLoad 37 = .ok (.bipush 6, 2) := by decide +kernel
theorem dX9_drawLoad_39 : decode cX9_drawLoad 39 = .ok (.irem, 1) := by decide +kernel
theorem dX9_drawLoad_40 : decode cX9_drawLoad 40 = .ok (.dup2, 1) := by decide +kernel
theorem dX9_drawLoad_41 : decode cX9_drawLoad 41 = .ok (.iaload, 1) := by decide +kernel
theorem dX9_drawLoad_42 : decode cX9_drawLoad 42 = .ok (.iconst 1, 1) := by decide +kernel
theorem dX9_drawLoad_43 : decode cX9_drawLoad 43 = .ok (.iadd, 1) := by decide +kernel
theorem dX9_drawLoad_44 : decode cX9_drawLoad 44 = .ok (.iastore, 1) := by decide +kernel
theorem dX9_drawLoad_45 : decode cX9_drawLoad 45 = .ok (.iinc 4 1, 3) := by decide +kernel
theorem dX9_drawLoad_48 : decode cX9_drawLoad 48 = .ok (.goto (-35), 3) := by decide +kernel
theorem dX9_drawLoad_51 : decode cX9_drawLoad 51 = .ok (.return_, 1) := by decide +kernel
theorem dX9_tryLoad_0 : decode cX9_tryLoad 0 = .ok (.aload_n 0, 1) := by decide +kernel
theorem dX9_tryLoad_1 : decode cX9_tryLoad 1 = .ok (.getfield 56, 3) := by decide +kernel
theorem dX9_tryLoad_4 : decode cX9_tryLoad 4 = .ok (.aload_n 0, 1) := by decide +kernel
theorem dX9_tryLoad_5 : decode cX9_tryLoad 5 = .ok (.getfield 52, 3) := by decide +kernel
theorem dX9_tryLoad_8 : decode cX9_tryLoad 8 = .ok (.invokevirtual 375, 3) := by decide +kernel
theorem dX9_tryLoad_11 : decode cX9_tryLoad 11 = .ok (.iconst 0, 1) := by decide +kernel
theorem dX9_tryLoad_12 : decode cX9_tryLoad 12 = .ok (.istore_n 2, 1) := by decide +kernel
theorem dX9_tryLoad_13 : decode cX9_tryLoad 13 = .ok (.iload_n 2, 1) := by decide +kernel
theorem dX9_tryLoad_14 : decode cX9_tryLoad 14 = .ok (.aload_n 0, 1) := by decide +kernel
theorem dX9_tryLoad_15 : decode cX9_tryLoad 15 = .ok (.getfield 18, 3) := by decide +kernel
theorem dX9_tryLoad_18 : decode cX9_tryLoad 18 = .ok (.getfield 279, 3) := by decide +kernel
theorem dX9_tryLoad_21 : decode cX9_tryLoad 21 = .ok (.if_icmp .ge 57, 3) := by decide +kernel
theorem dX9_tryLoad_24 : decode cX9_tryLoad 24 = .ok (.aload_n 0, 1) := by decide +kernel
theorem dX9_tryLoad_25 : decode cX9_tryLoad 25 = .ok (.getfield 56, 3) := by decide +kernel
theorem dX9_tryLoad_28 : decode cX9_tryLoad 28 = .ok (.iload_n 2, 1) := by decide +kernel
theorem dX9_tryLoad_29 : decode cX9_tryLoad 29 = .ok (.iload_n 1, 1) := by decide +kernel
theorem dX9_tryLoad_30 : decode cX9_tryLoad 30 = .ok (.aload_n 0, 1) := by decide +kernel
theorem dX9_tryLoad_31 : decode cX9_tryLoad 31 = .ok (.getfield 18, 3) := by decide +kernel
theorem dX9_tryLoad_34 : decode cX9_tryLoad 34 = .ok (.iload_n 2, 1) := by decide +kernel
theorem dX9_tryLoad_35 : decode cX9_tryLoad 35 = .ok (.aload_n 0, 1) := by decide +kernel
theorem dX9_tryLoad_36 : decode cX9_tryLoad 36 = .ok (.getfield 18, 3) := by decide +kernel
theorem dX9_tryLoad_39 : decode cX9_tryLoad 39 = .ok (.getfield 358, 3) := by decide +kernel
theorem dX9_tryLoad_42 : decode cX9_tryLoad 42 = .ok (.iload_n 2, 1) := by decide +kernel
theorem dX9_tryLoad_43 : decode cX9_tryLoad 43 = .ok (.iaload, 1) := by decide +kernel
theorem dX9_tryLoad_44 : decode cX9_tryLoad 44 = .ok (.aload_n 0, 1) := by decide +kernel
theorem dX9_tryLoad_45 : decode cX9_tryLoad 45 = .ok (.getfield 18, 3) := by decide +kernel
theorem dX9_tryLoad_48 : decode cX9_tryLoad 48 = .ok (.getfield 217, 3) := by decide +kernel
theorem dX9_tryLoad_51 : decode cX9_tryLoad 51 = .ok (.iload_n 2, 1) := by decide +kernel
theorem dX9_tryLoad_52 : decode cX9_tryLoad 52 = .ok (.iaload, 1) := by decide +kernel
theorem dX9_tryLoad_53 : decode cX9_tryLoad 53 = .ok (.aload_n 0, 1) := by decide +kernel
theorem dX9_tryLoad_54 : decode cX9_tryLoad 54 = .ok (.getfield 73, 3) := by decide +kernel
theorem dX9_tryLoad_57 : decode cX9_tryLoad 57 = .ok (.aload_n 0, 1) := by decide +kernel
theorem dX9_tryLoad_58 : decode cX9_tryLoad 58 = .ok (.getfield 32, 3) := by decide +kernel
theorem dX9_tryLoad_61 : decode cX9_tryLoad 61 = .ok (.getfield 367, 3) := by decide +kernel
theorem dX9_tryLoad_64 : decode cX9_tryLoad 64 = .ok (.iload_n 1, 1) := by decide +kernel
theorem dX9_tryLoad_65 : decode cX9_tryLoad 65 = .ok (.aaload, 1) := by decide +kernel
theorem dX9_tryLoad_66 : decode cX9_tryLoad 66 = .ok (.invokevirtual 370, 3) := by decide +kernel
theorem dX9_tryLoad_69 : decode cX9_tryLoad 69 = .ok (.invokevirtual 379, 3) := by decide +kernel
theorem dX9_tryLoad_72 : decode cX9_tryLoad 72 = .ok (.iinc 2 1, 3) := by decide +kernel
theorem dX9_tryLoad_75 : decode cX9_tryLoad 75 = .ok (.goto (-62), 3) := by decide +kernel
theorem dX9_tryLoad_78 : decode cX9_tryLoad 78 = .ok (.aload_n 0, 1) := by decide +kernel
theorem dX9_tryLoad_79 : decode cX9_tryLoad 79 = .ok (.getfield 56, 3) := by decide +kernel
theorem dX9_tryLoad_82 : decode cX9_tryLoad 82 = .ok (.invokevirtual 364, 3) := by decide +kernel
theorem dX9_tryLoad_85 : decode cX9_tryLoad 85 = .ok (.return_, 1) := by decide +kernel
theorem dX9_planCargo_0 : decode cX9_planCargo 0 = .ok (.aload_n 0, 1) := by decide +kernel
theorem dX9_planCargo_1 : decode cX9_planCargo 1 = .ok (.getfield 69, 3) := by decide +kernel
theorem dX9_planCargo_4 : decode cX9_planCargo 4 = .ok (.iconst (-1), 1) := by decide +kernel
theorem dX9_planCargo_5 : decode cX9_planCargo 5 = .ok (.iconst (-1), 1) := by decide +kernel
theorem dX9_planCargo_6 : decode cX9_planCargo 6 = .ok (.iconst (-1), 1) := by decide +kernel
theorem dX9_planCargo_7 : decode cX9_planCargo 7 = .ok (.invokevirtual 383, 3) := by decide +kernel
theorem dX9_planCargo_10 : decode cX9_planCargo 10 = .ok (.iconst 0, 1) := by decide +kernel
theorem dX9_planCargo_11 : decode cX9_planCargo 11 = .ok (.istore_n 2, 1) := by decide +kernel
theorem dX9_planCargo_12 : decode cX9_planCargo 12 = .ok (.iload_n 2, 1) := by decide +kernel
theorem dX9_planCargo_13 : decode cX9_planCargo 13 = .ok (.bipush 28, 2) := by decide +kernel
theorem dX9_planCargo_15 : decode cX9_planCargo 15 = .ok (.if_icmp .ge 105, 3) := by decide +kernel
theorem dX9_planCargo_18 : decode cX9_planCargo 18 = .ok (.iconst 0, 1) := by decide +kernel
theorem dX9_planCargo_19 : decode cX9_planCargo 19 = .ok (.istore_n 3, 1) := by decide +kernel
theorem dX9_planCargo_20 : decode cX9_planCargo 20 = .ok (.aload_n 0, 1) := by decide +kernel
theorem dX9_planCargo_21 : decode cX9_planCargo 21 = .ok (.iload_n 1, 1) := by decide +kernel
theorem dX9_planCargo_22 : decode cX9_planCargo 22 = .ok (.invokevirtual 205, 3) := by decide +kernel
theorem dX9_planCargo_25 : decode cX9_planCargo 25 = .ok (.getstatic 386, 3) := by decide +kernel
theorem dX9_planCargo_28 : decode cX9_planCargo 28 = .ok (.iload_n 2, 1) := by decide +kernel
theorem dX9_planCargo_29 : decode cX9_planCargo 29 = .ok (.iaload, 1) := by decide +kernel
theorem dX9_planCargo_30 : decode cX9_planCargo 30 = .ok (.iconst (-1), 1) := by decide +kernel
theorem dX9_planCargo_31 : decode cX9_planCargo 31 = .ok (.if_icmp .eq 20, 3) := by decide +kernel
theorem dX9_planCargo_34 : decode cX9_planCargo 34 = .ok (.aload_n 0, 1) := by decide +kernel
theorem dX9_planCargo_35 : decode cX9_planCargo 35 = .ok (.getfield 73, 3) := by decide +kernel
theorem dX9_planCargo_38 : decode cX9_planCargo 38 = .ok (.getstatic 386, 3) := by decide +kernel
theorem dX9_planCargo_41 : decode cX9_planCargo 41 = .ok (.iload_n 2, 1) := by decide +kernel
theorem dX9_planCargo_42 : decode cX9_planCargo 42 = .ok (.iaload, 1) := by decide +kernel
theorem dX9_planCargo_43 : decode cX9_planCargo 43 = .ok (.dup2, 1) := by decide +kernel
theorem dX9_planCargo_44 : decode cX9_planCargo 44 = .ok (.iaload, 1) := by decide +kernel
theorem dX9_planCargo_45 : decode cX9_planCargo 45 = .ok (.iconst 1, 1) := by decide +kernel
theorem dX9_planCargo_46 : decode cX9_planCargo 46 = .ok (.iadd, 1) := by decide +kernel
theorem dX9_planCargo_47 : decode cX9_planCargo 47 = .ok (.iastore, 1) := by decide +kernel
theorem dX9_planCargo_48 : decode cX9_planCargo 48 = .ok (.iinc 3 1, 3) := by decide +kernel
theorem dX9_planCargo_51 : decode cX9_planCargo 51 = .ok (.getstatic 389, 3) := by decide +kernel
theorem dX9_planCargo_54 : decode cX9_planCargo 54 = .ok (.iload_n 2, 1) := by decide +kernel
theorem dX9_planCargo_55 : decode cX9_planCargo 55 = .ok (.iaload, 1) := by decide +kernel
theorem dX9_planCargo_56 : decode cX9_planCargo 56 = .ok (.iconst (-1), 1) := by decide +kernel
theorem dX9_planCargo_57 : decode cX9_planCargo 57 = .ok (.if_icmp .eq 20, 3) := by decide +kernel
theorem dX9_planCargo_60 : decode cX9_planCargo 60 = .ok (.aload_n 0, 1) := by decide +kernel
theorem dX9_planCargo_61 : decode cX9_planCargo 61 = .ok (.getfield 73, 3) := by decide +kernel
theorem dX9_planCargo_64 : decode cX9_planCargo 64 = .ok (.getstatic 389, 3) := by decide +kernel
theorem dX9_planCargo_67 : decode cX9_planCargo 67 = .ok (.iload_n 2, 1) := by decide +kernel
theorem dX9_planCargo_68 : decode cX9_planCargo 68 = .ok (.iaload, 1) := by decide +kernel
theorem dX9_planCargo_69 : decode cX9_planCargo 69 = .ok (.dup2, 1) := by decide +kernel
theorem dX9_planCargo_70 : decode cX9_planCargo 70 = .ok (.iaload, 1) := by decide +kernel
theorem dX9_planCargo_71 : decode cX9_planCargo 71 = .ok (.iconst 1, 1) := by decide +kernel
theorem dX9_planCargo_72 : decode cX9_planCargo 72 = .ok (.iadd, 1) := by decide +kernel
theorem dX9_planCargo_73 : decode cX9_planCargo 73 = .ok (.iastore, 1) := by decide +kernel
theorem dX9_planCargo_74 : decode cX9_planCargo 74 = .ok (.iinc 3 1, 3) := by decide +kernel
theorem dX9_planCargo_77 : decode cX9_planCargo 77 = .ok (.aload_n 0, 1) := by decide +kernel
theorem dX9_planCargo_78 : decode cX9_planCargo 78 = .ok (.iload_n 1, 1) := by decide +kernel
theorem dX9_planCargo_79 : decode cX9_planCargo 79 = .ok (.invokevirtual 208, 3) := by decide +kernel
theorem dX9_planCargo_82 : decode cX9_planCargo 82 = .ok (.aload_n 0, 1) := by decide +kernel
theorem dX9_planCargo_83 : decode cX9_planCargo 83 = .ok (.getfield 56, 3) := by decide +kernel
theorem dX9_planCargo_86 : decode cX9_planCargo 86 = .ok (.bipush 99, 2) := by decide +kernel
theorem dX9_planCargo_88 : decode cX9_planCargo 88 = .ok (.iload_n 1, 1) := by decide +kernel
theorem dX9_planCargo_89 : decode cX9_planCargo 89 = .ok (.invokevirtual 392, 3) := by decide +kernel
theorem dX9_planCargo_92 : decode cX9_planCargo 92 = .ok (.ifCond .eq 22, 3) := by decide +kernel
theorem dX9_planCargo_95 : decode cX9_planCargo 95 = .ok (.aload_n 0, 1) := by decide +kernel
theorem dX9_planCargo_96 : decode cX9_planCargo 96 = .ok (.getfield 69, 3) := by decide +kernel
theorem dX9_planCargo_99 : decode cX9_planCargo 99 = .ok (.iload_n 3, 1) := by decide +kernel
theorem dX9_planCargo_100 : decode cX9_planCargo 100 = .ok (.getstatic 386, 3) := by decide +kernel
theorem dX9_planCargo_103 : decode cX9_planCargo 103 = .ok (.iload_n 2, 1) := by decide +kernel
theorem dX9_planCargo_104 : decode cX9_planCargo 104 = .ok (.iaload, 1) := by decide +kernel
theorem dX9_planCargo_105 : decode cX9_planCargo 105 = .ok (.getstatic 389, 3) := by decide +kernel
theorem dX9_planCargo_108 : decode cX9_planCargo 108 = .ok (.iload_n 2, 1) := by decide +kernel
theorem dX9_planCargo_109 : decode cX9_planCargo 109 = .ok (.iaload, 1) := by decide +kernel
theorem dX9_planCargo_110 : decode cX9_planCargo 110 = .ok (.invokevirtual 383, 3) := by decide +kernel
theorem dX9_planCargo_113 : decode cX9_planCargo 113 = .ok (.return_, 1) := by decide +kernel
theorem dX9_planCargo_114 : decode cX9_planCargo 114 = .ok (.iinc 2 1, 3) := by decide +kernel
theorem dX9_planCargo_117 : decode cX9_planCargo 117 = .ok (.goto (-105), 3) := by decide +kernel
theorem dX9_planCargo_120 : decode cX9_planCargo 120 = .ok (.return_, 1) := by decide +kernel
theorem dX9_planSail_0 : decode cX9_planSail 0 = .ok (.aload_n 0, 1) := by decide +kernel
theorem dX9_planSail_1 : decode cX9_planSail 1 = .ok (.getfield 56, 3) := by decide +kernel
theorem dX9_planSail_4 : decode cX9_planSail 4 = .ok (.aload_n 0, 1) := by decide +kernel
theorem dX9_planSail_5 : decode cX9_planSail 5 = .ok (.getfield 52, 3) := by decide +kernel
theorem dX9_planSail_8 : decode cX9_planSail 8 = .ok (.invokevirtual 375, 3) := by decide +kernel
theorem dX9_planSail_11 : decode cX9_planSail 11 = .ok (.aload_n 0, 1) := by decide +kernel
theorem dX9_planSail_12 : decode cX9_planSail 12 = .ok (.getfield 69, 3) := by decide +kernel
theorem dX9_planSail_15 : decode cX9_planSail 15 = .ok (.iconst (-1), 1) := by decide +kernel
theorem dX9_planSail_16 : decode cX9_planSail 16 = .ok (.iconst (-1), 1) := by decide +kernel
theorem dX9_planSail_17 : decode cX9_planSail 17 = .ok (.invokevirtual 395, 3) := by decide +kernel
theorem dX9_planSail_20 : decode cX9_planSail 20 = .ok (.iconst 0, 1) := by decide +kernel
theorem dX9_planSail_21 : decode cX9_planSail 21 = .ok (.istore_n 2, 1) := by decide +kernel
theorem dX9_planSail_22 : decode cX9_planSail 22 = .ok (.iload_n 2, 1) := by decide +kernel
theorem dX9_planSail_23 : decode cX9_planSail 23 = .ok (.bipush 10, 2) := by decide +kernel
theorem dX9_planSail_25 : decode cX9_planSail 25 = .ok (.if_icmp .ge 65, 3) := by decide +kernel
theorem dX9_planSail_28 : decode cX9_planSail 28 = .ok (.aload_n 0, 1) := by decide +kernel
theorem dX9_planSail_29 : decode cX9_planSail 29 = .ok (.getfield 56, 3) := by decide +kernel
theorem dX9_planSail_32 : decode cX9_planSail 32 = .ok (.getfield 354, 3) := by decide +kernel
theorem dX9_planSail_35 : decode cX9_planSail 35 = .ok (.iload_n 1, 1) := by decide +kernel
theorem dX9_planSail_36 : decode cX9_planSail 36 = .ok (.iload_n 2, 1) := by decide +kernel
theorem dX9_planSail_37 : decode cX9_planSail 37 = .ok (.iastore, 1) := by decide +kernel
theorem dX9_planSail_38 : decode cX9_planSail 38 = .ok (.aload_n 0, 1) := by decide +kernel
theorem dX9_planSail_39 : decode cX9_planSail 39 = .ok (.getfield 56, 3) := by decide +kernel
theorem dX9_planSail_42 : decode cX9_planSail 42 = .ok (.invokevirtual 364, 3) := by decide +kernel
theorem dX9_planSail_45 : decode cX9_planSail 45 = .ok (.aload_n 0, 1) := by decide +kernel
theorem dX9_planSail_46 : decode cX9_planSail 46 = .ok (.getfield 56, 3) := by decide +kernel
theorem dX9_planSail_49 : decode cX9_planSail 49 = .ok (.invokevirtual 284, 3) := by decide +kernel
theorem dX9_planSail_52 : decode cX9_planSail 52 = .ok (.istore_n 3, 1) := by decide +kernel
theorem dX9_planSail_53 : decode cX9_planSail 53 = .ok (.aload_n 0, 1) := by decide +kernel
theorem dX9_planSail_54 : decode cX9_planSail 54 = .ok (.getfield 69, 3) := by decide +kernel
theorem dX9_planSail_57 : decode cX9_planSail 57 = .ok (.getfield 181, 3) := by decide +kernel
theorem dX9_planSail_60 : decode cX9_planSail 60 = .ok (.iconst (-1), 1) := by decide +kernel
theorem dX9_planSail_61 : decode cX9_planSail 61 = .ok (.if_icmp .eq 14, 3) := by decide +kernel
theorem dX9_planSail_64 : decode cX9_planSail 64 = .ok (.iload_n 3, 1) := by decide +kernel
theorem dX9_planSail_65 : decode cX9_planSail 65 = .ok (.aload_n 0, 1) := by decide +kernel
theorem dX9_planSail_66 : decode cX9_planSail 66 = .ok (.getfield 69, 3) := by decide +kernel
theorem dX9_planSail_69 : decode cX9_planSail 69 = .ok (.getfield 184, 3) := by decide +kernel
theorem dX9_planSail_72 : decode cX9_planSail 72 = .ok (.if_icmp .ge 12, 3) := by decide +kernel
theorem dX9_planSail_75 : decode cX9_planSail 75 = .ok (.aload_n 0, 1) := by decide +kernel
theorem dX9_planSail_76 : decode cX9_planSail 76 = .ok (.getfield 69, 3) := by decide +kernel
theorem dX9_planSail_79 : decode cX9_planSail 79 = .ok (.iload_n 2, 1) := by decide +kernel
theorem dX9_planSail_80 : decode cX9_planSail 80 = .ok (.iload_n 3, 1) := by decide +kernel
theorem dX9_planSail_81 : decode cX9_planSail 81 = .ok (.invokevirtual 395, 3) := by decide +kernel
theorem dX9_planSail_84 : decode cX9_planSail 84 = .ok (.iinc 2 1, 3) := by decide +kernel
theorem dX9_planSail_87 : decode cX9_planSail 87 = .ok (.goto (-65), 3) := by decide +kernel
theorem dX9_planSail_90 : decode cX9_planSail 90 = .ok (.return_, 1) := by decide +kernel
theorem dX9_planAway_0 : decode cX9_planAway 0 = .ok (.aload_n 0, 1) := by decide +kernel
theorem dX9_planAway_1 : decode cX9_planAway 1 = .ok (.getfield 69, 3) := by decide +kernel
theorem dX9_planAway_4 : decode cX9_planAway 4 = .ok (.iconst (-1), 1) := by decide +kernel
theorem dX9_planAway_5 : decode cX9_planAway 5 = .ok (.iconst (-1), 1) := by decide +kernel
theorem dX9_planAway_6 : decode cX9_planAway 6 = .ok (.invokevirtual 395, 3) := by decide +kernel
theorem dX9_planAway_9 : decode cX9_planAway 9 = .ok (.iconst 0, 1) := by decide +kernel
theorem dX9_planAway_10 : decode cX9_planAway 10 = .ok (.istore_n 1, 1) := by decide +kernel
theorem dX9_planAway_11 : decode cX9_planAway 11 = .ok (.iconst 0, 1) := by decide +kernel
theorem dX9_planAway_12 : decode cX9_planAway 12 = .ok (.istore_n 2, 1) := by decide +kernel
theorem dX9_planAway_13 : decode cX9_planAway 13 = .ok (.iload_n 2, 1) := by decide +kernel
theorem dX9_planAway_14 : decode cX9_planAway 14 = .ok (.aload_n 0, 1) := by decide +kernel
theorem dX9_planAway_15 : decode cX9_planAway 15 = .ok (.getfield 18, 3) := by decide +kernel
theorem dX9_planAway_18 : decode cX9_planAway 18 = .ok (.getfield 279, 3) := by decide +kernel
theorem dX9_planAway_21 : decode cX9_planAway 21 = .ok (.if_icmp .ge 92, 3) := by decide +kernel
theorem dX9_planAway_24 : decode cX9_planAway 24 = .ok (.aload_n 0, 1) := by decide +kernel
theorem dX9_planAway_25 : decode cX9_planAway 25 = .ok (.getfield 56, 3) := by decide +kernel
theorem dX9_planAway_28 : decode cX9_planAway 28 = .ok (.aload_n 0, 1) := by decide +kernel
theorem dX9_planAway_29 : decode cX9_planAway 29 = .ok (.getfield 52, 3) := by decide +kernel
theorem dX9_planAway_32 : decode cX9_planAway 32 = .ok (.invokevirtual 375, 3) := by decide +kernel
theorem dX9_planAway_35 : decode cX9_planAway 35 = .ok (.aload_n 0, 1) := by decide +kernel
theorem dX9_planAway_36 : decode cX9_planAway 36 = .ok (.getfield 56, 3) := by decide +kernel
theorem dX9_planAway_39 : decode cX9_planAway 39 = .ok (.iload_n 2, 1) := by decide +kernel
theorem dX9_planAway_40 : decode cX9_planAway 40 = .ok (.invokevirtual 398, 3) := by decide +kernel
theorem dX9_planAway_43 : decode cX9_planAway 43 = .ok (.aload_n 0, 1) := by decide +kernel
theorem dX9_planAway_44 : decode cX9_planAway 44 = .ok (.getfield 56, 3) := by decide +kernel
theorem dX9_planAway_47 : decode cX9_planAway 47 = .ok (.invokevirtual 364, 3) := by decide +kernel
theorem dX9_planAway_50 : decode cX9_planAway 50 = .ok (.aload_n 0, 1) := by decide +kernel
theorem dX9_planAway_51 : decode cX9_planAway 51 = .ok (.getfield 56, 3) := by decide +kernel
theorem dX9_planAway_54 : decode cX9_planAway 54 = .ok (.invokevirtual 280, 3) := by decide +kernel
theorem dX9_planAway_57 : decode cX9_planAway 57 = .ok (.istore_n 3, 1) := by decide +kernel
theorem dX9_planAway_58 : decode cX9_planAway 58 = .ok (.aload_n 0, 1) := by decide +kernel
theorem dX9_planAway_59 : decode cX9_planAway 59 = .ok (.getfield 56, 3) := by decide +kernel
theorem dX9_planAway_62 : decode cX9_planAway 62 = .ok (.invokevirtual 284, 3) := by decide +kernel
theorem dX9_planAway_65 : decode cX9_planAway 65 = .ok (.istore 4, 2) := by decide +kernel
theorem dX9_planAway_67 : decode cX9_planAway 67 = .ok (.iload_n 3, 1) := by decide +kernel
theorem dX9_planAway_68 : decode cX9_planAway 68 = .ok (.aload_n 0, 1) := by decide +kernel
theorem dX9_planAway_69 : decode cX9_planAway 69 = .ok (.getfield 69, 3) := by decide +kernel
theorem dX9_planAway_72 : decode cX9_planAway 72 = .ok (.getfield 184, 3) := by decide +kernel
theorem dX9_planAway_75 : decode cX9_planAway 75 = .ok (.if_icmp .gt 20, 3) := by decide +kernel
theorem dX9_planAway_78 : decode cX9_planAway 78 = .ok (.iload_n 3, 1) := by decide +kernel
theorem dX9_planAway_79 : decode cX9_planAway 79 = .ok (.aload_n 0, 1) := by decide +kernel
theorem dX9_planAway_80 : decode cX9_planAway 80 = .ok (.getfield 69, 3) := by decide +kernel
theorem dX9_planAway_83 : decode cX9_planAway 83 = .ok (.getfield 184, 3) := by decide +kernel
theorem dX9_planAway_86 : decode cX9_planAway 86 = .ok (.if_icmp .ne 21, 3) := by decide +kernel
theorem dX9_planAway_89 : decode cX9_planAway 89 = .ok (.iload 4, 2) := by decide +kernel
theorem dX9_planAway_91 : decode cX9_planAway 91 = .ok (.iload_n 1, 1) := by decide +kernel
theorem dX9_planAway_92 : decode cX9_planAway 92 = .ok (.if_icmp .ge 15, 3) := by decide +kernel
theorem dX9_planAway_95 : decode cX9_planAway 95 = .ok (.aload_n 0, 1) := by decide +kernel
theorem dX9_planAway_96 : decode cX9_planAway 96 = .ok (.getfield 69, 3) := by decide +kernel
theorem dX9_planAway_99 : decode cX9_planAway 99 = .ok (.iload_n 2, 1) := by decide +kernel
theorem dX9_planAway_100 : decode cX9_planAway 100 = .ok (.iload_n 3, 1) := by decide +kernel
theorem dX9_planAway_101 : decode cX9_planAway 101 = .ok (.invokevirtual 395, 3) := by decide +kernel
theorem dX9_planAway_104 : decode cX9_planAway 104 = .ok (.iload 4, 2) := by decide +kernel
theorem dX9_planAway_106 : decode cX9_planAway 106 = .ok (.istore_n 1, 1) := by decide +kernel
theorem dX9_planAway_107 : decode cX9_planAway 107 = .ok (.iinc 2 1, 3) := by decide +kernel
theorem dX9_planAway_110 : decode cX9_planAway 110 = .ok (.goto (-97), 3) := by decide +kernel
theorem dX9_planAway_113 : decode cX9_planAway 113 = .ok (.return_, 1) := by decide +kernel
theorem dX9_couldHaveBeen_0 : decode cX9_couldHaveBeen 0 = .ok (.aload_n 0, 1) := by decide +kernel
theorem dX9_couldHaveBeen_1 : decode cX9_couldHaveBeen 1 = .ok (.getfield 56, 3) := by decide +kernel
theorem dX9_couldHaveBeen_4 : decode cX9_couldHaveBeen 4 = .ok (.aload_n 0, 1) := by decide +kernel
theorem dX9_couldHaveBeen_5 : decode cX9_couldHaveBeen 5 = .ok (.getfield 52, 3) := by decide +kernel
theorem dX9_couldHaveBeen_8 : decode cX9_couldHaveBeen 8 = .ok (.invokevirtual 375, 3) := by decide +kernel
theorem dX9_couldHaveBeen_11 : decode cX9_couldHaveBeen 11 = .ok (.aload_n 0, 1) := by decide +kernel
theorem dX9_couldHaveBeen_12 : decode cX9_couldHaveBeen 12 = .ok (.getfield 56, 3) := by decide +kernel
theorem dX9_couldHaveBeen_15 : decode cX9_couldHaveBeen 15 = .ok (.getfield 355, 3) := by decide +kernel
theorem dX9_couldHaveBeen_18 : decode cX9_couldHaveBeen 18 = .ok (.iload_n 1, 1) := by decide +kernel
theorem dX9_couldHaveBeen_19 : decode cX9_couldHaveBeen 19 = .ok (.aload_n 0, 1) := by decide +kernel
theorem dX9_couldHaveBeen_20 : decode cX9_couldHaveBeen 20 = .ok (.iload_n 1, 1) := by decide +kernel
theorem dX9_couldHaveBeen_21 : decode cX9_couldHaveBeen 21 = .ok (.iload_n 2, 1) := by decide +kernel
theorem dX9_couldHaveBeen_22 : decode cX9_couldHaveBeen 22 = .ok (.iload_n 3, 1) := by decide +kernel
theorem dX9_couldHaveBeen_23 : decode cX9_couldHaveBeen 23 = .ok (.invokevirtual 361, 3) := by decide +kernel
theorem dX9_couldHaveBeen_26 : decode cX9_couldHaveBeen 26 = .ok (.iastore, 1) := by decide +kernel
theorem dX9_couldHaveBeen_27 : decode cX9_couldHaveBeen 27 = .ok (.aload_n 0, 1) := by decide +kernel
theorem dX9_couldHaveBeen_28 : decode cX9_couldHaveBeen 28 = .ok (.getfield 56, 3) := by decide +kernel
theorem dX9_couldHaveBeen_31 : decode cX9_couldHaveBeen 31 = .ok (.invokevirtual 364, 3) := by decide +kernel
theorem dX9_couldHaveBeen_34 : decode cX9_couldHaveBeen 34 = .ok (.aload_n 0, 1) := by decide +kernel
theorem dX9_couldHaveBeen_35 : decode cX9_couldHaveBeen 35 = .ok (.getfield 39, 3) := by decide +kernel
theorem dX9_couldHaveBeen_38 : decode cX9_couldHaveBeen 38 = .ok (.aload_n 0, 1) := by decide +kernel
theorem dX9_couldHaveBeen_39 : decode cX9_couldHaveBeen 39 = .ok (.getfield 56, 3) := by decide +kernel
theorem dX9_couldHaveBeen_42 : decode cX9_couldHaveBeen 42 = .ok (.invokevirtual 201, 3) := by decide +kernel
theorem dX9_couldHaveBeen_45 : decode cX9_couldHaveBeen 45 = .ok (.ireturn, 1) := by decide +kernel
theorem dX9_likedMarks_0 : decode cX9_likedMarks 0 = .ok (.iconst 0, 1) := by decide +kernel
theorem dX9_likedMarks_1 : decode cX9_likedMarks 1 = .ok (.istore_n 2, 1) := by decide +kernel
theorem dX9_likedMarks_2 : decode cX9_likedMarks 2 = .ok (.iconst 0, 1) := by decide +kernel
theorem dX9_likedMarks_3 : decode cX9_likedMarks 3 = .ok (.istore_n 3, 1) := by decide +kernel
theorem dX9_likedMarks_4 : decode cX9_likedMarks 4 = .ok (.iload_n 3, 1) := by decide +kernel
theorem dX9_likedMarks_5 : decode cX9_likedMarks 5 = .ok (.bipush 6, 2) := by decide +kernel
theorem dX9_likedMarks_7 : decode cX9_likedMarks 7 = .ok (.if_icmp .ge 33, 3) := by decide +kernel
theorem dX9_likedMarks_10 : decode cX9_likedMarks 10 = .ok (.aload_n 0, 1) := by decide +kernel
theorem dX9_likedMarks_11 : decode cX9_likedMarks 11 = .ok (.iload_n 1, 1) := by decide +kernel
theorem dX9_likedMarks_12 : decode cX9_likedMarks 12 = .ok (.iload_n 3, 1) := by decide +kernel
theorem dX9_likedMarks_13 : decode cX9_likedMarks 13 = .ok (.aload_n 0, 1) := by decide +kernel
theorem dX9_likedMarks_14 : decode cX9_likedMarks 14 = .ok (.getfield 18, 3) := by decide +kernel
theorem dX9_likedMarks_17 : decode cX9_likedMarks 17 = .ok (.getfield 217, 3) := by decide +kernel
theorem dX9_likedMarks_20 : decode cX9_likedMarks 20 = .ok (.iload_n 1, 1) := by decide +kernel
theorem dX9_likedMarks_21 : decode cX9_likedMarks 21 = .ok (.iaload, 1) := by decide +kernel
theorem dX9_likedMarks_22 : decode cX9_likedMarks 22 = .ok (.invokevirtual 220, 3) := by decide +kernel
theorem dX9_likedMarks_25 : decode cX9_likedMarks 25 = .ok (.ifCond .eq 9, 3) := by decide +kernel
theorem dX9_likedMarks_28 : decode cX9_likedMarks 28 = .ok (.iload_n 2, 1) := by decide +kernel
theorem dX9_likedMarks_29 : decode cX9_likedMarks 29 = .ok (.iconst 1, 1) := by decide +kernel
theorem dX9_likedMarks_30 : decode cX9_likedMarks 30 = .ok (.iload_n 3, 1) := by decide +kernel
theorem dX9_likedMarks_31 : decode cX9_likedMarks 31 = .ok (.ishl, 1) := by decide +kernel
theorem dX9_likedMarks_32 : decode cX9_likedMarks 32 = .ok (.ior, 1) := by decide +kernel
theorem dX9_likedMarks_33 : decode cX9_likedMarks 33 = .ok (.istore_n 2, 1) := by decide +kernel
theorem dX9_likedMarks_34 : decode cX9_likedMarks 34 = .ok (.iinc 3 1, 3) := by decide +kernel
theorem dX9_likedMarks_37 : decode cX9_likedMarks 37 = .ok (.goto (-33), 3) := by decide +kernel
theorem dX9_likedMarks_40 : decode cX9_likedMarks 40 = .ok (.iload_n 2, 1) := by decide +kernel
theorem dX9_likedMarks_41 : decode cX9_likedMarks 41 = .ok (.ireturn, 1) := by decide +kernel
theorem dX9_likedManies_0 : decode cX9_likedManies 0 = .ok (.iconst 0, 1) := by decide +kernel
theorem dX9_likedManies_1 : decode cX9_likedManies 1 = .ok (.istore_n 2, 1) := by decide +kernel
theorem dX9_likedManies_2 : decode cX9_likedManies 2 = .ok (.iconst 1, 1) := by decide +kernel
theorem dX9_likedManies_3 : decode cX9_likedManies 3 = .ok (.istore_n 3, 1) := by decide +kernel
theorem dX9_likedManies_4 : decode cX9_likedManies 4 = .ok (.iload_n 3, 1) := by decide +kernel
theorem dX9_likedManies_5 : decode cX9_likedManies 5 = .ok (.bipush 9, 2) := by decide +kernel
theorem dX9_likedManies_7 : decode cX9_likedManies 7 = .ok (.if_icmp .gt 33, 3) := by decide +kernel
theorem dX9_likedManies_10 : decode cX9_likedManies 10 = .ok (.aload_n 0, 1) := by decide +kernel
theorem dX9_likedManies_11 : decode cX9_likedManies 11 = .ok (.iload_n 1, 1) := by decide +kernel
theorem dX9_likedManies_12 : decode cX9_likedManies 12 = .ok (.aload_n 0, 1) := by decide +kernel
theorem dX9_likedManies_13 : decode cX9_likedManies 13 = .ok (.getfield 18, 3) := by decide +kernel
theorem dX9_likedManies_16 : decode cX9_likedManies 16 = .ok (.getfield 358, 3) := by decide +kernel
theorem dX9_likedManies_19 : decode cX9_likedManies 19 = .ok (.iload_n 1, 1) := by decide +kernel
theorem dX9_likedManies_20 : decode cX9_likedManies 20 = .ok (.iaload, 1) := by decide +kernel
theorem dX9_likedManies_21 : decode cX9_likedManies 21 = .ok (.iload_n 3, 1) := by decide +kernel
theorem dX9_likedManies_22 : decode cX9_likedManies 22 = .ok (.invokevirtual 220, 3) := by decide +kernel
theorem dX9_likedManies_25 : decode cX9_likedManies 25 = .ok (.ifCond .eq 9, 3) := by decide +kernel
theorem dX9_likedManies_28 : decode cX9_likedManies 28 = .ok (.iload_n 2, 1) := by decide +kernel
theorem dX9_likedManies_29 : decode cX9_likedManies 29 = .ok (.iconst 1, 1) := by decide +kernel
theorem dX9_likedManies_30 : decode cX9_likedManies 30 = .ok (.iload_n 3, 1) := by decide +kernel
theorem dX9_likedManies_31 : decode cX9_likedManies 31 = .ok (.ishl, 1) := by decide +kernel
theorem dX9_likedManies_32 : decode cX9_likedManies 32 = .ok (.ior, 1) := by decide +kernel
theorem dX9_likedManies_33 : decode cX9_likedManies 33 = .ok (.istore_n 2, 1) := by decide +kernel
theorem dX9_likedManies_34 : decode cX9_likedManies 34 = .ok (.iinc 3 1, 3) := by decide +kernel
theorem dX9_likedManies_37 : decode cX9_likedManies 37 = .ok (.goto (-33), 3) := by decide +kernel
theorem dX9_likedManies_40 : decode cX9_likedManies 40 = .ok (.iload_n 2, 1) := by decide +kernel
theorem dX9_likedManies_41 : decode cX9_likedManies 41 = .ok (.ireturn, 1) := by decide +kernel
theorem dX9_tallyPlaces_0 : decode cX9_tallyPlaces 0 = .ok (.iconst 0, 1) := by decide +kernel
theorem dX9_tallyPlaces_1 : decode cX9_tallyPlaces 1 = .ok (.istore_n 2, 1) := by decide +kernel
theorem dX9_tallyPlaces_2 : decode cX9_tallyPlaces 2 = .ok (.iload_n 2, 1) := by decide +kernel
theorem dX9_tallyPlaces_3 : decode cX9_tallyPlaces 3 = .ok (.aload_n 0, 1) := by decide +kernel
theorem dX9_tallyPlaces_4 : decode cX9_tallyPlaces 4 = .ok (.getfield 25, 3) := by decide +kernel
theorem dX9_tallyPlaces_7 : decode cX9_tallyPlaces 7 = .ok (.getfield 168, 3) := by decide +kernel
theorem dX9_tallyPlaces_10 : decode cX9_tallyPlaces 10 = .ok (.if_icmp .ge 34, 3) := by decide +kernel
theorem dX9_tallyPlaces_13 : decode cX9_tallyPlaces 13 = .ok (.aload_n 0, 1) := by decide +kernel
theorem dX9_tallyPlaces_14 : decode cX9_tallyPlaces 14 = .ok (.getfield 77, 3) := by decide +kernel
theorem dX9_tallyPlaces_17 : decode cX9_tallyPlaces 17 = .ok (.iload_n 2, 1) := by decide +kernel
theorem dX9_tallyPlaces_18 : decode cX9_tallyPlaces 18 = .ok (.bipush 10, 2) := by decide +kernel
theorem dX9_tallyPlaces_20 : decode cX9_tallyPlaces 20 = .ok (.imul, 1) := by decide +kernel
theorem dX9_tallyPlaces_21 : decode cX9_tallyPlaces 21 = .ok (.aload_n 0, 1) := by decide +kernel
theorem dX9_tallyPlaces_22 : decode cX9_tallyPlaces 22 = .ok (.getfield 56, 3) := by decide +kernel
theorem dX9_tallyPlaces_25 : decode cX9_tallyPlaces 25 = .ok (.iload_n 1, 1) := by decide +kernel
theorem dX9_tallyPlaces_26 : decode cX9_tallyPlaces 26 = .ok (.iload_n 2, 1) := by decide +kernel
theorem dX9_tallyPlaces_27 : decode cX9_tallyPlaces 27 = .ok (.invokevirtual 153, 3) := by decide +kernel
theorem dX9_tallyPlaces_30 : decode cX9_tallyPlaces 30 = .ok (.iadd, 1) := by decide +kernel
theorem dX9_tallyPlaces_31 : decode cX9_tallyPlaces 31 = .ok (.iconst 1, 1) := by decide +kernel
theorem dX9_tallyPlaces_32 : decode cX9_tallyPlaces 32 = .ok (.iadd, 1) := by decide +kernel
theorem dX9_tallyPlaces_33 : decode cX9_tallyPlaces 33 = .ok (.dup2, 1) := by decide +kernel
theorem dX9_tallyPlaces_34 : decode cX9_tallyPlaces 34 = .ok (.iaload, 1) := by decide +kernel
theorem dX9_tallyPlaces_35 : decode cX9_tallyPlaces 35 = .ok (.iconst 1, 1) := by decide +kernel
theorem dX9_tallyPlaces_36 : decode cX9_tallyPlaces 36 = .ok (.iadd, 1) := by decide +kernel
theorem dX9_tallyPlaces_37 : decode cX9_tallyPlaces 37 = .ok (.iastore, 1) := by decide +kernel
theorem dX9_tallyPlaces_38 : decode cX9_tallyPlaces 38 = .ok (.iinc 2 1, 3) := by decide +kernel
theorem dX9_tallyPlaces_41 : decode cX9_tallyPlaces 41 = .ok (.goto (-39), 3) := by decide +kernel
theorem dX9_tallyPlaces_44 : decode cX9_tallyPlaces 44 = .ok (.return_, 1) := by decide +kernel
theorem dX9_greatestTally_0 : decode cX9_greatestTally 0 = .ok (.iconst 0, 1) := by decide +kernel
theorem dX9_greatestTally_1 : decode cX9_greatestTally 1 = .ok (.istore_n 2, 1) := by decide +kernel
theorem dX9_greatestTally_2 : decode cX9_greatestTally 2 = .ok (.iconst 0, 1) := by decide +kernel
theorem dX9_greatestTally_3 : decode cX9_greatestTally 3 = .ok (.istore_n 3, 1) := by decide +kernel
theorem dX9_greatestTally_4 : decode cX9_greatestTally 4 = .ok (.iload_n 3, 1) := by decide +kernel
theorem dX9_greatestTally_5 : decode cX9_greatestTally 5 = .ok (.bipush 10, 2) := by decide +kernel
theorem dX9_greatestTally_7 : decode cX9_greatestTally 7 = .ok (.if_icmp .ge 25, 3) := by decide +kernel
theorem dX9_greatestTally_10 : decode cX9_greatestTally 10 = .ok (.iload_n 2, 1) := by decide +kernel
theorem dX9_greatestTally_11 : decode cX9_greatestTally 11 = .ok (.aload_n 0, 1) := by decide +kernel
theorem dX9_greatestTally_12 : decode cX9_greatestTally 12 = .ok (.getfield 77, 3) := by decide +kernel
theorem dX9_greatestTally_15 : decode cX9_greatestTally 15 = .ok (.iload_n 1, 1) := by decide +kernel
theorem dX9_greatestTally_16 : decode cX9_greatestTally 16 = .ok (.bipush 10, 2) := by decide +kernel
theorem dX9_greatestTally_18 : decode cX9_greatestTally 18 = .ok (.imul, 1) := by decide +kernel
theorem dX9_greatestTally_19 : decode cX9_greatestTally 19 = .ok (.iload_n 3, 1) := by decide +kernel
theorem dX9_greatestTally_20 : decode cX9_greatestTally 20 = .ok (.iadd, 1) := by decide +kernel
theorem dX9_greatestTally_21 : decode cX9_greatestTally 21 = .ok (.iaload, 1) := by decide +kernel
theorem dX9_greatestTally_22 : decode cX9_greatestTally 22 = .ok (.invokestatic 401, 3) := by decide +kernel
theorem dX9_greatestTally_25 : decode cX9_greatestTally 25 = .ok (.istore_n 2, 1) := by decide +kernel
theorem dX9_greatestTally_26 : decode cX9_greatestTally 26 = .ok (.iinc 3 1, 3) := by decide +kernel
theorem dX9_greatestTally_29 : decode cX9_greatestTally 29 = .ok (.goto (-25), 3) := by decide +kernel
theorem dX9_greatestTally_32 : decode cX9_greatestTally 32 = .ok (.iload_n 2, 1) := by decide +kernel
theorem dX9_greatestTally_33 : decode cX9_greatestTally 33 = .ok (.ireturn, 1) := by decide +kernel
theorem dX9_fillBeliefs_0 : decode cX9_fillBeliefs 0 = .ok (.aload_n 0, 1) := by decide +kernel
theorem dX9_fillBeliefs_1 : decode cX9_fillBeliefs 1 = .ok (.getfield 62, 3) := by decide +kernel
theorem dX9_fillBeliefs_4 : decode cX9_fillBeliefs 4 = .ok (.getfield 345, 3) := by decide +kernel
theorem dX9_fillBeliefs_7 : decode cX9_fillBeliefs 7 = .ok (.ifCond .eq 4, 3) := by decide +kernel
theorem dX9_fillBeliefs_10 : decode cX9_fillBeliefs 10 = .ok (.return_, 1) := by decide +kernel
theorem dX9_fillBeliefs_11 : decode cX9_fillBeliefs 11 = .ok (.aload_n 0, 1) := by decide +kernel
theorem dX9_fillBeliefs_12 : decode cX9_fillBeliefs 12 = .ok (.getfield 62, 3) := by decide +kernel
theorem dX9_fillBeliefs_15 : decode cX9_fillBeliefs 15 = .ok (.aload_n 0, 1) := by decide +kernel
theorem dX9_fillBeliefs_16 : decode cX9_fillBeliefs 16 = .ok (.getfield 32, 3) := by decide +kernel
theorem dX9_fillBeliefs_19 : decode cX9_fillBeliefs 19 = .ok (.getfield 134, 3) := by decide +kernel
theorem dX9_fillBeliefs_22 : decode cX9_fillBeliefs 22 = .ok (.putfield 404, 3) := by decide +kernel
theorem dX9_fillBeliefs_25 : decode cX9_fillBeliefs 25 = .ok (.iconst 0, 1) := by decide +kernel
theorem dX9_fillBeliefs_26 : decode cX9_fillBeliefs 26 = .ok (.istore_n 1, 1) := by decide +kernel
theorem dX9_fillBeliefs_27 : decode cX9_fillBeliefs 27 = .ok (.iload_n 1, 1) := by decide +kernel
theorem dX9_fillBeliefs_28 : decode cX9_fillBeliefs 28 = .ok (.iconst 1, 1) := by decide +kernel
theorem dX9_fillBeliefs_29 : decode cX9_fillBeliefs 29 = .ok (.aload_n 0, 1) := by decide +kernel
theorem dX9_fillBeliefs_30 : decode cX9_fillBeliefs 30 = .ok (.getfield 32, 3) := by decide +kernel
theorem dX9_fillBeliefs_33 : decode cX9_fillBeliefs 33 = .ok (.getfield 134, 3) := by decide +kernel
theorem dX9_fillBeliefs_36 : decode cX9_fillBeliefs 36 = .ok (.ishl, 1) := by decide +kernel
theorem dX9_fillBeliefs_37 : decode cX9_fillBeliefs 37 = .ok (.if_icmp .ge 98, 3) := by decide +kernel
theorem dX9_fillBeliefs_40 : decode cX9_fillBeliefs 40 = .ok (.aload_n 0, 1) := by decide +kernel
theorem dX9_fillBeliefs_41 : decode cX9_fillBeliefs 41 = .ok (.getfield 32, 3) := by decide +kernel
theorem dX9_fillBeliefs_44 : decode cX9_fillBeliefs 44 = .ok (.iload_n 1, 1) := by decide +kernel
theorem dX9_fillBeliefs_45 : decode cX9_fillBeliefs 45 = .ok (.invokevirtual 407, 3) := by decide +kernel
theorem dX9_fillBeliefs_48 : decode cX9_fillBeliefs 48 = .ok (.aload_n 0, 1) := by decide +kernel
theorem dX9_fillBeliefs_49 : decode cX9_fillBeliefs 49 = .ok (.getfield 56, 3) := by decide +kernel
theorem dX9_fillBeliefs_52 : decode cX9_fillBeliefs 52 = .ok (.aload_n 0, 1) := by decide +kernel
theorem dX9_fillBeliefs_53 : decode cX9_fillBeliefs 53 = .ok (.getfield 52, 3) := by decide +kernel
theorem dX9_fillBeliefs_56 : decode cX9_fillBeliefs 56 = .ok (.invokevirtual 375, 3) := by decide +kernel
theorem dX9_fillBeliefs_59 : decode cX9_fillBeliefs 59 = .ok (.iconst 0, 1) := by decide +kernel
theorem dX9_fillBeliefs_60 : decode cX9_fillBeliefs 60 = .ok (.istore_n 2, 1) := by decide +kernel
theorem dX9_fillBeliefs_61 : decode cX9_fillBeliefs 61 = .ok (.iload_n 2, 1) := by decide +kernel
theorem dX9_fillBeliefs_62 : decode cX9_fillBeliefs 62 = .ok (.aload_n 0, 1) := by decide +kernel
theorem dX9_fillBeliefs_63 : decode cX9_fillBeliefs 63 = .ok (.getfield 18, 3) := by decide +kernel
theorem dX9_fillBeliefs_66 : decode cX9_fillBeliefs 66 = .ok (.getfield 279, 3) := by decide +kernel
theorem dX9_fillBeliefs_69 : decode cX9_fillBeliefs 69 = .ok (.if_icmp .ge 41, 3) := by decide +kernel
theorem dX9_fillBeliefs_72 : decode cX9_fillBeliefs 72 = .ok (.aload_n 0, 1) := by decide +kernel
theorem dX9_fillBeliefs_73 : decode cX9_fillBeliefs 73 = .ok (.getfield 56, 3) := by decide +kernel
theorem dX9_fillBeliefs_76 : decode cX9_fillBeliefs 76 = .ok (.getfield 355, 3) := by decide +kernel
theorem dX9_fillBeliefs_79 : decode cX9_fillBeliefs 79 = .ok (.iload_n 2, 1) := by decide +kernel
theorem dX9_fillBeliefs_80 : decode cX9_fillBeliefs 80 = .ok (.aload_n 0, 1) := by decide +kernel
theorem dX9_fillBeliefs_81 : decode cX9_fillBeliefs 81 = .ok (.iload_n 2, 1) := by decide +kernel
theorem dX9_fillBeliefs_82 : decode cX9_fillBeliefs 82 = .ok (.aload_n 0, 1) := by decide +kernel
theorem dX9_fillBeliefs_83 : decode cX9_fillBeliefs 83 = .ok (.getfield 18, 3) := by decide +kernel
theorem dX9_fillBeliefs_86 : decode cX9_fillBeliefs 86 = .ok (.getfield 358, 3) := by decide +kernel
theorem dX9_fillBeliefs_89 : decode cX9_fillBeliefs 89 = .ok (.iload_n 2, 1) := by decide +kernel
theorem dX9_fillBeliefs_90 : decode cX9_fillBeliefs 90 = .ok (.iaload, 1) := by decide +kernel
theorem dX9_fillBeliefs_91 : decode cX9_fillBeliefs 91 = .ok (.aload_n 0, 1) := by decide +kernel
theorem dX9_fillBeliefs_92 : decode cX9_fillBeliefs 92 = .ok (.getfield 18, 3) := by decide +kernel
theorem dX9_fillBeliefs_95 : decode cX9_fillBeliefs 95 = .ok (.getfield 217, 3) := by decide +kernel
theorem dX9_fillBeliefs_98 : decode cX9_fillBeliefs 98 = .ok (.iload_n 2, 1) := by decide +kernel
theorem dX9_fillBeliefs_99 : decode cX9_fillBeliefs 99 = .ok (.iaload, 1) := by decide +kernel
theorem dX9_fillBeliefs_100 : decode cX9_fillBeliefs 100 = .ok (.invokevirtual 361, 3) := by decide +kernel
theorem dX9_fillBeliefs_103 : decode cX9_fillBeliefs 103 = .ok (.iastore, 1) := by decide +kernel
theorem dX9_fillBeliefs_104 : decode cX9_fillBeliefs 104 = .ok (.iinc 2 2, 3) := by decide +kernel
theorem dX9_fillBeliefs_107 : decode cX9_fillBeliefs 107 = .ok (.goto (-46), 3) := by decide +kernel
theorem dX9_fillBeliefs_110 : decode cX9_fillBeliefs 110 = .ok (.aload_n 0, 1) := by decide +kernel
theorem dX9_fillBeliefs_111 : decode cX9_fillBeliefs 111 = .ok (.getfield 56, 3) := by decide +kernel
theorem dX9_fillBeliefs_114 : decode cX9_fillBeliefs 114 = .ok (.invokevirtual 364, 3) := by decide +kernel
theorem dX9_fillBeliefs_117 : decode cX9_fillBeliefs 117 = .ok (.aload_n 0, 1) := by decide +kernel
theorem dX9_fillBeliefs_118 : decode cX9_fillBeliefs 118 = .ok (.getfield 62, 3) := by decide +kernel
theorem dX9_fillBeliefs_121 : decode cX9_fillBeliefs 121 = .ok (.iload_n 1, 1) := by decide +kernel
theorem dX9_fillBeliefs_122 : decode cX9_fillBeliefs 122 = .ok (.aload_n 0, 1) := by decide +kernel
theorem dX9_fillBeliefs_123 : decode cX9_fillBeliefs 123 = .ok (.getfield 56, 3) := by decide +kernel
theorem dX9_fillBeliefs_126 : decode cX9_fillBeliefs 126 = .ok (.invokevirtual 410, 3) := by decide +kernel
theorem dX9_fillBeliefs_129 : decode cX9_fillBeliefs 129 = .ok (.iinc 1 1, 3) := by decide +kernel
theorem dX9_fillBeliefs_132 : decode cX9_fillBeliefs 132 = .ok (.goto (-105), 3) := by decide +kernel
theorem dX9_fillBeliefs_135 : decode cX9_fillBeliefs 135 = .ok (.aload_n 0, 1) := by decide +kernel
theorem dX9_fillBeliefs_136 : decode cX9_fillBeliefs 136 = .ok (.getfield 32, 3) := by decide +kernel
theorem dX9_fillBeliefs_139 : decode cX9_fillBeliefs 139 = .ok (.invokevirtual 414, 3) := by decide +kernel
theorem dX9_fillBeliefs_142 : decode cX9_fillBeliefs 142 = .ok (.aload_n 0, 1) := by decide +kernel
theorem dX9_fillBeliefs_143 : decode cX9_fillBeliefs 143 = .ok (.getfield 62, 3) := by decide +kernel
theorem dX9_fillBeliefs_146 : decode cX9_fillBeliefs 146 = .ok (.iconst 1, 1) := by decide +kernel
theorem dX9_fillBeliefs_147 : decode cX9_fillBeliefs 147 = .ok (.putfield 345, 3) := by decide +kernel
theorem dX9_fillBeliefs_150 : decode cX9_fillBeliefs 150 = .ok (.return_, 1) := by decide +kernel
theorem dX10_init_0 : decode cX10_init 0 = .ok (.aload_n 0, 1) := by decide +kernel
theorem dX10_init_1 : decode cX10_init 1 = .ok (.invokespecial 1, 3) := by decide +kernel
theorem dX10_init_4 : decode cX10_init 4 = .ok (.aload_n 0, 1) := by decide +kernel
theorem dX10_init_5 : decode cX10_init 5 = .ok (.iconst 4, 1) := by decide +kernel
theorem dX10_init_6 : decode cX10_init 6 = .ok (.newarray .int, 2) := by decide +kernel
theorem dX10_init_8 : decode cX10_init 8 = .ok (.putfield 7, 3) := by decide +kernel
theorem dX10_init_11 : decode cX10_init 11 = .ok (.aload_n 0, 1) := by decide +kernel
theorem dX10_init_12 : decode cX10_init 12 = .ok (.iconst 4, 1) := by decide +kernel
theorem dX10_init_13 : decode cX10_init 13 = .ok (.newarray .int, 2) := by decide +kernel
theorem dX10_init_15 : decode cX10_init 15 = .ok (.putfield 13, 3) := by decide +kernel
theorem dX10_init_18 : decode cX10_init 18 = .ok (.aload_n 0, 1) := by decide +kernel
theorem dX10_init_19 : decode cX10_init 19 = .ok (.sipush 240, 3) := by decide +kernel
theorem dX10_init_22 : decode cX10_init 22 = .ok (.newarray .int, 2) := by decide +kernel
theorem dX10_init_24 : decode cX10_init 24 = .ok (.putfield 16, 3) := by decide +kernel
theorem dX10_init_27 : decode cX10_init 27 = .ok (.aload_n 0, 1) := by decide +kernel
theorem dX10_init_28 : decode cX10_init 28 = .ok (.bipush 60, 2) := by decide +kernel
theorem dX10_init_30 : decode cX10_init 30 = .ok (.newarray .int, 2) := by decide +kernel
theorem dX10_init_32 : decode cX10_init 32 = .ok (.putfield 19, 3) := by decide +kernel
theorem dX10_init_35 : decode cX10_init 35 = .ok (.aload_n 0, 1) := by decide +kernel
theorem dX10_init_36 : decode cX10_init 36 = .ok (.sipush 128, 3) := by decide +kernel
theorem dX10_init_39 : decode cX10_init 39 = .ok (.newarray .int, 2) := by decide +kernel
theorem dX10_init_41 : decode cX10_init 41 = .ok (.putfield 22, 3) := by decide +kernel
theorem dX10_init_44 : decode cX10_init 44 = .ok (.aload_n 0, 1) := by decide +kernel
theorem dX10_init_45 : decode cX10_init 45 = .ok (.iconst 2, 1) := by decide +kernel
theorem dX10_init_46 : decode cX10_init 46 = .ok (.newarray .int, 2) := by decide +kernel
theorem dX10_init_48 : decode cX10_init 48 = .ok (.putfield 25, 3) := by decide +kernel
theorem dX10_init_51 : decode cX10_init 51 = .ok (.aload_n 0, 1) := by decide +kernel
theorem dX10_init_52 : decode cX10_init 52 = .ok (.bipush 24, 2) := by decide +kernel
theorem dX10_init_54 : decode cX10_init 54 = .ok (.newarray .int, 2) := by decide +kernel
theorem dX10_init_56 : decode cX10_init 56 = .ok (.putfield 28, 3) := by decide +kernel
theorem dX10_init_59 : decode cX10_init 59 = .ok (.aload_n 0, 1) := by decide +kernel
theorem dX10_init_60 : decode cX10_init 60 = .ok (.bipush 56, 2) := by decide +kernel
theorem dX10_init_62 : decode cX10_init 62 = .ok (.newarray .int, 2) := by decide +kernel
theorem dX10_init_64 : decode cX10_init 64 = .ok (.putfield 31, 3) := by decide +kernel
theorem dX10_init_67 : decode cX10_init 67 = .ok (.aload_n 0, 1) := by decide +kernel
theorem dX10_init_68 : decode cX10_init 68 = .ok (.bipush 16, 2) := by decide +kernel
theorem dX10_init_70 : decode cX10_init 70 = .ok (.newarray .int, 2) := by decide +kernel
theorem dX10_init_72 : decode cX10_init 72 = .ok (.putfield 34, 3) := by decide +kernel
theorem dX10_init_75 : decode cX10_init 75 = .ok (.aload_n 0, 1) := by decide +kernel
theorem dX10_init_76 : decode cX10_init 76 = .ok (.bipush 8, 2) := by decide +kernel
theorem dX10_init_78 : decode cX10_init 78 = .ok (.newarray .int, 2) := by decide +kernel
theorem dX10_init_80 : decode cX10_init 80 = .ok (.putfield 37, 3) := by decide +kernel
theorem dX10_init_83 : decode cX10_init 83 = .ok (.aload_n 0, 1) := by decide +kernel
theorem dX10_init_84 : decode cX10_init 84 = .ok (.bipush 64, 2) := by decide +kernel
theorem dX10_init_86 : decode cX10_init 86 = .ok (.newarray .int, 2) := by decide +kernel
theorem dX10_init_88 : decode cX10_init 88 = .ok (.putfield 40, 3) := by decide +kernel
theorem dX10_init_91 : decode cX10_init 91 = .ok (.aload_n 0, 1) := by decide +kernel
theorem dX10_init_92 : decode cX10_init 92 = .ok (.bipush 64, 2) := by decide +kernel
theorem dX10_init_94 : decode cX10_init 94 = .ok (.newarray .int, 2) := by decide +kernel
theorem dX10_init_96 : decode cX10_init 96 = .ok (.putfield 43, 3) := by decide +kernel
theorem dX10_init_99 : decode cX10_init 99 = .ok (.aload_n 0, 1) := by decide +kernel
theorem dX10_init_100 : decode cX10_init 100 = .ok (.bipush 8, 2) := by decide +kernel
theorem dX10_init_102 : decode cX10_init 102 = .ok (.newarray .int, 2) := by decide +kernel
theorem dX10_init_104 : decode cX10_init 104 = .ok (.putfield 46, 3) := by decide +kernel
theorem dX10_init_107 : decode cX10_init 107 = .ok (.aload_n 0, 1) := by decide +kernel
theorem dX10_init_108 : decode cX10_init 108 = .ok (.bipush 24, 2) := by decide +kernel
theorem dX10_init_110 : decode cX10_init 110 = .ok (.newarray .int, 2) := by decide +kernel
theorem dX10_init_112 : decode cX10_init 112 = .ok (.putfield 49, 3) := by decide +kernel
theorem dX10_init_115 : decode cX10_init 115 = .ok (.aload_n 0, 1) := by decide +kernel
theorem dX10_init_116 : decode cX10_init 116 = .ok (.bipush 80, 2) := by decide +kernel
theorem dX10_init_118 : decode cX10_init 118 = .ok (.newarray .int, 2) := by decide +kernel
theorem dX10_init_120 : decode cX10_init 120 = .ok (.putfield 52, 3) := by decide +kernel
theorem dX10_init_123 : decode cX10_init 123 = .ok (.iconst 0, 1) := by decide +kernel
theorem dX10_init_124 : decode cX10_init 124 = .ok (.istore_n 1, 1) := by decide +kernel
theorem dX10_init_125 : decode cX10_init 125 = .ok (.iload_n 1, 1) := by decide +kernel
theorem dX10_init_126 : decode cX10_init 126 = .ok (.iconst 4, 1) := by decide +kernel
theorem dX10_init_127 : decode cX10_init 127 = .ok (.if_icmp .ge 16, 3) := by decide +kernel
theorem dX10_init_130 : decode cX10_init 130 = .ok (.aload_n 0, 1) := by decide +kernel
theorem dX10_init_131 : decode cX10_init 131 = .ok (.getfield 7, 3) := by decide +kernel
theorem dX10_init_134 : decode cX10_init 134 = .ok (.iload_n 1, 1) := by decide +kernel
theorem dX10_init_135 : decode cX10_init 135 = .ok (.iconst (-1), 1) := by decide +kernel
theorem dX10_init_136 : decode cX10_init 136 = .ok (.iastore, 1) := by decide +kernel
theorem dX10_init_137 : decode cX10_init 137 = .ok (.iinc 1 1, 3) := by decide +kernel
theorem dX10_init_140 : decode cX10_init 140 = .ok (.goto (-15), 3) := by decide +kernel
theorem dX10_init_143 : decode cX10_init 143 = .ok (.aload_n 0, 1) := by decide +kernel
theorem dX10_init_144 : decode cX10_init 144 = .ok (.iconst (-1), 1) := by decide +kernel
theorem dX10_init_145 : decode cX10_init 145 = .ok (.putfield 55, 3) := by decide +kernel
theorem dX10_init_148 : decode cX10_init 148 = .ok (.aload_n 0, 1) := by decide +kernel
theorem dX10_init_149 : decode cX10_init 149 = .ok (.sipush 255, 3) := by decide +kernel
theorem dX10_init_152 : decode cX10_init 152 = .ok (.putfield 59, 3) := by decide +kernel
theorem dX10_init_155 : decode cX10_init 155 = .ok (.return_, 1) := by decide +kernel
theorem dX10_in_0 : decode cX10_in 0 = .ok (.lload_n 0, 1) := by decide +kernel
theorem dX10_in_1 : decode cX10_in 1 = .ok (.lload_n 2, 1) := by decide +kernel
theorem dX10_in_2 : decode cX10_in 2 = .ok (.lcmp, 1) := by decide +kernel
theorem dX10_in_3 : decode cX10_in 3 = .ok (.ifCond .lt 14, 3) := by decide +kernel
theorem dX10_in_6 : decode cX10_in 6 = .ok (.lload_n 0, 1) := by decide +kernel
theorem dX10_in_7 : decode cX10_in 7 = .ok (.lload 4, 2) := by decide +kernel
theorem dX10_in_9 : decode cX10_in 9 = .ok (.lcmp, 1) := by decide +kernel
theorem dX10_in_10 : decode cX10_in 10 = .ok (.ifCond .gt 7, 3) := by decide +kernel
theorem dX10_in_13 : decode cX10_in 13 = .ok (.iconst 1, 1) := by decide +kernel
theorem dX10_in_14 : decode cX10_in 14 = .ok (.goto 4, 3) := by decide +kernel
theorem dX10_in_17 : decode cX10_in 17 = .ok (.iconst 0, 1) := by decide +kernel
theorem dX10_in_18 : decode cX10_in 18 = .ok (.ireturn, 1) := by decide +kernel
theorem dX10_no_0 : decode cX10_no 0 = .ok (.ldc2_w 62, 3) := by decide +kernel
theorem dX10_no_3 : decode cX10_no 3 = .ok (.iload_n 0, 1) := by decide +kernel
theorem dX10_no_4 : decode cX10_no 4 = .ok (.i2l, 1) := by decide +kernel
theorem dX10_no_5 : decode cX10_no 5 = .ok (.lsub, 1) := by decide +kernel
theorem dX10_no_6 : decode cX10_no 6 = .ok (.lreturn, 1) := by decide +kernel
theorem dX10_isTwo_0 : decode cX10_isTwo 0 = .ok (.iload_n 0, 1) := by decide +kernel
theorem dX10_isTwo_1 : decode cX10_isTwo 1 = .ok (.i2l, 1) := by decide +kernel
theorem dX10_isTwo_2 : decode cX10_isTwo 2 = .ok (.lconst 0, 1) := by decide +kernel
theorem dX10_isTwo_3 : decode cX10_isTwo 3 = .ok (.lconst 1, 1) := by decide +kernel
theorem dX10_isTwo_4 : decode cX10_isTwo 4 = .ok (.invokestatic 64, 3) := by decide +kernel
theorem dX10_isTwo_7 : decode cX10_isTwo 7 = .ok (.ireturn, 1) := by decide +kernel
theorem dX10_isIn_0 : decode cX10_isIn 0 = .ok (.iload_n 0, 1) := by decide +kernel
theorem dX10_isIn_1 : decode cX10_isIn 1 = .ok (.iload_n 1, 1) := by decide +kernel
theorem dX10_isIn_2 : decode cX10_isIn 2 = .ok (.ishr, 1) := by decide +kernel
theorem dX10_isIn_3 : decode cX10_isIn 3 = .ok (.iconst 1, 1) := by decide +kernel
theorem dX10_isIn_4 : decode cX10_isIn 4 = .ok (.iand, 1) := by decide +kernel
theorem dX10_isIn_5 : decode cX10_isIn 5 = .ok (.iconst 1, 1) := by decide +kernel
theorem dX10_isIn_6 : decode cX10_isIn 6 = .ok (.if_icmp .ne 7, 3) := by decide +kernel
theorem dX10_isIn_9 : decode cX10_isIn 9 = .ok (.iconst 1, 1) := by decide +kernel
theorem dX10_isIn_10 : decode cX10_isIn 10 = .ok (.goto 4, 3) := by decide +kernel
theorem dX10_isIn_13 : decode cX10_isIn 13 = .ok (.iconst 0, 1) := by decide +kernel
theorem dX10_isIn_14 : decode cX10_isIn 14 = .ok (.ireturn, 1) := by decide +kernel
theorem dX10_ones_0 : decode cX10_ones 0 = .ok (.iconst 0, 1) := by decide +kernel
theorem dX10_ones_1 : decode cX10_ones 1 = .ok (.istore_n 1, 1) := by decide +kernel
theorem dX10_ones_2 : decode cX10_ones 2 = .ok (.iload_n 0, 1) := by decide +kernel
theorem dX10_ones_3 : decode cX10_ones 3 = .ok (.istore_n 2, 1) := by decide +kernel
theorem dX10_ones_4 : decode cX10_ones 4 = .ok (.iload_n 2, 1) := by decide +kernel
theorem dX10_ones_5 : decode cX10_ones 5 = .ok (.ifCond .eq 15, 3) := by decide +kernel
theorem dX10_ones_8 : decode cX10_ones 8 = .ok (.iinc 1 1, 3) := by decide +kernel
theorem dX10_ones_11 : decode cX10_ones 11 = .ok (.iload_n 2, 1) := by decide +kernel
theorem dX10_ones_12 : decode cX10_ones 12 = .ok (.iload_n 2, 1) := by decide +kernel
theorem dX10_ones_13 : decode cX10_ones 13 = .ok (.iconst 1, 1) := by decide +kernel
theorem dX10_ones_14 : decode cX10_ones 14 = .ok (.isub, 1) := by decide +kernel
theorem dX10_ones_15 : decode cX10_ones 15 = .ok (.iand, 1) := by decide +kernel
theorem dX10_ones_16 : decode cX10_ones 16 = .ok (.istore_n 2, 1) := by decide +kernel
theorem dX10_ones_17 : decode cX10_ones 17 = .ok (.goto (-13), 3) := by decide +kernel
theorem dX10_ones_20 : decode cX10_ones 20 = .ok (.iload_n 1, 1) := by decide +kernel
theorem dX10_ones_21 : decode cX10_ones 21 = .ok (.ireturn, 1) := by decide +kernel
theorem dX10_lesser_0 : decode cX10_lesser 0 = .ok (.iload_n 0, 1) := by decide +kernel
theorem dX10_lesser_1 : decode cX10_lesser 1 = .ok (.iload_n 1, 1) := by decide +kernel
theorem dX10_lesser_2 : decode cX10_lesser 2 = .ok (.if_icmp .ge 7, 3) := by decide +kernel
theorem dX10_lesser_5 : decode cX10_lesser 5 = .ok (.iload_n 0, 1) := by decide +kernel
theorem dX10_lesser_6 : decode cX10_lesser 6 = .ok (.goto 4, 3) := by decide +kernel
theorem dX10_lesser_9 : decode cX10_lesser 9 = .ok (.iload_n 1, 1) := by decide +kernel
theorem dX10_lesser_10 : decode cX10_lesser 10 = .ok (.ireturn, 1) := by decide +kernel
theorem dX10_part_0 : decode cX10_part 0 = .ok (.lload_n 0, 1) := by decide +kernel
theorem dX10_part_1 : decode cX10_part 1 = .ok (.lstore 5, 2) := by decide +kernel
theorem dX10_part_3 : decode cX10_part 3 = .ok (.lload_n 2, 1) := by decide +kernel
theorem dX10_part_4 : decode cX10_part 4 = .ok (.lstore 7, 2) := by decide +kernel
theorem dX10_part_6 : decode cX10_part 6 = .ok (.lload 7, 2) := by decide +kernel
theorem dX10_part_8 : decode cX10_part 8 = .ok (.lconst 0, 1) := by decide +kernel
theorem dX10_part_9 : decode cX10_part 9 = .ok (.lcmp, 1) := by decide +kernel
theorem dX10_part_10 : decode cX10_part 10 = .ok (.ifCond .eq 21, 3) := by decide +kernel
theorem dX10_part_13 : decode cX10_part 13 = .ok (.lload 5, 2) := by decide +kernel
theorem dX10_part_15 : decode cX10_part 15 = .ok (.lload 7, 2) := by decide +kernel
theorem dX10_part_17 : decode cX10_part 17 = .ok (.lrem, 1) := by decide +kernel
theorem dX10_part_18 : decode cX10_part 18 = .ok (.lstore 9, 2) := by decide +kernel
theorem dX10_part_20 : decode cX10_part 20 = .ok (.lload 7, 2) := by decide +kernel
theorem dX10_part_22 : decode cX10_part 22 = .ok (.lstore 5, 2) := by decide +kernel
theorem dX10_part_24 : decode cX10_part 24 = .ok (.lload 9, 2) := by decide +kernel
theorem dX10_part_26 : decode cX10_part 26 = .ok (.lstore 7, 2) := by decide +kernel
theorem dX10_part_28 : decode cX10_part 28 = .ok (.goto (-22), 3) := by decide +kernel
theorem dX10_part_31 : decode cX10_part 31 = .ok (.iload 4, 2) := by decide +kernel
theorem dX10_part_33 : decode cX10_part 33 = .ok (.ifCond .ne 7, 3) := by decide +kernel
theorem dX10_part_36 : decode cX10_part 36 = .ok (.lload_n 0, 1) := by decide +kernel
theorem dX10_part_37 : decode cX10_part 37 = .ok (.goto 4, 3) := by decide +kernel
theorem dX10_part_40 : decode cX10_part 40 = .ok (.lload_n 2, 1) := by decide +kernel
theorem dX10_part_41 : decode cX10_part 41 = .ok (.lload 5, 2) := by decide +kernel
theorem dX10_part_43 : decode cX10_part 43 = .ok (.ldiv, 1) := by decide +kernel
theorem dX10_part_44 : decode cX10_part 44 = .ok (.lreturn, 1) := by decide +kernel
theorem dX10_finds_0 : decode cX10_finds 0 = .ok (.aload_n 0, 1) := by decide +kernel
theorem dX10_finds_1 : decode cX10_finds 1 = .ok (.iload_n 1, 1) := by decide +kernel
theorem dX10_finds_2 : decode cX10_finds 2 = .ok (.putfield 68, 3) := by decide +kernel
theorem dX10_finds_5 : decode cX10_finds 5 = .ok (.bipush (-10), 2) := by decide +kernel
theorem dX10_finds_7 : decode cX10_finds 7 = .ok (.iload_n 1, 1) := by decide +kernel
theorem dX10_finds_8 : decode cX10_finds 8 = .ok (.isub, 1) := by decide +kernel
theorem dX10_finds_9 : decode cX10_finds 9 = .ok (.ireturn, 1) := by decide +kernel
theorem dX10_isSheet_0 : decode cX10_isSheet 0 = .ok (.iload_n 0, 1) := by decide +kernel
theorem dX10_isSheet_1 : decode cX10_isSheet 1 = .ok (.i2l, 1) := by decide +kernel
theorem dX10_isSheet_2 : decode cX10_isSheet 2 = .ok (.lconst 0, 1) := by decide +kernel
theorem dX10_isSheet_3 : decode cX10_isSheet 3 = .ok (.ldc2_w 71, 3) := by decide +kernel
theorem dX10_isSheet_6 : decode cX10_isSheet 6 = .ok (.invokestatic 64, 3) := by decide +kernel
theorem dX10_isSheet_9 : decode cX10_isSheet 9 = .ok (.ireturn, 1) := by decide +kernel
theorem dX10_sheet_0 : decode cX10_sheet 0 = .ok (.iload_n 1, 1) := by decide +kernel
theorem dX10_sheet_1 : decode cX10_sheet 1 = .ok (.invokestatic 73, 3) := by decide +kernel
theorem dX10_sheet_4 : decode cX10_sheet 4 = .ok (.ifCond .eq 21, 3) := by decide +kernel
theorem dX10_sheet_7 : decode cX10_sheet 7 = .ok (.iload_n 2, 1) := by decide +kernel
theorem dX10_sheet_8 : decode cX10_sheet 8 = .ok (.i2l, 1) := by decide +kernel
theorem dX10_sheet_9 : decode cX10_sheet 9 = .ok (.lconst 0, 1) := by decide +kernel
theorem dX10_sheet_10 : decode cX10_sheet 10 = .ok (.ldc2_w 77, 3) := by decide +kernel
theorem dX10_sheet_13 : decode cX10_sheet 13 = .ok (.invokestatic 64, 3) := by decide +kernel
theorem dX10_sheet_16 : decode cX10_sheet 16 = .ok (.ifCond .eq 9, 3) := by decide +kernel
theorem dX10_sheet_19 : decode cX10_sheet 19 = .ok (.iload_n 3, 1) := by decide +kernel
theorem dX10_sheet_20 : decode cX10_sheet 20 = .ok (.bipush 60, 2) := by decide +kernel
theorem dX10_sheet_22 : decode cX10_sheet 22 = .ok (.if_icmp .le 6, 3) := by decide +kernel
theorem dX10_sheet_25 : decode cX10_sheet 25 = .ok (.bipush (-2), 2) := by decide +kernel
theorem dX10_sheet_27 : decode cX10_sheet 27 = .ok (.ireturn, 1) := by decide +kernel
theorem dX10_sheet_28 : decode cX10_sheet 28 = .ok (.iload_n 3, 1) := by decide +kernel
theorem dX10_sheet_29 : decode cX10_sheet 29 = .ok (.ifCond .ge 9, 3) := by decide +kernel
theorem dX10_sheet_32 : decode cX10_sheet 32 = .ok (.aload_n 0, 1) := by decide +kernel
theorem dX10_sheet_33 : decode cX10_sheet 33 = .ok (.iconst 5, 1) := by decide +kernel
theorem dX10_sheet_34 : decode cX10_sheet 34 = .ok (.invokevirtual 79, 3) := by decide +kernel
theorem dX10_sheet_37 : decode cX10_sheet 37 = .ok (.ireturn, 1) := by decide +kernel
theorem dX10_sheet_38 : decode cX10_sheet 38 = .ok (.aload_n 0, 1) := by decide +kernel
theorem dX10_sheet_39 : decode cX10_sheet 39 = .ok (.getfield 7, 3) := by decide +kernel
theorem dX10_sheet_42 : decode cX10_sheet 42 = .ok (.iload_n 1, 1) := by decide +kernel
theorem dX10_sheet_43 : decode cX10_sheet 43 = .ok (.iload_n 2, 1) := by decide +kernel
theorem dX10_sheet_44 : decode cX10_sheet 44 = .ok (.iastore, 1) := by decide +kernel
theorem dX10_sheet_45 : decode cX10_sheet 45 = .ok (.aload_n 0, 1) := by decide +kernel
theorem dX10_sheet_46 : decode cX10_sheet 46 = .ok (.getfield 13, 3) := by decide +kernel
theorem dX10_sheet_49 : decode cX10_sheet 49 = .ok (.iload_n 1, 1) := by decide +kernel
theorem dX10_sheet_50 : decode cX10_sheet 50 = .ok (.iload_n 3, 1) := by decide +kernel
theorem dX10_sheet_51 : decode cX10_sheet 51 = .ok (.iastore, 1) := by decide +kernel
theorem dX10_sheet_52 : decode cX10_sheet 52 = .ok (.iconst 0, 1) := by decide +kernel
theorem dX10_sheet_53 : decode cX10_sheet 53 = .ok (.istore 4, 2) := by decide +kernel
theorem dX10_sheet_55 : decode cX10_sheet 55 = .ok (.iload 4, 2) := by decide +kernel
theorem dX10_sheet_57 : decode cX10_sheet 57 = .ok (.iload_n 3, 1) := by decide +kernel
theorem dX10_sheet_58 : decode cX10_sheet 58 = .ok (.if_icmp .ge 22, 3) := by decide +kernel
theorem dX10_sheet_61 : decode cX10_sheet 61 = .ok (.aload_n 0, 1) := by decide +kernel
theorem dX10_sheet_62 : decode cX10_sheet 62 = .ok (.getfield 16, 3) := by decide +kernel
theorem dX10_sheet_65 : decode cX10_sheet 65 = .ok (.bipush 60, 2) := by decide +kernel
theorem dX10_sheet_67 : decode cX10_sheet 67 = .ok (.iload_n 1, 1) := by decide +kernel
theorem dX10_sheet_68 : decode cX10_sheet 68 = .ok (.imul, 1) := by decide +kernel
theorem dX10_sheet_69 : decode cX10_sheet 69 = .ok (.iload 4, 2) := by decide +kernel
theorem dX10_sheet_71 : decode cX10_sheet 71 = .ok (.iadd, 1) := by decide +kernel
theorem dX10_sheet_72 : decode cX10_sheet 72 = .ok (.iconst 0, 1) := by decide +kernel
theorem dX10_sheet_73 : decode cX10_sheet 73 = .ok (.iastore, 1) := by decide +kernel
theorem dX10_sheet_74 : decode cX10_sheet 74 = .ok (.iinc 4 1, 3) := by decide +kernel
theorem dX10_sheet_77 : decode cX10_sheet 77 = .ok (.goto (-22), 3) := by decide +kernel
theorem dX10_sheet_80 : decode cX10_sheet 80 = .ok (.iload_n 3, 1) := by decide +kernel
theorem dX10_sheet_81 : decode cX10_sheet 81 = .ok (.ireturn, 1) := by decide +kernel
theorem dX10_lose_0 : decode cX10_lose 0 = .ok (.iload_n 1, 1) := by decide +kernel
theorem dX10_lose_1 : decode cX10_lose 1 = .ok (.invokestatic 73, 3) := by decide +kernel
theorem dX10_lose_4 : decode cX10_lose 4 = .ok (.ifCond .ne 6, 3) := by decide +kernel
theorem dX10_lose_7 : decode cX10_lose 7 = .ok (.bipush (-2), 2) := by decide +kernel
theorem dX10_lose_9 : decode cX10_lose 9 = .ok (.ireturn, 1) := by decide +kernel
theorem dX10_lose_10 : decode cX10_lose 10 = .ok (.aload_n 0, 1) := by decide +kernel
theorem dX10_lose_11 : decode cX10_lose 11 = .ok (.getfield 7, 3) := by decide +kernel
theorem dX10_lose_14 : decode cX10_lose 14 = .ok (.iload_n 1, 1) := by decide +kernel
theorem dX10_lose_15 : decode cX10_lose 15 = .ok (.iaload, 1) := by decide +kernel
theorem dX10_lose_16 : decode cX10_lose 16 = .ok (.ifCond .ge 9, 3) := by decide +kernel
theorem dX10_lose_19 : decode cX10_lose 19 = .ok (.aload_n 0, 1) := by decide +kernel
theorem dX10_lose_20 : decode cX10_lose 20 = .ok (.iconst 1, 1) := by decide +kernel
theorem dX10_lose_21 : decode cX10_lose 21 = .ok (.invokevirtual 79, 3) := by decide +kernel
theorem dX10_lose_24 : decode cX10_lose 24 = .ok (.ireturn, 1) := by decide +kernel
theorem dX10_lose_25 : decode cX10_lose 25 = .ok (.aload_n 0, 1) := by decide +kernel
theorem dX10_lose_26 : decode cX10_lose 26 = .ok (.getfield 7, 3) := by decide +kernel
theorem dX10_lose_29 : decode cX10_lose 29 = .ok (.iload_n 1, 1) := by decide +kernel
theorem dX10_lose_30 : decode cX10_lose 30 = .ok (.iconst (-1), 1) := by decide +kernel
theorem dX10_lose_31 : decode cX10_lose 31 = .ok (.iastore, 1) := by decide +kernel
theorem dX10_lose_32 : decode cX10_lose 32 = .ok (.aload_n 0, 1) := by decide +kernel
theorem dX10_lose_33 : decode cX10_lose 33 = .ok (.getfield 13, 3) := by decide +kernel
theorem dX10_lose_36 : decode cX10_lose 36 = .ok (.iload_n 1, 1) := by decide +kernel
theorem dX10_lose_37 : decode cX10_lose 37 = .ok (.iaload, 1) := by decide +kernel
theorem dX10_lose_38 : decode cX10_lose 38 = .ok (.ireturn, 1) := by decide +kernel
theorem dX10_lacks_0 : decode cX10_lacks 0 = .ok (.aload_n 0, 1) := by decide +kernel
theorem dX10_lacks_1 : decode cX10_lacks 1 = .ok (.getfield 7, 3) := by decide +kernel
theorem dX10_lacks_4 : decode cX10_lacks 4 = .ok (.iload_n 1, 1) := by decide +kernel
theorem dX10_lacks_5 : decode cX10_lacks 5 = .ok (.iaload, 1) := by decide +kernel
theorem dX10_lacks_6 : decode cX10_lacks 6 = .ok (.ifCond .ge 9, 3) := by decide +kernel
theorem dX10_lacks_9 : decode cX10_lacks 9 = .ok (.aload_n 0, 1) := by decide +kernel
theorem dX10_lacks_10 : decode cX10_lacks 10 = .ok (.iconst 1, 1) := by decide +kernel
theorem dX10_lacks_11 : decode cX10_lacks 11 = .ok (.invokevirtual 79, 3) := by decide +kernel
theorem dX10_lacks_14 : decode cX10_lacks 14 = .ok (.ireturn, 1) := by decide +kernel
theorem dX10_lacks_15 : decode cX10_lacks 15 = .ok (.aload_n 0, 1) := by decide +kernel
theorem dX10_lacks_16 : decode cX10_lacks 16 = .ok (.getfield 7, 3) := by decide +kernel
theorem dX10_lacks_19 : decode cX10_lacks 19 = .ok (.iload_n 1, 1) := by decide +kernel
theorem dX10_lacks_20 : decode cX10_lacks 20 = .ok (.iaload, 1) := by decide +kernel
theorem dX10_lacks_21 : decode cX10_lacks 21 = .ok (.iload_n 2, 1) := by decide +kernel
theorem dX10_lacks_22 : decode cX10_lacks 22 = .ok (.if_icmp .eq 9, 3) := by decide +kernel
theorem dX10_lacks_25 : decode cX10_lacks 25 = .ok (.aload_n 0, 1) := by decide +kernel
theorem dX10_lacks_26 : decode cX10_lacks 26 = .ok (.iconst 3, 1) := by decide +kernel
theorem dX10_lacks_27 : decode cX10_lacks 27 = .ok (.invokevirtual 79, 3) := by decide +kernel
theorem dX10_lacks_30 : decode cX10_lacks 30 = .ok (.ireturn, 1) := by decide +kernel
theorem dX10_lacks_31 : decode cX10_lacks 31 = .ok (.iload_n 3, 1) := by decide +kernel
theorem dX10_lacks_32 : decode cX10_lacks 32 = .ok (.i2l, 1) := by decide +kernel
theorem dX10_lacks_33 : decode cX10_lacks 33 = .ok (.lconst 0, 1) := by decide +kernel
theorem dX10_lacks_34 : decode cX10_lacks 34 = .ok (.aload_n 0, 1) := by decide +kernel
theorem dX10_lacks_35 : decode cX10_lacks 35 = .ok (.getfield 13, 3) := by decide +kernel
theorem dX10_lacks_38 : decode cX10_lacks 38 = .ok (.iload_n 1, 1) := by decide +kernel
theorem dX10_lacks_39 : decode cX10_lacks 39 = .ok (.iaload, 1) := by decide +kernel
theorem dX10_lacks_40 : decode cX10_lacks 40 = .ok (.iconst 1, 1) := by decide +kernel
theorem dX10_lacks_41 : decode cX10_lacks 41 = .ok (.isub, 1) := by decide +kernel
theorem dX10_lacks_42 : decode cX10_lacks 42 = .ok (.i2l, 1) := by decide +kernel
theorem dX10_lacks_43 : decode cX10_lacks 43 = .ok (.invokestatic 64, 3) := by decide +kernel
theorem dX10_lacks_46 : decode cX10_lacks 46 = .ok (.ifCond .eq 7, 3) := by decide +kernel
theorem dX10_lacks_49 : decode cX10_lacks 49 = .ok (.iconst 0, 1) := by decide +kernel
theorem dX10_lacks_50 : decode cX10_lacks 50 = .ok (.goto 8, 3) := by decide +kernel
theorem dX10_lacks_53 : decode cX10_lacks 53 = .ok (.aload_n 0, 1) := by decide +kernel
theorem dX10_lacks_54 : decode cX10_lacks 54 = .ok (.iconst 2, 1) := by decide +kernel
theorem dX10_lacks_55 : decode cX10_lacks 55 = .ok (.invokevirtual 79, 3) := by decide +kernel
theorem dX10_lacks_58 : decode cX10_lacks 58 = .ok (.ireturn, 1) := by decide +kernel
theorem dX10_cut_0 : decode cX10_cut 0 = .ok (.iload_n 0, 1) := by decide +kernel
theorem dX10_cut_1 : decode cX10_cut 1 = .ok (.ifCond .ne 8, 3) := by decide +kernel
theorem dX10_cut_4 : decode cX10_cut 4 = .ok (.iload_n 1, 1) := by decide +kernel
theorem dX10_cut_5 : decode cX10_cut 5 = .ok (.i2b, 1) := by decide +kernel
theorem dX10_cut_6 : decode cX10_cut 6 = .ok (.goto 14, 3) := by decide +kernel
theorem dX10_cut_9 : decode cX10_cut 9 = .ok (.iload_n 0, 1) := by decide +kernel
theorem dX10_cut_10 : decode cX10_cut 10 = .ok (.iconst 1, 1) := by decide +kernel
theorem dX10_cut_11 : decode cX10_cut 11 = .ok (.if_icmp .ne 8, 3) := by decide +kernel
theorem dX10_cut_14 : decode cX10_cut 14 = .ok (.iload_n 1, 1) := by decide +kernel
theorem dX10_cut_15 : decode cX10_cut 15 = .ok (.i2s, 1) := by decide +kernel
theorem dX10_cut_16 : decode cX10_cut 16 = .ok (.goto 4, 3) := by decide +kernel
theorem dX10_cut_19 : decode cX10_cut 19 = .ok (.iload_n 1, 1) := by decide +kernel
theorem dX10_cut_20 : decode cX10_cut 20 = .ok (.ireturn, 1) := by decide +kernel
theorem dX10_lay_0 : decode cX10_lay 0 = .ok (.iload_n 1, 1) := by decide +kernel
theorem dX10_lay_1 : decode cX10_lay 1 = .ok (.invokestatic 73, 3) := by decide +kernel
theorem dX10_lay_4 : decode cX10_lay 4 = .ok (.ifCond .eq 15, 3) := by decide +kernel
theorem dX10_lay_7 : decode cX10_lay 7 = .ok (.iload_n 2, 1) := by decide +kernel
theorem dX10_lay_8 : decode cX10_lay 8 = .ok (.i2l, 1) := by decide +kernel
theorem dX10_lay_9 : decode cX10_lay 9 = .ok (.lconst 0, 1) := by decide +kernel
theorem dX10_lay_10 : decode cX10_lay 10 = .ok (.ldc2_w 77, 3) := by decide +kernel
theorem dX10_lay_13 : decode cX10_lay 13 = .ok (.invokestatic 64, 3) := by decide +kernel
theorem dX10_lay_16 : decode cX10_lay 16 = .ok (.ifCond .ne 6, 3) := by decide +kernel
theorem dX10_lay_19 : decode cX10_lay 19 = .ok (.bipush (-2), 2) := by decide +kernel
theorem dX10_lay_21 : decode cX10_lay 21 = .ok (.ireturn, 1) := by decide +kernel
theorem dX10_lay_22 : decode cX10_lay 22 = .ok (.aload_n 0, 1) := by decide +kernel
theorem dX10_lay_23 : decode cX10_lay 23 = .ok (.iload_n 1, 1) := by decide +kernel
theorem dX10_lay_24 : decode cX10_lay 24 = .ok (.iload_n 2, 1) := by decide +kernel
theorem dX10_lay_25 : decode cX10_lay 25 = .ok (.iload_n 3, 1) := by decide +kernel
theorem dX10_lay_26 : decode cX10_lay 26 = .ok (.invokevirtual 83, 3) := by decide +kernel
theorem dX10_lay_29 : decode cX10_lay 29 = .ok (.istore 5, 2) := by decide +kernel
theorem dX10_lay_31 : decode cX10_lay 31 = .ok (.iload 5, 2) := by decide +kernel
theorem dX10_lay_33 : decode cX10_lay 33 = .ok (.ifCond .eq 6, 3) := by decide +kernel
theorem dX10_lay_36 : decode cX10_lay 36 = .ok (.iload 5, 2) := by decide +kernel
theorem dX10_lay_38 : decode cX10_lay 38 = .ok (.ireturn, 1) := by decide +kernel
theorem dX10_lay_39 : decode cX10_lay 39 = .ok (.aload_n 0, 1) := by decide +kernel
theorem dX10_lay_40 : decode cX10_lay 40 = .ok (.getfield 16, 3) := by decide +kernel
theorem dX10_lay_43 : decode cX10_lay 43 = .ok (.bipush 60, 2) := by decide +kernel
theorem dX10_lay_45 : decode cX10_lay 45 = .ok (.iload_n 1, 1) := by decide +kernel
theorem dX10_lay_46 : decode cX10_lay 46 = .ok (.imul, 1) := by decide +kernel
theorem dX10_lay_47 : decode cX10_lay 47 = .ok (.iload_n 3, 1) := by decide +kernel
theorem dX10_lay_48 : decode cX10_lay 48 = .ok (.iadd, 1) := by decide +kernel
theorem dX10_lay_49 : decode cX10_lay 49 = .ok (.iload_n 2, 1) := by decide +kernel
theorem dX10_lay_50 : decode cX10_lay 50 = .ok (.iload 4, 2) := by decide +kernel
theorem dX10_lay_52 : decode cX10_lay 52 = .ok (.invokestatic 87, 3) := by decide +kernel
theorem dX10_lay_55 : decode cX10_lay 55 = .ok (.iastore, 1) := by decide +kernel
theorem dX10_lay_56 : decode cX10_lay 56 = .ok (.iconst 1, 1) := by decide +kernel
theorem dX10_lay_57 : decode cX10_lay 57 = .ok (.ireturn, 1) := by decide +kernel
theorem dX10_get_0 : decode cX10_get 0 = .ok (.iload_n 1, 1) := by decide +kernel
theorem dX10_get_1 : decode cX10_get 1 = .ok (.invokestatic 73, 3) := by decide +kernel
theorem dX10_get_4 : decode cX10_get 4 = .ok (.ifCond .eq 25, 3) := by decide +kernel
theorem dX10_get_7 : decode cX10_get 7 = .ok (.iload_n 2, 1) := by decide +kernel
theorem dX10_get_8 : decode cX10_get 8 = .ok (.i2l, 1) := by decide +kernel
theorem dX10_get_9 : decode cX10_get 9 = .ok (.lconst 0, 1) := by decide +kernel
theorem dX10_get_10 : decode cX10_get 10 = .ok (.ldc2_w 77, 3) := by decide +kernel
theorem dX10_get_13 : decode cX10_get 13 = .ok (.invokestatic 64, 3) := by decide +kernel
theorem dX10_get_16 : decode cX10_get 16 = .ok (.ifCond .eq 13, 3) := by decide +kernel
theorem dX10_get_19 : decode cX10_get 19 = .ok (.aload_n 0, 1) := by decide +kernel
theorem dX10_get_20 : decode cX10_get 20 = .ok (.iload_n 1, 1) := by decide +kernel
theorem dX10_get_21 : decode cX10_get 21 = .ok (.iload_n 2, 1) := by decide +kernel
theorem dX10_get_22 : decode cX10_get 22 = .ok (.iload_n 3, 1) := by decide +kernel
theorem dX10_get_23 : decode cX10_get 23 = .ok (.invokevirtual 83, 3) := by decide +kernel
theorem dX10_get_26 : decode cX10_get 26 = .ok (.ifCond .eq 6, 3) := by decide +kernel
theorem dX10_get_29 : decode cX10_get 29 = .ok (.ldc 91, 2) := by decide +kernel
theorem dX10_get_31 : decode cX10_get 31 = .ok (.ireturn, 1) := by decide +kernel
theorem dX10_get_32 : decode cX10_get 32 = .ok (.aload_n 0, 1) := by decide +kernel
theorem dX10_get_33 : decode cX10_get 33 = .ok (.getfield 16, 3) := by decide +kernel
theorem dX10_get_36 : decode cX10_get 36 = .ok (.bipush 60, 2) := by decide +kernel
theorem dX10_get_38 : decode cX10_get 38 = .ok (.iload_n 1, 1) := by decide +kernel
theorem dX10_get_39 : decode cX10_get 39 = .ok (.imul, 1) := by decide +kernel
theorem dX10_get_40 : decode cX10_get 40 = .ok (.iload_n 3, 1) := by decide +kernel
theorem dX10_get_41 : decode cX10_get 41 = .ok (.iadd, 1) := by decide +kernel
theorem dX10_get_42 : decode cX10_get 42 = .ok (.iaload, 1) := by decide +kernel
theorem dX10_get_43 : decode cX10_get 43 = .ok (.ireturn, 1) := by decide +kernel
theorem dX10_copy_0 : decode cX10_copy 0 = .ok (.iload_n 1, 1) := by decide +kernel
theorem dX10_copy_1 : decode cX10_copy 1 = .ok (.invokestatic 73, 3) := by decide +kernel
theorem dX10_copy_4 : decode cX10_copy 4 = .ok (.ifCond .eq 10, 3) := by decide +kernel
theorem dX10_copy_7 : decode cX10_copy 7 = .ok (.iload_n 3, 1) := by decide +kernel
theorem dX10_copy_8 : decode cX10_copy 8 = .ok (.invokestatic 73, 3) := by decide +kernel
theorem dX10_copy_11 : decode cX10_copy 11 = .ok (.ifCond .ne 6, 3) := by decide +kernel
theorem dX10_copy_14 : decode cX10_copy 14 = .ok (.bipush (-2), 2) := by decide +kernel
theorem dX10_copy_16 : decode cX10_copy 16 = .ok (.ireturn, 1) := by decide +kernel
theorem dX10_copy_17 : decode cX10_copy 17 = .ok (.aload_n 0, 1) := by decide +kernel
theorem dX10_copy_18 : decode cX10_copy 18 = .ok (.getfield 7, 3) := by decide +kernel
theorem dX10_copy_21 : decode cX10_copy 21 = .ok (.iload_n 1, 1) := by decide +kernel
theorem dX10_copy_22 : decode cX10_copy 22 = .ok (.iaload, 1) := by decide +kernel
theorem dX10_copy_23 : decode cX10_copy 23 = .ok (.ifCond .lt 12, 3) := by decide +kernel
theorem dX10_copy_26 : decode cX10_copy 26 = .ok (.aload_n 0, 1) := by decide +kernel
theorem dX10_copy_27 : decode cX10_copy 27 = .ok (.getfield 7, 3) := by decide +kernel
theorem dX10_copy_30 : decode cX10_copy 30 = .ok (.iload_n 3, 1) := by decide +kernel
theorem dX10_copy_31 : decode cX10_copy 31 = .ok (.iaload, 1) := by decide +kernel
theorem dX10_copy_32 : decode cX10_copy 32 = .ok (.ifCond .ge 9, 3) := by decide +kernel
theorem dX10_copy_35 : decode cX10_copy 35 = .ok (.aload_n 0, 1) := by decide +kernel
theorem dX10_copy_36 : decode cX10_copy 36 = .ok (.iconst 1, 1) := by decide +kernel
theorem dX10_copy_37 : decode cX10_copy 37 = .ok (.invokevirtual 79, 3) := by decide +kernel
theorem dX10_copy_40 : decode cX10_copy 40 = .ok (.ireturn, 1) := by decide +kernel
theorem dX10_copy_41 : decode cX10_copy 41 = .ok (.aload_n 0, 1) := by decide +kernel
theorem dX10_copy_42 : decode cX10_copy 42 = .ok (.getfield 7, 3) := by decide +kernel
theorem dX10_copy_45 : decode cX10_copy 45 = .ok (.iload_n 1, 1) := by decide +kernel
theorem dX10_copy_46 : decode cX10_copy 46 = .ok (.iaload, 1) := by decide +kernel
theorem dX10_copy_47 : decode cX10_copy 47 = .ok (.aload_n 0, 1) := by decide +kernel
theorem dX10_copy_48 : decode cX10_copy 48 = .ok (.getfield 7, 3) := by decide +kernel
theorem dX10_copy_51 : decode cX10_copy 51 = .ok (.iload_n 3, 1) := by decide +kernel
theorem dX10_copy_52 : decode cX10_copy 52 = .ok (.iaload, 1) := by decide +kernel
theorem dX10_copy_53 : decode cX10_copy 53 = .ok (.if_icmp .eq 9, 3) := by decide +kernel
theorem dX10_copy_56 : decode cX10_copy 56 = .ok (.aload_n 0, 1) := by decide +kernel
theorem dX10_copy_57 : decode cX10_copy 57 = .ok (.iconst 4, 1) := by decide +kernel
theorem dX10_copy_58 : decode cX10_copy 58 = .ok (.invokevirtual 79, 3) := by decide +kernel
theorem dX10_copy_61 : decode cX10_copy 61 = .ok (.ireturn, 1) := by decide +kernel
theorem dX10_copy_62 : decode cX10_copy 62 = .ok (.iload_n 2, 1) := by decide +kernel
theorem dX10_copy_63 : decode cX10_copy 63 = .ok (.ifCond .lt 48, 3) := by decide +kernel
theorem dX10_copy_66 : decode cX10_copy 66 = .ok (.iload 4, 2) := by decide +kernel
theorem dX10_copy_68 : decode cX10_copy 68 = .ok (.ifCond .lt 43, 3) := by decide +kernel
theorem dX10_copy_71 : decode cX10_copy 71 = .ok (.iload 5, 2) := by decide +kernel
theorem dX10_copy_73 : decode cX10_copy 73 = .ok (.ifCond .lt 38, 3) := by decide +kernel
theorem dX10_copy_76 : decode cX10_copy 76 = .ok (.iload_n 2, 1) := by decide +kernel
theorem dX10_copy_77 : decode cX10_copy 77 = .ok (.i2l, 1) := by decide +kernel
theorem dX10_copy_78 : decode cX10_copy 78 = .ok (.iload 5, 2) := by decide +kernel
theorem dX10_copy_80 : decode cX10_copy 80 = .ok (.i2l, 1) := by decide +kernel
theorem dX10_copy_81 : decode cX10_copy 81 = .ok (.ladd, 1) := by decide +kernel
theorem dX10_copy_82 : decode cX10_copy 82 = .ok (.aload_n 0, 1) := by decide +kernel
theorem dX10_copy_83 : decode cX10_copy 83 = .ok (.getfield 13, 3) := by decide +kernel
theorem dX10_copy_86 : decode cX10_copy 86 = .ok (.iload_n 1, 1) := by decide +kernel
theorem dX10_copy_87 : decode cX10_copy 87 = .ok (.iaload, 1) := by decide +kernel
theorem dX10_copy_88 : decode cX10_copy 88 = .ok (.i2l, 1) := by decide +kernel
theorem dX10_copy_89 : decode cX10_copy 89 = .ok (.lcmp, 1) := by decide +kernel
theorem dX10_copy_90 : decode cX10_copy 90 = .ok (.ifCond .gt 21, 3) := by decide +kernel
theorem dX10_copy_93 : decode cX10_copy 93 = .ok (.iload 4, 2) := by decide +kernel
theorem dX10_copy_95 : decode cX10_copy 95 = .ok (.i2l, 1) := by decide +kernel
theorem dX10_copy_96 : decode cX10_copy 96 = .ok (.iload 5, 2) := by decide +kernel
theorem dX10_copy_98 : decode cX10_copy 98 = .ok (.i2l, 1) := by decide +kernel
theorem dX10_copy_99 : decode cX10_copy 99 = .ok (.ladd, 1) := by decide +kernel
theorem dX10_copy_100 : decode cX10_copy 100 = .ok (.aload_n 0, 1) := by decide +kernel
theorem dX10_copy_101 : decode cX10_copy 101 = .ok (.getfield 13, 3) := by decide +kernel
theorem dX10_copy_104 : decode cX10_copy 104 = .ok (.iload_n 3, 1) := by decide +kernel
theorem dX10_copy_105 : decode cX10_copy 105 = .ok (.iaload, 1) := by decide +kernel
theorem dX10_copy_106 : decode cX10_copy 106 = .ok (.i2l, 1) := by decide +kernel
theorem dX10_copy_107 : decode cX10_copy 107 = .ok (.lcmp, 1) := by decide +kernel
theorem dX10_copy_108 : decode cX10_copy 108 = .ok (.ifCond .le 9, 3) := by decide +kernel
theorem dX10_copy_111 : decode cX10_copy 111 = .ok (.aload_n 0, 1) := by decide +kernel
theorem dX10_copy_112 : decode cX10_copy 112 = .ok (.iconst 2, 1) := by decide +kernel
theorem dX10_copy_113 : decode cX10_copy 113 = .ok (.invokevirtual 79, 3) := by decide +kernel
theorem dX10_copy_116 : decode cX10_copy 116 = .ok (.ireturn, 1) := by decide +kernel
theorem dX10_copy_117 : decode cX10_copy 117 = .ok (.iconst 0, 1) := by decide +kernel
theorem dX10_copy_118 : decode cX10_copy 118 = .ok (.istore 6, 2) := by decide +kernel
theorem dX10_copy_120 : decode cX10_copy 120 = .ok (.iload 6, 2) := by decide +kernel
theorem dX10_copy_122 : decode cX10_copy 122 = .ok (.iload 5, 2) := by decide +kernel
theorem dX10_copy_124 : decode cX10_copy 124 = .ok (.if_icmp .ge 30, 3) := by decide +kernel
theorem dX10_copy_127 : decode cX10_copy 127 = .ok (.aload_n 0, 1) := by decide +kernel
theorem dX10_copy_128 : decode cX10_copy 128 = .ok (.getfield 19, 3) := by decide +kernel
theorem dX10_copy_131 : decode cX10_copy 131 = .ok (.iload 6, 2) := by decide +kernel
theorem dX10_copy_133 : decode cX10_copy 133 = .ok (.aload_n 0, 1) := by decide +kernel
theorem dX10_copy_134 : decode cX10_copy 134 = .ok (.getfield 16, 3) := by decide +kernel
theorem dX10_copy_137 : decode cX10_copy 137 = .ok (.bipush 60, 2) := by decide +kernel
theorem dX10_copy_139 : decode cX10_copy 139 = .ok (.iload_n 1, 1) := by decide +kernel
theorem dX10_copy_140 : decode cX10_copy 140 = .ok (.imul, 1) := by decide +kernel
theorem dX10_copy_141 : decode cX10_copy 141 = .ok (.iload_n 2, 1) := by decide +kernel
theorem dX10_copy_142 : decode cX10_copy 142 = .ok (.iadd, 1) := by decide +kernel
theorem dX10_copy_143 : decode cX10_copy 143 = .ok (.iload 6, 2) := by decide +kernel
theorem dX10_copy_145 : decode cX10_copy 145 = .ok (.iadd, 1) := by decide +kernel
theorem dX10_copy_146 : decode cX10_copy 146 = .ok (.iaload, 1) := by decide +kernel
theorem dX10_copy_147 : decode cX10_copy 147 = .ok (.iastore, 1) := by decide +kernel
theorem dX10_copy_148 : decode cX10_copy 148 = .ok (.iinc 6 1, 3) := by decide +kernel
theorem dX10_copy_151 : decode cX10_copy 151 = .ok (.goto (-31), 3) := by decide +kernel
theorem dX10_copy_154 : decode cX10_copy 154 = .ok (.iconst 0, 1) := by decide +kernel
theorem dX10_copy_155 : decode cX10_copy 155 = .ok (.istore 6, 2) := by decide +kernel
theorem dX10_copy_157 : decode cX10_copy 157 = .ok (.iload 6, 2) := by decide +kernel
theorem dX10_copy_159 : decode cX10_copy 159 = .ok (.iload 5, 2) := by decide +kernel
theorem dX10_copy_161 : decode cX10_copy 161 = .ok (.if_icmp .ge 31, 3) := by decide +kernel
theorem dX10_copy_164 : decode cX10_copy 164 = .ok (.aload_n 0, 1) := by decide +kernel
theorem dX10_copy_165 : decode cX10_copy 165 = .ok (.getfield 16, 3) := by decide +kernel
theorem dX10_copy_168 : decode cX10_copy 168 = .ok (.bipush 60, 2) := by decide +kernel
theorem dX10_copy_170 : decode cX10_copy 170 = .ok (.iload_n 3, 1) := by decide +kernel
theorem dX10_copy_171 : decode cX10_copy 171 = .ok (.imul, 1) := by decide +kernel
theorem dX10_copy_172 : decode cX10_copy 172 = .ok (.iload 4, 2) := by decide +kernel
theorem dX10_copy_174 : decode cX10_copy 174 = .ok (.iadd, 1) := by decide +kernel
theorem dX10_copy_175 : decode cX10_copy 175 = .ok (.iload 6, 2) := by decide +kernel
theorem dX10_copy_177 : decode cX10_copy 177 = .ok (.iadd, 1) := by decide +kernel
theorem dX10_copy_178 : decode cX10_copy 178 = .ok (.aload_n 0, 1) := by decide +kernel
theorem dX10_copy_179 : decode cX10_copy 179 = .ok (.getfield 19, 3) := by decide +kernel
theorem dX10_copy_182 : decode cX10_copy 182 = .ok (.iload 6, 2) := by decide +kernel
theorem dX10_copy_184 : decode cX10_copy 184 = .ok (.iaload, 1) := by decide +kernel
theorem dX10_copy_185 : decode cX10_copy 185 = .ok (.iastore, 1) := by decide +kernel
theorem dX10_copy_186 : decode cX10_copy 186 = .ok (.iinc 6 1, 3) := by decide +kernel
theorem dX10_copy_189 : decode cX10_copy 189 = .ok (.goto (-32), 3) := by decide +kernel
theorem dX10_copy_192 : decode cX10_copy 192 = .ok (.iconst 1, 1) := by decide +kernel
theorem dX10_copy_193 : decode cX10_copy 193 = .ok (.ireturn, 1) := by decide +kernel
theorem dX10_type_0 : decode cX10_type 0 = .ok (.iload_n 1, 1) := by decide +kernel
theorem dX10_type_1 : decode cX10_type 1 = .ok (.invokestatic 92, 3) := by decide +kernel
theorem dX10_type_4 : decode cX10_type 4 = .ok (.ifCond .eq 15, 3) := by decide +kernel
theorem dX10_type_7 : decode cX10_type 7 = .ok (.iload_n 2, 1) := by decide +kernel
theorem dX10_type_8 : decode cX10_type 8 = .ok (.i2l, 1) := by decide +kernel
theorem dX10_type_9 : decode cX10_type 9 = .ok (.lconst 0, 1) := by decide +kernel
theorem dX10_type_10 : decode cX10_type 10 = .ok (.ldc2_w 95, 3) := by decide +kernel
theorem dX10_type_13 : decode cX10_type 13 = .ok (.invokestatic 64, 3) := by decide +kernel
theorem dX10_type_16 : decode cX10_type 16 = .ok (.ifCond .ne 6, 3) := by decide +kernel
theorem dX10_type_19 : decode cX10_type 19 = .ok (.bipush (-2), 2) := by decide +kernel
theorem dX10_type_21 : decode cX10_type 21 = .ok (.ireturn, 1) := by decide +kernel
theorem dX10_type_22 : decode cX10_type 22 = .ok (.aload_n 0, 1) := by decide +kernel
theorem dX10_type_23 : decode cX10_type 23 = .ok (.getfield 25, 3) := by decide +kernel
theorem dX10_type_26 : decode cX10_type 26 = .ok (.iload_n 1, 1) := by decide +kernel
theorem dX10_type_27 : decode cX10_type 27 = .ok (.iaload, 1) := by decide +kernel
theorem dX10_type_28 : decode cX10_type 28 = .ok (.iload_n 1, 1) := by decide +kernel
theorem dX10_type_29 : decode cX10_type 29 = .ok (.ifCond .ne 8, 3) := by decide +kernel
theorem dX10_type_32 : decode cX10_type 32 = .ok (.bipush 31, 2) := by decide +kernel
theorem dX10_type_34 : decode cX10_type 34 = .ok (.goto 5, 3) := by decide +kernel
