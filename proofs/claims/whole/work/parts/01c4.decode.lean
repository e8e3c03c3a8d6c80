theorem dX10_cargoOf_160 : decode cX10_cargoOf 160 = .ok (.dup2, 1) := by decide +kernel
theorem dX10_cargoOf_161 : decode cX10_cargoOf 161 = .ok (.iaload, 1) := by decide +kernel
theorem dX10_cargoOf_162 : decode cX10_cargoOf 162 = .ok (.iconst 1, 1) := by decide +kernel
theorem dX10_cargoOf_163 : decode cX10_cargoOf 163 = .ok (.isub, 1) := by decide +kernel
theorem dX10_cargoOf_164 : decode cX10_cargoOf 164 = .ok (.iastore, 1) := by decide +kernel
theorem dX10_cargoOf_165 : decode cX10_cargoOf 165 = .ok (.aload_n 0, 1) := by decide +kernel
theorem dX10_cargoOf_166 : decode cX10_cargoOf 166 = .ok (.getfield 31, 3) := by decide +kernel
theorem dX10_cargoOf_169 : decode cX10_cargoOf 169 = .ok (.bipush 7, 2) := by decide +kernel
theorem dX10_cargoOf_171 : decode cX10_cargoOf 171 = .ok (.iload_n 1, 1) := by decide +kernel
theorem dX10_cargoOf_172 : decode cX10_cargoOf 172 = .ok (.imul, 1) := by decide +kernel
theorem dX10_cargoOf_173 : decode cX10_cargoOf 173 = .ok (.iload 4, 2) := by decide +kernel
theorem dX10_cargoOf_175 : decode cX10_cargoOf 175 = .ok (.iadd, 1) := by decide +kernel
theorem dX10_cargoOf_176 : decode cX10_cargoOf 176 = .ok (.dup2, 1) := by decide +kernel
theorem dX10_cargoOf_177 : decode cX10_cargoOf 177 = .ok (.iaload, 1) := by decide +kernel
theorem dX10_cargoOf_178 : decode cX10_cargoOf 178 = .ok (.iconst 1, 1) := by decide +kernel
theorem dX10_cargoOf_179 : decode cX10_cargoOf 179 = .ok (.isub, 1) := by decide +kernel
theorem dX10_cargoOf_180 : decode cX10_cargoOf 180 = .ok (.iastore, 1) := by decide +kernel
theorem dX10_cargoOf_181 : decode cX10_cargoOf 181 = .ok (.iload 5, 2) := by decide +kernel
theorem dX10_cargoOf_183 : decode cX10_cargoOf 183 = .ok (.ifCond .eq 23, 3) := by decide +kernel
theorem dX10_cargoOf_186 : decode cX10_cargoOf 186 = .ok (.iload_n 2, 1) := by decide +kernel
theorem dX10_cargoOf_187 : decode cX10_cargoOf 187 = .ok (.iconst (-1), 1) := by decide +kernel
theorem dX10_cargoOf_188 : decode cX10_cargoOf 188 = .ok (.if_icmp .ne 7, 3) := by decide +kernel
theorem dX10_cargoOf_191 : decode cX10_cargoOf 191 = .ok (.iconst 2, 1) := by decide +kernel
theorem dX10_cargoOf_192 : decode cX10_cargoOf 192 = .ok (.goto 13, 3) := by decide +kernel
theorem dX10_cargoOf_195 : decode cX10_cargoOf 195 = .ok (.iload_n 2, 1) := by decide +kernel
theorem dX10_cargoOf_196 : decode cX10_cargoOf 196 = .ok (.ifCond .ne 7, 3) := by decide +kernel
theorem dX10_cargoOf_199 : decode cX10_cargoOf 199 = .ok (.iload_n 3, 1) := by decide +kernel
theorem dX10_cargoOf_200 : decode cX10_cargoOf 200 = .ok (.goto 5, 3) := by decide +kernel
theorem dX10_cargoOf_203 : decode cX10_cargoOf 203 = .ok (.iload 4, 2) := by decide +kernel
theorem dX10_cargoOf_205 : decode cX10_cargoOf 205 = .ok (.ireturn, 1) := by decide +kernel
theorem dX10_cargoOf_206 : decode cX10_cargoOf 206 = .ok (.iinc 4 1, 3) := by decide +kernel
theorem dX10_cargoOf_209 : decode cX10_cargoOf 209 = .ok (.goto (-104), 3) := by decide +kernel
theorem dX10_cargoOf_212 : decode cX10_cargoOf 212 = .ok (.iinc 3 1, 3) := by decide +kernel
theorem dX10_cargoOf_215 : decode cX10_cargoOf 215 = .ok (.goto (-119), 3) := by decide +kernel
theorem dX10_cargoOf_218 : decode cX10_cargoOf 218 = .ok (.iconst (-1), 1) := by decide +kernel
theorem dX10_cargoOf_219 : decode cX10_cargoOf 219 = .ok (.ireturn, 1) := by decide +kernel
theorem dX10_cargo_0 : decode cX10_cargo 0 = .ok (.aload_n 0, 1) := by decide +kernel
theorem dX10_cargo_1 : decode cX10_cargo 1 = .ok (.invokevirtual 129, 3) := by decide +kernel
theorem dX10_cargo_4 : decode cX10_cargo 4 = .ok (.aload_n 0, 1) := by decide +kernel
theorem dX10_cargo_5 : decode cX10_cargo 5 = .ok (.iload_n 1, 1) := by decide +kernel
theorem dX10_cargo_6 : decode cX10_cargo 6 = .ok (.invokevirtual 135, 3) := by decide +kernel
theorem dX10_cargo_9 : decode cX10_cargo 9 = .ok (.ifCond .eq 24, 3) := by decide +kernel
theorem dX10_cargo_12 : decode cX10_cargo 12 = .ok (.iload_n 2, 1) := by decide +kernel
theorem dX10_cargo_13 : decode cX10_cargo 13 = .ok (.i2l, 1) := by decide +kernel
theorem dX10_cargo_14 : decode cX10_cargo 14 = .ok (.ldc2_w 212, 3) := by decide +kernel
theorem dX10_cargo_17 : decode cX10_cargo 17 = .ok (.lconst 1, 1) := by decide +kernel
theorem dX10_cargo_18 : decode cX10_cargo 18 = .ok (.invokestatic 64, 3) := by decide +kernel
theorem dX10_cargo_21 : decode cX10_cargo 21 = .ok (.ifCond .eq 12, 3) := by decide +kernel
theorem dX10_cargo_24 : decode cX10_cargo 24 = .ok (.aload_n 0, 1) := by decide +kernel
theorem dX10_cargo_25 : decode cX10_cargo 25 = .ok (.iload_n 1, 1) := by decide +kernel
theorem dX10_cargo_26 : decode cX10_cargo 26 = .ok (.iload_n 2, 1) := by decide +kernel
theorem dX10_cargo_27 : decode cX10_cargo 27 = .ok (.invokevirtual 214, 3) := by decide +kernel
theorem dX10_cargo_30 : decode cX10_cargo 30 = .ok (.goto 5, 3) := by decide +kernel
theorem dX10_cargo_33 : decode cX10_cargo 33 = .ok (.bipush (-2), 2) := by decide +kernel
theorem dX10_cargo_35 : decode cX10_cargo 35 = .ok (.ireturn, 1) := by decide +kernel
theorem dX10_sailOf_0 : decode cX10_sailOf 0 = .ok (.aload_n 0, 1) := by decide +kernel
theorem dX10_sailOf_1 : decode cX10_sailOf 1 = .ok (.getfield 31, 3) := by decide +kernel
theorem dX10_sailOf_4 : decode cX10_sailOf 4 = .ok (.bipush 7, 2) := by decide +kernel
theorem dX10_sailOf_6 : decode cX10_sailOf 6 = .ok (.iload_n 1, 1) := by decide +kernel
theorem dX10_sailOf_7 : decode cX10_sailOf 7 = .ok (.imul, 1) := by decide +kernel
theorem dX10_sailOf_8 : decode cX10_sailOf 8 = .ok (.bipush 6, 2) := by decide +kernel
theorem dX10_sailOf_10 : decode cX10_sailOf 10 = .ok (.iadd, 1) := by decide +kernel
theorem dX10_sailOf_11 : decode cX10_sailOf 11 = .ok (.iaload, 1) := by decide +kernel
theorem dX10_sailOf_12 : decode cX10_sailOf 12 = .ok (.istore_n 3, 1) := by decide +kernel
theorem dX10_sailOf_13 : decode cX10_sailOf 13 = .ok (.iconst (-1), 1) := by decide +kernel
theorem dX10_sailOf_14 : decode cX10_sailOf 14 = .ok (.istore 4, 2) := by decide +kernel
theorem dX10_sailOf_16 : decode cX10_sailOf 16 = .ok (.iconst 0, 1) := by decide +kernel
theorem dX10_sailOf_17 : decode cX10_sailOf 17 = .ok (.istore 5, 2) := by decide +kernel
theorem dX10_sailOf_19 : decode cX10_sailOf 19 = .ok (.iconst 0, 1) := by decide +kernel
theorem dX10_sailOf_20 : decode cX10_sailOf 20 = .ok (.istore 6, 2) := by decide +kernel
theorem dX10_sailOf_22 : decode cX10_sailOf 22 = .ok (.iload 6, 2) := by decide +kernel
theorem dX10_sailOf_24 : decode cX10_sailOf 24 = .ok (.bipush 10, 2) := by decide +kernel
theorem dX10_sailOf_26 : decode cX10_sailOf 26 = .ok (.if_icmp .ge 83, 3) := by decide +kernel
theorem dX10_sailOf_29 : decode cX10_sailOf 29 = .ok (.aload_n 0, 1) := by decide +kernel
theorem dX10_sailOf_30 : decode cX10_sailOf 30 = .ok (.getfield 31, 3) := by decide +kernel
theorem dX10_sailOf_33 : decode cX10_sailOf 33 = .ok (.bipush 7, 2) := by decide +kernel
theorem dX10_sailOf_35 : decode cX10_sailOf 35 = .ok (.iload_n 1, 1) := by decide +kernel
theorem dX10_sailOf_36 : decode cX10_sailOf 36 = .ok (.imul, 1) := by decide +kernel
theorem dX10_sailOf_37 : decode cX10_sailOf 37 = .ok (.bipush 6, 2) := by decide +kernel
theorem dX10_sailOf_39 : decode cX10_sailOf 39 = .ok (.iadd, 1) := by decide +kernel
theorem dX10_sailOf_40 : decode cX10_sailOf 40 = .ok (.iload 6, 2) := by decide +kernel
theorem dX10_sailOf_42 : decode cX10_sailOf 42 = .ok (.iastore, 1) := by decide +kernel
theorem dX10_sailOf_43 : decode cX10_sailOf 43 = .ok (.aload_n 0, 1) := by decide +kernel
theorem dX10_sailOf_44 : decode cX10_sailOf 44 = .ok (.bipush 99, 2) := by decide +kernel
theorem dX10_sailOf_46 : decode cX10_sailOf 46 = .ok (.invokevirtual 185, 3) := by decide +kernel
theorem dX10_sailOf_49 : decode cX10_sailOf 49 = .ok (.aload_n 0, 1) := by decide +kernel
theorem dX10_sailOf_50 : decode cX10_sailOf 50 = .ok (.invokevirtual 217, 3) := by decide +kernel
theorem dX10_sailOf_53 : decode cX10_sailOf 53 = .ok (.istore 7, 2) := by decide +kernel
theorem dX10_sailOf_55 : decode cX10_sailOf 55 = .ok (.iload 4, 2) := by decide +kernel
theorem dX10_sailOf_57 : decode cX10_sailOf 57 = .ok (.iconst (-1), 1) := by decide +kernel
theorem dX10_sailOf_58 : decode cX10_sailOf 58 = .ok (.if_icmp .eq 10, 3) := by decide +kernel
theorem dX10_sailOf_61 : decode cX10_sailOf 61 = .ok (.iload 7, 2) := by decide +kernel
theorem dX10_sailOf_63 : decode cX10_sailOf 63 = .ok (.iload 5, 2) := by decide +kernel
theorem dX10_sailOf_65 : decode cX10_sailOf 65 = .ok (.if_icmp .ge 7, 3) := by decide +kernel
theorem dX10_sailOf_68 : decode cX10_sailOf 68 = .ok (.iconst 1, 1) := by decide +kernel
theorem dX10_sailOf_69 : decode cX10_sailOf 69 = .ok (.goto 4, 3) := by decide +kernel
theorem dX10_sailOf_72 : decode cX10_sailOf 72 = .ok (.iconst 0, 1) := by decide +kernel
theorem dX10_sailOf_73 : decode cX10_sailOf 73 = .ok (.istore 8, 2) := by decide +kernel
theorem dX10_sailOf_75 : decode cX10_sailOf 75 = .ok (.iload 8, 2) := by decide +kernel
theorem dX10_sailOf_77 : decode cX10_sailOf 77 = .ok (.ifCond .eq 8, 3) := by decide +kernel
theorem dX10_sailOf_80 : decode cX10_sailOf 80 = .ok (.iload 6, 2) := by decide +kernel
theorem dX10_sailOf_82 : decode cX10_sailOf 82 = .ok (.goto 5, 3) := by decide +kernel
theorem dX10_sailOf_85 : decode cX10_sailOf 85 = .ok (.iload 4, 2) := by decide +kernel
theorem dX10_sailOf_87 : decode cX10_sailOf 87 = .ok (.istore 4, 2) := by decide +kernel
theorem dX10_sailOf_89 : decode cX10_sailOf 89 = .ok (.iload 8, 2) := by decide +kernel
theorem dX10_sailOf_91 : decode cX10_sailOf 91 = .ok (.ifCond .eq 8, 3) := by decide +kernel
theorem dX10_sailOf_94 : decode cX10_sailOf 94 = .ok (.iload 7, 2) := by decide +kernel
theorem dX10_sailOf_96 : decode cX10_sailOf 96 = .ok (.goto 5, 3) := by decide +kernel
theorem dX10_sailOf_99 : decode cX10_sailOf 99 = .ok (.iload 5, 2) := by decide +kernel
theorem dX10_sailOf_101 : decode cX10_sailOf 101 = .ok (.istore 5, 2) := by decide +kernel
theorem dX10_sailOf_103 : decode cX10_sailOf 103 = .ok (.iinc 6 1, 3) := by decide +kernel
theorem dX10_sailOf_106 : decode cX10_sailOf 106 = .ok (.goto (-84), 3) := by decide +kernel
theorem dX10_sailOf_109 : decode cX10_sailOf 109 = .ok (.aload_n 0, 1) := by decide +kernel
theorem dX10_sailOf_110 : decode cX10_sailOf 110 = .ok (.getfield 31, 3) := by decide +kernel
theorem dX10_sailOf_113 : decode cX10_sailOf 113 = .ok (.bipush 7, 2) := by decide +kernel
theorem dX10_sailOf_115 : decode cX10_sailOf 115 = .ok (.iload_n 1, 1) := by decide +kernel
theorem dX10_sailOf_116 : decode cX10_sailOf 116 = .ok (.imul, 1) := by decide +kernel
theorem dX10_sailOf_117 : decode cX10_sailOf 117 = .ok (.bipush 6, 2) := by decide +kernel
theorem dX10_sailOf_119 : decode cX10_sailOf 119 = .ok (.iadd, 1) := by decide +kernel
theorem dX10_sailOf_120 : decode cX10_sailOf 120 = .ok (.iload_n 3, 1) := by decide +kernel
theorem dX10_sailOf_121 : decode cX10_sailOf 121 = .ok (.iastore, 1) := by decide +kernel
theorem dX10_sailOf_122 : decode cX10_sailOf 122 = .ok (.iload_n 2, 1) := by decide +kernel
theorem dX10_sailOf_123 : decode cX10_sailOf 123 = .ok (.ifCond .ne 8, 3) := by decide +kernel
theorem dX10_sailOf_126 : decode cX10_sailOf 126 = .ok (.iload 4, 2) := by decide +kernel
theorem dX10_sailOf_128 : decode cX10_sailOf 128 = .ok (.goto 5, 3) := by decide +kernel
theorem dX10_sailOf_131 : decode cX10_sailOf 131 = .ok (.iload 5, 2) := by decide +kernel
theorem dX10_sailOf_133 : decode cX10_sailOf 133 = .ok (.ireturn, 1) := by decide +kernel
theorem dX10_sail_0 : decode cX10_sail 0 = .ok (.aload_n 0, 1) := by decide +kernel
theorem dX10_sail_1 : decode cX10_sail 1 = .ok (.invokevirtual 129, 3) := by decide +kernel
theorem dX10_sail_4 : decode cX10_sail 4 = .ok (.aload_n 0, 1) := by decide +kernel
theorem dX10_sail_5 : decode cX10_sail 5 = .ok (.iload_n 1, 1) := by decide +kernel
theorem dX10_sail_6 : decode cX10_sail 6 = .ok (.invokevirtual 135, 3) := by decide +kernel
theorem dX10_sail_9 : decode cX10_sail 9 = .ok (.ifCond .eq 19, 3) := by decide +kernel
theorem dX10_sail_12 : decode cX10_sail 12 = .ok (.iload_n 2, 1) := by decide +kernel
theorem dX10_sail_13 : decode cX10_sail 13 = .ok (.invokestatic 92, 3) := by decide +kernel
theorem dX10_sail_16 : decode cX10_sail 16 = .ok (.ifCond .eq 12, 3) := by decide +kernel
theorem dX10_sail_19 : decode cX10_sail 19 = .ok (.aload_n 0, 1) := by decide +kernel
theorem dX10_sail_20 : decode cX10_sail 20 = .ok (.iload_n 1, 1) := by decide +kernel
theorem dX10_sail_21 : decode cX10_sail 21 = .ok (.iload_n 2, 1) := by decide +kernel
theorem dX10_sail_22 : decode cX10_sail 22 = .ok (.invokevirtual 220, 3) := by decide +kernel
theorem dX10_sail_25 : decode cX10_sail 25 = .ok (.goto 5, 3) := by decide +kernel
theorem dX10_sail_28 : decode cX10_sail 28 = .ok (.bipush (-2), 2) := by decide +kernel
theorem dX10_sail_30 : decode cX10_sail 30 = .ok (.ireturn, 1) := by decide +kernel
theorem dX10_awayOf_0 : decode cX10_awayOf 0 = .ok (.iconst (-1), 1) := by decide +kernel
theorem dX10_awayOf_1 : decode cX10_awayOf 1 = .ok (.istore_n 2, 1) := by decide +kernel
theorem dX10_awayOf_2 : decode cX10_awayOf 2 = .ok (.iconst (-1), 1) := by decide +kernel
theorem dX10_awayOf_3 : decode cX10_awayOf 3 = .ok (.istore_n 3, 1) := by decide +kernel
theorem dX10_awayOf_4 : decode cX10_awayOf 4 = .ok (.iconst 0, 1) := by decide +kernel
theorem dX10_awayOf_5 : decode cX10_awayOf 5 = .ok (.istore 4, 2) := by decide +kernel
theorem dX10_awayOf_7 : decode cX10_awayOf 7 = .ok (.iconst 0, 1) := by decide +kernel
theorem dX10_awayOf_8 : decode cX10_awayOf 8 = .ok (.istore 5, 2) := by decide +kernel
theorem dX10_awayOf_10 : decode cX10_awayOf 10 = .ok (.iload 5, 2) := by decide +kernel
theorem dX10_awayOf_12 : decode cX10_awayOf 12 = .ok (.aload_n 0, 1) := by decide +kernel
theorem dX10_awayOf_13 : decode cX10_awayOf 13 = .ok (.getfield 105, 3) := by decide +kernel
theorem dX10_awayOf_16 : decode cX10_awayOf 16 = .ok (.if_icmp .ge 100, 3) := by decide +kernel
theorem dX10_awayOf_19 : decode cX10_awayOf 19 = .ok (.aload_n 0, 1) := by decide +kernel
theorem dX10_awayOf_20 : decode cX10_awayOf 20 = .ok (.iload 5, 2) := by decide +kernel
theorem dX10_awayOf_22 : decode cX10_awayOf 22 = .ok (.putfield 55, 3) := by decide +kernel
theorem dX10_awayOf_25 : decode cX10_awayOf 25 = .ok (.aload_n 0, 1) := by decide +kernel
theorem dX10_awayOf_26 : decode cX10_awayOf 26 = .ok (.bipush 99, 2) := by decide +kernel
theorem dX10_awayOf_28 : decode cX10_awayOf 28 = .ok (.invokevirtual 185, 3) := by decide +kernel
theorem dX10_awayOf_31 : decode cX10_awayOf 31 = .ok (.aload_n 0, 1) := by decide +kernel
theorem dX10_awayOf_32 : decode cX10_awayOf 32 = .ok (.invokevirtual 200, 3) := by decide +kernel
theorem dX10_awayOf_35 : decode cX10_awayOf 35 = .ok (.invokestatic 223, 3) := by decide +kernel
theorem dX10_awayOf_38 : decode cX10_awayOf 38 = .ok (.istore 6, 2) := by decide +kernel
theorem dX10_awayOf_40 : decode cX10_awayOf 40 = .ok (.aload_n 0, 1) := by decide +kernel
theorem dX10_awayOf_41 : decode cX10_awayOf 41 = .ok (.invokevirtual 217, 3) := by decide +kernel
theorem dX10_awayOf_44 : decode cX10_awayOf 44 = .ok (.istore 7, 2) := by decide +kernel
theorem dX10_awayOf_46 : decode cX10_awayOf 46 = .ok (.iload 6, 2) := by decide +kernel
theorem dX10_awayOf_48 : decode cX10_awayOf 48 = .ok (.iload_n 3, 1) := by decide +kernel
theorem dX10_awayOf_49 : decode cX10_awayOf 49 = .ok (.if_icmp .gt 16, 3) := by decide +kernel
theorem dX10_awayOf_52 : decode cX10_awayOf 52 = .ok (.iload 6, 2) := by decide +kernel
theorem dX10_awayOf_54 : decode cX10_awayOf 54 = .ok (.iload_n 3, 1) := by decide +kernel
theorem dX10_awayOf_55 : decode cX10_awayOf 55 = .ok (.if_icmp .ne 14, 3) := by decide +kernel
theorem dX10_awayOf_58 : decode cX10_awayOf 58 = .ok (.iload 7, 2) := by decide +kernel
theorem dX10_awayOf_60 : decode cX10_awayOf 60 = .ok (.iload 4, 2) := by decide +kernel
theorem dX10_awayOf_62 : decode cX10_awayOf 62 = .ok (.if_icmp .ge 7, 3) := by decide +kernel
theorem dX10_awayOf_65 : decode cX10_awayOf 65 = .ok (.iconst 1, 1) := by decide +kernel
theorem dX10_awayOf_66 : decode cX10_awayOf 66 = .ok (.goto 4, 3) := by decide +kernel
theorem dX10_awayOf_69 : decode cX10_awayOf 69 = .ok (.iconst 0, 1) := by decide +kernel
theorem dX10_awayOf_70 : decode cX10_awayOf 70 = .ok (.istore 8, 2) := by decide +kernel
theorem dX10_awayOf_72 : decode cX10_awayOf 72 = .ok (.iload 8, 2) := by decide +kernel
theorem dX10_awayOf_74 : decode cX10_awayOf 74 = .ok (.ifCond .eq 8, 3) := by decide +kernel
theorem dX10_awayOf_77 : decode cX10_awayOf 77 = .ok (.iload 5, 2) := by decide +kernel
theorem dX10_awayOf_79 : decode cX10_awayOf 79 = .ok (.goto 4, 3) := by decide +kernel
theorem dX10_awayOf_82 : decode cX10_awayOf 82 = .ok (.iload_n 2, 1) := by decide +kernel
theorem dX10_awayOf_83 : decode cX10_awayOf 83 = .ok (.istore_n 2, 1) := by decide +kernel
theorem dX10_awayOf_84 : decode cX10_awayOf 84 = .ok (.iload 8, 2) := by decide +kernel
theorem dX10_awayOf_86 : decode cX10_awayOf 86 = .ok (.ifCond .eq 8, 3) := by decide +kernel
theorem dX10_awayOf_89 : decode cX10_awayOf 89 = .ok (.iload 7, 2) := by decide +kernel
theorem dX10_awayOf_91 : decode cX10_awayOf 91 = .ok (.goto 5, 3) := by decide +kernel
theorem dX10_awayOf_94 : decode cX10_awayOf 94 = .ok (.iload 4, 2) := by decide +kernel
theorem dX10_awayOf_96 : decode cX10_awayOf 96 = .ok (.istore 4, 2) := by decide +kernel
theorem dX10_awayOf_98 : decode cX10_awayOf 98 = .ok (.iload 8, 2) := by decide +kernel
theorem dX10_awayOf_100 : decode cX10_awayOf 100 = .ok (.ifCond .eq 8, 3) := by decide +kernel
theorem dX10_awayOf_103 : decode cX10_awayOf 103 = .ok (.iload 6, 2) := by decide +kernel
theorem dX10_awayOf_105 : decode cX10_awayOf 105 = .ok (.goto 4, 3) := by decide +kernel
theorem dX10_awayOf_108 : decode cX10_awayOf 108 = .ok (.iload_n 3, 1) := by decide +kernel
theorem dX10_awayOf_109 : decode cX10_awayOf 109 = .ok (.istore_n 3, 1) := by decide +kernel
theorem dX10_awayOf_110 : decode cX10_awayOf 110 = .ok (.iinc 5 1, 3) := by decide +kernel
theorem dX10_awayOf_113 : decode cX10_awayOf 113 = .ok (.goto (-103), 3) := by decide +kernel
theorem dX10_awayOf_116 : decode cX10_awayOf 116 = .ok (.aload_n 0, 1) := by decide +kernel
theorem dX10_awayOf_117 : decode cX10_awayOf 117 = .ok (.iconst (-1), 1) := by decide +kernel
theorem dX10_awayOf_118 : decode cX10_awayOf 118 = .ok (.putfield 55, 3) := by decide +kernel
theorem dX10_awayOf_121 : decode cX10_awayOf 121 = .ok (.iload_n 1, 1) := by decide +kernel
theorem dX10_awayOf_122 : decode cX10_awayOf 122 = .ok (.ifCond .ne 7, 3) := by decide +kernel
theorem dX10_awayOf_125 : decode cX10_awayOf 125 = .ok (.iload_n 2, 1) := by decide +kernel
theorem dX10_awayOf_126 : decode cX10_awayOf 126 = .ok (.goto 4, 3) := by decide +kernel
theorem dX10_awayOf_129 : decode cX10_awayOf 129 = .ok (.iload_n 3, 1) := by decide +kernel
theorem dX10_awayOf_130 : decode cX10_awayOf 130 = .ok (.ireturn, 1) := by decide +kernel
theorem dX10_away_0 : decode cX10_away 0 = .ok (.aload_n 0, 1) := by decide +kernel
theorem dX10_away_1 : decode cX10_away 1 = .ok (.invokevirtual 129, 3) := by decide +kernel
theorem dX10_away_4 : decode cX10_away 4 = .ok (.iload_n 1, 1) := by decide +kernel
theorem dX10_away_5 : decode cX10_away 5 = .ok (.invokestatic 92, 3) := by decide +kernel
theorem dX10_away_8 : decode cX10_away 8 = .ok (.ifCond .eq 11, 3) := by decide +kernel
theorem dX10_away_11 : decode cX10_away 11 = .ok (.aload_n 0, 1) := by decide +kernel
theorem dX10_away_12 : decode cX10_away 12 = .ok (.iload_n 1, 1) := by decide +kernel
theorem dX10_away_13 : decode cX10_away 13 = .ok (.invokevirtual 226, 3) := by decide +kernel
theorem dX10_away_16 : decode cX10_away 16 = .ok (.goto 5, 3) := by decide +kernel
theorem dX10_away_19 : decode cX10_away 19 = .ok (.bipush (-2), 2) := by decide +kernel
theorem dX10_away_21 : decode cX10_away 21 = .ok (.ireturn, 1) := by decide +kernel
theorem dX10_seen_0 : decode cX10_seen 0 = .ok (.iload_n 1, 1) := by decide +kernel
theorem dX10_seen_1 : decode cX10_seen 1 = .ok (.invokestatic 188, 3) := by decide +kernel
theorem dX10_seen_4 : decode cX10_seen 4 = .ok (.ifCond .eq 27, 3) := by decide +kernel
theorem dX10_seen_7 : decode cX10_seen 7 = .ok (.iload_n 2, 1) := by decide +kernel
theorem dX10_seen_8 : decode cX10_seen 8 = .ok (.i2l, 1) := by decide +kernel
theorem dX10_seen_9 : decode cX10_seen 9 = .ok (.lconst 0, 1) := by decide +kernel
theorem dX10_seen_10 : decode cX10_seen 10 = .ok (.ldc2_w 140, 3) := by decide +kernel
theorem dX10_seen_13 : decode cX10_seen 13 = .ok (.invokestatic 64, 3) := by decide +kernel
theorem dX10_seen_16 : decode cX10_seen 16 = .ok (.ifCond .eq 15, 3) := by decide +kernel
theorem dX10_seen_19 : decode cX10_seen 19 = .ok (.iload_n 3, 1) := by decide +kernel
theorem dX10_seen_20 : decode cX10_seen 20 = .ok (.i2l, 1) := by decide +kernel
theorem dX10_seen_21 : decode cX10_seen 21 = .ok (.lconst 0, 1) := by decide +kernel
theorem dX10_seen_22 : decode cX10_seen 22 = .ok (.ldc2_w 229, 3) := by decide +kernel
theorem dX10_seen_25 : decode cX10_seen 25 = .ok (.invokestatic 64, 3) := by decide +kernel
theorem dX10_seen_28 : decode cX10_seen 28 = .ok (.ifCond .ne 6, 3) := by decide +kernel
theorem dX10_seen_31 : decode cX10_seen 31 = .ok (.bipush (-2), 2) := by decide +kernel
theorem dX10_seen_33 : decode cX10_seen 33 = .ok (.ireturn, 1) := by decide +kernel
theorem dX10_seen_34 : decode cX10_seen 34 = .ok (.aload_n 0, 1) := by decide +kernel
theorem dX10_seen_35 : decode cX10_seen 35 = .ok (.getfield 231, 3) := by decide +kernel
theorem dX10_seen_38 : decode cX10_seen 38 = .ok (.bipush 8, 2) := by decide +kernel
theorem dX10_seen_40 : decode cX10_seen 40 = .ok (.if_icmp .ne 6, 3) := by decide +kernel
theorem dX10_seen_43 : decode cX10_seen 43 = .ok (.bipush (-4), 2) := by decide +kernel
theorem dX10_seen_45 : decode cX10_seen 45 = .ok (.ireturn, 1) := by decide +kernel
theorem dX10_seen_46 : decode cX10_seen 46 = .ok (.aload_n 0, 1) := by decide +kernel
theorem dX10_seen_47 : decode cX10_seen 47 = .ok (.getfield 49, 3) := by decide +kernel
theorem dX10_seen_50 : decode cX10_seen 50 = .ok (.iconst 3, 1) := by decide +kernel
theorem dX10_seen_51 : decode cX10_seen 51 = .ok (.aload_n 0, 1) := by decide +kernel
theorem dX10_seen_52 : decode cX10_seen 52 = .ok (.getfield 231, 3) := by decide +kernel
theorem dX10_seen_55 : decode cX10_seen 55 = .ok (.imul, 1) := by decide +kernel
theorem dX10_seen_56 : decode cX10_seen 56 = .ok (.iload_n 1, 1) := by decide +kernel
theorem dX10_seen_57 : decode cX10_seen 57 = .ok (.iastore, 1) := by decide +kernel
theorem dX10_seen_58 : decode cX10_seen 58 = .ok (.aload_n 0, 1) := by decide +kernel
theorem dX10_seen_59 : decode cX10_seen 59 = .ok (.getfield 49, 3) := by decide +kernel
theorem dX10_seen_62 : decode cX10_seen 62 = .ok (.iconst 3, 1) := by decide +kernel
theorem dX10_seen_63 : decode cX10_seen 63 = .ok (.aload_n 0, 1) := by decide +kernel
theorem dX10_seen_64 : decode cX10_seen 64 = .ok (.getfield 231, 3) := by decide +kernel
theorem dX10_seen_67 : decode cX10_seen 67 = .ok (.imul, 1) := by decide +kernel
theorem dX10_seen_68 : decode cX10_seen 68 = .ok (.iconst 1, 1) := by decide +kernel
theorem dX10_seen_69 : decode cX10_seen 69 = .ok (.iadd, 1) := by decide +kernel
theorem dX10_seen_70 : decode cX10_seen 70 = .ok (.iload_n 2, 1) := by decide +kernel
theorem dX10_seen_71 : decode cX10_seen 71 = .ok (.iastore, 1) := by decide +kernel
theorem dX10_seen_72 : decode cX10_seen 72 = .ok (.aload_n 0, 1) := by decide +kernel
theorem dX10_seen_73 : decode cX10_seen 73 = .ok (.getfield 49, 3) := by decide +kernel
theorem dX10_seen_76 : decode cX10_seen 76 = .ok (.iconst 3, 1) := by decide +kernel
theorem dX10_seen_77 : decode cX10_seen 77 = .ok (.aload_n 0, 1) := by decide +kernel
theorem dX10_seen_78 : decode cX10_seen 78 = .ok (.getfield 231, 3) := by decide +kernel
theorem dX10_seen_81 : decode cX10_seen 81 = .ok (.imul, 1) := by decide +kernel
theorem dX10_seen_82 : decode cX10_seen 82 = .ok (.iconst 2, 1) := by decide +kernel
theorem dX10_seen_83 : decode cX10_seen 83 = .ok (.iadd, 1) := by decide +kernel
theorem dX10_seen_84 : decode cX10_seen 84 = .ok (.iload_n 3, 1) := by decide +kernel
theorem dX10_seen_85 : decode cX10_seen 85 = .ok (.iastore, 1) := by decide +kernel
theorem dX10_seen_86 : decode cX10_seen 86 = .ok (.aload_n 0, 1) := by decide +kernel
theorem dX10_seen_87 : decode cX10_seen 87 = .ok (.dup, 1) := by decide +kernel
theorem dX10_seen_88 : decode cX10_seen 88 = .ok (.getfield 231, 3) := by decide +kernel
theorem dX10_seen_91 : decode cX10_seen 91 = .ok (.iconst 1, 1) := by decide +kernel
theorem dX10_seen_92 : decode cX10_seen 92 = .ok (.iadd, 1) := by decide +kernel
theorem dX10_seen_93 : decode cX10_seen 93 = .ok (.putfield 231, 3) := by decide +kernel
theorem dX10_seen_96 : decode cX10_seen 96 = .ok (.aload_n 0, 1) := by decide +kernel
theorem dX10_seen_97 : decode cX10_seen 97 = .ok (.getfield 231, 3) := by decide +kernel
theorem dX10_seen_100 : decode cX10_seen 100 = .ok (.ireturn, 1) := by decide +kernel
theorem dX10_forget_0 : decode cX10_forget 0 = .ok (.aload_n 0, 1) := by decide +kernel
theorem dX10_forget_1 : decode cX10_forget 1 = .ok (.getfield 231, 3) := by decide +kernel
theorem dX10_forget_4 : decode cX10_forget 4 = .ok (.istore_n 1, 1) := by decide +kernel
theorem dX10_forget_5 : decode cX10_forget 5 = .ok (.aload_n 0, 1) := by decide +kernel
theorem dX10_forget_6 : decode cX10_forget 6 = .ok (.iconst 0, 1) := by decide +kernel
theorem dX10_forget_7 : decode cX10_forget 7 = .ok (.putfield 231, 3) := by decide +kernel
theorem dX10_forget_10 : decode cX10_forget 10 = .ok (.iload_n 1, 1) := by decide +kernel
theorem dX10_forget_11 : decode cX10_forget 11 = .ok (.ireturn, 1) := by decide +kernel
theorem dX10_isSeen_0 : decode cX10_isSeen 0 = .ok (.iconst 1, 1) := by decide +kernel
theorem dX10_isSeen_1 : decode cX10_isSeen 1 = .ok (.istore_n 1, 1) := by decide +kernel
theorem dX10_isSeen_2 : decode cX10_isSeen 2 = .ok (.iconst 0, 1) := by decide +kernel
theorem dX10_isSeen_3 : decode cX10_isSeen 3 = .ok (.istore_n 2, 1) := by decide +kernel
theorem dX10_isSeen_4 : decode cX10_isSeen 4 = .ok (.iload_n 2, 1) := by decide +kernel
theorem dX10_isSeen_5 : decode cX10_isSeen 5 = .ok (.aload_n 0, 1) := by decide +kernel
theorem dX10_isSeen_6 : decode cX10_isSeen 6 = .ok (.getfield 231, 3) := by decide +kernel
theorem dX10_isSeen_9 : decode cX10_isSeen 9 = .ok (.if_icmp .ge 71, 3) := by decide +kernel
theorem dX10_isSeen_12 : decode cX10_isSeen 12 = .ok (.iload_n 1, 1) := by decide +kernel
theorem dX10_isSeen_13 : decode cX10_isSeen 13 = .ok (.ifCond .eq 67, 3) := by decide +kernel
theorem dX10_isSeen_16 : decode cX10_isSeen 16 = .ok (.aload_n 0, 1) := by decide +kernel
theorem dX10_isSeen_17 : decode cX10_isSeen 17 = .ok (.aload_n 0, 1) := by decide +kernel
theorem dX10_isSeen_18 : decode cX10_isSeen 18 = .ok (.getfield 49, 3) := by decide +kernel
theorem dX10_isSeen_21 : decode cX10_isSeen 21 = .ok (.iconst 3, 1) := by decide +kernel
theorem dX10_isSeen_22 : decode cX10_isSeen 22 = .ok (.iload_n 2, 1) := by decide +kernel
theorem dX10_isSeen_23 : decode cX10_isSeen 23 = .ok (.imul, 1) := by decide +kernel
theorem dX10_isSeen_24 : decode cX10_isSeen 24 = .ok (.iconst 1, 1) := by decide +kernel
theorem dX10_isSeen_25 : decode cX10_isSeen 25 = .ok (.iadd, 1) := by decide +kernel
theorem dX10_isSeen_26 : decode cX10_isSeen 26 = .ok (.iaload, 1) := by decide +kernel
theorem dX10_isSeen_27 : decode cX10_isSeen 27 = .ok (.invokevirtual 135, 3) := by decide +kernel
theorem dX10_isSeen_30 : decode cX10_isSeen 30 = .ok (.ifCond .eq 42, 3) := by decide +kernel
theorem dX10_isSeen_33 : decode cX10_isSeen 33 = .ok (.aload_n 0, 1) := by decide +kernel
theorem dX10_isSeen_34 : decode cX10_isSeen 34 = .ok (.aload_n 0, 1) := by decide +kernel
theorem dX10_isSeen_35 : decode cX10_isSeen 35 = .ok (.getfield 49, 3) := by decide +kernel
theorem dX10_isSeen_38 : decode cX10_isSeen 38 = .ok (.iconst 3, 1) := by decide +kernel
theorem dX10_isSeen_39 : decode cX10_isSeen 39 = .ok (.iload_n 2, 1) := by decide +kernel
theorem dX10_isSeen_40 : decode cX10_isSeen 40 = .ok (.imul, 1) := by decide +kernel
theorem dX10_isSeen_41 : decode cX10_isSeen 41 = .ok (.iaload, 1) := by decide +kernel
theorem dX10_isSeen_42 : decode cX10_isSeen 42 = .ok (.aload_n 0, 1) := by decide +kernel
theorem dX10_isSeen_43 : decode cX10_isSeen 43 = .ok (.getfield 49, 3) := by decide +kernel
theorem dX10_isSeen_46 : decode cX10_isSeen 46 = .ok (.iconst 3, 1) := by decide +kernel
theorem dX10_isSeen_47 : decode cX10_isSeen 47 = .ok (.iload_n 2, 1) := by decide +kernel
theorem dX10_isSeen_48 : decode cX10_isSeen 48 = .ok (.imul, 1) := by decide +kernel
theorem dX10_isSeen_49 : decode cX10_isSeen 49 = .ok (.iconst 1, 1) := by decide +kernel
theorem dX10_isSeen_50 : decode cX10_isSeen 50 = .ok (.iadd, 1) := by decide +kernel
theorem dX10_isSeen_51 : decode cX10_isSeen 51 = .ok (.iaload, 1) := by decide +kernel
theorem dX10_isSeen_52 : decode cX10_isSeen 52 = .ok (.invokevirtual 191, 3) := by decide +kernel
theorem dX10_isSeen_55 : decode cX10_isSeen 55 = .ok (.aload_n 0, 1) := by decide +kernel
theorem dX10_isSeen_56 : decode cX10_isSeen 56 = .ok (.getfield 49, 3) := by decide +kernel
theorem dX10_isSeen_59 : decode cX10_isSeen 59 = .ok (.iconst 3, 1) := by decide +kernel
theorem dX10_isSeen_60 : decode cX10_isSeen 60 = .ok (.iload_n 2, 1) := by decide +kernel
theorem dX10_isSeen_61 : decode cX10_isSeen 61 = .ok (.imul, 1) := by decide +kernel
theorem dX10_isSeen_62 : decode cX10_isSeen 62 = .ok (.iconst 2, 1) := by decide +kernel
theorem dX10_isSeen_63 : decode cX10_isSeen 63 = .ok (.iadd, 1) := by decide +kernel
theorem dX10_isSeen_64 : decode cX10_isSeen 64 = .ok (.iaload, 1) := by decide +kernel
theorem dX10_isSeen_65 : decode cX10_isSeen 65 = .ok (.if_icmp .ne 7, 3) := by decide +kernel
theorem dX10_isSeen_68 : decode cX10_isSeen 68 = .ok (.iconst 1, 1) := by decide +kernel
theorem dX10_isSeen_69 : decode cX10_isSeen 69 = .ok (.goto 4, 3) := by decide +kernel
theorem dX10_isSeen_72 : decode cX10_isSeen 72 = .ok (.iconst 0, 1) := by decide +kernel
theorem dX10_isSeen_73 : decode cX10_isSeen 73 = .ok (.istore_n 1, 1) := by decide +kernel
theorem dX10_isSeen_74 : decode cX10_isSeen 74 = .ok (.iinc 2 1, 3) := by decide +kernel
theorem dX10_isSeen_77 : decode cX10_isSeen 77 = .ok (.goto (-73), 3) := by decide +kernel
theorem dX10_isSeen_80 : decode cX10_isSeen 80 = .ok (.iload_n 1, 1) := by decide +kernel
theorem dX10_isSeen_81 : decode cX10_isSeen 81 = .ok (.ireturn, 1) := by decide +kernel
theorem dX10_likedOf_0 : decode cX10_likedOf 0 = .ok (.iconst 3, 1) := by decide +kernel
theorem dX10_likedOf_1 : decode cX10_likedOf 1 = .ok (.iload_n 1, 1) := by decide +kernel
theorem dX10_likedOf_2 : decode cX10_likedOf 2 = .ok (.imul, 1) := by decide +kernel
theorem dX10_likedOf_3 : decode cX10_likedOf 3 = .ok (.iconst 1, 1) := by decide +kernel
theorem dX10_likedOf_4 : decode cX10_likedOf 4 = .ok (.iadd, 1) := by decide +kernel
theorem dX10_likedOf_5 : decode cX10_likedOf 5 = .ok (.iload_n 2, 1) := by decide +kernel
theorem dX10_likedOf_6 : decode cX10_likedOf 6 = .ok (.iadd, 1) := by decide +kernel
theorem dX10_likedOf_7 : decode cX10_likedOf 7 = .ok (.istore_n 3, 1) := by decide +kernel
theorem dX10_likedOf_8 : decode cX10_likedOf 8 = .ok (.aload_n 0, 1) := by decide +kernel
theorem dX10_likedOf_9 : decode cX10_likedOf 9 = .ok (.getfield 28, 3) := by decide +kernel
theorem dX10_likedOf_12 : decode cX10_likedOf 12 = .ok (.iload_n 3, 1) := by decide +kernel
theorem dX10_likedOf_13 : decode cX10_likedOf 13 = .ok (.iaload, 1) := by decide +kernel
theorem dX10_likedOf_14 : decode cX10_likedOf 14 = .ok (.istore 4, 2) := by decide +kernel
theorem dX10_likedOf_16 : decode cX10_likedOf 16 = .ok (.iconst 0, 1) := by decide +kernel
theorem dX10_likedOf_17 : decode cX10_likedOf 17 = .ok (.istore 5, 2) := by decide +kernel
theorem dX10_likedOf_19 : decode cX10_likedOf 19 = .ok (.iload_n 2, 1) := by decide +kernel
theorem dX10_likedOf_20 : decode cX10_likedOf 20 = .ok (.istore 6, 2) := by decide +kernel
theorem dX10_likedOf_22 : decode cX10_likedOf 22 = .ok (.iload 6, 2) := by decide +kernel
theorem dX10_likedOf_24 : decode cX10_likedOf 24 = .ok (.iload_n 2, 1) := by decide +kernel
theorem dX10_likedOf_25 : decode cX10_likedOf 25 = .ok (.ifCond .ne 8, 3) := by decide +kernel
theorem dX10_likedOf_28 : decode cX10_likedOf 28 = .ok (.bipush 6, 2) := by decide +kernel
theorem dX10_likedOf_30 : decode cX10_likedOf 30 = .ok (.goto 5, 3) := by decide +kernel
theorem dX10_likedOf_33 : decode cX10_likedOf 33 = .ok (.bipush 10, 2) := by decide +kernel
theorem dX10_likedOf_35 : decode cX10_likedOf 35 = .ok (.if_icmp .ge 37, 3) := by decide +kernel
theorem dX10_likedOf_38 : decode cX10_likedOf 38 = .ok (.aload_n 0, 1) := by decide +kernel
theorem dX10_likedOf_39 : decode cX10_likedOf 39 = .ok (.getfield 28, 3) := by decide +kernel
theorem dX10_likedOf_42 : decode cX10_likedOf 42 = .ok (.iload_n 3, 1) := by decide +kernel
theorem dX10_likedOf_43 : decode cX10_likedOf 43 = .ok (.iload 6, 2) := by decide +kernel
theorem dX10_likedOf_45 : decode cX10_likedOf 45 = .ok (.iastore, 1) := by decide +kernel
theorem dX10_likedOf_46 : decode cX10_likedOf 46 = .ok (.iload 5, 2) := by decide +kernel
theorem dX10_likedOf_48 : decode cX10_likedOf 48 = .ok (.aload_n 0, 1) := by decide +kernel
theorem dX10_likedOf_49 : decode cX10_likedOf 49 = .ok (.invokevirtual 234, 3) := by decide +kernel
theorem dX10_likedOf_52 : decode cX10_likedOf 52 = .ok (.ifCond .eq 10, 3) := by decide +kernel
theorem dX10_likedOf_55 : decode cX10_likedOf 55 = .ok (.iconst 1, 1) := by decide +kernel
theorem dX10_likedOf_56 : decode cX10_likedOf 56 = .ok (.iload 6, 2) := by decide +kernel
theorem dX10_likedOf_58 : decode cX10_likedOf 58 = .ok (.ishl, 1) := by decide +kernel
theorem dX10_likedOf_59 : decode cX10_likedOf 59 = .ok (.goto 4, 3) := by decide +kernel
theorem dX10_likedOf_62 : decode cX10_likedOf 62 = .ok (.iconst 0, 1) := by decide +kernel
theorem dX10_likedOf_63 : decode cX10_likedOf 63 = .ok (.ior, 1) := by decide +kernel
theorem dX10_likedOf_64 : decode cX10_likedOf 64 = .ok (.istore 5, 2) := by decide +kernel
theorem dX10_likedOf_66 : decode cX10_likedOf 66 = .ok (.iinc 6 1, 3) := by decide +kernel
theorem dX10_likedOf_69 : decode cX10_likedOf 69 = .ok (.goto (-47), 3) := by decide +kernel
theorem dX10_likedOf_72 : decode cX10_likedOf 72 = .ok (.aload_n 0, 1) := by decide +kernel
theorem dX10_likedOf_73 : decode cX10_likedOf 73 = .ok (.getfield 28, 3) := by decide +kernel
theorem dX10_likedOf_76 : decode cX10_likedOf 76 = .ok (.iload_n 3, 1) := by decide +kernel
theorem dX10_likedOf_77 : decode cX10_likedOf 77 = .ok (.iload 4, 2) := by decide +kernel
theorem dX10_likedOf_79 : decode cX10_likedOf 79 = .ok (.iastore, 1) := by decide +kernel
theorem dX10_likedOf_80 : decode cX10_likedOf 80 = .ok (.iload 5, 2) := by decide +kernel
theorem dX10_likedOf_82 : decode cX10_likedOf 82 = .ok (.ireturn, 1) := by decide +kernel
theorem dX10_liked_0 : decode cX10_liked 0 = .ok (.aload_n 0, 1) := by decide +kernel
theorem dX10_liked_1 : decode cX10_liked 1 = .ok (.invokevirtual 129, 3) := by decide +kernel
theorem dX10_liked_4 : decode cX10_liked 4 = .ok (.aload_n 0, 1) := by decide +kernel
theorem dX10_liked_5 : decode cX10_liked 5 = .ok (.iload_n 1, 1) := by decide +kernel
theorem dX10_liked_6 : decode cX10_liked 6 = .ok (.invokevirtual 132, 3) := by decide +kernel
theorem dX10_liked_9 : decode cX10_liked 9 = .ok (.ifCond .eq 19, 3) := by decide +kernel
theorem dX10_liked_12 : decode cX10_liked 12 = .ok (.iload_n 2, 1) := by decide +kernel
theorem dX10_liked_13 : decode cX10_liked 13 = .ok (.invokestatic 92, 3) := by decide +kernel
theorem dX10_liked_16 : decode cX10_liked 16 = .ok (.ifCond .eq 12, 3) := by decide +kernel
theorem dX10_liked_19 : decode cX10_liked 19 = .ok (.aload_n 0, 1) := by decide +kernel
theorem dX10_liked_20 : decode cX10_liked 20 = .ok (.iload_n 1, 1) := by decide +kernel
theorem dX10_liked_21 : decode cX10_liked 21 = .ok (.iload_n 2, 1) := by decide +kernel
theorem dX10_liked_22 : decode cX10_liked 22 = .ok (.invokevirtual 238, 3) := by decide +kernel
theorem dX10_liked_25 : decode cX10_liked 25 = .ok (.goto 5, 3) := by decide +kernel
theorem dX10_liked_28 : decode cX10_liked 28 = .ok (.bipush (-2), 2) := by decide +kernel
theorem dX10_liked_30 : decode cX10_liked 30 = .ok (.ireturn, 1) := by decide +kernel
theorem dX10_underOf_0 : decode cX10_underOf 0 = .ok (.aload_n 0, 1) := by decide +kernel
theorem dX10_underOf_1 : decode cX10_underOf 1 = .ok (.invokevirtual 234, 3) := by decide +kernel
theorem dX10_underOf_4 : decode cX10_underOf 4 = .ok (.ifCond .eq 8, 3) := by decide +kernel
theorem dX10_underOf_7 : decode cX10_underOf 7 = .ok (.bipush 64, 2) := by decide +kernel
theorem dX10_underOf_9 : decode cX10_underOf 9 = .ok (.goto 4, 3) := by decide +kernel
theorem dX10_underOf_12 : decode cX10_underOf 12 = .ok (.iconst 0, 1) := by decide +kernel
theorem dX10_underOf_13 : decode cX10_underOf 13 = .ok (.istore_n 2, 1) := by decide +kernel
theorem dX10_underOf_14 : decode cX10_underOf 14 = .ok (.iconst 0, 1) := by decide +kernel
theorem dX10_underOf_15 : decode cX10_underOf 15 = .ok (.istore_n 3, 1) := by decide +kernel
theorem dX10_underOf_16 : decode cX10_underOf 16 = .ok (.iload_n 3, 1) := by decide +kernel
theorem dX10_underOf_17 : decode cX10_underOf 17 = .ok (.bipush 6, 2) := by decide +kernel
theorem dX10_underOf_19 : decode cX10_underOf 19 = .ok (.if_icmp .ge 56, 3) := by decide +kernel
theorem dX10_underOf_22 : decode cX10_underOf 22 = .ok (.aload_n 0, 1) := by decide +kernel
theorem dX10_underOf_23 : decode cX10_underOf 23 = .ok (.getfield 31, 3) := by decide +kernel
theorem dX10_underOf_26 : decode cX10_underOf 26 = .ok (.bipush 7, 2) := by decide +kernel
theorem dX10_underOf_28 : decode cX10_underOf 28 = .ok (.iload_n 1, 1) := by decide +kernel
theorem dX10_underOf_29 : decode cX10_underOf 29 = .ok (.imul, 1) := by decide +kernel
theorem dX10_underOf_30 : decode cX10_underOf 30 = .ok (.iload_n 3, 1) := by decide +kernel
theorem dX10_underOf_31 : decode cX10_underOf 31 = .ok (.iadd, 1) := by decide +kernel
theorem dX10_underOf_32 : decode cX10_underOf 32 = .ok (.dup2, 1) := by decide +kernel
theorem dX10_underOf_33 : decode cX10_underOf 33 = .ok (.iaload, 1) := by decide +kernel
theorem dX10_underOf_34 : decode cX10_underOf 34 = .ok (.iconst 1, 1) := by decide +kernel
theorem dX10_underOf_35 : decode cX10_underOf 35 = .ok (.iadd, 1) := by decide +kernel
theorem dX10_underOf_36 : decode cX10_underOf 36 = .ok (.iastore, 1) := by decide +kernel
theorem dX10_underOf_37 : decode cX10_underOf 37 = .ok (.iload_n 2, 1) := by decide +kernel
theorem dX10_underOf_38 : decode cX10_underOf 38 = .ok (.aload_n 0, 1) := by decide +kernel
theorem dX10_underOf_39 : decode cX10_underOf 39 = .ok (.invokevirtual 234, 3) := by decide +kernel
theorem dX10_underOf_42 : decode cX10_underOf 42 = .ok (.ifCond .eq 9, 3) := by decide +kernel
theorem dX10_underOf_45 : decode cX10_underOf 45 = .ok (.iconst 1, 1) := by decide +kernel
theorem dX10_underOf_46 : decode cX10_underOf 46 = .ok (.iload_n 3, 1) := by decide +kernel
theorem dX10_underOf_47 : decode cX10_underOf 47 = .ok (.ishl, 1) := by decide +kernel
theorem dX10_underOf_48 : decode cX10_underOf 48 = .ok (.goto 4, 3) := by decide +kernel
theorem dX10_underOf_51 : decode cX10_underOf 51 = .ok (.iconst 0, 1) := by decide +kernel
theorem dX10_underOf_52 : decode cX10_underOf 52 = .ok (.ior, 1) := by decide +kernel
theorem dX10_underOf_53 : decode cX10_underOf 53 = .ok (.istore_n 2, 1) := by decide +kernel
theorem dX10_underOf_54 : decode cX10_underOf 54 = .ok (.aload_n 0, 1) := by decide +kernel
theorem dX10_underOf_55 : decode cX10_underOf 55 = .ok (.getfield 31, 3) := by decide +kernel
theorem dX10_underOf_58 : decode cX10_underOf 58 = .ok (.bipush 7, 2) := by decide +kernel
theorem dX10_underOf_60 : decode cX10_underOf 60 = .ok (.iload_n 1, 1) := by decide +kernel
theorem dX10_underOf_61 : decode cX10_underOf 61 = .ok (.imul, 1) := by decide +kernel
theorem dX10_underOf_62 : decode cX10_underOf 62 = .ok (.iload_n 3, 1) := by decide +kernel
theorem dX10_underOf_63 : decode cX10_underOf 63 = .ok (.iadd, 1) := by decide +kernel
theorem dX10_underOf_64 : decode cX10_underOf 64 = .ok (.dup2, 1) := by decide +kernel
theorem dX10_underOf_65 : decode cX10_underOf 65 = .ok (.iaload, 1) := by decide +kernel
theorem dX10_underOf_66 : decode cX10_underOf 66 = .ok (.iconst 1, 1) := by decide +kernel
theorem dX10_underOf_67 : decode cX10_underOf 67 = .ok (.isub, 1) := by decide +kernel
theorem dX10_underOf_68 : decode cX10_underOf 68 = .ok (.iastore, 1) := by decide +kernel
theorem dX10_underOf_69 : decode cX10_underOf 69 = .ok (.iinc 3 1, 3) := by decide +kernel
theorem dX10_underOf_72 : decode cX10_underOf 72 = .ok (.goto (-56), 3) := by decide +kernel
theorem dX10_underOf_75 : decode cX10_underOf 75 = .ok (.iload_n 2, 1) := by decide +kernel
theorem dX10_underOf_76 : decode cX10_underOf 76 = .ok (.ireturn, 1) := by decide +kernel
theorem dX10_under_0 : decode cX10_under 0 = .ok (.aload_n 0, 1) := by decide +kernel
theorem dX10_under_1 : decode cX10_under 1 = .ok (.invokevirtual 129, 3) := by decide +kernel
theorem dX10_under_4 : decode cX10_under 4 = .ok (.aload_n 0, 1) := by decide +kernel
theorem dX10_under_5 : decode cX10_under 5 = .ok (.iload_n 1, 1) := by decide +kernel
theorem dX10_under_6 : decode cX10_under 6 = .ok (.invokevirtual 135, 3) := by decide +kernel
theorem dX10_under_9 : decode cX10_under 9 = .ok (.ifCond .eq 11, 3) := by decide +kernel
theorem dX10_under_12 : decode cX10_under 12 = .ok (.aload_n 0, 1) := by decide +kernel
theorem dX10_under_13 : decode cX10_under 13 = .ok (.iload_n 1, 1) := by decide +kernel
theorem dX10_under_14 : decode cX10_under 14 = .ok (.invokevirtual 241, 3) := by decide +kernel
theorem dX10_under_17 : decode cX10_under 17 = .ok (.goto 5, 3) := by decide +kernel
theorem dX10_under_20 : decode cX10_under 20 = .ok (.bipush (-2), 2) := by decide +kernel
theorem dX10_under_22 : decode cX10_under 22 = .ok (.ireturn, 1) := by decide +kernel
theorem dX10_askOf_0 : decode cX10_askOf 0 = .ok (.aload_n 0, 1) := by decide +kernel
theorem dX10_askOf_1 : decode cX10_askOf 1 = .ok (.iload_n 1, 1) := by decide +kernel
theorem dX10_askOf_2 : decode cX10_askOf 2 = .ok (.iconst 0, 1) := by decide +kernel
theorem dX10_askOf_3 : decode cX10_askOf 3 = .ok (.invokevirtual 238, 3) := by decide +kernel
theorem dX10_askOf_6 : decode cX10_askOf 6 = .ok (.istore_n 3, 1) := by decide +kernel
theorem dX10_askOf_7 : decode cX10_askOf 7 = .ok (.aload_n 0, 1) := by decide +kernel
theorem dX10_askOf_8 : decode cX10_askOf 8 = .ok (.getfield 28, 3) := by decide +kernel
theorem dX10_askOf_11 : decode cX10_askOf 11 = .ok (.iconst 3, 1) := by decide +kernel
theorem dX10_askOf_12 : decode cX10_askOf 12 = .ok (.iload_n 1, 1) := by decide +kernel
theorem dX10_askOf_13 : decode cX10_askOf 13 = .ok (.imul, 1) := by decide +kernel
theorem dX10_askOf_14 : decode cX10_askOf 14 = .ok (.iconst 1, 1) := by decide +kernel
theorem dX10_askOf_15 : decode cX10_askOf 15 = .ok (.iadd, 1) := by decide +kernel
theorem dX10_askOf_16 : decode cX10_askOf 16 = .ok (.iaload, 1) := by decide +kernel
theorem dX10_askOf_17 : decode cX10_askOf 17 = .ok (.istore 4, 2) := by decide +kernel
theorem dX10_askOf_19 : decode cX10_askOf 19 = .ok (.iconst 0, 1) := by decide +kernel
theorem dX10_askOf_20 : decode cX10_askOf 20 = .ok (.istore 5, 2) := by decide +kernel
theorem dX10_askOf_22 : decode cX10_askOf 22 = .ok (.iload 5, 2) := by decide +kernel
theorem dX10_askOf_24 : decode cX10_askOf 24 = .ok (.bipush 80, 2) := by decide +kernel
theorem dX10_askOf_26 : decode cX10_askOf 26 = .ok (.if_icmp .ge 17, 3) := by decide +kernel
theorem dX10_askOf_29 : decode cX10_askOf 29 = .ok (.aload_n 0, 1) := by decide +kernel
theorem dX10_askOf_30 : decode cX10_askOf 30 = .ok (.getfield 52, 3) := by decide +kernel
theorem dX10_askOf_33 : decode cX10_askOf 33 = .ok (.iload 5, 2) := by decide +kernel
theorem dX10_askOf_35 : decode cX10_askOf 35 = .ok (.iconst 0, 1) := by decide +kernel
theorem dX10_askOf_36 : decode cX10_askOf 36 = .ok (.iastore, 1) := by decide +kernel
theorem dX10_askOf_37 : decode cX10_askOf 37 = .ok (.iinc 5 1, 3) := by decide +kernel
theorem dX10_askOf_40 : decode cX10_askOf 40 = .ok (.goto (-18), 3) := by decide +kernel
theorem dX10_askOf_43 : decode cX10_askOf 43 = .ok (.iconst 0, 1) := by decide +kernel
theorem dX10_askOf_44 : decode cX10_askOf 44 = .ok (.istore 5, 2) := by decide +kernel
theorem dX10_askOf_46 : decode cX10_askOf 46 = .ok (.iload 5, 2) := by decide +kernel
theorem dX10_askOf_48 : decode cX10_askOf 48 = .ok (.bipush 6, 2) := by decide +kernel
theorem dX10_askOf_50 : decode cX10_askOf 50 = .ok (.if_icmp .ge 77, 3) := by decide +kernel
theorem dX10_askOf_53 : decode cX10_askOf 53 = .ok (.iload_n 3, 1) := by decide +kernel
theorem dX10_askOf_54 : decode cX10_askOf 54 = .ok (.iload 5, 2) := by decide +kernel
theorem dX10_askOf_56 : decode cX10_askOf 56 = .ok (.invokestatic 149, 3) := by decide +kernel
theorem dX10_askOf_59 : decode cX10_askOf 59 = .ok (.ifCond .eq 62, 3) := by decide +kernel
theorem dX10_askOf_62 : decode cX10_askOf 62 = .ok (.aload_n 0, 1) := by decide +kernel
theorem dX10_askOf_63 : decode cX10_askOf 63 = .ok (.getfield 28, 3) := by decide +kernel
theorem dX10_askOf_66 : decode cX10_askOf 66 = .ok (.iconst 3, 1) := by decide +kernel
theorem dX10_askOf_67 : decode cX10_askOf 67 = .ok (.iload_n 1, 1) := by decide +kernel
theorem dX10_askOf_68 : decode cX10_askOf 68 = .ok (.imul, 1) := by decide +kernel
theorem dX10_askOf_69 : decode cX10_askOf 69 = .ok (.iconst 1, 1) := by decide +kernel
theorem dX10_askOf_70 : decode cX10_askOf 70 = .ok (.iadd, 1) := by decide +kernel
theorem dX10_askOf_71 : decode cX10_askOf 71 = .ok (.iload 5, 2) := by decide +kernel
theorem dX10_askOf_73 : decode cX10_askOf 73 = .ok (.iastore, 1) := by decide +kernel
theorem dX10_askOf_74 : decode cX10_askOf 74 = .ok (.aload_n 0, 1) := by decide +kernel
theorem dX10_askOf_75 : decode cX10_askOf 75 = .ok (.iload_n 2, 1) := by decide +kernel
theorem dX10_askOf_76 : decode cX10_askOf 76 = .ok (.invokevirtual 185, 3) := by decide +kernel
theorem dX10_askOf_79 : decode cX10_askOf 79 = .ok (.iconst 0, 1) := by decide +kernel
theorem dX10_askOf_80 : decode cX10_askOf 80 = .ok (.istore 6, 2) := by decide +kernel
theorem dX10_askOf_82 : decode cX10_askOf 82 = .ok (.iload 6, 2) := by decide +kernel
theorem dX10_askOf_84 : decode cX10_askOf 84 = .ok (.aload_n 0, 1) := by decide +kernel
theorem dX10_askOf_85 : decode cX10_askOf 85 = .ok (.getfield 111, 3) := by decide +kernel
theorem dX10_askOf_88 : decode cX10_askOf 88 = .ok (.if_icmp .ge 33, 3) := by decide +kernel
theorem dX10_askOf_91 : decode cX10_askOf 91 = .ok (.aload_n 0, 1) := by decide +kernel
theorem dX10_askOf_92 : decode cX10_askOf 92 = .ok (.getfield 52, 3) := by decide +kernel
theorem dX10_askOf_95 : decode cX10_askOf 95 = .ok (.bipush 10, 2) := by decide +kernel
theorem dX10_askOf_97 : decode cX10_askOf 97 = .ok (.iload 6, 2) := by decide +kernel
theorem dX10_askOf_99 : decode cX10_askOf 99 = .ok (.imul, 1) := by decide +kernel
theorem dX10_askOf_100 : decode cX10_askOf 100 = .ok (.aload_n 0, 1) := by decide +kernel
theorem dX10_askOf_101 : decode cX10_askOf 101 = .ok (.getfield 37, 3) := by decide +kernel
theorem dX10_askOf_104 : decode cX10_askOf 104 = .ok (.iload 6, 2) := by decide +kernel
theorem dX10_askOf_106 : decode cX10_askOf 106 = .ok (.iaload, 1) := by decide +kernel
theorem dX10_askOf_107 : decode cX10_askOf 107 = .ok (.iadd, 1) := by decide +kernel
theorem dX10_askOf_108 : decode cX10_askOf 108 = .ok (.iconst 1, 1) := by decide +kernel
theorem dX10_askOf_109 : decode cX10_askOf 109 = .ok (.iadd, 1) := by decide +kernel
theorem dX10_askOf_110 : decode cX10_askOf 110 = .ok (.dup2, 1) := by decide +kernel
theorem dX10_askOf_111 : decode cX10_askOf 111 = .ok (.iaload, 1) := by decide +kernel
theorem dX10_askOf_112 : decode cX10_askOf 112 = .ok (.iconst 1, 1) := by decide +kernel
theorem dX10_askOf_113 : decode cX10_askOf 113 = .ok (.iadd, 1) := by decide +kernel
theorem dX10_askOf_114 : decode cX10_askOf 114 = .ok (.iastore, 1) := by decide +kernel
theorem dX10_askOf_115 : decode cX10_askOf 115 = .ok (.iinc 6 1, 3) := by decide +kernel
theorem dX10_askOf_118 : decode cX10_askOf 118 = .ok (.goto (-36), 3) := by decide +kernel
theorem dX10_askOf_121 : decode cX10_askOf 121 = .ok (.iinc 5 1, 3) := by decide +kernel
theorem dX10_askOf_124 : decode cX10_askOf 124 = .ok (.goto (-78), 3) := by decide +kernel
theorem dX10_askOf_127 : decode cX10_askOf 127 = .ok (.aload_n 0, 1) := by decide +kernel
theorem dX10_askOf_128 : decode cX10_askOf 128 = .ok (.getfield 28, 3) := by decide +kernel
theorem dX10_askOf_131 : decode cX10_askOf 131 = .ok (.iconst 3, 1) := by decide +kernel
theorem dX10_askOf_132 : decode cX10_askOf 132 = .ok (.iload_n 1, 1) := by decide +kernel
theorem dX10_askOf_133 : decode cX10_askOf 133 = .ok (.imul, 1) := by decide +kernel
theorem dX10_askOf_134 : decode cX10_askOf 134 = .ok (.iconst 1, 1) := by decide +kernel
theorem dX10_askOf_135 : decode cX10_askOf 135 = .ok (.iadd, 1) := by decide +kernel
theorem dX10_askOf_136 : decode cX10_askOf 136 = .ok (.iload 4, 2) := by decide +kernel
theorem dX10_askOf_138 : decode cX10_askOf 138 = .ok (.iastore, 1) := by decide +kernel
theorem dX10_askOf_139 : decode cX10_askOf 139 = .ok (.iconst (-1), 1) := by decide +kernel
theorem dX10_askOf_140 : decode cX10_askOf 140 = .ok (.istore 5, 2) := by decide +kernel
theorem dX10_askOf_142 : decode cX10_askOf 142 = .ok (.iconst 0, 1) := by decide +kernel
theorem dX10_askOf_143 : decode cX10_askOf 143 = .ok (.istore 6, 2) := by decide +kernel
theorem dX10_askOf_145 : decode cX10_askOf 145 = .ok (.iconst 0, 1) := by decide +kernel
theorem dX10_askOf_146 : decode cX10_askOf 146 = .ok (.istore 7, 2) := by decide +kernel
theorem dX10_askOf_148 : decode cX10_askOf 148 = .ok (.iload 7, 2) := by decide +kernel
theorem dX10_askOf_150 : decode cX10_askOf 150 = .ok (.aload_n 0, 1) := by decide +kernel
theorem dX10_askOf_151 : decode cX10_askOf 151 = .ok (.getfield 111, 3) := by decide +kernel
theorem dX10_askOf_154 : decode cX10_askOf 154 = .ok (.if_icmp .ge 114, 3) := by decide +kernel
theorem dX10_askOf_157 : decode cX10_askOf 157 = .ok (.iconst 0, 1) := by decide +kernel
theorem dX10_askOf_158 : decode cX10_askOf 158 = .ok (.istore 8, 2) := by decide +kernel
theorem dX10_askOf_160 : decode cX10_askOf 160 = .ok (.iconst 0, 1) := by decide +kernel
theorem dX10_askOf_161 : decode cX10_askOf 161 = .ok (.istore 9, 2) := by decide +kernel
theorem dX10_askOf_163 : decode cX10_askOf 163 = .ok (.iload 9, 2) := by decide +kernel
theorem dX10_askOf_165 : decode cX10_askOf 165 = .ok (.bipush 10, 2) := by decide +kernel
theorem dX10_askOf_167 : decode cX10_askOf 167 = .ok (.if_icmp .ge 47, 3) := by decide +kernel
theorem dX10_askOf_170 : decode cX10_askOf 170 = .ok (.aload_n 0, 1) := by decide +kernel
theorem dX10_askOf_171 : decode cX10_askOf 171 = .ok (.getfield 52, 3) := by decide +kernel
theorem dX10_askOf_174 : decode cX10_askOf 174 = .ok (.bipush 10, 2) := by decide +kernel
theorem dX10_askOf_176 : decode cX10_askOf 176 = .ok (.iload 7, 2) := by decide +kernel
theorem dX10_askOf_178 : decode cX10_askOf 178 = .ok (.imul, 1) := by decide +kernel
theorem dX10_askOf_179 : decode cX10_askOf 179 = .ok (.iload 9, 2) := by decide +kernel
theorem dX10_askOf_181 : decode cX10_askOf 181 = .ok (.iadd, 1) := by decide +kernel
theorem dX10_askOf_182 : decode cX10_askOf 182 = .ok (.iaload, 1) := by decide +kernel
theorem dX10_askOf_183 : decode cX10_askOf 183 = .ok (.iload 8, 2) := by decide +kernel
theorem dX10_askOf_185 : decode cX10_askOf 185 = .ok (.if_icmp .le 19, 3) := by decide +kernel
theorem dX10_askOf_188 : decode cX10_askOf 188 = .ok (.aload_n 0, 1) := by decide +kernel
theorem dX10_askOf_189 : decode cX10_askOf 189 = .ok (.getfield 52, 3) := by decide +kernel
theorem dX10_askOf_192 : decode cX10_askOf 192 = .ok (.bipush 10, 2) := by decide +kernel
theorem dX10_askOf_194 : decode cX10_askOf 194 = .ok (.iload 7, 2) := by decide +kernel
theorem dX10_askOf_196 : decode cX10_askOf 196 = .ok (.imul, 1) := by decide +kernel
theorem dX10_askOf_197 : decode cX10_askOf 197 = .ok (.iload 9, 2) := by decide +kernel
theorem dX10_askOf_199 : decode cX10_askOf 199 = .ok (.iadd, 1) := by decide +kernel
theorem dX10_askOf_200 : decode cX10_askOf 200 = .ok (.iaload, 1) := by decide +kernel
theorem dX10_askOf_201 : decode cX10_askOf 201 = .ok (.goto 5, 3) := by decide +kernel
theorem dX10_askOf_204 : decode cX10_askOf 204 = .ok (.iload 8, 2) := by decide +kernel
theorem dX10_askOf_206 : decode cX10_askOf 206 = .ok (.istore 8, 2) := by decide +kernel
theorem dX10_askOf_208 : decode cX10_askOf 208 = .ok (.iinc 9 1, 3) := by decide +kernel
theorem dX10_askOf_211 : decode cX10_askOf 211 = .ok (.goto (-48), 3) := by decide +kernel
theorem dX10_askOf_214 : decode cX10_askOf 214 = .ok (.iload 5, 2) := by decide +kernel
theorem dX10_askOf_216 : decode cX10_askOf 216 = .ok (.iconst (-1), 1) := by decide +kernel
theorem dX10_askOf_217 : decode cX10_askOf 217 = .ok (.if_icmp .eq 10, 3) := by decide +kernel
theorem dX10_askOf_220 : decode cX10_askOf 220 = .ok (.iload 8, 2) := by decide +kernel
theorem dX10_askOf_222 : decode cX10_askOf 222 = .ok (.iload 6, 2) := by decide +kernel
theorem dX10_askOf_224 : decode cX10_askOf 224 = .ok (.if_icmp .ge 7, 3) := by decide +kernel
theorem dX10_askOf_227 : decode cX10_askOf 227 = .ok (.iconst 1, 1) := by decide +kernel
theorem dX10_askOf_228 : decode cX10_askOf 228 = .ok (.goto 4, 3) := by decide +kernel
theorem dX10_askOf_231 : decode cX10_askOf 231 = .ok (.iconst 0, 1) := by decide +kernel
theorem dX10_askOf_232 : decode cX10_askOf 232 = .ok (.istore 9, 2) := by decide +kernel
theorem dX10_askOf_234 : decode cX10_askOf 234 = .ok (.iload 9, 2) := by decide +kernel
theorem dX10_askOf_236 : decode cX10_askOf 236 = .ok (.ifCond .eq 8, 3) := by decide +kernel
theorem dX10_askOf_239 : decode cX10_askOf 239 = .ok (.iload 7, 2) := by decide +kernel
theorem dX10_askOf_241 : decode cX10_askOf 241 = .ok (.goto 5, 3) := by decide +kernel
theorem dX10_askOf_244 : decode cX10_askOf 244 = .ok (.iload 5, 2) := by decide +kernel
theorem dX10_askOf_246 : decode cX10_askOf 246 = .ok (.istore 5, 2) := by decide +kernel
theorem dX10_askOf_248 : decode cX10_askOf 248 = .ok (.iload 9, 2) := by decide +kernel
theorem dX10_askOf_250 : decode cX10_askOf 250 = .ok (.ifCond .eq 8, 3) := by decide +kernel
theorem dX10_askOf_253 : decode cX10_askOf 253 = .ok (.iload 8, 2) := by decide +kernel
theorem dX10_askOf_255 : decode cX10_askOf 255 = .ok (.goto 5, 3) := by decide +kernel
theorem dX10_askOf_258 : decode cX10_askOf 258 = .ok (.iload 6, 2) := by decide +kernel
theorem dX10_askOf_260 : decode cX10_askOf 260 = .ok (.istore 6, 2) := by decide +kernel
theorem dX10_askOf_262 : decode cX10_askOf 262 = .ok (.iinc 7 1, 3) := by decide +kernel
theorem dX10_askOf_265 : decode cX10_askOf 265 = .ok (.goto (-117), 3) := by decide +kernel
theorem dX10_askOf_268 : decode cX10_askOf 268 = .ok (.iload 5, 2) := by decide +kernel
theorem dX10_askOf_270 : decode cX10_askOf 270 = .ok (.ireturn, 1) := by decide +kernel
theorem dX10_ask_0 : decode cX10_ask 0 = .ok (.aload_n 0, 1) := by decide +kernel
theorem dX10_ask_1 : decode cX10_ask 1 = .ok (.invokevirtual 129, 3) := by decide +kernel
theorem dX10_ask_4 : decode cX10_ask 4 = .ok (.aload_n 0, 1) := by decide +kernel
theorem dX10_ask_5 : decode cX10_ask 5 = .ok (.iload_n 1, 1) := by decide +kernel
theorem dX10_ask_6 : decode cX10_ask 6 = .ok (.invokevirtual 132, 3) := by decide +kernel
theorem dX10_ask_9 : decode cX10_ask 9 = .ok (.ifCond .eq 19, 3) := by decide +kernel
theorem dX10_ask_12 : decode cX10_ask 12 = .ok (.iload_n 2, 1) := by decide +kernel
theorem dX10_ask_13 : decode cX10_ask 13 = .ok (.invokestatic 188, 3) := by decide +kernel
theorem dX10_ask_16 : decode cX10_ask 16 = .ok (.ifCond .eq 12, 3) := by decide +kernel
theorem dX10_ask_19 : decode cX10_ask 19 = .ok (.aload_n 0, 1) := by decide +kernel
theorem dX10_ask_20 : decode cX10_ask 20 = .ok (.iload_n 1, 1) := by decide +kernel
theorem dX10_ask_21 : decode cX10_ask 21 = .ok (.iload_n 2, 1) := by decide +kernel
theorem dX10_ask_22 : decode cX10_ask 22 = .ok (.invokevirtual 244, 3) := by decide +kernel
theorem dX10_ask_25 : decode cX10_ask 25 = .ok (.goto 5, 3) := by decide +kernel
theorem dX10_ask_28 : decode cX10_ask 28 = .ok (.bipush (-2), 2) := by decide +kernel
theorem dX10_ask_30 : decode cX10_ask 30 = .ok (.ireturn, 1) := by decide +kernel
theorem dX10_believedOf_0 : decode cX10_believedOf 0 = .ok (.lconst 0, 1) := by decide +kernel
theorem dX10_believedOf_1 : decode cX10_believedOf 1 = .ok (.lstore 5, 2) := by decide +kernel
theorem dX10_believedOf_3 : decode cX10_believedOf 3 = .ok (.iconst 0, 1) := by decide +kernel
theorem dX10_believedOf_4 : decode cX10_believedOf 4 = .ok (.istore 7, 2) := by decide +kernel
theorem dX10_believedOf_6 : decode cX10_believedOf 6 = .ok (.iload 7, 2) := by decide +kernel
theorem dX10_believedOf_8 : decode cX10_believedOf 8 = .ok (.iconst 1, 1) := by decide +kernel
theorem dX10_believedOf_9 : decode cX10_believedOf 9 = .ok (.aload_n 0, 1) := by decide +kernel
theorem dX10_believedOf_10 : decode cX10_believedOf 10 = .ok (.getfield 144, 3) := by decide +kernel
theorem dX10_believedOf_13 : decode cX10_believedOf 13 = .ok (.ishl, 1) := by decide +kernel
theorem dX10_believedOf_14 : decode cX10_believedOf 14 = .ok (.if_icmp .ge 80, 3) := by decide +kernel
theorem dX10_believedOf_17 : decode cX10_believedOf 17 = .ok (.aload_n 0, 1) := by decide +kernel
theorem dX10_believedOf_18 : decode cX10_believedOf 18 = .ok (.iload 7, 2) := by decide +kernel
theorem dX10_believedOf_20 : decode cX10_believedOf 20 = .ok (.putfield 59, 3) := by decide +kernel
theorem dX10_believedOf_23 : decode cX10_believedOf 23 = .ok (.aload_n 0, 1) := by decide +kernel
theorem dX10_believedOf_24 : decode cX10_believedOf 24 = .ok (.iload_n 3, 1) := by decide +kernel
theorem dX10_believedOf_25 : decode cX10_believedOf 25 = .ok (.invokevirtual 203, 3) := by decide +kernel
theorem dX10_believedOf_28 : decode cX10_believedOf 28 = .ok (.iload_n 2, 1) := by decide +kernel
theorem dX10_believedOf_29 : decode cX10_believedOf 29 = .ok (.invokestatic 149, 3) := by decide +kernel
theorem dX10_believedOf_32 : decode cX10_believedOf 32 = .ok (.ifCond .eq 56, 3) := by decide +kernel
theorem dX10_believedOf_35 : decode cX10_believedOf 35 = .ok (.lconst 1, 1) := by decide +kernel
theorem dX10_believedOf_36 : decode cX10_believedOf 36 = .ok (.lstore 8, 2) := by decide +kernel
theorem dX10_believedOf_38 : decode cX10_believedOf 38 = .ok (.iconst 0, 1) := by decide +kernel
theorem dX10_believedOf_39 : decode cX10_believedOf 39 = .ok (.istore 10, 2) := by decide +kernel
theorem dX10_believedOf_41 : decode cX10_believedOf 41 = .ok (.iload 10, 2) := by decide +kernel
theorem dX10_believedOf_43 : decode cX10_believedOf 43 = .ok (.aload_n 0, 1) := by decide +kernel
theorem dX10_believedOf_44 : decode cX10_believedOf 44 = .ok (.getfield 144, 3) := by decide +kernel
theorem dX10_believedOf_47 : decode cX10_believedOf 47 = .ok (.if_icmp .ge 34, 3) := by decide +kernel
theorem dX10_believedOf_50 : decode cX10_believedOf 50 = .ok (.lload 8, 2) := by decide +kernel
theorem dX10_believedOf_52 : decode cX10_believedOf 52 = .ok (.iload 7, 2) := by decide +kernel
theorem dX10_believedOf_54 : decode cX10_believedOf 54 = .ok (.iload 10, 2) := by decide +kernel
theorem dX10_believedOf_56 : decode cX10_believedOf 56 = .ok (.invokestatic 149, 3) := by decide +kernel
theorem dX10_believedOf_59 : decode cX10_believedOf 59 = .ok (.ifCond .eq 8, 3) := by decide +kernel
theorem dX10_believedOf_62 : decode cX10_believedOf 62 = .ok (.iload_n 1, 1) := by decide +kernel
theorem dX10_believedOf_63 : decode cX10_believedOf 63 = .ok (.i2l, 1) := by decide +kernel
theorem dX10_believedOf_64 : decode cX10_believedOf 64 = .ok (.goto 8, 3) := by decide +kernel
theorem dX10_believedOf_67 : decode cX10_believedOf 67 = .ok (.bipush 16, 2) := by decide +kernel
theorem dX10_believedOf_69 : decode cX10_believedOf 69 = .ok (.iload_n 1, 1) := by decide +kernel
theorem dX10_believedOf_70 : decode cX10_believedOf 70 = .ok (.isub, 1) := by decide +kernel
theorem dX10_believedOf_71 : decode cX10_believedOf 71 = .ok (.i2l, 1) := by decide +kernel
theorem dX10_believedOf_72 : decode cX10_believedOf 72 = .ok (.lmul, 1) := by decide +kernel
theorem dX10_believedOf_73 : decode cX10_believedOf 73 = .ok (.lstore 8, 2) := by decide +kernel
theorem dX10_believedOf_75 : decode cX10_believedOf 75 = .ok (.iinc 10 1, 3) := by decide +kernel
theorem dX10_believedOf_78 : decode cX10_believedOf 78 = .ok (.goto (-37), 3) := by decide +kernel
theorem dX10_believedOf_81 : decode cX10_believedOf 81 = .ok (.lload 5, 2) := by decide +kernel
theorem dX10_believedOf_83 : decode cX10_believedOf 83 = .ok (.lload 8, 2) := by decide +kernel
theorem dX10_believedOf_85 : decode cX10_believedOf 85 = .ok (.ladd, 1) := by decide +kernel
theorem dX10_believedOf_86 : decode cX10_believedOf 86 = .ok (.lstore 5, 2) := by decide +kernel
theorem dX10_believedOf_88 : decode cX10_believedOf 88 = .ok (.iinc 7 1, 3) := by decide +kernel
theorem dX10_believedOf_91 : decode cX10_believedOf 91 = .ok (.goto (-85), 3) := by decide +kernel
theorem dX10_believedOf_94 : decode cX10_believedOf 94 = .ok (.aload_n 0, 1) := by decide +kernel
theorem dX10_believedOf_95 : decode cX10_believedOf 95 = .ok (.sipush 255, 3) := by decide +kernel
theorem dX10_believedOf_98 : decode cX10_believedOf 98 = .ok (.putfield 59, 3) := by decide +kernel
theorem dX10_believedOf_101 : decode cX10_believedOf 101 = .ok (.lload 5, 2) := by decide +kernel
theorem dX10_believedOf_103 : decode cX10_believedOf 103 = .ok (.lconst 1, 1) := by decide +kernel
theorem dX10_believedOf_104 : decode cX10_believedOf 104 = .ok (.iconst 4, 1) := by decide +kernel
theorem dX10_believedOf_105 : decode cX10_believedOf 105 = .ok (.aload_n 0, 1) := by decide +kernel
theorem dX10_believedOf_106 : decode cX10_believedOf 106 = .ok (.getfield 144, 3) := by decide +kernel
theorem dX10_believedOf_109 : decode cX10_believedOf 109 = .ok (.imul, 1) := by decide +kernel
theorem dX10_believedOf_110 : decode cX10_believedOf 110 = .ok (.lshl, 1) := by decide +kernel
theorem dX10_believedOf_111 : decode cX10_believedOf 111 = .ok (.iload 4, 2) := by decide +kernel
theorem dX10_believedOf_113 : decode cX10_believedOf 113 = .ok (.invokestatic 247, 3) := by decide +kernel
theorem dX10_believedOf_116 : decode cX10_believedOf 116 = .ok (.lreturn, 1) := by decide +kernel
theorem dX10_believed_0 : decode cX10_believed 0 = .ok (.aload_n 0, 1) := by decide +kernel
theorem dX10_believed_1 : decode cX10_believed 1 = .ok (.invokevirtual 129, 3) := by decide +kernel
theorem dX10_believed_4 : decode cX10_believed 4 = .ok (.iload_n 1, 1) := by decide +kernel
theorem dX10_believed_5 : decode cX10_believed 5 = .ok (.i2l, 1) := by decide +kernel
theorem dX10_believed_6 : decode cX10_believed 6 = .ok (.lconst 0, 1) := by decide +kernel
theorem dX10_believed_7 : decode cX10_believed 7 = .ok (.ldc2_w 251, 3) := by decide +kernel
theorem dX10_believed_10 : decode cX10_believed 10 = .ok (.invokestatic 64, 3) := by decide +kernel
theorem dX10_believed_13 : decode cX10_believed 13 = .ok (.ifCond .eq 38, 3) := by decide +kernel
theorem dX10_believed_16 : decode cX10_believed 16 = .ok (.aload_n 0, 1) := by decide +kernel
theorem dX10_believed_17 : decode cX10_believed 17 = .ok (.iload_n 2, 1) := by decide +kernel
theorem dX10_believed_18 : decode cX10_believed 18 = .ok (.invokevirtual 135, 3) := by decide +kernel
theorem dX10_believed_21 : decode cX10_believed 21 = .ok (.ifCond .eq 30, 3) := by decide +kernel
theorem dX10_believed_24 : decode cX10_believed 24 = .ok (.iload_n 3, 1) := by decide +kernel
theorem dX10_believed_25 : decode cX10_believed 25 = .ok (.invokestatic 188, 3) := by decide +kernel
theorem dX10_believed_28 : decode cX10_believed 28 = .ok (.ifCond .eq 23, 3) := by decide +kernel
theorem dX10_believed_31 : decode cX10_believed 31 = .ok (.iload 4, 2) := by decide +kernel
theorem dX10_believed_33 : decode cX10_believed 33 = .ok (.invokestatic 92, 3) := by decide +kernel
theorem dX10_believed_36 : decode cX10_believed 36 = .ok (.ifCond .eq 15, 3) := by decide +kernel
theorem dX10_believed_39 : decode cX10_believed 39 = .ok (.aload_n 0, 1) := by decide +kernel
theorem dX10_believed_40 : decode cX10_believed 40 = .ok (.iload_n 1, 1) := by decide +kernel
theorem dX10_believed_41 : decode cX10_believed 41 = .ok (.iload_n 2, 1) := by decide +kernel
theorem dX10_believed_42 : decode cX10_believed 42 = .ok (.iload_n 3, 1) := by decide +kernel
theorem dX10_believed_43 : decode cX10_believed 43 = .ok (.iload 4, 2) := by decide +kernel
theorem dX10_believed_45 : decode cX10_believed 45 = .ok (.invokevirtual 253, 3) := by decide +kernel
theorem dX10_believed_48 : decode cX10_believed 48 = .ok (.goto 8, 3) := by decide +kernel
theorem dX10_believed_51 : decode cX10_believed 51 = .ok (.bipush (-2), 2) := by decide +kernel
theorem dX10_believed_53 : decode cX10_believed 53 = .ok (.invokestatic 257, 3) := by decide +kernel
theorem dX10_believed_56 : decode cX10_believed 56 = .ok (.lreturn, 1) := by decide +kernel
theorem dX10_lot_0 : decode cX10_lot 0 = .ok (.aload_n 0, 1) := by decide +kernel
theorem dX10_lot_1 : decode cX10_lot 1 = .ok (.ldc_w 261, 3) := by decide +kernel
theorem dX10_lot_4 : decode cX10_lot 4 = .ok (.aload_n 0, 1) := by decide +kernel
theorem dX10_lot_5 : decode cX10_lot 5 = .ok (.getfield 262, 3) := by decide +kernel
theorem dX10_lot_8 : decode cX10_lot 8 = .ok (.imul, 1) := by decide +kernel
theorem dX10_lot_9 : decode cX10_lot 9 = .ok (.sipush 12345, 3) := by decide +kernel
theorem dX10_lot_12 : decode cX10_lot 12 = .ok (.iadd, 1) := by decide +kernel
theorem dX10_lot_13 : decode cX10_lot 13 = .ok (.putfield 262, 3) := by decide +kernel
theorem dX10_lot_16 : decode cX10_lot 16 = .ok (.aload_n 0, 1) := by decide +kernel
theorem dX10_lot_17 : decode cX10_lot 17 = .ok (.getfield 262, 3) := by decide +kernel
theorem dX10_lot_20 : decode cX10_lot 20 = .ok (.bipush 16, 2) := by decide +kernel
theorem dX10_lot_22 : decode cX10_lot 22 = .ok (.iushr, 1) := by decide +kernel
theorem dX10_lot_23 : decode cX10_lot 23 = .ok (.iload_n 1, 1) := by decide +kernel
theorem dX10_lot_24 : decode cX10_lot 24 = .ok (.irem, 1) := by decide +kernel
theorem dX10_lot_25 : decode cX10_lot 25 = .ok (.ireturn, 1) := by decide +kernel
theorem dX10_loadsOf_0 : decode cX10_loadsOf 0 = .ok (.aload_n 0, 1) := by decide +kernel
theorem dX10_loadsOf_1 : decode cX10_loadsOf 1 = .ok (.iload_n 1, 1) := by decide +kernel
theorem dX10_loadsOf_2 : decode cX10_loadsOf 2 = .ok (.putfield 262, 3) := by decide +kernel
theorem dX10_loadsOf_5 : decode cX10_loadsOf 5 = .ok (.iconst 0, 1) := by decide +kernel
theorem dX10_loadsOf_6 : decode cX10_loadsOf 6 = .ok (.istore 5, 2) := by decide +kernel
theorem dX10_loadsOf_8 : decode cX10_loadsOf 8 = .ok (.iload 5, 2) := by decide +kernel
theorem dX10_loadsOf_10 : decode cX10_loadsOf 10 = .ok (.bipush 6, 2) := by decide +kernel
theorem dX10_loadsOf_12 : decode cX10_loadsOf 12 = .ok (.if_icmp .ge 22, 3) := by decide +kernel
theorem dX10_loadsOf_15 : decode cX10_loadsOf 15 = .ok (.aload_n 0, 1) := by decide +kernel
theorem dX10_loadsOf_16 : decode cX10_loadsOf 16 = .ok (.getfield 31, 3) := by decide +kernel
theorem dX10_loadsOf_19 : decode cX10_loadsOf 19 = .ok (.bipush 7, 2) := by decide +kernel
theorem dX10_loadsOf_21 : decode cX10_loadsOf 21 = .ok (.iload_n 3, 1) := by decide +kernel
theorem dX10_loadsOf_22 : decode cX10_loadsOf 22 = .ok (.imul, 1) := by decide +kernel
theorem dX10_loadsOf_23 : decode cX10_loadsOf 23 = .ok (.iload 5, 2) := by decide +kernel
theorem dX10_loadsOf_25 : decode cX10_loadsOf 25 = .ok (.iadd, 1) := by decide +kernel
theorem dX10_loadsOf_26 : decode cX10_loadsOf 26 = .ok (.iconst 0, 1) := by decide +kernel
theorem dX10_loadsOf_27 : decode cX10_loadsOf 27 = .ok (.iastore, 1) := by decide +kernel
theorem dX10_loadsOf_28 : decode cX10_loadsOf 28 = .ok (.iinc 5 1, 3) := by decide +kernel
theorem dX10_loadsOf_31 : decode cX10_loadsOf 31 = .ok (.goto (-23), 3) := by decide +kernel
theorem dX10_loadsOf_34 : decode cX10_loadsOf 34 = .ok (.iconst 0, 1) := by decide +kernel
theorem dX10_loadsOf_35 : decode cX10_loadsOf 35 = .ok (.istore 5, 2) := by decide +kernel
theorem dX10_loadsOf_37 : decode cX10_loadsOf 37 = .ok (.iload 5, 2) := by decide +kernel
theorem dX10_loadsOf_39 : decode cX10_loadsOf 39 = .ok (.iload_n 2, 1) := by decide +kernel
theorem dX10_loadsOf_40 : decode cX10_loadsOf 40 = .ok (.if_icmp .ge 29, 3) := by decide +kernel
theorem dX10_loadsOf_43 : decode cX10_loadsOf 43 = .ok (.aload_n 0, 1) := by decide +kernel
theorem dX10_loadsOf_44 : decode cX10_loadsOf 44 = .ok (.getfield 31, 3) := by decide +kernel
theorem dX10_loadsOf_47 : decode cX10_loadsOf 47 = .ok (.bipush 7, 2) := by decide +kernel
theorem dX10_loadsOf_49 : decode cX10_loadsOf 49 = .ok (.iload_n 3, 1) := by decide +kernel
theorem dX10_loadsOf_50 : decode cX10_loadsOf 50 = .ok (.imul, 1) := by decide +kernel
theorem dX10_loadsOf_51 : decode cX10_loadsOf 51 = .ok (.aload_n 0, 1) := by decide +kernel
theorem dX10_loadsOf_52 : decode cX10_loadsOf 52 = .ok (.bipush 6, 2) := by decide +kernel
theorem dX10_loadsOf_54 : decode cX10_loadsOf 54 = .ok (.invokevirtual 265, 3) := by decide +kernel
theorem dX10_loadsOf_57 : decode cX10_loadsOf 57 = .ok (.iadd, 1) := by decide +kernel
theorem dX10_loadsOf_58 : decode cX10_loadsOf 58 = .ok (.dup2, 1) := by decide +kernel
theorem dX10_loadsOf_59 : decode cX10_loadsOf 59 = .ok (.iaload, 1) := by decide +kernel
theorem dX10_loadsOf_60 : decode cX10_loadsOf 60 = .ok (.iconst 1, 1) := by decide +kernel
theorem dX10_loadsOf_61 : decode cX10_loadsOf 61 = .ok (.iadd, 1) := by decide +kernel
theorem dX10_loadsOf_62 : decode cX10_loadsOf 62 = .ok (.iastore, 1) := by decide +kernel
theorem dX10_loadsOf_63 : decode cX10_loadsOf 63 = .ok (.iinc 5 1, 3) := by decide +kernel
theorem dX10_loadsOf_66 : decode cX10_loadsOf 66 = .ok (.goto (-29), 3) := by decide +kernel
theorem dX10_loadsOf_69 : decode cX10_loadsOf 69 = .ok (.aload_n 0, 1) := by decide +kernel
theorem dX10_loadsOf_70 : decode cX10_loadsOf 70 = .ok (.bipush 99, 2) := by decide +kernel
theorem dX10_loadsOf_72 : decode cX10_loadsOf 72 = .ok (.invokevirtual 185, 3) := by decide +kernel
theorem dX10_loadsOf_75 : decode cX10_loadsOf 75 = .ok (.aload_n 0, 1) := by decide +kernel
theorem dX10_loadsOf_76 : decode cX10_loadsOf 76 = .ok (.invokevirtual 124, 3) := by decide +kernel
theorem dX10_loadsOf_79 : decode cX10_loadsOf 79 = .ok (.pop, 1) := by decide +kernel
theorem dX10_loadsOf_80 : decode cX10_loadsOf 80 = .ok (.iload 4, 2) := by decide +kernel
theorem dX10_loadsOf_82 : decode cX10_loadsOf 82 = .ok (.ifCond .ne 12, 3) := by decide +kernel
theorem dX10_loadsOf_85 : decode cX10_loadsOf 85 = .ok (.aload_n 0, 1) := by decide +kernel
theorem dX10_loadsOf_86 : decode cX10_loadsOf 86 = .ok (.getfield 37, 3) := by decide +kernel
theorem dX10_loadsOf_89 : decode cX10_loadsOf 89 = .ok (.iload_n 3, 1) := by decide +kernel
theorem dX10_loadsOf_90 : decode cX10_loadsOf 90 = .ok (.iaload, 1) := by decide +kernel
theorem dX10_loadsOf_91 : decode cX10_loadsOf 91 = .ok (.goto 9, 3) := by decide +kernel
theorem dX10_loadsOf_94 : decode cX10_loadsOf 94 = .ok (.aload_n 0, 1) := by decide +kernel
theorem dX10_loadsOf_95 : decode cX10_loadsOf 95 = .ok (.getfield 46, 3) := by decide +kernel
theorem dX10_loadsOf_98 : decode cX10_loadsOf 98 = .ok (.iload_n 3, 1) := by decide +kernel
theorem dX10_loadsOf_99 : decode cX10_loadsOf 99 = .ok (.iaload, 1) := by decide +kernel
theorem dX10_loadsOf_100 : decode cX10_loadsOf 100 = .ok (.ireturn, 1) := by decide +kernel
theorem dX10_loads_0 : decode cX10_loads 0 = .ok (.aload_n 0, 1) := by decide +kernel
theorem dX10_loads_1 : decode cX10_loads 1 = .ok (.invokevirtual 129, 3) := by decide +kernel
theorem dX10_loads_4 : decode cX10_loads 4 = .ok (.iload_n 2, 1) := by decide +kernel
theorem dX10_loads_5 : decode cX10_loads 5 = .ok (.i2l, 1) := by decide +kernel
theorem dX10_loads_6 : decode cX10_loads 6 = .ok (.lconst 0, 1) := by decide +kernel
theorem dX10_loads_7 : decode cX10_loads 7 = .ok (.ldc2_w 138, 3) := by decide +kernel
theorem dX10_loads_10 : decode cX10_loads 10 = .ok (.invokestatic 64, 3) := by decide +kernel
theorem dX10_loads_13 : decode cX10_loads 13 = .ok (.ifCond .eq 31, 3) := by decide +kernel
theorem dX10_loads_16 : decode cX10_loads 16 = .ok (.aload_n 0, 1) := by decide +kernel
theorem dX10_loads_17 : decode cX10_loads 17 = .ok (.iload_n 3, 1) := by decide +kernel
theorem dX10_loads_18 : decode cX10_loads 18 = .ok (.invokevirtual 135, 3) := by decide +kernel
theorem dX10_loads_21 : decode cX10_loads 21 = .ok (.ifCond .eq 23, 3) := by decide +kernel
theorem dX10_loads_24 : decode cX10_loads 24 = .ok (.iload 4, 2) := by decide +kernel
theorem dX10_loads_26 : decode cX10_loads 26 = .ok (.invokestatic 92, 3) := by decide +kernel
theorem dX10_loads_29 : decode cX10_loads 29 = .ok (.ifCond .eq 15, 3) := by decide +kernel
theorem dX10_loads_32 : decode cX10_loads 32 = .ok (.aload_n 0, 1) := by decide +kernel
theorem dX10_loads_33 : decode cX10_loads 33 = .ok (.iload_n 1, 1) := by decide +kernel
theorem dX10_loads_34 : decode cX10_loads 34 = .ok (.iload_n 2, 1) := by decide +kernel
theorem dX10_loads_35 : decode cX10_loads 35 = .ok (.iload_n 3, 1) := by decide +kernel
theorem dX10_loads_36 : decode cX10_loads 36 = .ok (.iload 4, 2) := by decide +kernel
theorem dX10_loads_38 : decode cX10_loads 38 = .ok (.invokevirtual 268, 3) := by decide +kernel
theorem dX10_loads_41 : decode cX10_loads 41 = .ok (.goto 5, 3) := by decide +kernel
theorem dX10_loads_44 : decode cX10_loads 44 = .ok (.bipush (-2), 2) := by decide +kernel
theorem dX10_loads_46 : decode cX10_loads 46 = .ok (.ireturn, 1) := by decide +kernel
theorem dX10_write_0 : decode cX10_write 0 = .ok (.iload_n 1, 1) := by decide +kernel
theorem dX10_write_1 : decode cX10_write 1 = .ok (.invokestatic 188, 3) := by decide +kernel
theorem dX10_write_4 : decode cX10_write 4 = .ok (.ifCond .eq 10, 3) := by decide +kernel
theorem dX10_write_7 : decode cX10_write 7 = .ok (.iload_n 2, 1) := by decide +kernel
theorem dX10_write_8 : decode cX10_write 8 = .ok (.invokestatic 73, 3) := by decide +kernel
theorem dX10_write_11 : decode cX10_write 11 = .ok (.ifCond .ne 6, 3) := by decide +kernel
theorem dX10_write_14 : decode cX10_write 14 = .ok (.bipush (-2), 2) := by decide +kernel
theorem dX10_write_16 : decode cX10_write 16 = .ok (.ireturn, 1) := by decide +kernel
theorem dX10_write_17 : decode cX10_write 17 = .ok (.aload_n 0, 1) := by decide +kernel
theorem dX10_write_18 : decode cX10_write 18 = .ok (.getfield 7, 3) := by decide +kernel
theorem dX10_write_21 : decode cX10_write 21 = .ok (.iload_n 2, 1) := by decide +kernel
theorem dX10_write_22 : decode cX10_write 22 = .ok (.iaload, 1) := by decide +kernel
theorem dX10_write_23 : decode cX10_write 23 = .ok (.ifCond .ge 9, 3) := by decide +kernel
theorem dX10_write_26 : decode cX10_write 26 = .ok (.aload_n 0, 1) := by decide +kernel
theorem dX10_write_27 : decode cX10_write 27 = .ok (.iconst 1, 1) := by decide +kernel
theorem dX10_write_28 : decode cX10_write 28 = .ok (.invokevirtual 79, 3) := by decide +kernel
theorem dX10_write_31 : decode cX10_write 31 = .ok (.ireturn, 1) := by decide +kernel
theorem dX10_write_32 : decode cX10_write 32 = .ok (.aload_n 0, 1) := by decide +kernel
theorem dX10_write_33 : decode cX10_write 33 = .ok (.invokevirtual 129, 3) := by decide +kernel
theorem dX10_write_36 : decode cX10_write 36 = .ok (.aload_n 0, 1) := by decide +kernel
theorem dX10_write_37 : decode cX10_write 37 = .ok (.iload_n 1, 1) := by decide +kernel
theorem dX10_write_38 : decode cX10_write 38 = .ok (.invokevirtual 185, 3) := by decide +kernel
theorem dX10_write_41 : decode cX10_write 41 = .ok (.aload_n 0, 1) := by decide +kernel
theorem dX10_write_42 : decode cX10_write 42 = .ok (.getfield 13, 3) := by decide +kernel
theorem dX10_write_45 : decode cX10_write 45 = .ok (.iload_n 2, 1) := by decide +kernel
theorem dX10_write_46 : decode cX10_write 46 = .ok (.iaload, 1) := by decide +kernel
theorem dX10_write_47 : decode cX10_write 47 = .ok (.aload_n 0, 1) := by decide +kernel
theorem dX10_write_48 : decode cX10_write 48 = .ok (.getfield 111, 3) := by decide +kernel
theorem dX10_write_51 : decode cX10_write 51 = .ok (.invokestatic 272, 3) := by decide +kernel
theorem dX10_write_54 : decode cX10_write 54 = .ok (.istore_n 3, 1) := by decide +kernel
theorem dX10_write_55 : decode cX10_write 55 = .ok (.iconst 0, 1) := by decide +kernel
theorem dX10_write_56 : decode cX10_write 56 = .ok (.istore 4, 2) := by decide +kernel
theorem dX10_write_58 : decode cX10_write 58 = .ok (.iload 4, 2) := by decide +kernel
theorem dX10_write_60 : decode cX10_write 60 = .ok (.iload_n 3, 1) := by decide +kernel
theorem dX10_write_61 : decode cX10_write 61 = .ok (.if_icmp .ge 37, 3) := by decide +kernel
theorem dX10_write_64 : decode cX10_write 64 = .ok (.aload_n 0, 1) := by decide +kernel
theorem dX10_write_65 : decode cX10_write 65 = .ok (.getfield 16, 3) := by decide +kernel
theorem dX10_write_68 : decode cX10_write 68 = .ok (.bipush 60, 2) := by decide +kernel
theorem dX10_write_70 : decode cX10_write 70 = .ok (.iload_n 2, 1) := by decide +kernel
theorem dX10_write_71 : decode cX10_write 71 = .ok (.imul, 1) := by decide +kernel
theorem dX10_write_72 : decode cX10_write 72 = .ok (.iload 4, 2) := by decide +kernel
theorem dX10_write_74 : decode cX10_write 74 = .ok (.iadd, 1) := by decide +kernel
theorem dX10_write_75 : decode cX10_write 75 = .ok (.aload_n 0, 1) := by decide +kernel
theorem dX10_write_76 : decode cX10_write 76 = .ok (.getfield 7, 3) := by decide +kernel
theorem dX10_write_79 : decode cX10_write 79 = .ok (.iload_n 2, 1) := by decide +kernel
theorem dX10_write_80 : decode cX10_write 80 = .ok (.iaload, 1) := by decide +kernel
theorem dX10_write_81 : decode cX10_write 81 = .ok (.aload_n 0, 1) := by decide +kernel
theorem dX10_write_82 : decode cX10_write 82 = .ok (.getfield 37, 3) := by decide +kernel
theorem dX10_write_85 : decode cX10_write 85 = .ok (.iload 4, 2) := by decide +kernel
theorem dX10_write_87 : decode cX10_write 87 = .ok (.iaload, 1) := by decide +kernel
theorem dX10_write_88 : decode cX10_write 88 = .ok (.invokestatic 87, 3) := by decide +kernel
theorem dX10_write_91 : decode cX10_write 91 = .ok (.iastore, 1) := by decide +kernel
theorem dX10_write_92 : decode cX10_write 92 = .ok (.iinc 4 1, 3) := by decide +kernel
theorem dX10_write_95 : decode cX10_write 95 = .ok (.goto (-37), 3) := by decide +kernel
theorem dX10_write_98 : decode cX10_write 98 = .ok (.iload_n 3, 1) := by decide +kernel
theorem dX10_write_99 : decode cX10_write 99 = .ok (.ireturn, 1) := by decide +kernel
theorem dX10_count_0 : decode cX10_count 0 = .ok (.aload_n 0, 1) := by decide +kernel
theorem dX10_count_1 : decode cX10_count 1 = .ok (.invokevirtual 129, 3) := by decide +kernel
theorem dX10_count_4 : decode cX10_count 4 = .ok (.aload_n 0, 1) := by decide +kernel
theorem dX10_count_5 : decode cX10_count 5 = .ok (.bipush 99, 2) := by decide +kernel
theorem dX10_count_7 : decode cX10_count 7 = .ok (.invokevirtual 185, 3) := by decide +kernel
theorem dX10_count_10 : decode cX10_count 10 = .ok (.iload_n 1, 1) := by decide +kernel
theorem dX10_count_11 : decode cX10_count 11 = .ok (.tableswitch 96 0 8 #[49, 54, 59, 59, 68, 73, 81, 86, 91], 49) := by decide +kernel
theorem dX10_count_60 : decode cX10_count 60 = .ok (.aload_n 0, 1) := by decide +kernel
theorem dX10_count_61 : decode cX10_count 61 = .ok (.getfield 105, 3) := by decide +kernel
theorem dX10_count_64 : decode cX10_count 64 = .ok (.ireturn, 1) := by decide +kernel
theorem dX10_count_65 : decode cX10_count 65 = .ok (.aload_n 0, 1) := by decide +kernel
theorem dX10_count_66 : decode cX10_count 66 = .ok (.getfield 111, 3) := by decide +kernel
theorem dX10_count_69 : decode cX10_count 69 = .ok (.ireturn, 1) := by decide +kernel
theorem dX10_count_70 : decode cX10_count 70 = .ok (.aload_n 0, 1) := by decide +kernel
theorem dX10_count_71 : decode cX10_count 71 = .ok (.getfield 25, 3) := by decide +kernel
theorem dX10_count_74 : decode cX10_count 74 = .ok (.iload_n 1, 1) := by decide +kernel
theorem dX10_count_75 : decode cX10_count 75 = .ok (.iconst 2, 1) := by decide +kernel
theorem dX10_count_76 : decode cX10_count 76 = .ok (.isub, 1) := by decide +kernel
theorem dX10_count_77 : decode cX10_count 77 = .ok (.iaload, 1) := by decide +kernel
theorem dX10_count_78 : decode cX10_count 78 = .ok (.ireturn, 1) := by decide +kernel
theorem dX10_count_79 : decode cX10_count 79 = .ok (.aload_n 0, 1) := by decide +kernel
theorem dX10_count_80 : decode cX10_count 80 = .ok (.getfield 144, 3) := by decide +kernel
theorem dX10_count_83 : decode cX10_count 83 = .ok (.ireturn, 1) := by decide +kernel
theorem dX10_count_84 : decode cX10_count 84 = .ok (.aload_n 0, 1) := by decide +kernel
theorem dX10_count_85 : decode cX10_count 85 = .ok (.invokevirtual 200, 3) := by decide +kernel
theorem dX10_count_88 : decode cX10_count 88 = .ok (.invokestatic 223, 3) := by decide +kernel
theorem dX10_count_91 : decode cX10_count 91 = .ok (.ireturn, 1) := by decide +kernel
theorem dX10_count_92 : decode cX10_count 92 = .ok (.aload_n 0, 1) := by decide +kernel
theorem dX10_count_93 : decode cX10_count 93 = .ok (.invokevirtual 217, 3) := by decide +kernel
theorem dX10_count_96 : decode cX10_count 96 = .ok (.ireturn, 1) := by decide +kernel
theorem dX10_count_97 : decode cX10_count 97 = .ok (.aload_n 0, 1) := by decide +kernel
theorem dX10_count_98 : decode cX10_count 98 = .ok (.getfield 231, 3) := by decide +kernel
theorem dX10_count_101 : decode cX10_count 101 = .ok (.ireturn, 1) := by decide +kernel
theorem dX10_count_102 : decode cX10_count 102 = .ok (.aload_n 0, 1) := by decide +kernel
theorem dX10_count_103 : decode cX10_count 103 = .ok (.getfield 68, 3) := by decide +kernel
theorem dX10_count_106 : decode cX10_count 106 = .ok (.ireturn, 1) := by decide +kernel
theorem dX10_count_107 : decode cX10_count 107 = .ok (.bipush (-2), 2) := by decide +kernel
theorem dX10_count_109 : decode cX10_count 109 = .ok (.ireturn, 1) := by decide +kernel
theorem dX10_tellsBridge_0 : decode cX10_tellsBridge 0 = .ok (.lload_n 1, 1) := by decide +kernel
theorem dX10_tellsBridge_1 : decode cX10_tellsBridge 1 = .ok (.lstore 4, 2) := by decide +kernel
theorem dX10_tellsBridge_3 : decode cX10_tellsBridge 3 = .ok (.iconst 0, 1) := by decide +kernel
theorem dX10_tellsBridge_4 : decode cX10_tellsBridge 4 = .ok (.istore 6, 2) := by decide +kernel
theorem dX10_tellsBridge_6 : decode cX10_tellsBridge 6 = .ok (.iload 6, 2) := by decide +kernel
theorem dX10_tellsBridge_8 : decode cX10_tellsBridge 8 = .ok (.iconst 3, 1) := by decide +kernel
theorem dX10_tellsBridge_9 : decode cX10_tellsBridge 9 = .ok (.if_icmp .ge 30, 3) := by decide +kernel
theorem dX10_tellsBridge_12 : decode cX10_tellsBridge 12 = .ok (.ldc2_w 275, 3) := by decide +kernel
theorem dX10_tellsBridge_15 : decode cX10_tellsBridge 15 = .ok (.lload 4, 2) := by decide +kernel
theorem dX10_tellsBridge_17 : decode cX10_tellsBridge 17 = .ok (.lmul, 1) := by decide +kernel
theorem dX10_tellsBridge_18 : decode cX10_tellsBridge 18 = .ok (.aload_n 0, 1) := by decide +kernel
theorem dX10_tellsBridge_19 : decode cX10_tellsBridge 19 = .ok (.getfield 28, 3) := by decide +kernel
theorem dX10_tellsBridge_22 : decode cX10_tellsBridge 22 = .ok (.iconst 3, 1) := by decide +kernel
theorem dX10_tellsBridge_23 : decode cX10_tellsBridge 23 = .ok (.iload_n 3, 1) := by decide +kernel
theorem dX10_tellsBridge_24 : decode cX10_tellsBridge 24 = .ok (.imul, 1) := by decide +kernel
theorem dX10_tellsBridge_25 : decode cX10_tellsBridge 25 = .ok (.iload 6, 2) := by decide +kernel
theorem dX10_tellsBridge_27 : decode cX10_tellsBridge 27 = .ok (.iadd, 1) := by decide +kernel
theorem dX10_tellsBridge_28 : decode cX10_tellsBridge 28 = .ok (.iaload, 1) := by decide +kernel
theorem dX10_tellsBridge_29 : decode cX10_tellsBridge 29 = .ok (.i2l, 1) := by decide +kernel
theorem dX10_tellsBridge_30 : decode cX10_tellsBridge 30 = .ok (.ladd, 1) := by decide +kernel
theorem dX10_tellsBridge_31 : decode cX10_tellsBridge 31 = .ok (.lstore 4, 2) := by decide +kernel
theorem dX10_tellsBridge_33 : decode cX10_tellsBridge 33 = .ok (.iinc 6 1, 3) := by decide +kernel
theorem dX10_tellsBridge_36 : decode cX10_tellsBridge 36 = .ok (.goto (-30), 3) := by decide +kernel
theorem dX10_tellsBridge_39 : decode cX10_tellsBridge 39 = .ok (.ldc2_w 275, 3) := by decide +kernel
theorem dX10_tellsBridge_42 : decode cX10_tellsBridge 42 = .ok (.lload 4, 2) := by decide +kernel
theorem dX10_tellsBridge_44 : decode cX10_tellsBridge 44 = .ok (.lmul, 1) := by decide +kernel
theorem dX10_tellsBridge_45 : decode cX10_tellsBridge 45 = .ok (.aload_n 0, 1) := by decide +kernel
theorem dX10_tellsBridge_46 : decode cX10_tellsBridge 46 = .ok (.iload_n 3, 1) := by decide +kernel
theorem dX10_tellsBridge_47 : decode cX10_tellsBridge 47 = .ok (.iconst 0, 1) := by decide +kernel
theorem dX10_tellsBridge_48 : decode cX10_tellsBridge 48 = .ok (.invokevirtual 238, 3) := by decide +kernel
theorem dX10_tellsBridge_51 : decode cX10_tellsBridge 51 = .ok (.i2l, 1) := by decide +kernel
theorem dX10_tellsBridge_52 : decode cX10_tellsBridge 52 = .ok (.ladd, 1) := by decide +kernel
theorem dX10_tellsBridge_53 : decode cX10_tellsBridge 53 = .ok (.lstore 4, 2) := by decide +kernel
theorem dX10_tellsBridge_55 : decode cX10_tellsBridge 55 = .ok (.ldc2_w 275, 3) := by decide +kernel
theorem dX10_tellsBridge_58 : decode cX10_tellsBridge 58 = .ok (.lload 4, 2) := by decide +kernel
theorem dX10_tellsBridge_60 : decode cX10_tellsBridge 60 = .ok (.lmul, 1) := by decide +kernel
theorem dX10_tellsBridge_61 : decode cX10_tellsBridge 61 = .ok (.aload_n 0, 1) := by decide +kernel
theorem dX10_tellsBridge_62 : decode cX10_tellsBridge 62 = .ok (.iload_n 3, 1) := by decide +kernel
theorem dX10_tellsBridge_63 : decode cX10_tellsBridge 63 = .ok (.iconst 1, 1) := by decide +kernel
theorem dX10_tellsBridge_64 : decode cX10_tellsBridge 64 = .ok (.invokevirtual 238, 3) := by decide +kernel
theorem dX10_tellsBridge_67 : decode cX10_tellsBridge 67 = .ok (.i2l, 1) := by decide +kernel
theorem dX10_tellsBridge_68 : decode cX10_tellsBridge 68 = .ok (.ladd, 1) := by decide +kernel
theorem dX10_tellsBridge_69 : decode cX10_tellsBridge 69 = .ok (.lstore 4, 2) := by decide +kernel
theorem dX10_tellsBridge_71 : decode cX10_tellsBridge 71 = .ok (.ldc2_w 275, 3) := by decide +kernel
theorem dX10_tellsBridge_74 : decode cX10_tellsBridge 74 = .ok (.lload 4, 2) := by decide +kernel
theorem dX10_tellsBridge_76 : decode cX10_tellsBridge 76 = .ok (.lmul, 1) := by decide +kernel
theorem dX10_tellsBridge_77 : decode cX10_tellsBridge 77 = .ok (.aload_n 0, 1) := by decide +kernel
theorem dX10_tellsBridge_78 : decode cX10_tellsBridge 78 = .ok (.iload_n 3, 1) := by decide +kernel
theorem dX10_tellsBridge_79 : decode cX10_tellsBridge 79 = .ok (.iconst 5, 1) := by decide +kernel
theorem dX10_tellsBridge_80 : decode cX10_tellsBridge 80 = .ok (.invokevirtual 244, 3) := by decide +kernel
theorem dX10_tellsBridge_83 : decode cX10_tellsBridge 83 = .ok (.i2l, 1) := by decide +kernel
theorem dX10_tellsBridge_84 : decode cX10_tellsBridge 84 = .ok (.ladd, 1) := by decide +kernel
theorem dX10_tellsBridge_85 : decode cX10_tellsBridge 85 = .ok (.lstore 4, 2) := by decide +kernel
theorem dX10_tellsBridge_87 : decode cX10_tellsBridge 87 = .ok (.iconst 0, 1) := by decide +kernel
theorem dX10_tellsBridge_88 : decode cX10_tellsBridge 88 = .ok (.istore 6, 2) := by decide +kernel
theorem dX10_tellsBridge_90 : decode cX10_tellsBridge 90 = .ok (.iload 6, 2) := by decide +kernel
theorem dX10_tellsBridge_92 : decode cX10_tellsBridge 92 = .ok (.aload_n 0, 1) := by decide +kernel
theorem dX10_tellsBridge_93 : decode cX10_tellsBridge 93 = .ok (.getfield 111, 3) := by decide +kernel
theorem dX10_tellsBridge_96 : decode cX10_tellsBridge 96 = .ok (.if_icmp .ge 70, 3) := by decide +kernel
theorem dX10_tellsBridge_99 : decode cX10_tellsBridge 99 = .ok (.ldc2_w 275, 3) := by decide +kernel
theorem dX10_tellsBridge_102 : decode cX10_tellsBridge 102 = .ok (.lload 4, 2) := by decide +kernel
theorem dX10_tellsBridge_104 : decode cX10_tellsBridge 104 = .ok (.lmul, 1) := by decide +kernel
theorem dX10_tellsBridge_105 : decode cX10_tellsBridge 105 = .ok (.aload_n 0, 1) := by decide +kernel
theorem dX10_tellsBridge_106 : decode cX10_tellsBridge 106 = .ok (.iload_n 3, 1) := by decide +kernel
theorem dX10_tellsBridge_107 : decode cX10_tellsBridge 107 = .ok (.iload 6, 2) := by decide +kernel
theorem dX10_tellsBridge_109 : decode cX10_tellsBridge 109 = .ok (.invokevirtual 156, 3) := by decide +kernel
theorem dX10_tellsBridge_112 : decode cX10_tellsBridge 112 = .ok (.ifCond .eq 7, 3) := by decide +kernel
theorem dX10_tellsBridge_115 : decode cX10_tellsBridge 115 = .ok (.iconst 1, 1) := by decide +kernel
theorem dX10_tellsBridge_116 : decode cX10_tellsBridge 116 = .ok (.goto 4, 3) := by decide +kernel
theorem dX10_tellsBridge_119 : decode cX10_tellsBridge 119 = .ok (.iconst 0, 1) := by decide +kernel
theorem dX10_tellsBridge_120 : decode cX10_tellsBridge 120 = .ok (.i2l, 1) := by decide +kernel
theorem dX10_tellsBridge_121 : decode cX10_tellsBridge 121 = .ok (.ladd, 1) := by decide +kernel
theorem dX10_tellsBridge_122 : decode cX10_tellsBridge 122 = .ok (.lstore 4, 2) := by decide +kernel
theorem dX10_tellsBridge_124 : decode cX10_tellsBridge 124 = .ok (.ldc2_w 275, 3) := by decide +kernel
theorem dX10_tellsBridge_127 : decode cX10_tellsBridge 127 = .ok (.lload 4, 2) := by decide +kernel
theorem dX10_tellsBridge_129 : decode cX10_tellsBridge 129 = .ok (.lmul, 1) := by decide +kernel
theorem dX10_tellsBridge_130 : decode cX10_tellsBridge 130 = .ok (.aload_n 0, 1) := by decide +kernel
theorem dX10_tellsBridge_131 : decode cX10_tellsBridge 131 = .ok (.iload_n 3, 1) := by decide +kernel
theorem dX10_tellsBridge_132 : decode cX10_tellsBridge 132 = .ok (.iload 6, 2) := by decide +kernel
theorem dX10_tellsBridge_134 : decode cX10_tellsBridge 134 = .ok (.iconst 0, 1) := by decide +kernel
theorem dX10_tellsBridge_135 : decode cX10_tellsBridge 135 = .ok (.invokevirtual 194, 3) := by decide +kernel
theorem dX10_tellsBridge_138 : decode cX10_tellsBridge 138 = .ok (.i2l, 1) := by decide +kernel
theorem dX10_tellsBridge_139 : decode cX10_tellsBridge 139 = .ok (.ladd, 1) := by decide +kernel
theorem dX10_tellsBridge_140 : decode cX10_tellsBridge 140 = .ok (.lstore 4, 2) := by decide +kernel
theorem dX10_tellsBridge_142 : decode cX10_tellsBridge 142 = .ok (.ldc2_w 275, 3) := by decide +kernel
theorem dX10_tellsBridge_145 : decode cX10_tellsBridge 145 = .ok (.lload 4, 2) := by decide +kernel
theorem dX10_tellsBridge_147 : decode cX10_tellsBridge 147 = .ok (.lmul, 1) := by decide +kernel
theorem dX10_tellsBridge_148 : decode cX10_tellsBridge 148 = .ok (.aload_n 0, 1) := by decide +kernel
theorem dX10_tellsBridge_149 : decode cX10_tellsBridge 149 = .ok (.iload_n 3, 1) := by decide +kernel
theorem dX10_tellsBridge_150 : decode cX10_tellsBridge 150 = .ok (.iload 6, 2) := by decide +kernel
theorem dX10_tellsBridge_152 : decode cX10_tellsBridge 152 = .ok (.iconst 1, 1) := by decide +kernel
theorem dX10_tellsBridge_153 : decode cX10_tellsBridge 153 = .ok (.invokevirtual 194, 3) := by decide +kernel
theorem dX10_tellsBridge_156 : decode cX10_tellsBridge 156 = .ok (.i2l, 1) := by decide +kernel
theorem dX10_tellsBridge_157 : decode cX10_tellsBridge 157 = .ok (.ladd, 1) := by decide +kernel
theorem dX10_tellsBridge_158 : decode cX10_tellsBridge 158 = .ok (.lstore 4, 2) := by decide +kernel
theorem dX10_tellsBridge_160 : decode cX10_tellsBridge 160 = .ok (.iinc 6 1, 3) := by decide +kernel
theorem dX10_tellsBridge_163 : decode cX10_tellsBridge 163 = .ok (.goto (-73), 3) := by decide +kernel
theorem dX10_tellsBridge_166 : decode cX10_tellsBridge 166 = .ok (.lload 4, 2) := by decide +kernel
theorem dX10_tellsBridge_168 : decode cX10_tellsBridge 168 = .ok (.lreturn, 1) := by decide +kernel
theorem dX10_tellsBoat_0 : decode cX10_tellsBoat 0 = .ok (.lload_n 1, 1) := by decide +kernel
theorem dX10_tellsBoat_1 : decode cX10_tellsBoat 1 = .ok (.lstore 4, 2) := by decide +kernel
theorem dX10_tellsBoat_3 : decode cX10_tellsBoat 3 = .ok (.iconst 0, 1) := by decide +kernel
theorem dX10_tellsBoat_4 : decode cX10_tellsBoat 4 = .ok (.istore 6, 2) := by decide +kernel
theorem dX10_tellsBoat_6 : decode cX10_tellsBoat 6 = .ok (.iload 6, 2) := by decide +kernel
theorem dX10_tellsBoat_8 : decode cX10_tellsBoat 8 = .ok (.bipush 7, 2) := by decide +kernel
theorem dX10_tellsBoat_10 : decode cX10_tellsBoat 10 = .ok (.if_icmp .ge 31, 3) := by decide +kernel
theorem dX10_tellsBoat_13 : decode cX10_tellsBoat 13 = .ok (.ldc2_w 275, 3) := by decide +kernel
theorem dX10_tellsBoat_16 : decode cX10_tellsBoat 16 = .ok (.lload 4, 2) := by decide +kernel
theorem dX10_tellsBoat_18 : decode cX10_tellsBoat 18 = .ok (.lmul, 1) := by decide +kernel
theorem dX10_tellsBoat_19 : decode cX10_tellsBoat 19 = .ok (.aload_n 0, 1) := by decide +kernel
theorem dX10_tellsBoat_20 : decode cX10_tellsBoat 20 = .ok (.getfield 31, 3) := by decide +kernel
theorem dX10_tellsBoat_23 : decode cX10_tellsBoat 23 = .ok (.bipush 7, 2) := by decide +kernel
theorem dX10_tellsBoat_25 : decode cX10_tellsBoat 25 = .ok (.iload_n 3, 1) := by decide +kernel
theorem dX10_tellsBoat_26 : decode cX10_tellsBoat 26 = .ok (.imul, 1) := by decide +kernel
theorem dX10_tellsBoat_27 : decode cX10_tellsBoat 27 = .ok (.iload 6, 2) := by decide +kernel
theorem dX10_tellsBoat_29 : decode cX10_tellsBoat 29 = .ok (.iadd, 1) := by decide +kernel
theorem dX10_tellsBoat_30 : decode cX10_tellsBoat 30 = .ok (.iaload, 1) := by decide +kernel
theorem dX10_tellsBoat_31 : decode cX10_tellsBoat 31 = .ok (.i2l, 1) := by decide +kernel
theorem dX10_tellsBoat_32 : decode cX10_tellsBoat 32 = .ok (.ladd, 1) := by decide +kernel
theorem dX10_tellsBoat_33 : decode cX10_tellsBoat 33 = .ok (.lstore 4, 2) := by decide +kernel
theorem dX10_tellsBoat_35 : decode cX10_tellsBoat 35 = .ok (.iinc 6 1, 3) := by decide +kernel
theorem dX10_tellsBoat_38 : decode cX10_tellsBoat 38 = .ok (.goto (-32), 3) := by decide +kernel
theorem dX10_tellsBoat_41 : decode cX10_tellsBoat 41 = .ok (.ldc2_w 275, 3) := by decide +kernel
theorem dX10_tellsBoat_44 : decode cX10_tellsBoat 44 = .ok (.lload 4, 2) := by decide +kernel
theorem dX10_tellsBoat_46 : decode cX10_tellsBoat 46 = .ok (.lmul, 1) := by decide +kernel
theorem dX10_tellsBoat_47 : decode cX10_tellsBoat 47 = .ok (.aload_n 0, 1) := by decide +kernel
theorem dX10_tellsBoat_48 : decode cX10_tellsBoat 48 = .ok (.iconst 5, 1) := by decide +kernel
theorem dX10_tellsBoat_49 : decode cX10_tellsBoat 49 = .ok (.iload_n 3, 1) := by decide +kernel
theorem dX10_tellsBoat_50 : decode cX10_tellsBoat 50 = .ok (.invokevirtual 191, 3) := by decide +kernel
theorem dX10_tellsBoat_53 : decode cX10_tellsBoat 53 = .ok (.i2l, 1) := by decide +kernel
theorem dX10_tellsBoat_54 : decode cX10_tellsBoat 54 = .ok (.ladd, 1) := by decide +kernel
theorem dX10_tellsBoat_55 : decode cX10_tellsBoat 55 = .ok (.lstore 4, 2) := by decide +kernel
theorem dX10_tellsBoat_57 : decode cX10_tellsBoat 57 = .ok (.ldc2_w 275, 3) := by decide +kernel
theorem dX10_tellsBoat_60 : decode cX10_tellsBoat 60 = .ok (.lload 4, 2) := by decide +kernel
theorem dX10_tellsBoat_62 : decode cX10_tellsBoat 62 = .ok (.lmul, 1) := by decide +kernel
theorem dX10_tellsBoat_63 : decode cX10_tellsBoat 63 = .ok (.aload_n 0, 1) := by decide +kernel
theorem dX10_tellsBoat_64 : decode cX10_tellsBoat 64 = .ok (.bipush 30, 2) := by decide +kernel
theorem dX10_tellsBoat_66 : decode cX10_tellsBoat 66 = .ok (.iload_n 3, 1) := by decide +kernel
theorem dX10_tellsBoat_67 : decode cX10_tellsBoat 67 = .ok (.invokevirtual 191, 3) := by decide +kernel
theorem dX10_tellsBoat_70 : decode cX10_tellsBoat 70 = .ok (.i2l, 1) := by decide +kernel
theorem dX10_tellsBoat_71 : decode cX10_tellsBoat 71 = .ok (.ladd, 1) := by decide +kernel
theorem dX10_tellsBoat_72 : decode cX10_tellsBoat 72 = .ok (.lstore 4, 2) := by decide +kernel
theorem dX10_tellsBoat_74 : decode cX10_tellsBoat 74 = .ok (.ldc2_w 275, 3) := by decide +kernel
theorem dX10_tellsBoat_77 : decode cX10_tellsBoat 77 = .ok (.lload 4, 2) := by decide +kernel
theorem dX10_tellsBoat_79 : decode cX10_tellsBoat 79 = .ok (.lmul, 1) := by decide +kernel
theorem dX10_tellsBoat_80 : decode cX10_tellsBoat 80 = .ok (.aload_n 0, 1) := by decide +kernel
theorem dX10_tellsBoat_81 : decode cX10_tellsBoat 81 = .ok (.iload_n 3, 1) := by decide +kernel
theorem dX10_tellsBoat_82 : decode cX10_tellsBoat 82 = .ok (.invokevirtual 197, 3) := by decide +kernel
theorem dX10_tellsBoat_85 : decode cX10_tellsBoat 85 = .ok (.i2l, 1) := by decide +kernel
theorem dX10_tellsBoat_86 : decode cX10_tellsBoat 86 = .ok (.ladd, 1) := by decide +kernel
theorem dX10_tellsBoat_87 : decode cX10_tellsBoat 87 = .ok (.lstore 4, 2) := by decide +kernel
theorem dX10_tellsBoat_89 : decode cX10_tellsBoat 89 = .ok (.ldc2_w 275, 3) := by decide +kernel
theorem dX10_tellsBoat_92 : decode cX10_tellsBoat 92 = .ok (.lload 4, 2) := by decide +kernel
theorem dX10_tellsBoat_94 : decode cX10_tellsBoat 94 = .ok (.lmul, 1) := by decide +kernel
theorem dX10_tellsBoat_95 : decode cX10_tellsBoat 95 = .ok (.aload_n 0, 1) := by decide +kernel
theorem dX10_tellsBoat_96 : decode cX10_tellsBoat 96 = .ok (.iload_n 3, 1) := by decide +kernel
theorem dX10_tellsBoat_97 : decode cX10_tellsBoat 97 = .ok (.iconst (-1), 1) := by decide +kernel
theorem dX10_tellsBoat_98 : decode cX10_tellsBoat 98 = .ok (.invokevirtual 214, 3) := by decide +kernel
theorem dX10_tellsBoat_101 : decode cX10_tellsBoat 101 = .ok (.i2l, 1) := by decide +kernel
theorem dX10_tellsBoat_102 : decode cX10_tellsBoat 102 = .ok (.ladd, 1) := by decide +kernel
theorem dX10_tellsBoat_103 : decode cX10_tellsBoat 103 = .ok (.lstore 4, 2) := by decide +kernel
theorem dX10_tellsBoat_105 : decode cX10_tellsBoat 105 = .ok (.ldc2_w 275, 3) := by decide +kernel
theorem dX10_tellsBoat_108 : decode cX10_tellsBoat 108 = .ok (.lload 4, 2) := by decide +kernel
theorem dX10_tellsBoat_110 : decode cX10_tellsBoat 110 = .ok (.lmul, 1) := by decide +kernel
theorem dX10_tellsBoat_111 : decode cX10_tellsBoat 111 = .ok (.aload_n 0, 1) := by decide +kernel
theorem dX10_tellsBoat_112 : decode cX10_tellsBoat 112 = .ok (.iload_n 3, 1) := by decide +kernel
theorem dX10_tellsBoat_113 : decode cX10_tellsBoat 113 = .ok (.iconst 0, 1) := by decide +kernel
theorem dX10_tellsBoat_114 : decode cX10_tellsBoat 114 = .ok (.invokevirtual 214, 3) := by decide +kernel
theorem dX10_tellsBoat_117 : decode cX10_tellsBoat 117 = .ok (.i2l, 1) := by decide +kernel
theorem dX10_tellsBoat_118 : decode cX10_tellsBoat 118 = .ok (.ladd, 1) := by decide +kernel
theorem dX10_tellsBoat_119 : decode cX10_tellsBoat 119 = .ok (.lstore 4, 2) := by decide +kernel
theorem dX10_tellsBoat_121 : decode cX10_tellsBoat 121 = .ok (.ldc2_w 275, 3) := by decide +kernel
theorem dX10_tellsBoat_124 : decode cX10_tellsBoat 124 = .ok (.lload 4, 2) := by decide +kernel
theorem dX10_tellsBoat_126 : decode cX10_tellsBoat 126 = .ok (.lmul, 1) := by decide +kernel
theorem dX10_tellsBoat_127 : decode cX10_tellsBoat 127 = .ok (.aload_n 0, 1) := by decide +kernel
theorem dX10_tellsBoat_128 : decode cX10_tellsBoat 128 = .ok (.iload_n 3, 1) := by decide +kernel
theorem dX10_tellsBoat_129 : decode cX10_tellsBoat 129 = .ok (.iconst 0, 1) := by decide +kernel
theorem dX10_tellsBoat_130 : decode cX10_tellsBoat 130 = .ok (.invokevirtual 220, 3) := by decide +kernel
theorem dX10_tellsBoat_133 : decode cX10_tellsBoat 133 = .ok (.i2l, 1) := by decide +kernel
theorem dX10_tellsBoat_134 : decode cX10_tellsBoat 134 = .ok (.ladd, 1) := by decide +kernel
theorem dX10_tellsBoat_135 : decode cX10_tellsBoat 135 = .ok (.lstore 4, 2) := by decide +kernel
theorem dX10_tellsBoat_137 : decode cX10_tellsBoat 137 = .ok (.ldc2_w 275, 3) := by decide +kernel
theorem dX10_tellsBoat_140 : decode cX10_tellsBoat 140 = .ok (.lload 4, 2) := by decide +kernel
theorem dX10_tellsBoat_142 : decode cX10_tellsBoat 142 = .ok (.lmul, 1) := by decide +kernel
theorem dX10_tellsBoat_143 : decode cX10_tellsBoat 143 = .ok (.aload_n 0, 1) := by decide +kernel
theorem dX10_tellsBoat_144 : decode cX10_tellsBoat 144 = .ok (.iload_n 3, 1) := by decide +kernel
theorem dX10_tellsBoat_145 : decode cX10_tellsBoat 145 = .ok (.iconst 1, 1) := by decide +kernel
theorem dX10_tellsBoat_146 : decode cX10_tellsBoat 146 = .ok (.invokevirtual 220, 3) := by decide +kernel
theorem dX10_tellsBoat_149 : decode cX10_tellsBoat 149 = .ok (.i2l, 1) := by decide +kernel
theorem dX10_tellsBoat_150 : decode cX10_tellsBoat 150 = .ok (.ladd, 1) := by decide +kernel
theorem dX10_tellsBoat_151 : decode cX10_tellsBoat 151 = .ok (.lstore 4, 2) := by decide +kernel
theorem dX10_tellsBoat_153 : decode cX10_tellsBoat 153 = .ok (.ldc2_w 275, 3) := by decide +kernel
theorem dX10_tellsBoat_156 : decode cX10_tellsBoat 156 = .ok (.lload 4, 2) := by decide +kernel
theorem dX10_tellsBoat_158 : decode cX10_tellsBoat 158 = .ok (.lmul, 1) := by decide +kernel
theorem dX10_tellsBoat_159 : decode cX10_tellsBoat 159 = .ok (.aload_n 0, 1) := by decide +kernel
theorem dX10_tellsBoat_160 : decode cX10_tellsBoat 160 = .ok (.iload_n 3, 1) := by decide +kernel
theorem dX10_tellsBoat_161 : decode cX10_tellsBoat 161 = .ok (.invokevirtual 241, 3) := by decide +kernel
theorem dX10_tellsBoat_164 : decode cX10_tellsBoat 164 = .ok (.i2l, 1) := by decide +kernel
theorem dX10_tellsBoat_165 : decode cX10_tellsBoat 165 = .ok (.ladd, 1) := by decide +kernel
theorem dX10_tellsBoat_166 : decode cX10_tellsBoat 166 = .ok (.lstore 4, 2) := by decide +kernel
theorem dX10_tellsBoat_168 : decode cX10_tellsBoat 168 = .ok (.ldc2_w 275, 3) := by decide +kernel
theorem dX10_tellsBoat_171 : decode cX10_tellsBoat 171 = .ok (.lload 4, 2) := by decide +kernel
theorem dX10_tellsBoat_173 : decode cX10_tellsBoat 173 = .ok (.lmul, 1) := by decide +kernel
theorem dX10_tellsBoat_174 : decode cX10_tellsBoat 174 = .ok (.aload_n 0, 1) := by decide +kernel
theorem dX10_tellsBoat_175 : decode cX10_tellsBoat 175 = .ok (.iconst 5, 1) := by decide +kernel
theorem dX10_tellsBoat_176 : decode cX10_tellsBoat 176 = .ok (.iload_n 3, 1) := by decide +kernel
theorem dX10_tellsBoat_177 : decode cX10_tellsBoat 177 = .ok (.bipush 20, 2) := by decide +kernel
theorem dX10_tellsBoat_179 : decode cX10_tellsBoat 179 = .ok (.iconst 0, 1) := by decide +kernel
theorem dX10_tellsBoat_180 : decode cX10_tellsBoat 180 = .ok (.invokevirtual 253, 3) := by decide +kernel
theorem dX10_tellsBoat_183 : decode cX10_tellsBoat 183 = .ok (.ladd, 1) := by decide +kernel
theorem dX10_tellsBoat_184 : decode cX10_tellsBoat 184 = .ok (.lstore 4, 2) := by decide +kernel
theorem dX10_tellsBoat_186 : decode cX10_tellsBoat 186 = .ok (.ldc2_w 275, 3) := by decide +kernel
theorem dX10_tellsBoat_189 : decode cX10_tellsBoat 189 = .ok (.lload 4, 2) := by decide +kernel
theorem dX10_tellsBoat_191 : decode cX10_tellsBoat 191 = .ok (.lmul, 1) := by decide +kernel
theorem dX10_tellsBoat_192 : decode cX10_tellsBoat 192 = .ok (.aload_n 0, 1) := by decide +kernel
theorem dX10_tellsBoat_193 : decode cX10_tellsBoat 193 = .ok (.iconst 5, 1) := by decide +kernel
theorem dX10_tellsBoat_194 : decode cX10_tellsBoat 194 = .ok (.iload_n 3, 1) := by decide +kernel
theorem dX10_tellsBoat_195 : decode cX10_tellsBoat 195 = .ok (.bipush 20, 2) := by decide +kernel
theorem dX10_tellsBoat_197 : decode cX10_tellsBoat 197 = .ok (.iconst 1, 1) := by decide +kernel
theorem dX10_tellsBoat_198 : decode cX10_tellsBoat 198 = .ok (.invokevirtual 253, 3) := by decide +kernel
theorem dX10_tellsBoat_201 : decode cX10_tellsBoat 201 = .ok (.ladd, 1) := by decide +kernel
theorem dX10_tellsBoat_202 : decode cX10_tellsBoat 202 = .ok (.lstore 4, 2) := by decide +kernel
theorem dX10_tellsBoat_204 : decode cX10_tellsBoat 204 = .ok (.ldc2_w 275, 3) := by decide +kernel
theorem dX10_tellsBoat_207 : decode cX10_tellsBoat 207 = .ok (.lload 4, 2) := by decide +kernel
theorem dX10_tellsBoat_209 : decode cX10_tellsBoat 209 = .ok (.lmul, 1) := by decide +kernel
theorem dX10_tellsBoat_210 : decode cX10_tellsBoat 210 = .ok (.aload_n 0, 1) := by decide +kernel
theorem dX10_tellsBoat_211 : decode cX10_tellsBoat 211 = .ok (.bipush 7, 2) := by decide +kernel
theorem dX10_tellsBoat_213 : decode cX10_tellsBoat 213 = .ok (.iconst 4, 1) := by decide +kernel
theorem dX10_tellsBoat_214 : decode cX10_tellsBoat 214 = .ok (.iload_n 3, 1) := by decide +kernel
theorem dX10_tellsBoat_215 : decode cX10_tellsBoat 215 = .ok (.iconst 0, 1) := by decide +kernel
theorem dX10_tellsBoat_216 : decode cX10_tellsBoat 216 = .ok (.invokevirtual 268, 3) := by decide +kernel
theorem dX10_tellsBoat_219 : decode cX10_tellsBoat 219 = .ok (.i2l, 1) := by decide +kernel
theorem dX10_tellsBoat_220 : decode cX10_tellsBoat 220 = .ok (.ladd, 1) := by decide +kernel
theorem dX10_tellsBoat_221 : decode cX10_tellsBoat 221 = .ok (.lstore 4, 2) := by decide +kernel
theorem dX10_tellsBoat_223 : decode cX10_tellsBoat 223 = .ok (.ldc2_w 275, 3) := by decide +kernel
theorem dX10_tellsBoat_226 : decode cX10_tellsBoat 226 = .ok (.lload 4, 2) := by decide +kernel
theorem dX10_tellsBoat_228 : decode cX10_tellsBoat 228 = .ok (.lmul, 1) := by decide +kernel
theorem dX10_tellsBoat_229 : decode cX10_tellsBoat 229 = .ok (.aload_n 0, 1) := by decide +kernel
theorem dX10_tellsBoat_230 : decode cX10_tellsBoat 230 = .ok (.bipush 7, 2) := by decide +kernel
theorem dX10_tellsBoat_232 : decode cX10_tellsBoat 232 = .ok (.iconst 4, 1) := by decide +kernel
theorem dX10_tellsBoat_233 : decode cX10_tellsBoat 233 = .ok (.iload_n 3, 1) := by decide +kernel
theorem dX10_tellsBoat_234 : decode cX10_tellsBoat 234 = .ok (.iconst 1, 1) := by decide +kernel
theorem dX10_tellsBoat_235 : decode cX10_tellsBoat 235 = .ok (.invokevirtual 268, 3) := by decide +kernel
theorem dX10_tellsBoat_238 : decode cX10_tellsBoat 238 = .ok (.i2l, 1) := by decide +kernel
theorem dX10_tellsBoat_239 : decode cX10_tellsBoat 239 = .ok (.ladd, 1) := by decide +kernel
theorem dX10_tellsBoat_240 : decode cX10_tellsBoat 240 = .ok (.lreturn, 1) := by decide +kernel
theorem dX10_digest_0 : decode cX10_digest 0 = .ok (.ldc2_w 277, 3) := by decide +kernel
theorem dX10_digest_3 : decode cX10_digest 3 = .ok (.lstore_n 1, 1) := by decide +kernel
theorem dX10_digest_4 : decode cX10_digest 4 = .ok (.iconst 0, 1) := by decide +kernel
theorem dX10_digest_5 : decode cX10_digest 5 = .ok (.istore_n 3, 1) := by decide +kernel
theorem dX10_digest_6 : decode cX10_digest 6 = .ok (.iload_n 3, 1) := by decide +kernel
theorem dX10_digest_7 : decode cX10_digest 7 = .ok (.bipush 8, 2) := by decide +kernel
theorem dX10_digest_9 : decode cX10_digest 9 = .ok (.if_icmp .ge 22, 3) := by decide +kernel
theorem dX10_digest_12 : decode cX10_digest 12 = .ok (.ldc2_w 275, 3) := by decide +kernel
theorem dX10_digest_15 : decode cX10_digest 15 = .ok (.lload_n 1, 1) := by decide +kernel
theorem dX10_digest_16 : decode cX10_digest 16 = .ok (.lmul, 1) := by decide +kernel
theorem dX10_digest_17 : decode cX10_digest 17 = .ok (.aload_n 0, 1) := by decide +kernel
theorem dX10_digest_18 : decode cX10_digest 18 = .ok (.iload_n 3, 1) := by decide +kernel
theorem dX10_digest_19 : decode cX10_digest 19 = .ok (.invokevirtual 279, 3) := by decide +kernel
theorem dX10_digest_22 : decode cX10_digest 22 = .ok (.i2l, 1) := by decide +kernel
theorem dX10_digest_23 : decode cX10_digest 23 = .ok (.ladd, 1) := by decide +kernel
theorem dX10_digest_24 : decode cX10_digest 24 = .ok (.lstore_n 1, 1) := by decide +kernel
theorem dX10_digest_25 : decode cX10_digest 25 = .ok (.iinc 3 1, 3) := by decide +kernel
theorem dX10_digest_28 : decode cX10_digest 28 = .ok (.goto (-22), 3) := by decide +kernel
theorem dX10_digest_31 : decode cX10_digest 31 = .ok (.ldc2_w 275, 3) := by decide +kernel
theorem dX10_digest_34 : decode cX10_digest 34 = .ok (.lload_n 1, 1) := by decide +kernel
theorem dX10_digest_35 : decode cX10_digest 35 = .ok (.lmul, 1) := by decide +kernel
theorem dX10_digest_36 : decode cX10_digest 36 = .ok (.aload_n 0, 1) := by decide +kernel
theorem dX10_digest_37 : decode cX10_digest 37 = .ok (.invokevirtual 120, 3) := by decide +kernel
theorem dX10_digest_40 : decode cX10_digest 40 = .ok (.i2l, 1) := by decide +kernel
theorem dX10_digest_41 : decode cX10_digest 41 = .ok (.ladd, 1) := by decide +kernel
theorem dX10_digest_42 : decode cX10_digest 42 = .ok (.lstore_n 1, 1) := by decide +kernel
theorem dX10_digest_43 : decode cX10_digest 43 = .ok (.ldc2_w 275, 3) := by decide +kernel
theorem dX10_digest_46 : decode cX10_digest 46 = .ok (.lload_n 1, 1) := by decide +kernel
theorem dX10_digest_47 : decode cX10_digest 47 = .ok (.lmul, 1) := by decide +kernel
theorem dX10_digest_48 : decode cX10_digest 48 = .ok (.aload_n 0, 1) := by decide +kernel
theorem dX10_digest_49 : decode cX10_digest 49 = .ok (.invokevirtual 124, 3) := by decide +kernel
theorem dX10_digest_52 : decode cX10_digest 52 = .ok (.i2l, 1) := by decide +kernel
theorem dX10_digest_53 : decode cX10_digest 53 = .ok (.ladd, 1) := by decide +kernel
theorem dX10_digest_54 : decode cX10_digest 54 = .ok (.lstore_n 1, 1) := by decide +kernel
theorem dX10_digest_55 : decode cX10_digest 55 = .ok (.iconst 0, 1) := by decide +kernel
theorem dX10_digest_56 : decode cX10_digest 56 = .ok (.istore_n 3, 1) := by decide +kernel
theorem dX10_digest_57 : decode cX10_digest 57 = .ok (.iload_n 3, 1) := by decide +kernel
theorem dX10_digest_58 : decode cX10_digest 58 = .ok (.aload_n 0, 1) := by decide +kernel
theorem dX10_digest_59 : decode cX10_digest 59 = .ok (.getfield 105, 3) := by decide +kernel
theorem dX10_digest_62 : decode cX10_digest 62 = .ok (.if_icmp .ge 16, 3) := by decide +kernel
theorem dX10_digest_65 : decode cX10_digest 65 = .ok (.aload_n 0, 1) := by decide +kernel
theorem dX10_digest_66 : decode cX10_digest 66 = .ok (.lload_n 1, 1) := by decide +kernel
theorem dX10_digest_67 : decode cX10_digest 67 = .ok (.iload_n 3, 1) := by decide +kernel
theorem dX10_digest_68 : decode cX10_digest 68 = .ok (.invokevirtual 282, 3) := by decide +kernel
theorem dX10_digest_71 : decode cX10_digest 71 = .ok (.lstore_n 1, 1) := by decide +kernel
theorem dX10_digest_72 : decode cX10_digest 72 = .ok (.iinc 3 1, 3) := by decide +kernel
theorem dX10_digest_75 : decode cX10_digest 75 = .ok (.goto (-18), 3) := by decide +kernel
theorem dX10_digest_78 : decode cX10_digest 78 = .ok (.iconst 0, 1) := by decide +kernel
theorem dX10_digest_79 : decode cX10_digest 79 = .ok (.istore_n 3, 1) := by decide +kernel
theorem dX10_digest_80 : decode cX10_digest 80 = .ok (.iload_n 3, 1) := by decide +kernel
theorem dX10_digest_81 : decode cX10_digest 81 = .ok (.aload_n 0, 1) := by decide +kernel
theorem dX10_digest_82 : decode cX10_digest 82 = .ok (.getfield 111, 3) := by decide +kernel
theorem dX10_digest_85 : decode cX10_digest 85 = .ok (.if_icmp .ge 16, 3) := by decide +kernel
theorem dX10_digest_88 : decode cX10_digest 88 = .ok (.aload_n 0, 1) := by decide +kernel
theorem dX10_digest_89 : decode cX10_digest 89 = .ok (.lload_n 1, 1) := by decide +kernel
theorem dX10_digest_90 : decode cX10_digest 90 = .ok (.iload_n 3, 1) := by decide +kernel
theorem dX10_digest_91 : decode cX10_digest 91 = .ok (.invokevirtual 286, 3) := by decide +kernel
theorem dX10_digest_94 : decode cX10_digest 94 = .ok (.lstore_n 1, 1) := by decide +kernel
theorem dX10_digest_95 : decode cX10_digest 95 = .ok (.iinc 3 1, 3) := by decide +kernel
theorem dX10_digest_98 : decode cX10_digest 98 = .ok (.goto (-18), 3) := by decide +kernel
theorem dX10_digest_101 : decode cX10_digest 101 = .ok (.ldc2_w 275, 3) := by decide +kernel
theorem dX10_digest_104 : decode cX10_digest 104 = .ok (.lload_n 1, 1) := by decide +kernel
theorem dX10_digest_105 : decode cX10_digest 105 = .ok (.lmul, 1) := by decide +kernel
theorem dX10_digest_106 : decode cX10_digest 106 = .ok (.aload_n 0, 1) := by decide +kernel
theorem dX10_digest_107 : decode cX10_digest 107 = .ok (.bipush 9, 2) := by decide +kernel
theorem dX10_digest_109 : decode cX10_digest 109 = .ok (.invokevirtual 203, 3) := by decide +kernel
theorem dX10_digest_112 : decode cX10_digest 112 = .ok (.i2l, 1) := by decide +kernel
theorem dX10_digest_113 : decode cX10_digest 113 = .ok (.ladd, 1) := by decide +kernel
theorem dX10_digest_114 : decode cX10_digest 114 = .ok (.lstore_n 1, 1) := by decide +kernel
theorem dX10_digest_115 : decode cX10_digest 115 = .ok (.ldc2_w 275, 3) := by decide +kernel
theorem dX10_digest_118 : decode cX10_digest 118 = .ok (.lload_n 1, 1) := by decide +kernel
theorem dX10_digest_119 : decode cX10_digest 119 = .ok (.lmul, 1) := by decide +kernel
theorem dX10_digest_120 : decode cX10_digest 120 = .ok (.aload_n 0, 1) := by decide +kernel
theorem dX10_digest_121 : decode cX10_digest 121 = .ok (.iconst 0, 1) := by decide +kernel
theorem dX10_digest_122 : decode cX10_digest 122 = .ok (.invokevirtual 206, 3) := by decide +kernel
theorem dX10_digest_125 : decode cX10_digest 125 = .ok (.i2l, 1) := by decide +kernel
theorem dX10_digest_126 : decode cX10_digest 126 = .ok (.ladd, 1) := by decide +kernel
theorem dX10_digest_127 : decode cX10_digest 127 = .ok (.lstore_n 1, 1) := by decide +kernel
theorem dX10_digest_128 : decode cX10_digest 128 = .ok (.ldc2_w 275, 3) := by decide +kernel
theorem dX10_digest_131 : decode cX10_digest 131 = .ok (.lload_n 1, 1) := by decide +kernel
theorem dX10_digest_132 : decode cX10_digest 132 = .ok (.lmul, 1) := by decide +kernel
theorem dX10_digest_133 : decode cX10_digest 133 = .ok (.aload_n 0, 1) := by decide +kernel
theorem dX10_digest_134 : decode cX10_digest 134 = .ok (.iconst 1, 1) := by decide +kernel
theorem dX10_digest_135 : decode cX10_digest 135 = .ok (.invokevirtual 206, 3) := by decide +kernel
theorem dX10_digest_138 : decode cX10_digest 138 = .ok (.i2l, 1) := by decide +kernel
theorem dX10_digest_139 : decode cX10_digest 139 = .ok (.ladd, 1) := by decide +kernel
theorem dX10_digest_140 : decode cX10_digest 140 = .ok (.lstore_n 1, 1) := by decide +kernel
theorem dX10_digest_141 : decode cX10_digest 141 = .ok (.ldc2_w 275, 3) := by decide +kernel
theorem dX10_digest_144 : decode cX10_digest 144 = .ok (.lload_n 1, 1) := by decide +kernel
theorem dX10_digest_145 : decode cX10_digest 145 = .ok (.lmul, 1) := by decide +kernel
theorem dX10_digest_146 : decode cX10_digest 146 = .ok (.aload_n 0, 1) := by decide +kernel
theorem dX10_digest_147 : decode cX10_digest 147 = .ok (.iconst 0, 1) := by decide +kernel
theorem dX10_digest_148 : decode cX10_digest 148 = .ok (.invokevirtual 226, 3) := by decide +kernel
theorem dX10_digest_151 : decode cX10_digest 151 = .ok (.i2l, 1) := by decide +kernel
theorem dX10_digest_152 : decode cX10_digest 152 = .ok (.ladd, 1) := by decide +kernel
theorem dX10_digest_153 : decode cX10_digest 153 = .ok (.lstore_n 1, 1) := by decide +kernel
theorem dX10_digest_154 : decode cX10_digest 154 = .ok (.ldc2_w 275, 3) := by decide +kernel
theorem dX10_digest_157 : decode cX10_digest 157 = .ok (.lload_n 1, 1) := by decide +kernel
theorem dX10_digest_158 : decode cX10_digest 158 = .ok (.lmul, 1) := by decide +kernel
theorem dX10_digest_159 : decode cX10_digest 159 = .ok (.aload_n 0, 1) := by decide +kernel
theorem dX10_digest_160 : decode cX10_digest 160 = .ok (.iconst 1, 1) := by decide +kernel
theorem dX10_digest_161 : decode cX10_digest 161 = .ok (.invokevirtual 226, 3) := by decide +kernel
theorem dX10_digest_164 : decode cX10_digest 164 = .ok (.i2l, 1) := by decide +kernel
theorem dX10_digest_165 : decode cX10_digest 165 = .ok (.ladd, 1) := by decide +kernel
theorem dX10_digest_166 : decode cX10_digest 166 = .ok (.lreturn, 1) := by decide +kernel
theorem dJ6_bitCount_0f7a4_0 : decode cJ6_bitCount_0f7a4 0 = .ok (.iload_n 0, 1) := by decide +kernel
theorem dJ6_bitCount_0f7a4_1 : decode cJ6_bitCount_0f7a4 1 = .ok (.iload_n 0, 1) := by decide +kernel
theorem dJ6_bitCount_0f7a4_2 : decode cJ6_bitCount_0f7a4 2 = .ok (.iconst 1, 1) := by decide +kernel
theorem dJ6_bitCount_0f7a4_3 : decode cJ6_bitCount_0f7a4 3 = .ok (.iushr, 1) := by decide +kernel
theorem dJ6_bitCount_0f7a4_4 : decode cJ6_bitCount_0f7a4 4 = .ok (.ldc_w 265, 3) := by decide +kernel
theorem dJ6_bitCount_0f7a4_7 : decode cJ6_bitCount_0f7a4 7 = .ok (.iand, 1) := by decide +kernel
theorem dJ6_bitCount_0f7a4_8 : decode cJ6_bitCount_0f7a4 8 = .ok (.isub, 1) := by decide +kernel
theorem dJ6_bitCount_0f7a4_9 : decode cJ6_bitCount_0f7a4 9 = .ok (.istore_n 0, 1) := by decide +kernel
theorem dJ6_bitCount_0f7a4_10 : decode cJ6_bitCount_0f7a4 10 = .ok (.iload_n 0, 1) := by decide +kernel
theorem dJ6_bitCount_0f7a4_11 : decode cJ6_bitCount_0f7a4 11 = .ok (.ldc_w 266, 3) := by decide +kernel
theorem dJ6_bitCount_0f7a4_14 : decode cJ6_bitCount_0f7a4 14 = .ok (.iand, 1) := by decide +kernel
theorem dJ6_bitCount_0f7a4_15 : decode cJ6_bitCount_0f7a4 15 = .ok (.iload_n 0, 1) := by decide +kernel
theorem dJ6_bitCount_0f7a4_16 : decode cJ6_bitCount_0f7a4 16 = .ok (.iconst 2, 1) := by decide +kernel
theorem dJ6_bitCount_0f7a4_17 : decode cJ6_bitCount_0f7a4 17 = .ok (.iushr, 1) := by decide +kernel
theorem dJ6_bitCount_0f7a4_18 : decode cJ6_bitCount_0f7a4 18 = .ok (.ldc_w 266, 3) := by decide +kernel
theorem dJ6_bitCount_0f7a4_21 : decode cJ6_bitCount_0f7a4 21 = .ok (.iand, 1) := by decide +kernel
theorem dJ6_bitCount_0f7a4_22 : decode cJ6_bitCount_0f7a4 22 = .ok (.iadd, 1) := by decide +kernel
theorem dJ6_bitCount_0f7a4_23 : decode cJ6_bitCount_0f7a4 23 = .ok (.istore_n 0, 1) := by decide +kernel
theorem dJ6_bitCount_0f7a4_24 : decode cJ6_bitCount_0f7a4 24 = .ok (.iload_n 0, 1) := by decide +kernel
theorem dJ6_bitCount_0f7a4_25 : decode cJ6_bitCount_0f7a4 25 = .ok (.iload_n 0, 1) := by decide +kernel
theorem dJ6_bitCount_0f7a4_26 : decode cJ6_bitCount_0f7a4 26 = .ok (.iconst 4, 1) := by decide +kernel
theorem dJ6_bitCount_0f7a4_27 : decode cJ6_bitCount_0f7a4 27 = .ok (.iushr, 1) := by decide +kernel
theorem dJ6_bitCount_0f7a4_28 : decode cJ6_bitCount_0f7a4 28 = .ok (.iadd, 1) := by decide +kernel
theorem dJ6_bitCount_0f7a4_29 : decode cJ6_bitCount_0f7a4 29 = .ok (.ldc_w 267, 3) := by decide +kernel
theorem dJ6_bitCount_0f7a4_32 : decode cJ6_bitCount_0f7a4 32 = .ok (.iand, 1) := by decide +kernel
theorem dJ6_bitCount_0f7a4_33 : decode cJ6_bitCount_0f7a4 33 = .ok (.istore_n 0, 1) := by decide +kernel
theorem dJ6_bitCount_0f7a4_34 : decode cJ6_bitCount_0f7a4 34 = .ok (.iload_n 0, 1) := by decide +kernel
theorem dJ6_bitCount_0f7a4_35 : decode cJ6_bitCount_0f7a4 35 = .ok (.iload_n 0, 1) := by decide +kernel
theorem dJ6_bitCount_0f7a4_36 : decode cJ6_bitCount_0f7a4 36 = .ok (.bipush 8, 2) := by decide +kernel
theorem dJ6_bitCount_0f7a4_38 : decode cJ6_bitCount_0f7a4 38 = .ok (.iushr, 1) := by decide +kernel
theorem dJ6_bitCount_0f7a4_39 : decode cJ6_bitCount_0f7a4 39 = .ok (.iadd, 1) := by decide +kernel
theorem dJ6_bitCount_0f7a4_40 : decode cJ6_bitCount_0f7a4 40 = .ok (.istore_n 0, 1) := by decide +kernel
