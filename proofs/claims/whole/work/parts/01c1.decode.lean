theorem dX8_waitOf_23 : decode cX8_waitOf 23 = .ok (.aload_n 0, 1) := by decide +kernel
theorem dX8_waitOf_24 : decode cX8_waitOf 24 = .ok (.getfield 15, 3) := by decide +kernel
theorem dX8_waitOf_27 : decode cX8_waitOf 27 = .ok (.iload_n 1, 1) := by decide +kernel
theorem dX8_waitOf_28 : decode cX8_waitOf 28 = .ok (.iaload, 1) := by decide +kernel
theorem dX8_waitOf_29 : decode cX8_waitOf 29 = .ok (.isub, 1) := by decide +kernel
theorem dX8_waitOf_30 : decode cX8_waitOf 30 = .ok (.aload_n 0, 1) := by decide +kernel
theorem dX8_waitOf_31 : decode cX8_waitOf 31 = .ok (.bipush 99, 2) := by decide +kernel
theorem dX8_waitOf_33 : decode cX8_waitOf 33 = .ok (.iload_n 1, 1) := by decide +kernel
theorem dX8_waitOf_34 : decode cX8_waitOf 34 = .ok (.invokevirtual 70, 3) := by decide +kernel
theorem dX8_waitOf_37 : decode cX8_waitOf 37 = .ok (.isub, 1) := by decide +kernel
theorem dX8_waitOf_38 : decode cX8_waitOf 38 = .ok (.ireturn, 1) := by decide +kernel
theorem dX8_allWait_0 : decode cX8_allWait 0 = .ok (.iconst 0, 1) := by decide +kernel
theorem dX8_allWait_1 : decode cX8_allWait 1 = .ok (.istore_n 1, 1) := by decide +kernel
theorem dX8_allWait_2 : decode cX8_allWait 2 = .ok (.iconst 0, 1) := by decide +kernel
theorem dX8_allWait_3 : decode cX8_allWait 3 = .ok (.istore_n 2, 1) := by decide +kernel
theorem dX8_allWait_4 : decode cX8_allWait 4 = .ok (.iload_n 2, 1) := by decide +kernel
theorem dX8_allWait_5 : decode cX8_allWait 5 = .ok (.aload_n 0, 1) := by decide +kernel
theorem dX8_allWait_6 : decode cX8_allWait 6 = .ok (.getfield 31, 3) := by decide +kernel
theorem dX8_allWait_9 : decode cX8_allWait 9 = .ok (.if_icmp .ge 17, 3) := by decide +kernel
theorem dX8_allWait_12 : decode cX8_allWait 12 = .ok (.iload_n 1, 1) := by decide +kernel
theorem dX8_allWait_13 : decode cX8_allWait 13 = .ok (.aload_n 0, 1) := by decide +kernel
theorem dX8_allWait_14 : decode cX8_allWait 14 = .ok (.iload_n 2, 1) := by decide +kernel
theorem dX8_allWait_15 : decode cX8_allWait 15 = .ok (.invokevirtual 92, 3) := by decide +kernel
theorem dX8_allWait_18 : decode cX8_allWait 18 = .ok (.iadd, 1) := by decide +kernel
theorem dX8_allWait_19 : decode cX8_allWait 19 = .ok (.istore_n 1, 1) := by decide +kernel
theorem dX8_allWait_20 : decode cX8_allWait 20 = .ok (.iinc 2 1, 3) := by decide +kernel
theorem dX8_allWait_23 : decode cX8_allWait 23 = .ok (.goto (-19), 3) := by decide +kernel
theorem dX8_allWait_26 : decode cX8_allWait 26 = .ok (.iload_n 1, 1) := by decide +kernel
theorem dX8_allWait_27 : decode cX8_allWait 27 = .ok (.ireturn, 1) := by decide +kernel
theorem dX8_firstWaitOf_0 : decode cX8_firstWaitOf 0 = .ok (.iconst 0, 1) := by decide +kernel
theorem dX8_firstWaitOf_1 : decode cX8_firstWaitOf 1 = .ok (.istore_n 2, 1) := by decide +kernel
theorem dX8_firstWaitOf_2 : decode cX8_firstWaitOf 2 = .ok (.iload_n 2, 1) := by decide +kernel
theorem dX8_firstWaitOf_3 : decode cX8_firstWaitOf 3 = .ok (.aload_n 0, 1) := by decide +kernel
theorem dX8_firstWaitOf_4 : decode cX8_firstWaitOf 4 = .ok (.getfield 27, 3) := by decide +kernel
theorem dX8_firstWaitOf_7 : decode cX8_firstWaitOf 7 = .ok (.if_icmp .ge 35, 3) := by decide +kernel
theorem dX8_firstWaitOf_10 : decode cX8_firstWaitOf 10 = .ok (.aload_n 0, 1) := by decide +kernel
theorem dX8_firstWaitOf_11 : decode cX8_firstWaitOf 11 = .ok (.iload_n 2, 1) := by decide +kernel
theorem dX8_firstWaitOf_12 : decode cX8_firstWaitOf 12 = .ok (.iload_n 1, 1) := by decide +kernel
theorem dX8_firstWaitOf_13 : decode cX8_firstWaitOf 13 = .ok (.invokevirtual 66, 3) := by decide +kernel
theorem dX8_firstWaitOf_16 : decode cX8_firstWaitOf 16 = .ok (.aload_n 0, 1) := by decide +kernel
theorem dX8_firstWaitOf_17 : decode cX8_firstWaitOf 17 = .ok (.getfield 15, 3) := by decide +kernel
theorem dX8_firstWaitOf_20 : decode cX8_firstWaitOf 20 = .ok (.iload_n 1, 1) := by decide +kernel
theorem dX8_firstWaitOf_21 : decode cX8_firstWaitOf 21 = .ok (.iaload, 1) := by decide +kernel
theorem dX8_firstWaitOf_22 : decode cX8_firstWaitOf 22 = .ok (.iload_n 2, 1) := by decide +kernel
theorem dX8_firstWaitOf_23 : decode cX8_firstWaitOf 23 = .ok (.iadd, 1) := by decide +kernel
theorem dX8_firstWaitOf_24 : decode cX8_firstWaitOf 24 = .ok (.if_icmp .eq 12, 3) := by decide +kernel
theorem dX8_firstWaitOf_27 : decode cX8_firstWaitOf 27 = .ok (.aload_n 0, 1) := by decide +kernel
theorem dX8_firstWaitOf_28 : decode cX8_firstWaitOf 28 = .ok (.getfield 15, 3) := by decide +kernel
theorem dX8_firstWaitOf_31 : decode cX8_firstWaitOf 31 = .ok (.iload_n 1, 1) := by decide +kernel
theorem dX8_firstWaitOf_32 : decode cX8_firstWaitOf 32 = .ok (.iaload, 1) := by decide +kernel
theorem dX8_firstWaitOf_33 : decode cX8_firstWaitOf 33 = .ok (.iload_n 2, 1) := by decide +kernel
theorem dX8_firstWaitOf_34 : decode cX8_firstWaitOf 34 = .ok (.iadd, 1) := by decide +kernel
theorem dX8_firstWaitOf_35 : decode cX8_firstWaitOf 35 = .ok (.ireturn, 1) := by decide +kernel
theorem dX8_firstWaitOf_36 : decode cX8_firstWaitOf 36 = .ok (.iinc 2 1, 3) := by decide +kernel
theorem dX8_firstWaitOf_39 : decode cX8_firstWaitOf 39 = .ok (.goto (-37), 3) := by decide +kernel
theorem dX8_firstWaitOf_42 : decode cX8_firstWaitOf 42 = .ok (.bipush 100, 2) := by decide +kernel
theorem dX8_firstWaitOf_44 : decode cX8_firstWaitOf 44 = .ok (.ireturn, 1) := by decide +kernel
theorem dX9_init_0 : decode cX9_init 0 = .ok (.aload_n 0, 1) := by decide +kernel
theorem dX9_init_1 : decode cX9_init 1 = .ok (.invokespecial 3, 3) := by decide +kernel
theorem dX9_init_4 : decode cX9_init 4 = .ok (.aload_n 0, 1) := by decide +kernel
theorem dX9_init_5 : decode cX9_init 5 = .ok (.iconst 2, 1) := by decide +kernel
theorem dX9_init_6 : decode cX9_init 6 = .ok (.anewarray 9, 3) := by decide +kernel
theorem dX9_init_9 : decode cX9_init 9 = .ok (.putfield 11, 3) := by decide +kernel
theorem dX9_init_12 : decode cX9_init 12 = .ok (.aload_n 0, 1) := by decide +kernel
theorem dX9_init_13 : decode cX9_init 13 = .ok (.new 15, 3) := by decide +kernel
theorem dX9_init_16 : decode cX9_init 16 = .ok (.dup, 1) := by decide +kernel
theorem dX9_init_17 : decode cX9_init 17 = .ok (.invokespecial 17, 3) := by decide +kernel
theorem dX9_init_20 : decode cX9_init 20 = .ok (.putfield 18, 3) := by decide +kernel
theorem dX9_init_23 : decode cX9_init 23 = .ok (.aload_n 0, 1) := by decide +kernel
theorem dX9_init_24 : decode cX9_init 24 = .ok (.new 22, 3) := by decide +kernel
theorem dX9_init_27 : decode cX9_init 27 = .ok (.dup, 1) := by decide +kernel
theorem dX9_init_28 : decode cX9_init 28 = .ok (.invokespecial 24, 3) := by decide +kernel
theorem dX9_init_31 : decode cX9_init 31 = .ok (.putfield 25, 3) := by decide +kernel
theorem dX9_init_34 : decode cX9_init 34 = .ok (.aload_n 0, 1) := by decide +kernel
theorem dX9_init_35 : decode cX9_init 35 = .ok (.new 29, 3) := by decide +kernel
theorem dX9_init_38 : decode cX9_init 38 = .ok (.dup, 1) := by decide +kernel
theorem dX9_init_39 : decode cX9_init 39 = .ok (.invokespecial 31, 3) := by decide +kernel
theorem dX9_init_42 : decode cX9_init 42 = .ok (.putfield 32, 3) := by decide +kernel
theorem dX9_init_45 : decode cX9_init 45 = .ok (.aload_n 0, 1) := by decide +kernel
theorem dX9_init_46 : decode cX9_init 46 = .ok (.new 36, 3) := by decide +kernel
theorem dX9_init_49 : decode cX9_init 49 = .ok (.dup, 1) := by decide +kernel
theorem dX9_init_50 : decode cX9_init 50 = .ok (.invokespecial 38, 3) := by decide +kernel
theorem dX9_init_53 : decode cX9_init 53 = .ok (.putfield 39, 3) := by decide +kernel
theorem dX9_init_56 : decode cX9_init 56 = .ok (.aload_n 0, 1) := by decide +kernel
theorem dX9_init_57 : decode cX9_init 57 = .ok (.iconst 4, 1) := by decide +kernel
theorem dX9_init_58 : decode cX9_init 58 = .ok (.anewarray 43, 3) := by decide +kernel
theorem dX9_init_61 : decode cX9_init 61 = .ok (.putfield 45, 3) := by decide +kernel
theorem dX9_init_64 : decode cX9_init 64 = .ok (.aload_n 0, 1) := by decide +kernel
theorem dX9_init_65 : decode cX9_init 65 = .ok (.new 49, 3) := by decide +kernel
theorem dX9_init_68 : decode cX9_init 68 = .ok (.dup, 1) := by decide +kernel
theorem dX9_init_69 : decode cX9_init 69 = .ok (.invokespecial 51, 3) := by decide +kernel
theorem dX9_init_72 : decode cX9_init 72 = .ok (.putfield 52, 3) := by decide +kernel
theorem dX9_init_75 : decode cX9_init 75 = .ok (.aload_n 0, 1) := by decide +kernel
theorem dX9_init_76 : decode cX9_init 76 = .ok (.new 49, 3) := by decide +kernel
theorem dX9_init_79 : decode cX9_init 79 = .ok (.dup, 1) := by decide +kernel
theorem dX9_init_80 : decode cX9_init 80 = .ok (.invokespecial 51, 3) := by decide +kernel
theorem dX9_init_83 : decode cX9_init 83 = .ok (.putfield 56, 3) := by decide +kernel
theorem dX9_init_86 : decode cX9_init 86 = .ok (.aload_n 0, 1) := by decide +kernel
theorem dX9_init_87 : decode cX9_init 87 = .ok (.new 59, 3) := by decide +kernel
theorem dX9_init_90 : decode cX9_init 90 = .ok (.dup, 1) := by decide +kernel
theorem dX9_init_91 : decode cX9_init 91 = .ok (.invokespecial 61, 3) := by decide +kernel
theorem dX9_init_94 : decode cX9_init 94 = .ok (.putfield 62, 3) := by decide +kernel
theorem dX9_init_97 : decode cX9_init 97 = .ok (.aload_n 0, 1) := by decide +kernel
theorem dX9_init_98 : decode cX9_init 98 = .ok (.new 66, 3) := by decide +kernel
theorem dX9_init_101 : decode cX9_init 101 = .ok (.dup, 1) := by decide +kernel
theorem dX9_init_102 : decode cX9_init 102 = .ok (.invokespecial 68, 3) := by decide +kernel
theorem dX9_init_105 : decode cX9_init 105 = .ok (.putfield 69, 3) := by decide +kernel
theorem dX9_init_108 : decode cX9_init 108 = .ok (.aload_n 0, 1) := by decide +kernel
theorem dX9_init_109 : decode cX9_init 109 = .ok (.bipush 6, 2) := by decide +kernel
theorem dX9_init_111 : decode cX9_init 111 = .ok (.newarray .int, 2) := by decide +kernel
theorem dX9_init_113 : decode cX9_init 113 = .ok (.putfield 73, 3) := by decide +kernel
theorem dX9_init_116 : decode cX9_init 116 = .ok (.aload_n 0, 1) := by decide +kernel
theorem dX9_init_117 : decode cX9_init 117 = .ok (.bipush 80, 2) := by decide +kernel
theorem dX9_init_119 : decode cX9_init 119 = .ok (.newarray .int, 2) := by decide +kernel
theorem dX9_init_121 : decode cX9_init 121 = .ok (.putfield 77, 3) := by decide +kernel
theorem dX9_init_124 : decode cX9_init 124 = .ok (.aload_n 0, 1) := by decide +kernel
theorem dX9_init_125 : decode cX9_init 125 = .ok (.getfield 11, 3) := by decide +kernel
theorem dX9_init_128 : decode cX9_init 128 = .ok (.iconst 0, 1) := by decide +kernel
theorem dX9_init_129 : decode cX9_init 129 = .ok (.new 9, 3) := by decide +kernel
theorem dX9_init_132 : decode cX9_init 132 = .ok (.dup, 1) := by decide +kernel
theorem dX9_init_133 : decode cX9_init 133 = .ok (.bipush 31, 2) := by decide +kernel
theorem dX9_init_135 : decode cX9_init 135 = .ok (.invokespecial 80, 3) := by decide +kernel
theorem dX9_init_138 : decode cX9_init 138 = .ok (.aastore, 1) := by decide +kernel
theorem dX9_init_139 : decode cX9_init 139 = .ok (.aload_n 0, 1) := by decide +kernel
theorem dX9_init_140 : decode cX9_init 140 = .ok (.getfield 11, 3) := by decide +kernel
theorem dX9_init_143 : decode cX9_init 143 = .ok (.iconst 1, 1) := by decide +kernel
theorem dX9_init_144 : decode cX9_init 144 = .ok (.new 9, 3) := by decide +kernel
theorem dX9_init_147 : decode cX9_init 147 = .ok (.dup, 1) := by decide +kernel
theorem dX9_init_148 : decode cX9_init 148 = .ok (.bipush 63, 2) := by decide +kernel
theorem dX9_init_150 : decode cX9_init 150 = .ok (.invokespecial 80, 3) := by decide +kernel
theorem dX9_init_153 : decode cX9_init 153 = .ok (.aastore, 1) := by decide +kernel
theorem dX9_init_154 : decode cX9_init 154 = .ok (.iconst 0, 1) := by decide +kernel
theorem dX9_init_155 : decode cX9_init 155 = .ok (.istore_n 1, 1) := by decide +kernel
theorem dX9_init_156 : decode cX9_init 156 = .ok (.iload_n 1, 1) := by decide +kernel
theorem dX9_init_157 : decode cX9_init 157 = .ok (.iconst 4, 1) := by decide +kernel
theorem dX9_init_158 : decode cX9_init 158 = .ok (.if_icmp .ge 22, 3) := by decide +kernel
theorem dX9_init_161 : decode cX9_init 161 = .ok (.aload_n 0, 1) := by decide +kernel
theorem dX9_init_162 : decode cX9_init 162 = .ok (.getfield 45, 3) := by decide +kernel
theorem dX9_init_165 : decode cX9_init 165 = .ok (.iload_n 1, 1) := by decide +kernel
theorem dX9_init_166 : decode cX9_init 166 = .ok (.new 43, 3) := by decide +kernel
theorem dX9_init_169 : decode cX9_init 169 = .ok (.dup, 1) := by decide +kernel
theorem dX9_init_170 : decode cX9_init 170 = .ok (.invokespecial 83, 3) := by decide +kernel
theorem dX9_init_173 : decode cX9_init 173 = .ok (.aastore, 1) := by decide +kernel
theorem dX9_init_174 : decode cX9_init 174 = .ok (.iinc 1 1, 3) := by decide +kernel
theorem dX9_init_177 : decode cX9_init 177 = .ok (.goto (-21), 3) := by decide +kernel
theorem dX9_init_180 : decode cX9_init 180 = .ok (.return_, 1) := by decide +kernel
theorem dX9_type_0 : decode cX9_type 0 = .ok (.iload_n 1, 1) := by decide +kernel
theorem dX9_type_1 : decode cX9_type 1 = .ok (.iconst 2, 1) := by decide +kernel
theorem dX9_type_2 : decode cX9_type 2 = .ok (.invokestatic 84, 3) := by decide +kernel
theorem dX9_type_5 : decode cX9_type 5 = .ok (.ifCond .eq 13, 3) := by decide +kernel
theorem dX9_type_8 : decode cX9_type 8 = .ok (.iload_n 2, 1) := by decide +kernel
theorem dX9_type_9 : decode cX9_type 9 = .ok (.sipush 256, 3) := by decide +kernel
theorem dX9_type_12 : decode cX9_type 12 = .ok (.invokestatic 84, 3) := by decide +kernel
theorem dX9_type_15 : decode cX9_type 15 = .ok (.ifCond .ne 6, 3) := by decide +kernel
theorem dX9_type_18 : decode cX9_type 18 = .ok (.bipush (-2), 2) := by decide +kernel
theorem dX9_type_20 : decode cX9_type 20 = .ok (.ireturn, 1) := by decide +kernel
theorem dX9_type_21 : decode cX9_type 21 = .ok (.aload_n 0, 1) := by decide +kernel
theorem dX9_type_22 : decode cX9_type 22 = .ok (.getfield 11, 3) := by decide +kernel
theorem dX9_type_25 : decode cX9_type 25 = .ok (.iload_n 1, 1) := by decide +kernel
theorem dX9_type_26 : decode cX9_type 26 = .ok (.aaload, 1) := by decide +kernel
theorem dX9_type_27 : decode cX9_type 27 = .ok (.astore_n 3, 1) := by decide +kernel
theorem dX9_type_28 : decode cX9_type 28 = .ok (.aload_n 3, 1) := by decide +kernel
theorem dX9_type_29 : decode cX9_type 29 = .ok (.invokevirtual 88, 3) := by decide +kernel
theorem dX9_type_32 : decode cX9_type 32 = .ok (.ifCond .eq 6, 3) := by decide +kernel
theorem dX9_type_35 : decode cX9_type 35 = .ok (.bipush (-4), 2) := by decide +kernel
theorem dX9_type_37 : decode cX9_type 37 = .ok (.ireturn, 1) := by decide +kernel
theorem dX9_type_38 : decode cX9_type 38 = .ok (.aload_n 3, 1) := by decide +kernel
theorem dX9_type_39 : decode cX9_type 39 = .ok (.iload_n 2, 1) := by decide +kernel
theorem dX9_type_40 : decode cX9_type 40 = .ok (.invokevirtual 92, 3) := by decide +kernel
theorem dX9_type_43 : decode cX9_type 43 = .ok (.aload_n 0, 1) := by decide +kernel
theorem dX9_type_44 : decode cX9_type 44 = .ok (.iload_n 1, 1) := by decide +kernel
theorem dX9_type_45 : decode cX9_type 45 = .ok (.invokevirtual 95, 3) := by decide +kernel
theorem dX9_type_48 : decode cX9_type 48 = .ok (.aload_n 3, 1) := by decide +kernel
theorem dX9_type_49 : decode cX9_type 49 = .ok (.getfield 98, 3) := by decide +kernel
theorem dX9_type_52 : decode cX9_type 52 = .ok (.ireturn, 1) := by decide +kernel
theorem dX9_wipe_0 : decode cX9_wipe 0 = .ok (.iload_n 1, 1) := by decide +kernel
theorem dX9_wipe_1 : decode cX9_wipe 1 = .ok (.iconst 2, 1) := by decide +kernel
theorem dX9_wipe_2 : decode cX9_wipe 2 = .ok (.invokestatic 84, 3) := by decide +kernel
theorem dX9_wipe_5 : decode cX9_wipe 5 = .ok (.ifCond .ne 6, 3) := by decide +kernel
theorem dX9_wipe_8 : decode cX9_wipe 8 = .ok (.bipush (-2), 2) := by decide +kernel
theorem dX9_wipe_10 : decode cX9_wipe 10 = .ok (.ireturn, 1) := by decide +kernel
theorem dX9_wipe_11 : decode cX9_wipe 11 = .ok (.aload_n 0, 1) := by decide +kernel
theorem dX9_wipe_12 : decode cX9_wipe 12 = .ok (.getfield 11, 3) := by decide +kernel
theorem dX9_wipe_15 : decode cX9_wipe 15 = .ok (.iload_n 1, 1) := by decide +kernel
theorem dX9_wipe_16 : decode cX9_wipe 16 = .ok (.aaload, 1) := by decide +kernel
theorem dX9_wipe_17 : decode cX9_wipe 17 = .ok (.getfield 98, 3) := by decide +kernel
theorem dX9_wipe_20 : decode cX9_wipe 20 = .ok (.istore_n 2, 1) := by decide +kernel
theorem dX9_wipe_21 : decode cX9_wipe 21 = .ok (.aload_n 0, 1) := by decide +kernel
theorem dX9_wipe_22 : decode cX9_wipe 22 = .ok (.getfield 11, 3) := by decide +kernel
theorem dX9_wipe_25 : decode cX9_wipe 25 = .ok (.iload_n 1, 1) := by decide +kernel
theorem dX9_wipe_26 : decode cX9_wipe 26 = .ok (.aaload, 1) := by decide +kernel
theorem dX9_wipe_27 : decode cX9_wipe 27 = .ok (.iconst 0, 1) := by decide +kernel
theorem dX9_wipe_28 : decode cX9_wipe 28 = .ok (.putfield 98, 3) := by decide +kernel
theorem dX9_wipe_31 : decode cX9_wipe 31 = .ok (.aload_n 0, 1) := by decide +kernel
theorem dX9_wipe_32 : decode cX9_wipe 32 = .ok (.iload_n 1, 1) := by decide +kernel
theorem dX9_wipe_33 : decode cX9_wipe 33 = .ok (.invokevirtual 95, 3) := by decide +kernel
theorem dX9_wipe_36 : decode cX9_wipe 36 = .ok (.iload_n 2, 1) := by decide +kernel
theorem dX9_wipe_37 : decode cX9_wipe 37 = .ok (.ireturn, 1) := by decide +kernel
theorem dX9_undo_0 : decode cX9_undo 0 = .ok (.iload_n 1, 1) := by decide +kernel
theorem dX9_undo_1 : decode cX9_undo 1 = .ok (.iconst 2, 1) := by decide +kernel
theorem dX9_undo_2 : decode cX9_undo 2 = .ok (.invokestatic 84, 3) := by decide +kernel
theorem dX9_undo_5 : decode cX9_undo 5 = .ok (.ifCond .ne 6, 3) := by decide +kernel
theorem dX9_undo_8 : decode cX9_undo 8 = .ok (.bipush (-2), 2) := by decide +kernel
theorem dX9_undo_10 : decode cX9_undo 10 = .ok (.ireturn, 1) := by decide +kernel
theorem dX9_undo_11 : decode cX9_undo 11 = .ok (.aload_n 0, 1) := by decide +kernel
theorem dX9_undo_12 : decode cX9_undo 12 = .ok (.getfield 11, 3) := by decide +kernel
theorem dX9_undo_15 : decode cX9_undo 15 = .ok (.iload_n 1, 1) := by decide +kernel
theorem dX9_undo_16 : decode cX9_undo 16 = .ok (.aaload, 1) := by decide +kernel
theorem dX9_undo_17 : decode cX9_undo 17 = .ok (.astore_n 2, 1) := by decide +kernel
theorem dX9_undo_18 : decode cX9_undo 18 = .ok (.aload_n 2, 1) := by decide +kernel
theorem dX9_undo_19 : decode cX9_undo 19 = .ok (.getfield 98, 3) := by decide +kernel
theorem dX9_undo_22 : decode cX9_undo 22 = .ok (.ifCond .ne 6, 3) := by decide +kernel
theorem dX9_undo_25 : decode cX9_undo 25 = .ok (.bipush (-3), 2) := by decide +kernel
theorem dX9_undo_27 : decode cX9_undo 27 = .ok (.ireturn, 1) := by decide +kernel
theorem dX9_undo_28 : decode cX9_undo 28 = .ok (.aload_n 2, 1) := by decide +kernel
theorem dX9_undo_29 : decode cX9_undo 29 = .ok (.dup, 1) := by decide +kernel
theorem dX9_undo_30 : decode cX9_undo 30 = .ok (.getfield 98, 3) := by decide +kernel
theorem dX9_undo_33 : decode cX9_undo 33 = .ok (.iconst 1, 1) := by decide +kernel
theorem dX9_undo_34 : decode cX9_undo 34 = .ok (.isub, 1) := by decide +kernel
theorem dX9_undo_35 : decode cX9_undo 35 = .ok (.putfield 98, 3) := by decide +kernel
theorem dX9_undo_38 : decode cX9_undo 38 = .ok (.aload_n 0, 1) := by decide +kernel
theorem dX9_undo_39 : decode cX9_undo 39 = .ok (.iload_n 1, 1) := by decide +kernel
theorem dX9_undo_40 : decode cX9_undo 40 = .ok (.invokevirtual 95, 3) := by decide +kernel
theorem dX9_undo_43 : decode cX9_undo 43 = .ok (.aload_n 2, 1) := by decide +kernel
theorem dX9_undo_44 : decode cX9_undo 44 = .ok (.getfield 98, 3) := by decide +kernel
theorem dX9_undo_47 : decode cX9_undo 47 = .ok (.ireturn, 1) := by decide +kernel
theorem dX9_fault_0 : decode cX9_fault 0 = .ok (.iload_n 1, 1) := by decide +kernel
theorem dX9_fault_1 : decode cX9_fault 1 = .ok (.iconst 2, 1) := by decide +kernel
theorem dX9_fault_2 : decode cX9_fault 2 = .ok (.invokestatic 84, 3) := by decide +kernel
theorem dX9_fault_5 : decode cX9_fault 5 = .ok (.ifCond .ne 6, 3) := by decide +kernel
theorem dX9_fault_8 : decode cX9_fault 8 = .ok (.bipush (-2), 2) := by decide +kernel
theorem dX9_fault_10 : decode cX9_fault 10 = .ok (.ireturn, 1) := by decide +kernel
theorem dX9_fault_11 : decode cX9_fault 11 = .ok (.iload_n 1, 1) := by decide +kernel
theorem dX9_fault_12 : decode cX9_fault 12 = .ok (.ifCond .ne 13, 3) := by decide +kernel
theorem dX9_fault_15 : decode cX9_fault 15 = .ok (.aload_n 0, 1) := by decide +kernel
theorem dX9_fault_16 : decode cX9_fault 16 = .ok (.getfield 18, 3) := by decide +kernel
theorem dX9_fault_19 : decode cX9_fault 19 = .ok (.getfield 102, 3) := by decide +kernel
theorem dX9_fault_22 : decode cX9_fault 22 = .ok (.goto 10, 3) := by decide +kernel
theorem dX9_fault_25 : decode cX9_fault 25 = .ok (.aload_n 0, 1) := by decide +kernel
theorem dX9_fault_26 : decode cX9_fault 26 = .ok (.getfield 25, 3) := by decide +kernel
theorem dX9_fault_29 : decode cX9_fault 29 = .ok (.getfield 105, 3) := by decide +kernel
theorem dX9_fault_32 : decode cX9_fault 32 = .ok (.ireturn, 1) := by decide +kernel
theorem dX9_bridge_0 : decode cX9_bridge 0 = .ok (.aload_n 0, 1) := by decide +kernel
theorem dX9_bridge_1 : decode cX9_bridge 1 = .ok (.iload_n 1, 1) := by decide +kernel
theorem dX9_bridge_2 : decode cX9_bridge 2 = .ok (.invokevirtual 106, 3) := by decide +kernel
theorem dX9_bridge_5 : decode cX9_bridge 5 = .ok (.ifCond .eq 11, 3) := by decide +kernel
theorem dX9_bridge_8 : decode cX9_bridge 8 = .ok (.iload_n 2, 1) := by decide +kernel
theorem dX9_bridge_9 : decode cX9_bridge 9 = .ok (.iconst 3, 1) := by decide +kernel
theorem dX9_bridge_10 : decode cX9_bridge 10 = .ok (.invokestatic 84, 3) := by decide +kernel
theorem dX9_bridge_13 : decode cX9_bridge 13 = .ok (.ifCond .ne 6, 3) := by decide +kernel
theorem dX9_bridge_16 : decode cX9_bridge 16 = .ok (.bipush (-2), 2) := by decide +kernel
theorem dX9_bridge_18 : decode cX9_bridge 18 = .ok (.ireturn, 1) := by decide +kernel
theorem dX9_bridge_19 : decode cX9_bridge 19 = .ok (.aload_n 0, 1) := by decide +kernel
theorem dX9_bridge_20 : decode cX9_bridge 20 = .ok (.getfield 18, 3) := by decide +kernel
theorem dX9_bridge_23 : decode cX9_bridge 23 = .ok (.iload_n 1, 1) := by decide +kernel
theorem dX9_bridge_24 : decode cX9_bridge 24 = .ok (.iload_n 2, 1) := by decide +kernel
theorem dX9_bridge_25 : decode cX9_bridge 25 = .ok (.invokevirtual 110, 3) := by decide +kernel
theorem dX9_bridge_28 : decode cX9_bridge 28 = .ok (.ireturn, 1) := by decide +kernel
theorem dX9_boat_0 : decode cX9_boat 0 = .ok (.aload_n 0, 1) := by decide +kernel
theorem dX9_boat_1 : decode cX9_boat 1 = .ok (.iload_n 1, 1) := by decide +kernel
theorem dX9_boat_2 : decode cX9_boat 2 = .ok (.invokevirtual 114, 3) := by decide +kernel
theorem dX9_boat_5 : decode cX9_boat 5 = .ok (.ifCond .eq 12, 3) := by decide +kernel
theorem dX9_boat_8 : decode cX9_boat 8 = .ok (.iload_n 2, 1) := by decide +kernel
theorem dX9_boat_9 : decode cX9_boat 9 = .ok (.bipush 7, 2) := by decide +kernel
theorem dX9_boat_11 : decode cX9_boat 11 = .ok (.invokestatic 84, 3) := by decide +kernel
theorem dX9_boat_14 : decode cX9_boat 14 = .ok (.ifCond .ne 6, 3) := by decide +kernel
theorem dX9_boat_17 : decode cX9_boat 17 = .ok (.bipush (-2), 2) := by decide +kernel
theorem dX9_boat_19 : decode cX9_boat 19 = .ok (.ireturn, 1) := by decide +kernel
theorem dX9_boat_20 : decode cX9_boat 20 = .ok (.iload_n 2, 1) := by decide +kernel
theorem dX9_boat_21 : decode cX9_boat 21 = .ok (.bipush 6, 2) := by decide +kernel
theorem dX9_boat_23 : decode cX9_boat 23 = .ok (.if_icmp .ne 15, 3) := by decide +kernel
theorem dX9_boat_26 : decode cX9_boat 26 = .ok (.aload_n 0, 1) := by decide +kernel
theorem dX9_boat_27 : decode cX9_boat 27 = .ok (.getfield 25, 3) := by decide +kernel
theorem dX9_boat_30 : decode cX9_boat 30 = .ok (.getfield 117, 3) := by decide +kernel
theorem dX9_boat_33 : decode cX9_boat 33 = .ok (.iload_n 1, 1) := by decide +kernel
theorem dX9_boat_34 : decode cX9_boat 34 = .ok (.iaload, 1) := by decide +kernel
theorem dX9_boat_35 : decode cX9_boat 35 = .ok (.goto 14, 3) := by decide +kernel
theorem dX9_boat_38 : decode cX9_boat 38 = .ok (.aload_n 0, 1) := by decide +kernel
theorem dX9_boat_39 : decode cX9_boat 39 = .ok (.getfield 25, 3) := by decide +kernel
theorem dX9_boat_42 : decode cX9_boat 42 = .ok (.getfield 120, 3) := by decide +kernel
theorem dX9_boat_45 : decode cX9_boat 45 = .ok (.iload_n 1, 1) := by decide +kernel
theorem dX9_boat_46 : decode cX9_boat 46 = .ok (.aaload, 1) := by decide +kernel
theorem dX9_boat_47 : decode cX9_boat 47 = .ok (.iload_n 2, 1) := by decide +kernel
theorem dX9_boat_48 : decode cX9_boat 48 = .ok (.iaload, 1) := by decide +kernel
theorem dX9_boat_49 : decode cX9_boat 49 = .ok (.ireturn, 1) := by decide +kernel
theorem dX9_sham_0 : decode cX9_sham 0 = .ok (.iload_n 1, 1) := by decide +kernel
theorem dX9_sham_1 : decode cX9_sham 1 = .ok (.iload_n 2, 1) := by decide +kernel
theorem dX9_sham_2 : decode cX9_sham 2 = .ok (.invokestatic 124, 3) := by decide +kernel
theorem dX9_sham_5 : decode cX9_sham 5 = .ok (.ifCond .ne 6, 3) := by decide +kernel
theorem dX9_sham_8 : decode cX9_sham 8 = .ok (.bipush (-2), 2) := by decide +kernel
theorem dX9_sham_10 : decode cX9_sham 10 = .ok (.ireturn, 1) := by decide +kernel
theorem dX9_sham_11 : decode cX9_sham 11 = .ok (.aload_n 0, 1) := by decide +kernel
theorem dX9_sham_12 : decode cX9_sham 12 = .ok (.getfield 32, 3) := by decide +kernel
theorem dX9_sham_15 : decode cX9_sham 15 = .ok (.invokevirtual 127, 3) := by decide +kernel
theorem dX9_sham_18 : decode cX9_sham 18 = .ok (.ifCond .eq 6, 3) := by decide +kernel
theorem dX9_sham_21 : decode cX9_sham 21 = .ok (.bipush (-4), 2) := by decide +kernel
theorem dX9_sham_23 : decode cX9_sham 23 = .ok (.ireturn, 1) := by decide +kernel
theorem dX9_sham_24 : decode cX9_sham 24 = .ok (.aload_n 0, 1) := by decide +kernel
theorem dX9_sham_25 : decode cX9_sham 25 = .ok (.getfield 32, 3) := by decide +kernel
theorem dX9_sham_28 : decode cX9_sham 28 = .ok (.iload_n 1, 1) := by decide +kernel
theorem dX9_sham_29 : decode cX9_sham 29 = .ok (.iload_n 2, 1) := by decide +kernel
theorem dX9_sham_30 : decode cX9_sham 30 = .ok (.invokevirtual 128, 3) := by decide +kernel
theorem dX9_sham_33 : decode cX9_sham 33 = .ok (.aload_n 0, 1) := by decide +kernel
theorem dX9_sham_34 : decode cX9_sham 34 = .ok (.invokevirtual 131, 3) := by decide +kernel
theorem dX9_sham_37 : decode cX9_sham 37 = .ok (.aload_n 0, 1) := by decide +kernel
theorem dX9_sham_38 : decode cX9_sham 38 = .ok (.getfield 32, 3) := by decide +kernel
theorem dX9_sham_41 : decode cX9_sham 41 = .ok (.getfield 134, 3) := by decide +kernel
theorem dX9_sham_44 : decode cX9_sham 44 = .ok (.ireturn, 1) := by decide +kernel
theorem dX9_back_0 : decode cX9_back 0 = .ok (.aload_n 0, 1) := by decide +kernel
theorem dX9_back_1 : decode cX9_back 1 = .ok (.getfield 32, 3) := by decide +kernel
theorem dX9_back_4 : decode cX9_back 4 = .ok (.getfield 134, 3) := by decide +kernel
theorem dX9_back_7 : decode cX9_back 7 = .ok (.ifCond .ne 6, 3) := by decide +kernel
theorem dX9_back_10 : decode cX9_back 10 = .ok (.bipush (-3), 2) := by decide +kernel
theorem dX9_back_12 : decode cX9_back 12 = .ok (.ireturn, 1) := by decide +kernel
theorem dX9_back_13 : decode cX9_back 13 = .ok (.aload_n 0, 1) := by decide +kernel
theorem dX9_back_14 : decode cX9_back 14 = .ok (.getfield 32, 3) := by decide +kernel
theorem dX9_back_17 : decode cX9_back 17 = .ok (.invokevirtual 135, 3) := by decide +kernel
theorem dX9_back_20 : decode cX9_back 20 = .ok (.aload_n 0, 1) := by decide +kernel
theorem dX9_back_21 : decode cX9_back 21 = .ok (.invokevirtual 131, 3) := by decide +kernel
theorem dX9_back_24 : decode cX9_back 24 = .ok (.aload_n 0, 1) := by decide +kernel
theorem dX9_back_25 : decode cX9_back 25 = .ok (.getfield 32, 3) := by decide +kernel
theorem dX9_back_28 : decode cX9_back 28 = .ok (.getfield 134, 3) := by decide +kernel
theorem dX9_back_31 : decode cX9_back 31 = .ok (.ireturn, 1) := by decide +kernel
theorem dX9_read_0 : decode cX9_read 0 = .ok (.iload_n 1, 1) := by decide +kernel
theorem dX9_read_1 : decode cX9_read 1 = .ok (.iconst 4, 1) := by decide +kernel
theorem dX9_read_2 : decode cX9_read 2 = .ok (.invokestatic 84, 3) := by decide +kernel
theorem dX9_read_5 : decode cX9_read 5 = .ok (.ifCond .ne 6, 3) := by decide +kernel
theorem dX9_read_8 : decode cX9_read 8 = .ok (.bipush (-2), 2) := by decide +kernel
theorem dX9_read_10 : decode cX9_read 10 = .ok (.ireturn, 1) := by decide +kernel
theorem dX9_read_11 : decode cX9_read 11 = .ok (.aload_n 0, 1) := by decide +kernel
theorem dX9_read_12 : decode cX9_read 12 = .ok (.getfield 45, 3) := by decide +kernel
theorem dX9_read_15 : decode cX9_read 15 = .ok (.iload_n 1, 1) := by decide +kernel
theorem dX9_read_16 : decode cX9_read 16 = .ok (.aaload, 1) := by decide +kernel
theorem dX9_read_17 : decode cX9_read 17 = .ok (.astore_n 2, 1) := by decide +kernel
theorem dX9_read_18 : decode cX9_read 18 = .ok (.aload_n 2, 1) := by decide +kernel
theorem dX9_read_19 : decode cX9_read 19 = .ok (.getfield 138, 3) := by decide +kernel
theorem dX9_read_22 : decode cX9_read 22 = .ok (.ifCond .eq 9, 3) := by decide +kernel
theorem dX9_read_25 : decode cX9_read 25 = .ok (.aload_n 0, 1) := by decide +kernel
theorem dX9_read_26 : decode cX9_read 26 = .ok (.iconst 1, 1) := by decide +kernel
theorem dX9_read_27 : decode cX9_read 27 = .ok (.invokevirtual 142, 3) := by decide +kernel
theorem dX9_read_30 : decode cX9_read 30 = .ok (.ireturn, 1) := by decide +kernel
theorem dX9_read_31 : decode cX9_read 31 = .ok (.aload_n 0, 1) := by decide +kernel
theorem dX9_read_32 : decode cX9_read 32 = .ok (.getfield 32, 3) := by decide +kernel
theorem dX9_read_35 : decode cX9_read 35 = .ok (.getfield 134, 3) := by decide +kernel
theorem dX9_read_38 : decode cX9_read 38 = .ok (.istore_n 3, 1) := by decide +kernel
theorem dX9_read_39 : decode cX9_read 39 = .ok (.iconst 0, 1) := by decide +kernel
theorem dX9_read_40 : decode cX9_read 40 = .ok (.istore 4, 2) := by decide +kernel
theorem dX9_read_42 : decode cX9_read 42 = .ok (.iload 4, 2) := by decide +kernel
theorem dX9_read_44 : decode cX9_read 44 = .ok (.iconst 1, 1) := by decide +kernel
theorem dX9_read_45 : decode cX9_read 45 = .ok (.iadd, 1) := by decide +kernel
theorem dX9_read_46 : decode cX9_read 46 = .ok (.aload_n 2, 1) := by decide +kernel
theorem dX9_read_47 : decode cX9_read 47 = .ok (.getfield 146, 3) := by decide +kernel
theorem dX9_read_50 : decode cX9_read 50 = .ok (.if_icmp .ge 67, 3) := by decide +kernel
theorem dX9_read_53 : decode cX9_read 53 = .ok (.aload_n 0, 1) := by decide +kernel
theorem dX9_read_54 : decode cX9_read 54 = .ok (.getfield 32, 3) := by decide +kernel
theorem dX9_read_57 : decode cX9_read 57 = .ok (.invokevirtual 127, 3) := by decide +kernel
theorem dX9_read_60 : decode cX9_read 60 = .ok (.ifCond .ne 57, 3) := by decide +kernel
theorem dX9_read_63 : decode cX9_read 63 = .ok (.aload_n 2, 1) := by decide +kernel
theorem dX9_read_64 : decode cX9_read 64 = .ok (.getfield 147, 3) := by decide +kernel
theorem dX9_read_67 : decode cX9_read 67 = .ok (.iload 4, 2) := by decide +kernel
theorem dX9_read_69 : decode cX9_read 69 = .ok (.iaload, 1) := by decide +kernel
theorem dX9_read_70 : decode cX9_read 70 = .ok (.aload_n 2, 1) := by decide +kernel
theorem dX9_read_71 : decode cX9_read 71 = .ok (.getfield 147, 3) := by decide +kernel
theorem dX9_read_74 : decode cX9_read 74 = .ok (.iload 4, 2) := by decide +kernel
theorem dX9_read_76 : decode cX9_read 76 = .ok (.iconst 1, 1) := by decide +kernel
theorem dX9_read_77 : decode cX9_read 77 = .ok (.iadd, 1) := by decide +kernel
theorem dX9_read_78 : decode cX9_read 78 = .ok (.iaload, 1) := by decide +kernel
theorem dX9_read_79 : decode cX9_read 79 = .ok (.invokestatic 124, 3) := by decide +kernel
theorem dX9_read_82 : decode cX9_read 82 = .ok (.ifCond .ne 6, 3) := by decide +kernel
theorem dX9_read_85 : decode cX9_read 85 = .ok (.goto 32, 3) := by decide +kernel
theorem dX9_read_88 : decode cX9_read 88 = .ok (.aload_n 0, 1) := by decide +kernel
theorem dX9_read_89 : decode cX9_read 89 = .ok (.getfield 32, 3) := by decide +kernel
theorem dX9_read_92 : decode cX9_read 92 = .ok (.aload_n 2, 1) := by decide +kernel
theorem dX9_read_93 : decode cX9_read 93 = .ok (.getfield 147, 3) := by decide +kernel
theorem dX9_read_96 : decode cX9_read 96 = .ok (.iload 4, 2) := by decide +kernel
theorem dX9_read_98 : decode cX9_read 98 = .ok (.iaload, 1) := by decide +kernel
theorem dX9_read_99 : decode cX9_read 99 = .ok (.aload_n 2, 1) := by decide +kernel
theorem dX9_read_100 : decode cX9_read 100 = .ok (.getfield 147, 3) := by decide +kernel
theorem dX9_read_103 : decode cX9_read 103 = .ok (.iload 4, 2) := by decide +kernel
theorem dX9_read_105 : decode cX9_read 105 = .ok (.iconst 1, 1) := by decide +kernel
theorem dX9_read_106 : decode cX9_read 106 = .ok (.iadd, 1) := by decide +kernel
theorem dX9_read_107 : decode cX9_read 107 = .ok (.iaload, 1) := by decide +kernel
theorem dX9_read_108 : decode cX9_read 108 = .ok (.invokevirtual 128, 3) := by decide +kernel
theorem dX9_read_111 : decode cX9_read 111 = .ok (.iinc 4 2, 3) := by decide +kernel
theorem dX9_read_114 : decode cX9_read 114 = .ok (.goto (-72), 3) := by decide +kernel
theorem dX9_read_117 : decode cX9_read 117 = .ok (.aload_n 0, 1) := by decide +kernel
theorem dX9_read_118 : decode cX9_read 118 = .ok (.invokevirtual 131, 3) := by decide +kernel
theorem dX9_read_121 : decode cX9_read 121 = .ok (.aload_n 0, 1) := by decide +kernel
theorem dX9_read_122 : decode cX9_read 122 = .ok (.getfield 32, 3) := by decide +kernel
theorem dX9_read_125 : decode cX9_read 125 = .ok (.getfield 134, 3) := by decide +kernel
theorem dX9_read_128 : decode cX9_read 128 = .ok (.iload_n 3, 1) := by decide +kernel
theorem dX9_read_129 : decode cX9_read 129 = .ok (.isub, 1) := by decide +kernel
theorem dX9_read_130 : decode cX9_read 130 = .ok (.ireturn, 1) := by decide +kernel
theorem dX9_lifts_0 : decode cX9_lifts 0 = .ok (.aload_n 0, 1) := by decide +kernel
theorem dX9_lifts_1 : decode cX9_lifts 1 = .ok (.iload_n 1, 1) := by decide +kernel
theorem dX9_lifts_2 : decode cX9_lifts 2 = .ok (.invokevirtual 106, 3) := by decide +kernel
theorem dX9_lifts_5 : decode cX9_lifts 5 = .ok (.ifCond .eq 11, 3) := by decide +kernel
theorem dX9_lifts_8 : decode cX9_lifts 8 = .ok (.aload_n 0, 1) := by decide +kernel
theorem dX9_lifts_9 : decode cX9_lifts 9 = .ok (.iload_n 2, 1) := by decide +kernel
theorem dX9_lifts_10 : decode cX9_lifts 10 = .ok (.invokevirtual 114, 3) := by decide +kernel
theorem dX9_lifts_13 : decode cX9_lifts 13 = .ok (.ifCond .ne 6, 3) := by decide +kernel
theorem dX9_lifts_16 : decode cX9_lifts 16 = .ok (.bipush (-2), 2) := by decide +kernel
theorem dX9_lifts_18 : decode cX9_lifts 18 = .ok (.ireturn, 1) := by decide +kernel
theorem dX9_lifts_19 : decode cX9_lifts 19 = .ok (.aload_n 0, 1) := by decide +kernel
theorem dX9_lifts_20 : decode cX9_lifts 20 = .ok (.getfield 52, 3) := by decide +kernel
theorem dX9_lifts_23 : decode cX9_lifts 23 = .ok (.iload_n 1, 1) := by decide +kernel
theorem dX9_lifts_24 : decode cX9_lifts 24 = .ok (.iload_n 2, 1) := by decide +kernel
theorem dX9_lifts_25 : decode cX9_lifts 25 = .ok (.invokevirtual 150, 3) := by decide +kernel
theorem dX9_lifts_28 : decode cX9_lifts 28 = .ok (.ifCond .eq 7, 3) := by decide +kernel
theorem dX9_lifts_31 : decode cX9_lifts 31 = .ok (.iconst 1, 1) := by decide +kernel
theorem dX9_lifts_32 : decode cX9_lifts 32 = .ok (.goto 4, 3) := by decide +kernel
theorem dX9_lifts_35 : decode cX9_lifts 35 = .ok (.iconst 0, 1) := by decide +kernel
theorem dX9_lifts_36 : decode cX9_lifts 36 = .ok (.ireturn, 1) := by decide +kernel
theorem dX9_at_0 : decode cX9_at 0 = .ok (.iload_n 1, 1) := by decide +kernel
theorem dX9_at_1 : decode cX9_at 1 = .ok (.bipush 100, 2) := by decide +kernel
theorem dX9_at_3 : decode cX9_at 3 = .ok (.invokestatic 84, 3) := by decide +kernel
theorem dX9_at_6 : decode cX9_at 6 = .ok (.ifCond .eq 11, 3) := by decide +kernel
theorem dX9_at_9 : decode cX9_at 9 = .ok (.aload_n 0, 1) := by decide +kernel
theorem dX9_at_10 : decode cX9_at 10 = .ok (.iload_n 2, 1) := by decide +kernel
theorem dX9_at_11 : decode cX9_at 11 = .ok (.invokevirtual 114, 3) := by decide +kernel
theorem dX9_at_14 : decode cX9_at 14 = .ok (.ifCond .ne 6, 3) := by decide +kernel
theorem dX9_at_17 : decode cX9_at 17 = .ok (.bipush (-2), 2) := by decide +kernel
theorem dX9_at_19 : decode cX9_at 19 = .ok (.ireturn, 1) := by decide +kernel
theorem dX9_at_20 : decode cX9_at 20 = .ok (.aload_n 0, 1) := by decide +kernel
theorem dX9_at_21 : decode cX9_at 21 = .ok (.getfield 52, 3) := by decide +kernel
theorem dX9_at_24 : decode cX9_at 24 = .ok (.iload_n 1, 1) := by decide +kernel
theorem dX9_at_25 : decode cX9_at 25 = .ok (.iload_n 2, 1) := by decide +kernel
theorem dX9_at_26 : decode cX9_at 26 = .ok (.invokevirtual 153, 3) := by decide +kernel
theorem dX9_at_29 : decode cX9_at 29 = .ok (.ireturn, 1) := by decide +kernel
theorem dX9_passes_0 : decode cX9_passes 0 = .ok (.aload_n 0, 1) := by decide +kernel
theorem dX9_passes_1 : decode cX9_passes 1 = .ok (.iload_n 1, 1) := by decide +kernel
theorem dX9_passes_2 : decode cX9_passes 2 = .ok (.invokevirtual 106, 3) := by decide +kernel
theorem dX9_passes_5 : decode cX9_passes 5 = .ok (.ifCond .eq 19, 3) := by decide +kernel
theorem dX9_passes_8 : decode cX9_passes 8 = .ok (.aload_n 0, 1) := by decide +kernel
theorem dX9_passes_9 : decode cX9_passes 9 = .ok (.iload_n 2, 1) := by decide +kernel
theorem dX9_passes_10 : decode cX9_passes 10 = .ok (.invokevirtual 114, 3) := by decide +kernel
theorem dX9_passes_13 : decode cX9_passes 13 = .ok (.ifCond .eq 11, 3) := by decide +kernel
theorem dX9_passes_16 : decode cX9_passes 16 = .ok (.iload_n 3, 1) := by decide +kernel
theorem dX9_passes_17 : decode cX9_passes 17 = .ok (.iconst 2, 1) := by decide +kernel
theorem dX9_passes_18 : decode cX9_passes 18 = .ok (.invokestatic 84, 3) := by decide +kernel
theorem dX9_passes_21 : decode cX9_passes 21 = .ok (.ifCond .ne 6, 3) := by decide +kernel
theorem dX9_passes_24 : decode cX9_passes 24 = .ok (.bipush (-2), 2) := by decide +kernel
theorem dX9_passes_26 : decode cX9_passes 26 = .ok (.ireturn, 1) := by decide +kernel
theorem dX9_passes_27 : decode cX9_passes 27 = .ok (.iload_n 3, 1) := by decide +kernel
theorem dX9_passes_28 : decode cX9_passes 28 = .ok (.iconst 1, 1) := by decide +kernel
theorem dX9_passes_29 : decode cX9_passes 29 = .ok (.if_icmp .ne 21, 3) := by decide +kernel
theorem dX9_passes_32 : decode cX9_passes 32 = .ok (.aload_n 0, 1) := by decide +kernel
theorem dX9_passes_33 : decode cX9_passes 33 = .ok (.getfield 52, 3) := by decide +kernel
theorem dX9_passes_36 : decode cX9_passes 36 = .ok (.iload_n 1, 1) := by decide +kernel
theorem dX9_passes_37 : decode cX9_passes 37 = .ok (.iload_n 2, 1) := by decide +kernel
theorem dX9_passes_38 : decode cX9_passes 38 = .ok (.invokevirtual 156, 3) := by decide +kernel
theorem dX9_passes_41 : decode cX9_passes 41 = .ok (.ifCond .eq 7, 3) := by decide +kernel
theorem dX9_passes_44 : decode cX9_passes 44 = .ok (.iconst 1, 1) := by decide +kernel
theorem dX9_passes_45 : decode cX9_passes 45 = .ok (.goto 4, 3) := by decide +kernel
theorem dX9_passes_48 : decode cX9_passes 48 = .ok (.iconst 0, 1) := by decide +kernel
theorem dX9_passes_49 : decode cX9_passes 49 = .ok (.ireturn, 1) := by decide +kernel
theorem dX9_passes_50 : decode cX9_passes 50 = .ok (.aload_n 0, 1) := by decide +kernel
theorem dX9_passes_51 : decode cX9_passes 51 = .ok (.getfield 52, 3) := by decide +kernel
theorem dX9_passes_54 : decode cX9_passes 54 = .ok (.iload_n 1, 1) := by decide +kernel
theorem dX9_passes_55 : decode cX9_passes 55 = .ok (.iload_n 2, 1) := by decide +kernel
theorem dX9_passes_56 : decode cX9_passes 56 = .ok (.invokevirtual 159, 3) := by decide +kernel
theorem dX9_passes_59 : decode cX9_passes 59 = .ok (.istore 4, 2) := by decide +kernel
theorem dX9_passes_61 : decode cX9_passes 61 = .ok (.iload 4, 2) := by decide +kernel
theorem dX9_passes_63 : decode cX9_passes 63 = .ok (.bipush 100, 2) := by decide +kernel
theorem dX9_passes_65 : decode cX9_passes 65 = .ok (.if_icmp .ne 7, 3) := by decide +kernel
theorem dX9_passes_68 : decode cX9_passes 68 = .ok (.iconst (-1), 1) := by decide +kernel
theorem dX9_passes_69 : decode cX9_passes 69 = .ok (.goto 5, 3) := by decide +kernel
theorem dX9_passes_72 : decode cX9_passes 72 = .ok (.iload 4, 2) := by decide +kernel
theorem dX9_passes_74 : decode cX9_passes 74 = .ok (.ireturn, 1) := by decide +kernel
theorem dX9_waits_0 : decode cX9_waits 0 = .ok (.aload_n 0, 1) := by decide +kernel
theorem dX9_waits_1 : decode cX9_waits 1 = .ok (.iload_n 1, 1) := by decide +kernel
theorem dX9_waits_2 : decode cX9_waits 2 = .ok (.invokevirtual 114, 3) := by decide +kernel
theorem dX9_waits_5 : decode cX9_waits 5 = .ok (.ifCond .ne 6, 3) := by decide +kernel
theorem dX9_waits_8 : decode cX9_waits 8 = .ok (.bipush (-2), 2) := by decide +kernel
theorem dX9_waits_10 : decode cX9_waits 10 = .ok (.ireturn, 1) := by decide +kernel
theorem dX9_waits_11 : decode cX9_waits 11 = .ok (.aload_n 0, 1) := by decide +kernel
theorem dX9_waits_12 : decode cX9_waits 12 = .ok (.getfield 52, 3) := by decide +kernel
theorem dX9_waits_15 : decode cX9_waits 15 = .ok (.iload_n 1, 1) := by decide +kernel
theorem dX9_waits_16 : decode cX9_waits 16 = .ok (.invokevirtual 162, 3) := by decide +kernel
theorem dX9_waits_19 : decode cX9_waits 19 = .ok (.ireturn, 1) := by decide +kernel
theorem dX9_through_0 : decode cX9_through 0 = .ok (.iload_n 1, 1) := by decide +kernel
theorem dX9_through_1 : decode cX9_through 1 = .ok (.bipush 100, 2) := by decide +kernel
theorem dX9_through_3 : decode cX9_through 3 = .ok (.invokestatic 84, 3) := by decide +kernel
theorem dX9_through_6 : decode cX9_through 6 = .ok (.ifCond .ne 6, 3) := by decide +kernel
theorem dX9_through_9 : decode cX9_through 9 = .ok (.bipush (-2), 2) := by decide +kernel
theorem dX9_through_11 : decode cX9_through 11 = .ok (.ireturn, 1) := by decide +kernel
theorem dX9_through_12 : decode cX9_through 12 = .ok (.aload_n 0, 1) := by decide +kernel
theorem dX9_through_13 : decode cX9_through 13 = .ok (.getfield 52, 3) := by decide +kernel
theorem dX9_through_16 : decode cX9_through 16 = .ok (.iload_n 1, 1) := by decide +kernel
theorem dX9_through_17 : decode cX9_through 17 = .ok (.invokevirtual 165, 3) := by decide +kernel
theorem dX9_through_20 : decode cX9_through 20 = .ok (.ireturn, 1) := by decide +kernel
theorem dX9_first_0 : decode cX9_first 0 = .ok (.iload_n 1, 1) := by decide +kernel
theorem dX9_first_1 : decode cX9_first 1 = .ok (.iconst 2, 1) := by decide +kernel
theorem dX9_first_2 : decode cX9_first 2 = .ok (.invokestatic 84, 3) := by decide +kernel
theorem dX9_first_5 : decode cX9_first 5 = .ok (.ifCond .ne 6, 3) := by decide +kernel
theorem dX9_first_8 : decode cX9_first 8 = .ok (.bipush (-2), 2) := by decide +kernel
theorem dX9_first_10 : decode cX9_first 10 = .ok (.ireturn, 1) := by decide +kernel
theorem dX9_first_11 : decode cX9_first 11 = .ok (.bipush 100, 2) := by decide +kernel
theorem dX9_first_13 : decode cX9_first 13 = .ok (.istore_n 2, 1) := by decide +kernel
theorem dX9_first_14 : decode cX9_first 14 = .ok (.iconst (-1), 1) := by decide +kernel
theorem dX9_first_15 : decode cX9_first 15 = .ok (.istore_n 3, 1) := by decide +kernel
theorem dX9_first_16 : decode cX9_first 16 = .ok (.iconst 0, 1) := by decide +kernel
theorem dX9_first_17 : decode cX9_first 17 = .ok (.istore 4, 2) := by decide +kernel
theorem dX9_first_19 : decode cX9_first 19 = .ok (.iload 4, 2) := by decide +kernel
theorem dX9_first_21 : decode cX9_first 21 = .ok (.aload_n 0, 1) := by decide +kernel
theorem dX9_first_22 : decode cX9_first 22 = .ok (.getfield 25, 3) := by decide +kernel
theorem dX9_first_25 : decode cX9_first 25 = .ok (.getfield 168, 3) := by decide +kernel
theorem dX9_first_28 : decode cX9_first 28 = .ok (.if_icmp .ge 32, 3) := by decide +kernel
theorem dX9_first_31 : decode cX9_first 31 = .ok (.aload_n 0, 1) := by decide +kernel
theorem dX9_first_32 : decode cX9_first 32 = .ok (.getfield 52, 3) := by decide +kernel
theorem dX9_first_35 : decode cX9_first 35 = .ok (.iload 4, 2) := by decide +kernel
theorem dX9_first_37 : decode cX9_first 37 = .ok (.invokevirtual 169, 3) := by decide +kernel
theorem dX9_first_40 : decode cX9_first 40 = .ok (.istore 5, 2) := by decide +kernel
theorem dX9_first_42 : decode cX9_first 42 = .ok (.iload 5, 2) := by decide +kernel
theorem dX9_first_44 : decode cX9_first 44 = .ok (.iload_n 2, 1) := by decide +kernel
theorem dX9_first_45 : decode cX9_first 45 = .ok (.if_icmp .ge 9, 3) := by decide +kernel
theorem dX9_first_48 : decode cX9_first 48 = .ok (.iload 5, 2) := by decide +kernel
theorem dX9_first_50 : decode cX9_first 50 = .ok (.istore_n 2, 1) := by decide +kernel
theorem dX9_first_51 : decode cX9_first 51 = .ok (.iload 4, 2) := by decide +kernel
theorem dX9_first_53 : decode cX9_first 53 = .ok (.istore_n 3, 1) := by decide +kernel
theorem dX9_first_54 : decode cX9_first 54 = .ok (.iinc 4 1, 3) := by decide +kernel
theorem dX9_first_57 : decode cX9_first 57 = .ok (.goto (-38), 3) := by decide +kernel
theorem dX9_first_60 : decode cX9_first 60 = .ok (.iload_n 3, 1) := by decide +kernel
theorem dX9_first_61 : decode cX9_first 61 = .ok (.iconst (-1), 1) := by decide +kernel
theorem dX9_first_62 : decode cX9_first 62 = .ok (.if_icmp .ne 5, 3) := by decide +kernel
theorem dX9_first_65 : decode cX9_first 65 = .ok (.iconst (-1), 1) := by decide +kernel
theorem dX9_first_66 : decode cX9_first 66 = .ok (.ireturn, 1) := by decide +kernel
theorem dX9_first_67 : decode cX9_first 67 = .ok (.iload_n 1, 1) := by decide +kernel
theorem dX9_first_68 : decode cX9_first 68 = .ok (.ifCond .ne 7, 3) := by decide +kernel
theorem dX9_first_71 : decode cX9_first 71 = .ok (.iload_n 2, 1) := by decide +kernel
theorem dX9_first_72 : decode cX9_first 72 = .ok (.goto 4, 3) := by decide +kernel
theorem dX9_first_75 : decode cX9_first 75 = .ok (.iload_n 3, 1) := by decide +kernel
theorem dX9_first_76 : decode cX9_first 76 = .ok (.ireturn, 1) := by decide +kernel
theorem dX9_cargo_0 : decode cX9_cargo 0 = .ok (.aload_n 0, 1) := by decide +kernel
theorem dX9_cargo_1 : decode cX9_cargo 1 = .ok (.iload_n 1, 1) := by decide +kernel
theorem dX9_cargo_2 : decode cX9_cargo 2 = .ok (.invokevirtual 114, 3) := by decide +kernel
theorem dX9_cargo_5 : decode cX9_cargo 5 = .ok (.ifCond .eq 13, 3) := by decide +kernel
theorem dX9_cargo_8 : decode cX9_cargo 8 = .ok (.iload_n 2, 1) := by decide +kernel
theorem dX9_cargo_9 : decode cX9_cargo 9 = .ok (.iconst (-1), 1) := by decide +kernel
theorem dX9_cargo_10 : decode cX9_cargo 10 = .ok (.if_icmp .lt 8, 3) := by decide +kernel
theorem dX9_cargo_13 : decode cX9_cargo 13 = .ok (.iload_n 2, 1) := by decide +kernel
theorem dX9_cargo_14 : decode cX9_cargo 14 = .ok (.iconst 1, 1) := by decide +kernel
theorem dX9_cargo_15 : decode cX9_cargo 15 = .ok (.if_icmp .le 6, 3) := by decide +kernel
theorem dX9_cargo_18 : decode cX9_cargo 18 = .ok (.bipush (-2), 2) := by decide +kernel
theorem dX9_cargo_20 : decode cX9_cargo 20 = .ok (.ireturn, 1) := by decide +kernel
theorem dX9_cargo_21 : decode cX9_cargo 21 = .ok (.aload_n 0, 1) := by decide +kernel
theorem dX9_cargo_22 : decode cX9_cargo 22 = .ok (.iload_n 1, 1) := by decide +kernel
theorem dX9_cargo_23 : decode cX9_cargo 23 = .ok (.invokevirtual 172, 3) := by decide +kernel
theorem dX9_cargo_26 : decode cX9_cargo 26 = .ok (.aload_n 0, 1) := by decide +kernel
theorem dX9_cargo_27 : decode cX9_cargo 27 = .ok (.getfield 69, 3) := by decide +kernel
theorem dX9_cargo_30 : decode cX9_cargo 30 = .ok (.iload_n 2, 1) := by decide +kernel
theorem dX9_cargo_31 : decode cX9_cargo 31 = .ok (.invokevirtual 175, 3) := by decide +kernel
theorem dX9_cargo_34 : decode cX9_cargo 34 = .ok (.ireturn, 1) := by decide +kernel
theorem dX9_sail_0 : decode cX9_sail 0 = .ok (.aload_n 0, 1) := by decide +kernel
theorem dX9_sail_1 : decode cX9_sail 1 = .ok (.iload_n 1, 1) := by decide +kernel
theorem dX9_sail_2 : decode cX9_sail 2 = .ok (.invokevirtual 114, 3) := by decide +kernel
theorem dX9_sail_5 : decode cX9_sail 5 = .ok (.ifCond .eq 11, 3) := by decide +kernel
theorem dX9_sail_8 : decode cX9_sail 8 = .ok (.iload_n 2, 1) := by decide +kernel
theorem dX9_sail_9 : decode cX9_sail 9 = .ok (.iconst 2, 1) := by decide +kernel
theorem dX9_sail_10 : decode cX9_sail 10 = .ok (.invokestatic 84, 3) := by decide +kernel
theorem dX9_sail_13 : decode cX9_sail 13 = .ok (.ifCond .ne 6, 3) := by decide +kernel
theorem dX9_sail_16 : decode cX9_sail 16 = .ok (.bipush (-2), 2) := by decide +kernel
theorem dX9_sail_18 : decode cX9_sail 18 = .ok (.ireturn, 1) := by decide +kernel
theorem dX9_sail_19 : decode cX9_sail 19 = .ok (.aload_n 0, 1) := by decide +kernel
theorem dX9_sail_20 : decode cX9_sail 20 = .ok (.iload_n 1, 1) := by decide +kernel
theorem dX9_sail_21 : decode cX9_sail 21 = .ok (.invokevirtual 178, 3) := by decide +kernel
theorem dX9_sail_24 : decode cX9_sail 24 = .ok (.iload_n 2, 1) := by decide +kernel
theorem dX9_sail_25 : decode cX9_sail 25 = .ok (.ifCond .ne 13, 3) := by decide +kernel
theorem dX9_sail_28 : decode cX9_sail 28 = .ok (.aload_n 0, 1) := by decide +kernel
theorem dX9_sail_29 : decode cX9_sail 29 = .ok (.getfield 69, 3) := by decide +kernel
theorem dX9_sail_32 : decode cX9_sail 32 = .ok (.getfield 181, 3) := by decide +kernel
theorem dX9_sail_35 : decode cX9_sail 35 = .ok (.goto 10, 3) := by decide +kernel
theorem dX9_sail_38 : decode cX9_sail 38 = .ok (.aload_n 0, 1) := by decide +kernel
theorem dX9_sail_39 : decode cX9_sail 39 = .ok (.getfield 69, 3) := by decide +kernel
theorem dX9_sail_42 : decode cX9_sail 42 = .ok (.getfield 184, 3) := by decide +kernel
theorem dX9_sail_45 : decode cX9_sail 45 = .ok (.ireturn, 1) := by decide +kernel
theorem dX9_away_0 : decode cX9_away 0 = .ok (.iload_n 1, 1) := by decide +kernel
theorem dX9_away_1 : decode cX9_away 1 = .ok (.iconst 2, 1) := by decide +kernel
theorem dX9_away_2 : decode cX9_away 2 = .ok (.invokestatic 84, 3) := by decide +kernel
theorem dX9_away_5 : decode cX9_away 5 = .ok (.ifCond .ne 6, 3) := by decide +kernel
theorem dX9_away_8 : decode cX9_away 8 = .ok (.bipush (-2), 2) := by decide +kernel
theorem dX9_away_10 : decode cX9_away 10 = .ok (.ireturn, 1) := by decide +kernel
theorem dX9_away_11 : decode cX9_away 11 = .ok (.aload_n 0, 1) := by decide +kernel
theorem dX9_away_12 : decode cX9_away 12 = .ok (.invokevirtual 187, 3) := by decide +kernel
theorem dX9_away_15 : decode cX9_away 15 = .ok (.iload_n 1, 1) := by decide +kernel
theorem dX9_away_16 : decode cX9_away 16 = .ok (.ifCond .ne 13, 3) := by decide +kernel
theorem dX9_away_19 : decode cX9_away 19 = .ok (.aload_n 0, 1) := by decide +kernel
theorem dX9_away_20 : decode cX9_away 20 = .ok (.getfield 69, 3) := by decide +kernel
theorem dX9_away_23 : decode cX9_away 23 = .ok (.getfield 181, 3) := by decide +kernel
theorem dX9_away_26 : decode cX9_away 26 = .ok (.goto 10, 3) := by decide +kernel
theorem dX9_away_29 : decode cX9_away 29 = .ok (.aload_n 0, 1) := by decide +kernel
theorem dX9_away_30 : decode cX9_away 30 = .ok (.getfield 69, 3) := by decide +kernel
theorem dX9_away_33 : decode cX9_away 33 = .ok (.getfield 184, 3) := by decide +kernel
theorem dX9_away_36 : decode cX9_away 36 = .ok (.ireturn, 1) := by decide +kernel
theorem dX9_seen_0 : decode cX9_seen 0 = .ok (.iload_n 1, 1) := by decide +kernel
theorem dX9_seen_1 : decode cX9_seen 1 = .ok (.bipush 100, 2) := by decide +kernel
theorem dX9_seen_3 : decode cX9_seen 3 = .ok (.invokestatic 84, 3) := by decide +kernel
theorem dX9_seen_6 : decode cX9_seen 6 = .ok (.ifCond .eq 21, 3) := by decide +kernel
theorem dX9_seen_9 : decode cX9_seen 9 = .ok (.iload_n 2, 1) := by decide +kernel
theorem dX9_seen_10 : decode cX9_seen 10 = .ok (.bipush 8, 2) := by decide +kernel
theorem dX9_seen_12 : decode cX9_seen 12 = .ok (.invokestatic 84, 3) := by decide +kernel
theorem dX9_seen_15 : decode cX9_seen 15 = .ok (.ifCond .eq 12, 3) := by decide +kernel
theorem dX9_seen_18 : decode cX9_seen 18 = .ok (.iload_n 3, 1) := by decide +kernel
theorem dX9_seen_19 : decode cX9_seen 19 = .ok (.bipush 9, 2) := by decide +kernel
theorem dX9_seen_21 : decode cX9_seen 21 = .ok (.invokestatic 84, 3) := by decide +kernel
theorem dX9_seen_24 : decode cX9_seen 24 = .ok (.ifCond .ne 6, 3) := by decide +kernel
theorem dX9_seen_27 : decode cX9_seen 27 = .ok (.bipush (-2), 2) := by decide +kernel
theorem dX9_seen_29 : decode cX9_seen 29 = .ok (.ireturn, 1) := by decide +kernel
theorem dX9_seen_30 : decode cX9_seen 30 = .ok (.aload_n 0, 1) := by decide +kernel
theorem dX9_seen_31 : decode cX9_seen 31 = .ok (.getfield 39, 3) := by decide +kernel
theorem dX9_seen_34 : decode cX9_seen 34 = .ok (.invokevirtual 190, 3) := by decide +kernel
theorem dX9_seen_37 : decode cX9_seen 37 = .ok (.ifCond .eq 6, 3) := by decide +kernel
theorem dX9_seen_40 : decode cX9_seen 40 = .ok (.bipush (-4), 2) := by decide +kernel
theorem dX9_seen_42 : decode cX9_seen 42 = .ok (.ireturn, 1) := by decide +kernel
theorem dX9_seen_43 : decode cX9_seen 43 = .ok (.aload_n 0, 1) := by decide +kernel
theorem dX9_seen_44 : decode cX9_seen 44 = .ok (.getfield 39, 3) := by decide +kernel
theorem dX9_seen_47 : decode cX9_seen 47 = .ok (.iload_n 1, 1) := by decide +kernel
theorem dX9_seen_48 : decode cX9_seen 48 = .ok (.iload_n 2, 1) := by decide +kernel
theorem dX9_seen_49 : decode cX9_seen 49 = .ok (.iload_n 3, 1) := by decide +kernel
theorem dX9_seen_50 : decode cX9_seen 50 = .ok (.invokevirtual 191, 3) := by decide +kernel
theorem dX9_seen_53 : decode cX9_seen 53 = .ok (.aload_n 0, 1) := by decide +kernel
theorem dX9_seen_54 : decode cX9_seen 54 = .ok (.getfield 39, 3) := by decide +kernel
theorem dX9_seen_57 : decode cX9_seen 57 = .ok (.getfield 194, 3) := by decide +kernel
theorem dX9_seen_60 : decode cX9_seen 60 = .ok (.ireturn, 1) := by decide +kernel
theorem dX9_forget_0 : decode cX9_forget 0 = .ok (.aload_n 0, 1) := by decide +kernel
theorem dX9_forget_1 : decode cX9_forget 1 = .ok (.getfield 39, 3) := by decide +kernel
theorem dX9_forget_4 : decode cX9_forget 4 = .ok (.getfield 194, 3) := by decide +kernel
theorem dX9_forget_7 : decode cX9_forget 7 = .ok (.istore_n 1, 1) := by decide +kernel
theorem dX9_forget_8 : decode cX9_forget 8 = .ok (.aload_n 0, 1) := by decide +kernel
theorem dX9_forget_9 : decode cX9_forget 9 = .ok (.getfield 39, 3) := by decide +kernel
theorem dX9_forget_12 : decode cX9_forget 12 = .ok (.iconst 0, 1) := by decide +kernel
theorem dX9_forget_13 : decode cX9_forget 13 = .ok (.putfield 194, 3) := by decide +kernel
theorem dX9_forget_16 : decode cX9_forget 16 = .ok (.iload_n 1, 1) := by decide +kernel
theorem dX9_forget_17 : decode cX9_forget 17 = .ok (.ireturn, 1) := by decide +kernel
theorem dX9_liked_0 : decode cX9_liked 0 = .ok (.aload_n 0, 1) := by decide +kernel
theorem dX9_liked_1 : decode cX9_liked 1 = .ok (.iload_n 1, 1) := by decide +kernel
theorem dX9_liked_2 : decode cX9_liked 2 = .ok (.invokevirtual 106, 3) := by decide +kernel
theorem dX9_liked_5 : decode cX9_liked 5 = .ok (.ifCond .eq 11, 3) := by decide +kernel
theorem dX9_liked_8 : decode cX9_liked 8 = .ok (.iload_n 2, 1) := by decide +kernel
theorem dX9_liked_9 : decode cX9_liked 9 = .ok (.iconst 2, 1) := by decide +kernel
theorem dX9_liked_10 : decode cX9_liked 10 = .ok (.invokestatic 84, 3) := by decide +kernel
theorem dX9_liked_13 : decode cX9_liked 13 = .ok (.ifCond .ne 6, 3) := by decide +kernel
theorem dX9_liked_16 : decode cX9_liked 16 = .ok (.bipush (-2), 2) := by decide +kernel
theorem dX9_liked_18 : decode cX9_liked 18 = .ok (.ireturn, 1) := by decide +kernel
theorem dX9_liked_19 : decode cX9_liked 19 = .ok (.iload_n 2, 1) := by decide +kernel
theorem dX9_liked_20 : decode cX9_liked 20 = .ok (.ifCond .ne 11, 3) := by decide +kernel
theorem dX9_liked_23 : decode cX9_liked 23 = .ok (.aload_n 0, 1) := by decide +kernel
theorem dX9_liked_24 : decode cX9_liked 24 = .ok (.iload_n 1, 1) := by decide +kernel
theorem dX9_liked_25 : decode cX9_liked 25 = .ok (.invokevirtual 195, 3) := by decide +kernel
theorem dX9_liked_28 : decode cX9_liked 28 = .ok (.goto 8, 3) := by decide +kernel
theorem dX9_liked_31 : decode cX9_liked 31 = .ok (.aload_n 0, 1) := by decide +kernel
theorem dX9_liked_32 : decode cX9_liked 32 = .ok (.iload_n 1, 1) := by decide +kernel
theorem dX9_liked_33 : decode cX9_liked 33 = .ok (.invokevirtual 198, 3) := by decide +kernel
theorem dX9_liked_36 : decode cX9_liked 36 = .ok (.ireturn, 1) := by decide +kernel
theorem dX9_under_0 : decode cX9_under 0 = .ok (.aload_n 0, 1) := by decide +kernel
theorem dX9_under_1 : decode cX9_under 1 = .ok (.iload_n 1, 1) := by decide +kernel
theorem dX9_under_2 : decode cX9_under 2 = .ok (.invokevirtual 114, 3) := by decide +kernel
theorem dX9_under_5 : decode cX9_under 5 = .ok (.ifCond .ne 6, 3) := by decide +kernel
theorem dX9_under_8 : decode cX9_under 8 = .ok (.bipush (-2), 2) := by decide +kernel
theorem dX9_under_10 : decode cX9_under 10 = .ok (.ireturn, 1) := by decide +kernel
theorem dX9_under_11 : decode cX9_under 11 = .ok (.aload_n 0, 1) := by decide +kernel
theorem dX9_under_12 : decode cX9_under 12 = .ok (.getfield 39, 3) := by decide +kernel
theorem dX9_under_15 : decode cX9_under 15 = .ok (.aload_n 0, 1) := by decide +kernel
theorem dX9_under_16 : decode cX9_under 16 = .ok (.getfield 52, 3) := by decide +kernel
theorem dX9_under_19 : decode cX9_under 19 = .ok (.invokevirtual 201, 3) := by decide +kernel
theorem dX9_under_22 : decode cX9_under 22 = .ok (.ifCond .eq 8, 3) := by decide +kernel
theorem dX9_under_25 : decode cX9_under 25 = .ok (.bipush 64, 2) := by decide +kernel
theorem dX9_under_27 : decode cX9_under 27 = .ok (.goto 4, 3) := by decide +kernel
theorem dX9_under_30 : decode cX9_under 30 = .ok (.iconst 0, 1) := by decide +kernel
theorem dX9_under_31 : decode cX9_under 31 = .ok (.istore_n 2, 1) := by decide +kernel
theorem dX9_under_32 : decode cX9_under 32 = .ok (.aload_n 0, 1) := by decide +kernel
theorem dX9_under_33 : decode cX9_under 33 = .ok (.iload_n 1, 1) := by decide +kernel
theorem dX9_under_34 : decode cX9_under 34 = .ok (.invokevirtual 205, 3) := by decide +kernel
theorem dX9_under_37 : decode cX9_under 37 = .ok (.iconst 0, 1) := by decide +kernel
theorem dX9_under_38 : decode cX9_under 38 = .ok (.istore_n 3, 1) := by decide +kernel
theorem dX9_under_39 : decode cX9_under 39 = .ok (.iload_n 3, 1) := by decide +kernel
theorem dX9_under_40 : decode cX9_under 40 = .ok (.bipush 6, 2) := by decide +kernel
theorem dX9_under_42 : decode cX9_under 42 = .ok (.if_icmp .ge 54, 3) := by decide +kernel
theorem dX9_under_45 : decode cX9_under 45 = .ok (.aload_n 0, 1) := by decide +kernel
theorem dX9_under_46 : decode cX9_under 46 = .ok (.getfield 73, 3) := by decide +kernel
theorem dX9_under_49 : decode cX9_under 49 = .ok (.iload_n 3, 1) := by decide +kernel
theorem dX9_under_50 : decode cX9_under 50 = .ok (.dup2, 1) := by decide +kernel
theorem dX9_under_51 : decode cX9_under 51 = .ok (.iaload, 1) := by decide +kernel
theorem dX9_under_52 : decode cX9_under 52 = .ok (.iconst 1, 1) := by decide +kernel
theorem dX9_under_53 : decode cX9_under 53 = .ok (.iadd, 1) := by decide +kernel
theorem dX9_under_54 : decode cX9_under 54 = .ok (.iastore, 1) := by decide +kernel
theorem dX9_under_55 : decode cX9_under 55 = .ok (.aload_n 0, 1) := by decide +kernel
theorem dX9_under_56 : decode cX9_under 56 = .ok (.iload_n 1, 1) := by decide +kernel
theorem dX9_under_57 : decode cX9_under 57 = .ok (.invokevirtual 208, 3) := by decide +kernel
theorem dX9_under_60 : decode cX9_under 60 = .ok (.aload_n 0, 1) := by decide +kernel
theorem dX9_under_61 : decode cX9_under 61 = .ok (.getfield 73, 3) := by decide +kernel
theorem dX9_under_64 : decode cX9_under 64 = .ok (.iload_n 3, 1) := by decide +kernel
theorem dX9_under_65 : decode cX9_under 65 = .ok (.dup2, 1) := by decide +kernel
theorem dX9_under_66 : decode cX9_under 66 = .ok (.iaload, 1) := by decide +kernel
theorem dX9_under_67 : decode cX9_under 67 = .ok (.iconst 1, 1) := by decide +kernel
theorem dX9_under_68 : decode cX9_under 68 = .ok (.isub, 1) := by decide +kernel
theorem dX9_under_69 : decode cX9_under 69 = .ok (.iastore, 1) := by decide +kernel
theorem dX9_under_70 : decode cX9_under 70 = .ok (.aload_n 0, 1) := by decide +kernel
theorem dX9_under_71 : decode cX9_under 71 = .ok (.getfield 39, 3) := by decide +kernel
theorem dX9_under_74 : decode cX9_under 74 = .ok (.aload_n 0, 1) := by decide +kernel
theorem dX9_under_75 : decode cX9_under 75 = .ok (.getfield 56, 3) := by decide +kernel
theorem dX9_under_78 : decode cX9_under 78 = .ok (.invokevirtual 201, 3) := by decide +kernel
theorem dX9_under_81 : decode cX9_under 81 = .ok (.ifCond .eq 9, 3) := by decide +kernel
theorem dX9_under_84 : decode cX9_under 84 = .ok (.iload_n 2, 1) := by decide +kernel
theorem dX9_under_85 : decode cX9_under 85 = .ok (.iconst 1, 1) := by decide +kernel
theorem dX9_under_86 : decode cX9_under 86 = .ok (.iload_n 3, 1) := by decide +kernel
theorem dX9_under_87 : decode cX9_under 87 = .ok (.ishl, 1) := by decide +kernel
theorem dX9_under_88 : decode cX9_under 88 = .ok (.ior, 1) := by decide +kernel
theorem dX9_under_89 : decode cX9_under 89 = .ok (.istore_n 2, 1) := by decide +kernel
theorem dX9_under_90 : decode cX9_under 90 = .ok (.iinc 3 1, 3) := by decide +kernel
theorem dX9_under_93 : decode cX9_under 93 = .ok (.goto (-54), 3) := by decide +kernel
theorem dX9_under_96 : decode cX9_under 96 = .ok (.iload_n 2, 1) := by decide +kernel
theorem dX9_under_97 : decode cX9_under 97 = .ok (.ireturn, 1) := by decide +kernel
theorem dX9_ask_0 : decode cX9_ask 0 = .ok (.aload_n 0, 1) := by decide +kernel
theorem dX9_ask_1 : decode cX9_ask 1 = .ok (.iload_n 1, 1) := by decide +kernel
theorem dX9_ask_2 : decode cX9_ask 2 = .ok (.invokevirtual 106, 3) := by decide +kernel
theorem dX9_ask_5 : decode cX9_ask 5 = .ok (.ifCond .eq 12, 3) := by decide +kernel
theorem dX9_ask_8 : decode cX9_ask 8 = .ok (.iload_n 2, 1) := by decide +kernel
theorem dX9_ask_9 : decode cX9_ask 9 = .ok (.bipush 100, 2) := by decide +kernel
theorem dX9_ask_11 : decode cX9_ask 11 = .ok (.invokestatic 84, 3) := by decide +kernel
theorem dX9_ask_14 : decode cX9_ask 14 = .ok (.ifCond .ne 6, 3) := by decide +kernel
theorem dX9_ask_17 : decode cX9_ask 17 = .ok (.bipush (-2), 2) := by decide +kernel
theorem dX9_ask_19 : decode cX9_ask 19 = .ok (.ireturn, 1) := by decide +kernel
theorem dX9_ask_20 : decode cX9_ask 20 = .ok (.aload_n 0, 1) := by decide +kernel
theorem dX9_ask_21 : decode cX9_ask 21 = .ok (.getfield 77, 3) := by decide +kernel
theorem dX9_ask_24 : decode cX9_ask 24 = .ok (.iconst 0, 1) := by decide +kernel
theorem dX9_ask_25 : decode cX9_ask 25 = .ok (.invokestatic 211, 3) := by decide +kernel
theorem dX9_ask_28 : decode cX9_ask 28 = .ok (.iconst 0, 1) := by decide +kernel
theorem dX9_ask_29 : decode cX9_ask 29 = .ok (.istore_n 3, 1) := by decide +kernel
theorem dX9_ask_30 : decode cX9_ask 30 = .ok (.iload_n 3, 1) := by decide +kernel
theorem dX9_ask_31 : decode cX9_ask 31 = .ok (.bipush 6, 2) := by decide +kernel
theorem dX9_ask_33 : decode cX9_ask 33 = .ok (.if_icmp .ge 32, 3) := by decide +kernel
theorem dX9_ask_36 : decode cX9_ask 36 = .ok (.aload_n 0, 1) := by decide +kernel
theorem dX9_ask_37 : decode cX9_ask 37 = .ok (.iload_n 1, 1) := by decide +kernel
theorem dX9_ask_38 : decode cX9_ask 38 = .ok (.iload_n 3, 1) := by decide +kernel
theorem dX9_ask_39 : decode cX9_ask 39 = .ok (.aload_n 0, 1) := by decide +kernel
theorem dX9_ask_40 : decode cX9_ask 40 = .ok (.getfield 18, 3) := by decide +kernel
theorem dX9_ask_43 : decode cX9_ask 43 = .ok (.getfield 217, 3) := by decide +kernel
theorem dX9_ask_46 : decode cX9_ask 46 = .ok (.iload_n 1, 1) := by decide +kernel
theorem dX9_ask_47 : decode cX9_ask 47 = .ok (.iaload, 1) := by decide +kernel
theorem dX9_ask_48 : decode cX9_ask 48 = .ok (.invokevirtual 220, 3) := by decide +kernel
theorem dX9_ask_51 : decode cX9_ask 51 = .ok (.ifCond .eq 8, 3) := by decide +kernel
theorem dX9_ask_54 : decode cX9_ask 54 = .ok (.aload_n 0, 1) := by decide +kernel
theorem dX9_ask_55 : decode cX9_ask 55 = .ok (.iload_n 2, 1) := by decide +kernel
theorem dX9_ask_56 : decode cX9_ask 56 = .ok (.invokevirtual 224, 3) := by decide +kernel
theorem dX9_ask_59 : decode cX9_ask 59 = .ok (.iinc 3 1, 3) := by decide +kernel
theorem dX9_ask_62 : decode cX9_ask 62 = .ok (.goto (-32), 3) := by decide +kernel
theorem dX9_ask_65 : decode cX9_ask 65 = .ok (.iconst (-1), 1) := by decide +kernel
theorem dX9_ask_66 : decode cX9_ask 66 = .ok (.istore_n 3, 1) := by decide +kernel
theorem dX9_ask_67 : decode cX9_ask 67 = .ok (.bipush 7, 2) := by decide +kernel
theorem dX9_ask_69 : decode cX9_ask 69 = .ok (.istore 4, 2) := by decide +kernel
theorem dX9_ask_71 : decode cX9_ask 71 = .ok (.iconst 0, 1) := by decide +kernel
theorem dX9_ask_72 : decode cX9_ask 72 = .ok (.istore 5, 2) := by decide +kernel
theorem dX9_ask_74 : decode cX9_ask 74 = .ok (.iload 5, 2) := by decide +kernel
theorem dX9_ask_76 : decode cX9_ask 76 = .ok (.aload_n 0, 1) := by decide +kernel
theorem dX9_ask_77 : decode cX9_ask 77 = .ok (.getfield 25, 3) := by decide +kernel
theorem dX9_ask_80 : decode cX9_ask 80 = .ok (.getfield 168, 3) := by decide +kernel
theorem dX9_ask_83 : decode cX9_ask 83 = .ok (.if_icmp .ge 31, 3) := by decide +kernel
theorem dX9_ask_86 : decode cX9_ask 86 = .ok (.aload_n 0, 1) := by decide +kernel
theorem dX9_ask_87 : decode cX9_ask 87 = .ok (.iload 5, 2) := by decide +kernel
theorem dX9_ask_89 : decode cX9_ask 89 = .ok (.invokevirtual 227, 3) := by decide +kernel
theorem dX9_ask_92 : decode cX9_ask 92 = .ok (.istore 6, 2) := by decide +kernel
theorem dX9_ask_94 : decode cX9_ask 94 = .ok (.iload 6, 2) := by decide +kernel
theorem dX9_ask_96 : decode cX9_ask 96 = .ok (.iload 4, 2) := by decide +kernel
theorem dX9_ask_98 : decode cX9_ask 98 = .ok (.if_icmp .ge 10, 3) := by decide +kernel
theorem dX9_ask_101 : decode cX9_ask 101 = .ok (.iload 6, 2) := by decide +kernel
theorem dX9_ask_103 : decode cX9_ask 103 = .ok (.istore 4, 2) := by decide +kernel
theorem dX9_ask_105 : decode cX9_ask 105 = .ok (.iload 5, 2) := by decide +kernel
theorem dX9_ask_107 : decode cX9_ask 107 = .ok (.istore_n 3, 1) := by decide +kernel
theorem dX9_ask_108 : decode cX9_ask 108 = .ok (.iinc 5 1, 3) := by decide +kernel
theorem dX9_ask_111 : decode cX9_ask 111 = .ok (.goto (-37), 3) := by decide +kernel
theorem dX9_ask_114 : decode cX9_ask 114 = .ok (.iload_n 3, 1) := by decide +kernel
theorem dX9_ask_115 : decode cX9_ask 115 = .ok (.ireturn, 1) := by decide +kernel
theorem dX9_believed_0 : decode cX9_believed 0 = .ok (.iload_n 1, 1) := by decide +kernel
theorem dX9_believed_1 : decode cX9_believed 1 = .ok (.bipush 17, 2) := by decide +kernel
theorem dX9_believed_3 : decode cX9_believed 3 = .ok (.invokestatic 84, 3) := by decide +kernel
theorem dX9_believed_6 : decode cX9_believed 6 = .ok (.ifCond .eq 29, 3) := by decide +kernel
theorem dX9_believed_9 : decode cX9_believed 9 = .ok (.aload_n 0, 1) := by decide +kernel
theorem dX9_believed_10 : decode cX9_believed 10 = .ok (.iload_n 2, 1) := by decide +kernel
theorem dX9_believed_11 : decode cX9_believed 11 = .ok (.invokevirtual 114, 3) := by decide +kernel
theorem dX9_believed_14 : decode cX9_believed 14 = .ok (.ifCond .eq 21, 3) := by decide +kernel
theorem dX9_believed_17 : decode cX9_believed 17 = .ok (.iload_n 3, 1) := by decide +kernel
theorem dX9_believed_18 : decode cX9_believed 18 = .ok (.bipush 100, 2) := by decide +kernel
theorem dX9_believed_20 : decode cX9_believed 20 = .ok (.invokestatic 84, 3) := by decide +kernel
theorem dX9_believed_23 : decode cX9_believed 23 = .ok (.ifCond .eq 12, 3) := by decide +kernel
theorem dX9_believed_26 : decode cX9_believed 26 = .ok (.iload 4, 2) := by decide +kernel
theorem dX9_believed_28 : decode cX9_believed 28 = .ok (.iconst 2, 1) := by decide +kernel
theorem dX9_believed_29 : decode cX9_believed 29 = .ok (.invokestatic 84, 3) := by decide +kernel
theorem dX9_believed_32 : decode cX9_believed 32 = .ok (.ifCond .ne 7, 3) := by decide +kernel
theorem dX9_believed_35 : decode cX9_believed 35 = .ok (.ldc2_w 230, 3) := by decide +kernel
theorem dX9_believed_38 : decode cX9_believed 38 = .ok (.lreturn, 1) := by decide +kernel
theorem dX9_believed_39 : decode cX9_believed 39 = .ok (.aload_n 0, 1) := by decide +kernel
theorem dX9_believed_40 : decode cX9_believed 40 = .ok (.invokevirtual 232, 3) := by decide +kernel
theorem dX9_believed_43 : decode cX9_believed 43 = .ok (.aload_n 0, 1) := by decide +kernel
theorem dX9_believed_44 : decode cX9_believed 44 = .ok (.getfield 62, 3) := by decide +kernel
theorem dX9_believed_47 : decode cX9_believed 47 = .ok (.iload_n 1, 1) := by decide +kernel
theorem dX9_believed_48 : decode cX9_believed 48 = .ok (.iload_n 2, 1) := by decide +kernel
theorem dX9_believed_49 : decode cX9_believed 49 = .ok (.iload_n 3, 1) := by decide +kernel
theorem dX9_believed_50 : decode cX9_believed 50 = .ok (.invokevirtual 235, 3) := by decide +kernel
theorem dX9_believed_53 : decode cX9_believed 53 = .ok (.lstore 5, 2) := by decide +kernel
theorem dX9_believed_55 : decode cX9_believed 55 = .ok (.aload_n 0, 1) := by decide +kernel
theorem dX9_believed_56 : decode cX9_believed 56 = .ok (.getfield 62, 3) := by decide +kernel
theorem dX9_believed_59 : decode cX9_believed 59 = .ok (.invokevirtual 239, 3) := by decide +kernel
theorem dX9_believed_62 : decode cX9_believed 62 = .ok (.lstore 7, 2) := by decide +kernel
theorem dX9_believed_64 : decode cX9_believed 64 = .ok (.lload 7, 2) := by decide +kernel
theorem dX9_believed_66 : decode cX9_believed 66 = .ok (.lconst 1, 1) := by decide +kernel
theorem dX9_believed_67 : decode cX9_believed 67 = .ok (.lcmp, 1) := by decide +kernel
theorem dX9_believed_68 : decode cX9_believed 68 = .ok (.ifCond .le 33, 3) := by decide +kernel
theorem dX9_believed_71 : decode cX9_believed 71 = .ok (.lload 5, 2) := by decide +kernel
theorem dX9_believed_73 : decode cX9_believed 73 = .ok (.ldc2_w 243, 3) := by decide +kernel
theorem dX9_believed_76 : decode cX9_believed 76 = .ok (.lrem, 1) := by decide +kernel
theorem dX9_believed_77 : decode cX9_believed 77 = .ok (.lconst 0, 1) := by decide +kernel
theorem dX9_believed_78 : decode cX9_believed 78 = .ok (.lcmp, 1) := by decide +kernel
theorem dX9_believed_79 : decode cX9_believed 79 = .ok (.ifCond .ne 22, 3) := by decide +kernel
theorem dX9_believed_82 : decode cX9_believed 82 = .ok (.lload 5, 2) := by decide +kernel
theorem dX9_believed_84 : decode cX9_believed 84 = .ok (.ldc2_w 243, 3) := by decide +kernel
theorem dX9_believed_87 : decode cX9_believed 87 = .ok (.ldiv, 1) := by decide +kernel
theorem dX9_believed_88 : decode cX9_believed 88 = .ok (.lstore 5, 2) := by decide +kernel
theorem dX9_believed_90 : decode cX9_believed 90 = .ok (.lload 7, 2) := by decide +kernel
theorem dX9_believed_92 : decode cX9_believed 92 = .ok (.ldc2_w 243, 3) := by decide +kernel
theorem dX9_believed_95 : decode cX9_believed 95 = .ok (.ldiv, 1) := by decide +kernel
theorem dX9_believed_96 : decode cX9_believed 96 = .ok (.lstore 7, 2) := by decide +kernel
theorem dX9_believed_98 : decode cX9_believed 98 = .ok (.goto (-34), 3) := by decide +kernel
theorem dX9_believed_101 : decode cX9_believed 101 = .ok (.iload 4, 2) := by decide +kernel
theorem dX9_believed_103 : decode cX9_believed 103 = .ok (.ifCond .ne 8, 3) := by decide +kernel
theorem dX9_believed_106 : decode cX9_believed 106 = .ok (.lload 5, 2) := by decide +kernel
theorem dX9_believed_108 : decode cX9_believed 108 = .ok (.goto 5, 3) := by decide +kernel
theorem dX9_believed_111 : decode cX9_believed 111 = .ok (.lload 7, 2) := by decide +kernel
theorem dX9_believed_113 : decode cX9_believed 113 = .ok (.lreturn, 1) := by decide +kernel
theorem dX9_loads_0 : decode cX9_loads 0 = .ok (.iload_n 2, 1) := by decide +kernel
theorem dX9_loads_1 : decode cX9_loads 1 = .ok (.bipush 7, 2) := by decide +kernel
theorem dX9_loads_3 : decode cX9_loads 3 = .ok (.invokestatic 84, 3) := by decide +kernel
theorem dX9_loads_6 : decode cX9_loads 6 = .ok (.ifCond .eq 20, 3) := by decide +kernel
theorem dX9_loads_9 : decode cX9_loads 9 = .ok (.aload_n 0, 1) := by decide +kernel
theorem dX9_loads_10 : decode cX9_loads 10 = .ok (.iload_n 3, 1) := by decide +kernel
theorem dX9_loads_11 : decode cX9_loads 11 = .ok (.invokevirtual 114, 3) := by decide +kernel
theorem dX9_loads_14 : decode cX9_loads 14 = .ok (.ifCond .eq 12, 3) := by decide +kernel
theorem dX9_loads_17 : decode cX9_loads 17 = .ok (.iload 4, 2) := by decide +kernel
theorem dX9_loads_19 : decode cX9_loads 19 = .ok (.iconst 2, 1) := by decide +kernel
theorem dX9_loads_20 : decode cX9_loads 20 = .ok (.invokestatic 84, 3) := by decide +kernel
theorem dX9_loads_23 : decode cX9_loads 23 = .ok (.ifCond .ne 6, 3) := by decide +kernel
theorem dX9_loads_26 : decode cX9_loads 26 = .ok (.bipush (-2), 2) := by decide +kernel
theorem dX9_loads_28 : decode cX9_loads 28 = .ok (.ireturn, 1) := by decide +kernel
theorem dX9_loads_29 : decode cX9_loads 29 = .ok (.aload_n 0, 1) := by decide +kernel
theorem dX9_loads_30 : decode cX9_loads 30 = .ok (.iload_n 1, 1) := by decide +kernel
theorem dX9_loads_31 : decode cX9_loads 31 = .ok (.iload_n 2, 1) := by decide +kernel
theorem dX9_loads_32 : decode cX9_loads 32 = .ok (.invokevirtual 245, 3) := by decide +kernel
theorem dX9_loads_35 : decode cX9_loads 35 = .ok (.aload_n 0, 1) := by decide +kernel
theorem dX9_loads_36 : decode cX9_loads 36 = .ok (.iload_n 3, 1) := by decide +kernel
theorem dX9_loads_37 : decode cX9_loads 37 = .ok (.invokevirtual 208, 3) := by decide +kernel
theorem dX9_loads_40 : decode cX9_loads 40 = .ok (.iload 4, 2) := by decide +kernel
theorem dX9_loads_42 : decode cX9_loads 42 = .ok (.ifCond .ne 16, 3) := by decide +kernel
theorem dX9_loads_45 : decode cX9_loads 45 = .ok (.aload_n 0, 1) := by decide +kernel
theorem dX9_loads_46 : decode cX9_loads 46 = .ok (.getfield 56, 3) := by decide +kernel
theorem dX9_loads_49 : decode cX9_loads 49 = .ok (.bipush 99, 2) := by decide +kernel
theorem dX9_loads_51 : decode cX9_loads 51 = .ok (.iload_n 3, 1) := by decide +kernel
theorem dX9_loads_52 : decode cX9_loads 52 = .ok (.invokevirtual 153, 3) := by decide +kernel
theorem dX9_loads_55 : decode cX9_loads 55 = .ok (.goto 11, 3) := by decide +kernel
theorem dX9_loads_58 : decode cX9_loads 58 = .ok (.aload_n 0, 1) := by decide +kernel
theorem dX9_loads_59 : decode cX9_loads 59 = .ok (.getfield 56, 3) := by decide +kernel
theorem dX9_loads_62 : decode cX9_loads 62 = .ok (.iload_n 3, 1) := by decide +kernel
theorem dX9_loads_63 : decode cX9_loads 63 = .ok (.invokevirtual 162, 3) := by decide +kernel
theorem dX9_loads_66 : decode cX9_loads 66 = .ok (.ireturn, 1) := by decide +kernel
theorem dX9_sheet_0 : decode cX9_sheet 0 = .ok (.iload_n 1, 1) := by decide +kernel
theorem dX9_sheet_1 : decode cX9_sheet 1 = .ok (.iconst 4, 1) := by decide +kernel
theorem dX9_sheet_2 : decode cX9_sheet 2 = .ok (.invokestatic 84, 3) := by decide +kernel
theorem dX9_sheet_5 : decode cX9_sheet 5 = .ok (.ifCond .eq 17, 3) := by decide +kernel
theorem dX9_sheet_8 : decode cX9_sheet 8 = .ok (.iload_n 2, 1) := by decide +kernel
theorem dX9_sheet_9 : decode cX9_sheet 9 = .ok (.iconst 3, 1) := by decide +kernel
theorem dX9_sheet_10 : decode cX9_sheet 10 = .ok (.invokestatic 84, 3) := by decide +kernel
theorem dX9_sheet_13 : decode cX9_sheet 13 = .ok (.ifCond .eq 9, 3) := by decide +kernel
theorem dX9_sheet_16 : decode cX9_sheet 16 = .ok (.iload_n 3, 1) := by decide +kernel
theorem dX9_sheet_17 : decode cX9_sheet 17 = .ok (.bipush 60, 2) := by decide +kernel
theorem dX9_sheet_19 : decode cX9_sheet 19 = .ok (.if_icmp .le 6, 3) := by decide +kernel
theorem dX9_sheet_22 : decode cX9_sheet 22 = .ok (.bipush (-2), 2) := by decide +kernel
theorem dX9_sheet_24 : decode cX9_sheet 24 = .ok (.ireturn, 1) := by decide +kernel
theorem dX9_sheet_25 : decode cX9_sheet 25 = .ok (.iload_n 3, 1) := by decide +kernel
theorem dX9_sheet_26 : decode cX9_sheet 26 = .ok (.ifCond .ge 9, 3) := by decide +kernel
theorem dX9_sheet_29 : decode cX9_sheet 29 = .ok (.aload_n 0, 1) := by decide +kernel
theorem dX9_sheet_30 : decode cX9_sheet 30 = .ok (.iconst 5, 1) := by decide +kernel
theorem dX9_sheet_31 : decode cX9_sheet 31 = .ok (.invokevirtual 142, 3) := by decide +kernel
theorem dX9_sheet_34 : decode cX9_sheet 34 = .ok (.ireturn, 1) := by decide +kernel
theorem dX9_sheet_35 : decode cX9_sheet 35 = .ok (.aload_n 0, 1) := by decide +kernel
theorem dX9_sheet_36 : decode cX9_sheet 36 = .ok (.getfield 45, 3) := by decide +kernel
theorem dX9_sheet_39 : decode cX9_sheet 39 = .ok (.iload_n 1, 1) := by decide +kernel
theorem dX9_sheet_40 : decode cX9_sheet 40 = .ok (.aaload, 1) := by decide +kernel
theorem dX9_sheet_41 : decode cX9_sheet 41 = .ok (.iload_n 2, 1) := by decide +kernel
theorem dX9_sheet_42 : decode cX9_sheet 42 = .ok (.iload_n 3, 1) := by decide +kernel
theorem dX9_sheet_43 : decode cX9_sheet 43 = .ok (.invokevirtual 248, 3) := by decide +kernel
theorem dX9_sheet_46 : decode cX9_sheet 46 = .ok (.iload_n 3, 1) := by decide +kernel
theorem dX9_sheet_47 : decode cX9_sheet 47 = .ok (.ireturn, 1) := by decide +kernel
theorem dX9_lose_0 : decode cX9_lose 0 = .ok (.iload_n 1, 1) := by decide +kernel
theorem dX9_lose_1 : decode cX9_lose 1 = .ok (.iconst 4, 1) := by decide +kernel
theorem dX9_lose_2 : decode cX9_lose 2 = .ok (.invokestatic 84, 3) := by decide +kernel
theorem dX9_lose_5 : decode cX9_lose 5 = .ok (.ifCond .ne 6, 3) := by decide +kernel
theorem dX9_lose_8 : decode cX9_lose 8 = .ok (.bipush (-2), 2) := by decide +kernel
theorem dX9_lose_10 : decode cX9_lose 10 = .ok (.ireturn, 1) := by decide +kernel
theorem dX9_lose_11 : decode cX9_lose 11 = .ok (.aload_n 0, 1) := by decide +kernel
theorem dX9_lose_12 : decode cX9_lose 12 = .ok (.getfield 45, 3) := by decide +kernel
theorem dX9_lose_15 : decode cX9_lose 15 = .ok (.iload_n 1, 1) := by decide +kernel
theorem dX9_lose_16 : decode cX9_lose 16 = .ok (.aaload, 1) := by decide +kernel
theorem dX9_lose_17 : decode cX9_lose 17 = .ok (.getfield 138, 3) := by decide +kernel
theorem dX9_lose_20 : decode cX9_lose 20 = .ok (.ifCond .eq 9, 3) := by decide +kernel
theorem dX9_lose_23 : decode cX9_lose 23 = .ok (.aload_n 0, 1) := by decide +kernel
theorem dX9_lose_24 : decode cX9_lose 24 = .ok (.iconst 1, 1) := by decide +kernel
theorem dX9_lose_25 : decode cX9_lose 25 = .ok (.invokevirtual 142, 3) := by decide +kernel
theorem dX9_lose_28 : decode cX9_lose 28 = .ok (.ireturn, 1) := by decide +kernel
theorem dX9_lose_29 : decode cX9_lose 29 = .ok (.aload_n 0, 1) := by decide +kernel
theorem dX9_lose_30 : decode cX9_lose 30 = .ok (.getfield 45, 3) := by decide +kernel
theorem dX9_lose_33 : decode cX9_lose 33 = .ok (.iload_n 1, 1) := by decide +kernel
theorem dX9_lose_34 : decode cX9_lose 34 = .ok (.aaload, 1) := by decide +kernel
theorem dX9_lose_35 : decode cX9_lose 35 = .ok (.iconst 1, 1) := by decide +kernel
theorem dX9_lose_36 : decode cX9_lose 36 = .ok (.putfield 138, 3) := by decide +kernel
theorem dX9_lose_39 : decode cX9_lose 39 = .ok (.aload_n 0, 1) := by decide +kernel
theorem dX9_lose_40 : decode cX9_lose 40 = .ok (.getfield 45, 3) := by decide +kernel
theorem dX9_lose_43 : decode cX9_lose 43 = .ok (.iload_n 1, 1) := by decide +kernel
theorem dX9_lose_44 : decode cX9_lose 44 = .ok (.aaload, 1) := by decide +kernel
theorem dX9_lose_45 : decode cX9_lose 45 = .ok (.getfield 146, 3) := by decide +kernel
theorem dX9_lose_48 : decode cX9_lose 48 = .ok (.ireturn, 1) := by decide +kernel
theorem dX9_lay_0 : decode cX9_lay 0 = .ok (.iload_n 1, 1) := by decide +kernel
theorem dX9_lay_1 : decode cX9_lay 1 = .ok (.iconst 4, 1) := by decide +kernel
theorem dX9_lay_2 : decode cX9_lay 2 = .ok (.invokestatic 84, 3) := by decide +kernel
theorem dX9_lay_5 : decode cX9_lay 5 = .ok (.ifCond .eq 11, 3) := by decide +kernel
theorem dX9_lay_8 : decode cX9_lay 8 = .ok (.iload_n 2, 1) := by decide +kernel
theorem dX9_lay_9 : decode cX9_lay 9 = .ok (.iconst 3, 1) := by decide +kernel
theorem dX9_lay_10 : decode cX9_lay 10 = .ok (.invokestatic 84, 3) := by decide +kernel
theorem dX9_lay_13 : decode cX9_lay 13 = .ok (.ifCond .ne 6, 3) := by decide +kernel
theorem dX9_lay_16 : decode cX9_lay 16 = .ok (.bipush (-2), 2) := by decide +kernel
theorem dX9_lay_18 : decode cX9_lay 18 = .ok (.ireturn, 1) := by decide +kernel
theorem dX9_lay_19 : decode cX9_lay 19 = .ok (.aload_n 0, 1) := by decide +kernel
theorem dX9_lay_20 : decode cX9_lay 20 = .ok (.getfield 45, 3) := by decide +kernel
theorem dX9_lay_23 : decode cX9_lay 23 = .ok (.iload_n 1, 1) := by decide +kernel
theorem dX9_lay_24 : decode cX9_lay 24 = .ok (.aaload, 1) := by decide +kernel
theorem dX9_lay_25 : decode cX9_lay 25 = .ok (.iload_n 2, 1) := by decide +kernel
theorem dX9_lay_26 : decode cX9_lay 26 = .ok (.iload_n 3, 1) := by decide +kernel
theorem dX9_lay_27 : decode cX9_lay 27 = .ok (.invokestatic 251, 3) := by decide +kernel
theorem dX9_lay_30 : decode cX9_lay 30 = .ok (.istore 5, 2) := by decide +kernel
theorem dX9_lay_32 : decode cX9_lay 32 = .ok (.iload 5, 2) := by decide +kernel
theorem dX9_lay_34 : decode cX9_lay 34 = .ok (.ifCond .eq 10, 3) := by decide +kernel
theorem dX9_lay_37 : decode cX9_lay 37 = .ok (.aload_n 0, 1) := by decide +kernel
theorem dX9_lay_38 : decode cX9_lay 38 = .ok (.iload 5, 2) := by decide +kernel
theorem dX9_lay_40 : decode cX9_lay 40 = .ok (.invokevirtual 142, 3) := by decide +kernel
theorem dX9_lay_43 : decode cX9_lay 43 = .ok (.ireturn, 1) := by decide +kernel
theorem dX9_lay_44 : decode cX9_lay 44 = .ok (.aload_n 0, 1) := by decide +kernel
theorem dX9_lay_45 : decode cX9_lay 45 = .ok (.getfield 45, 3) := by decide +kernel
theorem dX9_lay_48 : decode cX9_lay 48 = .ok (.iload_n 1, 1) := by decide +kernel
theorem dX9_lay_49 : decode cX9_lay 49 = .ok (.aaload, 1) := by decide +kernel
theorem dX9_lay_50 : decode cX9_lay 50 = .ok (.iload_n 3, 1) := by decide +kernel
theorem dX9_lay_51 : decode cX9_lay 51 = .ok (.iload 4, 2) := by decide +kernel
theorem dX9_lay_53 : decode cX9_lay 53 = .ok (.invokevirtual 255, 3) := by decide +kernel
theorem dX9_lay_56 : decode cX9_lay 56 = .ok (.iconst 1, 1) := by decide +kernel
theorem dX9_lay_57 : decode cX9_lay 57 = .ok (.ireturn, 1) := by decide +kernel
theorem dX9_get_0 : decode cX9_get 0 = .ok (.iload_n 1, 1) := by decide +kernel
theorem dX9_get_1 : decode cX9_get 1 = .ok (.iconst 4, 1) := by decide +kernel
theorem dX9_get_2 : decode cX9_get 2 = .ok (.invokestatic 84, 3) := by decide +kernel
theorem dX9_get_5 : decode cX9_get 5 = .ok (.ifCond .eq 11, 3) := by decide +kernel
theorem dX9_get_8 : decode cX9_get 8 = .ok (.iload_n 2, 1) := by decide +kernel
theorem dX9_get_9 : decode cX9_get 9 = .ok (.iconst 3, 1) := by decide +kernel
theorem dX9_get_10 : decode cX9_get 10 = .ok (.invokestatic 84, 3) := by decide +kernel
theorem dX9_get_13 : decode cX9_get 13 = .ok (.ifCond .ne 7, 3) := by decide +kernel
theorem dX9_get_16 : decode cX9_get 16 = .ok (.ldc_w 258, 3) := by decide +kernel
theorem dX9_get_19 : decode cX9_get 19 = .ok (.ireturn, 1) := by decide +kernel
theorem dX9_get_20 : decode cX9_get 20 = .ok (.aload_n 0, 1) := by decide +kernel
theorem dX9_get_21 : decode cX9_get 21 = .ok (.getfield 45, 3) := by decide +kernel
theorem dX9_get_24 : decode cX9_get 24 = .ok (.iload_n 1, 1) := by decide +kernel
theorem dX9_get_25 : decode cX9_get 25 = .ok (.aaload, 1) := by decide +kernel
theorem dX9_get_26 : decode cX9_get 26 = .ok (.iload_n 2, 1) := by decide +kernel
theorem dX9_get_27 : decode cX9_get 27 = .ok (.iload_n 3, 1) := by decide +kernel
theorem dX9_get_28 : decode cX9_get 28 = .ok (.invokestatic 251, 3) := by decide +kernel
theorem dX9_get_31 : decode cX9_get 31 = .ok (.istore 4, 2) := by decide +kernel
theorem dX9_get_33 : decode cX9_get 33 = .ok (.iload 4, 2) := by decide +kernel
theorem dX9_get_35 : decode cX9_get 35 = .ok (.ifCond .eq 13, 3) := by decide +kernel
theorem dX9_get_38 : decode cX9_get 38 = .ok (.aload_n 0, 1) := by decide +kernel
theorem dX9_get_39 : decode cX9_get 39 = .ok (.iload 4, 2) := by decide +kernel
theorem dX9_get_41 : decode cX9_get 41 = .ok (.putfield 259, 3) := by decide +kernel
theorem dX9_get_44 : decode cX9_get 44 = .ok (.ldc_w 258, 3) := by decide +kernel
theorem dX9_get_47 : decode cX9_get 47 = .ok (.ireturn, 1) := by decide +kernel
theorem dX9_get_48 : decode cX9_get 48 = .ok (.aload_n 0, 1) := by decide +kernel
theorem dX9_get_49 : decode cX9_get 49 = .ok (.getfield 45, 3) := by decide +kernel
theorem dX9_get_52 : decode cX9_get 52 = .ok (.iload_n 1, 1) := by decide +kernel
theorem dX9_get_53 : decode cX9_get 53 = .ok (.aaload, 1) := by decide +kernel
theorem dX9_get_54 : decode cX9_get 54 = .ok (.getfield 147, 3) := by decide +kernel
theorem dX9_get_57 : decode cX9_get 57 = .ok (.iload_n 3, 1) := by decide +kernel
theorem dX9_get_58 : decode cX9_get 58 = .ok (.iaload, 1) := by decide +kernel
theorem dX9_get_59 : decode cX9_get 59 = .ok (.ireturn, 1) := by decide +kernel
theorem dX9_copy_0 : decode cX9_copy 0 = .ok (.iload_n 1, 1) := by decide +kernel
theorem dX9_copy_1 : decode cX9_copy 1 = .ok (.iconst 4, 1) := by decide +kernel
theorem dX9_copy_2 : decode cX9_copy 2 = .ok (.invokestatic 84, 3) := by decide +kernel
theorem dX9_copy_5 : decode cX9_copy 5 = .ok (.ifCond .eq 11, 3) := by decide +kernel
theorem dX9_copy_8 : decode cX9_copy 8 = .ok (.iload_n 3, 1) := by decide +kernel
theorem dX9_copy_9 : decode cX9_copy 9 = .ok (.iconst 4, 1) := by decide +kernel
theorem dX9_copy_10 : decode cX9_copy 10 = .ok (.invokestatic 84, 3) := by decide +kernel
theorem dX9_copy_13 : decode cX9_copy 13 = .ok (.ifCond .ne 6, 3) := by decide +kernel
theorem dX9_copy_16 : decode cX9_copy 16 = .ok (.bipush (-2), 2) := by decide +kernel
theorem dX9_copy_18 : decode cX9_copy 18 = .ok (.ireturn, 1) := by decide +kernel
theorem dX9_copy_19 : decode cX9_copy 19 = .ok (.aload_n 0, 1) := by decide +kernel
theorem dX9_copy_20 : decode cX9_copy 20 = .ok (.getfield 45, 3) := by decide +kernel
theorem dX9_copy_23 : decode cX9_copy 23 = .ok (.iload_n 1, 1) := by decide +kernel
theorem dX9_copy_24 : decode cX9_copy 24 = .ok (.aaload, 1) := by decide +kernel
theorem dX9_copy_25 : decode cX9_copy 25 = .ok (.astore 6, 2) := by decide +kernel
theorem dX9_copy_27 : decode cX9_copy 27 = .ok (.aload_n 0, 1) := by decide +kernel
theorem dX9_copy_28 : decode cX9_copy 28 = .ok (.getfield 45, 3) := by decide +kernel
theorem dX9_copy_31 : decode cX9_copy 31 = .ok (.iload_n 3, 1) := by decide +kernel
theorem dX9_copy_32 : decode cX9_copy 32 = .ok (.aaload, 1) := by decide +kernel
theorem dX9_copy_33 : decode cX9_copy 33 = .ok (.astore 7, 2) := by decide +kernel
theorem dX9_copy_35 : decode cX9_copy 35 = .ok (.aload 6, 2) := by decide +kernel
theorem dX9_copy_37 : decode cX9_copy 37 = .ok (.getfield 138, 3) := by decide +kernel
theorem dX9_copy_40 : decode cX9_copy 40 = .ok (.ifCond .ne 11, 3) := by decide +kernel
theorem dX9_copy_43 : decode cX9_copy 43 = .ok (.aload 7, 2) := by decide +kernel
theorem dX9_copy_45 : decode cX9_copy 45 = .ok (.getfield 138, 3) := by decide +kernel
theorem dX9_copy_48 : decode cX9_copy 48 = .ok (.ifCond .eq 9, 3) := by decide +kernel
theorem dX9_copy_51 : decode cX9_copy 51 = .ok (.aload_n 0, 1) := by decide +kernel
theorem dX9_copy_52 : decode cX9_copy 52 = .ok (.iconst 1, 1) := by decide +kernel
theorem dX9_copy_53 : decode cX9_copy 53 = .ok (.invokevirtual 142, 3) := by decide +kernel
theorem dX9_copy_56 : decode cX9_copy 56 = .ok (.ireturn, 1) := by decide +kernel
theorem dX9_copy_57 : decode cX9_copy 57 = .ok (.aload 6, 2) := by decide +kernel
theorem dX9_copy_59 : decode cX9_copy 59 = .ok (.getfield 262, 3) := by decide +kernel
theorem dX9_copy_62 : decode cX9_copy 62 = .ok (.aload 7, 2) := by decide +kernel
theorem dX9_copy_64 : decode cX9_copy 64 = .ok (.getfield 262, 3) := by decide +kernel
theorem dX9_copy_67 : decode cX9_copy 67 = .ok (.if_icmp .eq 9, 3) := by decide +kernel
theorem dX9_copy_70 : decode cX9_copy 70 = .ok (.aload_n 0, 1) := by decide +kernel
theorem dX9_copy_71 : decode cX9_copy 71 = .ok (.iconst 4, 1) := by decide +kernel
theorem dX9_copy_72 : decode cX9_copy 72 = .ok (.invokevirtual 142, 3) := by decide +kernel
theorem dX9_copy_75 : decode cX9_copy 75 = .ok (.ireturn, 1) := by decide +kernel
theorem dX9_copy_76 : decode cX9_copy 76 = .ok (.aload 6, 2) := by decide +kernel
theorem dX9_copy_78 : decode cX9_copy 78 = .ok (.iload_n 2, 1) := by decide +kernel
theorem dX9_copy_79 : decode cX9_copy 79 = .ok (.iload 5, 2) := by decide +kernel
theorem dX9_copy_81 : decode cX9_copy 81 = .ok (.invokevirtual 265, 3) := by decide +kernel
theorem dX9_copy_84 : decode cX9_copy 84 = .ok (.ifCond .eq 15, 3) := by decide +kernel
theorem dX9_copy_87 : decode cX9_copy 87 = .ok (.aload 7, 2) := by decide +kernel
theorem dX9_copy_89 : decode cX9_copy 89 = .ok (.iload 4, 2) := by decide +kernel
theorem dX9_copy_91 : decode cX9_copy 91 = .ok (.iload 5, 2) := by decide +kernel
theorem dX9_copy_93 : decode cX9_copy 93 = .ok (.invokevirtual 265, 3) := by decide +kernel
theorem dX9_copy_96 : decode cX9_copy 96 = .ok (.ifCond .ne 9, 3) := by decide +kernel
theorem dX9_copy_99 : decode cX9_copy 99 = .ok (.aload_n 0, 1) := by decide +kernel
theorem dX9_copy_100 : decode cX9_copy 100 = .ok (.iconst 2, 1) := by decide +kernel
theorem dX9_copy_101 : decode cX9_copy 101 = .ok (.invokevirtual 142, 3) := by decide +kernel
theorem dX9_copy_104 : decode cX9_copy 104 = .ok (.ireturn, 1) := by decide +kernel
theorem dX9_copy_105 : decode cX9_copy 105 = .ok (.aload 6, 2) := by decide +kernel
theorem dX9_copy_107 : decode cX9_copy 107 = .ok (.getfield 147, 3) := by decide +kernel
theorem dX9_copy_110 : decode cX9_copy 110 = .ok (.iload_n 2, 1) := by decide +kernel
theorem dX9_copy_111 : decode cX9_copy 111 = .ok (.aload 7, 2) := by decide +kernel
theorem dX9_copy_113 : decode cX9_copy 113 = .ok (.getfield 147, 3) := by decide +kernel
theorem dX9_copy_116 : decode cX9_copy 116 = .ok (.iload 4, 2) := by decide +kernel
theorem dX9_copy_118 : decode cX9_copy 118 = .ok (.iload 5, 2) := by decide +kernel
theorem dX9_copy_120 : decode cX9_copy 120 = .ok (.invokestatic 268, 3) := by decide +kernel
theorem dX9_copy_123 : decode cX9_copy 123 = .ok (.iconst 1, 1) := by decide +kernel
theorem dX9_copy_124 : decode cX9_copy 124 = .ok (.ireturn, 1) := by decide +kernel
theorem dX9_write_0 : decode cX9_write 0 = .ok (.iload_n 1, 1) := by decide +kernel
theorem dX9_write_1 : decode cX9_write 1 = .ok (.bipush 100, 2) := by decide +kernel
theorem dX9_write_3 : decode cX9_write 3 = .ok (.invokestatic 84, 3) := by decide +kernel
theorem dX9_write_6 : decode cX9_write 6 = .ok (.ifCond .eq 11, 3) := by decide +kernel
theorem dX9_write_9 : decode cX9_write 9 = .ok (.iload_n 2, 1) := by decide +kernel
theorem dX9_write_10 : decode cX9_write 10 = .ok (.iconst 4, 1) := by decide +kernel
theorem dX9_write_11 : decode cX9_write 11 = .ok (.invokestatic 84, 3) := by decide +kernel
theorem dX9_write_14 : decode cX9_write 14 = .ok (.ifCond .ne 6, 3) := by decide +kernel
theorem dX9_write_17 : decode cX9_write 17 = .ok (.bipush (-2), 2) := by decide +kernel
theorem dX9_write_19 : decode cX9_write 19 = .ok (.ireturn, 1) := by decide +kernel
theorem dX9_write_20 : decode cX9_write 20 = .ok (.aload_n 0, 1) := by decide +kernel
theorem dX9_write_21 : decode cX9_write 21 = .ok (.getfield 45, 3) := by decide +kernel
theorem dX9_write_24 : decode cX9_write 24 = .ok (.iload_n 2, 1) := by decide +kernel
theorem dX9_write_25 : decode cX9_write 25 = .ok (.aaload, 1) := by decide +kernel
theorem dX9_write_26 : decode cX9_write 26 = .ok (.astore_n 3, 1) := by decide +kernel
theorem dX9_write_27 : decode cX9_write 27 = .ok (.aload_n 3, 1) := by decide +kernel
theorem dX9_write_28 : decode cX9_write 28 = .ok (.getfield 138, 3) := by decide +kernel
theorem dX9_write_31 : decode cX9_write 31 = .ok (.ifCond .eq 9, 3) := by decide +kernel
theorem dX9_write_34 : decode cX9_write 34 = .ok (.aload_n 0, 1) := by decide +kernel
theorem dX9_write_35 : decode cX9_write 35 = .ok (.iconst 1, 1) := by decide +kernel
theorem dX9_write_36 : decode cX9_write 36 = .ok (.invokevirtual 142, 3) := by decide +kernel
theorem dX9_write_39 : decode cX9_write 39 = .ok (.ireturn, 1) := by decide +kernel
theorem dX9_write_40 : decode cX9_write 40 = .ok (.aload_n 3, 1) := by decide +kernel
theorem dX9_write_41 : decode cX9_write 41 = .ok (.getfield 146, 3) := by decide +kernel
theorem dX9_write_44 : decode cX9_write 44 = .ok (.aload_n 0, 1) := by decide +kernel
theorem dX9_write_45 : decode cX9_write 45 = .ok (.getfield 25, 3) := by decide +kernel
theorem dX9_write_48 : decode cX9_write 48 = .ok (.getfield 168, 3) := by decide +kernel
theorem dX9_write_51 : decode cX9_write 51 = .ok (.invokestatic 274, 3) := by decide +kernel
theorem dX9_write_54 : decode cX9_write 54 = .ok (.istore 4, 2) := by decide +kernel
theorem dX9_write_56 : decode cX9_write 56 = .ok (.iconst 0, 1) := by decide +kernel
theorem dX9_write_57 : decode cX9_write 57 = .ok (.istore 5, 2) := by decide +kernel
theorem dX9_write_59 : decode cX9_write 59 = .ok (.iload 5, 2) := by decide +kernel
theorem dX9_write_61 : decode cX9_write 61 = .ok (.iload 4, 2) := by decide +kernel
theorem dX9_write_63 : decode cX9_write 63 = .ok (.if_icmp .ge 25, 3) := by decide +kernel
theorem dX9_write_66 : decode cX9_write 66 = .ok (.aload_n 3, 1) := by decide +kernel
theorem dX9_write_67 : decode cX9_write 67 = .ok (.iload 5, 2) := by decide +kernel
theorem dX9_write_69 : decode cX9_write 69 = .ok (.aload_n 0, 1) := by decide +kernel
theorem dX9_write_70 : decode cX9_write 70 = .ok (.getfield 52, 3) := by decide +kernel
theorem dX9_write_73 : decode cX9_write 73 = .ok (.iload_n 1, 1) := by decide +kernel
theorem dX9_write_74 : decode cX9_write 74 = .ok (.iload 5, 2) := by decide +kernel
theorem dX9_write_76 : decode cX9_write 76 = .ok (.invokevirtual 153, 3) := by decide +kernel
theorem dX9_write_79 : decode cX9_write 79 = .ok (.invokevirtual 255, 3) := by decide +kernel
theorem dX9_write_82 : decode cX9_write 82 = .ok (.iinc 5 1, 3) := by decide +kernel
theorem dX9_write_85 : decode cX9_write 85 = .ok (.goto (-26), 3) := by decide +kernel
theorem dX9_write_88 : decode cX9_write 88 = .ok (.iload 4, 2) := by decide +kernel
theorem dX9_write_90 : decode cX9_write 90 = .ok (.ireturn, 1) := by decide +kernel
theorem dX9_count_0 : decode cX9_count 0 = .ok (.iload_n 1, 1) := by decide +kernel
theorem dX9_count_1 : decode cX9_count 1 = .ok (.tableswitch 124 0 8 #[51, 59, 67, 77, 87, 95, 103, 111, 119], 51) := by decide +kernel
theorem dX9_count_52 : decode cX9_count 52 = .ok (.aload_n 0, 1) := by decide +kernel
theorem dX9_count_53 : decode cX9_count 53 = .ok (.getfield 18, 3) := by decide +kernel
theorem dX9_count_56 : decode cX9_count 56 = .ok (.getfield 279, 3) := by decide +kernel
theorem dX9_count_59 : decode cX9_count 59 = .ok (.ireturn, 1) := by decide +kernel
theorem dX9_count_60 : decode cX9_count 60 = .ok (.aload_n 0, 1) := by decide +kernel
theorem dX9_count_61 : decode cX9_count 61 = .ok (.getfield 25, 3) := by decide +kernel
theorem dX9_count_64 : decode cX9_count 64 = .ok (.getfield 168, 3) := by decide +kernel
theorem dX9_count_67 : decode cX9_count 67 = .ok (.ireturn, 1) := by decide +kernel
theorem dX9_count_68 : decode cX9_count 68 = .ok (.aload_n 0, 1) := by decide +kernel
theorem dX9_count_69 : decode cX9_count 69 = .ok (.getfield 11, 3) := by decide +kernel
theorem dX9_count_72 : decode cX9_count 72 = .ok (.iconst 0, 1) := by decide +kernel
theorem dX9_count_73 : decode cX9_count 73 = .ok (.aaload, 1) := by decide +kernel
theorem dX9_count_74 : decode cX9_count 74 = .ok (.getfield 98, 3) := by decide +kernel
theorem dX9_count_77 : decode cX9_count 77 = .ok (.ireturn, 1) := by decide +kernel
theorem dX9_count_78 : decode cX9_count 78 = .ok (.aload_n 0, 1) := by decide +kernel
theorem dX9_count_79 : decode cX9_count 79 = .ok (.getfield 11, 3) := by decide +kernel
theorem dX9_count_82 : decode cX9_count 82 = .ok (.iconst 1, 1) := by decide +kernel
theorem dX9_count_83 : decode cX9_count 83 = .ok (.aaload, 1) := by decide +kernel
theorem dX9_count_84 : decode cX9_count 84 = .ok (.getfield 98, 3) := by decide +kernel
theorem dX9_count_87 : decode cX9_count 87 = .ok (.ireturn, 1) := by decide +kernel
theorem dX9_count_88 : decode cX9_count 88 = .ok (.aload_n 0, 1) := by decide +kernel
theorem dX9_count_89 : decode cX9_count 89 = .ok (.getfield 32, 3) := by decide +kernel
theorem dX9_count_92 : decode cX9_count 92 = .ok (.getfield 134, 3) := by decide +kernel
theorem dX9_count_95 : decode cX9_count 95 = .ok (.ireturn, 1) := by decide +kernel
theorem dX9_count_96 : decode cX9_count 96 = .ok (.aload_n 0, 1) := by decide +kernel
theorem dX9_count_97 : decode cX9_count 97 = .ok (.getfield 52, 3) := by decide +kernel
theorem dX9_count_100 : decode cX9_count 100 = .ok (.invokevirtual 280, 3) := by decide +kernel
theorem dX9_count_103 : decode cX9_count 103 = .ok (.ireturn, 1) := by decide +kernel
theorem dX9_count_104 : decode cX9_count 104 = .ok (.aload_n 0, 1) := by decide +kernel
theorem dX9_count_105 : decode cX9_count 105 = .ok (.getfield 52, 3) := by decide +kernel
theorem dX9_count_108 : decode cX9_count 108 = .ok (.invokevirtual 284, 3) := by decide +kernel
theorem dX9_count_111 : decode cX9_count 111 = .ok (.ireturn, 1) := by decide +kernel
theorem dX9_count_112 : decode cX9_count 112 = .ok (.aload_n 0, 1) := by decide +kernel
theorem dX9_count_113 : decode cX9_count 113 = .ok (.getfield 39, 3) := by decide +kernel
theorem dX9_count_116 : decode cX9_count 116 = .ok (.getfield 194, 3) := by decide +kernel
theorem dX9_count_119 : decode cX9_count 119 = .ok (.ireturn, 1) := by decide +kernel
theorem dX9_count_120 : decode cX9_count 120 = .ok (.aload_n 0, 1) := by decide +kernel
theorem dX9_count_121 : decode cX9_count 121 = .ok (.getfield 259, 3) := by decide +kernel
theorem dX9_count_124 : decode cX9_count 124 = .ok (.ireturn, 1) := by decide +kernel
theorem dX9_count_125 : decode cX9_count 125 = .ok (.bipush (-2), 2) := by decide +kernel
theorem dX9_count_127 : decode cX9_count 127 = .ok (.ireturn, 1) := by decide +kernel
theorem dX9_digest_0 : decode cX9_digest 0 = .ok (.ldc2_w 287, 3) := by decide +kernel
theorem dX9_digest_3 : decode cX9_digest 3 = .ok (.lstore_n 1, 1) := by decide +kernel
theorem dX9_digest_4 : decode cX9_digest 4 = .ok (.iconst 0, 1) := by decide +kernel
theorem dX9_digest_5 : decode cX9_digest 5 = .ok (.istore_n 3, 1) := by decide +kernel
theorem dX9_digest_6 : decode cX9_digest 6 = .ok (.iload_n 3, 1) := by decide +kernel
theorem dX9_digest_7 : decode cX9_digest 7 = .ok (.bipush 8, 2) := by decide +kernel
theorem dX9_digest_9 : decode cX9_digest 9 = .ok (.if_icmp .ge 22, 3) := by decide +kernel
theorem dX9_digest_12 : decode cX9_digest 12 = .ok (.ldc2_w 289, 3) := by decide +kernel
theorem dX9_digest_15 : decode cX9_digest 15 = .ok (.lload_n 1, 1) := by decide +kernel
theorem dX9_digest_16 : decode cX9_digest 16 = .ok (.lmul, 1) := by decide +kernel
theorem dX9_digest_17 : decode cX9_digest 17 = .ok (.aload_n 0, 1) := by decide +kernel
theorem dX9_digest_18 : decode cX9_digest 18 = .ok (.iload_n 3, 1) := by decide +kernel
theorem dX9_digest_19 : decode cX9_digest 19 = .ok (.invokevirtual 291, 3) := by decide +kernel
theorem dX9_digest_22 : decode cX9_digest 22 = .ok (.i2l, 1) := by decide +kernel
theorem dX9_digest_23 : decode cX9_digest 23 = .ok (.ladd, 1) := by decide +kernel
theorem dX9_digest_24 : decode cX9_digest 24 = .ok (.lstore_n 1, 1) := by decide +kernel
theorem dX9_digest_25 : decode cX9_digest 25 = .ok (.iinc 3 1, 3) := by decide +kernel
theorem dX9_digest_28 : decode cX9_digest 28 = .ok (.goto (-22), 3) := by decide +kernel
theorem dX9_digest_31 : decode cX9_digest 31 = .ok (.iconst 0, 1) := by decide +kernel
theorem dX9_digest_32 : decode cX9_digest 32 = .ok (.istore_n 3, 1) := by decide +kernel
theorem dX9_digest_33 : decode cX9_digest 33 = .ok (.iload_n 3, 1) := by decide +kernel
theorem dX9_digest_34 : decode cX9_digest 34 = .ok (.iconst 2, 1) := by decide +kernel
theorem dX9_digest_35 : decode cX9_digest 35 = .ok (.if_icmp .ge 22, 3) := by decide +kernel
theorem dX9_digest_38 : decode cX9_digest 38 = .ok (.ldc2_w 289, 3) := by decide +kernel
theorem dX9_digest_41 : decode cX9_digest 41 = .ok (.lload_n 1, 1) := by decide +kernel
theorem dX9_digest_42 : decode cX9_digest 42 = .ok (.lmul, 1) := by decide +kernel
theorem dX9_digest_43 : decode cX9_digest 43 = .ok (.aload_n 0, 1) := by decide +kernel
theorem dX9_digest_44 : decode cX9_digest 44 = .ok (.iload_n 3, 1) := by decide +kernel
theorem dX9_digest_45 : decode cX9_digest 45 = .ok (.invokevirtual 294, 3) := by decide +kernel
theorem dX9_digest_48 : decode cX9_digest 48 = .ok (.i2l, 1) := by decide +kernel
theorem dX9_digest_49 : decode cX9_digest 49 = .ok (.ladd, 1) := by decide +kernel
theorem dX9_digest_50 : decode cX9_digest 50 = .ok (.lstore_n 1, 1) := by decide +kernel
theorem dX9_digest_51 : decode cX9_digest 51 = .ok (.iinc 3 1, 3) := by decide +kernel
theorem dX9_digest_54 : decode cX9_digest 54 = .ok (.goto (-21), 3) := by decide +kernel
theorem dX9_digest_57 : decode cX9_digest 57 = .ok (.iconst 0, 1) := by decide +kernel
theorem dX9_digest_58 : decode cX9_digest 58 = .ok (.istore_n 3, 1) := by decide +kernel
theorem dX9_digest_59 : decode cX9_digest 59 = .ok (.iload_n 3, 1) := by decide +kernel
theorem dX9_digest_60 : decode cX9_digest 60 = .ok (.aload_n 0, 1) := by decide +kernel
theorem dX9_digest_61 : decode cX9_digest 61 = .ok (.getfield 18, 3) := by decide +kernel
theorem dX9_digest_64 : decode cX9_digest 64 = .ok (.getfield 279, 3) := by decide +kernel
theorem dX9_digest_67 : decode cX9_digest 67 = .ok (.if_icmp .ge 16, 3) := by decide +kernel
theorem dX9_digest_70 : decode cX9_digest 70 = .ok (.aload_n 0, 1) := by decide +kernel
theorem dX9_digest_71 : decode cX9_digest 71 = .ok (.lload_n 1, 1) := by decide +kernel
theorem dX9_digest_72 : decode cX9_digest 72 = .ok (.iload_n 3, 1) := by decide +kernel
theorem dX9_digest_73 : decode cX9_digest 73 = .ok (.invokevirtual 297, 3) := by decide +kernel
theorem dX9_digest_76 : decode cX9_digest 76 = .ok (.lstore_n 1, 1) := by decide +kernel
theorem dX9_digest_77 : decode cX9_digest 77 = .ok (.iinc 3 1, 3) := by decide +kernel
theorem dX9_digest_80 : decode cX9_digest 80 = .ok (.goto (-21), 3) := by decide +kernel
theorem dX9_digest_83 : decode cX9_digest 83 = .ok (.iconst 0, 1) := by decide +kernel
theorem dX9_digest_84 : decode cX9_digest 84 = .ok (.istore_n 3, 1) := by decide +kernel
theorem dX9_digest_85 : decode cX9_digest 85 = .ok (.iload_n 3, 1) := by decide +kernel
theorem dX9_digest_86 : decode cX9_digest 86 = .ok (.aload_n 0, 1) := by decide +kernel
theorem dX9_digest_87 : decode cX9_digest 87 = .ok (.getfield 25, 3) := by decide +kernel
theorem dX9_digest_90 : decode cX9_digest 90 = .ok (.getfield 168, 3) := by decide +kernel
theorem dX9_digest_93 : decode cX9_digest 93 = .ok (.if_icmp .ge 16, 3) := by decide +kernel
theorem dX9_digest_96 : decode cX9_digest 96 = .ok (.aload_n 0, 1) := by decide +kernel
theorem dX9_digest_97 : decode cX9_digest 97 = .ok (.lload_n 1, 1) := by decide +kernel
theorem dX9_digest_98 : decode cX9_digest 98 = .ok (.iload_n 3, 1) := by decide +kernel
theorem dX9_digest_99 : decode cX9_digest 99 = .ok (.invokevirtual 301, 3) := by decide +kernel
theorem dX9_digest_102 : decode cX9_digest 102 = .ok (.lstore_n 1, 1) := by decide +kernel
theorem dX9_digest_103 : decode cX9_digest 103 = .ok (.iinc 3 1, 3) := by decide +kernel
theorem dX9_digest_106 : decode cX9_digest 106 = .ok (.goto (-21), 3) := by decide +kernel
theorem dX9_digest_109 : decode cX9_digest 109 = .ok (.ldc2_w 289, 3) := by decide +kernel
theorem dX9_digest_112 : decode cX9_digest 112 = .ok (.lload_n 1, 1) := by decide +kernel
theorem dX9_digest_113 : decode cX9_digest 113 = .ok (.lmul, 1) := by decide +kernel
theorem dX9_digest_114 : decode cX9_digest 114 = .ok (.aload_n 0, 1) := by decide +kernel
theorem dX9_digest_115 : decode cX9_digest 115 = .ok (.bipush 9, 2) := by decide +kernel
theorem dX9_digest_117 : decode cX9_digest 117 = .ok (.invokevirtual 304, 3) := by decide +kernel
theorem dX9_digest_120 : decode cX9_digest 120 = .ok (.i2l, 1) := by decide +kernel
theorem dX9_digest_121 : decode cX9_digest 121 = .ok (.ladd, 1) := by decide +kernel
theorem dX9_digest_122 : decode cX9_digest 122 = .ok (.lstore_n 1, 1) := by decide +kernel
theorem dX9_digest_123 : decode cX9_digest 123 = .ok (.ldc2_w 289, 3) := by decide +kernel
theorem dX9_digest_126 : decode cX9_digest 126 = .ok (.lload_n 1, 1) := by decide +kernel
theorem dX9_digest_127 : decode cX9_digest 127 = .ok (.lmul, 1) := by decide +kernel
theorem dX9_digest_128 : decode cX9_digest 128 = .ok (.aload_n 0, 1) := by decide +kernel
theorem dX9_digest_129 : decode cX9_digest 129 = .ok (.iconst 0, 1) := by decide +kernel
theorem dX9_digest_130 : decode cX9_digest 130 = .ok (.invokevirtual 307, 3) := by decide +kernel
theorem dX9_digest_133 : decode cX9_digest 133 = .ok (.i2l, 1) := by decide +kernel
theorem dX9_digest_134 : decode cX9_digest 134 = .ok (.ladd, 1) := by decide +kernel
theorem dX9_digest_135 : decode cX9_digest 135 = .ok (.lstore_n 1, 1) := by decide +kernel
theorem dX9_digest_136 : decode cX9_digest 136 = .ok (.ldc2_w 289, 3) := by decide +kernel
theorem dX9_digest_139 : decode cX9_digest 139 = .ok (.lload_n 1, 1) := by decide +kernel
theorem dX9_digest_140 : decode cX9_digest 140 = .ok (.lmul, 1) := by decide +kernel
theorem dX9_digest_141 : decode cX9_digest 141 = .ok (.aload_n 0, 1) := by decide +kernel
theorem dX9_digest_142 : decode cX9_digest 142 = .ok (.iconst 1, 1) := by decide +kernel
theorem dX9_digest_143 : decode cX9_digest 143 = .ok (.invokevirtual 307, 3) := by decide +kernel
theorem dX9_digest_146 : decode cX9_digest 146 = .ok (.i2l, 1) := by decide +kernel
theorem dX9_digest_147 : decode cX9_digest 147 = .ok (.ladd, 1) := by decide +kernel
theorem dX9_digest_148 : decode cX9_digest 148 = .ok (.lstore_n 1, 1) := by decide +kernel
theorem dX9_digest_149 : decode cX9_digest 149 = .ok (.aload_n 0, 1) := by decide +kernel
theorem dX9_digest_150 : decode cX9_digest 150 = .ok (.invokevirtual 187, 3) := by decide +kernel
theorem dX9_digest_153 : decode cX9_digest 153 = .ok (.ldc2_w 289, 3) := by decide +kernel
theorem dX9_digest_156 : decode cX9_digest 156 = .ok (.lload_n 1, 1) := by decide +kernel
theorem dX9_digest_157 : decode cX9_digest 157 = .ok (.lmul, 1) := by decide +kernel
theorem dX9_digest_158 : decode cX9_digest 158 = .ok (.aload_n 0, 1) := by decide +kernel
theorem dX9_digest_159 : decode cX9_digest 159 = .ok (.getfield 69, 3) := by decide +kernel
theorem dX9_digest_162 : decode cX9_digest 162 = .ok (.getfield 181, 3) := by decide +kernel
theorem dX9_digest_165 : decode cX9_digest 165 = .ok (.i2l, 1) := by decide +kernel
theorem dX9_digest_166 : decode cX9_digest 166 = .ok (.ladd, 1) := by decide +kernel
theorem dX9_digest_167 : decode cX9_digest 167 = .ok (.lstore_n 1, 1) := by decide +kernel
theorem dX9_digest_168 : decode cX9_digest 168 = .ok (.ldc2_w 289, 3) := by decide +kernel
theorem dX9_digest_171 : decode cX9_digest 171 = .ok (.lload_n 1, 1) := by decide +kernel
theorem dX9_digest_172 : decode cX9_digest 172 = .ok (.lmul, 1) := by decide +kernel
theorem dX9_digest_173 : decode cX9_digest 173 = .ok (.aload_n 0, 1) := by decide +kernel
theorem dX9_digest_174 : decode cX9_digest 174 = .ok (.getfield 69, 3) := by decide +kernel
theorem dX9_digest_177 : decode cX9_digest 177 = .ok (.getfield 184, 3) := by decide +kernel
theorem dX9_digest_180 : decode cX9_digest 180 = .ok (.i2l, 1) := by decide +kernel
theorem dX9_digest_181 : decode cX9_digest 181 = .ok (.ladd, 1) := by decide +kernel
theorem dX9_digest_182 : decode cX9_digest 182 = .ok (.lreturn, 1) := by decide +kernel
theorem dX9_digestBridge_0 : decode cX9_digestBridge 0 = .ok (.lload_n 1, 1) := by decide +kernel
theorem dX9_digestBridge_1 : decode cX9_digestBridge 1 = .ok (.lstore 4, 2) := by decide +kernel
theorem dX9_digestBridge_3 : decode cX9_digestBridge 3 = .ok (.iconst 0, 1) := by decide +kernel
theorem dX9_digestBridge_4 : decode cX9_digestBridge 4 = .ok (.istore 6, 2) := by decide +kernel
theorem dX9_digestBridge_6 : decode cX9_digestBridge 6 = .ok (.iload 6, 2) := by decide +kernel
theorem dX9_digestBridge_8 : decode cX9_digestBridge 8 = .ok (.iconst 3, 1) := by decide +kernel
theorem dX9_digestBridge_9 : decode cX9_digestBridge 9 = .ok (.if_icmp .ge 29, 3) := by decide +kernel
theorem dX9_digestBridge_12 : decode cX9_digestBridge 12 = .ok (.ldc2_w 289, 3) := by decide +kernel
theorem dX9_digestBridge_15 : decode cX9_digestBridge 15 = .ok (.lload 4, 2) := by decide +kernel
theorem dX9_digestBridge_17 : decode cX9_digestBridge 17 = .ok (.lmul, 1) := by decide +kernel
theorem dX9_digestBridge_18 : decode cX9_digestBridge 18 = .ok (.aload_n 0, 1) := by decide +kernel
theorem dX9_digestBridge_19 : decode cX9_digestBridge 19 = .ok (.getfield 18, 3) := by decide +kernel
theorem dX9_digestBridge_22 : decode cX9_digestBridge 22 = .ok (.iload_n 3, 1) := by decide +kernel
theorem dX9_digestBridge_23 : decode cX9_digestBridge 23 = .ok (.iload 6, 2) := by decide +kernel
theorem dX9_digestBridge_25 : decode cX9_digestBridge 25 = .ok (.invokevirtual 110, 3) := by decide +kernel
theorem dX9_digestBridge_28 : decode cX9_digestBridge 28 = .ok (.i2l, 1) := by decide +kernel
theorem dX9_digestBridge_29 : decode cX9_digestBridge 29 = .ok (.ladd, 1) := by decide +kernel
theorem dX9_digestBridge_30 : decode cX9_digestBridge 30 = .ok (.lstore 4, 2) := by decide +kernel
theorem dX9_digestBridge_32 : decode cX9_digestBridge 32 = .ok (.iinc 6 1, 3) := by decide +kernel
theorem dX9_digestBridge_35 : decode cX9_digestBridge 35 = .ok (.goto (-29), 3) := by decide +kernel
theorem dX9_digestBridge_38 : decode cX9_digestBridge 38 = .ok (.ldc2_w 289, 3) := by decide +kernel
theorem dX9_digestBridge_41 : decode cX9_digestBridge 41 = .ok (.lload 4, 2) := by decide +kernel
theorem dX9_digestBridge_43 : decode cX9_digestBridge 43 = .ok (.lmul, 1) := by decide +kernel
theorem dX9_digestBridge_44 : decode cX9_digestBridge 44 = .ok (.aload_n 0, 1) := by decide +kernel
theorem dX9_digestBridge_45 : decode cX9_digestBridge 45 = .ok (.iload_n 3, 1) := by decide +kernel
theorem dX9_digestBridge_46 : decode cX9_digestBridge 46 = .ok (.invokevirtual 195, 3) := by decide +kernel
theorem dX9_digestBridge_49 : decode cX9_digestBridge 49 = .ok (.i2l, 1) := by decide +kernel
theorem dX9_digestBridge_50 : decode cX9_digestBridge 50 = .ok (.ladd, 1) := by decide +kernel
theorem dX9_digestBridge_51 : decode cX9_digestBridge 51 = .ok (.lstore 4, 2) := by decide +kernel
theorem dX9_digestBridge_53 : decode cX9_digestBridge 53 = .ok (.ldc2_w 289, 3) := by decide +kernel
theorem dX9_digestBridge_56 : decode cX9_digestBridge 56 = .ok (.lload 4, 2) := by decide +kernel
theorem dX9_digestBridge_58 : decode cX9_digestBridge 58 = .ok (.lmul, 1) := by decide +kernel
theorem dX9_digestBridge_59 : decode cX9_digestBridge 59 = .ok (.aload_n 0, 1) := by decide +kernel
theorem dX9_digestBridge_60 : decode cX9_digestBridge 60 = .ok (.iload_n 3, 1) := by decide +kernel
theorem dX9_digestBridge_61 : decode cX9_digestBridge 61 = .ok (.invokevirtual 198, 3) := by decide +kernel
theorem dX9_digestBridge_64 : decode cX9_digestBridge 64 = .ok (.i2l, 1) := by decide +kernel
theorem dX9_digestBridge_65 : decode cX9_digestBridge 65 = .ok (.ladd, 1) := by decide +kernel
theorem dX9_digestBridge_66 : decode cX9_digestBridge 66 = .ok (.lstore 4, 2) := by decide +kernel
theorem dX9_digestBridge_68 : decode cX9_digestBridge 68 = .ok (.ldc2_w 289, 3) := by decide +kernel
theorem dX9_digestBridge_71 : decode cX9_digestBridge 71 = .ok (.lload 4, 2) := by decide +kernel
theorem dX9_digestBridge_73 : decode cX9_digestBridge 73 = .ok (.lmul, 1) := by decide +kernel
theorem dX9_digestBridge_74 : decode cX9_digestBridge 74 = .ok (.aload_n 0, 1) := by decide +kernel
theorem dX9_digestBridge_75 : decode cX9_digestBridge 75 = .ok (.iload_n 3, 1) := by decide +kernel
theorem dX9_digestBridge_76 : decode cX9_digestBridge 76 = .ok (.iconst 5, 1) := by decide +kernel
theorem dX9_digestBridge_77 : decode cX9_digestBridge 77 = .ok (.invokevirtual 310, 3) := by decide +kernel
theorem dX9_digestBridge_80 : decode cX9_digestBridge 80 = .ok (.i2l, 1) := by decide +kernel
theorem dX9_digestBridge_81 : decode cX9_digestBridge 81 = .ok (.ladd, 1) := by decide +kernel
theorem dX9_digestBridge_82 : decode cX9_digestBridge 82 = .ok (.lstore 4, 2) := by decide +kernel
theorem dX9_digestBridge_84 : decode cX9_digestBridge 84 = .ok (.iconst 0, 1) := by decide +kernel
theorem dX9_digestBridge_85 : decode cX9_digestBridge 85 = .ok (.istore 6, 2) := by decide +kernel
theorem dX9_digestBridge_87 : decode cX9_digestBridge 87 = .ok (.iload 6, 2) := by decide +kernel
theorem dX9_digestBridge_89 : decode cX9_digestBridge 89 = .ok (.aload_n 0, 1) := by decide +kernel
theorem dX9_digestBridge_90 : decode cX9_digestBridge 90 = .ok (.getfield 25, 3) := by decide +kernel
theorem dX9_digestBridge_93 : decode cX9_digestBridge 93 = .ok (.getfield 168, 3) := by decide +kernel
