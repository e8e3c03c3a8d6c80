theorem dX10_type_37 : decode cX10_type 37 = .ok (.bipush 63, 2) := by decide +kernel
theorem dX10_type_39 : decode cX10_type 39 = .ok (.if_icmp .ne 6, 3) := by decide +kernel
theorem dX10_type_42 : decode cX10_type 42 = .ok (.bipush (-4), 2) := by decide +kernel
theorem dX10_type_44 : decode cX10_type 44 = .ok (.ireturn, 1) := by decide +kernel
theorem dX10_type_45 : decode cX10_type 45 = .ok (.aload_n 0, 1) := by decide +kernel
theorem dX10_type_46 : decode cX10_type 46 = .ok (.getfield 22, 3) := by decide +kernel
theorem dX10_type_49 : decode cX10_type 49 = .ok (.bipush 64, 2) := by decide +kernel
theorem dX10_type_51 : decode cX10_type 51 = .ok (.iload_n 1, 1) := by decide +kernel
theorem dX10_type_52 : decode cX10_type 52 = .ok (.imul, 1) := by decide +kernel
theorem dX10_type_53 : decode cX10_type 53 = .ok (.aload_n 0, 1) := by decide +kernel
theorem dX10_type_54 : decode cX10_type 54 = .ok (.getfield 25, 3) := by decide +kernel
theorem dX10_type_57 : decode cX10_type 57 = .ok (.iload_n 1, 1) := by decide +kernel
theorem dX10_type_58 : decode cX10_type 58 = .ok (.iaload, 1) := by decide +kernel
theorem dX10_type_59 : decode cX10_type 59 = .ok (.iadd, 1) := by decide +kernel
theorem dX10_type_60 : decode cX10_type 60 = .ok (.iload_n 2, 1) := by decide +kernel
theorem dX10_type_61 : decode cX10_type 61 = .ok (.iastore, 1) := by decide +kernel
theorem dX10_type_62 : decode cX10_type 62 = .ok (.aload_n 0, 1) := by decide +kernel
theorem dX10_type_63 : decode cX10_type 63 = .ok (.getfield 25, 3) := by decide +kernel
theorem dX10_type_66 : decode cX10_type 66 = .ok (.iload_n 1, 1) := by decide +kernel
theorem dX10_type_67 : decode cX10_type 67 = .ok (.dup2, 1) := by decide +kernel
theorem dX10_type_68 : decode cX10_type 68 = .ok (.iaload, 1) := by decide +kernel
theorem dX10_type_69 : decode cX10_type 69 = .ok (.iconst 1, 1) := by decide +kernel
theorem dX10_type_70 : decode cX10_type 70 = .ok (.iadd, 1) := by decide +kernel
theorem dX10_type_71 : decode cX10_type 71 = .ok (.iastore, 1) := by decide +kernel
theorem dX10_type_72 : decode cX10_type 72 = .ok (.aload_n 0, 1) := by decide +kernel
theorem dX10_type_73 : decode cX10_type 73 = .ok (.getfield 25, 3) := by decide +kernel
theorem dX10_type_76 : decode cX10_type 76 = .ok (.iload_n 1, 1) := by decide +kernel
theorem dX10_type_77 : decode cX10_type 77 = .ok (.iaload, 1) := by decide +kernel
theorem dX10_type_78 : decode cX10_type 78 = .ok (.ireturn, 1) := by decide +kernel
theorem dX10_wipe_0 : decode cX10_wipe 0 = .ok (.iload_n 1, 1) := by decide +kernel
theorem dX10_wipe_1 : decode cX10_wipe 1 = .ok (.invokestatic 92, 3) := by decide +kernel
theorem dX10_wipe_4 : decode cX10_wipe 4 = .ok (.ifCond .ne 6, 3) := by decide +kernel
theorem dX10_wipe_7 : decode cX10_wipe 7 = .ok (.bipush (-2), 2) := by decide +kernel
theorem dX10_wipe_9 : decode cX10_wipe 9 = .ok (.ireturn, 1) := by decide +kernel
theorem dX10_wipe_10 : decode cX10_wipe 10 = .ok (.aload_n 0, 1) := by decide +kernel
theorem dX10_wipe_11 : decode cX10_wipe 11 = .ok (.getfield 25, 3) := by decide +kernel
theorem dX10_wipe_14 : decode cX10_wipe 14 = .ok (.iload_n 1, 1) := by decide +kernel
theorem dX10_wipe_15 : decode cX10_wipe 15 = .ok (.iaload, 1) := by decide +kernel
theorem dX10_wipe_16 : decode cX10_wipe 16 = .ok (.istore_n 2, 1) := by decide +kernel
theorem dX10_wipe_17 : decode cX10_wipe 17 = .ok (.aload_n 0, 1) := by decide +kernel
theorem dX10_wipe_18 : decode cX10_wipe 18 = .ok (.getfield 25, 3) := by decide +kernel
theorem dX10_wipe_21 : decode cX10_wipe 21 = .ok (.iload_n 1, 1) := by decide +kernel
theorem dX10_wipe_22 : decode cX10_wipe 22 = .ok (.iconst 0, 1) := by decide +kernel
theorem dX10_wipe_23 : decode cX10_wipe 23 = .ok (.iastore, 1) := by decide +kernel
theorem dX10_wipe_24 : decode cX10_wipe 24 = .ok (.iload_n 2, 1) := by decide +kernel
theorem dX10_wipe_25 : decode cX10_wipe 25 = .ok (.ireturn, 1) := by decide +kernel
theorem dX10_undo_0 : decode cX10_undo 0 = .ok (.iload_n 1, 1) := by decide +kernel
theorem dX10_undo_1 : decode cX10_undo 1 = .ok (.invokestatic 92, 3) := by decide +kernel
theorem dX10_undo_4 : decode cX10_undo 4 = .ok (.ifCond .ne 6, 3) := by decide +kernel
theorem dX10_undo_7 : decode cX10_undo 7 = .ok (.bipush (-2), 2) := by decide +kernel
theorem dX10_undo_9 : decode cX10_undo 9 = .ok (.ireturn, 1) := by decide +kernel
theorem dX10_undo_10 : decode cX10_undo 10 = .ok (.aload_n 0, 1) := by decide +kernel
theorem dX10_undo_11 : decode cX10_undo 11 = .ok (.getfield 25, 3) := by decide +kernel
theorem dX10_undo_14 : decode cX10_undo 14 = .ok (.iload_n 1, 1) := by decide +kernel
theorem dX10_undo_15 : decode cX10_undo 15 = .ok (.iaload, 1) := by decide +kernel
theorem dX10_undo_16 : decode cX10_undo 16 = .ok (.ifCond .ne 6, 3) := by decide +kernel
theorem dX10_undo_19 : decode cX10_undo 19 = .ok (.bipush (-3), 2) := by decide +kernel
theorem dX10_undo_21 : decode cX10_undo 21 = .ok (.ireturn, 1) := by decide +kernel
theorem dX10_undo_22 : decode cX10_undo 22 = .ok (.aload_n 0, 1) := by decide +kernel
theorem dX10_undo_23 : decode cX10_undo 23 = .ok (.getfield 25, 3) := by decide +kernel
theorem dX10_undo_26 : decode cX10_undo 26 = .ok (.iload_n 1, 1) := by decide +kernel
theorem dX10_undo_27 : decode cX10_undo 27 = .ok (.dup2, 1) := by decide +kernel
theorem dX10_undo_28 : decode cX10_undo 28 = .ok (.iaload, 1) := by decide +kernel
theorem dX10_undo_29 : decode cX10_undo 29 = .ok (.iconst 1, 1) := by decide +kernel
theorem dX10_undo_30 : decode cX10_undo 30 = .ok (.isub, 1) := by decide +kernel
theorem dX10_undo_31 : decode cX10_undo 31 = .ok (.iastore, 1) := by decide +kernel
theorem dX10_undo_32 : decode cX10_undo 32 = .ok (.aload_n 0, 1) := by decide +kernel
theorem dX10_undo_33 : decode cX10_undo 33 = .ok (.getfield 25, 3) := by decide +kernel
theorem dX10_undo_36 : decode cX10_undo 36 = .ok (.iload_n 1, 1) := by decide +kernel
theorem dX10_undo_37 : decode cX10_undo 37 = .ok (.iaload, 1) := by decide +kernel
theorem dX10_undo_38 : decode cX10_undo 38 = .ok (.ireturn, 1) := by decide +kernel
theorem dX10_bridgeOf_0 : decode cX10_bridgeOf 0 = .ok (.iload_n 0, 1) := by decide +kernel
theorem dX10_bridgeOf_1 : decode cX10_bridgeOf 1 = .ok (.tableswitch 108 0 2 #[27, 60, 84], 27) := by decide +kernel
theorem dX10_bridgeOf_28 : decode cX10_bridgeOf 28 = .ok (.iload_n 1, 1) := by decide +kernel
theorem dX10_bridgeOf_29 : decode cX10_bridgeOf 29 = .ok (.bipush 108, 2) := by decide +kernel
theorem dX10_bridgeOf_31 : decode cX10_bridgeOf 31 = .ok (.if_icmp .ne 7, 3) := by decide +kernel
theorem dX10_bridgeOf_34 : decode cX10_bridgeOf 34 = .ok (.iconst 0, 1) := by decide +kernel
theorem dX10_bridgeOf_35 : decode cX10_bridgeOf 35 = .ok (.goto 25, 3) := by decide +kernel
theorem dX10_bridgeOf_38 : decode cX10_bridgeOf 38 = .ok (.iload_n 1, 1) := by decide +kernel
theorem dX10_bridgeOf_39 : decode cX10_bridgeOf 39 = .ok (.bipush 110, 2) := by decide +kernel
theorem dX10_bridgeOf_41 : decode cX10_bridgeOf 41 = .ok (.if_icmp .ne 7, 3) := by decide +kernel
theorem dX10_bridgeOf_44 : decode cX10_bridgeOf 44 = .ok (.iconst 1, 1) := by decide +kernel
theorem dX10_bridgeOf_45 : decode cX10_bridgeOf 45 = .ok (.goto 15, 3) := by decide +kernel
theorem dX10_bridgeOf_48 : decode cX10_bridgeOf 48 = .ok (.iload_n 1, 1) := by decide +kernel
theorem dX10_bridgeOf_49 : decode cX10_bridgeOf 49 = .ok (.bipush 109, 2) := by decide +kernel
theorem dX10_bridgeOf_51 : decode cX10_bridgeOf 51 = .ok (.if_icmp .ne 7, 3) := by decide +kernel
theorem dX10_bridgeOf_54 : decode cX10_bridgeOf 54 = .ok (.iconst 2, 1) := by decide +kernel
theorem dX10_bridgeOf_55 : decode cX10_bridgeOf 55 = .ok (.goto 5, 3) := by decide +kernel
theorem dX10_bridgeOf_58 : decode cX10_bridgeOf 58 = .ok (.bipush (-9), 2) := by decide +kernel
theorem dX10_bridgeOf_60 : decode cX10_bridgeOf 60 = .ok (.ireturn, 1) := by decide +kernel
theorem dX10_bridgeOf_61 : decode cX10_bridgeOf 61 = .ok (.iload_n 1, 1) := by decide +kernel
theorem dX10_bridgeOf_62 : decode cX10_bridgeOf 62 = .ok (.i2l, 1) := by decide +kernel
theorem dX10_bridgeOf_63 : decode cX10_bridgeOf 63 = .ok (.ldc2_w 97, 3) := by decide +kernel
theorem dX10_bridgeOf_66 : decode cX10_bridgeOf 66 = .ok (.ldc2_w 99, 3) := by decide +kernel
theorem dX10_bridgeOf_69 : decode cX10_bridgeOf 69 = .ok (.invokestatic 64, 3) := by decide +kernel
theorem dX10_bridgeOf_72 : decode cX10_bridgeOf 72 = .ok (.ifCond .eq 10, 3) := by decide +kernel
theorem dX10_bridgeOf_75 : decode cX10_bridgeOf 75 = .ok (.iload_n 1, 1) := by decide +kernel
theorem dX10_bridgeOf_76 : decode cX10_bridgeOf 76 = .ok (.bipush 97, 2) := by decide +kernel
theorem dX10_bridgeOf_78 : decode cX10_bridgeOf 78 = .ok (.isub, 1) := by decide +kernel
theorem dX10_bridgeOf_79 : decode cX10_bridgeOf 79 = .ok (.goto 5, 3) := by decide +kernel
theorem dX10_bridgeOf_82 : decode cX10_bridgeOf 82 = .ok (.bipush (-9), 2) := by decide +kernel
theorem dX10_bridgeOf_84 : decode cX10_bridgeOf 84 = .ok (.ireturn, 1) := by decide +kernel
theorem dX10_bridgeOf_85 : decode cX10_bridgeOf 85 = .ok (.iload_n 1, 1) := by decide +kernel
theorem dX10_bridgeOf_86 : decode cX10_bridgeOf 86 = .ok (.i2l, 1) := by decide +kernel
theorem dX10_bridgeOf_87 : decode cX10_bridgeOf 87 = .ok (.ldc2_w 101, 3) := by decide +kernel
theorem dX10_bridgeOf_90 : decode cX10_bridgeOf 90 = .ok (.ldc2_w 103, 3) := by decide +kernel
theorem dX10_bridgeOf_93 : decode cX10_bridgeOf 93 = .ok (.invokestatic 64, 3) := by decide +kernel
theorem dX10_bridgeOf_96 : decode cX10_bridgeOf 96 = .ok (.ifCond .eq 10, 3) := by decide +kernel
theorem dX10_bridgeOf_99 : decode cX10_bridgeOf 99 = .ok (.iload_n 1, 1) := by decide +kernel
theorem dX10_bridgeOf_100 : decode cX10_bridgeOf 100 = .ok (.bipush 48, 2) := by decide +kernel
theorem dX10_bridgeOf_102 : decode cX10_bridgeOf 102 = .ok (.isub, 1) := by decide +kernel
theorem dX10_bridgeOf_103 : decode cX10_bridgeOf 103 = .ok (.goto 5, 3) := by decide +kernel
theorem dX10_bridgeOf_106 : decode cX10_bridgeOf 106 = .ok (.bipush (-9), 2) := by decide +kernel
theorem dX10_bridgeOf_108 : decode cX10_bridgeOf 108 = .ok (.ireturn, 1) := by decide +kernel
theorem dX10_bridgeOf_109 : decode cX10_bridgeOf 109 = .ok (.iload_n 1, 1) := by decide +kernel
theorem dX10_bridgeOf_110 : decode cX10_bridgeOf 110 = .ok (.bipush 59, 2) := by decide +kernel
theorem dX10_bridgeOf_112 : decode cX10_bridgeOf 112 = .ok (.if_icmp .ne 7, 3) := by decide +kernel
theorem dX10_bridgeOf_115 : decode cX10_bridgeOf 115 = .ok (.iconst 0, 1) := by decide +kernel
theorem dX10_bridgeOf_116 : decode cX10_bridgeOf 116 = .ok (.goto 5, 3) := by decide +kernel
theorem dX10_bridgeOf_119 : decode cX10_bridgeOf 119 = .ok (.bipush (-9), 2) := by decide +kernel
theorem dX10_bridgeOf_121 : decode cX10_bridgeOf 121 = .ok (.ireturn, 1) := by decide +kernel
theorem dX10_readsBridges_0 : decode cX10_readsBridges 0 = .ok (.aload_n 0, 1) := by decide +kernel
theorem dX10_readsBridges_1 : decode cX10_readsBridges 1 = .ok (.iconst 0, 1) := by decide +kernel
theorem dX10_readsBridges_2 : decode cX10_readsBridges 2 = .ok (.putfield 105, 3) := by decide +kernel
theorem dX10_readsBridges_5 : decode cX10_readsBridges 5 = .ok (.aload_n 0, 1) := by decide +kernel
theorem dX10_readsBridges_6 : decode cX10_readsBridges 6 = .ok (.getfield 25, 3) := by decide +kernel
theorem dX10_readsBridges_9 : decode cX10_readsBridges 9 = .ok (.iconst 0, 1) := by decide +kernel
theorem dX10_readsBridges_10 : decode cX10_readsBridges 10 = .ok (.iaload, 1) := by decide +kernel
theorem dX10_readsBridges_11 : decode cX10_readsBridges 11 = .ok (.istore_n 1, 1) := by decide +kernel
theorem dX10_readsBridges_12 : decode cX10_readsBridges 12 = .ok (.iconst 0, 1) := by decide +kernel
theorem dX10_readsBridges_13 : decode cX10_readsBridges 13 = .ok (.istore_n 2, 1) := by decide +kernel
theorem dX10_readsBridges_14 : decode cX10_readsBridges 14 = .ok (.iload_n 2, 1) := by decide +kernel
theorem dX10_readsBridges_15 : decode cX10_readsBridges 15 = .ok (.iload_n 1, 1) := by decide +kernel
theorem dX10_readsBridges_16 : decode cX10_readsBridges 16 = .ok (.if_icmp .ge 77, 3) := by decide +kernel
theorem dX10_readsBridges_19 : decode cX10_readsBridges 19 = .ok (.iload_n 2, 1) := by decide +kernel
theorem dX10_readsBridges_20 : decode cX10_readsBridges 20 = .ok (.iconst 4, 1) := by decide +kernel
theorem dX10_readsBridges_21 : decode cX10_readsBridges 21 = .ok (.irem, 1) := by decide +kernel
theorem dX10_readsBridges_22 : decode cX10_readsBridges 22 = .ok (.istore_n 3, 1) := by decide +kernel
theorem dX10_readsBridges_23 : decode cX10_readsBridges 23 = .ok (.iload_n 3, 1) := by decide +kernel
theorem dX10_readsBridges_24 : decode cX10_readsBridges 24 = .ok (.aload_n 0, 1) := by decide +kernel
theorem dX10_readsBridges_25 : decode cX10_readsBridges 25 = .ok (.getfield 22, 3) := by decide +kernel
theorem dX10_readsBridges_28 : decode cX10_readsBridges 28 = .ok (.iload_n 2, 1) := by decide +kernel
theorem dX10_readsBridges_29 : decode cX10_readsBridges 29 = .ok (.iaload, 1) := by decide +kernel
theorem dX10_readsBridges_30 : decode cX10_readsBridges 30 = .ok (.invokestatic 108, 3) := by decide +kernel
theorem dX10_readsBridges_33 : decode cX10_readsBridges 33 = .ok (.istore 4, 2) := by decide +kernel
theorem dX10_readsBridges_35 : decode cX10_readsBridges 35 = .ok (.iload 4, 2) := by decide +kernel
theorem dX10_readsBridges_37 : decode cX10_readsBridges 37 = .ok (.bipush (-9), 2) := by decide +kernel
theorem dX10_readsBridges_39 : decode cX10_readsBridges 39 = .ok (.if_icmp .ne 10, 3) := by decide +kernel
theorem dX10_readsBridges_42 : decode cX10_readsBridges 42 = .ok (.aload_n 0, 1) := by decide +kernel
theorem dX10_readsBridges_43 : decode cX10_readsBridges 43 = .ok (.iconst 0, 1) := by decide +kernel
theorem dX10_readsBridges_44 : decode cX10_readsBridges 44 = .ok (.putfield 105, 3) := by decide +kernel
theorem dX10_readsBridges_47 : decode cX10_readsBridges 47 = .ok (.iload_n 2, 1) := by decide +kernel
theorem dX10_readsBridges_48 : decode cX10_readsBridges 48 = .ok (.ireturn, 1) := by decide +kernel
theorem dX10_readsBridges_49 : decode cX10_readsBridges 49 = .ok (.iload_n 3, 1) := by decide +kernel
theorem dX10_readsBridges_50 : decode cX10_readsBridges 50 = .ok (.iconst 3, 1) := by decide +kernel
theorem dX10_readsBridges_51 : decode cX10_readsBridges 51 = .ok (.if_icmp .ge 17, 3) := by decide +kernel
theorem dX10_readsBridges_54 : decode cX10_readsBridges 54 = .ok (.aload_n 0, 1) := by decide +kernel
theorem dX10_readsBridges_55 : decode cX10_readsBridges 55 = .ok (.getfield 28, 3) := by decide +kernel
theorem dX10_readsBridges_58 : decode cX10_readsBridges 58 = .ok (.iconst 3, 1) := by decide +kernel
theorem dX10_readsBridges_59 : decode cX10_readsBridges 59 = .ok (.iload_n 2, 1) := by decide +kernel
theorem dX10_readsBridges_60 : decode cX10_readsBridges 60 = .ok (.iconst 4, 1) := by decide +kernel
theorem dX10_readsBridges_61 : decode cX10_readsBridges 61 = .ok (.idiv, 1) := by decide +kernel
theorem dX10_readsBridges_62 : decode cX10_readsBridges 62 = .ok (.imul, 1) := by decide +kernel
theorem dX10_readsBridges_63 : decode cX10_readsBridges 63 = .ok (.iload_n 3, 1) := by decide +kernel
theorem dX10_readsBridges_64 : decode cX10_readsBridges 64 = .ok (.iadd, 1) := by decide +kernel
theorem dX10_readsBridges_65 : decode cX10_readsBridges 65 = .ok (.iload 4, 2) := by decide +kernel
theorem dX10_readsBridges_67 : decode cX10_readsBridges 67 = .ok (.iastore, 1) := by decide +kernel
theorem dX10_readsBridges_68 : decode cX10_readsBridges 68 = .ok (.aload_n 0, 1) := by decide +kernel
theorem dX10_readsBridges_69 : decode cX10_readsBridges 69 = .ok (.dup, 1) := by decide +kernel
theorem dX10_readsBridges_70 : decode cX10_readsBridges 70 = .ok (.getfield 105, 3) := by decide +kernel
theorem dX10_readsBridges_73 : decode cX10_readsBridges 73 = .ok (.iload_n 3, 1) := by decide +kernel
theorem dX10_readsBridges_74 : decode cX10_readsBridges 74 = .ok (.iconst 2, 1) := by decide +kernel
theorem dX10_readsBridges_75 : decode cX10_readsBridges 75 = .ok (.if_icmp .ne 7, 3) := by decide +kernel
theorem dX10_readsBridges_78 : decode cX10_readsBridges 78 = .ok (.iconst 1, 1) := by decide +kernel
theorem dX10_readsBridges_79 : decode cX10_readsBridges 79 = .ok (.goto 4, 3) := by decide +kernel
theorem dX10_readsBridges_82 : decode cX10_readsBridges 82 = .ok (.iconst 0, 1) := by decide +kernel
theorem dX10_readsBridges_83 : decode cX10_readsBridges 83 = .ok (.iadd, 1) := by decide +kernel
theorem dX10_readsBridges_84 : decode cX10_readsBridges 84 = .ok (.putfield 105, 3) := by decide +kernel
theorem dX10_readsBridges_87 : decode cX10_readsBridges 87 = .ok (.iinc 2 1, 3) := by decide +kernel
theorem dX10_readsBridges_90 : decode cX10_readsBridges 90 = .ok (.goto (-76), 3) := by decide +kernel
theorem dX10_readsBridges_93 : decode cX10_readsBridges 93 = .ok (.iload_n 1, 1) := by decide +kernel
theorem dX10_readsBridges_94 : decode cX10_readsBridges 94 = .ok (.ifCond .le 17, 3) := by decide +kernel
theorem dX10_readsBridges_97 : decode cX10_readsBridges 97 = .ok (.iload_n 1, 1) := by decide +kernel
theorem dX10_readsBridges_98 : decode cX10_readsBridges 98 = .ok (.iconst 4, 1) := by decide +kernel
theorem dX10_readsBridges_99 : decode cX10_readsBridges 99 = .ok (.irem, 1) := by decide +kernel
theorem dX10_readsBridges_100 : decode cX10_readsBridges 100 = .ok (.iconst 3, 1) := by decide +kernel
theorem dX10_readsBridges_101 : decode cX10_readsBridges 101 = .ok (.if_icmp .eq 10, 3) := by decide +kernel
theorem dX10_readsBridges_104 : decode cX10_readsBridges 104 = .ok (.aload_n 0, 1) := by decide +kernel
theorem dX10_readsBridges_105 : decode cX10_readsBridges 105 = .ok (.iconst 0, 1) := by decide +kernel
theorem dX10_readsBridges_106 : decode cX10_readsBridges 106 = .ok (.putfield 105, 3) := by decide +kernel
theorem dX10_readsBridges_109 : decode cX10_readsBridges 109 = .ok (.iload_n 1, 1) := by decide +kernel
theorem dX10_readsBridges_110 : decode cX10_readsBridges 110 = .ok (.ireturn, 1) := by decide +kernel
theorem dX10_readsBridges_111 : decode cX10_readsBridges 111 = .ok (.iconst (-1), 1) := by decide +kernel
theorem dX10_readsBridges_112 : decode cX10_readsBridges 112 = .ok (.ireturn, 1) := by decide +kernel
theorem dX10_bares_0 : decode cX10_bares 0 = .ok (.iconst 0, 1) := by decide +kernel
theorem dX10_bares_1 : decode cX10_bares 1 = .ok (.istore_n 2, 1) := by decide +kernel
theorem dX10_bares_2 : decode cX10_bares 2 = .ok (.iload_n 2, 1) := by decide +kernel
theorem dX10_bares_3 : decode cX10_bares 3 = .ok (.bipush 7, 2) := by decide +kernel
theorem dX10_bares_5 : decode cX10_bares 5 = .ok (.if_icmp .ge 21, 3) := by decide +kernel
theorem dX10_bares_8 : decode cX10_bares 8 = .ok (.aload_n 0, 1) := by decide +kernel
theorem dX10_bares_9 : decode cX10_bares 9 = .ok (.getfield 31, 3) := by decide +kernel
theorem dX10_bares_12 : decode cX10_bares 12 = .ok (.bipush 7, 2) := by decide +kernel
theorem dX10_bares_14 : decode cX10_bares 14 = .ok (.iload_n 1, 1) := by decide +kernel
theorem dX10_bares_15 : decode cX10_bares 15 = .ok (.imul, 1) := by decide +kernel
theorem dX10_bares_16 : decode cX10_bares 16 = .ok (.iload_n 2, 1) := by decide +kernel
theorem dX10_bares_17 : decode cX10_bares 17 = .ok (.iadd, 1) := by decide +kernel
theorem dX10_bares_18 : decode cX10_bares 18 = .ok (.iconst 0, 1) := by decide +kernel
theorem dX10_bares_19 : decode cX10_bares 19 = .ok (.iastore, 1) := by decide +kernel
theorem dX10_bares_20 : decode cX10_bares 20 = .ok (.iinc 2 1, 3) := by decide +kernel
theorem dX10_bares_23 : decode cX10_bares 23 = .ok (.goto (-21), 3) := by decide +kernel
theorem dX10_bares_26 : decode cX10_bares 26 = .ok (.return_, 1) := by decide +kernel
theorem dX10_readsBoats_0 : decode cX10_readsBoats 0 = .ok (.aload_n 0, 1) := by decide +kernel
theorem dX10_readsBoats_1 : decode cX10_readsBoats 1 = .ok (.iconst 0, 1) := by decide +kernel
theorem dX10_readsBoats_2 : decode cX10_readsBoats 2 = .ok (.putfield 111, 3) := by decide +kernel
theorem dX10_readsBoats_5 : decode cX10_readsBoats 5 = .ok (.aload_n 0, 1) := by decide +kernel
theorem dX10_readsBoats_6 : decode cX10_readsBoats 6 = .ok (.getfield 25, 3) := by decide +kernel
theorem dX10_readsBoats_9 : decode cX10_readsBoats 9 = .ok (.iconst 1, 1) := by decide +kernel
theorem dX10_readsBoats_10 : decode cX10_readsBoats 10 = .ok (.iaload, 1) := by decide +kernel
theorem dX10_readsBoats_11 : decode cX10_readsBoats 11 = .ok (.istore_n 1, 1) := by decide +kernel
theorem dX10_readsBoats_12 : decode cX10_readsBoats 12 = .ok (.iconst 0, 1) := by decide +kernel
theorem dX10_readsBoats_13 : decode cX10_readsBoats 13 = .ok (.istore_n 2, 1) := by decide +kernel
theorem dX10_readsBoats_14 : decode cX10_readsBoats 14 = .ok (.iconst 0, 1) := by decide +kernel
theorem dX10_readsBoats_15 : decode cX10_readsBoats 15 = .ok (.istore_n 3, 1) := by decide +kernel
theorem dX10_readsBoats_16 : decode cX10_readsBoats 16 = .ok (.aload_n 0, 1) := by decide +kernel
theorem dX10_readsBoats_17 : decode cX10_readsBoats 17 = .ok (.iconst 0, 1) := by decide +kernel
theorem dX10_readsBoats_18 : decode cX10_readsBoats 18 = .ok (.invokevirtual 114, 3) := by decide +kernel
theorem dX10_readsBoats_21 : decode cX10_readsBoats 21 = .ok (.iconst 0, 1) := by decide +kernel
theorem dX10_readsBoats_22 : decode cX10_readsBoats 22 = .ok (.istore 4, 2) := by decide +kernel
theorem dX10_readsBoats_24 : decode cX10_readsBoats 24 = .ok (.iload 4, 2) := by decide +kernel
theorem dX10_readsBoats_26 : decode cX10_readsBoats 26 = .ok (.iload_n 1, 1) := by decide +kernel
theorem dX10_readsBoats_27 : decode cX10_readsBoats 27 = .ok (.if_icmp .ge 230, 3) := by decide +kernel
theorem dX10_readsBoats_30 : decode cX10_readsBoats 30 = .ok (.aload_n 0, 1) := by decide +kernel
theorem dX10_readsBoats_31 : decode cX10_readsBoats 31 = .ok (.getfield 22, 3) := by decide +kernel
theorem dX10_readsBoats_34 : decode cX10_readsBoats 34 = .ok (.bipush 64, 2) := by decide +kernel
theorem dX10_readsBoats_36 : decode cX10_readsBoats 36 = .ok (.iload 4, 2) := by decide +kernel
theorem dX10_readsBoats_38 : decode cX10_readsBoats 38 = .ok (.iadd, 1) := by decide +kernel
theorem dX10_readsBoats_39 : decode cX10_readsBoats 39 = .ok (.iaload, 1) := by decide +kernel
theorem dX10_readsBoats_40 : decode cX10_readsBoats 40 = .ok (.istore 5, 2) := by decide +kernel
theorem dX10_readsBoats_42 : decode cX10_readsBoats 42 = .ok (.iload_n 3, 1) := by decide +kernel
theorem dX10_readsBoats_43 : decode cX10_readsBoats 43 = .ok (.ifCond .ne 37, 3) := by decide +kernel
theorem dX10_readsBoats_46 : decode cX10_readsBoats 46 = .ok (.iload 5, 2) := by decide +kernel
theorem dX10_readsBoats_48 : decode cX10_readsBoats 48 = .ok (.i2l, 1) := by decide +kernel
theorem dX10_readsBoats_49 : decode cX10_readsBoats 49 = .ok (.ldc2_w 97, 3) := by decide +kernel
theorem dX10_readsBoats_52 : decode cX10_readsBoats 52 = .ok (.ldc2_w 99, 3) := by decide +kernel
theorem dX10_readsBoats_55 : decode cX10_readsBoats 55 = .ok (.invokestatic 64, 3) := by decide +kernel
theorem dX10_readsBoats_58 : decode cX10_readsBoats 58 = .ok (.ifCond .eq 22, 3) := by decide +kernel
theorem dX10_readsBoats_61 : decode cX10_readsBoats 61 = .ok (.iload_n 2, 1) := by decide +kernel
theorem dX10_readsBoats_62 : decode cX10_readsBoats 62 = .ok (.bipush 6, 2) := by decide +kernel
theorem dX10_readsBoats_64 : decode cX10_readsBoats 64 = .ok (.if_icmp .ge 16, 3) := by decide +kernel
theorem dX10_readsBoats_67 : decode cX10_readsBoats 67 = .ok (.aload_n 0, 1) := by decide +kernel
theorem dX10_readsBoats_68 : decode cX10_readsBoats 68 = .ok (.getfield 111, 3) := by decide +kernel
theorem dX10_readsBoats_71 : decode cX10_readsBoats 71 = .ok (.bipush 8, 2) := by decide +kernel
theorem dX10_readsBoats_73 : decode cX10_readsBoats 73 = .ok (.if_icmp .ge 7, 3) := by decide +kernel
theorem dX10_readsBoats_76 : decode cX10_readsBoats 76 = .ok (.iconst 1, 1) := by decide +kernel
theorem dX10_readsBoats_77 : decode cX10_readsBoats 77 = .ok (.goto 4, 3) := by decide +kernel
theorem dX10_readsBoats_80 : decode cX10_readsBoats 80 = .ok (.iconst 0, 1) := by decide +kernel
theorem dX10_readsBoats_81 : decode cX10_readsBoats 81 = .ok (.istore 6, 2) := by decide +kernel
theorem dX10_readsBoats_83 : decode cX10_readsBoats 83 = .ok (.iload_n 3, 1) := by decide +kernel
theorem dX10_readsBoats_84 : decode cX10_readsBoats 84 = .ok (.ifCond .ne 31, 3) := by decide +kernel
theorem dX10_readsBoats_87 : decode cX10_readsBoats 87 = .ok (.iload 5, 2) := by decide +kernel
theorem dX10_readsBoats_89 : decode cX10_readsBoats 89 = .ok (.i2l, 1) := by decide +kernel
theorem dX10_readsBoats_90 : decode cX10_readsBoats 90 = .ok (.ldc2_w 118, 3) := by decide +kernel
theorem dX10_readsBoats_93 : decode cX10_readsBoats 93 = .ok (.ldc2_w 103, 3) := by decide +kernel
theorem dX10_readsBoats_96 : decode cX10_readsBoats 96 = .ok (.invokestatic 64, 3) := by decide +kernel
theorem dX10_readsBoats_99 : decode cX10_readsBoats 99 = .ok (.ifCond .eq 16, 3) := by decide +kernel
theorem dX10_readsBoats_102 : decode cX10_readsBoats 102 = .ok (.aload_n 0, 1) := by decide +kernel
theorem dX10_readsBoats_103 : decode cX10_readsBoats 103 = .ok (.getfield 111, 3) := by decide +kernel
theorem dX10_readsBoats_106 : decode cX10_readsBoats 106 = .ok (.bipush 8, 2) := by decide +kernel
theorem dX10_readsBoats_108 : decode cX10_readsBoats 108 = .ok (.if_icmp .ge 7, 3) := by decide +kernel
theorem dX10_readsBoats_111 : decode cX10_readsBoats 111 = .ok (.iconst 1, 1) := by decide +kernel
theorem dX10_readsBoats_112 : decode cX10_readsBoats 112 = .ok (.goto 4, 3) := by decide +kernel
theorem dX10_readsBoats_115 : decode cX10_readsBoats 115 = .ok (.iconst 0, 1) := by decide +kernel
theorem dX10_readsBoats_116 : decode cX10_readsBoats 116 = .ok (.istore 7, 2) := by decide +kernel
theorem dX10_readsBoats_118 : decode cX10_readsBoats 118 = .ok (.iload_n 3, 1) := by decide +kernel
theorem dX10_readsBoats_119 : decode cX10_readsBoats 119 = .ok (.ifCond .eq 14, 3) := by decide +kernel
theorem dX10_readsBoats_122 : decode cX10_readsBoats 122 = .ok (.iload 5, 2) := by decide +kernel
theorem dX10_readsBoats_124 : decode cX10_readsBoats 124 = .ok (.bipush 59, 2) := by decide +kernel
theorem dX10_readsBoats_126 : decode cX10_readsBoats 126 = .ok (.if_icmp .ne 7, 3) := by decide +kernel
theorem dX10_readsBoats_129 : decode cX10_readsBoats 129 = .ok (.iconst 1, 1) := by decide +kernel
theorem dX10_readsBoats_130 : decode cX10_readsBoats 130 = .ok (.goto 4, 3) := by decide +kernel
theorem dX10_readsBoats_133 : decode cX10_readsBoats 133 = .ok (.iconst 0, 1) := by decide +kernel
theorem dX10_readsBoats_134 : decode cX10_readsBoats 134 = .ok (.istore 8, 2) := by decide +kernel
theorem dX10_readsBoats_136 : decode cX10_readsBoats 136 = .ok (.iload 6, 2) := by decide +kernel
theorem dX10_readsBoats_138 : decode cX10_readsBoats 138 = .ok (.ifCond .ne 21, 3) := by decide +kernel
theorem dX10_readsBoats_141 : decode cX10_readsBoats 141 = .ok (.iload 7, 2) := by decide +kernel
theorem dX10_readsBoats_143 : decode cX10_readsBoats 143 = .ok (.ifCond .ne 16, 3) := by decide +kernel
theorem dX10_readsBoats_146 : decode cX10_readsBoats 146 = .ok (.iload 8, 2) := by decide +kernel
theorem dX10_readsBoats_148 : decode cX10_readsBoats 148 = .ok (.ifCond .ne 11, 3) := by decide +kernel
theorem dX10_readsBoats_151 : decode cX10_readsBoats 151 = .ok (.aload_n 0, 1) := by decide +kernel
theorem dX10_readsBoats_152 : decode cX10_readsBoats 152 = .ok (.iconst 0, 1) := by decide +kernel
theorem dX10_readsBoats_153 : decode cX10_readsBoats 153 = .ok (.putfield 111, 3) := by decide +kernel
theorem dX10_readsBoats_156 : decode cX10_readsBoats 156 = .ok (.iload 4, 2) := by decide +kernel
theorem dX10_readsBoats_158 : decode cX10_readsBoats 158 = .ok (.ireturn, 1) := by decide +kernel
theorem dX10_readsBoats_159 : decode cX10_readsBoats 159 = .ok (.iload 6, 2) := by decide +kernel
theorem dX10_readsBoats_161 : decode cX10_readsBoats 161 = .ok (.ifCond .eq 28, 3) := by decide +kernel
theorem dX10_readsBoats_164 : decode cX10_readsBoats 164 = .ok (.aload_n 0, 1) := by decide +kernel
theorem dX10_readsBoats_165 : decode cX10_readsBoats 165 = .ok (.getfield 31, 3) := by decide +kernel
theorem dX10_readsBoats_168 : decode cX10_readsBoats 168 = .ok (.bipush 7, 2) := by decide +kernel
theorem dX10_readsBoats_170 : decode cX10_readsBoats 170 = .ok (.aload_n 0, 1) := by decide +kernel
theorem dX10_readsBoats_171 : decode cX10_readsBoats 171 = .ok (.getfield 111, 3) := by decide +kernel
theorem dX10_readsBoats_174 : decode cX10_readsBoats 174 = .ok (.imul, 1) := by decide +kernel
theorem dX10_readsBoats_175 : decode cX10_readsBoats 175 = .ok (.iload 5, 2) := by decide +kernel
theorem dX10_readsBoats_177 : decode cX10_readsBoats 177 = .ok (.iadd, 1) := by decide +kernel
theorem dX10_readsBoats_178 : decode cX10_readsBoats 178 = .ok (.bipush 97, 2) := by decide +kernel
theorem dX10_readsBoats_180 : decode cX10_readsBoats 180 = .ok (.isub, 1) := by decide +kernel
theorem dX10_readsBoats_181 : decode cX10_readsBoats 181 = .ok (.dup2, 1) := by decide +kernel
theorem dX10_readsBoats_182 : decode cX10_readsBoats 182 = .ok (.iaload, 1) := by decide +kernel
theorem dX10_readsBoats_183 : decode cX10_readsBoats 183 = .ok (.iconst 1, 1) := by decide +kernel
theorem dX10_readsBoats_184 : decode cX10_readsBoats 184 = .ok (.iadd, 1) := by decide +kernel
theorem dX10_readsBoats_185 : decode cX10_readsBoats 185 = .ok (.iastore, 1) := by decide +kernel
theorem dX10_readsBoats_186 : decode cX10_readsBoats 186 = .ok (.iinc 2 1, 3) := by decide +kernel
theorem dX10_readsBoats_189 : decode cX10_readsBoats 189 = .ok (.iload 7, 2) := by decide +kernel
theorem dX10_readsBoats_191 : decode cX10_readsBoats 191 = .ok (.ifCond .eq 33, 3) := by decide +kernel
theorem dX10_readsBoats_194 : decode cX10_readsBoats 194 = .ok (.aload_n 0, 1) := by decide +kernel
theorem dX10_readsBoats_195 : decode cX10_readsBoats 195 = .ok (.getfield 31, 3) := by decide +kernel
theorem dX10_readsBoats_198 : decode cX10_readsBoats 198 = .ok (.bipush 7, 2) := by decide +kernel
theorem dX10_readsBoats_200 : decode cX10_readsBoats 200 = .ok (.aload_n 0, 1) := by decide +kernel
theorem dX10_readsBoats_201 : decode cX10_readsBoats 201 = .ok (.getfield 111, 3) := by decide +kernel
theorem dX10_readsBoats_204 : decode cX10_readsBoats 204 = .ok (.imul, 1) := by decide +kernel
theorem dX10_readsBoats_205 : decode cX10_readsBoats 205 = .ok (.bipush 6, 2) := by decide +kernel
theorem dX10_readsBoats_207 : decode cX10_readsBoats 207 = .ok (.iadd, 1) := by decide +kernel
theorem dX10_readsBoats_208 : decode cX10_readsBoats 208 = .ok (.iload 5, 2) := by decide +kernel
theorem dX10_readsBoats_210 : decode cX10_readsBoats 210 = .ok (.bipush 48, 2) := by decide +kernel
theorem dX10_readsBoats_212 : decode cX10_readsBoats 212 = .ok (.isub, 1) := by decide +kernel
theorem dX10_readsBoats_213 : decode cX10_readsBoats 213 = .ok (.iastore, 1) := by decide +kernel
theorem dX10_readsBoats_214 : decode cX10_readsBoats 214 = .ok (.aload_n 0, 1) := by decide +kernel
theorem dX10_readsBoats_215 : decode cX10_readsBoats 215 = .ok (.dup, 1) := by decide +kernel
theorem dX10_readsBoats_216 : decode cX10_readsBoats 216 = .ok (.getfield 111, 3) := by decide +kernel
theorem dX10_readsBoats_219 : decode cX10_readsBoats 219 = .ok (.iconst 1, 1) := by decide +kernel
theorem dX10_readsBoats_220 : decode cX10_readsBoats 220 = .ok (.iadd, 1) := by decide +kernel
theorem dX10_readsBoats_221 : decode cX10_readsBoats 221 = .ok (.putfield 111, 3) := by decide +kernel
theorem dX10_readsBoats_224 : decode cX10_readsBoats 224 = .ok (.iload 8, 2) := by decide +kernel
theorem dX10_readsBoats_226 : decode cX10_readsBoats 226 = .ok (.ifCond .eq 22, 3) := by decide +kernel
theorem dX10_readsBoats_229 : decode cX10_readsBoats 229 = .ok (.aload_n 0, 1) := by decide +kernel
theorem dX10_readsBoats_230 : decode cX10_readsBoats 230 = .ok (.getfield 111, 3) := by decide +kernel
theorem dX10_readsBoats_233 : decode cX10_readsBoats 233 = .ok (.bipush 8, 2) := by decide +kernel
theorem dX10_readsBoats_235 : decode cX10_readsBoats 235 = .ok (.if_icmp .ge 13, 3) := by decide +kernel
theorem dX10_readsBoats_238 : decode cX10_readsBoats 238 = .ok (.aload_n 0, 1) := by decide +kernel
theorem dX10_readsBoats_239 : decode cX10_readsBoats 239 = .ok (.aload_n 0, 1) := by decide +kernel
theorem dX10_readsBoats_240 : decode cX10_readsBoats 240 = .ok (.getfield 111, 3) := by decide +kernel
theorem dX10_readsBoats_243 : decode cX10_readsBoats 243 = .ok (.invokevirtual 114, 3) := by decide +kernel
theorem dX10_readsBoats_246 : decode cX10_readsBoats 246 = .ok (.iconst 0, 1) := by decide +kernel
theorem dX10_readsBoats_247 : decode cX10_readsBoats 247 = .ok (.istore_n 2, 1) := by decide +kernel
theorem dX10_readsBoats_248 : decode cX10_readsBoats 248 = .ok (.iload 7, 2) := by decide +kernel
theorem dX10_readsBoats_250 : decode cX10_readsBoats 250 = .ok (.istore_n 3, 1) := by decide +kernel
theorem dX10_readsBoats_251 : decode cX10_readsBoats 251 = .ok (.iinc 4 1, 3) := by decide +kernel
theorem dX10_readsBoats_254 : decode cX10_readsBoats 254 = .ok (.goto (-230), 3) := by decide +kernel
theorem dX10_readsBoats_257 : decode cX10_readsBoats 257 = .ok (.iload_n 1, 1) := by decide +kernel
theorem dX10_readsBoats_258 : decode cX10_readsBoats 258 = .ok (.ifCond .le 14, 3) := by decide +kernel
theorem dX10_readsBoats_261 : decode cX10_readsBoats 261 = .ok (.iload_n 3, 1) := by decide +kernel
theorem dX10_readsBoats_262 : decode cX10_readsBoats 262 = .ok (.ifCond .ne 10, 3) := by decide +kernel
theorem dX10_readsBoats_265 : decode cX10_readsBoats 265 = .ok (.aload_n 0, 1) := by decide +kernel
theorem dX10_readsBoats_266 : decode cX10_readsBoats 266 = .ok (.iconst 0, 1) := by decide +kernel
theorem dX10_readsBoats_267 : decode cX10_readsBoats 267 = .ok (.putfield 111, 3) := by decide +kernel
theorem dX10_readsBoats_270 : decode cX10_readsBoats 270 = .ok (.iload_n 1, 1) := by decide +kernel
theorem dX10_readsBoats_271 : decode cX10_readsBoats 271 = .ok (.ireturn, 1) := by decide +kernel
theorem dX10_readsBoats_272 : decode cX10_readsBoats 272 = .ok (.iconst (-1), 1) := by decide +kernel
theorem dX10_readsBoats_273 : decode cX10_readsBoats 273 = .ok (.ireturn, 1) := by decide +kernel
theorem dX10_fault_0 : decode cX10_fault 0 = .ok (.iload_n 1, 1) := by decide +kernel
theorem dX10_fault_1 : decode cX10_fault 1 = .ok (.invokestatic 92, 3) := by decide +kernel
theorem dX10_fault_4 : decode cX10_fault 4 = .ok (.ifCond .ne 8, 3) := by decide +kernel
theorem dX10_fault_7 : decode cX10_fault 7 = .ok (.bipush (-2), 2) := by decide +kernel
theorem dX10_fault_9 : decode cX10_fault 9 = .ok (.goto 18, 3) := by decide +kernel
theorem dX10_fault_12 : decode cX10_fault 12 = .ok (.iload_n 1, 1) := by decide +kernel
theorem dX10_fault_13 : decode cX10_fault 13 = .ok (.ifCond .ne 10, 3) := by decide +kernel
theorem dX10_fault_16 : decode cX10_fault 16 = .ok (.aload_n 0, 1) := by decide +kernel
theorem dX10_fault_17 : decode cX10_fault 17 = .ok (.invokevirtual 120, 3) := by decide +kernel
theorem dX10_fault_20 : decode cX10_fault 20 = .ok (.goto 7, 3) := by decide +kernel
theorem dX10_fault_23 : decode cX10_fault 23 = .ok (.aload_n 0, 1) := by decide +kernel
theorem dX10_fault_24 : decode cX10_fault 24 = .ok (.invokevirtual 124, 3) := by decide +kernel
theorem dX10_fault_27 : decode cX10_fault 27 = .ok (.ireturn, 1) := by decide +kernel
theorem dX10_find_0 : decode cX10_find 0 = .ok (.aload_n 0, 1) := by decide +kernel
theorem dX10_find_1 : decode cX10_find 1 = .ok (.invokevirtual 120, 3) := by decide +kernel
theorem dX10_find_4 : decode cX10_find 4 = .ok (.pop, 1) := by decide +kernel
theorem dX10_find_5 : decode cX10_find 5 = .ok (.aload_n 0, 1) := by decide +kernel
theorem dX10_find_6 : decode cX10_find 6 = .ok (.invokevirtual 124, 3) := by decide +kernel
theorem dX10_find_9 : decode cX10_find 9 = .ok (.pop, 1) := by decide +kernel
theorem dX10_find_10 : decode cX10_find 10 = .ok (.return_, 1) := by decide +kernel
theorem dX10_isBridge_0 : decode cX10_isBridge 0 = .ok (.iload_n 1, 1) := by decide +kernel
theorem dX10_isBridge_1 : decode cX10_isBridge 1 = .ok (.i2l, 1) := by decide +kernel
theorem dX10_isBridge_2 : decode cX10_isBridge 2 = .ok (.lconst 0, 1) := by decide +kernel
theorem dX10_isBridge_3 : decode cX10_isBridge 3 = .ok (.aload_n 0, 1) := by decide +kernel
theorem dX10_isBridge_4 : decode cX10_isBridge 4 = .ok (.getfield 105, 3) := by decide +kernel
theorem dX10_isBridge_7 : decode cX10_isBridge 7 = .ok (.iconst 1, 1) := by decide +kernel
theorem dX10_isBridge_8 : decode cX10_isBridge 8 = .ok (.isub, 1) := by decide +kernel
theorem dX10_isBridge_9 : decode cX10_isBridge 9 = .ok (.i2l, 1) := by decide +kernel
theorem dX10_isBridge_10 : decode cX10_isBridge 10 = .ok (.invokestatic 64, 3) := by decide +kernel
theorem dX10_isBridge_13 : decode cX10_isBridge 13 = .ok (.ireturn, 1) := by decide +kernel
theorem dX10_isBoat_0 : decode cX10_isBoat 0 = .ok (.iload_n 1, 1) := by decide +kernel
theorem dX10_isBoat_1 : decode cX10_isBoat 1 = .ok (.i2l, 1) := by decide +kernel
theorem dX10_isBoat_2 : decode cX10_isBoat 2 = .ok (.lconst 0, 1) := by decide +kernel
theorem dX10_isBoat_3 : decode cX10_isBoat 3 = .ok (.aload_n 0, 1) := by decide +kernel
theorem dX10_isBoat_4 : decode cX10_isBoat 4 = .ok (.getfield 111, 3) := by decide +kernel
theorem dX10_isBoat_7 : decode cX10_isBoat 7 = .ok (.iconst 1, 1) := by decide +kernel
theorem dX10_isBoat_8 : decode cX10_isBoat 8 = .ok (.isub, 1) := by decide +kernel
theorem dX10_isBoat_9 : decode cX10_isBoat 9 = .ok (.i2l, 1) := by decide +kernel
theorem dX10_isBoat_10 : decode cX10_isBoat 10 = .ok (.invokestatic 64, 3) := by decide +kernel
theorem dX10_isBoat_13 : decode cX10_isBoat 13 = .ok (.ireturn, 1) := by decide +kernel
theorem dX10_isStep_0 : decode cX10_isStep 0 = .ok (.iload_n 0, 1) := by decide +kernel
theorem dX10_isStep_1 : decode cX10_isStep 1 = .ok (.i2l, 1) := by decide +kernel
theorem dX10_isStep_2 : decode cX10_isStep 2 = .ok (.lconst 0, 1) := by decide +kernel
theorem dX10_isStep_3 : decode cX10_isStep 3 = .ok (.ldc2_w 127, 3) := by decide +kernel
theorem dX10_isStep_6 : decode cX10_isStep 6 = .ok (.invokestatic 64, 3) := by decide +kernel
theorem dX10_isStep_9 : decode cX10_isStep 9 = .ok (.ireturn, 1) := by decide +kernel
theorem dX10_bridge_0 : decode cX10_bridge 0 = .ok (.aload_n 0, 1) := by decide +kernel
theorem dX10_bridge_1 : decode cX10_bridge 1 = .ok (.invokevirtual 129, 3) := by decide +kernel
theorem dX10_bridge_4 : decode cX10_bridge 4 = .ok (.aload_n 0, 1) := by decide +kernel
theorem dX10_bridge_5 : decode cX10_bridge 5 = .ok (.iload_n 1, 1) := by decide +kernel
theorem dX10_bridge_6 : decode cX10_bridge 6 = .ok (.invokevirtual 132, 3) := by decide +kernel
theorem dX10_bridge_9 : decode cX10_bridge 9 = .ok (.ifCond .eq 28, 3) := by decide +kernel
theorem dX10_bridge_12 : decode cX10_bridge 12 = .ok (.iload_n 2, 1) := by decide +kernel
theorem dX10_bridge_13 : decode cX10_bridge 13 = .ok (.i2l, 1) := by decide +kernel
theorem dX10_bridge_14 : decode cX10_bridge 14 = .ok (.lconst 0, 1) := by decide +kernel
theorem dX10_bridge_15 : decode cX10_bridge 15 = .ok (.ldc2_w 77, 3) := by decide +kernel
theorem dX10_bridge_18 : decode cX10_bridge 18 = .ok (.invokestatic 64, 3) := by decide +kernel
theorem dX10_bridge_21 : decode cX10_bridge 21 = .ok (.ifCond .eq 16, 3) := by decide +kernel
theorem dX10_bridge_24 : decode cX10_bridge 24 = .ok (.aload_n 0, 1) := by decide +kernel
theorem dX10_bridge_25 : decode cX10_bridge 25 = .ok (.getfield 28, 3) := by decide +kernel
theorem dX10_bridge_28 : decode cX10_bridge 28 = .ok (.iconst 3, 1) := by decide +kernel
theorem dX10_bridge_29 : decode cX10_bridge 29 = .ok (.iload_n 1, 1) := by decide +kernel
theorem dX10_bridge_30 : decode cX10_bridge 30 = .ok (.imul, 1) := by decide +kernel
theorem dX10_bridge_31 : decode cX10_bridge 31 = .ok (.iload_n 2, 1) := by decide +kernel
theorem dX10_bridge_32 : decode cX10_bridge 32 = .ok (.iadd, 1) := by decide +kernel
theorem dX10_bridge_33 : decode cX10_bridge 33 = .ok (.iaload, 1) := by decide +kernel
theorem dX10_bridge_34 : decode cX10_bridge 34 = .ok (.goto 5, 3) := by decide +kernel
theorem dX10_bridge_37 : decode cX10_bridge 37 = .ok (.bipush (-2), 2) := by decide +kernel
theorem dX10_bridge_39 : decode cX10_bridge 39 = .ok (.ireturn, 1) := by decide +kernel
theorem dX10_boat_0 : decode cX10_boat 0 = .ok (.aload_n 0, 1) := by decide +kernel
theorem dX10_boat_1 : decode cX10_boat 1 = .ok (.invokevirtual 129, 3) := by decide +kernel
theorem dX10_boat_4 : decode cX10_boat 4 = .ok (.aload_n 0, 1) := by decide +kernel
theorem dX10_boat_5 : decode cX10_boat 5 = .ok (.iload_n 1, 1) := by decide +kernel
theorem dX10_boat_6 : decode cX10_boat 6 = .ok (.invokevirtual 135, 3) := by decide +kernel
theorem dX10_boat_9 : decode cX10_boat 9 = .ok (.ifCond .eq 29, 3) := by decide +kernel
theorem dX10_boat_12 : decode cX10_boat 12 = .ok (.iload_n 2, 1) := by decide +kernel
theorem dX10_boat_13 : decode cX10_boat 13 = .ok (.i2l, 1) := by decide +kernel
theorem dX10_boat_14 : decode cX10_boat 14 = .ok (.lconst 0, 1) := by decide +kernel
theorem dX10_boat_15 : decode cX10_boat 15 = .ok (.ldc2_w 138, 3) := by decide +kernel
theorem dX10_boat_18 : decode cX10_boat 18 = .ok (.invokestatic 64, 3) := by decide +kernel
theorem dX10_boat_21 : decode cX10_boat 21 = .ok (.ifCond .eq 17, 3) := by decide +kernel
theorem dX10_boat_24 : decode cX10_boat 24 = .ok (.aload_n 0, 1) := by decide +kernel
theorem dX10_boat_25 : decode cX10_boat 25 = .ok (.getfield 31, 3) := by decide +kernel
theorem dX10_boat_28 : decode cX10_boat 28 = .ok (.bipush 7, 2) := by decide +kernel
theorem dX10_boat_30 : decode cX10_boat 30 = .ok (.iload_n 1, 1) := by decide +kernel
theorem dX10_boat_31 : decode cX10_boat 31 = .ok (.imul, 1) := by decide +kernel
theorem dX10_boat_32 : decode cX10_boat 32 = .ok (.iload_n 2, 1) := by decide +kernel
theorem dX10_boat_33 : decode cX10_boat 33 = .ok (.iadd, 1) := by decide +kernel
theorem dX10_boat_34 : decode cX10_boat 34 = .ok (.iaload, 1) := by decide +kernel
theorem dX10_boat_35 : decode cX10_boat 35 = .ok (.goto 5, 3) := by decide +kernel
theorem dX10_boat_38 : decode cX10_boat 38 = .ok (.bipush (-2), 2) := by decide +kernel
theorem dX10_boat_40 : decode cX10_boat 40 = .ok (.ireturn, 1) := by decide +kernel
theorem dX10_sham_0 : decode cX10_sham 0 = .ok (.iload_n 1, 1) := by decide +kernel
theorem dX10_sham_1 : decode cX10_sham 1 = .ok (.i2l, 1) := by decide +kernel
theorem dX10_sham_2 : decode cX10_sham 2 = .ok (.lconst 0, 1) := by decide +kernel
theorem dX10_sham_3 : decode cX10_sham 3 = .ok (.ldc2_w 140, 3) := by decide +kernel
theorem dX10_sham_6 : decode cX10_sham 6 = .ok (.invokestatic 64, 3) := by decide +kernel
theorem dX10_sham_9 : decode cX10_sham 9 = .ok (.ifCond .eq 15, 3) := by decide +kernel
theorem dX10_sham_12 : decode cX10_sham 12 = .ok (.iload_n 2, 1) := by decide +kernel
theorem dX10_sham_13 : decode cX10_sham 13 = .ok (.i2l, 1) := by decide +kernel
theorem dX10_sham_14 : decode cX10_sham 14 = .ok (.lconst 0, 1) := by decide +kernel
theorem dX10_sham_15 : decode cX10_sham 15 = .ok (.ldc2_w 142, 3) := by decide +kernel
theorem dX10_sham_18 : decode cX10_sham 18 = .ok (.invokestatic 64, 3) := by decide +kernel
theorem dX10_sham_21 : decode cX10_sham 21 = .ok (.ifCond .ne 6, 3) := by decide +kernel
theorem dX10_sham_24 : decode cX10_sham 24 = .ok (.bipush (-2), 2) := by decide +kernel
theorem dX10_sham_26 : decode cX10_sham 26 = .ok (.ireturn, 1) := by decide +kernel
theorem dX10_sham_27 : decode cX10_sham 27 = .ok (.aload_n 0, 1) := by decide +kernel
theorem dX10_sham_28 : decode cX10_sham 28 = .ok (.getfield 144, 3) := by decide +kernel
theorem dX10_sham_31 : decode cX10_sham 31 = .ok (.bipush 8, 2) := by decide +kernel
theorem dX10_sham_33 : decode cX10_sham 33 = .ok (.if_icmp .ne 6, 3) := by decide +kernel
theorem dX10_sham_36 : decode cX10_sham 36 = .ok (.bipush (-4), 2) := by decide +kernel
theorem dX10_sham_38 : decode cX10_sham 38 = .ok (.ireturn, 1) := by decide +kernel
theorem dX10_sham_39 : decode cX10_sham 39 = .ok (.aload_n 0, 1) := by decide +kernel
theorem dX10_sham_40 : decode cX10_sham 40 = .ok (.getfield 34, 3) := by decide +kernel
theorem dX10_sham_43 : decode cX10_sham 43 = .ok (.iconst 2, 1) := by decide +kernel
theorem dX10_sham_44 : decode cX10_sham 44 = .ok (.aload_n 0, 1) := by decide +kernel
theorem dX10_sham_45 : decode cX10_sham 45 = .ok (.getfield 144, 3) := by decide +kernel
theorem dX10_sham_48 : decode cX10_sham 48 = .ok (.imul, 1) := by decide +kernel
theorem dX10_sham_49 : decode cX10_sham 49 = .ok (.iload_n 1, 1) := by decide +kernel
theorem dX10_sham_50 : decode cX10_sham 50 = .ok (.iastore, 1) := by decide +kernel
theorem dX10_sham_51 : decode cX10_sham 51 = .ok (.aload_n 0, 1) := by decide +kernel
theorem dX10_sham_52 : decode cX10_sham 52 = .ok (.getfield 34, 3) := by decide +kernel
theorem dX10_sham_55 : decode cX10_sham 55 = .ok (.iconst 2, 1) := by decide +kernel
theorem dX10_sham_56 : decode cX10_sham 56 = .ok (.aload_n 0, 1) := by decide +kernel
theorem dX10_sham_57 : decode cX10_sham 57 = .ok (.getfield 144, 3) := by decide +kernel
theorem dX10_sham_60 : decode cX10_sham 60 = .ok (.imul, 1) := by decide +kernel
theorem dX10_sham_61 : decode cX10_sham 61 = .ok (.iconst 1, 1) := by decide +kernel
theorem dX10_sham_62 : decode cX10_sham 62 = .ok (.iadd, 1) := by decide +kernel
theorem dX10_sham_63 : decode cX10_sham 63 = .ok (.iload_n 2, 1) := by decide +kernel
theorem dX10_sham_64 : decode cX10_sham 64 = .ok (.iastore, 1) := by decide +kernel
theorem dX10_sham_65 : decode cX10_sham 65 = .ok (.aload_n 0, 1) := by decide +kernel
theorem dX10_sham_66 : decode cX10_sham 66 = .ok (.dup, 1) := by decide +kernel
theorem dX10_sham_67 : decode cX10_sham 67 = .ok (.getfield 144, 3) := by decide +kernel
theorem dX10_sham_70 : decode cX10_sham 70 = .ok (.iconst 1, 1) := by decide +kernel
theorem dX10_sham_71 : decode cX10_sham 71 = .ok (.iadd, 1) := by decide +kernel
theorem dX10_sham_72 : decode cX10_sham 72 = .ok (.putfield 144, 3) := by decide +kernel
theorem dX10_sham_75 : decode cX10_sham 75 = .ok (.aload_n 0, 1) := by decide +kernel
theorem dX10_sham_76 : decode cX10_sham 76 = .ok (.getfield 144, 3) := by decide +kernel
theorem dX10_sham_79 : decode cX10_sham 79 = .ok (.ireturn, 1) := by decide +kernel
theorem dX10_back_0 : decode cX10_back 0 = .ok (.aload_n 0, 1) := by decide +kernel
theorem dX10_back_1 : decode cX10_back 1 = .ok (.getfield 144, 3) := by decide +kernel
theorem dX10_back_4 : decode cX10_back 4 = .ok (.ifCond .ne 6, 3) := by decide +kernel
theorem dX10_back_7 : decode cX10_back 7 = .ok (.bipush (-3), 2) := by decide +kernel
theorem dX10_back_9 : decode cX10_back 9 = .ok (.ireturn, 1) := by decide +kernel
theorem dX10_back_10 : decode cX10_back 10 = .ok (.aload_n 0, 1) := by decide +kernel
theorem dX10_back_11 : decode cX10_back 11 = .ok (.dup, 1) := by decide +kernel
theorem dX10_back_12 : decode cX10_back 12 = .ok (.getfield 144, 3) := by decide +kernel
theorem dX10_back_15 : decode cX10_back 15 = .ok (.iconst 1, 1) := by decide +kernel
theorem dX10_back_16 : decode cX10_back 16 = .ok (.isub, 1) := by decide +kernel
theorem dX10_back_17 : decode cX10_back 17 = .ok (.putfield 144, 3) := by decide +kernel
theorem dX10_back_20 : decode cX10_back 20 = .ok (.aload_n 0, 1) := by decide +kernel
theorem dX10_back_21 : decode cX10_back 21 = .ok (.getfield 144, 3) := by decide +kernel
theorem dX10_back_24 : decode cX10_back 24 = .ok (.ireturn, 1) := by decide +kernel
theorem dX10_read_0 : decode cX10_read 0 = .ok (.iload_n 1, 1) := by decide +kernel
theorem dX10_read_1 : decode cX10_read 1 = .ok (.invokestatic 73, 3) := by decide +kernel
theorem dX10_read_4 : decode cX10_read 4 = .ok (.ifCond .ne 6, 3) := by decide +kernel
theorem dX10_read_7 : decode cX10_read 7 = .ok (.bipush (-2), 2) := by decide +kernel
theorem dX10_read_9 : decode cX10_read 9 = .ok (.ireturn, 1) := by decide +kernel
theorem dX10_read_10 : decode cX10_read 10 = .ok (.aload_n 0, 1) := by decide +kernel
theorem dX10_read_11 : decode cX10_read 11 = .ok (.getfield 7, 3) := by decide +kernel
theorem dX10_read_14 : decode cX10_read 14 = .ok (.iload_n 1, 1) := by decide +kernel
theorem dX10_read_15 : decode cX10_read 15 = .ok (.iaload, 1) := by decide +kernel
theorem dX10_read_16 : decode cX10_read 16 = .ok (.ifCond .ge 9, 3) := by decide +kernel
theorem dX10_read_19 : decode cX10_read 19 = .ok (.aload_n 0, 1) := by decide +kernel
theorem dX10_read_20 : decode cX10_read 20 = .ok (.iconst 1, 1) := by decide +kernel
theorem dX10_read_21 : decode cX10_read 21 = .ok (.invokevirtual 79, 3) := by decide +kernel
theorem dX10_read_24 : decode cX10_read 24 = .ok (.ireturn, 1) := by decide +kernel
theorem dX10_read_25 : decode cX10_read 25 = .ok (.iconst 0, 1) := by decide +kernel
theorem dX10_read_26 : decode cX10_read 26 = .ok (.istore_n 2, 1) := by decide +kernel
theorem dX10_read_27 : decode cX10_read 27 = .ok (.iconst 1, 1) := by decide +kernel
theorem dX10_read_28 : decode cX10_read 28 = .ok (.istore_n 3, 1) := by decide +kernel
theorem dX10_read_29 : decode cX10_read 29 = .ok (.iload_n 3, 1) := by decide +kernel
theorem dX10_read_30 : decode cX10_read 30 = .ok (.ifCond .eq 73, 3) := by decide +kernel
theorem dX10_read_33 : decode cX10_read 33 = .ok (.iconst 2, 1) := by decide +kernel
theorem dX10_read_34 : decode cX10_read 34 = .ok (.iload_n 2, 1) := by decide +kernel
theorem dX10_read_35 : decode cX10_read 35 = .ok (.imul, 1) := by decide +kernel
theorem dX10_read_36 : decode cX10_read 36 = .ok (.iconst 2, 1) := by decide +kernel
theorem dX10_read_37 : decode cX10_read 37 = .ok (.iadd, 1) := by decide +kernel
theorem dX10_read_38 : decode cX10_read 38 = .ok (.aload_n 0, 1) := by decide +kernel
theorem dX10_read_39 : decode cX10_read 39 = .ok (.getfield 13, 3) := by decide +kernel
theorem dX10_read_42 : decode cX10_read 42 = .ok (.iload_n 1, 1) := by decide +kernel
theorem dX10_read_43 : decode cX10_read 43 = .ok (.iaload, 1) := by decide +kernel
theorem dX10_read_44 : decode cX10_read 44 = .ok (.if_icmp .gt 59, 3) := by decide +kernel
theorem dX10_read_47 : decode cX10_read 47 = .ok (.aload_n 0, 1) := by decide +kernel
theorem dX10_read_48 : decode cX10_read 48 = .ok (.aload_n 0, 1) := by decide +kernel
theorem dX10_read_49 : decode cX10_read 49 = .ok (.getfield 16, 3) := by decide +kernel
theorem dX10_read_52 : decode cX10_read 52 = .ok (.bipush 60, 2) := by decide +kernel
theorem dX10_read_54 : decode cX10_read 54 = .ok (.iload_n 1, 1) := by decide +kernel
theorem dX10_read_55 : decode cX10_read 55 = .ok (.imul, 1) := by decide +kernel
theorem dX10_read_56 : decode cX10_read 56 = .ok (.iconst 2, 1) := by decide +kernel
theorem dX10_read_57 : decode cX10_read 57 = .ok (.iload_n 2, 1) := by decide +kernel
theorem dX10_read_58 : decode cX10_read 58 = .ok (.imul, 1) := by decide +kernel
theorem dX10_read_59 : decode cX10_read 59 = .ok (.iadd, 1) := by decide +kernel
theorem dX10_read_60 : decode cX10_read 60 = .ok (.iaload, 1) := by decide +kernel
theorem dX10_read_61 : decode cX10_read 61 = .ok (.aload_n 0, 1) := by decide +kernel
theorem dX10_read_62 : decode cX10_read 62 = .ok (.getfield 16, 3) := by decide +kernel
theorem dX10_read_65 : decode cX10_read 65 = .ok (.bipush 60, 2) := by decide +kernel
theorem dX10_read_67 : decode cX10_read 67 = .ok (.iload_n 1, 1) := by decide +kernel
theorem dX10_read_68 : decode cX10_read 68 = .ok (.imul, 1) := by decide +kernel
theorem dX10_read_69 : decode cX10_read 69 = .ok (.iconst 2, 1) := by decide +kernel
theorem dX10_read_70 : decode cX10_read 70 = .ok (.iload_n 2, 1) := by decide +kernel
theorem dX10_read_71 : decode cX10_read 71 = .ok (.imul, 1) := by decide +kernel
theorem dX10_read_72 : decode cX10_read 72 = .ok (.iadd, 1) := by decide +kernel
theorem dX10_read_73 : decode cX10_read 73 = .ok (.iconst 1, 1) := by decide +kernel
theorem dX10_read_74 : decode cX10_read 74 = .ok (.iadd, 1) := by decide +kernel
theorem dX10_read_75 : decode cX10_read 75 = .ok (.iaload, 1) := by decide +kernel
theorem dX10_read_76 : decode cX10_read 76 = .ok (.invokevirtual 147, 3) := by decide +kernel
theorem dX10_read_79 : decode cX10_read 79 = .ok (.ifCond .lt 7, 3) := by decide +kernel
theorem dX10_read_82 : decode cX10_read 82 = .ok (.iconst 1, 1) := by decide +kernel
theorem dX10_read_83 : decode cX10_read 83 = .ok (.goto 4, 3) := by decide +kernel
theorem dX10_read_86 : decode cX10_read 86 = .ok (.iconst 0, 1) := by decide +kernel
theorem dX10_read_87 : decode cX10_read 87 = .ok (.istore_n 3, 1) := by decide +kernel
theorem dX10_read_88 : decode cX10_read 88 = .ok (.iload_n 2, 1) := by decide +kernel
theorem dX10_read_89 : decode cX10_read 89 = .ok (.iload_n 3, 1) := by decide +kernel
theorem dX10_read_90 : decode cX10_read 90 = .ok (.ifCond .eq 7, 3) := by decide +kernel
theorem dX10_read_93 : decode cX10_read 93 = .ok (.iconst 1, 1) := by decide +kernel
theorem dX10_read_94 : decode cX10_read 94 = .ok (.goto 4, 3) := by decide +kernel
theorem dX10_read_97 : decode cX10_read 97 = .ok (.iconst 0, 1) := by decide +kernel
theorem dX10_read_98 : decode cX10_read 98 = .ok (.iadd, 1) := by decide +kernel
theorem dX10_read_99 : decode cX10_read 99 = .ok (.istore_n 2, 1) := by decide +kernel
theorem dX10_read_100 : decode cX10_read 100 = .ok (.goto (-71), 3) := by decide +kernel
theorem dX10_read_103 : decode cX10_read 103 = .ok (.iload_n 2, 1) := by decide +kernel
theorem dX10_read_104 : decode cX10_read 104 = .ok (.ireturn, 1) := by decide +kernel
theorem dX10_carries_0 : decode cX10_carries 0 = .ok (.aload_n 0, 1) := by decide +kernel
theorem dX10_carries_1 : decode cX10_carries 1 = .ok (.getfield 31, 3) := by decide +kernel
theorem dX10_carries_4 : decode cX10_carries 4 = .ok (.bipush 7, 2) := by decide +kernel
theorem dX10_carries_6 : decode cX10_carries 6 = .ok (.iload_n 2, 1) := by decide +kernel
theorem dX10_carries_7 : decode cX10_carries 7 = .ok (.imul, 1) := by decide +kernel
theorem dX10_carries_8 : decode cX10_carries 8 = .ok (.iload_n 3, 1) := by decide +kernel
theorem dX10_carries_9 : decode cX10_carries 9 = .ok (.iadd, 1) := by decide +kernel
theorem dX10_carries_10 : decode cX10_carries 10 = .ok (.iaload, 1) := by decide +kernel
theorem dX10_carries_11 : decode cX10_carries 11 = .ok (.istore 4, 2) := by decide +kernel
theorem dX10_carries_13 : decode cX10_carries 13 = .ok (.iconst 0, 1) := by decide +kernel
theorem dX10_carries_14 : decode cX10_carries 14 = .ok (.istore 5, 2) := by decide +kernel
theorem dX10_carries_16 : decode cX10_carries 16 = .ok (.iload 5, 2) := by decide +kernel
theorem dX10_carries_18 : decode cX10_carries 18 = .ok (.aload_n 0, 1) := by decide +kernel
theorem dX10_carries_19 : decode cX10_carries 19 = .ok (.getfield 144, 3) := by decide +kernel
theorem dX10_carries_22 : decode cX10_carries 22 = .ok (.if_icmp .ge 65, 3) := by decide +kernel
theorem dX10_carries_25 : decode cX10_carries 25 = .ok (.iload 4, 2) := by decide +kernel
theorem dX10_carries_27 : decode cX10_carries 27 = .ok (.iload_n 1, 1) := by decide +kernel
theorem dX10_carries_28 : decode cX10_carries 28 = .ok (.iconst 2, 1) := by decide +kernel
theorem dX10_carries_29 : decode cX10_carries 29 = .ok (.irem, 1) := by decide +kernel
theorem dX10_carries_30 : decode cX10_carries 30 = .ok (.ifCond .ne 47, 3) := by decide +kernel
theorem dX10_carries_33 : decode cX10_carries 33 = .ok (.aload_n 0, 1) := by decide +kernel
theorem dX10_carries_34 : decode cX10_carries 34 = .ok (.getfield 59, 3) := by decide +kernel
theorem dX10_carries_37 : decode cX10_carries 37 = .ok (.iload 5, 2) := by decide +kernel
theorem dX10_carries_39 : decode cX10_carries 39 = .ok (.invokestatic 149, 3) := by decide +kernel
theorem dX10_carries_42 : decode cX10_carries 42 = .ok (.ifCond .eq 35, 3) := by decide +kernel
theorem dX10_carries_45 : decode cX10_carries 45 = .ok (.aload_n 0, 1) := by decide +kernel
theorem dX10_carries_46 : decode cX10_carries 46 = .ok (.getfield 34, 3) := by decide +kernel
theorem dX10_carries_49 : decode cX10_carries 49 = .ok (.iconst 2, 1) := by decide +kernel
theorem dX10_carries_50 : decode cX10_carries 50 = .ok (.iload 5, 2) := by decide +kernel
theorem dX10_carries_52 : decode cX10_carries 52 = .ok (.imul, 1) := by decide +kernel
theorem dX10_carries_53 : decode cX10_carries 53 = .ok (.iaload, 1) := by decide +kernel
theorem dX10_carries_54 : decode cX10_carries 54 = .ok (.iload_n 2, 1) := by decide +kernel
theorem dX10_carries_55 : decode cX10_carries 55 = .ok (.if_icmp .ne 22, 3) := by decide +kernel
theorem dX10_carries_58 : decode cX10_carries 58 = .ok (.aload_n 0, 1) := by decide +kernel
theorem dX10_carries_59 : decode cX10_carries 59 = .ok (.getfield 34, 3) := by decide +kernel
theorem dX10_carries_62 : decode cX10_carries 62 = .ok (.iconst 2, 1) := by decide +kernel
theorem dX10_carries_63 : decode cX10_carries 63 = .ok (.iload 5, 2) := by decide +kernel
theorem dX10_carries_65 : decode cX10_carries 65 = .ok (.imul, 1) := by decide +kernel
theorem dX10_carries_66 : decode cX10_carries 66 = .ok (.iconst 1, 1) := by decide +kernel
theorem dX10_carries_67 : decode cX10_carries 67 = .ok (.iadd, 1) := by decide +kernel
theorem dX10_carries_68 : decode cX10_carries 68 = .ok (.iaload, 1) := by decide +kernel
theorem dX10_carries_69 : decode cX10_carries 69 = .ok (.iload_n 3, 1) := by decide +kernel
theorem dX10_carries_70 : decode cX10_carries 70 = .ok (.if_icmp .ne 7, 3) := by decide +kernel
theorem dX10_carries_73 : decode cX10_carries 73 = .ok (.iconst 1, 1) := by decide +kernel
theorem dX10_carries_74 : decode cX10_carries 74 = .ok (.goto 4, 3) := by decide +kernel
theorem dX10_carries_77 : decode cX10_carries 77 = .ok (.iconst 0, 1) := by decide +kernel
theorem dX10_carries_78 : decode cX10_carries 78 = .ok (.iadd, 1) := by decide +kernel
theorem dX10_carries_79 : decode cX10_carries 79 = .ok (.istore 4, 2) := by decide +kernel
theorem dX10_carries_81 : decode cX10_carries 81 = .ok (.iinc 5 1, 3) := by decide +kernel
theorem dX10_carries_84 : decode cX10_carries 84 = .ok (.goto (-68), 3) := by decide +kernel
theorem dX10_carries_87 : decode cX10_carries 87 = .ok (.iload 4, 2) := by decide +kernel
theorem dX10_carries_89 : decode cX10_carries 89 = .ok (.ireturn, 1) := by decide +kernel
theorem dX10_isLifted_0 : decode cX10_isLifted 0 = .ok (.aload_n 0, 1) := by decide +kernel
theorem dX10_isLifted_1 : decode cX10_isLifted 1 = .ok (.iload_n 1, 1) := by decide +kernel
theorem dX10_isLifted_2 : decode cX10_isLifted 2 = .ok (.iload_n 2, 1) := by decide +kernel
theorem dX10_isLifted_3 : decode cX10_isLifted 3 = .ok (.aload_n 0, 1) := by decide +kernel
theorem dX10_isLifted_4 : decode cX10_isLifted 4 = .ok (.getfield 28, 3) := by decide +kernel
theorem dX10_isLifted_7 : decode cX10_isLifted 7 = .ok (.iconst 3, 1) := by decide +kernel
theorem dX10_isLifted_8 : decode cX10_isLifted 8 = .ok (.iload_n 1, 1) := by decide +kernel
theorem dX10_isLifted_9 : decode cX10_isLifted 9 = .ok (.imul, 1) := by decide +kernel
theorem dX10_isLifted_10 : decode cX10_isLifted 10 = .ok (.iconst 1, 1) := by decide +kernel
theorem dX10_isLifted_11 : decode cX10_isLifted 11 = .ok (.iadd, 1) := by decide +kernel
theorem dX10_isLifted_12 : decode cX10_isLifted 12 = .ok (.iaload, 1) := by decide +kernel
theorem dX10_isLifted_13 : decode cX10_isLifted 13 = .ok (.invokevirtual 153, 3) := by decide +kernel
theorem dX10_isLifted_16 : decode cX10_isLifted 16 = .ok (.istore_n 3, 1) := by decide +kernel
theorem dX10_isLifted_17 : decode cX10_isLifted 17 = .ok (.aload_n 0, 1) := by decide +kernel
theorem dX10_isLifted_18 : decode cX10_isLifted 18 = .ok (.getfield 28, 3) := by decide +kernel
theorem dX10_isLifted_21 : decode cX10_isLifted 21 = .ok (.iconst 3, 1) := by decide +kernel
theorem dX10_isLifted_22 : decode cX10_isLifted 22 = .ok (.iload_n 1, 1) := by decide +kernel
theorem dX10_isLifted_23 : decode cX10_isLifted 23 = .ok (.imul, 1) := by decide +kernel
theorem dX10_isLifted_24 : decode cX10_isLifted 24 = .ok (.iconst 2, 1) := by decide +kernel
theorem dX10_isLifted_25 : decode cX10_isLifted 25 = .ok (.iadd, 1) := by decide +kernel
theorem dX10_isLifted_26 : decode cX10_isLifted 26 = .ok (.iaload, 1) := by decide +kernel
theorem dX10_isLifted_27 : decode cX10_isLifted 27 = .ok (.istore 4, 2) := by decide +kernel
theorem dX10_isLifted_29 : decode cX10_isLifted 29 = .ok (.aload_n 0, 1) := by decide +kernel
theorem dX10_isLifted_30 : decode cX10_isLifted 30 = .ok (.getfield 28, 3) := by decide +kernel
theorem dX10_isLifted_33 : decode cX10_isLifted 33 = .ok (.iconst 3, 1) := by decide +kernel
theorem dX10_isLifted_34 : decode cX10_isLifted 34 = .ok (.iload_n 1, 1) := by decide +kernel
theorem dX10_isLifted_35 : decode cX10_isLifted 35 = .ok (.imul, 1) := by decide +kernel
theorem dX10_isLifted_36 : decode cX10_isLifted 36 = .ok (.iaload, 1) := by decide +kernel
theorem dX10_isLifted_37 : decode cX10_isLifted 37 = .ok (.iconst 2, 1) := by decide +kernel
theorem dX10_isLifted_38 : decode cX10_isLifted 38 = .ok (.if_icmp .ge 39, 3) := by decide +kernel
theorem dX10_isLifted_41 : decode cX10_isLifted 41 = .ok (.iload_n 3, 1) := by decide +kernel
theorem dX10_isLifted_42 : decode cX10_isLifted 42 = .ok (.iload 4, 2) := by decide +kernel
theorem dX10_isLifted_44 : decode cX10_isLifted 44 = .ok (.if_icmp .lt 7, 3) := by decide +kernel
theorem dX10_isLifted_47 : decode cX10_isLifted 47 = .ok (.iconst 1, 1) := by decide +kernel
theorem dX10_isLifted_48 : decode cX10_isLifted 48 = .ok (.goto 4, 3) := by decide +kernel
theorem dX10_isLifted_51 : decode cX10_isLifted 51 = .ok (.iconst 0, 1) := by decide +kernel
theorem dX10_isLifted_52 : decode cX10_isLifted 52 = .ok (.aload_n 0, 1) := by decide +kernel
theorem dX10_isLifted_53 : decode cX10_isLifted 53 = .ok (.getfield 28, 3) := by decide +kernel
theorem dX10_isLifted_56 : decode cX10_isLifted 56 = .ok (.iconst 3, 1) := by decide +kernel
theorem dX10_isLifted_57 : decode cX10_isLifted 57 = .ok (.iload_n 1, 1) := by decide +kernel
theorem dX10_isLifted_58 : decode cX10_isLifted 58 = .ok (.imul, 1) := by decide +kernel
theorem dX10_isLifted_59 : decode cX10_isLifted 59 = .ok (.iaload, 1) := by decide +kernel
theorem dX10_isLifted_60 : decode cX10_isLifted 60 = .ok (.ifCond .ne 7, 3) := by decide +kernel
theorem dX10_isLifted_63 : decode cX10_isLifted 63 = .ok (.iconst 1, 1) := by decide +kernel
theorem dX10_isLifted_64 : decode cX10_isLifted 64 = .ok (.goto 4, 3) := by decide +kernel
theorem dX10_isLifted_67 : decode cX10_isLifted 67 = .ok (.iconst 0, 1) := by decide +kernel
theorem dX10_isLifted_68 : decode cX10_isLifted 68 = .ok (.if_icmp .ne 7, 3) := by decide +kernel
theorem dX10_isLifted_71 : decode cX10_isLifted 71 = .ok (.iconst 1, 1) := by decide +kernel
theorem dX10_isLifted_72 : decode cX10_isLifted 72 = .ok (.goto 4, 3) := by decide +kernel
theorem dX10_isLifted_75 : decode cX10_isLifted 75 = .ok (.iconst 0, 1) := by decide +kernel
theorem dX10_isLifted_76 : decode cX10_isLifted 76 = .ok (.ireturn, 1) := by decide +kernel
theorem dX10_isLifted_77 : decode cX10_isLifted 77 = .ok (.iconst 0, 1) := by decide +kernel
theorem dX10_isLifted_78 : decode cX10_isLifted 78 = .ok (.istore 5, 2) := by decide +kernel
theorem dX10_isLifted_80 : decode cX10_isLifted 80 = .ok (.iconst 0, 1) := by decide +kernel
theorem dX10_isLifted_81 : decode cX10_isLifted 81 = .ok (.istore 6, 2) := by decide +kernel
theorem dX10_isLifted_83 : decode cX10_isLifted 83 = .ok (.iload 6, 2) := by decide +kernel
theorem dX10_isLifted_85 : decode cX10_isLifted 85 = .ok (.bipush 6, 2) := by decide +kernel
theorem dX10_isLifted_87 : decode cX10_isLifted 87 = .ok (.if_icmp .ge 27, 3) := by decide +kernel
theorem dX10_isLifted_90 : decode cX10_isLifted 90 = .ok (.iload 5, 2) := by decide +kernel
theorem dX10_isLifted_92 : decode cX10_isLifted 92 = .ok (.iload 6, 2) := by decide +kernel
theorem dX10_isLifted_94 : decode cX10_isLifted 94 = .ok (.iconst 1, 1) := by decide +kernel
theorem dX10_isLifted_95 : decode cX10_isLifted 95 = .ok (.iadd, 1) := by decide +kernel
theorem dX10_isLifted_96 : decode cX10_isLifted 96 = .ok (.aload_n 0, 1) := by decide +kernel
theorem dX10_isLifted_97 : decode cX10_isLifted 97 = .ok (.iload_n 1, 1) := by decide +kernel
theorem dX10_isLifted_98 : decode cX10_isLifted 98 = .ok (.iload_n 2, 1) := by decide +kernel
theorem dX10_isLifted_99 : decode cX10_isLifted 99 = .ok (.iload 6, 2) := by decide +kernel
theorem dX10_isLifted_101 : decode cX10_isLifted 101 = .ok (.invokevirtual 153, 3) := by decide +kernel
theorem dX10_isLifted_104 : decode cX10_isLifted 104 = .ok (.imul, 1) := by decide +kernel
theorem dX10_isLifted_105 : decode cX10_isLifted 105 = .ok (.iadd, 1) := by decide +kernel
theorem dX10_isLifted_106 : decode cX10_isLifted 106 = .ok (.istore 5, 2) := by decide +kernel
theorem dX10_isLifted_108 : decode cX10_isLifted 108 = .ok (.iinc 6 1, 3) := by decide +kernel
theorem dX10_isLifted_111 : decode cX10_isLifted 111 = .ok (.goto (-28), 3) := by decide +kernel
theorem dX10_isLifted_114 : decode cX10_isLifted 114 = .ok (.iload 5, 2) := by decide +kernel
theorem dX10_isLifted_116 : decode cX10_isLifted 116 = .ok (.iconst 3, 1) := by decide +kernel
theorem dX10_isLifted_117 : decode cX10_isLifted 117 = .ok (.iload 4, 2) := by decide +kernel
theorem dX10_isLifted_119 : decode cX10_isLifted 119 = .ok (.imul, 1) := by decide +kernel
theorem dX10_isLifted_120 : decode cX10_isLifted 120 = .ok (.if_icmp .lt 11, 3) := by decide +kernel
theorem dX10_isLifted_123 : decode cX10_isLifted 123 = .ok (.iload_n 3, 1) := by decide +kernel
theorem dX10_isLifted_124 : decode cX10_isLifted 124 = .ok (.ifCond .le 7, 3) := by decide +kernel
theorem dX10_isLifted_127 : decode cX10_isLifted 127 = .ok (.iconst 1, 1) := by decide +kernel
theorem dX10_isLifted_128 : decode cX10_isLifted 128 = .ok (.goto 4, 3) := by decide +kernel
theorem dX10_isLifted_131 : decode cX10_isLifted 131 = .ok (.iconst 0, 1) := by decide +kernel
theorem dX10_isLifted_132 : decode cX10_isLifted 132 = .ok (.ireturn, 1) := by decide +kernel
theorem dX10_lifts_0 : decode cX10_lifts 0 = .ok (.aload_n 0, 1) := by decide +kernel
theorem dX10_lifts_1 : decode cX10_lifts 1 = .ok (.invokevirtual 129, 3) := by decide +kernel
theorem dX10_lifts_4 : decode cX10_lifts 4 = .ok (.aload_n 0, 1) := by decide +kernel
theorem dX10_lifts_5 : decode cX10_lifts 5 = .ok (.iload_n 1, 1) := by decide +kernel
theorem dX10_lifts_6 : decode cX10_lifts 6 = .ok (.invokevirtual 132, 3) := by decide +kernel
theorem dX10_lifts_9 : decode cX10_lifts 9 = .ok (.ifCond .eq 11, 3) := by decide +kernel
theorem dX10_lifts_12 : decode cX10_lifts 12 = .ok (.aload_n 0, 1) := by decide +kernel
theorem dX10_lifts_13 : decode cX10_lifts 13 = .ok (.iload_n 2, 1) := by decide +kernel
theorem dX10_lifts_14 : decode cX10_lifts 14 = .ok (.invokevirtual 135, 3) := by decide +kernel
theorem dX10_lifts_17 : decode cX10_lifts 17 = .ok (.ifCond .ne 8, 3) := by decide +kernel
theorem dX10_lifts_20 : decode cX10_lifts 20 = .ok (.bipush (-2), 2) := by decide +kernel
theorem dX10_lifts_22 : decode cX10_lifts 22 = .ok (.goto 17, 3) := by decide +kernel
theorem dX10_lifts_25 : decode cX10_lifts 25 = .ok (.aload_n 0, 1) := by decide +kernel
theorem dX10_lifts_26 : decode cX10_lifts 26 = .ok (.iload_n 1, 1) := by decide +kernel
theorem dX10_lifts_27 : decode cX10_lifts 27 = .ok (.iload_n 2, 1) := by decide +kernel
theorem dX10_lifts_28 : decode cX10_lifts 28 = .ok (.invokevirtual 156, 3) := by decide +kernel
theorem dX10_lifts_31 : decode cX10_lifts 31 = .ok (.ifCond .eq 7, 3) := by decide +kernel
theorem dX10_lifts_34 : decode cX10_lifts 34 = .ok (.iconst 1, 1) := by decide +kernel
theorem dX10_lifts_35 : decode cX10_lifts 35 = .ok (.goto 4, 3) := by decide +kernel
theorem dX10_lifts_38 : decode cX10_lifts 38 = .ok (.iconst 0, 1) := by decide +kernel
theorem dX10_lifts_39 : decode cX10_lifts 39 = .ok (.ireturn, 1) := by decide +kernel
theorem dX10_places_0 : decode cX10_places 0 = .ok (.aload_n 0, 1) := by decide +kernel
theorem dX10_places_1 : decode cX10_places 1 = .ok (.getfield 105, 3) := by decide +kernel
theorem dX10_places_4 : decode cX10_places 4 = .ok (.aload_n 0, 1) := by decide +kernel
theorem dX10_places_5 : decode cX10_places 5 = .ok (.getfield 55, 3) := by decide +kernel
theorem dX10_places_8 : decode cX10_places 8 = .ok (.iconst (-1), 1) := by decide +kernel
theorem dX10_places_9 : decode cX10_places 9 = .ok (.if_icmp .ne 7, 3) := by decide +kernel
theorem dX10_places_12 : decode cX10_places 12 = .ok (.iconst 0, 1) := by decide +kernel
theorem dX10_places_13 : decode cX10_places 13 = .ok (.goto 4, 3) := by decide +kernel
theorem dX10_places_16 : decode cX10_places 16 = .ok (.iconst 1, 1) := by decide +kernel
theorem dX10_places_17 : decode cX10_places 17 = .ok (.isub, 1) := by decide +kernel
theorem dX10_places_18 : decode cX10_places 18 = .ok (.ireturn, 1) := by decide +kernel
theorem dX10_standing_0 : decode cX10_standing 0 = .ok (.aload_n 0, 1) := by decide +kernel
theorem dX10_standing_1 : decode cX10_standing 1 = .ok (.getfield 55, 3) := by decide +kernel
theorem dX10_standing_4 : decode cX10_standing 4 = .ok (.iconst (-1), 1) := by decide +kernel
theorem dX10_standing_5 : decode cX10_standing 5 = .ok (.if_icmp .eq 17, 3) := by decide +kernel
theorem dX10_standing_8 : decode cX10_standing 8 = .ok (.iload_n 1, 1) := by decide +kernel
theorem dX10_standing_9 : decode cX10_standing 9 = .ok (.aload_n 0, 1) := by decide +kernel
theorem dX10_standing_10 : decode cX10_standing 10 = .ok (.getfield 55, 3) := by decide +kernel
theorem dX10_standing_13 : decode cX10_standing 13 = .ok (.if_icmp .lt 9, 3) := by decide +kernel
theorem dX10_standing_16 : decode cX10_standing 16 = .ok (.iload_n 1, 1) := by decide +kernel
theorem dX10_standing_17 : decode cX10_standing 17 = .ok (.iconst 1, 1) := by decide +kernel
theorem dX10_standing_18 : decode cX10_standing 18 = .ok (.iadd, 1) := by decide +kernel
theorem dX10_standing_19 : decode cX10_standing 19 = .ok (.goto 4, 3) := by decide +kernel
theorem dX10_standing_22 : decode cX10_standing 22 = .ok (.iload_n 1, 1) := by decide +kernel
theorem dX10_standing_23 : decode cX10_standing 23 = .ok (.ireturn, 1) := by decide +kernel
theorem dX10_goesOn_0 : decode cX10_goesOn 0 = .ok (.aload_n 0, 1) := by decide +kernel
theorem dX10_goesOn_1 : decode cX10_goesOn 1 = .ok (.getfield 40, 3) := by decide +kernel
theorem dX10_goesOn_4 : decode cX10_goesOn 4 = .ok (.bipush 8, 2) := by decide +kernel
theorem dX10_goesOn_6 : decode cX10_goesOn 6 = .ok (.iload_n 2, 1) := by decide +kernel
theorem dX10_goesOn_7 : decode cX10_goesOn 7 = .ok (.imul, 1) := by decide +kernel
theorem dX10_goesOn_8 : decode cX10_goesOn 8 = .ok (.iload_n 3, 1) := by decide +kernel
theorem dX10_goesOn_9 : decode cX10_goesOn 9 = .ok (.iadd, 1) := by decide +kernel
theorem dX10_goesOn_10 : decode cX10_goesOn 10 = .ok (.iload_n 1, 1) := by decide +kernel
theorem dX10_goesOn_11 : decode cX10_goesOn 11 = .ok (.iastore, 1) := by decide +kernel
theorem dX10_goesOn_12 : decode cX10_goesOn 12 = .ok (.aload_n 0, 1) := by decide +kernel
theorem dX10_goesOn_13 : decode cX10_goesOn 13 = .ok (.getfield 43, 3) := by decide +kernel
theorem dX10_goesOn_16 : decode cX10_goesOn 16 = .ok (.bipush 8, 2) := by decide +kernel
theorem dX10_goesOn_18 : decode cX10_goesOn 18 = .ok (.iload_n 2, 1) := by decide +kernel
theorem dX10_goesOn_19 : decode cX10_goesOn 19 = .ok (.imul, 1) := by decide +kernel
theorem dX10_goesOn_20 : decode cX10_goesOn 20 = .ok (.iload_n 3, 1) := by decide +kernel
theorem dX10_goesOn_21 : decode cX10_goesOn 21 = .ok (.iadd, 1) := by decide +kernel
theorem dX10_goesOn_22 : decode cX10_goesOn 22 = .ok (.iload 4, 2) := by decide +kernel
theorem dX10_goesOn_24 : decode cX10_goesOn 24 = .ok (.iastore, 1) := by decide +kernel
theorem dX10_goesOn_25 : decode cX10_goesOn 25 = .ok (.aload_n 0, 1) := by decide +kernel
theorem dX10_goesOn_26 : decode cX10_goesOn 26 = .ok (.getfield 37, 3) := by decide +kernel
theorem dX10_goesOn_29 : decode cX10_goesOn 29 = .ok (.iload_n 3, 1) := by decide +kernel
theorem dX10_goesOn_30 : decode cX10_goesOn 30 = .ok (.iload_n 2, 1) := by decide +kernel
theorem dX10_goesOn_31 : decode cX10_goesOn 31 = .ok (.iconst 1, 1) := by decide +kernel
theorem dX10_goesOn_32 : decode cX10_goesOn 32 = .ok (.iadd, 1) := by decide +kernel
theorem dX10_goesOn_33 : decode cX10_goesOn 33 = .ok (.iastore, 1) := by decide +kernel
theorem dX10_goesOn_34 : decode cX10_goesOn 34 = .ok (.aload_n 0, 1) := by decide +kernel
theorem dX10_goesOn_35 : decode cX10_goesOn 35 = .ok (.dup, 1) := by decide +kernel
theorem dX10_goesOn_36 : decode cX10_goesOn 36 = .ok (.getfield 159, 3) := by decide +kernel
theorem dX10_goesOn_39 : decode cX10_goesOn 39 = .ok (.iconst 1, 1) := by decide +kernel
theorem dX10_goesOn_40 : decode cX10_goesOn 40 = .ok (.iload_n 3, 1) := by decide +kernel
theorem dX10_goesOn_41 : decode cX10_goesOn 41 = .ok (.ishl, 1) := by decide +kernel
theorem dX10_goesOn_42 : decode cX10_goesOn 42 = .ok (.ior, 1) := by decide +kernel
theorem dX10_goesOn_43 : decode cX10_goesOn 43 = .ok (.putfield 159, 3) := by decide +kernel
theorem dX10_goesOn_46 : decode cX10_goesOn 46 = .ok (.return_, 1) := by decide +kernel
theorem dX10_opens_0 : decode cX10_opens 0 = .ok (.iconst (-1), 1) := by decide +kernel
theorem dX10_opens_1 : decode cX10_opens 1 = .ok (.istore_n 3, 1) := by decide +kernel
theorem dX10_opens_2 : decode cX10_opens 2 = .ok (.aload_n 0, 1) := by decide +kernel
theorem dX10_opens_3 : decode cX10_opens 3 = .ok (.getfield 111, 3) := by decide +kernel
theorem dX10_opens_6 : decode cX10_opens 6 = .ok (.iconst 1, 1) := by decide +kernel
theorem dX10_opens_7 : decode cX10_opens 7 = .ok (.isub, 1) := by decide +kernel
theorem dX10_opens_8 : decode cX10_opens 8 = .ok (.istore 4, 2) := by decide +kernel
theorem dX10_opens_10 : decode cX10_opens 10 = .ok (.iload 4, 2) := by decide +kernel
theorem dX10_opens_12 : decode cX10_opens 12 = .ok (.ifCond .lt 41, 3) := by decide +kernel
theorem dX10_opens_15 : decode cX10_opens 15 = .ok (.aload_n 0, 1) := by decide +kernel
theorem dX10_opens_16 : decode cX10_opens 16 = .ok (.getfield 37, 3) := by decide +kernel
theorem dX10_opens_19 : decode cX10_opens 19 = .ok (.iload 4, 2) := by decide +kernel
theorem dX10_opens_21 : decode cX10_opens 21 = .ok (.iaload, 1) := by decide +kernel
theorem dX10_opens_22 : decode cX10_opens 22 = .ok (.iload_n 2, 1) := by decide +kernel
theorem dX10_opens_23 : decode cX10_opens 23 = .ok (.if_icmp .ne 22, 3) := by decide +kernel
theorem dX10_opens_26 : decode cX10_opens 26 = .ok (.aload_n 0, 1) := by decide +kernel
theorem dX10_opens_27 : decode cX10_opens 27 = .ok (.aload_n 0, 1) := by decide +kernel
theorem dX10_opens_28 : decode cX10_opens 28 = .ok (.iload_n 2, 1) := by decide +kernel
theorem dX10_opens_29 : decode cX10_opens 29 = .ok (.invokevirtual 162, 3) := by decide +kernel
theorem dX10_opens_32 : decode cX10_opens 32 = .ok (.iload 4, 2) := by decide +kernel
theorem dX10_opens_34 : decode cX10_opens 34 = .ok (.invokevirtual 156, 3) := by decide +kernel
theorem dX10_opens_37 : decode cX10_opens 37 = .ok (.ifCond .eq 8, 3) := by decide +kernel
theorem dX10_opens_40 : decode cX10_opens 40 = .ok (.iload 4, 2) := by decide +kernel
theorem dX10_opens_42 : decode cX10_opens 42 = .ok (.goto 4, 3) := by decide +kernel
theorem dX10_opens_45 : decode cX10_opens 45 = .ok (.iload_n 3, 1) := by decide +kernel
theorem dX10_opens_46 : decode cX10_opens 46 = .ok (.istore_n 3, 1) := by decide +kernel
theorem dX10_opens_47 : decode cX10_opens 47 = .ok (.iinc 4 (-1), 3) := by decide +kernel
theorem dX10_opens_50 : decode cX10_opens 50 = .ok (.goto (-40), 3) := by decide +kernel
theorem dX10_opens_53 : decode cX10_opens 53 = .ok (.iconst (-1), 1) := by decide +kernel
theorem dX10_opens_54 : decode cX10_opens 54 = .ok (.istore 4, 2) := by decide +kernel
theorem dX10_opens_56 : decode cX10_opens 56 = .ok (.aload_n 0, 1) := by decide +kernel
theorem dX10_opens_57 : decode cX10_opens 57 = .ok (.getfield 111, 3) := by decide +kernel
theorem dX10_opens_60 : decode cX10_opens 60 = .ok (.iconst 1, 1) := by decide +kernel
theorem dX10_opens_61 : decode cX10_opens 61 = .ok (.isub, 1) := by decide +kernel
theorem dX10_opens_62 : decode cX10_opens 62 = .ok (.istore 5, 2) := by decide +kernel
theorem dX10_opens_64 : decode cX10_opens 64 = .ok (.iload 5, 2) := by decide +kernel
theorem dX10_opens_66 : decode cX10_opens 66 = .ok (.ifCond .lt 35, 3) := by decide +kernel
theorem dX10_opens_69 : decode cX10_opens 69 = .ok (.aload_n 0, 1) := by decide +kernel
theorem dX10_opens_70 : decode cX10_opens 70 = .ok (.getfield 37, 3) := by decide +kernel
theorem dX10_opens_73 : decode cX10_opens 73 = .ok (.iload 5, 2) := by decide +kernel
theorem dX10_opens_75 : decode cX10_opens 75 = .ok (.iaload, 1) := by decide +kernel
theorem dX10_opens_76 : decode cX10_opens 76 = .ok (.iload_n 2, 1) := by decide +kernel
theorem dX10_opens_77 : decode cX10_opens 77 = .ok (.if_icmp .ne 14, 3) := by decide +kernel
theorem dX10_opens_80 : decode cX10_opens 80 = .ok (.iload 5, 2) := by decide +kernel
theorem dX10_opens_82 : decode cX10_opens 82 = .ok (.iload_n 3, 1) := by decide +kernel
theorem dX10_opens_83 : decode cX10_opens 83 = .ok (.if_icmp .eq 8, 3) := by decide +kernel
theorem dX10_opens_86 : decode cX10_opens 86 = .ok (.iload 5, 2) := by decide +kernel
theorem dX10_opens_88 : decode cX10_opens 88 = .ok (.goto 5, 3) := by decide +kernel
theorem dX10_opens_91 : decode cX10_opens 91 = .ok (.iload 4, 2) := by decide +kernel
theorem dX10_opens_93 : decode cX10_opens 93 = .ok (.istore 4, 2) := by decide +kernel
theorem dX10_opens_95 : decode cX10_opens 95 = .ok (.iinc 5 (-1), 3) := by decide +kernel
theorem dX10_opens_98 : decode cX10_opens 98 = .ok (.goto (-34), 3) := by decide +kernel
theorem dX10_opens_101 : decode cX10_opens 101 = .ok (.iload_n 3, 1) := by decide +kernel
theorem dX10_opens_102 : decode cX10_opens 102 = .ok (.iconst (-1), 1) := by decide +kernel
theorem dX10_opens_103 : decode cX10_opens 103 = .ok (.if_icmp .eq 26, 3) := by decide +kernel
theorem dX10_opens_106 : decode cX10_opens 106 = .ok (.aload_n 0, 1) := by decide +kernel
theorem dX10_opens_107 : decode cX10_opens 107 = .ok (.iload_n 1, 1) := by decide +kernel
theorem dX10_opens_108 : decode cX10_opens 108 = .ok (.iload_n 2, 1) := by decide +kernel
theorem dX10_opens_109 : decode cX10_opens 109 = .ok (.iload_n 3, 1) := by decide +kernel
theorem dX10_opens_110 : decode cX10_opens 110 = .ok (.iconst 0, 1) := by decide +kernel
theorem dX10_opens_111 : decode cX10_opens 111 = .ok (.invokevirtual 165, 3) := by decide +kernel
theorem dX10_opens_114 : decode cX10_opens 114 = .ok (.iload 4, 2) := by decide +kernel
theorem dX10_opens_116 : decode cX10_opens 116 = .ok (.iconst (-1), 1) := by decide +kernel
theorem dX10_opens_117 : decode cX10_opens 117 = .ok (.if_icmp .eq 12, 3) := by decide +kernel
theorem dX10_opens_120 : decode cX10_opens 120 = .ok (.aload_n 0, 1) := by decide +kernel
theorem dX10_opens_121 : decode cX10_opens 121 = .ok (.iload_n 1, 1) := by decide +kernel
theorem dX10_opens_122 : decode cX10_opens 122 = .ok (.iload_n 2, 1) := by decide +kernel
theorem dX10_opens_123 : decode cX10_opens 123 = .ok (.iload 4, 2) := by decide +kernel
theorem dX10_opens_125 : decode cX10_opens 125 = .ok (.iconst 1, 1) := by decide +kernel
theorem dX10_opens_126 : decode cX10_opens 126 = .ok (.invokevirtual 165, 3) := by decide +kernel
theorem dX10_opens_129 : decode cX10_opens 129 = .ok (.return_, 1) := by decide +kernel
theorem dX10_step_0 : decode cX10_step 0 = .ok (.aload_n 0, 1) := by decide +kernel
theorem dX10_step_1 : decode cX10_step 1 = .ok (.iconst 0, 1) := by decide +kernel
theorem dX10_step_2 : decode cX10_step 2 = .ok (.putfield 159, 3) := by decide +kernel
theorem dX10_step_5 : decode cX10_step 5 = .ok (.iconst 0, 1) := by decide +kernel
theorem dX10_step_6 : decode cX10_step 6 = .ok (.istore_n 2, 1) := by decide +kernel
theorem dX10_step_7 : decode cX10_step 7 = .ok (.iload_n 2, 1) := by decide +kernel
theorem dX10_step_8 : decode cX10_step 8 = .ok (.aload_n 0, 1) := by decide +kernel
theorem dX10_step_9 : decode cX10_step 9 = .ok (.getfield 111, 3) := by decide +kernel
theorem dX10_step_12 : decode cX10_step 12 = .ok (.if_icmp .ge 41, 3) := by decide +kernel
theorem dX10_step_15 : decode cX10_step 15 = .ok (.aload_n 0, 1) := by decide +kernel
theorem dX10_step_16 : decode cX10_step 16 = .ok (.getfield 37, 3) := by decide +kernel
theorem dX10_step_19 : decode cX10_step 19 = .ok (.iload_n 2, 1) := by decide +kernel
theorem dX10_step_20 : decode cX10_step 20 = .ok (.aload_n 0, 1) := by decide +kernel
theorem dX10_step_21 : decode cX10_step 21 = .ok (.getfield 31, 3) := by decide +kernel
theorem dX10_step_24 : decode cX10_step 24 = .ok (.bipush 7, 2) := by decide +kernel
theorem dX10_step_26 : decode cX10_step 26 = .ok (.iload_n 2, 1) := by decide +kernel
theorem dX10_step_27 : decode cX10_step 27 = .ok (.imul, 1) := by decide +kernel
theorem dX10_step_28 : decode cX10_step 28 = .ok (.bipush 6, 2) := by decide +kernel
theorem dX10_step_30 : decode cX10_step 30 = .ok (.iadd, 1) := by decide +kernel
theorem dX10_step_31 : decode cX10_step 31 = .ok (.iaload, 1) := by decide +kernel
theorem dX10_step_32 : decode cX10_step 32 = .ok (.iload_n 1, 1) := by decide +kernel
theorem dX10_step_33 : decode cX10_step 33 = .ok (.if_icmp .ne 7, 3) := by decide +kernel
theorem dX10_step_36 : decode cX10_step 36 = .ok (.iconst 0, 1) := by decide +kernel
theorem dX10_step_37 : decode cX10_step 37 = .ok (.goto 9, 3) := by decide +kernel
theorem dX10_step_40 : decode cX10_step 40 = .ok (.aload_n 0, 1) := by decide +kernel
theorem dX10_step_41 : decode cX10_step 41 = .ok (.getfield 37, 3) := by decide +kernel
theorem dX10_step_44 : decode cX10_step 44 = .ok (.iload_n 2, 1) := by decide +kernel
theorem dX10_step_45 : decode cX10_step 45 = .ok (.iaload, 1) := by decide +kernel
theorem dX10_step_46 : decode cX10_step 46 = .ok (.iastore, 1) := by decide +kernel
theorem dX10_step_47 : decode cX10_step 47 = .ok (.iinc 2 1, 3) := by decide +kernel
theorem dX10_step_50 : decode cX10_step 50 = .ok (.goto (-43), 3) := by decide +kernel
theorem dX10_step_53 : decode cX10_step 53 = .ok (.aload_n 0, 1) := by decide +kernel
theorem dX10_step_54 : decode cX10_step 54 = .ok (.invokevirtual 169, 3) := by decide +kernel
theorem dX10_step_57 : decode cX10_step 57 = .ok (.iconst 1, 1) := by decide +kernel
theorem dX10_step_58 : decode cX10_step 58 = .ok (.isub, 1) := by decide +kernel
theorem dX10_step_59 : decode cX10_step 59 = .ok (.istore_n 2, 1) := by decide +kernel
theorem dX10_step_60 : decode cX10_step 60 = .ok (.iload_n 2, 1) := by decide +kernel
theorem dX10_step_61 : decode cX10_step 61 = .ok (.ifCond .lt 15, 3) := by decide +kernel
theorem dX10_step_64 : decode cX10_step 64 = .ok (.aload_n 0, 1) := by decide +kernel
theorem dX10_step_65 : decode cX10_step 65 = .ok (.iload_n 1, 1) := by decide +kernel
theorem dX10_step_66 : decode cX10_step 66 = .ok (.iload_n 2, 1) := by decide +kernel
theorem dX10_step_67 : decode cX10_step 67 = .ok (.invokevirtual 172, 3) := by decide +kernel
theorem dX10_step_70 : decode cX10_step 70 = .ok (.iinc 2 (-1), 3) := by decide +kernel
theorem dX10_step_73 : decode cX10_step 73 = .ok (.goto (-13), 3) := by decide +kernel
theorem dX10_step_76 : decode cX10_step 76 = .ok (.iconst 0, 1) := by decide +kernel
theorem dX10_step_77 : decode cX10_step 77 = .ok (.istore_n 2, 1) := by decide +kernel
theorem dX10_step_78 : decode cX10_step 78 = .ok (.iload_n 2, 1) := by decide +kernel
theorem dX10_step_79 : decode cX10_step 79 = .ok (.aload_n 0, 1) := by decide +kernel
theorem dX10_step_80 : decode cX10_step 80 = .ok (.getfield 111, 3) := by decide +kernel
theorem dX10_step_83 : decode cX10_step 83 = .ok (.if_icmp .ge 91, 3) := by decide +kernel
theorem dX10_step_86 : decode cX10_step 86 = .ok (.aload_n 0, 1) := by decide +kernel
theorem dX10_step_87 : decode cX10_step 87 = .ok (.getfield 37, 3) := by decide +kernel
theorem dX10_step_90 : decode cX10_step 90 = .ok (.iload_n 2, 1) := by decide +kernel
theorem dX10_step_91 : decode cX10_step 91 = .ok (.iaload, 1) := by decide +kernel
theorem dX10_step_92 : decode cX10_step 92 = .ok (.i2l, 1) := by decide +kernel
theorem dX10_step_93 : decode cX10_step 93 = .ok (.lconst 0, 1) := by decide +kernel
theorem dX10_step_94 : decode cX10_step 94 = .ok (.aload_n 0, 1) := by decide +kernel
theorem dX10_step_95 : decode cX10_step 95 = .ok (.invokevirtual 169, 3) := by decide +kernel
theorem dX10_step_98 : decode cX10_step 98 = .ok (.iconst 1, 1) := by decide +kernel
theorem dX10_step_99 : decode cX10_step 99 = .ok (.isub, 1) := by decide +kernel
theorem dX10_step_100 : decode cX10_step 100 = .ok (.i2l, 1) := by decide +kernel
theorem dX10_step_101 : decode cX10_step 101 = .ok (.invokestatic 64, 3) := by decide +kernel
theorem dX10_step_104 : decode cX10_step 104 = .ok (.ifCond .eq 64, 3) := by decide +kernel
theorem dX10_step_107 : decode cX10_step 107 = .ok (.aload_n 0, 1) := by decide +kernel
theorem dX10_step_108 : decode cX10_step 108 = .ok (.getfield 159, 3) := by decide +kernel
theorem dX10_step_111 : decode cX10_step 111 = .ok (.iload_n 2, 1) := by decide +kernel
theorem dX10_step_112 : decode cX10_step 112 = .ok (.invokestatic 149, 3) := by decide +kernel
theorem dX10_step_115 : decode cX10_step 115 = .ok (.ifCond .ne 53, 3) := by decide +kernel
theorem dX10_step_118 : decode cX10_step 118 = .ok (.aload_n 0, 1) := by decide +kernel
theorem dX10_step_119 : decode cX10_step 119 = .ok (.getfield 46, 3) := by decide +kernel
theorem dX10_step_122 : decode cX10_step 122 = .ok (.iload_n 2, 1) := by decide +kernel
theorem dX10_step_123 : decode cX10_step 123 = .ok (.dup2, 1) := by decide +kernel
theorem dX10_step_124 : decode cX10_step 124 = .ok (.iaload, 1) := by decide +kernel
theorem dX10_step_125 : decode cX10_step 125 = .ok (.iconst 1, 1) := by decide +kernel
theorem dX10_step_126 : decode cX10_step 126 = .ok (.iadd, 1) := by decide +kernel
theorem dX10_step_127 : decode cX10_step 127 = .ok (.iastore, 1) := by decide +kernel
theorem dX10_step_128 : decode cX10_step 128 = .ok (.aload_n 0, 1) := by decide +kernel
theorem dX10_step_129 : decode cX10_step 129 = .ok (.aload_n 0, 1) := by decide +kernel
theorem dX10_step_130 : decode cX10_step 130 = .ok (.getfield 176, 3) := by decide +kernel
theorem dX10_step_133 : decode cX10_step 133 = .ok (.iconst (-1), 1) := by decide +kernel
theorem dX10_step_134 : decode cX10_step 134 = .ok (.if_icmp .ne 7, 3) := by decide +kernel
theorem dX10_step_137 : decode cX10_step 137 = .ok (.iload_n 2, 1) := by decide +kernel
theorem dX10_step_138 : decode cX10_step 138 = .ok (.goto 7, 3) := by decide +kernel
theorem dX10_step_141 : decode cX10_step 141 = .ok (.aload_n 0, 1) := by decide +kernel
theorem dX10_step_142 : decode cX10_step 142 = .ok (.getfield 179, 3) := by decide +kernel
theorem dX10_step_145 : decode cX10_step 145 = .ok (.putfield 179, 3) := by decide +kernel
theorem dX10_step_148 : decode cX10_step 148 = .ok (.aload_n 0, 1) := by decide +kernel
theorem dX10_step_149 : decode cX10_step 149 = .ok (.aload_n 0, 1) := by decide +kernel
theorem dX10_step_150 : decode cX10_step 150 = .ok (.getfield 176, 3) := by decide +kernel
theorem dX10_step_153 : decode cX10_step 153 = .ok (.iconst (-1), 1) := by decide +kernel
theorem dX10_step_154 : decode cX10_step 154 = .ok (.if_icmp .ne 7, 3) := by decide +kernel
theorem dX10_step_157 : decode cX10_step 157 = .ok (.iload_n 1, 1) := by decide +kernel
theorem dX10_step_158 : decode cX10_step 158 = .ok (.goto 7, 3) := by decide +kernel
theorem dX10_step_161 : decode cX10_step 161 = .ok (.aload_n 0, 1) := by decide +kernel
theorem dX10_step_162 : decode cX10_step 162 = .ok (.getfield 176, 3) := by decide +kernel
theorem dX10_step_165 : decode cX10_step 165 = .ok (.putfield 176, 3) := by decide +kernel
theorem dX10_step_168 : decode cX10_step 168 = .ok (.iinc 2 1, 3) := by decide +kernel
theorem dX10_step_171 : decode cX10_step 171 = .ok (.goto (-93), 3) := by decide +kernel
theorem dX10_step_174 : decode cX10_step 174 = .ok (.return_, 1) := by decide +kernel
theorem dX10_lives_0 : decode cX10_lives 0 = .ok (.aload_n 0, 1) := by decide +kernel
theorem dX10_lives_1 : decode cX10_lives 1 = .ok (.iconst (-1), 1) := by decide +kernel
theorem dX10_lives_2 : decode cX10_lives 2 = .ok (.putfield 176, 3) := by decide +kernel
theorem dX10_lives_5 : decode cX10_lives 5 = .ok (.aload_n 0, 1) := by decide +kernel
theorem dX10_lives_6 : decode cX10_lives 6 = .ok (.iconst (-1), 1) := by decide +kernel
theorem dX10_lives_7 : decode cX10_lives 7 = .ok (.putfield 179, 3) := by decide +kernel
theorem dX10_lives_10 : decode cX10_lives 10 = .ok (.iconst 0, 1) := by decide +kernel
theorem dX10_lives_11 : decode cX10_lives 11 = .ok (.istore_n 2, 1) := by decide +kernel
theorem dX10_lives_12 : decode cX10_lives 12 = .ok (.iload_n 2, 1) := by decide +kernel
theorem dX10_lives_13 : decode cX10_lives 13 = .ok (.bipush 8, 2) := by decide +kernel
theorem dX10_lives_15 : decode cX10_lives 15 = .ok (.if_icmp .ge 23, 3) := by decide +kernel
theorem dX10_lives_18 : decode cX10_lives 18 = .ok (.aload_n 0, 1) := by decide +kernel
theorem dX10_lives_19 : decode cX10_lives 19 = .ok (.getfield 37, 3) := by decide +kernel
theorem dX10_lives_22 : decode cX10_lives 22 = .ok (.iload_n 2, 1) := by decide +kernel
theorem dX10_lives_23 : decode cX10_lives 23 = .ok (.iconst (-1), 1) := by decide +kernel
theorem dX10_lives_24 : decode cX10_lives 24 = .ok (.iastore, 1) := by decide +kernel
theorem dX10_lives_25 : decode cX10_lives 25 = .ok (.aload_n 0, 1) := by decide +kernel
theorem dX10_lives_26 : decode cX10_lives 26 = .ok (.getfield 46, 3) := by decide +kernel
theorem dX10_lives_29 : decode cX10_lives 29 = .ok (.iload_n 2, 1) := by decide +kernel
theorem dX10_lives_30 : decode cX10_lives 30 = .ok (.iconst 0, 1) := by decide +kernel
theorem dX10_lives_31 : decode cX10_lives 31 = .ok (.iastore, 1) := by decide +kernel
theorem dX10_lives_32 : decode cX10_lives 32 = .ok (.iinc 2 1, 3) := by decide +kernel
theorem dX10_lives_35 : decode cX10_lives 35 = .ok (.goto (-23), 3) := by decide +kernel
theorem dX10_lives_38 : decode cX10_lives 38 = .ok (.iconst 0, 1) := by decide +kernel
theorem dX10_lives_39 : decode cX10_lives 39 = .ok (.istore_n 2, 1) := by decide +kernel
theorem dX10_lives_40 : decode cX10_lives 40 = .ok (.iload_n 2, 1) := by decide +kernel
theorem dX10_lives_41 : decode cX10_lives 41 = .ok (.bipush 64, 2) := by decide +kernel
theorem dX10_lives_43 : decode cX10_lives 43 = .ok (.if_icmp .ge 23, 3) := by decide +kernel
theorem dX10_lives_46 : decode cX10_lives 46 = .ok (.aload_n 0, 1) := by decide +kernel
theorem dX10_lives_47 : decode cX10_lives 47 = .ok (.getfield 40, 3) := by decide +kernel
theorem dX10_lives_50 : decode cX10_lives 50 = .ok (.iload_n 2, 1) := by decide +kernel
theorem dX10_lives_51 : decode cX10_lives 51 = .ok (.iconst (-1), 1) := by decide +kernel
theorem dX10_lives_52 : decode cX10_lives 52 = .ok (.iastore, 1) := by decide +kernel
theorem dX10_lives_53 : decode cX10_lives 53 = .ok (.aload_n 0, 1) := by decide +kernel
theorem dX10_lives_54 : decode cX10_lives 54 = .ok (.getfield 43, 3) := by decide +kernel
theorem dX10_lives_57 : decode cX10_lives 57 = .ok (.iload_n 2, 1) := by decide +kernel
theorem dX10_lives_58 : decode cX10_lives 58 = .ok (.iconst 0, 1) := by decide +kernel
theorem dX10_lives_59 : decode cX10_lives 59 = .ok (.iastore, 1) := by decide +kernel
theorem dX10_lives_60 : decode cX10_lives 60 = .ok (.iinc 2 1, 3) := by decide +kernel
theorem dX10_lives_63 : decode cX10_lives 63 = .ok (.goto (-23), 3) := by decide +kernel
theorem dX10_lives_66 : decode cX10_lives 66 = .ok (.iconst 0, 1) := by decide +kernel
theorem dX10_lives_67 : decode cX10_lives 67 = .ok (.istore_n 2, 1) := by decide +kernel
theorem dX10_lives_68 : decode cX10_lives 68 = .ok (.iload_n 2, 1) := by decide +kernel
theorem dX10_lives_69 : decode cX10_lives 69 = .ok (.iload_n 1, 1) := by decide +kernel
theorem dX10_lives_70 : decode cX10_lives 70 = .ok (.if_icmp .gt 14, 3) := by decide +kernel
theorem dX10_lives_73 : decode cX10_lives 73 = .ok (.aload_n 0, 1) := by decide +kernel
theorem dX10_lives_74 : decode cX10_lives 74 = .ok (.iload_n 2, 1) := by decide +kernel
theorem dX10_lives_75 : decode cX10_lives 75 = .ok (.invokevirtual 182, 3) := by decide +kernel
theorem dX10_lives_78 : decode cX10_lives 78 = .ok (.iinc 2 1, 3) := by decide +kernel
theorem dX10_lives_81 : decode cX10_lives 81 = .ok (.goto (-13), 3) := by decide +kernel
theorem dX10_lives_84 : decode cX10_lives 84 = .ok (.return_, 1) := by decide +kernel
theorem dX10_atOf_0 : decode cX10_atOf 0 = .ok (.aload_n 0, 1) := by decide +kernel
theorem dX10_atOf_1 : decode cX10_atOf 1 = .ok (.iload_n 1, 1) := by decide +kernel
theorem dX10_atOf_2 : decode cX10_atOf 2 = .ok (.invokevirtual 185, 3) := by decide +kernel
theorem dX10_atOf_5 : decode cX10_atOf 5 = .ok (.aload_n 0, 1) := by decide +kernel
theorem dX10_atOf_6 : decode cX10_atOf 6 = .ok (.getfield 37, 3) := by decide +kernel
theorem dX10_atOf_9 : decode cX10_atOf 9 = .ok (.iload_n 2, 1) := by decide +kernel
theorem dX10_atOf_10 : decode cX10_atOf 10 = .ok (.iaload, 1) := by decide +kernel
theorem dX10_atOf_11 : decode cX10_atOf 11 = .ok (.ireturn, 1) := by decide +kernel
theorem dX10_at_0 : decode cX10_at 0 = .ok (.aload_n 0, 1) := by decide +kernel
theorem dX10_at_1 : decode cX10_at 1 = .ok (.invokevirtual 129, 3) := by decide +kernel
theorem dX10_at_4 : decode cX10_at 4 = .ok (.iload_n 1, 1) := by decide +kernel
theorem dX10_at_5 : decode cX10_at 5 = .ok (.invokestatic 188, 3) := by decide +kernel
theorem dX10_at_8 : decode cX10_at 8 = .ok (.ifCond .eq 20, 3) := by decide +kernel
theorem dX10_at_11 : decode cX10_at 11 = .ok (.aload_n 0, 1) := by decide +kernel
theorem dX10_at_12 : decode cX10_at 12 = .ok (.iload_n 2, 1) := by decide +kernel
theorem dX10_at_13 : decode cX10_at 13 = .ok (.invokevirtual 135, 3) := by decide +kernel
theorem dX10_at_16 : decode cX10_at 16 = .ok (.ifCond .eq 12, 3) := by decide +kernel
theorem dX10_at_19 : decode cX10_at 19 = .ok (.aload_n 0, 1) := by decide +kernel
theorem dX10_at_20 : decode cX10_at 20 = .ok (.iload_n 1, 1) := by decide +kernel
theorem dX10_at_21 : decode cX10_at 21 = .ok (.iload_n 2, 1) := by decide +kernel
theorem dX10_at_22 : decode cX10_at 22 = .ok (.invokevirtual 191, 3) := by decide +kernel
theorem dX10_at_25 : decode cX10_at 25 = .ok (.goto 5, 3) := by decide +kernel
theorem dX10_at_28 : decode cX10_at 28 = .ok (.bipush (-2), 2) := by decide +kernel
theorem dX10_at_30 : decode cX10_at 30 = .ok (.ireturn, 1) := by decide +kernel
theorem dX10_passesOf_0 : decode cX10_passesOf 0 = .ok (.aload_n 0, 1) := by decide +kernel
theorem dX10_passesOf_1 : decode cX10_passesOf 1 = .ok (.bipush 99, 2) := by decide +kernel
theorem dX10_passesOf_3 : decode cX10_passesOf 3 = .ok (.invokevirtual 185, 3) := by decide +kernel
theorem dX10_passesOf_6 : decode cX10_passesOf 6 = .ok (.iload_n 3, 1) := by decide +kernel
theorem dX10_passesOf_7 : decode cX10_passesOf 7 = .ok (.ifCond .ne 17, 3) := by decide +kernel
theorem dX10_passesOf_10 : decode cX10_passesOf 10 = .ok (.aload_n 0, 1) := by decide +kernel
theorem dX10_passesOf_11 : decode cX10_passesOf 11 = .ok (.getfield 40, 3) := by decide +kernel
theorem dX10_passesOf_14 : decode cX10_passesOf 14 = .ok (.bipush 8, 2) := by decide +kernel
theorem dX10_passesOf_16 : decode cX10_passesOf 16 = .ok (.iload_n 1, 1) := by decide +kernel
theorem dX10_passesOf_17 : decode cX10_passesOf 17 = .ok (.imul, 1) := by decide +kernel
theorem dX10_passesOf_18 : decode cX10_passesOf 18 = .ok (.iload_n 2, 1) := by decide +kernel
theorem dX10_passesOf_19 : decode cX10_passesOf 19 = .ok (.iadd, 1) := by decide +kernel
theorem dX10_passesOf_20 : decode cX10_passesOf 20 = .ok (.iaload, 1) := by decide +kernel
theorem dX10_passesOf_21 : decode cX10_passesOf 21 = .ok (.goto 14, 3) := by decide +kernel
theorem dX10_passesOf_24 : decode cX10_passesOf 24 = .ok (.aload_n 0, 1) := by decide +kernel
theorem dX10_passesOf_25 : decode cX10_passesOf 25 = .ok (.getfield 43, 3) := by decide +kernel
theorem dX10_passesOf_28 : decode cX10_passesOf 28 = .ok (.bipush 8, 2) := by decide +kernel
theorem dX10_passesOf_30 : decode cX10_passesOf 30 = .ok (.iload_n 1, 1) := by decide +kernel
theorem dX10_passesOf_31 : decode cX10_passesOf 31 = .ok (.imul, 1) := by decide +kernel
theorem dX10_passesOf_32 : decode cX10_passesOf 32 = .ok (.iload_n 2, 1) := by decide +kernel
theorem dX10_passesOf_33 : decode cX10_passesOf 33 = .ok (.iadd, 1) := by decide +kernel
theorem dX10_passesOf_34 : decode cX10_passesOf 34 = .ok (.iaload, 1) := by decide +kernel
theorem dX10_passesOf_35 : decode cX10_passesOf 35 = .ok (.ireturn, 1) := by decide +kernel
theorem dX10_passes_0 : decode cX10_passes 0 = .ok (.aload_n 0, 1) := by decide +kernel
theorem dX10_passes_1 : decode cX10_passes 1 = .ok (.invokevirtual 129, 3) := by decide +kernel
theorem dX10_passes_4 : decode cX10_passes 4 = .ok (.aload_n 0, 1) := by decide +kernel
theorem dX10_passes_5 : decode cX10_passes 5 = .ok (.iload_n 1, 1) := by decide +kernel
theorem dX10_passes_6 : decode cX10_passes 6 = .ok (.invokevirtual 132, 3) := by decide +kernel
theorem dX10_passes_9 : decode cX10_passes 9 = .ok (.ifCond .eq 28, 3) := by decide +kernel
theorem dX10_passes_12 : decode cX10_passes 12 = .ok (.aload_n 0, 1) := by decide +kernel
theorem dX10_passes_13 : decode cX10_passes 13 = .ok (.iload_n 2, 1) := by decide +kernel
theorem dX10_passes_14 : decode cX10_passes 14 = .ok (.invokevirtual 135, 3) := by decide +kernel
theorem dX10_passes_17 : decode cX10_passes 17 = .ok (.ifCond .eq 20, 3) := by decide +kernel
theorem dX10_passes_20 : decode cX10_passes 20 = .ok (.iload_n 3, 1) := by decide +kernel
theorem dX10_passes_21 : decode cX10_passes 21 = .ok (.invokestatic 92, 3) := by decide +kernel
theorem dX10_passes_24 : decode cX10_passes 24 = .ok (.ifCond .eq 13, 3) := by decide +kernel
theorem dX10_passes_27 : decode cX10_passes 27 = .ok (.aload_n 0, 1) := by decide +kernel
theorem dX10_passes_28 : decode cX10_passes 28 = .ok (.iload_n 1, 1) := by decide +kernel
theorem dX10_passes_29 : decode cX10_passes 29 = .ok (.iload_n 2, 1) := by decide +kernel
theorem dX10_passes_30 : decode cX10_passes 30 = .ok (.iload_n 3, 1) := by decide +kernel
theorem dX10_passes_31 : decode cX10_passes 31 = .ok (.invokevirtual 194, 3) := by decide +kernel
theorem dX10_passes_34 : decode cX10_passes 34 = .ok (.goto 5, 3) := by decide +kernel
theorem dX10_passes_37 : decode cX10_passes 37 = .ok (.bipush (-2), 2) := by decide +kernel
theorem dX10_passes_39 : decode cX10_passes 39 = .ok (.ireturn, 1) := by decide +kernel
theorem dX10_waitsOf_0 : decode cX10_waitsOf 0 = .ok (.aload_n 0, 1) := by decide +kernel
theorem dX10_waitsOf_1 : decode cX10_waitsOf 1 = .ok (.bipush 99, 2) := by decide +kernel
theorem dX10_waitsOf_3 : decode cX10_waitsOf 3 = .ok (.invokevirtual 185, 3) := by decide +kernel
theorem dX10_waitsOf_6 : decode cX10_waitsOf 6 = .ok (.aload_n 0, 1) := by decide +kernel
theorem dX10_waitsOf_7 : decode cX10_waitsOf 7 = .ok (.getfield 46, 3) := by decide +kernel
theorem dX10_waitsOf_10 : decode cX10_waitsOf 10 = .ok (.iload_n 1, 1) := by decide +kernel
theorem dX10_waitsOf_11 : decode cX10_waitsOf 11 = .ok (.iaload, 1) := by decide +kernel
theorem dX10_waitsOf_12 : decode cX10_waitsOf 12 = .ok (.ireturn, 1) := by decide +kernel
theorem dX10_waits_0 : decode cX10_waits 0 = .ok (.aload_n 0, 1) := by decide +kernel
theorem dX10_waits_1 : decode cX10_waits 1 = .ok (.invokevirtual 129, 3) := by decide +kernel
theorem dX10_waits_4 : decode cX10_waits 4 = .ok (.aload_n 0, 1) := by decide +kernel
theorem dX10_waits_5 : decode cX10_waits 5 = .ok (.iload_n 1, 1) := by decide +kernel
theorem dX10_waits_6 : decode cX10_waits 6 = .ok (.invokevirtual 135, 3) := by decide +kernel
theorem dX10_waits_9 : decode cX10_waits 9 = .ok (.ifCond .eq 11, 3) := by decide +kernel
theorem dX10_waits_12 : decode cX10_waits 12 = .ok (.aload_n 0, 1) := by decide +kernel
theorem dX10_waits_13 : decode cX10_waits 13 = .ok (.iload_n 1, 1) := by decide +kernel
theorem dX10_waits_14 : decode cX10_waits 14 = .ok (.invokevirtual 197, 3) := by decide +kernel
theorem dX10_waits_17 : decode cX10_waits 17 = .ok (.goto 5, 3) := by decide +kernel
theorem dX10_waits_20 : decode cX10_waits 20 = .ok (.bipush (-2), 2) := by decide +kernel
theorem dX10_waits_22 : decode cX10_waits 22 = .ok (.ireturn, 1) := by decide +kernel
theorem dX10_throughNow_0 : decode cX10_throughNow 0 = .ok (.iconst 0, 1) := by decide +kernel
theorem dX10_throughNow_1 : decode cX10_throughNow 1 = .ok (.istore_n 1, 1) := by decide +kernel
theorem dX10_throughNow_2 : decode cX10_throughNow 2 = .ok (.iconst 0, 1) := by decide +kernel
theorem dX10_throughNow_3 : decode cX10_throughNow 3 = .ok (.istore_n 2, 1) := by decide +kernel
theorem dX10_throughNow_4 : decode cX10_throughNow 4 = .ok (.iload_n 2, 1) := by decide +kernel
theorem dX10_throughNow_5 : decode cX10_throughNow 5 = .ok (.aload_n 0, 1) := by decide +kernel
theorem dX10_throughNow_6 : decode cX10_throughNow 6 = .ok (.getfield 111, 3) := by decide +kernel
theorem dX10_throughNow_9 : decode cX10_throughNow 9 = .ok (.if_icmp .ge 32, 3) := by decide +kernel
theorem dX10_throughNow_12 : decode cX10_throughNow 12 = .ok (.iload_n 1, 1) := by decide +kernel
theorem dX10_throughNow_13 : decode cX10_throughNow 13 = .ok (.aload_n 0, 1) := by decide +kernel
theorem dX10_throughNow_14 : decode cX10_throughNow 14 = .ok (.getfield 37, 3) := by decide +kernel
theorem dX10_throughNow_17 : decode cX10_throughNow 17 = .ok (.iload_n 2, 1) := by decide +kernel
theorem dX10_throughNow_18 : decode cX10_throughNow 18 = .ok (.iaload, 1) := by decide +kernel
theorem dX10_throughNow_19 : decode cX10_throughNow 19 = .ok (.aload_n 0, 1) := by decide +kernel
theorem dX10_throughNow_20 : decode cX10_throughNow 20 = .ok (.invokevirtual 169, 3) := by decide +kernel
theorem dX10_throughNow_23 : decode cX10_throughNow 23 = .ok (.if_icmp .ne 9, 3) := by decide +kernel
theorem dX10_throughNow_26 : decode cX10_throughNow 26 = .ok (.iconst 1, 1) := by decide +kernel
theorem dX10_throughNow_27 : decode cX10_throughNow 27 = .ok (.iload_n 2, 1) := by decide +kernel
theorem dX10_throughNow_28 : decode cX10_throughNow 28 = .ok (.ishl, 1) := by decide +kernel
theorem dX10_throughNow_29 : decode cX10_throughNow 29 = .ok (.goto 4, 3) := by decide +kernel
theorem dX10_throughNow_32 : decode cX10_throughNow 32 = .ok (.iconst 0, 1) := by decide +kernel
theorem dX10_throughNow_33 : decode cX10_throughNow 33 = .ok (.ior, 1) := by decide +kernel
theorem dX10_throughNow_34 : decode cX10_throughNow 34 = .ok (.istore_n 1, 1) := by decide +kernel
theorem dX10_throughNow_35 : decode cX10_throughNow 35 = .ok (.iinc 2 1, 3) := by decide +kernel
theorem dX10_throughNow_38 : decode cX10_throughNow 38 = .ok (.goto (-34), 3) := by decide +kernel
theorem dX10_throughNow_41 : decode cX10_throughNow 41 = .ok (.iload_n 1, 1) := by decide +kernel
theorem dX10_throughNow_42 : decode cX10_throughNow 42 = .ok (.ireturn, 1) := by decide +kernel
theorem dX10_throughOf_0 : decode cX10_throughOf 0 = .ok (.aload_n 0, 1) := by decide +kernel
theorem dX10_throughOf_1 : decode cX10_throughOf 1 = .ok (.iload_n 1, 1) := by decide +kernel
theorem dX10_throughOf_2 : decode cX10_throughOf 2 = .ok (.invokevirtual 185, 3) := by decide +kernel
theorem dX10_throughOf_5 : decode cX10_throughOf 5 = .ok (.aload_n 0, 1) := by decide +kernel
theorem dX10_throughOf_6 : decode cX10_throughOf 6 = .ok (.invokevirtual 200, 3) := by decide +kernel
theorem dX10_throughOf_9 : decode cX10_throughOf 9 = .ok (.ireturn, 1) := by decide +kernel
theorem dX10_through_0 : decode cX10_through 0 = .ok (.aload_n 0, 1) := by decide +kernel
theorem dX10_through_1 : decode cX10_through 1 = .ok (.invokevirtual 129, 3) := by decide +kernel
theorem dX10_through_4 : decode cX10_through 4 = .ok (.iload_n 1, 1) := by decide +kernel
theorem dX10_through_5 : decode cX10_through 5 = .ok (.invokestatic 188, 3) := by decide +kernel
theorem dX10_through_8 : decode cX10_through 8 = .ok (.ifCond .eq 11, 3) := by decide +kernel
theorem dX10_through_11 : decode cX10_through 11 = .ok (.aload_n 0, 1) := by decide +kernel
theorem dX10_through_12 : decode cX10_through 12 = .ok (.iload_n 1, 1) := by decide +kernel
theorem dX10_through_13 : decode cX10_through 13 = .ok (.invokevirtual 203, 3) := by decide +kernel
theorem dX10_through_16 : decode cX10_through 16 = .ok (.goto 5, 3) := by decide +kernel
theorem dX10_through_19 : decode cX10_through 19 = .ok (.bipush (-2), 2) := by decide +kernel
theorem dX10_through_21 : decode cX10_through 21 = .ok (.ireturn, 1) := by decide +kernel
theorem dX10_firstOf_0 : decode cX10_firstOf 0 = .ok (.aload_n 0, 1) := by decide +kernel
theorem dX10_firstOf_1 : decode cX10_firstOf 1 = .ok (.bipush 99, 2) := by decide +kernel
theorem dX10_firstOf_3 : decode cX10_firstOf 3 = .ok (.invokevirtual 185, 3) := by decide +kernel
theorem dX10_firstOf_6 : decode cX10_firstOf 6 = .ok (.iload_n 1, 1) := by decide +kernel
theorem dX10_firstOf_7 : decode cX10_firstOf 7 = .ok (.ifCond .ne 10, 3) := by decide +kernel
theorem dX10_firstOf_10 : decode cX10_firstOf 10 = .ok (.aload_n 0, 1) := by decide +kernel
theorem dX10_firstOf_11 : decode cX10_firstOf 11 = .ok (.getfield 176, 3) := by decide +kernel
theorem dX10_firstOf_14 : decode cX10_firstOf 14 = .ok (.goto 7, 3) := by decide +kernel
theorem dX10_firstOf_17 : decode cX10_firstOf 17 = .ok (.aload_n 0, 1) := by decide +kernel
theorem dX10_firstOf_18 : decode cX10_firstOf 18 = .ok (.getfield 179, 3) := by decide +kernel
theorem dX10_firstOf_21 : decode cX10_firstOf 21 = .ok (.ireturn, 1) := by decide +kernel
theorem dX10_first_0 : decode cX10_first 0 = .ok (.aload_n 0, 1) := by decide +kernel
theorem dX10_first_1 : decode cX10_first 1 = .ok (.invokevirtual 129, 3) := by decide +kernel
theorem dX10_first_4 : decode cX10_first 4 = .ok (.iload_n 1, 1) := by decide +kernel
theorem dX10_first_5 : decode cX10_first 5 = .ok (.invokestatic 92, 3) := by decide +kernel
theorem dX10_first_8 : decode cX10_first 8 = .ok (.ifCond .eq 11, 3) := by decide +kernel
theorem dX10_first_11 : decode cX10_first 11 = .ok (.aload_n 0, 1) := by decide +kernel
theorem dX10_first_12 : decode cX10_first 12 = .ok (.iload_n 1, 1) := by decide +kernel
theorem dX10_first_13 : decode cX10_first 13 = .ok (.invokevirtual 206, 3) := by decide +kernel
theorem dX10_first_16 : decode cX10_first 16 = .ok (.goto 5, 3) := by decide +kernel
theorem dX10_first_19 : decode cX10_first 19 = .ok (.bipush (-2), 2) := by decide +kernel
theorem dX10_first_21 : decode cX10_first 21 = .ok (.ireturn, 1) := by decide +kernel
theorem dX10_allWait_0 : decode cX10_allWait 0 = .ok (.iconst 0, 1) := by decide +kernel
theorem dX10_allWait_1 : decode cX10_allWait 1 = .ok (.istore_n 1, 1) := by decide +kernel
theorem dX10_allWait_2 : decode cX10_allWait 2 = .ok (.iconst 0, 1) := by decide +kernel
theorem dX10_allWait_3 : decode cX10_allWait 3 = .ok (.istore_n 2, 1) := by decide +kernel
theorem dX10_allWait_4 : decode cX10_allWait 4 = .ok (.iload_n 2, 1) := by decide +kernel
theorem dX10_allWait_5 : decode cX10_allWait 5 = .ok (.aload_n 0, 1) := by decide +kernel
theorem dX10_allWait_6 : decode cX10_allWait 6 = .ok (.getfield 111, 3) := by decide +kernel
theorem dX10_allWait_9 : decode cX10_allWait 9 = .ok (.if_icmp .ge 18, 3) := by decide +kernel
theorem dX10_allWait_12 : decode cX10_allWait 12 = .ok (.iload_n 1, 1) := by decide +kernel
theorem dX10_allWait_13 : decode cX10_allWait 13 = .ok (.aload_n 0, 1) := by decide +kernel
theorem dX10_allWait_14 : decode cX10_allWait 14 = .ok (.getfield 46, 3) := by decide +kernel
theorem dX10_allWait_17 : decode cX10_allWait 17 = .ok (.iload_n 2, 1) := by decide +kernel
theorem dX10_allWait_18 : decode cX10_allWait 18 = .ok (.iaload, 1) := by decide +kernel
theorem dX10_allWait_19 : decode cX10_allWait 19 = .ok (.iadd, 1) := by decide +kernel
theorem dX10_allWait_20 : decode cX10_allWait 20 = .ok (.istore_n 1, 1) := by decide +kernel
theorem dX10_allWait_21 : decode cX10_allWait 21 = .ok (.iinc 2 1, 3) := by decide +kernel
theorem dX10_allWait_24 : decode cX10_allWait 24 = .ok (.goto (-20), 3) := by decide +kernel
theorem dX10_allWait_27 : decode cX10_allWait 27 = .ok (.iload_n 1, 1) := by decide +kernel
theorem dX10_allWait_28 : decode cX10_allWait 28 = .ok (.ireturn, 1) := by decide +kernel
theorem dX10_isThrough_0 : decode cX10_isThrough 0 = .ok (.aload_n 0, 1) := by decide +kernel
theorem dX10_isThrough_1 : decode cX10_isThrough 1 = .ok (.bipush 99, 2) := by decide +kernel
theorem dX10_isThrough_3 : decode cX10_isThrough 3 = .ok (.invokevirtual 203, 3) := by decide +kernel
theorem dX10_isThrough_6 : decode cX10_isThrough 6 = .ok (.iload_n 1, 1) := by decide +kernel
theorem dX10_isThrough_7 : decode cX10_isThrough 7 = .ok (.invokestatic 149, 3) := by decide +kernel
theorem dX10_isThrough_10 : decode cX10_isThrough 10 = .ok (.ireturn, 1) := by decide +kernel
theorem dX10_cargoOf_0 : decode cX10_cargoOf 0 = .ok (.aload_n 0, 1) := by decide +kernel
theorem dX10_cargoOf_1 : decode cX10_cargoOf 1 = .ok (.iload_n 1, 1) := by decide +kernel
theorem dX10_cargoOf_2 : decode cX10_cargoOf 2 = .ok (.invokevirtual 209, 3) := by decide +kernel
theorem dX10_cargoOf_5 : decode cX10_cargoOf 5 = .ok (.ifCond .eq 14, 3) := by decide +kernel
theorem dX10_cargoOf_8 : decode cX10_cargoOf 8 = .ok (.iload_n 2, 1) := by decide +kernel
theorem dX10_cargoOf_9 : decode cX10_cargoOf 9 = .ok (.iconst (-1), 1) := by decide +kernel
theorem dX10_cargoOf_10 : decode cX10_cargoOf 10 = .ok (.if_icmp .ne 7, 3) := by decide +kernel
theorem dX10_cargoOf_13 : decode cX10_cargoOf 13 = .ok (.iconst 0, 1) := by decide +kernel
theorem dX10_cargoOf_14 : decode cX10_cargoOf 14 = .ok (.goto 4, 3) := by decide +kernel
theorem dX10_cargoOf_17 : decode cX10_cargoOf 17 = .ok (.iconst (-1), 1) := by decide +kernel
theorem dX10_cargoOf_18 : decode cX10_cargoOf 18 = .ok (.ireturn, 1) := by decide +kernel
theorem dX10_cargoOf_19 : decode cX10_cargoOf 19 = .ok (.iconst 0, 1) := by decide +kernel
theorem dX10_cargoOf_20 : decode cX10_cargoOf 20 = .ok (.istore_n 3, 1) := by decide +kernel
theorem dX10_cargoOf_21 : decode cX10_cargoOf 21 = .ok (.iload_n 3, 1) := by decide +kernel
theorem dX10_cargoOf_22 : decode cX10_cargoOf 22 = .ok (.bipush 6, 2) := by decide +kernel
theorem dX10_cargoOf_24 : decode cX10_cargoOf 24 = .ok (.if_icmp .ge 70, 3) := by decide +kernel
theorem dX10_cargoOf_27 : decode cX10_cargoOf 27 = .ok (.aload_n 0, 1) := by decide +kernel
theorem dX10_cargoOf_28 : decode cX10_cargoOf 28 = .ok (.getfield 31, 3) := by decide +kernel
theorem dX10_cargoOf_31 : decode cX10_cargoOf 31 = .ok (.bipush 7, 2) := by decide +kernel
theorem dX10_cargoOf_33 : decode cX10_cargoOf 33 = .ok (.iload_n 1, 1) := by decide +kernel
theorem dX10_cargoOf_34 : decode cX10_cargoOf 34 = .ok (.imul, 1) := by decide +kernel
theorem dX10_cargoOf_35 : decode cX10_cargoOf 35 = .ok (.iload_n 3, 1) := by decide +kernel
theorem dX10_cargoOf_36 : decode cX10_cargoOf 36 = .ok (.iadd, 1) := by decide +kernel
theorem dX10_cargoOf_37 : decode cX10_cargoOf 37 = .ok (.dup2, 1) := by decide +kernel
theorem dX10_cargoOf_38 : decode cX10_cargoOf 38 = .ok (.iaload, 1) := by decide +kernel
theorem dX10_cargoOf_39 : decode cX10_cargoOf 39 = .ok (.iconst 1, 1) := by decide +kernel
theorem dX10_cargoOf_40 : decode cX10_cargoOf 40 = .ok (.iadd, 1) := by decide +kernel
theorem dX10_cargoOf_41 : decode cX10_cargoOf 41 = .ok (.iastore, 1) := by decide +kernel
theorem dX10_cargoOf_42 : decode cX10_cargoOf 42 = .ok (.aload_n 0, 1) := by decide +kernel
theorem dX10_cargoOf_43 : decode cX10_cargoOf 43 = .ok (.iload_n 1, 1) := by decide +kernel
theorem dX10_cargoOf_44 : decode cX10_cargoOf 44 = .ok (.invokevirtual 209, 3) := by decide +kernel
theorem dX10_cargoOf_47 : decode cX10_cargoOf 47 = .ok (.istore 4, 2) := by decide +kernel
theorem dX10_cargoOf_49 : decode cX10_cargoOf 49 = .ok (.aload_n 0, 1) := by decide +kernel
theorem dX10_cargoOf_50 : decode cX10_cargoOf 50 = .ok (.getfield 31, 3) := by decide +kernel
theorem dX10_cargoOf_53 : decode cX10_cargoOf 53 = .ok (.bipush 7, 2) := by decide +kernel
theorem dX10_cargoOf_55 : decode cX10_cargoOf 55 = .ok (.iload_n 1, 1) := by decide +kernel
theorem dX10_cargoOf_56 : decode cX10_cargoOf 56 = .ok (.imul, 1) := by decide +kernel
theorem dX10_cargoOf_57 : decode cX10_cargoOf 57 = .ok (.iload_n 3, 1) := by decide +kernel
theorem dX10_cargoOf_58 : decode cX10_cargoOf 58 = .ok (.iadd, 1) := by decide +kernel
theorem dX10_cargoOf_59 : decode cX10_cargoOf 59 = .ok (.dup2, 1) := by decide +kernel
theorem dX10_cargoOf_60 : decode cX10_cargoOf 60 = .ok (.iaload, 1) := by decide +kernel
theorem dX10_cargoOf_61 : decode cX10_cargoOf 61 = .ok (.iconst 1, 1) := by decide +kernel
theorem dX10_cargoOf_62 : decode cX10_cargoOf 62 = .ok (.isub, 1) := by decide +kernel
theorem dX10_cargoOf_63 : decode cX10_cargoOf 63 = .ok (.iastore, 1) := by decide +kernel
theorem dX10_cargoOf_64 : decode cX10_cargoOf 64 = .ok (.iload 4, 2) := by decide +kernel
theorem dX10_cargoOf_66 : decode cX10_cargoOf 66 = .ok (.ifCond .eq 22, 3) := by decide +kernel
theorem dX10_cargoOf_69 : decode cX10_cargoOf 69 = .ok (.iload_n 2, 1) := by decide +kernel
theorem dX10_cargoOf_70 : decode cX10_cargoOf 70 = .ok (.iconst (-1), 1) := by decide +kernel
theorem dX10_cargoOf_71 : decode cX10_cargoOf 71 = .ok (.if_icmp .ne 7, 3) := by decide +kernel
theorem dX10_cargoOf_74 : decode cX10_cargoOf 74 = .ok (.iconst 1, 1) := by decide +kernel
theorem dX10_cargoOf_75 : decode cX10_cargoOf 75 = .ok (.goto 12, 3) := by decide +kernel
theorem dX10_cargoOf_78 : decode cX10_cargoOf 78 = .ok (.iload_n 2, 1) := by decide +kernel
theorem dX10_cargoOf_79 : decode cX10_cargoOf 79 = .ok (.ifCond .ne 7, 3) := by decide +kernel
theorem dX10_cargoOf_82 : decode cX10_cargoOf 82 = .ok (.iload_n 3, 1) := by decide +kernel
theorem dX10_cargoOf_83 : decode cX10_cargoOf 83 = .ok (.goto 4, 3) := by decide +kernel
theorem dX10_cargoOf_86 : decode cX10_cargoOf 86 = .ok (.iconst (-1), 1) := by decide +kernel
theorem dX10_cargoOf_87 : decode cX10_cargoOf 87 = .ok (.ireturn, 1) := by decide +kernel
theorem dX10_cargoOf_88 : decode cX10_cargoOf 88 = .ok (.iinc 3 1, 3) := by decide +kernel
theorem dX10_cargoOf_91 : decode cX10_cargoOf 91 = .ok (.goto (-70), 3) := by decide +kernel
theorem dX10_cargoOf_94 : decode cX10_cargoOf 94 = .ok (.iconst 0, 1) := by decide +kernel
theorem dX10_cargoOf_95 : decode cX10_cargoOf 95 = .ok (.istore_n 3, 1) := by decide +kernel
theorem dX10_cargoOf_96 : decode cX10_cargoOf 96 = .ok (.iload_n 3, 1) := by decide +kernel
theorem dX10_cargoOf_97 : decode cX10_cargoOf 97 = .ok (.bipush 6, 2) := by decide +kernel
theorem dX10_cargoOf_99 : decode cX10_cargoOf 99 = .ok (.if_icmp .ge 119, 3) := by decide +kernel
theorem dX10_cargoOf_102 : decode cX10_cargoOf 102 = .ok (.iload_n 3, 1) := by decide +kernel
theorem dX10_cargoOf_103 : decode cX10_cargoOf 103 = .ok (.istore 4, 2) := by decide +kernel
theorem dX10_cargoOf_105 : decode cX10_cargoOf 105 = .ok (.iload 4, 2) := by decide +kernel
theorem dX10_cargoOf_107 : decode cX10_cargoOf 107 = .ok (.bipush 6, 2) := by decide +kernel
theorem dX10_cargoOf_109 : decode cX10_cargoOf 109 = .ok (.if_icmp .ge 103, 3) := by decide +kernel
theorem dX10_cargoOf_112 : decode cX10_cargoOf 112 = .ok (.aload_n 0, 1) := by decide +kernel
theorem dX10_cargoOf_113 : decode cX10_cargoOf 113 = .ok (.getfield 31, 3) := by decide +kernel
theorem dX10_cargoOf_116 : decode cX10_cargoOf 116 = .ok (.bipush 7, 2) := by decide +kernel
theorem dX10_cargoOf_118 : decode cX10_cargoOf 118 = .ok (.iload_n 1, 1) := by decide +kernel
theorem dX10_cargoOf_119 : decode cX10_cargoOf 119 = .ok (.imul, 1) := by decide +kernel
theorem dX10_cargoOf_120 : decode cX10_cargoOf 120 = .ok (.iload_n 3, 1) := by decide +kernel
theorem dX10_cargoOf_121 : decode cX10_cargoOf 121 = .ok (.iadd, 1) := by decide +kernel
theorem dX10_cargoOf_122 : decode cX10_cargoOf 122 = .ok (.dup2, 1) := by decide +kernel
theorem dX10_cargoOf_123 : decode cX10_cargoOf 123 = .ok (.iaload, 1) := by decide +kernel
theorem dX10_cargoOf_124 : decode cX10_cargoOf 124 = .ok (.iconst 1, 1) := by decide +kernel
theorem dX10_cargoOf_125 : decode cX10_cargoOf 125 = .ok (.iadd, 1) := by decide +kernel
theorem dX10_cargoOf_126 : decode cX10_cargoOf 126 = .ok (.iastore, 1) := by decide +kernel
theorem dX10_cargoOf_127 : decode cX10_cargoOf 127 = .ok (.aload_n 0, 1) := by decide +kernel
theorem dX10_cargoOf_128 : decode cX10_cargoOf 128 = .ok (.getfield 31, 3) := by decide +kernel
theorem dX10_cargoOf_131 : decode cX10_cargoOf 131 = .ok (.bipush 7, 2) := by decide +kernel
theorem dX10_cargoOf_133 : decode cX10_cargoOf 133 = .ok (.iload_n 1, 1) := by decide +kernel
theorem dX10_cargoOf_134 : decode cX10_cargoOf 134 = .ok (.imul, 1) := by decide +kernel
theorem dX10_cargoOf_135 : decode cX10_cargoOf 135 = .ok (.iload 4, 2) := by decide +kernel
theorem dX10_cargoOf_137 : decode cX10_cargoOf 137 = .ok (.iadd, 1) := by decide +kernel
theorem dX10_cargoOf_138 : decode cX10_cargoOf 138 = .ok (.dup2, 1) := by decide +kernel
theorem dX10_cargoOf_139 : decode cX10_cargoOf 139 = .ok (.iaload, 1) := by decide +kernel
theorem dX10_cargoOf_140 : decode cX10_cargoOf 140 = .ok (.iconst 1, 1) := by decide +kernel
theorem dX10_cargoOf_141 : decode cX10_cargoOf 141 = .ok (.iadd, 1) := by decide +kernel
theorem dX10_cargoOf_142 : decode cX10_cargoOf 142 = .ok (.iastore, 1) := by decide +kernel
theorem dX10_cargoOf_143 : decode cX10_cargoOf 143 = .ok (.aload_n 0, 1) := by decide +kernel
theorem dX10_cargoOf_144 : decode cX10_cargoOf 144 = .ok (.iload_n 1, 1) := by decide +kernel
theorem dX10_cargoOf_145 : decode cX10_cargoOf 145 = .ok (.invokevirtual 209, 3) := by decide +kernel
theorem dX10_cargoOf_148 : decode cX10_cargoOf 148 = .ok (.istore 5, 2) := by decide +kernel
theorem dX10_cargoOf_150 : decode cX10_cargoOf 150 = .ok (.aload_n 0, 1) := by decide +kernel
theorem dX10_cargoOf_151 : decode cX10_cargoOf 151 = .ok (.getfield 31, 3) := by decide +kernel
theorem dX10_cargoOf_154 : decode cX10_cargoOf 154 = .ok (.bipush 7, 2) := by decide +kernel
theorem dX10_cargoOf_156 : decode cX10_cargoOf 156 = .ok (.iload_n 1, 1) := by decide +kernel
theorem dX10_cargoOf_157 : decode cX10_cargoOf 157 = .ok (.imul, 1) := by decide +kernel
theorem dX10_cargoOf_158 : decode cX10_cargoOf 158 = .ok (.iload_n 3, 1) := by decide +kernel
theorem dX10_cargoOf_159 : decode cX10_cargoOf 159 = .ok (.iadd, 1) := by decide +kernel
