theorem dX0_init_0 : decode cX0_init 0 = .ok (.aload_n 0, 1) := by decide +kernel
theorem dX0_init_1 : decode cX0_init 1 = .ok (.invokespecial 3, 3) := by decide +kernel
theorem dX0_init_4 : decode cX0_init 4 = .ok (.aload_n 0, 1) := by decide +kernel
theorem dX0_init_5 : decode cX0_init 5 = .ok (.sipush 256, 3) := by decide +kernel
theorem dX0_init_8 : decode cX0_init 8 = .ok (.newarray .long, 2) := by decide +kernel
theorem dX0_init_10 : decode cX0_init 10 = .ok (.putfield 9, 3) := by decide +kernel
theorem dX0_init_13 : decode cX0_init 13 = .ok (.aload_n 0, 1) := by decide +kernel
theorem dX0_init_14 : decode cX0_init 14 = .ok (.bipush 9, 2) := by decide +kernel
theorem dX0_init_16 : decode cX0_init 16 = .ok (.newarray .int, 2) := by decide +kernel
theorem dX0_init_18 : decode cX0_init 18 = .ok (.putfield 15, 3) := by decide +kernel
theorem dX0_init_21 : decode cX0_init 21 = .ok (.return_, 1) := by decide +kernel
theorem dX0_keep_0 : decode cX0_keep 0 = .ok (.lconst 0, 1) := by decide +kernel
theorem dX0_keep_1 : decode cX0_keep 1 = .ok (.lstore_n 3, 1) := by decide +kernel
theorem dX0_keep_2 : decode cX0_keep 2 = .ok (.iconst 0, 1) := by decide +kernel
theorem dX0_keep_3 : decode cX0_keep 3 = .ok (.istore 5, 2) := by decide +kernel
theorem dX0_keep_5 : decode cX0_keep 5 = .ok (.iload 5, 2) := by decide +kernel
theorem dX0_keep_7 : decode cX0_keep 7 = .ok (.aload_n 2, 1) := by decide +kernel
theorem dX0_keep_8 : decode cX0_keep 8 = .ok (.getfield 19, 3) := by decide +kernel
theorem dX0_keep_11 : decode cX0_keep 11 = .ok (.if_icmp .ge 25, 3) := by decide +kernel
theorem dX0_keep_14 : decode cX0_keep 14 = .ok (.lload_n 3, 1) := by decide +kernel
theorem dX0_keep_15 : decode cX0_keep 15 = .ok (.aload_n 2, 1) := by decide +kernel
theorem dX0_keep_16 : decode cX0_keep 16 = .ok (.iload 5, 2) := by decide +kernel
theorem dX0_keep_18 : decode cX0_keep 18 = .ok (.invokevirtual 25, 3) := by decide +kernel
theorem dX0_keep_21 : decode cX0_keep 21 = .ok (.i2l, 1) := by decide +kernel
theorem dX0_keep_22 : decode cX0_keep 22 = .ok (.bipush 8, 2) := by decide +kernel
theorem dX0_keep_24 : decode cX0_keep 24 = .ok (.iload 5, 2) := by decide +kernel
theorem dX0_keep_26 : decode cX0_keep 26 = .ok (.imul, 1) := by decide +kernel
theorem dX0_keep_27 : decode cX0_keep 27 = .ok (.lshl, 1) := by decide +kernel
theorem dX0_keep_28 : decode cX0_keep 28 = .ok (.lor, 1) := by decide +kernel
theorem dX0_keep_29 : decode cX0_keep 29 = .ok (.lstore_n 3, 1) := by decide +kernel
theorem dX0_keep_30 : decode cX0_keep 30 = .ok (.iinc 5 1, 3) := by decide +kernel
theorem dX0_keep_33 : decode cX0_keep 33 = .ok (.goto (-28), 3) := by decide +kernel
theorem dX0_keep_36 : decode cX0_keep 36 = .ok (.aload_n 0, 1) := by decide +kernel
theorem dX0_keep_37 : decode cX0_keep 37 = .ok (.getfield 9, 3) := by decide +kernel
theorem dX0_keep_40 : decode cX0_keep 40 = .ok (.iload_n 1, 1) := by decide +kernel
theorem dX0_keep_41 : decode cX0_keep 41 = .ok (.lload_n 3, 1) := by decide +kernel
theorem dX0_keep_42 : decode cX0_keep 42 = .ok (.lastore, 1) := by decide +kernel
theorem dX0_keep_43 : decode cX0_keep 43 = .ok (.return_, 1) := by decide +kernel
theorem dX0_above_0 : decode cX0_above 0 = .ok (.aload_n 0, 1) := by decide +kernel
theorem dX0_above_1 : decode cX0_above 1 = .ok (.iload_n 2, 1) := by decide +kernel
theorem dX0_above_2 : decode cX0_above 2 = .ok (.iload_n 3, 1) := by decide +kernel
theorem dX0_above_3 : decode cX0_above 3 = .ok (.invokevirtual 29, 3) := by decide +kernel
theorem dX0_above_6 : decode cX0_above 6 = .ok (.lconst 0, 1) := by decide +kernel
theorem dX0_above_7 : decode cX0_above 7 = .ok (.lstore 4, 2) := by decide +kernel
theorem dX0_above_9 : decode cX0_above 9 = .ok (.iconst 0, 1) := by decide +kernel
theorem dX0_above_10 : decode cX0_above 10 = .ok (.istore 6, 2) := by decide +kernel
theorem dX0_above_12 : decode cX0_above 12 = .ok (.iload 6, 2) := by decide +kernel
theorem dX0_above_14 : decode cX0_above 14 = .ok (.aload_n 0, 1) := by decide +kernel
theorem dX0_above_15 : decode cX0_above 15 = .ok (.getfield 33, 3) := by decide +kernel
theorem dX0_above_18 : decode cX0_above 18 = .ok (.if_icmp .gt 44, 3) := by decide +kernel
theorem dX0_above_21 : decode cX0_above 21 = .ok (.lload 4, 2) := by decide +kernel
theorem dX0_above_23 : decode cX0_above 23 = .ok (.aload_n 0, 1) := by decide +kernel
theorem dX0_above_24 : decode cX0_above 24 = .ok (.getfield 15, 3) := by decide +kernel
theorem dX0_above_27 : decode cX0_above 27 = .ok (.iload 6, 2) := by decide +kernel
theorem dX0_above_29 : decode cX0_above 29 = .ok (.iaload, 1) := by decide +kernel
theorem dX0_above_30 : decode cX0_above 30 = .ok (.i2l, 1) := by decide +kernel
theorem dX0_above_31 : decode cX0_above 31 = .ok (.iload_n 1, 1) := by decide +kernel
theorem dX0_above_32 : decode cX0_above 32 = .ok (.iload 6, 2) := by decide +kernel
theorem dX0_above_34 : decode cX0_above 34 = .ok (.invokestatic 36, 3) := by decide +kernel
theorem dX0_above_37 : decode cX0_above 37 = .ok (.lmul, 1) := by decide +kernel
theorem dX0_above_38 : decode cX0_above 38 = .ok (.bipush 16, 2) := by decide +kernel
theorem dX0_above_40 : decode cX0_above 40 = .ok (.iload_n 1, 1) := by decide +kernel
theorem dX0_above_41 : decode cX0_above 41 = .ok (.isub, 1) := by decide +kernel
theorem dX0_above_42 : decode cX0_above 42 = .ok (.aload_n 0, 1) := by decide +kernel
theorem dX0_above_43 : decode cX0_above 43 = .ok (.getfield 33, 3) := by decide +kernel
theorem dX0_above_46 : decode cX0_above 46 = .ok (.iload 6, 2) := by decide +kernel
theorem dX0_above_48 : decode cX0_above 48 = .ok (.isub, 1) := by decide +kernel
theorem dX0_above_49 : decode cX0_above 49 = .ok (.invokestatic 36, 3) := by decide +kernel
theorem dX0_above_52 : decode cX0_above 52 = .ok (.lmul, 1) := by decide +kernel
theorem dX0_above_53 : decode cX0_above 53 = .ok (.ladd, 1) := by decide +kernel
theorem dX0_above_54 : decode cX0_above 54 = .ok (.lstore 4, 2) := by decide +kernel
theorem dX0_above_56 : decode cX0_above 56 = .ok (.iinc 6 1, 3) := by decide +kernel
theorem dX0_above_59 : decode cX0_above 59 = .ok (.goto (-47), 3) := by decide +kernel
theorem dX0_above_62 : decode cX0_above 62 = .ok (.lload 4, 2) := by decide +kernel
theorem dX0_above_64 : decode cX0_above 64 = .ok (.lreturn, 1) := by decide +kernel
theorem dX0_below_0 : decode cX0_below 0 = .ok (.bipush 16, 2) := by decide +kernel
theorem dX0_below_2 : decode cX0_below 2 = .ok (.aload_n 0, 1) := by decide +kernel
theorem dX0_below_3 : decode cX0_below 3 = .ok (.getfield 33, 3) := by decide +kernel
theorem dX0_below_6 : decode cX0_below 6 = .ok (.invokestatic 36, 3) := by decide +kernel
theorem dX0_below_9 : decode cX0_below 9 = .ok (.lreturn, 1) := by decide +kernel
theorem dX0_countBySize_0 : decode cX0_countBySize 0 = .ok (.aload_n 0, 1) := by decide +kernel
theorem dX0_countBySize_1 : decode cX0_countBySize 1 = .ok (.getfield 15, 3) := by decide +kernel
theorem dX0_countBySize_4 : decode cX0_countBySize 4 = .ok (.iconst 0, 1) := by decide +kernel
theorem dX0_countBySize_5 : decode cX0_countBySize 5 = .ok (.invokestatic 40, 3) := by decide +kernel
theorem dX0_countBySize_8 : decode cX0_countBySize 8 = .ok (.iconst 0, 1) := by decide +kernel
theorem dX0_countBySize_9 : decode cX0_countBySize 9 = .ok (.istore_n 3, 1) := by decide +kernel
theorem dX0_countBySize_10 : decode cX0_countBySize 10 = .ok (.iload_n 3, 1) := by decide +kernel
theorem dX0_countBySize_11 : decode cX0_countBySize 11 = .ok (.iconst 1, 1) := by decide +kernel
theorem dX0_countBySize_12 : decode cX0_countBySize 12 = .ok (.aload_n 0, 1) := by decide +kernel
theorem dX0_countBySize_13 : decode cX0_countBySize 13 = .ok (.getfield 33, 3) := by decide +kernel
theorem dX0_countBySize_16 : decode cX0_countBySize 16 = .ok (.ishl, 1) := by decide +kernel
theorem dX0_countBySize_17 : decode cX0_countBySize 17 = .ok (.if_icmp .ge 43, 3) := by decide +kernel
theorem dX0_countBySize_20 : decode cX0_countBySize 20 = .ok (.aload_n 0, 1) := by decide +kernel
theorem dX0_countBySize_21 : decode cX0_countBySize 21 = .ok (.getfield 9, 3) := by decide +kernel
theorem dX0_countBySize_24 : decode cX0_countBySize 24 = .ok (.iload_n 3, 1) := by decide +kernel
theorem dX0_countBySize_25 : decode cX0_countBySize 25 = .ok (.laload, 1) := by decide +kernel
theorem dX0_countBySize_26 : decode cX0_countBySize 26 = .ok (.bipush 8, 2) := by decide +kernel
theorem dX0_countBySize_28 : decode cX0_countBySize 28 = .ok (.iload_n 1, 1) := by decide +kernel
theorem dX0_countBySize_29 : decode cX0_countBySize 29 = .ok (.imul, 1) := by decide +kernel
theorem dX0_countBySize_30 : decode cX0_countBySize 30 = .ok (.lshr, 1) := by decide +kernel
theorem dX0_countBySize_31 : decode cX0_countBySize 31 = .ok (.ldc2_w 46, 3) := by decide +kernel
theorem dX0_countBySize_34 : decode cX0_countBySize 34 = .ok (.land, 1) := by decide +kernel
theorem dX0_countBySize_35 : decode cX0_countBySize 35 = .ok (.iload_n 2, 1) := by decide +kernel
theorem dX0_countBySize_36 : decode cX0_countBySize 36 = .ok (.i2l, 1) := by decide +kernel
theorem dX0_countBySize_37 : decode cX0_countBySize 37 = .ok (.lcmp, 1) := by decide +kernel
theorem dX0_countBySize_38 : decode cX0_countBySize 38 = .ok (.ifCond .gt 16, 3) := by decide +kernel
theorem dX0_countBySize_41 : decode cX0_countBySize 41 = .ok (.aload_n 0, 1) := by decide +kernel
theorem dX0_countBySize_42 : decode cX0_countBySize 42 = .ok (.getfield 15, 3) := by decide +kernel
theorem dX0_countBySize_45 : decode cX0_countBySize 45 = .ok (.iload_n 3, 1) := by decide +kernel
theorem dX0_countBySize_46 : decode cX0_countBySize 46 = .ok (.invokestatic 48, 3) := by decide +kernel
theorem dX0_countBySize_49 : decode cX0_countBySize 49 = .ok (.dup2, 1) := by decide +kernel
theorem dX0_countBySize_50 : decode cX0_countBySize 50 = .ok (.iaload, 1) := by decide +kernel
theorem dX0_countBySize_51 : decode cX0_countBySize 51 = .ok (.iconst 1, 1) := by decide +kernel
theorem dX0_countBySize_52 : decode cX0_countBySize 52 = .ok (.iadd, 1) := by decide +kernel
theorem dX0_countBySize_53 : decode cX0_countBySize 53 = .ok (.iastore, 1) := by decide +kernel
theorem dX0_countBySize_54 : decode cX0_countBySize 54 = .ok (.iinc 3 1, 3) := by decide +kernel
theorem dX0_countBySize_57 : decode cX0_countBySize 57 = .ok (.goto (-47), 3) := by decide +kernel
theorem dX0_countBySize_60 : decode cX0_countBySize 60 = .ok (.return_, 1) := by decide +kernel
theorem dX0_power_0 : decode cX0_power 0 = .ok (.lconst 1, 1) := by decide +kernel
theorem dX0_power_1 : decode cX0_power 1 = .ok (.lstore_n 2, 1) := by decide +kernel
theorem dX0_power_2 : decode cX0_power 2 = .ok (.iconst 0, 1) := by decide +kernel
theorem dX0_power_3 : decode cX0_power 3 = .ok (.istore 4, 2) := by decide +kernel
theorem dX0_power_5 : decode cX0_power 5 = .ok (.iload 4, 2) := by decide +kernel
theorem dX0_power_7 : decode cX0_power 7 = .ok (.iload_n 1, 1) := by decide +kernel
theorem dX0_power_8 : decode cX0_power 8 = .ok (.if_icmp .ge 14, 3) := by decide +kernel
theorem dX0_power_11 : decode cX0_power 11 = .ok (.lload_n 2, 1) := by decide +kernel
theorem dX0_power_12 : decode cX0_power 12 = .ok (.iload_n 0, 1) := by decide +kernel
theorem dX0_power_13 : decode cX0_power 13 = .ok (.i2l, 1) := by decide +kernel
theorem dX0_power_14 : decode cX0_power 14 = .ok (.lmul, 1) := by decide +kernel
theorem dX0_power_15 : decode cX0_power 15 = .ok (.lstore_n 2, 1) := by decide +kernel
theorem dX0_power_16 : decode cX0_power 16 = .ok (.iinc 4 1, 3) := by decide +kernel
theorem dX0_power_19 : decode cX0_power 19 = .ok (.goto (-14), 3) := by decide +kernel
theorem dX0_power_22 : decode cX0_power 22 = .ok (.lload_n 2, 1) := by decide +kernel
theorem dX0_power_23 : decode cX0_power 23 = .ok (.lreturn, 1) := by decide +kernel
theorem dX1_init_0 : decode cX1_init 0 = .ok (.aload_n 0, 1) := by decide +kernel
theorem dX1_init_1 : decode cX1_init 1 = .ok (.invokespecial 3, 3) := by decide +kernel
theorem dX1_init_4 : decode cX1_init 4 = .ok (.aload_n 0, 1) := by decide +kernel
theorem dX1_init_5 : decode cX1_init 5 = .ok (.bipush 8, 2) := by decide +kernel
theorem dX1_init_7 : decode cX1_init 7 = .ok (.bipush 6, 2) := by decide +kernel
theorem dX1_init_9 : decode cX1_init 9 = .ok (.multianewarray 9 2, 4) := by decide +kernel
theorem dX1_init_13 : decode cX1_init 13 = .ok (.putfield 11, 3) := by decide +kernel
theorem dX1_init_16 : decode cX1_init 16 = .ok (.aload_n 0, 1) := by decide +kernel
theorem dX1_init_17 : decode cX1_init 17 = .ok (.bipush 8, 2) := by decide +kernel
theorem dX1_init_19 : decode cX1_init 19 = .ok (.newarray .int, 2) := by decide +kernel
theorem dX1_init_21 : decode cX1_init 21 = .ok (.putfield 16, 3) := by decide +kernel
theorem dX1_init_24 : decode cX1_init 24 = .ok (.aload_n 0, 1) := by decide +kernel
theorem dX1_init_25 : decode cX1_init 25 = .ok (.iconst (-1), 1) := by decide +kernel
theorem dX1_init_26 : decode cX1_init 26 = .ok (.putfield 20, 3) := by decide +kernel
theorem dX1_init_29 : decode cX1_init 29 = .ok (.return_, 1) := by decide +kernel
theorem dX1_parse_0 : decode cX1_parse 0 = .ok (.aload_n 0, 1) := by decide +kernel
theorem dX1_parse_1 : decode cX1_parse 1 = .ok (.iconst 0, 1) := by decide +kernel
theorem dX1_parse_2 : decode cX1_parse 2 = .ok (.putfield 24, 3) := by decide +kernel
theorem dX1_parse_5 : decode cX1_parse 5 = .ok (.aload_n 0, 1) := by decide +kernel
theorem dX1_parse_6 : decode cX1_parse 6 = .ok (.aload_n 1, 1) := by decide +kernel
theorem dX1_parse_7 : decode cX1_parse 7 = .ok (.getfield 27, 3) := by decide +kernel
theorem dX1_parse_10 : decode cX1_parse 10 = .ok (.ifCond .ne 7, 3) := by decide +kernel
theorem dX1_parse_13 : decode cX1_parse 13 = .ok (.iconst (-1), 1) := by decide +kernel
theorem dX1_parse_14 : decode cX1_parse 14 = .ok (.goto 8, 3) := by decide +kernel
theorem dX1_parse_17 : decode cX1_parse 17 = .ok (.aload_n 0, 1) := by decide +kernel
theorem dX1_parse_18 : decode cX1_parse 18 = .ok (.aload_n 1, 1) := by decide +kernel
theorem dX1_parse_19 : decode cX1_parse 19 = .ok (.invokevirtual 30, 3) := by decide +kernel
theorem dX1_parse_22 : decode cX1_parse 22 = .ok (.putfield 20, 3) := by decide +kernel
theorem dX1_parse_25 : decode cX1_parse 25 = .ok (.aload_n 0, 1) := by decide +kernel
theorem dX1_parse_26 : decode cX1_parse 26 = .ok (.getfield 20, 3) := by decide +kernel
theorem dX1_parse_29 : decode cX1_parse 29 = .ok (.iconst (-1), 1) := by decide +kernel
theorem dX1_parse_30 : decode cX1_parse 30 = .ok (.if_icmp .eq 8, 3) := by decide +kernel
theorem dX1_parse_33 : decode cX1_parse 33 = .ok (.aload_n 0, 1) := by decide +kernel
theorem dX1_parse_34 : decode cX1_parse 34 = .ok (.iconst 0, 1) := by decide +kernel
theorem dX1_parse_35 : decode cX1_parse 35 = .ok (.putfield 24, 3) := by decide +kernel
theorem dX1_parse_38 : decode cX1_parse 38 = .ok (.return_, 1) := by decide +kernel
theorem dX1_parseAll_0 : decode cX1_parseAll 0 = .ok (.iconst 0, 1) := by decide +kernel
theorem dX1_parseAll_1 : decode cX1_parseAll 1 = .ok (.istore_n 2, 1) := by decide +kernel
theorem dX1_parseAll_2 : decode cX1_parseAll 2 = .ok (.iconst 0, 1) := by decide +kernel
theorem dX1_parseAll_3 : decode cX1_parseAll 3 = .ok (.istore_n 3, 1) := by decide +kernel
theorem dX1_parseAll_4 : decode cX1_parseAll 4 = .ok (.iload_n 3, 1) := by decide +kernel
theorem dX1_parseAll_5 : decode cX1_parseAll 5 = .ok (.bipush 8, 2) := by decide +kernel
theorem dX1_parseAll_7 : decode cX1_parseAll 7 = .ok (.if_icmp .ge 87, 3) := by decide +kernel
theorem dX1_parseAll_10 : decode cX1_parseAll 10 = .ok (.iload_n 2, 1) := by decide +kernel
theorem dX1_parseAll_11 : decode cX1_parseAll 11 = .ok (.aload_n 1, 1) := by decide +kernel
theorem dX1_parseAll_12 : decode cX1_parseAll 12 = .ok (.iload_n 2, 1) := by decide +kernel
theorem dX1_parseAll_13 : decode cX1_parseAll 13 = .ok (.aload_n 0, 1) := by decide +kernel
theorem dX1_parseAll_14 : decode cX1_parseAll 14 = .ok (.getfield 11, 3) := by decide +kernel
theorem dX1_parseAll_17 : decode cX1_parseAll 17 = .ok (.iload_n 3, 1) := by decide +kernel
theorem dX1_parseAll_18 : decode cX1_parseAll 18 = .ok (.aaload, 1) := by decide +kernel
theorem dX1_parseAll_19 : decode cX1_parseAll 19 = .ok (.invokestatic 34, 3) := by decide +kernel
theorem dX1_parseAll_22 : decode cX1_parseAll 22 = .ok (.iadd, 1) := by decide +kernel
theorem dX1_parseAll_23 : decode cX1_parseAll 23 = .ok (.istore_n 2, 1) := by decide +kernel
theorem dX1_parseAll_24 : decode cX1_parseAll 24 = .ok (.aload_n 0, 1) := by decide +kernel
theorem dX1_parseAll_25 : decode cX1_parseAll 25 = .ok (.getfield 16, 3) := by decide +kernel
theorem dX1_parseAll_28 : decode cX1_parseAll 28 = .ok (.iload_n 3, 1) := by decide +kernel
theorem dX1_parseAll_29 : decode cX1_parseAll 29 = .ok (.aload_n 1, 1) := by decide +kernel
theorem dX1_parseAll_30 : decode cX1_parseAll 30 = .ok (.iload_n 2, 1) := by decide +kernel
theorem dX1_parseAll_31 : decode cX1_parseAll 31 = .ok (.bipush 48, 2) := by decide +kernel
theorem dX1_parseAll_33 : decode cX1_parseAll 33 = .ok (.invokevirtual 38, 3) := by decide +kernel
theorem dX1_parseAll_36 : decode cX1_parseAll 36 = .ok (.iastore, 1) := by decide +kernel
theorem dX1_parseAll_37 : decode cX1_parseAll 37 = .ok (.aload_n 0, 1) := by decide +kernel
theorem dX1_parseAll_38 : decode cX1_parseAll 38 = .ok (.getfield 16, 3) := by decide +kernel
theorem dX1_parseAll_41 : decode cX1_parseAll 41 = .ok (.iload_n 3, 1) := by decide +kernel
theorem dX1_parseAll_42 : decode cX1_parseAll 42 = .ok (.iaload, 1) := by decide +kernel
theorem dX1_parseAll_43 : decode cX1_parseAll 43 = .ok (.bipush 10, 2) := by decide +kernel
theorem dX1_parseAll_45 : decode cX1_parseAll 45 = .ok (.invokestatic 42, 3) := by decide +kernel
theorem dX1_parseAll_48 : decode cX1_parseAll 48 = .ok (.ifCond .ne 5, 3) := by decide +kernel
theorem dX1_parseAll_51 : decode cX1_parseAll 51 = .ok (.iload_n 2, 1) := by decide +kernel
theorem dX1_parseAll_52 : decode cX1_parseAll 52 = .ok (.ireturn, 1) := by decide +kernel
theorem dX1_parseAll_53 : decode cX1_parseAll 53 = .ok (.aload_n 0, 1) := by decide +kernel
theorem dX1_parseAll_54 : decode cX1_parseAll 54 = .ok (.iload_n 3, 1) := by decide +kernel
theorem dX1_parseAll_55 : decode cX1_parseAll 55 = .ok (.iconst 1, 1) := by decide +kernel
theorem dX1_parseAll_56 : decode cX1_parseAll 56 = .ok (.iadd, 1) := by decide +kernel
theorem dX1_parseAll_57 : decode cX1_parseAll 57 = .ok (.putfield 24, 3) := by decide +kernel
theorem dX1_parseAll_60 : decode cX1_parseAll 60 = .ok (.iinc 2 1, 3) := by decide +kernel
theorem dX1_parseAll_63 : decode cX1_parseAll 63 = .ok (.iload_n 2, 1) := by decide +kernel
theorem dX1_parseAll_64 : decode cX1_parseAll 64 = .ok (.aload_n 1, 1) := by decide +kernel
theorem dX1_parseAll_65 : decode cX1_parseAll 65 = .ok (.getfield 27, 3) := by decide +kernel
theorem dX1_parseAll_68 : decode cX1_parseAll 68 = .ok (.if_icmp .ne 5, 3) := by decide +kernel
theorem dX1_parseAll_71 : decode cX1_parseAll 71 = .ok (.iconst (-1), 1) := by decide +kernel
theorem dX1_parseAll_72 : decode cX1_parseAll 72 = .ok (.ireturn, 1) := by decide +kernel
theorem dX1_parseAll_73 : decode cX1_parseAll 73 = .ok (.aload_n 1, 1) := by decide +kernel
theorem dX1_parseAll_74 : decode cX1_parseAll 74 = .ok (.iload_n 2, 1) := by decide +kernel
theorem dX1_parseAll_75 : decode cX1_parseAll 75 = .ok (.bipush 59, 2) := by decide +kernel
theorem dX1_parseAll_77 : decode cX1_parseAll 77 = .ok (.invokevirtual 38, 3) := by decide +kernel
theorem dX1_parseAll_80 : decode cX1_parseAll 80 = .ok (.ifCond .eq 5, 3) := by decide +kernel
theorem dX1_parseAll_83 : decode cX1_parseAll 83 = .ok (.iload_n 2, 1) := by decide +kernel
theorem dX1_parseAll_84 : decode cX1_parseAll 84 = .ok (.ireturn, 1) := by decide +kernel
theorem dX1_parseAll_85 : decode cX1_parseAll 85 = .ok (.iinc 2 1, 3) := by decide +kernel
theorem dX1_parseAll_88 : decode cX1_parseAll 88 = .ok (.iinc 3 1, 3) := by decide +kernel
theorem dX1_parseAll_91 : decode cX1_parseAll 91 = .ok (.goto (-87), 3) := by decide +kernel
theorem dX1_parseAll_94 : decode cX1_parseAll 94 = .ok (.iload_n 2, 1) := by decide +kernel
theorem dX1_parseAll_95 : decode cX1_parseAll 95 = .ok (.ireturn, 1) := by decide +kernel
theorem dX1_parseMarks_0 : decode cX1_parseMarks 0 = .ok (.aload_n 2, 1) := by decide +kernel
theorem dX1_parseMarks_1 : decode cX1_parseMarks 1 = .ok (.iconst 0, 1) := by decide +kernel
theorem dX1_parseMarks_2 : decode cX1_parseMarks 2 = .ok (.invokestatic 46, 3) := by decide +kernel
theorem dX1_parseMarks_5 : decode cX1_parseMarks 5 = .ok (.iconst 0, 1) := by decide +kernel
theorem dX1_parseMarks_6 : decode cX1_parseMarks 6 = .ok (.istore_n 3, 1) := by decide +kernel
theorem dX1_parseMarks_7 : decode cX1_parseMarks 7 = .ok (.iload_n 3, 1) := by decide +kernel
theorem dX1_parseMarks_8 : decode cX1_parseMarks 8 = .ok (.bipush 6, 2) := by decide +kernel
theorem dX1_parseMarks_10 : decode cX1_parseMarks 10 = .ok (.if_icmp .ge 40, 3) := by decide +kernel
theorem dX1_parseMarks_13 : decode cX1_parseMarks 13 = .ok (.aload_n 0, 1) := by decide +kernel
theorem dX1_parseMarks_14 : decode cX1_parseMarks 14 = .ok (.iload_n 1, 1) := by decide +kernel
theorem dX1_parseMarks_15 : decode cX1_parseMarks 15 = .ok (.iload_n 3, 1) := by decide +kernel
theorem dX1_parseMarks_16 : decode cX1_parseMarks 16 = .ok (.iadd, 1) := by decide +kernel
theorem dX1_parseMarks_17 : decode cX1_parseMarks 17 = .ok (.bipush 97, 2) := by decide +kernel
theorem dX1_parseMarks_19 : decode cX1_parseMarks 19 = .ok (.invokevirtual 38, 3) := by decide +kernel
theorem dX1_parseMarks_22 : decode cX1_parseMarks 22 = .ok (.istore 4, 2) := by decide +kernel
theorem dX1_parseMarks_24 : decode cX1_parseMarks 24 = .ok (.iload 4, 2) := by decide +kernel
theorem dX1_parseMarks_26 : decode cX1_parseMarks 26 = .ok (.bipush 6, 2) := by decide +kernel
theorem dX1_parseMarks_28 : decode cX1_parseMarks 28 = .ok (.invokestatic 42, 3) := by decide +kernel
theorem dX1_parseMarks_31 : decode cX1_parseMarks 31 = .ok (.ifCond .ne 5, 3) := by decide +kernel
theorem dX1_parseMarks_34 : decode cX1_parseMarks 34 = .ok (.iload_n 3, 1) := by decide +kernel
theorem dX1_parseMarks_35 : decode cX1_parseMarks 35 = .ok (.ireturn, 1) := by decide +kernel
theorem dX1_parseMarks_36 : decode cX1_parseMarks 36 = .ok (.aload_n 2, 1) := by decide +kernel
theorem dX1_parseMarks_37 : decode cX1_parseMarks 37 = .ok (.iload 4, 2) := by decide +kernel
theorem dX1_parseMarks_39 : decode cX1_parseMarks 39 = .ok (.dup2, 1) := by decide +kernel
theorem dX1_parseMarks_40 : decode cX1_parseMarks 40 = .ok (.iaload, 1) := by decide +kernel
theorem dX1_parseMarks_41 : decode cX1_parseMarks 41 = .ok (.iconst 1, 1) := by decide +kernel
theorem dX1_parseMarks_42 : decode cX1_parseMarks 42 = .ok (.iadd, 1) := by decide +kernel
theorem dX1_parseMarks_43 : decode cX1_parseMarks 43 = .ok (.iastore, 1) := by decide +kernel
theorem dX1_parseMarks_44 : decode cX1_parseMarks 44 = .ok (.iinc 3 1, 3) := by decide +kernel
theorem dX1_parseMarks_47 : decode cX1_parseMarks 47 = .ok (.goto (-40), 3) := by decide +kernel
theorem dX1_parseMarks_50 : decode cX1_parseMarks 50 = .ok (.bipush 6, 2) := by decide +kernel
theorem dX1_parseMarks_52 : decode cX1_parseMarks 52 = .ok (.ireturn, 1) := by decide +kernel
theorem dX2_init_0 : decode cX2_init 0 = .ok (.aload_n 0, 1) := by decide +kernel
theorem dX2_init_1 : decode cX2_init 1 = .ok (.invokespecial 3, 3) := by decide +kernel
theorem dX2_init_4 : decode cX2_init 4 = .ok (.aload_n 0, 1) := by decide +kernel
theorem dX2_init_5 : decode cX2_init 5 = .ok (.bipush 8, 2) := by decide +kernel
theorem dX2_init_7 : decode cX2_init 7 = .ok (.newarray .int, 2) := by decide +kernel
theorem dX2_init_9 : decode cX2_init 9 = .ok (.putfield 9, 3) := by decide +kernel
theorem dX2_init_12 : decode cX2_init 12 = .ok (.aload_n 0, 1) := by decide +kernel
theorem dX2_init_13 : decode cX2_init 13 = .ok (.bipush 8, 2) := by decide +kernel
theorem dX2_init_15 : decode cX2_init 15 = .ok (.newarray .int, 2) := by decide +kernel
theorem dX2_init_17 : decode cX2_init 17 = .ok (.putfield 15, 3) := by decide +kernel
theorem dX2_init_20 : decode cX2_init 20 = .ok (.aload_n 0, 1) := by decide +kernel
theorem dX2_init_21 : decode cX2_init 21 = .ok (.bipush 8, 2) := by decide +kernel
theorem dX2_init_23 : decode cX2_init 23 = .ok (.newarray .int, 2) := by decide +kernel
theorem dX2_init_25 : decode cX2_init 25 = .ok (.putfield 18, 3) := by decide +kernel
theorem dX2_init_28 : decode cX2_init 28 = .ok (.aload_n 0, 1) := by decide +kernel
theorem dX2_init_29 : decode cX2_init 29 = .ok (.iconst (-1), 1) := by decide +kernel
theorem dX2_init_30 : decode cX2_init 30 = .ok (.putfield 21, 3) := by decide +kernel
theorem dX2_init_33 : decode cX2_init 33 = .ok (.return_, 1) := by decide +kernel
theorem dX2_parse_0 : decode cX2_parse 0 = .ok (.aload_n 0, 1) := by decide +kernel
theorem dX2_parse_1 : decode cX2_parse 1 = .ok (.iconst 0, 1) := by decide +kernel
theorem dX2_parse_2 : decode cX2_parse 2 = .ok (.putfield 25, 3) := by decide +kernel
theorem dX2_parse_5 : decode cX2_parse 5 = .ok (.aload_n 0, 1) := by decide +kernel
theorem dX2_parse_6 : decode cX2_parse 6 = .ok (.aload_n 1, 1) := by decide +kernel
theorem dX2_parse_7 : decode cX2_parse 7 = .ok (.getfield 28, 3) := by decide +kernel
theorem dX2_parse_10 : decode cX2_parse 10 = .ok (.ifCond .ne 7, 3) := by decide +kernel
theorem dX2_parse_13 : decode cX2_parse 13 = .ok (.iconst (-1), 1) := by decide +kernel
theorem dX2_parse_14 : decode cX2_parse 14 = .ok (.goto 8, 3) := by decide +kernel
theorem dX2_parse_17 : decode cX2_parse 17 = .ok (.aload_n 0, 1) := by decide +kernel
theorem dX2_parse_18 : decode cX2_parse 18 = .ok (.aload_n 1, 1) := by decide +kernel
theorem dX2_parse_19 : decode cX2_parse 19 = .ok (.invokevirtual 31, 3) := by decide +kernel
theorem dX2_parse_22 : decode cX2_parse 22 = .ok (.putfield 21, 3) := by decide +kernel
theorem dX2_parse_25 : decode cX2_parse 25 = .ok (.aload_n 0, 1) := by decide +kernel
theorem dX2_parse_26 : decode cX2_parse 26 = .ok (.getfield 21, 3) := by decide +kernel
theorem dX2_parse_29 : decode cX2_parse 29 = .ok (.iconst (-1), 1) := by decide +kernel
theorem dX2_parse_30 : decode cX2_parse 30 = .ok (.if_icmp .eq 8, 3) := by decide +kernel
theorem dX2_parse_33 : decode cX2_parse 33 = .ok (.aload_n 0, 1) := by decide +kernel
theorem dX2_parse_34 : decode cX2_parse 34 = .ok (.iconst 0, 1) := by decide +kernel
theorem dX2_parse_35 : decode cX2_parse 35 = .ok (.putfield 25, 3) := by decide +kernel
theorem dX2_parse_38 : decode cX2_parse 38 = .ok (.return_, 1) := by decide +kernel
theorem dX2_parseAll_0 : decode cX2_parseAll 0 = .ok (.iconst 0, 1) := by decide +kernel
theorem dX2_parseAll_1 : decode cX2_parseAll 1 = .ok (.istore_n 2, 1) := by decide +kernel
theorem dX2_parseAll_2 : decode cX2_parseAll 2 = .ok (.iconst 0, 1) := by decide +kernel
theorem dX2_parseAll_3 : decode cX2_parseAll 3 = .ok (.istore_n 3, 1) := by decide +kernel
theorem dX2_parseAll_4 : decode cX2_parseAll 4 = .ok (.iload_n 3, 1) := by decide +kernel
theorem dX2_parseAll_5 : decode cX2_parseAll 5 = .ok (.bipush 8, 2) := by decide +kernel
theorem dX2_parseAll_7 : decode cX2_parseAll 7 = .ok (.if_icmp .ge 140, 3) := by decide +kernel
theorem dX2_parseAll_10 : decode cX2_parseAll 10 = .ok (.aload_n 0, 1) := by decide +kernel
theorem dX2_parseAll_11 : decode cX2_parseAll 11 = .ok (.getfield 9, 3) := by decide +kernel
theorem dX2_parseAll_14 : decode cX2_parseAll 14 = .ok (.iload_n 3, 1) := by decide +kernel
theorem dX2_parseAll_15 : decode cX2_parseAll 15 = .ok (.aload_n 1, 1) := by decide +kernel
theorem dX2_parseAll_16 : decode cX2_parseAll 16 = .ok (.iload_n 2, 1) := by decide +kernel
theorem dX2_parseAll_17 : decode cX2_parseAll 17 = .ok (.invokestatic 35, 3) := by decide +kernel
theorem dX2_parseAll_20 : decode cX2_parseAll 20 = .ok (.iastore, 1) := by decide +kernel
theorem dX2_parseAll_21 : decode cX2_parseAll 21 = .ok (.aload_n 0, 1) := by decide +kernel
theorem dX2_parseAll_22 : decode cX2_parseAll 22 = .ok (.getfield 9, 3) := by decide +kernel
theorem dX2_parseAll_25 : decode cX2_parseAll 25 = .ok (.iload_n 3, 1) := by decide +kernel
theorem dX2_parseAll_26 : decode cX2_parseAll 26 = .ok (.iaload, 1) := by decide +kernel
theorem dX2_parseAll_27 : decode cX2_parseAll 27 = .ok (.iconst (-1), 1) := by decide +kernel
theorem dX2_parseAll_28 : decode cX2_parseAll 28 = .ok (.if_icmp .ne 5, 3) := by decide +kernel
theorem dX2_parseAll_31 : decode cX2_parseAll 31 = .ok (.iload_n 2, 1) := by decide +kernel
theorem dX2_parseAll_32 : decode cX2_parseAll 32 = .ok (.ireturn, 1) := by decide +kernel
theorem dX2_parseAll_33 : decode cX2_parseAll 33 = .ok (.aload_n 0, 1) := by decide +kernel
theorem dX2_parseAll_34 : decode cX2_parseAll 34 = .ok (.getfield 15, 3) := by decide +kernel
theorem dX2_parseAll_37 : decode cX2_parseAll 37 = .ok (.iload_n 3, 1) := by decide +kernel
theorem dX2_parseAll_38 : decode cX2_parseAll 38 = .ok (.aload_n 1, 1) := by decide +kernel
theorem dX2_parseAll_39 : decode cX2_parseAll 39 = .ok (.iload_n 2, 1) := by decide +kernel
theorem dX2_parseAll_40 : decode cX2_parseAll 40 = .ok (.iconst 1, 1) := by decide +kernel
theorem dX2_parseAll_41 : decode cX2_parseAll 41 = .ok (.iadd, 1) := by decide +kernel
theorem dX2_parseAll_42 : decode cX2_parseAll 42 = .ok (.bipush 97, 2) := by decide +kernel
theorem dX2_parseAll_44 : decode cX2_parseAll 44 = .ok (.invokevirtual 39, 3) := by decide +kernel
theorem dX2_parseAll_47 : decode cX2_parseAll 47 = .ok (.iastore, 1) := by decide +kernel
theorem dX2_parseAll_48 : decode cX2_parseAll 48 = .ok (.aload_n 0, 1) := by decide +kernel
theorem dX2_parseAll_49 : decode cX2_parseAll 49 = .ok (.getfield 15, 3) := by decide +kernel
theorem dX2_parseAll_52 : decode cX2_parseAll 52 = .ok (.iload_n 3, 1) := by decide +kernel
theorem dX2_parseAll_53 : decode cX2_parseAll 53 = .ok (.iaload, 1) := by decide +kernel
theorem dX2_parseAll_54 : decode cX2_parseAll 54 = .ok (.bipush 6, 2) := by decide +kernel
theorem dX2_parseAll_56 : decode cX2_parseAll 56 = .ok (.invokestatic 43, 3) := by decide +kernel
theorem dX2_parseAll_59 : decode cX2_parseAll 59 = .ok (.ifCond .ne 7, 3) := by decide +kernel
theorem dX2_parseAll_62 : decode cX2_parseAll 62 = .ok (.iload_n 2, 1) := by decide +kernel
theorem dX2_parseAll_63 : decode cX2_parseAll 63 = .ok (.iconst 1, 1) := by decide +kernel
theorem dX2_parseAll_64 : decode cX2_parseAll 64 = .ok (.iadd, 1) := by decide +kernel
theorem dX2_parseAll_65 : decode cX2_parseAll 65 = .ok (.ireturn, 1) := by decide +kernel
theorem dX2_parseAll_66 : decode cX2_parseAll 66 = .ok (.aload_n 0, 1) := by decide +kernel
theorem dX2_parseAll_67 : decode cX2_parseAll 67 = .ok (.getfield 18, 3) := by decide +kernel
theorem dX2_parseAll_70 : decode cX2_parseAll 70 = .ok (.iload_n 3, 1) := by decide +kernel
theorem dX2_parseAll_71 : decode cX2_parseAll 71 = .ok (.aload_n 1, 1) := by decide +kernel
theorem dX2_parseAll_72 : decode cX2_parseAll 72 = .ok (.iload_n 2, 1) := by decide +kernel
theorem dX2_parseAll_73 : decode cX2_parseAll 73 = .ok (.iconst 2, 1) := by decide +kernel
theorem dX2_parseAll_74 : decode cX2_parseAll 74 = .ok (.iadd, 1) := by decide +kernel
theorem dX2_parseAll_75 : decode cX2_parseAll 75 = .ok (.bipush 48, 2) := by decide +kernel
theorem dX2_parseAll_77 : decode cX2_parseAll 77 = .ok (.invokevirtual 39, 3) := by decide +kernel
theorem dX2_parseAll_80 : decode cX2_parseAll 80 = .ok (.iastore, 1) := by decide +kernel
theorem dX2_parseAll_81 : decode cX2_parseAll 81 = .ok (.aload_n 0, 1) := by decide +kernel
theorem dX2_parseAll_82 : decode cX2_parseAll 82 = .ok (.getfield 18, 3) := by decide +kernel
theorem dX2_parseAll_85 : decode cX2_parseAll 85 = .ok (.iload_n 3, 1) := by decide +kernel
theorem dX2_parseAll_86 : decode cX2_parseAll 86 = .ok (.iaload, 1) := by decide +kernel
theorem dX2_parseAll_87 : decode cX2_parseAll 87 = .ok (.iconst 1, 1) := by decide +kernel
theorem dX2_parseAll_88 : decode cX2_parseAll 88 = .ok (.if_icmp .lt 14, 3) := by decide +kernel
theorem dX2_parseAll_91 : decode cX2_parseAll 91 = .ok (.aload_n 0, 1) := by decide +kernel
theorem dX2_parseAll_92 : decode cX2_parseAll 92 = .ok (.getfield 18, 3) := by decide +kernel
theorem dX2_parseAll_95 : decode cX2_parseAll 95 = .ok (.iload_n 3, 1) := by decide +kernel
theorem dX2_parseAll_96 : decode cX2_parseAll 96 = .ok (.iaload, 1) := by decide +kernel
theorem dX2_parseAll_97 : decode cX2_parseAll 97 = .ok (.bipush 9, 2) := by decide +kernel
theorem dX2_parseAll_99 : decode cX2_parseAll 99 = .ok (.if_icmp .le 7, 3) := by decide +kernel
theorem dX2_parseAll_102 : decode cX2_parseAll 102 = .ok (.iload_n 2, 1) := by decide +kernel
theorem dX2_parseAll_103 : decode cX2_parseAll 103 = .ok (.iconst 2, 1) := by decide +kernel
theorem dX2_parseAll_104 : decode cX2_parseAll 104 = .ok (.iadd, 1) := by decide +kernel
theorem dX2_parseAll_105 : decode cX2_parseAll 105 = .ok (.ireturn, 1) := by decide +kernel
theorem dX2_parseAll_106 : decode cX2_parseAll 106 = .ok (.aload_n 0, 1) := by decide +kernel
theorem dX2_parseAll_107 : decode cX2_parseAll 107 = .ok (.iload_n 3, 1) := by decide +kernel
theorem dX2_parseAll_108 : decode cX2_parseAll 108 = .ok (.iconst 1, 1) := by decide +kernel
theorem dX2_parseAll_109 : decode cX2_parseAll 109 = .ok (.iadd, 1) := by decide +kernel
theorem dX2_parseAll_110 : decode cX2_parseAll 110 = .ok (.putfield 25, 3) := by decide +kernel
theorem dX2_parseAll_113 : decode cX2_parseAll 113 = .ok (.iinc 2 3, 3) := by decide +kernel
theorem dX2_parseAll_116 : decode cX2_parseAll 116 = .ok (.iload_n 2, 1) := by decide +kernel
theorem dX2_parseAll_117 : decode cX2_parseAll 117 = .ok (.aload_n 1, 1) := by decide +kernel
theorem dX2_parseAll_118 : decode cX2_parseAll 118 = .ok (.getfield 28, 3) := by decide +kernel
theorem dX2_parseAll_121 : decode cX2_parseAll 121 = .ok (.if_icmp .ne 5, 3) := by decide +kernel
theorem dX2_parseAll_124 : decode cX2_parseAll 124 = .ok (.iconst (-1), 1) := by decide +kernel
theorem dX2_parseAll_125 : decode cX2_parseAll 125 = .ok (.ireturn, 1) := by decide +kernel
theorem dX2_parseAll_126 : decode cX2_parseAll 126 = .ok (.aload_n 1, 1) := by decide +kernel
theorem dX2_parseAll_127 : decode cX2_parseAll 127 = .ok (.iload_n 2, 1) := by decide +kernel
theorem dX2_parseAll_128 : decode cX2_parseAll 128 = .ok (.bipush 59, 2) := by decide +kernel
theorem dX2_parseAll_130 : decode cX2_parseAll 130 = .ok (.invokevirtual 39, 3) := by decide +kernel
theorem dX2_parseAll_133 : decode cX2_parseAll 133 = .ok (.ifCond .eq 5, 3) := by decide +kernel
theorem dX2_parseAll_136 : decode cX2_parseAll 136 = .ok (.iload_n 2, 1) := by decide +kernel
theorem dX2_parseAll_137 : decode cX2_parseAll 137 = .ok (.ireturn, 1) := by decide +kernel
theorem dX2_parseAll_138 : decode cX2_parseAll 138 = .ok (.iinc 2 1, 3) := by decide +kernel
theorem dX2_parseAll_141 : decode cX2_parseAll 141 = .ok (.iinc 3 1, 3) := by decide +kernel
theorem dX2_parseAll_144 : decode cX2_parseAll 144 = .ok (.goto (-140), 3) := by decide +kernel
theorem dX2_parseAll_147 : decode cX2_parseAll 147 = .ok (.iload_n 2, 1) := by decide +kernel
theorem dX2_parseAll_148 : decode cX2_parseAll 148 = .ok (.ireturn, 1) := by decide +kernel
theorem dX2_kindAt_0 : decode cX2_kindAt 0 = .ok (.aload_n 0, 1) := by decide +kernel
theorem dX2_kindAt_1 : decode cX2_kindAt 1 = .ok (.iload_n 1, 1) := by decide +kernel
theorem dX2_kindAt_2 : decode cX2_kindAt 2 = .ok (.bipush 108, 2) := by decide +kernel
theorem dX2_kindAt_4 : decode cX2_kindAt 4 = .ok (.invokevirtual 39, 3) := by decide +kernel
theorem dX2_kindAt_7 : decode cX2_kindAt 7 = .ok (.tableswitch 31 0 2 #[25, 29, 27], 25) := by decide +kernel
theorem dX2_kindAt_32 : decode cX2_kindAt 32 = .ok (.iconst 0, 1) := by decide +kernel
theorem dX2_kindAt_33 : decode cX2_kindAt 33 = .ok (.ireturn, 1) := by decide +kernel
theorem dX2_kindAt_34 : decode cX2_kindAt 34 = .ok (.iconst 1, 1) := by decide +kernel
theorem dX2_kindAt_35 : decode cX2_kindAt 35 = .ok (.ireturn, 1) := by decide +kernel
theorem dX2_kindAt_36 : decode cX2_kindAt 36 = .ok (.iconst 2, 1) := by decide +kernel
theorem dX2_kindAt_37 : decode cX2_kindAt 37 = .ok (.ireturn, 1) := by decide +kernel
theorem dX2_kindAt_38 : decode cX2_kindAt 38 = .ok (.iconst (-1), 1) := by decide +kernel
theorem dX2_kindAt_39 : decode cX2_kindAt 39 = .ok (.ireturn, 1) := by decide +kernel
theorem dX2_part_0 : decode cX2_part 0 = .ok (.iload_n 1, 1) := by decide +kernel
theorem dX2_part_1 : decode cX2_part 1 = .ok (.bipush 8, 2) := by decide +kernel
theorem dX2_part_3 : decode cX2_part 3 = .ok (.invokestatic 43, 3) := by decide +kernel
theorem dX2_part_6 : decode cX2_part 6 = .ok (.ifCond .ne 6, 3) := by decide +kernel
theorem dX2_part_9 : decode cX2_part 9 = .ok (.bipush (-2), 2) := by decide +kernel
theorem dX2_part_11 : decode cX2_part 11 = .ok (.ireturn, 1) := by decide +kernel
theorem dX2_part_12 : decode cX2_part 12 = .ok (.iload_n 2, 1) := by decide +kernel
theorem dX2_part_13 : decode cX2_part 13 = .ok (.lookupswitch 41 #[(0, 27), (1, 34)], 27) := by decide +kernel
theorem dX2_part_40 : decode cX2_part 40 = .ok (.aload_n 0, 1) := by decide +kernel
theorem dX2_part_41 : decode cX2_part 41 = .ok (.getfield 9, 3) := by decide +kernel
theorem dX2_part_44 : decode cX2_part 44 = .ok (.iload_n 1, 1) := by decide +kernel
theorem dX2_part_45 : decode cX2_part 45 = .ok (.iaload, 1) := by decide +kernel
theorem dX2_part_46 : decode cX2_part 46 = .ok (.ireturn, 1) := by decide +kernel
theorem dX2_part_47 : decode cX2_part 47 = .ok (.aload_n 0, 1) := by decide +kernel
theorem dX2_part_48 : decode cX2_part 48 = .ok (.getfield 15, 3) := by decide +kernel
theorem dX2_part_51 : decode cX2_part 51 = .ok (.iload_n 1, 1) := by decide +kernel
theorem dX2_part_52 : decode cX2_part 52 = .ok (.iaload, 1) := by decide +kernel
theorem dX2_part_53 : decode cX2_part 53 = .ok (.ireturn, 1) := by decide +kernel
theorem dX2_part_54 : decode cX2_part 54 = .ok (.aload_n 0, 1) := by decide +kernel
theorem dX2_part_55 : decode cX2_part 55 = .ok (.getfield 18, 3) := by decide +kernel
theorem dX2_part_58 : decode cX2_part 58 = .ok (.iload_n 1, 1) := by decide +kernel
theorem dX2_part_59 : decode cX2_part 59 = .ok (.iaload, 1) := by decide +kernel
theorem dX2_part_60 : decode cX2_part 60 = .ok (.ireturn, 1) := by decide +kernel
theorem dX2_wouldLift_0 : decode cX2_wouldLift 0 = .ok (.iload_n 1, 1) := by decide +kernel
theorem dX2_wouldLift_1 : decode cX2_wouldLift 1 = .ok (.iconst 2, 1) := by decide +kernel
theorem dX2_wouldLift_2 : decode cX2_wouldLift 2 = .ok (.irem, 1) := by decide +kernel
theorem dX2_wouldLift_3 : decode cX2_wouldLift 3 = .ok (.ifCond .ne 7, 3) := by decide +kernel
theorem dX2_wouldLift_6 : decode cX2_wouldLift 6 = .ok (.iconst 1, 1) := by decide +kernel
theorem dX2_wouldLift_7 : decode cX2_wouldLift 7 = .ok (.goto 4, 3) := by decide +kernel
theorem dX2_wouldLift_10 : decode cX2_wouldLift 10 = .ok (.iconst 0, 1) := by decide +kernel
theorem dX2_wouldLift_11 : decode cX2_wouldLift 11 = .ok (.istore 6, 2) := by decide +kernel
theorem dX2_wouldLift_13 : decode cX2_wouldLift 13 = .ok (.aload 4, 2) := by decide +kernel
theorem dX2_wouldLift_15 : decode cX2_wouldLift 15 = .ok (.iload_n 2, 1) := by decide +kernel
theorem dX2_wouldLift_16 : decode cX2_wouldLift 16 = .ok (.iaload, 1) := by decide +kernel
theorem dX2_wouldLift_17 : decode cX2_wouldLift 17 = .ok (.iload 6, 2) := by decide +kernel
theorem dX2_wouldLift_19 : decode cX2_wouldLift 19 = .ok (.ifCond .eq 10, 3) := by decide +kernel
theorem dX2_wouldLift_22 : decode cX2_wouldLift 22 = .ok (.aload 5, 2) := by decide +kernel
theorem dX2_wouldLift_24 : decode cX2_wouldLift 24 = .ok (.iload_n 2, 1) := by decide +kernel
theorem dX2_wouldLift_25 : decode cX2_wouldLift 25 = .ok (.iaload, 1) := by decide +kernel
theorem dX2_wouldLift_26 : decode cX2_wouldLift 26 = .ok (.goto 4, 3) := by decide +kernel
theorem dX2_wouldLift_29 : decode cX2_wouldLift 29 = .ok (.iconst 0, 1) := by decide +kernel
theorem dX2_wouldLift_30 : decode cX2_wouldLift 30 = .ok (.iadd, 1) := by decide +kernel
theorem dX2_wouldLift_31 : decode cX2_wouldLift 31 = .ok (.istore 7, 2) := by decide +kernel
theorem dX2_wouldLift_33 : decode cX2_wouldLift 33 = .ok (.aload_n 0, 1) := by decide +kernel
theorem dX2_wouldLift_34 : decode cX2_wouldLift 34 = .ok (.getfield 9, 3) := by decide +kernel
theorem dX2_wouldLift_37 : decode cX2_wouldLift 37 = .ok (.iload_n 1, 1) := by decide +kernel
theorem dX2_wouldLift_38 : decode cX2_wouldLift 38 = .ok (.iaload, 1) := by decide +kernel
theorem dX2_wouldLift_39 : decode cX2_wouldLift 39 = .ok (.ifCond .ne 15, 3) := by decide +kernel
theorem dX2_wouldLift_42 : decode cX2_wouldLift 42 = .ok (.iload 7, 2) := by decide +kernel
theorem dX2_wouldLift_44 : decode cX2_wouldLift 44 = .ok (.iload_n 3, 1) := by decide +kernel
theorem dX2_wouldLift_45 : decode cX2_wouldLift 45 = .ok (.if_icmp .lt 7, 3) := by decide +kernel
theorem dX2_wouldLift_48 : decode cX2_wouldLift 48 = .ok (.iconst 1, 1) := by decide +kernel
theorem dX2_wouldLift_49 : decode cX2_wouldLift 49 = .ok (.goto 4, 3) := by decide +kernel
theorem dX2_wouldLift_52 : decode cX2_wouldLift 52 = .ok (.iconst 0, 1) := by decide +kernel
theorem dX2_wouldLift_53 : decode cX2_wouldLift 53 = .ok (.ireturn, 1) := by decide +kernel
theorem dX2_wouldLift_54 : decode cX2_wouldLift 54 = .ok (.aload_n 0, 1) := by decide +kernel
theorem dX2_wouldLift_55 : decode cX2_wouldLift 55 = .ok (.getfield 9, 3) := by decide +kernel
theorem dX2_wouldLift_58 : decode cX2_wouldLift 58 = .ok (.iload_n 1, 1) := by decide +kernel
theorem dX2_wouldLift_59 : decode cX2_wouldLift 59 = .ok (.iaload, 1) := by decide +kernel
theorem dX2_wouldLift_60 : decode cX2_wouldLift 60 = .ok (.iconst 1, 1) := by decide +kernel
theorem dX2_wouldLift_61 : decode cX2_wouldLift 61 = .ok (.if_icmp .ne 15, 3) := by decide +kernel
theorem dX2_wouldLift_64 : decode cX2_wouldLift 64 = .ok (.iload 7, 2) := by decide +kernel
theorem dX2_wouldLift_66 : decode cX2_wouldLift 66 = .ok (.iload_n 3, 1) := by decide +kernel
theorem dX2_wouldLift_67 : decode cX2_wouldLift 67 = .ok (.if_icmp .ge 7, 3) := by decide +kernel
theorem dX2_wouldLift_70 : decode cX2_wouldLift 70 = .ok (.iconst 1, 1) := by decide +kernel
theorem dX2_wouldLift_71 : decode cX2_wouldLift 71 = .ok (.goto 4, 3) := by decide +kernel
theorem dX2_wouldLift_74 : decode cX2_wouldLift 74 = .ok (.iconst 0, 1) := by decide +kernel
theorem dX2_wouldLift_75 : decode cX2_wouldLift 75 = .ok (.ireturn, 1) := by decide +kernel
theorem dX2_wouldLift_76 : decode cX2_wouldLift 76 = .ok (.aload 4, 2) := by decide +kernel
theorem dX2_wouldLift_78 : decode cX2_wouldLift 78 = .ok (.invokestatic 47, 3) := by decide +kernel
theorem dX2_wouldLift_81 : decode cX2_wouldLift 81 = .ok (.iload 6, 2) := by decide +kernel
theorem dX2_wouldLift_83 : decode cX2_wouldLift 83 = .ok (.ifCond .eq 11, 3) := by decide +kernel
theorem dX2_wouldLift_86 : decode cX2_wouldLift 86 = .ok (.aload 5, 2) := by decide +kernel
theorem dX2_wouldLift_88 : decode cX2_wouldLift 88 = .ok (.invokestatic 47, 3) := by decide +kernel
theorem dX2_wouldLift_91 : decode cX2_wouldLift 91 = .ok (.goto 4, 3) := by decide +kernel
theorem dX2_wouldLift_94 : decode cX2_wouldLift 94 = .ok (.iconst 0, 1) := by decide +kernel
theorem dX2_wouldLift_95 : decode cX2_wouldLift 95 = .ok (.iadd, 1) := by decide +kernel
theorem dX2_wouldLift_96 : decode cX2_wouldLift 96 = .ok (.istore 8, 2) := by decide +kernel
theorem dX2_wouldLift_98 : decode cX2_wouldLift 98 = .ok (.iload 8, 2) := by decide +kernel
theorem dX2_wouldLift_100 : decode cX2_wouldLift 100 = .ok (.iconst 3, 1) := by decide +kernel
theorem dX2_wouldLift_101 : decode cX2_wouldLift 101 = .ok (.iload_n 3, 1) := by decide +kernel
theorem dX2_wouldLift_102 : decode cX2_wouldLift 102 = .ok (.imul, 1) := by decide +kernel
theorem dX2_wouldLift_103 : decode cX2_wouldLift 103 = .ok (.if_icmp .lt 12, 3) := by decide +kernel
theorem dX2_wouldLift_106 : decode cX2_wouldLift 106 = .ok (.iload 7, 2) := by decide +kernel
theorem dX2_wouldLift_108 : decode cX2_wouldLift 108 = .ok (.ifCond .le 7, 3) := by decide +kernel
theorem dX2_wouldLift_111 : decode cX2_wouldLift 111 = .ok (.iconst 1, 1) := by decide +kernel
theorem dX2_wouldLift_112 : decode cX2_wouldLift 112 = .ok (.goto 4, 3) := by decide +kernel
theorem dX2_wouldLift_115 : decode cX2_wouldLift 115 = .ok (.iconst 0, 1) := by decide +kernel
theorem dX2_wouldLift_116 : decode cX2_wouldLift 116 = .ok (.ireturn, 1) := by decide +kernel
theorem dX2_worthOf_0 : decode cX2_worthOf 0 = .ok (.iconst 0, 1) := by decide +kernel
theorem dX2_worthOf_1 : decode cX2_worthOf 1 = .ok (.istore_n 1, 1) := by decide +kernel
theorem dX2_worthOf_2 : decode cX2_worthOf 2 = .ok (.iconst 0, 1) := by decide +kernel
theorem dX2_worthOf_3 : decode cX2_worthOf 3 = .ok (.istore_n 2, 1) := by decide +kernel
theorem dX2_worthOf_4 : decode cX2_worthOf 4 = .ok (.iload_n 2, 1) := by decide +kernel
theorem dX2_worthOf_5 : decode cX2_worthOf 5 = .ok (.bipush 6, 2) := by decide +kernel
theorem dX2_worthOf_7 : decode cX2_worthOf 7 = .ok (.if_icmp .ge 19, 3) := by decide +kernel
theorem dX2_worthOf_10 : decode cX2_worthOf 10 = .ok (.iload_n 1, 1) := by decide +kernel
theorem dX2_worthOf_11 : decode cX2_worthOf 11 = .ok (.aload_n 0, 1) := by decide +kernel
theorem dX2_worthOf_12 : decode cX2_worthOf 12 = .ok (.iload_n 2, 1) := by decide +kernel
theorem dX2_worthOf_13 : decode cX2_worthOf 13 = .ok (.iaload, 1) := by decide +kernel
theorem dX2_worthOf_14 : decode cX2_worthOf 14 = .ok (.iload_n 2, 1) := by decide +kernel
theorem dX2_worthOf_15 : decode cX2_worthOf 15 = .ok (.iconst 1, 1) := by decide +kernel
theorem dX2_worthOf_16 : decode cX2_worthOf 16 = .ok (.iadd, 1) := by decide +kernel
theorem dX2_worthOf_17 : decode cX2_worthOf 17 = .ok (.imul, 1) := by decide +kernel
theorem dX2_worthOf_18 : decode cX2_worthOf 18 = .ok (.iadd, 1) := by decide +kernel
theorem dX2_worthOf_19 : decode cX2_worthOf 19 = .ok (.istore_n 1, 1) := by decide +kernel
theorem dX2_worthOf_20 : decode cX2_worthOf 20 = .ok (.iinc 2 1, 3) := by decide +kernel
theorem dX2_worthOf_23 : decode cX2_worthOf 23 = .ok (.goto (-19), 3) := by decide +kernel
theorem dX2_worthOf_26 : decode cX2_worthOf 26 = .ok (.iload_n 1, 1) := by decide +kernel
theorem dX2_worthOf_27 : decode cX2_worthOf 27 = .ok (.ireturn, 1) := by decide +kernel
theorem dX3_init_0 : decode cX3_init 0 = .ok (.aload_n 0, 1) := by decide +kernel
theorem dX3_init_1 : decode cX3_init 1 = .ok (.invokespecial 3, 3) := by decide +kernel
theorem dX3_init_4 : decode cX3_init 4 = .ok (.return_, 1) := by decide +kernel
theorem dX3_setCargo_0 : decode cX3_setCargo 0 = .ok (.aload_n 0, 1) := by decide +kernel
theorem dX3_setCargo_1 : decode cX3_setCargo 1 = .ok (.iload_n 1, 1) := by decide +kernel
theorem dX3_setCargo_2 : decode cX3_setCargo 2 = .ok (.putfield 9, 3) := by decide +kernel
theorem dX3_setCargo_5 : decode cX3_setCargo 5 = .ok (.aload_n 0, 1) := by decide +kernel
theorem dX3_setCargo_6 : decode cX3_setCargo 6 = .ok (.iload_n 2, 1) := by decide +kernel
theorem dX3_setCargo_7 : decode cX3_setCargo 7 = .ok (.putfield 15, 3) := by decide +kernel
theorem dX3_setCargo_10 : decode cX3_setCargo 10 = .ok (.aload_n 0, 1) := by decide +kernel
theorem dX3_setCargo_11 : decode cX3_setCargo 11 = .ok (.iload_n 3, 1) := by decide +kernel
theorem dX3_setCargo_12 : decode cX3_setCargo 12 = .ok (.putfield 18, 3) := by decide +kernel
theorem dX3_setCargo_15 : decode cX3_setCargo 15 = .ok (.return_, 1) := by decide +kernel
theorem dX3_cargoAnswer_0 : decode cX3_cargoAnswer 0 = .ok (.iload_n 1, 1) := by decide +kernel
theorem dX3_cargoAnswer_1 : decode cX3_cargoAnswer 1 = .ok (.iconst (-1), 1) := by decide +kernel
theorem dX3_cargoAnswer_2 : decode cX3_cargoAnswer 2 = .ok (.if_icmp .ne 8, 3) := by decide +kernel
theorem dX3_cargoAnswer_5 : decode cX3_cargoAnswer 5 = .ok (.aload_n 0, 1) := by decide +kernel
theorem dX3_cargoAnswer_6 : decode cX3_cargoAnswer 6 = .ok (.getfield 9, 3) := by decide +kernel
theorem dX3_cargoAnswer_9 : decode cX3_cargoAnswer 9 = .ok (.ireturn, 1) := by decide +kernel
theorem dX3_cargoAnswer_10 : decode cX3_cargoAnswer 10 = .ok (.iload_n 1, 1) := by decide +kernel
theorem dX3_cargoAnswer_11 : decode cX3_cargoAnswer 11 = .ok (.ifCond .ne 10, 3) := by decide +kernel
theorem dX3_cargoAnswer_14 : decode cX3_cargoAnswer 14 = .ok (.aload_n 0, 1) := by decide +kernel
theorem dX3_cargoAnswer_15 : decode cX3_cargoAnswer 15 = .ok (.getfield 15, 3) := by decide +kernel
theorem dX3_cargoAnswer_18 : decode cX3_cargoAnswer 18 = .ok (.goto 7, 3) := by decide +kernel
theorem dX3_cargoAnswer_21 : decode cX3_cargoAnswer 21 = .ok (.aload_n 0, 1) := by decide +kernel
theorem dX3_cargoAnswer_22 : decode cX3_cargoAnswer 22 = .ok (.getfield 18, 3) := by decide +kernel
theorem dX3_cargoAnswer_25 : decode cX3_cargoAnswer 25 = .ok (.ireturn, 1) := by decide +kernel
theorem dX3_setBest_0 : decode cX3_setBest 0 = .ok (.aload_n 0, 1) := by decide +kernel
theorem dX3_setBest_1 : decode cX3_setBest 1 = .ok (.iload_n 1, 1) := by decide +kernel
theorem dX3_setBest_2 : decode cX3_setBest 2 = .ok (.putfield 21, 3) := by decide +kernel
theorem dX3_setBest_5 : decode cX3_setBest 5 = .ok (.aload_n 0, 1) := by decide +kernel
theorem dX3_setBest_6 : decode cX3_setBest 6 = .ok (.iload_n 2, 1) := by decide +kernel
theorem dX3_setBest_7 : decode cX3_setBest 7 = .ok (.putfield 24, 3) := by decide +kernel
theorem dX3_setBest_10 : decode cX3_setBest 10 = .ok (.return_, 1) := by decide +kernel
theorem dX4_init_0 : decode cX4_init 0 = .ok (.aload_n 0, 1) := by decide +kernel
theorem dX4_init_1 : decode cX4_init 1 = .ok (.invokespecial 3, 3) := by decide +kernel
theorem dX4_init_4 : decode cX4_init 4 = .ok (.aload_n 0, 1) := by decide +kernel
theorem dX4_init_5 : decode cX4_init 5 = .ok (.bipush 8, 2) := by decide +kernel
theorem dX4_init_7 : decode cX4_init 7 = .ok (.newarray .int, 2) := by decide +kernel
theorem dX4_init_9 : decode cX4_init 9 = .ok (.putfield 9, 3) := by decide +kernel
theorem dX4_init_12 : decode cX4_init 12 = .ok (.aload_n 0, 1) := by decide +kernel
theorem dX4_init_13 : decode cX4_init 13 = .ok (.bipush 8, 2) := by decide +kernel
theorem dX4_init_15 : decode cX4_init 15 = .ok (.newarray .int, 2) := by decide +kernel
theorem dX4_init_17 : decode cX4_init 17 = .ok (.putfield 15, 3) := by decide +kernel
theorem dX4_init_20 : decode cX4_init 20 = .ok (.aload_n 0, 1) := by decide +kernel
theorem dX4_init_21 : decode cX4_init 21 = .ok (.bipush 8, 2) := by decide +kernel
theorem dX4_init_23 : decode cX4_init 23 = .ok (.bipush 6, 2) := by decide +kernel
theorem dX4_init_25 : decode cX4_init 25 = .ok (.multianewarray 18 2, 4) := by decide +kernel
theorem dX4_init_29 : decode cX4_init 29 = .ok (.putfield 20, 3) := by decide +kernel
theorem dX4_init_32 : decode cX4_init 32 = .ok (.return_, 1) := by decide +kernel
theorem dX4_mayBe_0 : decode cX4_mayBe 0 = .ok (.iload_n 0, 1) := by decide +kernel
theorem dX4_mayBe_1 : decode cX4_mayBe 1 = .ok (.bipush 8, 2) := by decide +kernel
theorem dX4_mayBe_3 : decode cX4_mayBe 3 = .ok (.invokestatic 23, 3) := by decide +kernel
theorem dX4_mayBe_6 : decode cX4_mayBe 6 = .ok (.ifCond .eq 16, 3) := by decide +kernel
theorem dX4_mayBe_9 : decode cX4_mayBe 9 = .ok (.iload_n 1, 1) := by decide +kernel
theorem dX4_mayBe_10 : decode cX4_mayBe 10 = .ok (.bipush 6, 2) := by decide +kernel
theorem dX4_mayBe_12 : decode cX4_mayBe 12 = .ok (.invokestatic 23, 3) := by decide +kernel
theorem dX4_mayBe_15 : decode cX4_mayBe 15 = .ok (.ifCond .eq 7, 3) := by decide +kernel
theorem dX4_mayBe_18 : decode cX4_mayBe 18 = .ok (.iconst 1, 1) := by decide +kernel
theorem dX4_mayBe_19 : decode cX4_mayBe 19 = .ok (.goto 4, 3) := by decide +kernel
theorem dX4_mayBe_22 : decode cX4_mayBe 22 = .ok (.iconst 0, 1) := by decide +kernel
theorem dX4_mayBe_23 : decode cX4_mayBe 23 = .ok (.ireturn, 1) := by decide +kernel
theorem dX4_isFull_0 : decode cX4_isFull 0 = .ok (.aload_n 0, 1) := by decide +kernel
theorem dX4_isFull_1 : decode cX4_isFull 1 = .ok (.getfield 27, 3) := by decide +kernel
theorem dX4_isFull_4 : decode cX4_isFull 4 = .ok (.bipush 8, 2) := by decide +kernel
theorem dX4_isFull_6 : decode cX4_isFull 6 = .ok (.if_icmp .lt 7, 3) := by decide +kernel
theorem dX4_isFull_9 : decode cX4_isFull 9 = .ok (.iconst 1, 1) := by decide +kernel
theorem dX4_isFull_10 : decode cX4_isFull 10 = .ok (.goto 4, 3) := by decide +kernel
theorem dX4_isFull_13 : decode cX4_isFull 13 = .ok (.iconst 0, 1) := by decide +kernel
theorem dX4_isFull_14 : decode cX4_isFull 14 = .ok (.ireturn, 1) := by decide +kernel
theorem dX4_append_0 : decode cX4_append 0 = .ok (.aload_n 0, 1) := by decide +kernel
theorem dX4_append_1 : decode cX4_append 1 = .ok (.invokevirtual 31, 3) := by decide +kernel
theorem dX4_append_4 : decode cX4_append 4 = .ok (.ifCond .ne 53, 3) := by decide +kernel
theorem dX4_append_7 : decode cX4_append 7 = .ok (.iload_n 1, 1) := by decide +kernel
theorem dX4_append_8 : decode cX4_append 8 = .ok (.iload_n 2, 1) := by decide +kernel
theorem dX4_append_9 : decode cX4_append 9 = .ok (.invokestatic 35, 3) := by decide +kernel
theorem dX4_append_12 : decode cX4_append 12 = .ok (.ifCond .eq 45, 3) := by decide +kernel
theorem dX4_append_15 : decode cX4_append 15 = .ok (.aload_n 0, 1) := by decide +kernel
theorem dX4_append_16 : decode cX4_append 16 = .ok (.getfield 9, 3) := by decide +kernel
theorem dX4_append_19 : decode cX4_append 19 = .ok (.aload_n 0, 1) := by decide +kernel
theorem dX4_append_20 : decode cX4_append 20 = .ok (.getfield 27, 3) := by decide +kernel
theorem dX4_append_23 : decode cX4_append 23 = .ok (.iload_n 1, 1) := by decide +kernel
theorem dX4_append_24 : decode cX4_append 24 = .ok (.iastore, 1) := by decide +kernel
theorem dX4_append_25 : decode cX4_append 25 = .ok (.aload_n 0, 1) := by decide +kernel
theorem dX4_append_26 : decode cX4_append 26 = .ok (.getfield 15, 3) := by decide +kernel
theorem dX4_append_29 : decode cX4_append 29 = .ok (.aload_n 0, 1) := by decide +kernel
theorem dX4_append_30 : decode cX4_append 30 = .ok (.getfield 27, 3) := by decide +kernel
theorem dX4_append_33 : decode cX4_append 33 = .ok (.iload_n 2, 1) := by decide +kernel
theorem dX4_append_34 : decode cX4_append 34 = .ok (.iastore, 1) := by decide +kernel
theorem dX4_append_35 : decode cX4_append 35 = .ok (.aload_n 0, 1) := by decide +kernel
theorem dX4_append_36 : decode cX4_append 36 = .ok (.dup, 1) := by decide +kernel
theorem dX4_append_37 : decode cX4_append 37 = .ok (.getfield 27, 3) := by decide +kernel
theorem dX4_append_40 : decode cX4_append 40 = .ok (.iconst 1, 1) := by decide +kernel
theorem dX4_append_41 : decode cX4_append 41 = .ok (.iadd, 1) := by decide +kernel
theorem dX4_append_42 : decode cX4_append 42 = .ok (.putfield 27, 3) := by decide +kernel
theorem dX4_append_45 : decode cX4_append 45 = .ok (.aload_n 0, 1) := by decide +kernel
theorem dX4_append_46 : decode cX4_append 46 = .ok (.getfield 20, 3) := by decide +kernel
theorem dX4_append_49 : decode cX4_append 49 = .ok (.iload_n 1, 1) := by decide +kernel
theorem dX4_append_50 : decode cX4_append 50 = .ok (.aaload, 1) := by decide +kernel
theorem dX4_append_51 : decode cX4_append 51 = .ok (.iload_n 2, 1) := by decide +kernel
theorem dX4_append_52 : decode cX4_append 52 = .ok (.dup2, 1) := by decide +kernel
theorem dX4_append_53 : decode cX4_append 53 = .ok (.iaload, 1) := by decide +kernel
theorem dX4_append_54 : decode cX4_append 54 = .ok (.iconst 1, 1) := by decide +kernel
theorem dX4_append_55 : decode cX4_append 55 = .ok (.iadd, 1) := by decide +kernel
theorem dX4_append_56 : decode cX4_append 56 = .ok (.iastore, 1) := by decide +kernel
theorem dX4_append_57 : decode cX4_append 57 = .ok (.return_, 1) := by decide +kernel
theorem dX4_dropLast_0 : decode cX4_dropLast 0 = .ok (.aload_n 0, 1) := by decide +kernel
theorem dX4_dropLast_1 : decode cX4_dropLast 1 = .ok (.getfield 27, 3) := by decide +kernel
theorem dX4_dropLast_4 : decode cX4_dropLast 4 = .ok (.ifCond .le 41, 3) := by decide +kernel
theorem dX4_dropLast_7 : decode cX4_dropLast 7 = .ok (.aload_n 0, 1) := by decide +kernel
theorem dX4_dropLast_8 : decode cX4_dropLast 8 = .ok (.dup, 1) := by decide +kernel
theorem dX4_dropLast_9 : decode cX4_dropLast 9 = .ok (.getfield 27, 3) := by decide +kernel
theorem dX4_dropLast_12 : decode cX4_dropLast 12 = .ok (.iconst 1, 1) := by decide +kernel
theorem dX4_dropLast_13 : decode cX4_dropLast 13 = .ok (.isub, 1) := by decide +kernel
theorem dX4_dropLast_14 : decode cX4_dropLast 14 = .ok (.putfield 27, 3) := by decide +kernel
theorem dX4_dropLast_17 : decode cX4_dropLast 17 = .ok (.aload_n 0, 1) := by decide +kernel
theorem dX4_dropLast_18 : decode cX4_dropLast 18 = .ok (.getfield 20, 3) := by decide +kernel
theorem dX4_dropLast_21 : decode cX4_dropLast 21 = .ok (.aload_n 0, 1) := by decide +kernel
theorem dX4_dropLast_22 : decode cX4_dropLast 22 = .ok (.getfield 9, 3) := by decide +kernel
theorem dX4_dropLast_25 : decode cX4_dropLast 25 = .ok (.aload_n 0, 1) := by decide +kernel
theorem dX4_dropLast_26 : decode cX4_dropLast 26 = .ok (.getfield 27, 3) := by decide +kernel
theorem dX4_dropLast_29 : decode cX4_dropLast 29 = .ok (.iaload, 1) := by decide +kernel
theorem dX4_dropLast_30 : decode cX4_dropLast 30 = .ok (.aaload, 1) := by decide +kernel
theorem dX4_dropLast_31 : decode cX4_dropLast 31 = .ok (.aload_n 0, 1) := by decide +kernel
theorem dX4_dropLast_32 : decode cX4_dropLast 32 = .ok (.getfield 15, 3) := by decide +kernel
theorem dX4_dropLast_35 : decode cX4_dropLast 35 = .ok (.aload_n 0, 1) := by decide +kernel
theorem dX4_dropLast_36 : decode cX4_dropLast 36 = .ok (.getfield 27, 3) := by decide +kernel
theorem dX4_dropLast_39 : decode cX4_dropLast 39 = .ok (.iaload, 1) := by decide +kernel
theorem dX4_dropLast_40 : decode cX4_dropLast 40 = .ok (.dup2, 1) := by decide +kernel
theorem dX4_dropLast_41 : decode cX4_dropLast 41 = .ok (.iaload, 1) := by decide +kernel
theorem dX4_dropLast_42 : decode cX4_dropLast 42 = .ok (.iconst 1, 1) := by decide +kernel
theorem dX4_dropLast_43 : decode cX4_dropLast 43 = .ok (.isub, 1) := by decide +kernel
theorem dX4_dropLast_44 : decode cX4_dropLast 44 = .ok (.iastore, 1) := by decide +kernel
theorem dX4_dropLast_45 : decode cX4_dropLast 45 = .ok (.return_, 1) := by decide +kernel
theorem dX4_carryAll_0 : decode cX4_carryAll 0 = .ok (.aload_n 0, 1) := by decide +kernel
theorem dX4_carryAll_1 : decode cX4_carryAll 1 = .ok (.sipush 255, 3) := by decide +kernel
theorem dX4_carryAll_4 : decode cX4_carryAll 4 = .ok (.invokevirtual 38, 3) := by decide +kernel
theorem dX4_carryAll_7 : decode cX4_carryAll 7 = .ok (.return_, 1) := by decide +kernel
theorem dX4_carryOnly_0 : decode cX4_carryOnly 0 = .ok (.iconst 0, 1) := by decide +kernel
theorem dX4_carryOnly_1 : decode cX4_carryOnly 1 = .ok (.istore_n 2, 1) := by decide +kernel
theorem dX4_carryOnly_2 : decode cX4_carryOnly 2 = .ok (.iload_n 2, 1) := by decide +kernel
theorem dX4_carryOnly_3 : decode cX4_carryOnly 3 = .ok (.bipush 8, 2) := by decide +kernel
theorem dX4_carryOnly_5 : decode cX4_carryOnly 5 = .ok (.if_icmp .ge 19, 3) := by decide +kernel
theorem dX4_carryOnly_8 : decode cX4_carryOnly 8 = .ok (.aload_n 0, 1) := by decide +kernel
theorem dX4_carryOnly_9 : decode cX4_carryOnly 9 = .ok (.getfield 20, 3) := by decide +kernel
theorem dX4_carryOnly_12 : decode cX4_carryOnly 12 = .ok (.iload_n 2, 1) := by decide +kernel
theorem dX4_carryOnly_13 : decode cX4_carryOnly 13 = .ok (.aaload, 1) := by decide +kernel
theorem dX4_carryOnly_14 : decode cX4_carryOnly 14 = .ok (.iconst 0, 1) := by decide +kernel
theorem dX4_carryOnly_15 : decode cX4_carryOnly 15 = .ok (.invokestatic 42, 3) := by decide +kernel
theorem dX4_carryOnly_18 : decode cX4_carryOnly 18 = .ok (.iinc 2 1, 3) := by decide +kernel
theorem dX4_carryOnly_21 : decode cX4_carryOnly 21 = .ok (.goto (-19), 3) := by decide +kernel
theorem dX4_carryOnly_24 : decode cX4_carryOnly 24 = .ok (.iconst 0, 1) := by decide +kernel
theorem dX4_carryOnly_25 : decode cX4_carryOnly 25 = .ok (.istore_n 2, 1) := by decide +kernel
theorem dX4_carryOnly_26 : decode cX4_carryOnly 26 = .ok (.iload_n 2, 1) := by decide +kernel
theorem dX4_carryOnly_27 : decode cX4_carryOnly 27 = .ok (.aload_n 0, 1) := by decide +kernel
theorem dX4_carryOnly_28 : decode cX4_carryOnly 28 = .ok (.getfield 27, 3) := by decide +kernel
theorem dX4_carryOnly_31 : decode cX4_carryOnly 31 = .ok (.if_icmp .ge 35, 3) := by decide +kernel
theorem dX4_carryOnly_34 : decode cX4_carryOnly 34 = .ok (.aload_n 0, 1) := by decide +kernel
theorem dX4_carryOnly_35 : decode cX4_carryOnly 35 = .ok (.getfield 20, 3) := by decide +kernel
theorem dX4_carryOnly_38 : decode cX4_carryOnly 38 = .ok (.aload_n 0, 1) := by decide +kernel
theorem dX4_carryOnly_39 : decode cX4_carryOnly 39 = .ok (.getfield 9, 3) := by decide +kernel
theorem dX4_carryOnly_42 : decode cX4_carryOnly 42 = .ok (.iload_n 2, 1) := by decide +kernel
theorem dX4_carryOnly_43 : decode cX4_carryOnly 43 = .ok (.iaload, 1) := by decide +kernel
theorem dX4_carryOnly_44 : decode cX4_carryOnly 44 = .ok (.aaload, 1) := by decide +kernel
theorem dX4_carryOnly_45 : decode cX4_carryOnly 45 = .ok (.aload_n 0, 1) := by decide +kernel
theorem dX4_carryOnly_46 : decode cX4_carryOnly 46 = .ok (.getfield 15, 3) := by decide +kernel
theorem dX4_carryOnly_49 : decode cX4_carryOnly 49 = .ok (.iload_n 2, 1) := by decide +kernel
theorem dX4_carryOnly_50 : decode cX4_carryOnly 50 = .ok (.iaload, 1) := by decide +kernel
theorem dX4_carryOnly_51 : decode cX4_carryOnly 51 = .ok (.dup2, 1) := by decide +kernel
theorem dX4_carryOnly_52 : decode cX4_carryOnly 52 = .ok (.iaload, 1) := by decide +kernel
theorem dX4_carryOnly_53 : decode cX4_carryOnly 53 = .ok (.iload_n 1, 1) := by decide +kernel
theorem dX4_carryOnly_54 : decode cX4_carryOnly 54 = .ok (.iload_n 2, 1) := by decide +kernel
theorem dX4_carryOnly_55 : decode cX4_carryOnly 55 = .ok (.ishr, 1) := by decide +kernel
theorem dX4_carryOnly_56 : decode cX4_carryOnly 56 = .ok (.iconst 1, 1) := by decide +kernel
theorem dX4_carryOnly_57 : decode cX4_carryOnly 57 = .ok (.iand, 1) := by decide +kernel
theorem dX4_carryOnly_58 : decode cX4_carryOnly 58 = .ok (.iadd, 1) := by decide +kernel
theorem dX4_carryOnly_59 : decode cX4_carryOnly 59 = .ok (.iastore, 1) := by decide +kernel
theorem dX4_carryOnly_60 : decode cX4_carryOnly 60 = .ok (.iinc 2 1, 3) := by decide +kernel
theorem dX4_carryOnly_63 : decode cX4_carryOnly 63 = .ok (.goto (-37), 3) := by decide +kernel
theorem dX4_carryOnly_66 : decode cX4_carryOnly 66 = .ok (.return_, 1) := by decide +kernel
theorem dX5_init_0 : decode cX5_init 0 = .ok (.aload_n 0, 1) := by decide +kernel
theorem dX5_init_1 : decode cX5_init 1 = .ok (.invokespecial 3, 3) := by decide +kernel
theorem dX5_init_4 : decode cX5_init 4 = .ok (.aload_n 0, 1) := by decide +kernel
theorem dX5_init_5 : decode cX5_init 5 = .ok (.bipush 60, 2) := by decide +kernel
theorem dX5_init_7 : decode cX5_init 7 = .ok (.newarray .int, 2) := by decide +kernel
theorem dX5_init_9 : decode cX5_init 9 = .ok (.putfield 9, 3) := by decide +kernel
theorem dX5_init_12 : decode cX5_init 12 = .ok (.aload_n 0, 1) := by decide +kernel
theorem dX5_init_13 : decode cX5_init 13 = .ok (.iconst 1, 1) := by decide +kernel
theorem dX5_init_14 : decode cX5_init 14 = .ok (.putfield 15, 3) := by decide +kernel
theorem dX5_init_17 : decode cX5_init 17 = .ok (.return_, 1) := by decide +kernel
theorem dX5_renew_0 : decode cX5_renew 0 = .ok (.aload_n 0, 1) := by decide +kernel
theorem dX5_renew_1 : decode cX5_renew 1 = .ok (.getfield 9, 3) := by decide +kernel
theorem dX5_renew_4 : decode cX5_renew 4 = .ok (.iconst 0, 1) := by decide +kernel
theorem dX5_renew_5 : decode cX5_renew 5 = .ok (.invokestatic 19, 3) := by decide +kernel
theorem dX5_renew_8 : decode cX5_renew 8 = .ok (.aload_n 0, 1) := by decide +kernel
theorem dX5_renew_9 : decode cX5_renew 9 = .ok (.iload_n 1, 1) := by decide +kernel
theorem dX5_renew_10 : decode cX5_renew 10 = .ok (.putfield 25, 3) := by decide +kernel
theorem dX5_renew_13 : decode cX5_renew 13 = .ok (.aload_n 0, 1) := by decide +kernel
theorem dX5_renew_14 : decode cX5_renew 14 = .ok (.iload_n 2, 1) := by decide +kernel
theorem dX5_renew_15 : decode cX5_renew 15 = .ok (.putfield 29, 3) := by decide +kernel
theorem dX5_renew_18 : decode cX5_renew 18 = .ok (.aload_n 0, 1) := by decide +kernel
theorem dX5_renew_19 : decode cX5_renew 19 = .ok (.iconst 0, 1) := by decide +kernel
theorem dX5_renew_20 : decode cX5_renew 20 = .ok (.putfield 15, 3) := by decide +kernel
theorem dX5_renew_23 : decode cX5_renew 23 = .ok (.return_, 1) := by decide +kernel
theorem dX5_put_0 : decode cX5_put 0 = .ok (.aload_n 0, 1) := by decide +kernel
theorem dX5_put_1 : decode cX5_put 1 = .ok (.getfield 25, 3) := by decide +kernel
theorem dX5_put_4 : decode cX5_put 4 = .ok (.ifCond .ne 14, 3) := by decide +kernel
theorem dX5_put_7 : decode cX5_put 7 = .ok (.aload_n 0, 1) := by decide +kernel
theorem dX5_put_8 : decode cX5_put 8 = .ok (.getfield 9, 3) := by decide +kernel
theorem dX5_put_11 : decode cX5_put 11 = .ok (.iload_n 1, 1) := by decide +kernel
theorem dX5_put_12 : decode cX5_put 12 = .ok (.iload_n 2, 1) := by decide +kernel
theorem dX5_put_13 : decode cX5_put 13 = .ok (.i2b, 1) := by decide +kernel
theorem dX5_put_14 : decode cX5_put 14 = .ok (.iastore, 1) := by decide +kernel
theorem dX5_put_15 : decode cX5_put 15 = .ok (.goto 29, 3) := by decide +kernel
theorem dX5_put_18 : decode cX5_put 18 = .ok (.aload_n 0, 1) := by decide +kernel
theorem dX5_put_19 : decode cX5_put 19 = .ok (.getfield 25, 3) := by decide +kernel
theorem dX5_put_22 : decode cX5_put 22 = .ok (.iconst 1, 1) := by decide +kernel
theorem dX5_put_23 : decode cX5_put 23 = .ok (.if_icmp .ne 14, 3) := by decide +kernel
theorem dX5_put_26 : decode cX5_put 26 = .ok (.aload_n 0, 1) := by decide +kernel
theorem dX5_put_27 : decode cX5_put 27 = .ok (.getfield 9, 3) := by decide +kernel
theorem dX5_put_30 : decode cX5_put 30 = .ok (.iload_n 1, 1) := by decide +kernel
theorem dX5_put_31 : decode cX5_put 31 = .ok (.iload_n 2, 1) := by decide +kernel
theorem dX5_put_32 : decode cX5_put 32 = .ok (.i2s, 1) := by decide +kernel
theorem dX5_put_33 : decode cX5_put 33 = .ok (.iastore, 1) := by decide +kernel
theorem dX5_put_34 : decode cX5_put 34 = .ok (.goto 10, 3) := by decide +kernel
theorem dX5_put_37 : decode cX5_put 37 = .ok (.aload_n 0, 1) := by decide +kernel
theorem dX5_put_38 : decode cX5_put 38 = .ok (.getfield 9, 3) := by decide +kernel
theorem dX5_put_41 : decode cX5_put 41 = .ok (.iload_n 1, 1) := by decide +kernel
theorem dX5_put_42 : decode cX5_put 42 = .ok (.iload_n 2, 1) := by decide +kernel
theorem dX5_put_43 : decode cX5_put 43 = .ok (.iastore, 1) := by decide +kernel
theorem dX5_put_44 : decode cX5_put 44 = .ok (.return_, 1) := by decide +kernel
theorem dX5_hasItems_0 : decode cX5_hasItems 0 = .ok (.iload_n 1, 1) := by decide +kernel
theorem dX5_hasItems_1 : decode cX5_hasItems 1 = .ok (.ifCond .lt 29, 3) := by decide +kernel
theorem dX5_hasItems_4 : decode cX5_hasItems 4 = .ok (.iload_n 2, 1) := by decide +kernel
theorem dX5_hasItems_5 : decode cX5_hasItems 5 = .ok (.ifCond .lt 25, 3) := by decide +kernel
theorem dX5_hasItems_8 : decode cX5_hasItems 8 = .ok (.iload_n 2, 1) := by decide +kernel
theorem dX5_hasItems_9 : decode cX5_hasItems 9 = .ok (.aload_n 0, 1) := by decide +kernel
theorem dX5_hasItems_10 : decode cX5_hasItems 10 = .ok (.getfield 29, 3) := by decide +kernel
theorem dX5_hasItems_13 : decode cX5_hasItems 13 = .ok (.if_icmp .gt 17, 3) := by decide +kernel
theorem dX5_hasItems_16 : decode cX5_hasItems 16 = .ok (.iload_n 1, 1) := by decide +kernel
theorem dX5_hasItems_17 : decode cX5_hasItems 17 = .ok (.aload_n 0, 1) := by decide +kernel
theorem dX5_hasItems_18 : decode cX5_hasItems 18 = .ok (.getfield 29, 3) := by decide +kernel
theorem dX5_hasItems_21 : decode cX5_hasItems 21 = .ok (.iload_n 2, 1) := by decide +kernel
theorem dX5_hasItems_22 : decode cX5_hasItems 22 = .ok (.isub, 1) := by decide +kernel
theorem dX5_hasItems_23 : decode cX5_hasItems 23 = .ok (.if_icmp .gt 7, 3) := by decide +kernel
theorem dX5_hasItems_26 : decode cX5_hasItems 26 = .ok (.iconst 1, 1) := by decide +kernel
theorem dX5_hasItems_27 : decode cX5_hasItems 27 = .ok (.goto 4, 3) := by decide +kernel
theorem dX5_hasItems_30 : decode cX5_hasItems 30 = .ok (.iconst 0, 1) := by decide +kernel
theorem dX5_hasItems_31 : decode cX5_hasItems 31 = .ok (.ireturn, 1) := by decide +kernel
theorem dX6_init_0 : decode cX6_init 0 = .ok (.aload_n 0, 1) := by decide +kernel
theorem dX6_init_1 : decode cX6_init 1 = .ok (.invokespecial 3, 3) := by decide +kernel
theorem dX6_init_4 : decode cX6_init 4 = .ok (.aload_n 0, 1) := by decide +kernel
theorem dX6_init_5 : decode cX6_init 5 = .ok (.bipush 8, 2) := by decide +kernel
theorem dX6_init_7 : decode cX6_init 7 = .ok (.newarray .int, 2) := by decide +kernel
theorem dX6_init_9 : decode cX6_init 9 = .ok (.putfield 9, 3) := by decide +kernel
theorem dX6_init_12 : decode cX6_init 12 = .ok (.aload_n 0, 1) := by decide +kernel
theorem dX6_init_13 : decode cX6_init 13 = .ok (.bipush 8, 2) := by decide +kernel
theorem dX6_init_15 : decode cX6_init 15 = .ok (.newarray .int, 2) := by decide +kernel
theorem dX6_init_17 : decode cX6_init 17 = .ok (.putfield 15, 3) := by decide +kernel
theorem dX6_init_20 : decode cX6_init 20 = .ok (.aload_n 0, 1) := by decide +kernel
theorem dX6_init_21 : decode cX6_init 21 = .ok (.bipush 8, 2) := by decide +kernel
theorem dX6_init_23 : decode cX6_init 23 = .ok (.newarray .int, 2) := by decide +kernel
theorem dX6_init_25 : decode cX6_init 25 = .ok (.putfield 18, 3) := by decide +kernel
theorem dX6_init_28 : decode cX6_init 28 = .ok (.return_, 1) := by decide +kernel
theorem dX6_isFull_0 : decode cX6_isFull 0 = .ok (.aload_n 0, 1) := by decide +kernel
theorem dX6_isFull_1 : decode cX6_isFull 1 = .ok (.getfield 21, 3) := by decide +kernel
theorem dX6_isFull_4 : decode cX6_isFull 4 = .ok (.bipush 8, 2) := by decide +kernel
theorem dX6_isFull_6 : decode cX6_isFull 6 = .ok (.if_icmp .lt 7, 3) := by decide +kernel
theorem dX6_isFull_9 : decode cX6_isFull 9 = .ok (.iconst 1, 1) := by decide +kernel
theorem dX6_isFull_10 : decode cX6_isFull 10 = .ok (.goto 4, 3) := by decide +kernel
theorem dX6_isFull_13 : decode cX6_isFull 13 = .ok (.iconst 0, 1) := by decide +kernel
theorem dX6_isFull_14 : decode cX6_isFull 14 = .ok (.ireturn, 1) := by decide +kernel
theorem dX6_append_0 : decode cX6_append 0 = .ok (.aload_n 0, 1) := by decide +kernel
theorem dX6_append_1 : decode cX6_append 1 = .ok (.invokevirtual 25, 3) := by decide +kernel
theorem dX6_append_4 : decode cX6_append 4 = .ok (.ifCond .ne 43, 3) := by decide +kernel
theorem dX6_append_7 : decode cX6_append 7 = .ok (.aload_n 0, 1) := by decide +kernel
theorem dX6_append_8 : decode cX6_append 8 = .ok (.getfield 9, 3) := by decide +kernel
theorem dX6_append_11 : decode cX6_append 11 = .ok (.aload_n 0, 1) := by decide +kernel
theorem dX6_append_12 : decode cX6_append 12 = .ok (.getfield 21, 3) := by decide +kernel
theorem dX6_append_15 : decode cX6_append 15 = .ok (.iload_n 1, 1) := by decide +kernel
theorem dX6_append_16 : decode cX6_append 16 = .ok (.iastore, 1) := by decide +kernel
theorem dX6_append_17 : decode cX6_append 17 = .ok (.aload_n 0, 1) := by decide +kernel
theorem dX6_append_18 : decode cX6_append 18 = .ok (.getfield 15, 3) := by decide +kernel
theorem dX6_append_21 : decode cX6_append 21 = .ok (.aload_n 0, 1) := by decide +kernel
theorem dX6_append_22 : decode cX6_append 22 = .ok (.getfield 21, 3) := by decide +kernel
theorem dX6_append_25 : decode cX6_append 25 = .ok (.iload_n 2, 1) := by decide +kernel
theorem dX6_append_26 : decode cX6_append 26 = .ok (.iastore, 1) := by decide +kernel
theorem dX6_append_27 : decode cX6_append 27 = .ok (.aload_n 0, 1) := by decide +kernel
theorem dX6_append_28 : decode cX6_append 28 = .ok (.getfield 18, 3) := by decide +kernel
theorem dX6_append_31 : decode cX6_append 31 = .ok (.aload_n 0, 1) := by decide +kernel
theorem dX6_append_32 : decode cX6_append 32 = .ok (.getfield 21, 3) := by decide +kernel
theorem dX6_append_35 : decode cX6_append 35 = .ok (.iload_n 3, 1) := by decide +kernel
theorem dX6_append_36 : decode cX6_append 36 = .ok (.iastore, 1) := by decide +kernel
theorem dX6_append_37 : decode cX6_append 37 = .ok (.aload_n 0, 1) := by decide +kernel
theorem dX6_append_38 : decode cX6_append 38 = .ok (.dup, 1) := by decide +kernel
theorem dX6_append_39 : decode cX6_append 39 = .ok (.getfield 21, 3) := by decide +kernel
theorem dX6_append_42 : decode cX6_append 42 = .ok (.iconst 1, 1) := by decide +kernel
theorem dX6_append_43 : decode cX6_append 43 = .ok (.iadd, 1) := by decide +kernel
theorem dX6_append_44 : decode cX6_append 44 = .ok (.putfield 21, 3) := by decide +kernel
theorem dX6_append_47 : decode cX6_append 47 = .ok (.return_, 1) := by decide +kernel
theorem dX6_allHold_0 : decode cX6_allHold 0 = .ok (.iconst 0, 1) := by decide +kernel
theorem dX6_allHold_1 : decode cX6_allHold 1 = .ok (.istore_n 2, 1) := by decide +kernel
theorem dX6_allHold_2 : decode cX6_allHold 2 = .ok (.iload_n 2, 1) := by decide +kernel
theorem dX6_allHold_3 : decode cX6_allHold 3 = .ok (.aload_n 0, 1) := by decide +kernel
theorem dX6_allHold_4 : decode cX6_allHold 4 = .ok (.getfield 21, 3) := by decide +kernel
theorem dX6_allHold_7 : decode cX6_allHold 7 = .ok (.if_icmp .ge 49, 3) := by decide +kernel
theorem dX6_allHold_10 : decode cX6_allHold 10 = .ok (.aload_n 0, 1) := by decide +kernel
theorem dX6_allHold_11 : decode cX6_allHold 11 = .ok (.getfield 15, 3) := by decide +kernel
theorem dX6_allHold_14 : decode cX6_allHold 14 = .ok (.iload_n 2, 1) := by decide +kernel
theorem dX6_allHold_15 : decode cX6_allHold 15 = .ok (.iaload, 1) := by decide +kernel
theorem dX6_allHold_16 : decode cX6_allHold 16 = .ok (.aload_n 1, 1) := by decide +kernel
theorem dX6_allHold_17 : decode cX6_allHold 17 = .ok (.getfield 29, 3) := by decide +kernel
theorem dX6_allHold_20 : decode cX6_allHold 20 = .ok (.if_icmp .ge 28, 3) := by decide +kernel
theorem dX6_allHold_23 : decode cX6_allHold 23 = .ok (.aload_n 1, 1) := by decide +kernel
theorem dX6_allHold_24 : decode cX6_allHold 24 = .ok (.aload_n 0, 1) := by decide +kernel
theorem dX6_allHold_25 : decode cX6_allHold 25 = .ok (.getfield 9, 3) := by decide +kernel
theorem dX6_allHold_28 : decode cX6_allHold 28 = .ok (.iload_n 2, 1) := by decide +kernel
theorem dX6_allHold_29 : decode cX6_allHold 29 = .ok (.iaload, 1) := by decide +kernel
theorem dX6_allHold_30 : decode cX6_allHold 30 = .ok (.aload_n 0, 1) := by decide +kernel
theorem dX6_allHold_31 : decode cX6_allHold 31 = .ok (.getfield 15, 3) := by decide +kernel
theorem dX6_allHold_34 : decode cX6_allHold 34 = .ok (.iload_n 2, 1) := by decide +kernel
theorem dX6_allHold_35 : decode cX6_allHold 35 = .ok (.iaload, 1) := by decide +kernel
theorem dX6_allHold_36 : decode cX6_allHold 36 = .ok (.invokevirtual 34, 3) := by decide +kernel
theorem dX6_allHold_39 : decode cX6_allHold 39 = .ok (.aload_n 0, 1) := by decide +kernel
theorem dX6_allHold_40 : decode cX6_allHold 40 = .ok (.getfield 18, 3) := by decide +kernel
theorem dX6_allHold_43 : decode cX6_allHold 43 = .ok (.iload_n 2, 1) := by decide +kernel
theorem dX6_allHold_44 : decode cX6_allHold 44 = .ok (.iaload, 1) := by decide +kernel
theorem dX6_allHold_45 : decode cX6_allHold 45 = .ok (.if_icmp .eq 5, 3) := by decide +kernel
theorem dX6_allHold_48 : decode cX6_allHold 48 = .ok (.iconst 0, 1) := by decide +kernel
theorem dX6_allHold_49 : decode cX6_allHold 49 = .ok (.ireturn, 1) := by decide +kernel
theorem dX6_allHold_50 : decode cX6_allHold 50 = .ok (.iinc 2 1, 3) := by decide +kernel
theorem dX6_allHold_53 : decode cX6_allHold 53 = .ok (.goto (-51), 3) := by decide +kernel
theorem dX6_allHold_56 : decode cX6_allHold 56 = .ok (.iconst 1, 1) := by decide +kernel
theorem dX6_allHold_57 : decode cX6_allHold 57 = .ok (.ireturn, 1) := by decide +kernel
theorem dX7_init_0 : decode cX7_init 0 = .ok (.aload_n 0, 1) := by decide +kernel
theorem dX7_init_1 : decode cX7_init 1 = .ok (.invokespecial 3, 3) := by decide +kernel
theorem dX7_init_4 : decode cX7_init 4 = .ok (.aload_n 0, 1) := by decide +kernel
theorem dX7_init_5 : decode cX7_init 5 = .ok (.iload_n 1, 1) := by decide +kernel
theorem dX7_init_6 : decode cX7_init 6 = .ok (.newarray .int, 2) := by decide +kernel
theorem dX7_init_8 : decode cX7_init 8 = .ok (.putfield 9, 3) := by decide +kernel
theorem dX7_init_11 : decode cX7_init 11 = .ok (.return_, 1) := by decide +kernel
theorem dX7_isFull_0 : decode cX7_isFull 0 = .ok (.aload_n 0, 1) := by decide +kernel
theorem dX7_isFull_1 : decode cX7_isFull 1 = .ok (.getfield 15, 3) := by decide +kernel
theorem dX7_isFull_4 : decode cX7_isFull 4 = .ok (.aload_n 0, 1) := by decide +kernel
theorem dX7_isFull_5 : decode cX7_isFull 5 = .ok (.getfield 9, 3) := by decide +kernel
theorem dX7_isFull_8 : decode cX7_isFull 8 = .ok (.arraylength, 1) := by decide +kernel
theorem dX7_isFull_9 : decode cX7_isFull 9 = .ok (.if_icmp .lt 7, 3) := by decide +kernel
theorem dX7_isFull_12 : decode cX7_isFull 12 = .ok (.iconst 1, 1) := by decide +kernel
theorem dX7_isFull_13 : decode cX7_isFull 13 = .ok (.goto 4, 3) := by decide +kernel
theorem dX7_isFull_16 : decode cX7_isFull 16 = .ok (.iconst 0, 1) := by decide +kernel
theorem dX7_isFull_17 : decode cX7_isFull 17 = .ok (.ireturn, 1) := by decide +kernel
theorem dX7_append_0 : decode cX7_append 0 = .ok (.aload_n 0, 1) := by decide +kernel
theorem dX7_append_1 : decode cX7_append 1 = .ok (.invokevirtual 19, 3) := by decide +kernel
theorem dX7_append_4 : decode cX7_append 4 = .ok (.ifCond .ne 23, 3) := by decide +kernel
theorem dX7_append_7 : decode cX7_append 7 = .ok (.aload_n 0, 1) := by decide +kernel
theorem dX7_append_8 : decode cX7_append 8 = .ok (.getfield 9, 3) := by decide +kernel
theorem dX7_append_11 : decode cX7_append 11 = .ok (.aload_n 0, 1) := by decide +kernel
theorem dX7_append_12 : decode cX7_append 12 = .ok (.getfield 15, 3) := by decide +kernel
theorem dX7_append_15 : decode cX7_append 15 = .ok (.iload_n 1, 1) := by decide +kernel
theorem dX7_append_16 : decode cX7_append 16 = .ok (.iastore, 1) := by decide +kernel
theorem dX7_append_17 : decode cX7_append 17 = .ok (.aload_n 0, 1) := by decide +kernel
theorem dX7_append_18 : decode cX7_append 18 = .ok (.dup, 1) := by decide +kernel
theorem dX7_append_19 : decode cX7_append 19 = .ok (.getfield 15, 3) := by decide +kernel
theorem dX7_append_22 : decode cX7_append 22 = .ok (.iconst 1, 1) := by decide +kernel
theorem dX7_append_23 : decode cX7_append 23 = .ok (.iadd, 1) := by decide +kernel
theorem dX7_append_24 : decode cX7_append 24 = .ok (.putfield 15, 3) := by decide +kernel
theorem dX7_append_27 : decode cX7_append 27 = .ok (.return_, 1) := by decide +kernel
theorem dX7_from_0 : decode cX7_from 0 = .ok (.iload_n 1, 1) := by decide +kernel
theorem dX7_from_1 : decode cX7_from 1 = .ok (.ifCond .lt 22, 3) := by decide +kernel
theorem dX7_from_4 : decode cX7_from 4 = .ok (.iload_n 1, 1) := by decide +kernel
theorem dX7_from_5 : decode cX7_from 5 = .ok (.aload_n 0, 1) := by decide +kernel
theorem dX7_from_6 : decode cX7_from 6 = .ok (.getfield 15, 3) := by decide +kernel
theorem dX7_from_9 : decode cX7_from 9 = .ok (.if_icmp .ge 14, 3) := by decide +kernel
theorem dX7_from_12 : decode cX7_from 12 = .ok (.aload_n 0, 1) := by decide +kernel
theorem dX7_from_13 : decode cX7_from 13 = .ok (.getfield 9, 3) := by decide +kernel
theorem dX7_from_16 : decode cX7_from 16 = .ok (.iload_n 1, 1) := by decide +kernel
theorem dX7_from_17 : decode cX7_from 17 = .ok (.iaload, 1) := by decide +kernel
theorem dX7_from_18 : decode cX7_from 18 = .ok (.iload_n 2, 1) := by decide +kernel
theorem dX7_from_19 : decode cX7_from 19 = .ok (.isub, 1) := by decide +kernel
theorem dX7_from_20 : decode cX7_from 20 = .ok (.goto 6, 3) := by decide +kernel
theorem dX7_from_23 : decode cX7_from 23 = .ok (.sipush (-257), 3) := by decide +kernel
theorem dX7_from_26 : decode cX7_from 26 = .ok (.ireturn, 1) := by decide +kernel
theorem dX8_init_0 : decode cX8_init 0 = .ok (.aload_n 0, 1) := by decide +kernel
theorem dX8_init_1 : decode cX8_init 1 = .ok (.invokespecial 3, 3) := by decide +kernel
theorem dX8_init_4 : decode cX8_init 4 = .ok (.aload_n 0, 1) := by decide +kernel
theorem dX8_init_5 : decode cX8_init 5 = .ok (.bipush 8, 2) := by decide +kernel
theorem dX8_init_7 : decode cX8_init 7 = .ok (.newarray .int, 2) := by decide +kernel
theorem dX8_init_9 : decode cX8_init 9 = .ok (.putfield 9, 3) := by decide +kernel
theorem dX8_init_12 : decode cX8_init 12 = .ok (.aload_n 0, 1) := by decide +kernel
theorem dX8_init_13 : decode cX8_init 13 = .ok (.bipush 8, 2) := by decide +kernel
theorem dX8_init_15 : decode cX8_init 15 = .ok (.newarray .int, 2) := by decide +kernel
theorem dX8_init_17 : decode cX8_init 17 = .ok (.putfield 15, 3) := by decide +kernel
theorem dX8_init_20 : decode cX8_init 20 = .ok (.aload_n 0, 1) := by decide +kernel
theorem dX8_init_21 : decode cX8_init 21 = .ok (.bipush 9, 2) := by decide +kernel
theorem dX8_init_23 : decode cX8_init 23 = .ok (.newarray .int, 2) := by decide +kernel
theorem dX8_init_25 : decode cX8_init 25 = .ok (.putfield 18, 3) := by decide +kernel
theorem dX8_init_28 : decode cX8_init 28 = .ok (.aload_n 0, 1) := by decide +kernel
theorem dX8_init_29 : decode cX8_init 29 = .ok (.bipush 64, 2) := by decide +kernel
theorem dX8_init_31 : decode cX8_init 31 = .ok (.newarray .int, 2) := by decide +kernel
theorem dX8_init_33 : decode cX8_init 33 = .ok (.putfield 21, 3) := by decide +kernel
theorem dX8_init_36 : decode cX8_init 36 = .ok (.aload_n 0, 1) := by decide +kernel
theorem dX8_init_37 : decode cX8_init 37 = .ok (.bipush 8, 2) := by decide +kernel
theorem dX8_init_39 : decode cX8_init 39 = .ok (.newarray .int, 2) := by decide +kernel
theorem dX8_init_41 : decode cX8_init 41 = .ok (.putfield 24, 3) := by decide +kernel
theorem dX8_init_44 : decode cX8_init 44 = .ok (.return_, 1) := by decide +kernel
theorem dX8_takeOver_0 : decode cX8_takeOver 0 = .ok (.aload_n 0, 1) := by decide +kernel
theorem dX8_takeOver_1 : decode cX8_takeOver 1 = .ok (.aload_n 1, 1) := by decide +kernel
theorem dX8_takeOver_2 : decode cX8_takeOver 2 = .ok (.getfield 27, 3) := by decide +kernel
theorem dX8_takeOver_5 : decode cX8_takeOver 5 = .ok (.putfield 27, 3) := by decide +kernel
theorem dX8_takeOver_8 : decode cX8_takeOver 8 = .ok (.aload_n 0, 1) := by decide +kernel
theorem dX8_takeOver_9 : decode cX8_takeOver 9 = .ok (.aload_n 1, 1) := by decide +kernel
theorem dX8_takeOver_10 : decode cX8_takeOver 10 = .ok (.getfield 31, 3) := by decide +kernel
theorem dX8_takeOver_13 : decode cX8_takeOver 13 = .ok (.putfield 31, 3) := by decide +kernel
theorem dX8_takeOver_16 : decode cX8_takeOver 16 = .ok (.aload_n 1, 1) := by decide +kernel
theorem dX8_takeOver_17 : decode cX8_takeOver 17 = .ok (.getfield 9, 3) := by decide +kernel
theorem dX8_takeOver_20 : decode cX8_takeOver 20 = .ok (.iconst 0, 1) := by decide +kernel
theorem dX8_takeOver_21 : decode cX8_takeOver 21 = .ok (.aload_n 0, 1) := by decide +kernel
theorem dX8_takeOver_22 : decode cX8_takeOver 22 = .ok (.getfield 9, 3) := by decide +kernel
theorem dX8_takeOver_25 : decode cX8_takeOver 25 = .ok (.iconst 0, 1) := by decide +kernel
theorem dX8_takeOver_26 : decode cX8_takeOver 26 = .ok (.bipush 8, 2) := by decide +kernel
theorem dX8_takeOver_28 : decode cX8_takeOver 28 = .ok (.invokestatic 34, 3) := by decide +kernel
theorem dX8_takeOver_31 : decode cX8_takeOver 31 = .ok (.aload_n 1, 1) := by decide +kernel
theorem dX8_takeOver_32 : decode cX8_takeOver 32 = .ok (.getfield 15, 3) := by decide +kernel
theorem dX8_takeOver_35 : decode cX8_takeOver 35 = .ok (.iconst 0, 1) := by decide +kernel
theorem dX8_takeOver_36 : decode cX8_takeOver 36 = .ok (.aload_n 0, 1) := by decide +kernel
theorem dX8_takeOver_37 : decode cX8_takeOver 37 = .ok (.getfield 15, 3) := by decide +kernel
theorem dX8_takeOver_40 : decode cX8_takeOver 40 = .ok (.iconst 0, 1) := by decide +kernel
theorem dX8_takeOver_41 : decode cX8_takeOver 41 = .ok (.bipush 8, 2) := by decide +kernel
theorem dX8_takeOver_43 : decode cX8_takeOver 43 = .ok (.invokestatic 34, 3) := by decide +kernel
theorem dX8_takeOver_46 : decode cX8_takeOver 46 = .ok (.return_, 1) := by decide +kernel
theorem dX8_takeAway_0 : decode cX8_takeAway 0 = .ok (.iload_n 1, 1) := by decide +kernel
theorem dX8_takeAway_1 : decode cX8_takeAway 1 = .ok (.aload_n 0, 1) := by decide +kernel
theorem dX8_takeAway_2 : decode cX8_takeAway 2 = .ok (.getfield 27, 3) := by decide +kernel
theorem dX8_takeAway_5 : decode cX8_takeAway 5 = .ok (.invokestatic 40, 3) := by decide +kernel
theorem dX8_takeAway_8 : decode cX8_takeAway 8 = .ok (.ifCond .eq 34, 3) := by decide +kernel
theorem dX8_takeAway_11 : decode cX8_takeAway 11 = .ok (.aload_n 0, 1) := by decide +kernel
theorem dX8_takeAway_12 : decode cX8_takeAway 12 = .ok (.dup, 1) := by decide +kernel
theorem dX8_takeAway_13 : decode cX8_takeAway 13 = .ok (.getfield 27, 3) := by decide +kernel
theorem dX8_takeAway_16 : decode cX8_takeAway 16 = .ok (.iconst 1, 1) := by decide +kernel
theorem dX8_takeAway_17 : decode cX8_takeAway 17 = .ok (.isub, 1) := by decide +kernel
theorem dX8_takeAway_18 : decode cX8_takeAway 18 = .ok (.putfield 27, 3) := by decide +kernel
theorem dX8_takeAway_21 : decode cX8_takeAway 21 = .ok (.aload_n 0, 1) := by decide +kernel
theorem dX8_takeAway_22 : decode cX8_takeAway 22 = .ok (.getfield 9, 3) := by decide +kernel
theorem dX8_takeAway_25 : decode cX8_takeAway 25 = .ok (.iload_n 1, 1) := by decide +kernel
theorem dX8_takeAway_26 : decode cX8_takeAway 26 = .ok (.iconst 1, 1) := by decide +kernel
theorem dX8_takeAway_27 : decode cX8_takeAway 27 = .ok (.iadd, 1) := by decide +kernel
theorem dX8_takeAway_28 : decode cX8_takeAway 28 = .ok (.aload_n 0, 1) := by decide +kernel
theorem dX8_takeAway_29 : decode cX8_takeAway 29 = .ok (.getfield 9, 3) := by decide +kernel
theorem dX8_takeAway_32 : decode cX8_takeAway 32 = .ok (.iload_n 1, 1) := by decide +kernel
theorem dX8_takeAway_33 : decode cX8_takeAway 33 = .ok (.aload_n 0, 1) := by decide +kernel
theorem dX8_takeAway_34 : decode cX8_takeAway 34 = .ok (.getfield 27, 3) := by decide +kernel
theorem dX8_takeAway_37 : decode cX8_takeAway 37 = .ok (.iload_n 1, 1) := by decide +kernel
theorem dX8_takeAway_38 : decode cX8_takeAway 38 = .ok (.isub, 1) := by decide +kernel
theorem dX8_takeAway_39 : decode cX8_takeAway 39 = .ok (.invokestatic 34, 3) := by decide +kernel
theorem dX8_takeAway_42 : decode cX8_takeAway 42 = .ok (.return_, 1) := by decide +kernel
theorem dX8_setLifted_0 : decode cX8_setLifted 0 = .ok (.iconst 1, 1) := by decide +kernel
theorem dX8_setLifted_1 : decode cX8_setLifted 1 = .ok (.iload_n 2, 1) := by decide +kernel
theorem dX8_setLifted_2 : decode cX8_setLifted 2 = .ok (.ishl, 1) := by decide +kernel
theorem dX8_setLifted_3 : decode cX8_setLifted 3 = .ok (.istore 4, 2) := by decide +kernel
theorem dX8_setLifted_5 : decode cX8_setLifted 5 = .ok (.aload_n 0, 1) := by decide +kernel
theorem dX8_setLifted_6 : decode cX8_setLifted 6 = .ok (.getfield 9, 3) := by decide +kernel
theorem dX8_setLifted_9 : decode cX8_setLifted 9 = .ok (.iload_n 1, 1) := by decide +kernel
theorem dX8_setLifted_10 : decode cX8_setLifted 10 = .ok (.iload_n 3, 1) := by decide +kernel
theorem dX8_setLifted_11 : decode cX8_setLifted 11 = .ok (.ifCond .eq 15, 3) := by decide +kernel
theorem dX8_setLifted_14 : decode cX8_setLifted 14 = .ok (.aload_n 0, 1) := by decide +kernel
theorem dX8_setLifted_15 : decode cX8_setLifted 15 = .ok (.getfield 9, 3) := by decide +kernel
theorem dX8_setLifted_18 : decode cX8_setLifted 18 = .ok (.iload_n 1, 1) := by decide +kernel
theorem dX8_setLifted_19 : decode cX8_setLifted 19 = .ok (.iaload, 1) := by decide +kernel
theorem dX8_setLifted_20 : decode cX8_setLifted 20 = .ok (.iload 4, 2) := by decide +kernel
theorem dX8_setLifted_22 : decode cX8_setLifted 22 = .ok (.ior, 1) := by decide +kernel
theorem dX8_setLifted_23 : decode cX8_setLifted 23 = .ok (.goto 14, 3) := by decide +kernel
theorem dX8_setLifted_26 : decode cX8_setLifted 26 = .ok (.aload_n 0, 1) := by decide +kernel
theorem dX8_setLifted_27 : decode cX8_setLifted 27 = .ok (.getfield 9, 3) := by decide +kernel
theorem dX8_setLifted_30 : decode cX8_setLifted 30 = .ok (.iload_n 1, 1) := by decide +kernel
theorem dX8_setLifted_31 : decode cX8_setLifted 31 = .ok (.iaload, 1) := by decide +kernel
theorem dX8_setLifted_32 : decode cX8_setLifted 32 = .ok (.iload 4, 2) := by decide +kernel
theorem dX8_setLifted_34 : decode cX8_setLifted 34 = .ok (.iconst (-1), 1) := by decide +kernel
theorem dX8_setLifted_35 : decode cX8_setLifted 35 = .ok (.ixor, 1) := by decide +kernel
theorem dX8_setLifted_36 : decode cX8_setLifted 36 = .ok (.iand, 1) := by decide +kernel
theorem dX8_setLifted_37 : decode cX8_setLifted 37 = .ok (.iastore, 1) := by decide +kernel
theorem dX8_setLifted_38 : decode cX8_setLifted 38 = .ok (.return_, 1) := by decide +kernel
theorem dX8_run_0 : decode cX8_run 0 = .ok (.aload_n 0, 1) := by decide +kernel
theorem dX8_run_1 : decode cX8_run 1 = .ok (.getfield 18, 3) := by decide +kernel
theorem dX8_run_4 : decode cX8_run 4 = .ok (.iconst 0, 1) := by decide +kernel
theorem dX8_run_5 : decode cX8_run 5 = .ok (.invokestatic 44, 3) := by decide +kernel
theorem dX8_run_8 : decode cX8_run 8 = .ok (.aload_n 0, 1) := by decide +kernel
theorem dX8_run_9 : decode cX8_run 9 = .ok (.getfield 21, 3) := by decide +kernel
theorem dX8_run_12 : decode cX8_run 12 = .ok (.bipush 100, 2) := by decide +kernel
theorem dX8_run_14 : decode cX8_run 14 = .ok (.invokestatic 44, 3) := by decide +kernel
theorem dX8_run_17 : decode cX8_run 17 = .ok (.aload_n 0, 1) := by decide +kernel
theorem dX8_run_18 : decode cX8_run 18 = .ok (.getfield 24, 3) := by decide +kernel
theorem dX8_run_21 : decode cX8_run 21 = .ok (.iconst 0, 1) := by decide +kernel
theorem dX8_run_22 : decode cX8_run 22 = .ok (.invokestatic 44, 3) := by decide +kernel
theorem dX8_run_25 : decode cX8_run 25 = .ok (.iconst 1, 1) := by decide +kernel
theorem dX8_run_26 : decode cX8_run 26 = .ok (.istore_n 1, 1) := by decide +kernel
theorem dX8_run_27 : decode cX8_run 27 = .ok (.iconst 0, 1) := by decide +kernel
theorem dX8_run_28 : decode cX8_run 28 = .ok (.istore_n 2, 1) := by decide +kernel
theorem dX8_run_29 : decode cX8_run 29 = .ok (.iload_n 2, 1) := by decide +kernel
theorem dX8_run_30 : decode cX8_run 30 = .ok (.bipush 100, 2) := by decide +kernel
theorem dX8_run_32 : decode cX8_run 32 = .ok (.if_icmp .ge 36, 3) := by decide +kernel
theorem dX8_run_35 : decode cX8_run 35 = .ok (.iload_n 1, 1) := by decide +kernel
theorem dX8_run_36 : decode cX8_run 36 = .ok (.ifCond .ne 9, 3) := by decide +kernel
theorem dX8_run_39 : decode cX8_run 39 = .ok (.iload_n 2, 1) := by decide +kernel
theorem dX8_run_40 : decode cX8_run 40 = .ok (.bipush 10, 2) := by decide +kernel
theorem dX8_run_42 : decode cX8_run 42 = .ok (.if_icmp .ge 26, 3) := by decide +kernel
theorem dX8_run_45 : decode cX8_run 45 = .ok (.iload_n 2, 1) := by decide +kernel
theorem dX8_run_46 : decode cX8_run 46 = .ok (.bipush 10, 2) := by decide +kernel
theorem dX8_run_48 : decode cX8_run 48 = .ok (.if_icmp .ge 8, 3) := by decide +kernel
theorem dX8_run_51 : decode cX8_run 51 = .ok (.aload_n 0, 1) := by decide +kernel
theorem dX8_run_52 : decode cX8_run 52 = .ok (.iload_n 2, 1) := by decide +kernel
theorem dX8_run_53 : decode cX8_run 53 = .ok (.invokevirtual 50, 3) := by decide +kernel
theorem dX8_run_56 : decode cX8_run 56 = .ok (.aload_n 0, 1) := by decide +kernel
theorem dX8_run_57 : decode cX8_run 57 = .ok (.iload_n 2, 1) := by decide +kernel
theorem dX8_run_58 : decode cX8_run 58 = .ok (.invokevirtual 54, 3) := by decide +kernel
theorem dX8_run_61 : decode cX8_run 61 = .ok (.istore_n 1, 1) := by decide +kernel
theorem dX8_run_62 : decode cX8_run 62 = .ok (.iinc 2 1, 3) := by decide +kernel
theorem dX8_run_65 : decode cX8_run 65 = .ok (.goto (-36), 3) := by decide +kernel
theorem dX8_run_68 : decode cX8_run 68 = .ok (.return_, 1) := by decide +kernel
theorem dX8_letStart_0 : decode cX8_letStart 0 = .ok (.iconst 0, 1) := by decide +kernel
theorem dX8_letStart_1 : decode cX8_letStart 1 = .ok (.istore_n 2, 1) := by decide +kernel
theorem dX8_letStart_2 : decode cX8_letStart 2 = .ok (.iload_n 2, 1) := by decide +kernel
theorem dX8_letStart_3 : decode cX8_letStart 3 = .ok (.aload_n 0, 1) := by decide +kernel
theorem dX8_letStart_4 : decode cX8_letStart 4 = .ok (.getfield 31, 3) := by decide +kernel
theorem dX8_letStart_7 : decode cX8_letStart 7 = .ok (.if_icmp .ge 31, 3) := by decide +kernel
theorem dX8_letStart_10 : decode cX8_letStart 10 = .ok (.aload_n 0, 1) := by decide +kernel
theorem dX8_letStart_11 : decode cX8_letStart 11 = .ok (.getfield 15, 3) := by decide +kernel
theorem dX8_letStart_14 : decode cX8_letStart 14 = .ok (.iload_n 2, 1) := by decide +kernel
theorem dX8_letStart_15 : decode cX8_letStart 15 = .ok (.iaload, 1) := by decide +kernel
theorem dX8_letStart_16 : decode cX8_letStart 16 = .ok (.iload_n 1, 1) := by decide +kernel
theorem dX8_letStart_17 : decode cX8_letStart 17 = .ok (.if_icmp .ne 15, 3) := by decide +kernel
theorem dX8_letStart_20 : decode cX8_letStart 20 = .ok (.aload_n 0, 1) := by decide +kernel
theorem dX8_letStart_21 : decode cX8_letStart 21 = .ok (.getfield 18, 3) := by decide +kernel
theorem dX8_letStart_24 : decode cX8_letStart 24 = .ok (.iconst 0, 1) := by decide +kernel
theorem dX8_letStart_25 : decode cX8_letStart 25 = .ok (.dup2, 1) := by decide +kernel
theorem dX8_letStart_26 : decode cX8_letStart 26 = .ok (.iaload, 1) := by decide +kernel
theorem dX8_letStart_27 : decode cX8_letStart 27 = .ok (.iconst 1, 1) := by decide +kernel
theorem dX8_letStart_28 : decode cX8_letStart 28 = .ok (.iload_n 2, 1) := by decide +kernel
theorem dX8_letStart_29 : decode cX8_letStart 29 = .ok (.ishl, 1) := by decide +kernel
theorem dX8_letStart_30 : decode cX8_letStart 30 = .ok (.ior, 1) := by decide +kernel
theorem dX8_letStart_31 : decode cX8_letStart 31 = .ok (.iastore, 1) := by decide +kernel
theorem dX8_letStart_32 : decode cX8_letStart 32 = .ok (.iinc 2 1, 3) := by decide +kernel
theorem dX8_letStart_35 : decode cX8_letStart 35 = .ok (.goto (-33), 3) := by decide +kernel
theorem dX8_letStart_38 : decode cX8_letStart 38 = .ok (.return_, 1) := by decide +kernel
theorem dX8_letGoOn_0 : decode cX8_letGoOn 0 = .ok (.iconst 0, 1) := by decide +kernel
theorem dX8_letGoOn_1 : decode cX8_letGoOn 1 = .ok (.istore_n 2, 1) := by decide +kernel
theorem dX8_letGoOn_2 : decode cX8_letGoOn 2 = .ok (.aload_n 0, 1) := by decide +kernel
theorem dX8_letGoOn_3 : decode cX8_letGoOn 3 = .ok (.getfield 27, 3) := by decide +kernel
theorem dX8_letGoOn_6 : decode cX8_letGoOn 6 = .ok (.iconst 1, 1) := by decide +kernel
theorem dX8_letGoOn_7 : decode cX8_letGoOn 7 = .ok (.isub, 1) := by decide +kernel
theorem dX8_letGoOn_8 : decode cX8_letGoOn 8 = .ok (.istore_n 3, 1) := by decide +kernel
theorem dX8_letGoOn_9 : decode cX8_letGoOn 9 = .ok (.iload_n 3, 1) := by decide +kernel
theorem dX8_letGoOn_10 : decode cX8_letGoOn 10 = .ok (.ifCond .lt 84, 3) := by decide +kernel
theorem dX8_letGoOn_13 : decode cX8_letGoOn 13 = .ok (.aload_n 0, 1) := by decide +kernel
theorem dX8_letGoOn_14 : decode cX8_letGoOn 14 = .ok (.getfield 18, 3) := by decide +kernel
theorem dX8_letGoOn_17 : decode cX8_letGoOn 17 = .ok (.iload_n 3, 1) := by decide +kernel
theorem dX8_letGoOn_18 : decode cX8_letGoOn 18 = .ok (.iaload, 1) := by decide +kernel
theorem dX8_letGoOn_19 : decode cX8_letGoOn 19 = .ok (.aload_n 0, 1) := by decide +kernel
theorem dX8_letGoOn_20 : decode cX8_letGoOn 20 = .ok (.getfield 9, 3) := by decide +kernel
theorem dX8_letGoOn_23 : decode cX8_letGoOn 23 = .ok (.iload_n 3, 1) := by decide +kernel
theorem dX8_letGoOn_24 : decode cX8_letGoOn 24 = .ok (.iaload, 1) := by decide +kernel
theorem dX8_letGoOn_25 : decode cX8_letGoOn 25 = .ok (.iand, 1) := by decide +kernel
theorem dX8_letGoOn_26 : decode cX8_letGoOn 26 = .ok (.invokestatic 58, 3) := by decide +kernel
theorem dX8_letGoOn_29 : decode cX8_letGoOn 29 = .ok (.istore 4, 2) := by decide +kernel
theorem dX8_letGoOn_31 : decode cX8_letGoOn 31 = .ok (.iload 4, 2) := by decide +kernel
theorem dX8_letGoOn_33 : decode cX8_letGoOn 33 = .ok (.iconst (-1), 1) := by decide +kernel
theorem dX8_letGoOn_34 : decode cX8_letGoOn 34 = .ok (.if_icmp .ne 6, 3) := by decide +kernel
theorem dX8_letGoOn_37 : decode cX8_letGoOn 37 = .ok (.goto 51, 3) := by decide +kernel
theorem dX8_letGoOn_40 : decode cX8_letGoOn 40 = .ok (.iconst 1, 1) := by decide +kernel
theorem dX8_letGoOn_41 : decode cX8_letGoOn 41 = .ok (.istore_n 2, 1) := by decide +kernel
theorem dX8_letGoOn_42 : decode cX8_letGoOn 42 = .ok (.aload_n 0, 1) := by decide +kernel
theorem dX8_letGoOn_43 : decode cX8_letGoOn 43 = .ok (.iload_n 3, 1) := by decide +kernel
theorem dX8_letGoOn_44 : decode cX8_letGoOn 44 = .ok (.iload 4, 2) := by decide +kernel
theorem dX8_letGoOn_46 : decode cX8_letGoOn 46 = .ok (.iload_n 1, 1) := by decide +kernel
theorem dX8_letGoOn_47 : decode cX8_letGoOn 47 = .ok (.invokevirtual 62, 3) := by decide +kernel
theorem dX8_letGoOn_50 : decode cX8_letGoOn 50 = .ok (.aload_n 0, 1) := by decide +kernel
theorem dX8_letGoOn_51 : decode cX8_letGoOn 51 = .ok (.getfield 18, 3) := by decide +kernel
theorem dX8_letGoOn_54 : decode cX8_letGoOn 54 = .ok (.iload_n 3, 1) := by decide +kernel
theorem dX8_letGoOn_55 : decode cX8_letGoOn 55 = .ok (.iaload, 1) := by decide +kernel
theorem dX8_letGoOn_56 : decode cX8_letGoOn 56 = .ok (.invokestatic 58, 3) := by decide +kernel
theorem dX8_letGoOn_59 : decode cX8_letGoOn 59 = .ok (.istore 5, 2) := by decide +kernel
theorem dX8_letGoOn_61 : decode cX8_letGoOn 61 = .ok (.iload 5, 2) := by decide +kernel
theorem dX8_letGoOn_63 : decode cX8_letGoOn 63 = .ok (.iconst (-1), 1) := by decide +kernel
theorem dX8_letGoOn_64 : decode cX8_letGoOn 64 = .ok (.if_icmp .eq 24, 3) := by decide +kernel
theorem dX8_letGoOn_67 : decode cX8_letGoOn 67 = .ok (.aload_n 0, 1) := by decide +kernel
theorem dX8_letGoOn_68 : decode cX8_letGoOn 68 = .ok (.iload_n 3, 1) := by decide +kernel
theorem dX8_letGoOn_69 : decode cX8_letGoOn 69 = .ok (.iload 5, 2) := by decide +kernel
theorem dX8_letGoOn_71 : decode cX8_letGoOn 71 = .ok (.iload_n 1, 1) := by decide +kernel
theorem dX8_letGoOn_72 : decode cX8_letGoOn 72 = .ok (.invokevirtual 62, 3) := by decide +kernel
theorem dX8_letGoOn_75 : decode cX8_letGoOn 75 = .ok (.aload_n 0, 1) := by decide +kernel
theorem dX8_letGoOn_76 : decode cX8_letGoOn 76 = .ok (.getfield 24, 3) := by decide +kernel
theorem dX8_letGoOn_79 : decode cX8_letGoOn 79 = .ok (.iload_n 3, 1) := by decide +kernel
theorem dX8_letGoOn_80 : decode cX8_letGoOn 80 = .ok (.dup2, 1) := by decide +kernel
theorem dX8_letGoOn_81 : decode cX8_letGoOn 81 = .ok (.iaload, 1) := by decide +kernel
theorem dX8_letGoOn_82 : decode cX8_letGoOn 82 = .ok (.iconst 1, 1) := by decide +kernel
theorem dX8_letGoOn_83 : decode cX8_letGoOn 83 = .ok (.iload 5, 2) := by decide +kernel
theorem dX8_letGoOn_85 : decode cX8_letGoOn 85 = .ok (.ishl, 1) := by decide +kernel
theorem dX8_letGoOn_86 : decode cX8_letGoOn 86 = .ok (.ior, 1) := by decide +kernel
theorem dX8_letGoOn_87 : decode cX8_letGoOn 87 = .ok (.iastore, 1) := by decide +kernel
theorem dX8_letGoOn_88 : decode cX8_letGoOn 88 = .ok (.iinc 3 (-1), 3) := by decide +kernel
theorem dX8_letGoOn_91 : decode cX8_letGoOn 91 = .ok (.goto (-82), 3) := by decide +kernel
theorem dX8_letGoOn_94 : decode cX8_letGoOn 94 = .ok (.iload_n 2, 1) := by decide +kernel
theorem dX8_letGoOn_95 : decode cX8_letGoOn 95 = .ok (.ireturn, 1) := by decide +kernel
theorem dX8_letOver_0 : decode cX8_letOver 0 = .ok (.aload_n 0, 1) := by decide +kernel
theorem dX8_letOver_1 : decode cX8_letOver 1 = .ok (.getfield 21, 3) := by decide +kernel
theorem dX8_letOver_4 : decode cX8_letOver 4 = .ok (.iload_n 1, 1) := by decide +kernel
theorem dX8_letOver_5 : decode cX8_letOver 5 = .ok (.bipush 8, 2) := by decide +kernel
theorem dX8_letOver_7 : decode cX8_letOver 7 = .ok (.imul, 1) := by decide +kernel
theorem dX8_letOver_8 : decode cX8_letOver 8 = .ok (.iload_n 2, 1) := by decide +kernel
theorem dX8_letOver_9 : decode cX8_letOver 9 = .ok (.iadd, 1) := by decide +kernel
theorem dX8_letOver_10 : decode cX8_letOver 10 = .ok (.iload_n 3, 1) := by decide +kernel
theorem dX8_letOver_11 : decode cX8_letOver 11 = .ok (.iastore, 1) := by decide +kernel
theorem dX8_letOver_12 : decode cX8_letOver 12 = .ok (.aload_n 0, 1) := by decide +kernel
theorem dX8_letOver_13 : decode cX8_letOver 13 = .ok (.getfield 18, 3) := by decide +kernel
theorem dX8_letOver_16 : decode cX8_letOver 16 = .ok (.iload_n 1, 1) := by decide +kernel
theorem dX8_letOver_17 : decode cX8_letOver 17 = .ok (.dup2, 1) := by decide +kernel
theorem dX8_letOver_18 : decode cX8_letOver 18 = .ok (.iaload, 1) := by decide +kernel
theorem dX8_letOver_19 : decode cX8_letOver 19 = .ok (.iconst 1, 1) := by decide +kernel
theorem dX8_letOver_20 : decode cX8_letOver 20 = .ok (.iload_n 2, 1) := by decide +kernel
theorem dX8_letOver_21 : decode cX8_letOver 21 = .ok (.ishl, 1) := by decide +kernel
theorem dX8_letOver_22 : decode cX8_letOver 22 = .ok (.iconst (-1), 1) := by decide +kernel
theorem dX8_letOver_23 : decode cX8_letOver 23 = .ok (.ixor, 1) := by decide +kernel
theorem dX8_letOver_24 : decode cX8_letOver 24 = .ok (.iand, 1) := by decide +kernel
theorem dX8_letOver_25 : decode cX8_letOver 25 = .ok (.iastore, 1) := by decide +kernel
theorem dX8_letOver_26 : decode cX8_letOver 26 = .ok (.aload_n 0, 1) := by decide +kernel
theorem dX8_letOver_27 : decode cX8_letOver 27 = .ok (.getfield 18, 3) := by decide +kernel
theorem dX8_letOver_30 : decode cX8_letOver 30 = .ok (.iload_n 1, 1) := by decide +kernel
theorem dX8_letOver_31 : decode cX8_letOver 31 = .ok (.iconst 1, 1) := by decide +kernel
theorem dX8_letOver_32 : decode cX8_letOver 32 = .ok (.iadd, 1) := by decide +kernel
theorem dX8_letOver_33 : decode cX8_letOver 33 = .ok (.dup2, 1) := by decide +kernel
theorem dX8_letOver_34 : decode cX8_letOver 34 = .ok (.iaload, 1) := by decide +kernel
theorem dX8_letOver_35 : decode cX8_letOver 35 = .ok (.iconst 1, 1) := by decide +kernel
theorem dX8_letOver_36 : decode cX8_letOver 36 = .ok (.iload_n 2, 1) := by decide +kernel
theorem dX8_letOver_37 : decode cX8_letOver 37 = .ok (.ishl, 1) := by decide +kernel
theorem dX8_letOver_38 : decode cX8_letOver 38 = .ok (.ior, 1) := by decide +kernel
theorem dX8_letOver_39 : decode cX8_letOver 39 = .ok (.iastore, 1) := by decide +kernel
theorem dX8_letOver_40 : decode cX8_letOver 40 = .ok (.return_, 1) := by decide +kernel
theorem dX8_leastOf_0 : decode cX8_leastOf 0 = .ok (.iload_n 0, 1) := by decide +kernel
theorem dX8_leastOf_1 : decode cX8_leastOf 1 = .ok (.ifCond .ne 5, 3) := by decide +kernel
theorem dX8_leastOf_4 : decode cX8_leastOf 4 = .ok (.iconst (-1), 1) := by decide +kernel
theorem dX8_leastOf_5 : decode cX8_leastOf 5 = .ok (.ireturn, 1) := by decide +kernel
theorem dX8_leastOf_6 : decode cX8_leastOf 6 = .ok (.iconst 0, 1) := by decide +kernel
theorem dX8_leastOf_7 : decode cX8_leastOf 7 = .ok (.istore_n 1, 1) := by decide +kernel
theorem dX8_leastOf_8 : decode cX8_leastOf 8 = .ok (.iload_n 1, 1) := by decide +kernel
theorem dX8_leastOf_9 : decode cX8_leastOf 9 = .ok (.bipush 8, 2) := by decide +kernel
theorem dX8_leastOf_11 : decode cX8_leastOf 11 = .ok (.if_icmp .ge 19, 3) := by decide +kernel
theorem dX8_leastOf_14 : decode cX8_leastOf 14 = .ok (.iload_n 0, 1) := by decide +kernel
theorem dX8_leastOf_15 : decode cX8_leastOf 15 = .ok (.iload_n 1, 1) := by decide +kernel
theorem dX8_leastOf_16 : decode cX8_leastOf 16 = .ok (.ishr, 1) := by decide +kernel
theorem dX8_leastOf_17 : decode cX8_leastOf 17 = .ok (.iconst 1, 1) := by decide +kernel
theorem dX8_leastOf_18 : decode cX8_leastOf 18 = .ok (.iand, 1) := by decide +kernel
theorem dX8_leastOf_19 : decode cX8_leastOf 19 = .ok (.ifCond .eq 5, 3) := by decide +kernel
theorem dX8_leastOf_22 : decode cX8_leastOf 22 = .ok (.iload_n 1, 1) := by decide +kernel
theorem dX8_leastOf_23 : decode cX8_leastOf 23 = .ok (.ireturn, 1) := by decide +kernel
theorem dX8_leastOf_24 : decode cX8_leastOf 24 = .ok (.iinc 1 1, 3) := by decide +kernel
theorem dX8_leastOf_27 : decode cX8_leastOf 27 = .ok (.goto (-19), 3) := by decide +kernel
theorem dX8_leastOf_30 : decode cX8_leastOf 30 = .ok (.iconst (-1), 1) := by decide +kernel
theorem dX8_leastOf_31 : decode cX8_leastOf 31 = .ok (.ireturn, 1) := by decide +kernel
theorem dX8_isLifted_0 : decode cX8_isLifted 0 = .ok (.aload_n 0, 1) := by decide +kernel
theorem dX8_isLifted_1 : decode cX8_isLifted 1 = .ok (.getfield 9, 3) := by decide +kernel
theorem dX8_isLifted_4 : decode cX8_isLifted 4 = .ok (.iload_n 1, 1) := by decide +kernel
theorem dX8_isLifted_5 : decode cX8_isLifted 5 = .ok (.iaload, 1) := by decide +kernel
theorem dX8_isLifted_6 : decode cX8_isLifted 6 = .ok (.iload_n 2, 1) := by decide +kernel
theorem dX8_isLifted_7 : decode cX8_isLifted 7 = .ok (.ishr, 1) := by decide +kernel
theorem dX8_isLifted_8 : decode cX8_isLifted 8 = .ok (.iconst 1, 1) := by decide +kernel
theorem dX8_isLifted_9 : decode cX8_isLifted 9 = .ok (.iand, 1) := by decide +kernel
theorem dX8_isLifted_10 : decode cX8_isLifted 10 = .ok (.ifCond .eq 7, 3) := by decide +kernel
theorem dX8_isLifted_13 : decode cX8_isLifted 13 = .ok (.iconst 1, 1) := by decide +kernel
theorem dX8_isLifted_14 : decode cX8_isLifted 14 = .ok (.goto 4, 3) := by decide +kernel
theorem dX8_isLifted_17 : decode cX8_isLifted 17 = .ok (.iconst 0, 1) := by decide +kernel
theorem dX8_isLifted_18 : decode cX8_isLifted 18 = .ok (.ireturn, 1) := by decide +kernel
theorem dX8_hasSlipped_0 : decode cX8_hasSlipped 0 = .ok (.aload_n 0, 1) := by decide +kernel
theorem dX8_hasSlipped_1 : decode cX8_hasSlipped 1 = .ok (.getfield 24, 3) := by decide +kernel
theorem dX8_hasSlipped_4 : decode cX8_hasSlipped 4 = .ok (.iload_n 1, 1) := by decide +kernel
theorem dX8_hasSlipped_5 : decode cX8_hasSlipped 5 = .ok (.iaload, 1) := by decide +kernel
theorem dX8_hasSlipped_6 : decode cX8_hasSlipped 6 = .ok (.iload_n 2, 1) := by decide +kernel
theorem dX8_hasSlipped_7 : decode cX8_hasSlipped 7 = .ok (.ishr, 1) := by decide +kernel
theorem dX8_hasSlipped_8 : decode cX8_hasSlipped 8 = .ok (.iconst 1, 1) := by decide +kernel
theorem dX8_hasSlipped_9 : decode cX8_hasSlipped 9 = .ok (.iand, 1) := by decide +kernel
theorem dX8_hasSlipped_10 : decode cX8_hasSlipped 10 = .ok (.ifCond .eq 7, 3) := by decide +kernel
theorem dX8_hasSlipped_13 : decode cX8_hasSlipped 13 = .ok (.iconst 1, 1) := by decide +kernel
theorem dX8_hasSlipped_14 : decode cX8_hasSlipped 14 = .ok (.goto 4, 3) := by decide +kernel
theorem dX8_hasSlipped_17 : decode cX8_hasSlipped 17 = .ok (.iconst 0, 1) := by decide +kernel
theorem dX8_hasSlipped_18 : decode cX8_hasSlipped 18 = .ok (.ireturn, 1) := by decide +kernel
theorem dX8_passStep_0 : decode cX8_passStep 0 = .ok (.aload_n 0, 1) := by decide +kernel
theorem dX8_passStep_1 : decode cX8_passStep 1 = .ok (.getfield 21, 3) := by decide +kernel
theorem dX8_passStep_4 : decode cX8_passStep 4 = .ok (.iload_n 1, 1) := by decide +kernel
theorem dX8_passStep_5 : decode cX8_passStep 5 = .ok (.bipush 8, 2) := by decide +kernel
theorem dX8_passStep_7 : decode cX8_passStep 7 = .ok (.imul, 1) := by decide +kernel
theorem dX8_passStep_8 : decode cX8_passStep 8 = .ok (.iload_n 2, 1) := by decide +kernel
theorem dX8_passStep_9 : decode cX8_passStep 9 = .ok (.iadd, 1) := by decide +kernel
theorem dX8_passStep_10 : decode cX8_passStep 10 = .ok (.iaload, 1) := by decide +kernel
theorem dX8_passStep_11 : decode cX8_passStep 11 = .ok (.ireturn, 1) := by decide +kernel
theorem dX8_placeOf_0 : decode cX8_placeOf 0 = .ok (.aload_n 0, 1) := by decide +kernel
theorem dX8_placeOf_1 : decode cX8_placeOf 1 = .ok (.getfield 15, 3) := by decide +kernel
theorem dX8_placeOf_4 : decode cX8_placeOf 4 = .ok (.iload_n 2, 1) := by decide +kernel
theorem dX8_placeOf_5 : decode cX8_placeOf 5 = .ok (.iaload, 1) := by decide +kernel
theorem dX8_placeOf_6 : decode cX8_placeOf 6 = .ok (.iload_n 1, 1) := by decide +kernel
theorem dX8_placeOf_7 : decode cX8_placeOf 7 = .ok (.if_icmp .le 5, 3) := by decide +kernel
theorem dX8_placeOf_10 : decode cX8_placeOf 10 = .ok (.iconst (-1), 1) := by decide +kernel
theorem dX8_placeOf_11 : decode cX8_placeOf 11 = .ok (.ireturn, 1) := by decide +kernel
theorem dX8_placeOf_12 : decode cX8_placeOf 12 = .ok (.iconst 0, 1) := by decide +kernel
theorem dX8_placeOf_13 : decode cX8_placeOf 13 = .ok (.istore_n 3, 1) := by decide +kernel
theorem dX8_placeOf_14 : decode cX8_placeOf 14 = .ok (.iload_n 3, 1) := by decide +kernel
theorem dX8_placeOf_15 : decode cX8_placeOf 15 = .ok (.aload_n 0, 1) := by decide +kernel
theorem dX8_placeOf_16 : decode cX8_placeOf 16 = .ok (.getfield 27, 3) := by decide +kernel
theorem dX8_placeOf_19 : decode cX8_placeOf 19 = .ok (.if_icmp .ge 19, 3) := by decide +kernel
theorem dX8_placeOf_22 : decode cX8_placeOf 22 = .ok (.aload_n 0, 1) := by decide +kernel
theorem dX8_placeOf_23 : decode cX8_placeOf 23 = .ok (.iload_n 3, 1) := by decide +kernel
theorem dX8_placeOf_24 : decode cX8_placeOf 24 = .ok (.iload_n 2, 1) := by decide +kernel
theorem dX8_placeOf_25 : decode cX8_placeOf 25 = .ok (.invokevirtual 66, 3) := by decide +kernel
theorem dX8_placeOf_28 : decode cX8_placeOf 28 = .ok (.iload_n 1, 1) := by decide +kernel
theorem dX8_placeOf_29 : decode cX8_placeOf 29 = .ok (.if_icmp .gt 9, 3) := by decide +kernel
theorem dX8_placeOf_32 : decode cX8_placeOf 32 = .ok (.iinc 3 1, 3) := by decide +kernel
theorem dX8_placeOf_35 : decode cX8_placeOf 35 = .ok (.goto (-21), 3) := by decide +kernel
theorem dX8_placeOf_38 : decode cX8_placeOf 38 = .ok (.iload_n 3, 1) := by decide +kernel
theorem dX8_placeOf_39 : decode cX8_placeOf 39 = .ok (.ireturn, 1) := by decide +kernel
theorem dX8_isThrough_0 : decode cX8_isThrough 0 = .ok (.aload_n 0, 1) := by decide +kernel
theorem dX8_isThrough_1 : decode cX8_isThrough 1 = .ok (.iload_n 1, 1) := by decide +kernel
theorem dX8_isThrough_2 : decode cX8_isThrough 2 = .ok (.iload_n 2, 1) := by decide +kernel
theorem dX8_isThrough_3 : decode cX8_isThrough 3 = .ok (.invokevirtual 70, 3) := by decide +kernel
theorem dX8_isThrough_6 : decode cX8_isThrough 6 = .ok (.aload_n 0, 1) := by decide +kernel
theorem dX8_isThrough_7 : decode cX8_isThrough 7 = .ok (.getfield 27, 3) := by decide +kernel
theorem dX8_isThrough_10 : decode cX8_isThrough 10 = .ok (.if_icmp .ne 7, 3) := by decide +kernel
theorem dX8_isThrough_13 : decode cX8_isThrough 13 = .ok (.iconst 1, 1) := by decide +kernel
theorem dX8_isThrough_14 : decode cX8_isThrough 14 = .ok (.goto 4, 3) := by decide +kernel
theorem dX8_isThrough_17 : decode cX8_isThrough 17 = .ok (.iconst 0, 1) := by decide +kernel
theorem dX8_isThrough_18 : decode cX8_isThrough 18 = .ok (.ireturn, 1) := by decide +kernel
theorem dX8_throughBits_0 : decode cX8_throughBits 0 = .ok (.iconst 0, 1) := by decide +kernel
theorem dX8_throughBits_1 : decode cX8_throughBits 1 = .ok (.istore_n 2, 1) := by decide +kernel
theorem dX8_throughBits_2 : decode cX8_throughBits 2 = .ok (.iconst 0, 1) := by decide +kernel
theorem dX8_throughBits_3 : decode cX8_throughBits 3 = .ok (.istore_n 3, 1) := by decide +kernel
theorem dX8_throughBits_4 : decode cX8_throughBits 4 = .ok (.iload_n 3, 1) := by decide +kernel
theorem dX8_throughBits_5 : decode cX8_throughBits 5 = .ok (.aload_n 0, 1) := by decide +kernel
theorem dX8_throughBits_6 : decode cX8_throughBits 6 = .ok (.getfield 31, 3) := by decide +kernel
theorem dX8_throughBits_9 : decode cX8_throughBits 9 = .ok (.if_icmp .ge 24, 3) := by decide +kernel
theorem dX8_throughBits_12 : decode cX8_throughBits 12 = .ok (.aload_n 0, 1) := by decide +kernel
theorem dX8_throughBits_13 : decode cX8_throughBits 13 = .ok (.iload_n 1, 1) := by decide +kernel
theorem dX8_throughBits_14 : decode cX8_throughBits 14 = .ok (.iload_n 3, 1) := by decide +kernel
theorem dX8_throughBits_15 : decode cX8_throughBits 15 = .ok (.invokevirtual 73, 3) := by decide +kernel
theorem dX8_throughBits_18 : decode cX8_throughBits 18 = .ok (.ifCond .eq 9, 3) := by decide +kernel
theorem dX8_throughBits_21 : decode cX8_throughBits 21 = .ok (.iload_n 2, 1) := by decide +kernel
theorem dX8_throughBits_22 : decode cX8_throughBits 22 = .ok (.iconst 1, 1) := by decide +kernel
theorem dX8_throughBits_23 : decode cX8_throughBits 23 = .ok (.iload_n 3, 1) := by decide +kernel
theorem dX8_throughBits_24 : decode cX8_throughBits 24 = .ok (.ishl, 1) := by decide +kernel
theorem dX8_throughBits_25 : decode cX8_throughBits 25 = .ok (.ior, 1) := by decide +kernel
theorem dX8_throughBits_26 : decode cX8_throughBits 26 = .ok (.istore_n 2, 1) := by decide +kernel
theorem dX8_throughBits_27 : decode cX8_throughBits 27 = .ok (.iinc 3 1, 3) := by decide +kernel
theorem dX8_throughBits_30 : decode cX8_throughBits 30 = .ok (.goto (-26), 3) := by decide +kernel
theorem dX8_throughBits_33 : decode cX8_throughBits 33 = .ok (.iload_n 2, 1) := by decide +kernel
theorem dX8_throughBits_34 : decode cX8_throughBits 34 = .ok (.ireturn, 1) := by decide +kernel
theorem dX8_throughCount_0 : decode cX8_throughCount 0 = .ok (.aload_n 0, 1) := by decide +kernel
theorem dX8_throughCount_1 : decode cX8_throughCount 1 = .ok (.bipush 99, 2) := by decide +kernel
theorem dX8_throughCount_3 : decode cX8_throughCount 3 = .ok (.invokevirtual 76, 3) := by decide +kernel
theorem dX8_throughCount_6 : decode cX8_throughCount 6 = .ok (.invokestatic 79, 3) := by decide +kernel
theorem dX8_throughCount_9 : decode cX8_throughCount 9 = .ok (.ireturn, 1) := by decide +kernel
theorem dX8_throughStep_0 : decode cX8_throughStep 0 = .ok (.aload_n 0, 1) := by decide +kernel
theorem dX8_throughStep_1 : decode cX8_throughStep 1 = .ok (.getfield 27, 3) := by decide +kernel
theorem dX8_throughStep_4 : decode cX8_throughStep 4 = .ok (.ifCond .ne 12, 3) := by decide +kernel
theorem dX8_throughStep_7 : decode cX8_throughStep 7 = .ok (.aload_n 0, 1) := by decide +kernel
theorem dX8_throughStep_8 : decode cX8_throughStep 8 = .ok (.getfield 15, 3) := by decide +kernel
theorem dX8_throughStep_11 : decode cX8_throughStep 11 = .ok (.iload_n 1, 1) := by decide +kernel
theorem dX8_throughStep_12 : decode cX8_throughStep 12 = .ok (.iaload, 1) := by decide +kernel
theorem dX8_throughStep_13 : decode cX8_throughStep 13 = .ok (.goto 14, 3) := by decide +kernel
theorem dX8_throughStep_16 : decode cX8_throughStep 16 = .ok (.aload_n 0, 1) := by decide +kernel
theorem dX8_throughStep_17 : decode cX8_throughStep 17 = .ok (.aload_n 0, 1) := by decide +kernel
theorem dX8_throughStep_18 : decode cX8_throughStep 18 = .ok (.getfield 27, 3) := by decide +kernel
theorem dX8_throughStep_21 : decode cX8_throughStep 21 = .ok (.iconst 1, 1) := by decide +kernel
theorem dX8_throughStep_22 : decode cX8_throughStep 22 = .ok (.isub, 1) := by decide +kernel
theorem dX8_throughStep_23 : decode cX8_throughStep 23 = .ok (.iload_n 1, 1) := by decide +kernel
theorem dX8_throughStep_24 : decode cX8_throughStep 24 = .ok (.invokevirtual 66, 3) := by decide +kernel
theorem dX8_throughStep_27 : decode cX8_throughStep 27 = .ok (.ireturn, 1) := by decide +kernel
theorem dX8_waitOf_0 : decode cX8_waitOf 0 = .ok (.aload_n 0, 1) := by decide +kernel
theorem dX8_waitOf_1 : decode cX8_waitOf 1 = .ok (.getfield 27, 3) := by decide +kernel
theorem dX8_waitOf_4 : decode cX8_waitOf 4 = .ok (.ifCond .ne 5, 3) := by decide +kernel
theorem dX8_waitOf_7 : decode cX8_waitOf 7 = .ok (.iconst 0, 1) := by decide +kernel
theorem dX8_waitOf_8 : decode cX8_waitOf 8 = .ok (.ireturn, 1) := by decide +kernel
theorem dX8_waitOf_9 : decode cX8_waitOf 9 = .ok (.aload_n 0, 1) := by decide +kernel
theorem dX8_waitOf_10 : decode cX8_waitOf 10 = .ok (.iload_n 1, 1) := by decide +kernel
theorem dX8_waitOf_11 : decode cX8_waitOf 11 = .ok (.invokevirtual 84, 3) := by decide +kernel
theorem dX8_waitOf_14 : decode cX8_waitOf 14 = .ok (.iconst 1, 1) := by decide +kernel
theorem dX8_waitOf_15 : decode cX8_waitOf 15 = .ok (.iadd, 1) := by decide +kernel
theorem dX8_waitOf_16 : decode cX8_waitOf 16 = .ok (.bipush 100, 2) := by decide +kernel
theorem dX8_waitOf_18 : decode cX8_waitOf 18 = .ok (.invokestatic 87, 3) := by decide +kernel
theorem dX8_waitOf_21 : decode cX8_waitOf 21 = .ok (.istore_n 2, 1) := by decide +kernel
theorem dX8_waitOf_22 : decode cX8_waitOf 22 = .ok (.iload_n 2, 1) := by decide +kernel
