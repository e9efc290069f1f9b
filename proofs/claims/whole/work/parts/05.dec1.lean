theorem d_S_init_0 : decode c_S_init 0 = .ok (.aload_n 0, 1) := by decide +kernel
theorem d_S_init_1 : decode c_S_init 1 = .ok (.invokespecial 1, 3) := by decide +kernel
theorem d_S_init_4 : decode c_S_init 4 = .ok (.aload_n 0, 1) := by decide +kernel
theorem d_S_init_5 : decode c_S_init 5 = .ok (.iload_n 1, 1) := by decide +kernel
theorem d_S_init_6 : decode c_S_init 6 = .ok (.iconst 1, 1) := by decide +kernel
theorem d_S_init_7 : decode c_S_init 7 = .ok (.if_icmp .lt 14, 3) := by decide +kernel
theorem d_S_init_10 : decode c_S_init 10 = .ok (.iload_n 1, 1) := by decide +kernel
theorem d_S_init_11 : decode c_S_init 11 = .ok (.sipush 1024, 3) := by decide +kernel
theorem d_S_init_14 : decode c_S_init 14 = .ok (.if_icmp .gt 7, 3) := by decide +kernel
theorem d_S_init_17 : decode c_S_init 17 = .ok (.iload_n 1, 1) := by decide +kernel
theorem d_S_init_18 : decode c_S_init 18 = .ok (.goto 6, 3) := by decide +kernel
theorem d_S_init_21 : decode c_S_init 21 = .ok (.sipush 1024, 3) := by decide +kernel
theorem d_S_init_24 : decode c_S_init 24 = .ok (.putfield 9, 3) := by decide +kernel
theorem d_S_init_27 : decode c_S_init 27 = .ok (.aload_n 0, 1) := by decide +kernel
theorem d_S_init_28 : decode c_S_init 28 = .ok (.aload_n 0, 1) := by decide +kernel
theorem d_S_init_29 : decode c_S_init 29 = .ok (.getfield 9, 3) := by decide +kernel
theorem d_S_init_32 : decode c_S_init 32 = .ok (.anewarray 13, 3) := by decide +kernel
theorem d_S_init_35 : decode c_S_init 35 = .ok (.putfield 15, 3) := by decide +kernel
theorem d_S_init_38 : decode c_S_init 38 = .ok (.aload_n 0, 1) := by decide +kernel
theorem d_S_init_39 : decode c_S_init 39 = .ok (.iconst 4, 1) := by decide +kernel
theorem d_S_init_40 : decode c_S_init 40 = .ok (.newarray .long, 2) := by decide +kernel
theorem d_S_init_42 : decode c_S_init 42 = .ok (.putfield 19, 3) := by decide +kernel
theorem d_S_init_45 : decode c_S_init 45 = .ok (.aload_n 0, 1) := by decide +kernel
theorem d_S_init_46 : decode c_S_init 46 = .ok (.iconst 4, 1) := by decide +kernel
theorem d_S_init_47 : decode c_S_init 47 = .ok (.newarray .int, 2) := by decide +kernel
theorem d_S_init_49 : decode c_S_init 49 = .ok (.putfield 23, 3) := by decide +kernel
theorem d_S_init_52 : decode c_S_init 52 = .ok (.return_, 1) := by decide +kernel
theorem d_S_pages_0 : decode c_S_pages 0 = .ok (.aload_n 0, 1) := by decide +kernel
theorem d_S_pages_1 : decode c_S_pages 1 = .ok (.getfield 9, 3) := by decide +kernel
theorem d_S_pages_4 : decode c_S_pages 4 = .ok (.ireturn, 1) := by decide +kernel
theorem d_S_used_0 : decode c_S_used 0 = .ok (.iconst 0, 1) := by decide +kernel
theorem d_S_used_1 : decode c_S_used 1 = .ok (.istore_n 1, 1) := by decide +kernel
theorem d_S_used_2 : decode c_S_used 2 = .ok (.iconst 0, 1) := by decide +kernel
theorem d_S_used_3 : decode c_S_used 3 = .ok (.istore_n 2, 1) := by decide +kernel
theorem d_S_used_4 : decode c_S_used 4 = .ok (.iload_n 2, 1) := by decide +kernel
theorem d_S_used_5 : decode c_S_used 5 = .ok (.aload_n 0, 1) := by decide +kernel
theorem d_S_used_6 : decode c_S_used 6 = .ok (.getfield 9, 3) := by decide +kernel
theorem d_S_used_9 : decode c_S_used 9 = .ok (.if_icmp .ge 30, 3) := by decide +kernel
theorem d_S_used_12 : decode c_S_used 12 = .ok (.aload_n 0, 1) := by decide +kernel
theorem d_S_used_13 : decode c_S_used 13 = .ok (.getfield 15, 3) := by decide +kernel
theorem d_S_used_16 : decode c_S_used 16 = .ok (.iload_n 2, 1) := by decide +kernel
theorem d_S_used_17 : decode c_S_used 17 = .ok (.aaload, 1) := by decide +kernel
theorem d_S_used_18 : decode c_S_used 18 = .ok (.astore_n 3, 1) := by decide +kernel
theorem d_S_used_19 : decode c_S_used 19 = .ok (.aload_n 3, 1) := by decide +kernel
theorem d_S_used_20 : decode c_S_used 20 = .ok (.ifnull 13, 3) := by decide +kernel
theorem d_S_used_23 : decode c_S_used 23 = .ok (.aload_n 3, 1) := by decide +kernel
theorem d_S_used_24 : decode c_S_used 24 = .ok (.invokevirtual 115, 3) := by decide +kernel
theorem d_S_used_27 : decode c_S_used 27 = .ok (.ifCond .ne 6, 3) := by decide +kernel
theorem d_S_used_30 : decode c_S_used 30 = .ok (.iinc 1 1, 3) := by decide +kernel
theorem d_S_used_33 : decode c_S_used 33 = .ok (.iinc 2 1, 3) := by decide +kernel
theorem d_S_used_36 : decode c_S_used 36 = .ok (.goto (-32), 3) := by decide +kernel
theorem d_S_used_39 : decode c_S_used 39 = .ok (.iload_n 1, 1) := by decide +kernel
theorem d_S_used_40 : decode c_S_used 40 = .ok (.ireturn, 1) := by decide +kernel
theorem d_P_isBlank_0 : decode c_P_isBlank 0 = .ok (.aload_n 0, 1) := by decide +kernel
theorem d_P_isBlank_1 : decode c_P_isBlank 1 = .ok (.getfield 19, 3) := by decide +kernel
theorem d_P_isBlank_4 : decode c_P_isBlank 4 = .ok (.ifCond .ne 7, 3) := by decide +kernel
theorem d_P_isBlank_7 : decode c_P_isBlank 7 = .ok (.iconst 1, 1) := by decide +kernel
theorem d_P_isBlank_8 : decode c_P_isBlank 8 = .ok (.goto 4, 3) := by decide +kernel
theorem d_P_isBlank_11 : decode c_P_isBlank 11 = .ok (.iconst 0, 1) := by decide +kernel
theorem d_P_isBlank_12 : decode c_P_isBlank 12 = .ok (.ireturn, 1) := by decide +kernel
theorem d_S_load_0 : decode c_S_load 0 = .ok (.iload_n 3, 1) := by decide +kernel
theorem d_S_load_1 : decode c_S_load 1 = .ok (.invokestatic 27, 3) := by decide +kernel
theorem d_S_load_4 : decode c_S_load 4 = .ok (.ifCond .ne 13, 3) := by decide +kernel
theorem d_S_load_7 : decode c_S_load 7 = .ok (.new 31, 3) := by decide +kernel
theorem d_S_load_10 : decode c_S_load 10 = .ok (.dup, 1) := by decide +kernel
theorem d_S_load_11 : decode c_S_load 11 = .ok (.ldc 33, 2) := by decide +kernel
theorem d_S_load_13 : decode c_S_load 13 = .ok (.invokespecial 35, 3) := by decide +kernel
theorem d_S_load_16 : decode c_S_load 16 = .ok (.athrow, 1) := by decide +kernel
theorem d_S_load_17 : decode c_S_load 17 = .ok (.aload_n 0, 1) := by decide +kernel
theorem d_S_load_18 : decode c_S_load 18 = .ok (.lload_n 1, 1) := by decide +kernel
theorem d_S_load_19 : decode c_S_load 19 = .ok (.iload_n 3, 1) := by decide +kernel
theorem d_S_load_20 : decode c_S_load 20 = .ok (.invokevirtual 38, 3) := by decide +kernel
theorem d_S_load_23 : decode c_S_load 23 = .ok (.ifCond .ne 13, 3) := by decide +kernel
theorem d_S_load_26 : decode c_S_load 26 = .ok (.new 42, 3) := by decide +kernel
theorem d_S_load_29 : decode c_S_load 29 = .ok (.dup, 1) := by decide +kernel
theorem d_S_load_30 : decode c_S_load 30 = .ok (.ldc 44, 2) := by decide +kernel
theorem d_S_load_32 : decode c_S_load 32 = .ok (.invokespecial 46, 3) := by decide +kernel
theorem d_S_load_35 : decode c_S_load 35 = .ok (.athrow, 1) := by decide +kernel
theorem d_S_load_36 : decode c_S_load 36 = .ok (.aload_n 0, 1) := by decide +kernel
theorem d_S_load_37 : decode c_S_load 37 = .ok (.lload_n 1, 1) := by decide +kernel
theorem d_S_load_38 : decode c_S_load 38 = .ok (.invokestatic 47, 3) := by decide +kernel
theorem d_S_load_41 : decode c_S_load 41 = .ok (.iload_n 3, 1) := by decide +kernel
theorem d_S_load_42 : decode c_S_load 42 = .ok (.invokevirtual 51, 3) := by decide +kernel
theorem d_S_load_45 : decode c_S_load 45 = .ok (.lreturn, 1) := by decide +kernel
theorem d_S_isSize_0 : decode c_S_isSize 0 = .ok (.iload_n 0, 1) := by decide +kernel
theorem d_S_isSize_1 : decode c_S_isSize 1 = .ok (.iconst 1, 1) := by decide +kernel
theorem d_S_isSize_2 : decode c_S_isSize 2 = .ok (.if_icmp .eq 19, 3) := by decide +kernel
theorem d_S_isSize_5 : decode c_S_isSize 5 = .ok (.iload_n 0, 1) := by decide +kernel
theorem d_S_isSize_6 : decode c_S_isSize 6 = .ok (.iconst 2, 1) := by decide +kernel
theorem d_S_isSize_7 : decode c_S_isSize 7 = .ok (.if_icmp .eq 14, 3) := by decide +kernel
theorem d_S_isSize_10 : decode c_S_isSize 10 = .ok (.iload_n 0, 1) := by decide +kernel
theorem d_S_isSize_11 : decode c_S_isSize 11 = .ok (.iconst 4, 1) := by decide +kernel
theorem d_S_isSize_12 : decode c_S_isSize 12 = .ok (.if_icmp .eq 9, 3) := by decide +kernel
theorem d_S_isSize_15 : decode c_S_isSize 15 = .ok (.iload_n 0, 1) := by decide +kernel
theorem d_S_isSize_16 : decode c_S_isSize 16 = .ok (.bipush 8, 2) := by decide +kernel
theorem d_S_isSize_18 : decode c_S_isSize 18 = .ok (.if_icmp .ne 7, 3) := by decide +kernel
theorem d_S_isSize_21 : decode c_S_isSize 21 = .ok (.iconst 1, 1) := by decide +kernel
theorem d_S_isSize_22 : decode c_S_isSize 22 = .ok (.goto 4, 3) := by decide +kernel
theorem d_S_isSize_25 : decode c_S_isSize 25 = .ok (.iconst 0, 1) := by decide +kernel
theorem d_S_isSize_26 : decode c_S_isSize 26 = .ok (.ireturn, 1) := by decide +kernel
theorem d_S_isInMemory_0 : decode c_S_isInMemory 0 = .ok (.lload_n 1, 1) := by decide +kernel
theorem d_S_isInMemory_1 : decode c_S_isInMemory 1 = .ok (.ldc2_w 61, 3) := by decide +kernel
theorem d_S_isInMemory_4 : decode c_S_isInMemory 4 = .ok (.lcmp, 1) := by decide +kernel
theorem d_S_isInMemory_5 : decode c_S_isInMemory 5 = .ok (.ifCond .lt 19, 3) := by decide +kernel
theorem d_S_isInMemory_8 : decode c_S_isInMemory 8 = .ok (.lload_n 1, 1) := by decide +kernel
theorem d_S_isInMemory_9 : decode c_S_isInMemory 9 = .ok (.aload_n 0, 1) := by decide +kernel
theorem d_S_isInMemory_10 : decode c_S_isInMemory 10 = .ok (.invokevirtual 63, 3) := by decide +kernel
theorem d_S_isInMemory_13 : decode c_S_isInMemory 13 = .ok (.iload_n 3, 1) := by decide +kernel
theorem d_S_isInMemory_14 : decode c_S_isInMemory 14 = .ok (.i2l, 1) := by decide +kernel
theorem d_S_isInMemory_15 : decode c_S_isInMemory 15 = .ok (.lsub, 1) := by decide +kernel
theorem d_S_isInMemory_16 : decode c_S_isInMemory 16 = .ok (.lcmp, 1) := by decide +kernel
theorem d_S_isInMemory_17 : decode c_S_isInMemory 17 = .ok (.ifCond .gt 7, 3) := by decide +kernel
theorem d_S_isInMemory_20 : decode c_S_isInMemory 20 = .ok (.iconst 1, 1) := by decide +kernel
theorem d_S_isInMemory_21 : decode c_S_isInMemory 21 = .ok (.goto 4, 3) := by decide +kernel
theorem d_S_isInMemory_24 : decode c_S_isInMemory 24 = .ok (.iconst 0, 1) := by decide +kernel
theorem d_S_isInMemory_25 : decode c_S_isInMemory 25 = .ok (.ireturn, 1) := by decide +kernel
theorem d_S_endAddress_0 : decode c_S_endAddress 0 = .ok (.ldc2_w 61, 3) := by decide +kernel
theorem d_S_endAddress_3 : decode c_S_endAddress 3 = .ok (.aload_n 0, 1) := by decide +kernel
theorem d_S_endAddress_4 : decode c_S_endAddress 4 = .ok (.getfield 9, 3) := by decide +kernel
theorem d_S_endAddress_7 : decode c_S_endAddress 7 = .ok (.i2l, 1) := by decide +kernel
theorem d_S_endAddress_8 : decode c_S_endAddress 8 = .ok (.ldc2_w 119, 3) := by decide +kernel
theorem d_S_endAddress_11 : decode c_S_endAddress 11 = .ok (.lmul, 1) := by decide +kernel
theorem d_S_endAddress_12 : decode c_S_endAddress 12 = .ok (.ladd, 1) := by decide +kernel
theorem d_S_endAddress_13 : decode c_S_endAddress 13 = .ok (.lreturn, 1) := by decide +kernel
theorem d_S_placeOf_0 : decode c_S_placeOf 0 = .ok (.lload_n 0, 1) := by decide +kernel
theorem d_S_placeOf_1 : decode c_S_placeOf 1 = .ok (.ldc2_w 61, 3) := by decide +kernel
theorem d_S_placeOf_4 : decode c_S_placeOf 4 = .ok (.lsub, 1) := by decide +kernel
theorem d_S_placeOf_5 : decode c_S_placeOf 5 = .ok (.l2i, 1) := by decide +kernel
theorem d_S_placeOf_6 : decode c_S_placeOf 6 = .ok (.ireturn, 1) := by decide +kernel
theorem d_S_numberAt_0 : decode c_S_numberAt 0 = .ok (.iload_n 1, 1) := by decide +kernel
theorem d_S_numberAt_1 : decode c_S_numberAt 1 = .ok (.iconst 3, 1) := by decide +kernel
theorem d_S_numberAt_2 : decode c_S_numberAt 2 = .ok (.ishr, 1) := by decide +kernel
theorem d_S_numberAt_3 : decode c_S_numberAt 3 = .ok (.istore_n 3, 1) := by decide +kernel
theorem d_S_numberAt_4 : decode c_S_numberAt 4 = .ok (.iload_n 1, 1) := by decide +kernel
theorem d_S_numberAt_5 : decode c_S_numberAt 5 = .ok (.invokestatic 136, 3) := by decide +kernel
theorem d_S_numberAt_8 : decode c_S_numberAt 8 = .ok (.istore 4, 2) := by decide +kernel
theorem d_S_numberAt_10 : decode c_S_numberAt 10 = .ok (.aload_n 0, 1) := by decide +kernel
theorem d_S_numberAt_11 : decode c_S_numberAt 11 = .ok (.iload_n 3, 1) := by decide +kernel
theorem d_S_numberAt_12 : decode c_S_numberAt 12 = .ok (.invokevirtual 140, 3) := by decide +kernel
theorem d_S_numberAt_15 : decode c_S_numberAt 15 = .ok (.iload 4, 2) := by decide +kernel
theorem d_S_numberAt_17 : decode c_S_numberAt 17 = .ok (.lushr, 1) := by decide +kernel
theorem d_S_numberAt_18 : decode c_S_numberAt 18 = .ok (.lstore 5, 2) := by decide +kernel
theorem d_S_numberAt_20 : decode c_S_numberAt 20 = .ok (.iload 4, 2) := by decide +kernel
theorem d_S_numberAt_22 : decode c_S_numberAt 22 = .ok (.bipush 8, 2) := by decide +kernel
theorem d_S_numberAt_24 : decode c_S_numberAt 24 = .ok (.iload_n 2, 1) := by decide +kernel
theorem d_S_numberAt_25 : decode c_S_numberAt 25 = .ok (.imul, 1) := by decide +kernel
theorem d_S_numberAt_26 : decode c_S_numberAt 26 = .ok (.iadd, 1) := by decide +kernel
theorem d_S_numberAt_27 : decode c_S_numberAt 27 = .ok (.bipush 64, 2) := by decide +kernel
theorem d_S_numberAt_29 : decode c_S_numberAt 29 = .ok (.if_icmp .le 21, 3) := by decide +kernel
theorem d_S_numberAt_32 : decode c_S_numberAt 32 = .ok (.lload 5, 2) := by decide +kernel
theorem d_S_numberAt_34 : decode c_S_numberAt 34 = .ok (.aload_n 0, 1) := by decide +kernel
theorem d_S_numberAt_35 : decode c_S_numberAt 35 = .ok (.iload_n 3, 1) := by decide +kernel
theorem d_S_numberAt_36 : decode c_S_numberAt 36 = .ok (.iconst 1, 1) := by decide +kernel
theorem d_S_numberAt_37 : decode c_S_numberAt 37 = .ok (.iadd, 1) := by decide +kernel
theorem d_S_numberAt_38 : decode c_S_numberAt 38 = .ok (.invokevirtual 140, 3) := by decide +kernel
theorem d_S_numberAt_41 : decode c_S_numberAt 41 = .ok (.bipush 64, 2) := by decide +kernel
theorem d_S_numberAt_43 : decode c_S_numberAt 43 = .ok (.iload 4, 2) := by decide +kernel
theorem d_S_numberAt_45 : decode c_S_numberAt 45 = .ok (.isub, 1) := by decide +kernel
theorem d_S_numberAt_46 : decode c_S_numberAt 46 = .ok (.lshl, 1) := by decide +kernel
theorem d_S_numberAt_47 : decode c_S_numberAt 47 = .ok (.lor, 1) := by decide +kernel
theorem d_S_numberAt_48 : decode c_S_numberAt 48 = .ok (.lstore 5, 2) := by decide +kernel
theorem d_S_numberAt_50 : decode c_S_numberAt 50 = .ok (.lload 5, 2) := by decide +kernel
theorem d_S_numberAt_52 : decode c_S_numberAt 52 = .ok (.iload_n 2, 1) := by decide +kernel
theorem d_S_numberAt_53 : decode c_S_numberAt 53 = .ok (.invokestatic 141, 3) := by decide +kernel
theorem d_S_numberAt_56 : decode c_S_numberAt 56 = .ok (.land, 1) := by decide +kernel
theorem d_S_numberAt_57 : decode c_S_numberAt 57 = .ok (.lreturn, 1) := by decide +kernel
theorem d_S_shiftInWord_0 : decode c_S_shiftInWord 0 = .ok (.iload_n 0, 1) := by decide +kernel
theorem d_S_shiftInWord_1 : decode c_S_shiftInWord 1 = .ok (.bipush 7, 2) := by decide +kernel
theorem d_S_shiftInWord_3 : decode c_S_shiftInWord 3 = .ok (.iand, 1) := by decide +kernel
theorem d_S_shiftInWord_4 : decode c_S_shiftInWord 4 = .ok (.bipush 8, 2) := by decide +kernel
theorem d_S_shiftInWord_6 : decode c_S_shiftInWord 6 = .ok (.imul, 1) := by decide +kernel
theorem d_S_shiftInWord_7 : decode c_S_shiftInWord 7 = .ok (.ireturn, 1) := by decide +kernel
theorem d_S_wordAt_0 : decode c_S_wordAt 0 = .ok (.aload_n 0, 1) := by decide +kernel
theorem d_S_wordAt_1 : decode c_S_wordAt 1 = .ok (.getfield 15, 3) := by decide +kernel
theorem d_S_wordAt_4 : decode c_S_wordAt 4 = .ok (.iload_n 1, 1) := by decide +kernel
theorem d_S_wordAt_5 : decode c_S_wordAt 5 = .ok (.bipush 9, 2) := by decide +kernel
theorem d_S_wordAt_7 : decode c_S_wordAt 7 = .ok (.ishr, 1) := by decide +kernel
theorem d_S_wordAt_8 : decode c_S_wordAt 8 = .ok (.aaload, 1) := by decide +kernel
theorem d_S_wordAt_9 : decode c_S_wordAt 9 = .ok (.astore_n 2, 1) := by decide +kernel
theorem d_S_wordAt_10 : decode c_S_wordAt 10 = .ok (.aload_n 2, 1) := by decide +kernel
theorem d_S_wordAt_11 : decode c_S_wordAt 11 = .ok (.ifnonnull 7, 3) := by decide +kernel
theorem d_S_wordAt_14 : decode c_S_wordAt 14 = .ok (.lconst 0, 1) := by decide +kernel
theorem d_S_wordAt_15 : decode c_S_wordAt 15 = .ok (.goto 12, 3) := by decide +kernel
theorem d_S_wordAt_18 : decode c_S_wordAt 18 = .ok (.aload_n 2, 1) := by decide +kernel
theorem d_S_wordAt_19 : decode c_S_wordAt 19 = .ok (.iload_n 1, 1) := by decide +kernel
theorem d_S_wordAt_20 : decode c_S_wordAt 20 = .ok (.sipush 511, 3) := by decide +kernel
theorem d_S_wordAt_23 : decode c_S_wordAt 23 = .ok (.iand, 1) := by decide +kernel
theorem d_S_wordAt_24 : decode c_S_wordAt 24 = .ok (.invokevirtual 123, 3) := by decide +kernel
theorem d_S_wordAt_27 : decode c_S_wordAt 27 = .ok (.lreturn, 1) := by decide +kernel
theorem d_P_wordAt_0 : decode c_P_wordAt 0 = .ok (.aload_n 0, 1) := by decide +kernel
theorem d_P_wordAt_1 : decode c_P_wordAt 1 = .ok (.getfield 9, 3) := by decide +kernel
theorem d_P_wordAt_4 : decode c_P_wordAt 4 = .ok (.ifCond .ne 10, 3) := by decide +kernel
theorem d_P_wordAt_7 : decode c_P_wordAt 7 = .ok (.aload_n 0, 1) := by decide +kernel
theorem d_P_wordAt_8 : decode c_P_wordAt 8 = .ok (.getfield 23, 3) := by decide +kernel
theorem d_P_wordAt_11 : decode c_P_wordAt 11 = .ok (.ifnonnull 10, 3) := by decide +kernel
theorem d_P_wordAt_14 : decode c_P_wordAt 14 = .ok (.aload_n 0, 1) := by decide +kernel
theorem d_P_wordAt_15 : decode c_P_wordAt 15 = .ok (.getfield 27, 3) := by decide +kernel
theorem d_P_wordAt_18 : decode c_P_wordAt 18 = .ok (.goto 9, 3) := by decide +kernel
theorem d_P_wordAt_21 : decode c_P_wordAt 21 = .ok (.aload_n 0, 1) := by decide +kernel
theorem d_P_wordAt_22 : decode c_P_wordAt 22 = .ok (.getfield 23, 3) := by decide +kernel
theorem d_P_wordAt_25 : decode c_P_wordAt 25 = .ok (.iload_n 1, 1) := by decide +kernel
theorem d_P_wordAt_26 : decode c_P_wordAt 26 = .ok (.laload, 1) := by decide +kernel
theorem d_P_wordAt_27 : decode c_P_wordAt 27 = .ok (.lreturn, 1) := by decide +kernel
theorem d_S_lowestBytes_0 : decode c_S_lowestBytes 0 = .ok (.ldc2_w 121, 3) := by decide +kernel
theorem d_S_lowestBytes_3 : decode c_S_lowestBytes 3 = .ok (.bipush 64, 2) := by decide +kernel
theorem d_S_lowestBytes_5 : decode c_S_lowestBytes 5 = .ok (.bipush 8, 2) := by decide +kernel
theorem d_S_lowestBytes_7 : decode c_S_lowestBytes 7 = .ok (.iload_n 0, 1) := by decide +kernel
theorem d_S_lowestBytes_8 : decode c_S_lowestBytes 8 = .ok (.imul, 1) := by decide +kernel
theorem d_S_lowestBytes_9 : decode c_S_lowestBytes 9 = .ok (.isub, 1) := by decide +kernel
theorem d_S_lowestBytes_10 : decode c_S_lowestBytes 10 = .ok (.lushr, 1) := by decide +kernel
theorem d_S_lowestBytes_11 : decode c_S_lowestBytes 11 = .ok (.lreturn, 1) := by decide +kernel
theorem d_S_store_0 : decode c_S_store 0 = .ok (.iload_n 3, 1) := by decide +kernel
theorem d_S_store_1 : decode c_S_store 1 = .ok (.invokestatic 27, 3) := by decide +kernel
theorem d_S_store_4 : decode c_S_store 4 = .ok (.ifCond .ne 13, 3) := by decide +kernel
theorem d_S_store_7 : decode c_S_store 7 = .ok (.new 31, 3) := by decide +kernel
theorem d_S_store_10 : decode c_S_store 10 = .ok (.dup, 1) := by decide +kernel
theorem d_S_store_11 : decode c_S_store 11 = .ok (.ldc 33, 2) := by decide +kernel
theorem d_S_store_13 : decode c_S_store 13 = .ok (.invokespecial 35, 3) := by decide +kernel
theorem d_S_store_16 : decode c_S_store 16 = .ok (.athrow, 1) := by decide +kernel
theorem d_S_store_17 : decode c_S_store 17 = .ok (.aload_n 0, 1) := by decide +kernel
theorem d_S_store_18 : decode c_S_store 18 = .ok (.lload_n 1, 1) := by decide +kernel
theorem d_S_store_19 : decode c_S_store 19 = .ok (.iload_n 3, 1) := by decide +kernel
theorem d_S_store_20 : decode c_S_store 20 = .ok (.invokevirtual 38, 3) := by decide +kernel
theorem d_S_store_23 : decode c_S_store 23 = .ok (.ifCond .ne 13, 3) := by decide +kernel
theorem d_S_store_26 : decode c_S_store 26 = .ok (.new 42, 3) := by decide +kernel
theorem d_S_store_29 : decode c_S_store 29 = .ok (.dup, 1) := by decide +kernel
theorem d_S_store_30 : decode c_S_store 30 = .ok (.ldc 44, 2) := by decide +kernel
theorem d_S_store_32 : decode c_S_store 32 = .ok (.invokespecial 46, 3) := by decide +kernel
theorem d_S_store_35 : decode c_S_store 35 = .ok (.athrow, 1) := by decide +kernel
theorem d_S_store_36 : decode c_S_store 36 = .ok (.aload_n 0, 1) := by decide +kernel
theorem d_S_store_37 : decode c_S_store 37 = .ok (.lload_n 1, 1) := by decide +kernel
theorem d_S_store_38 : decode c_S_store 38 = .ok (.invokestatic 47, 3) := by decide +kernel
theorem d_S_store_41 : decode c_S_store 41 = .ok (.iload_n 3, 1) := by decide +kernel
theorem d_S_store_42 : decode c_S_store 42 = .ok (.lload 4, 2) := by decide +kernel
theorem d_S_store_44 : decode c_S_store 44 = .ok (.invokevirtual 55, 3) := by decide +kernel
theorem d_S_store_47 : decode c_S_store 47 = .ok (.return_, 1) := by decide +kernel
theorem d_S_putNumber_0 : decode c_S_putNumber 0 = .ok (.iload_n 1, 1) := by decide +kernel
theorem d_S_putNumber_1 : decode c_S_putNumber 1 = .ok (.iconst 3, 1) := by decide +kernel
theorem d_S_putNumber_2 : decode c_S_putNumber 2 = .ok (.ishr, 1) := by decide +kernel
theorem d_S_putNumber_3 : decode c_S_putNumber 3 = .ok (.istore 5, 2) := by decide +kernel
theorem d_S_putNumber_5 : decode c_S_putNumber 5 = .ok (.iload_n 1, 1) := by decide +kernel
theorem d_S_putNumber_6 : decode c_S_putNumber 6 = .ok (.invokestatic 136, 3) := by decide +kernel
theorem d_S_putNumber_9 : decode c_S_putNumber 9 = .ok (.istore 6, 2) := by decide +kernel
theorem d_S_putNumber_11 : decode c_S_putNumber 11 = .ok (.iload_n 2, 1) := by decide +kernel
theorem d_S_putNumber_12 : decode c_S_putNumber 12 = .ok (.invokestatic 141, 3) := by decide +kernel
theorem d_S_putNumber_15 : decode c_S_putNumber 15 = .ok (.lstore 7, 2) := by decide +kernel
theorem d_S_putNumber_17 : decode c_S_putNumber 17 = .ok (.aload_n 0, 1) := by decide +kernel
theorem d_S_putNumber_18 : decode c_S_putNumber 18 = .ok (.iload 5, 2) := by decide +kernel
theorem d_S_putNumber_20 : decode c_S_putNumber 20 = .ok (.lload 7, 2) := by decide +kernel
theorem d_S_putNumber_22 : decode c_S_putNumber 22 = .ok (.iload 6, 2) := by decide +kernel
theorem d_S_putNumber_24 : decode c_S_putNumber 24 = .ok (.lshl, 1) := by decide +kernel
theorem d_S_putNumber_25 : decode c_S_putNumber 25 = .ok (.lload_n 3, 1) := by decide +kernel
theorem d_S_putNumber_26 : decode c_S_putNumber 26 = .ok (.iload 6, 2) := by decide +kernel
theorem d_S_putNumber_28 : decode c_S_putNumber 28 = .ok (.lshl, 1) := by decide +kernel
theorem d_S_putNumber_29 : decode c_S_putNumber 29 = .ok (.invokevirtual 144, 3) := by decide +kernel
theorem d_S_putNumber_32 : decode c_S_putNumber 32 = .ok (.iload 6, 2) := by decide +kernel
theorem d_S_putNumber_34 : decode c_S_putNumber 34 = .ok (.bipush 8, 2) := by decide +kernel
theorem d_S_putNumber_36 : decode c_S_putNumber 36 = .ok (.iload_n 2, 1) := by decide +kernel
theorem d_S_putNumber_37 : decode c_S_putNumber 37 = .ok (.imul, 1) := by decide +kernel
theorem d_S_putNumber_38 : decode c_S_putNumber 38 = .ok (.iadd, 1) := by decide +kernel
theorem d_S_putNumber_39 : decode c_S_putNumber 39 = .ok (.bipush 64, 2) := by decide +kernel
theorem d_S_putNumber_41 : decode c_S_putNumber 41 = .ok (.if_icmp .le 26, 3) := by decide +kernel
theorem d_S_putNumber_44 : decode c_S_putNumber 44 = .ok (.aload_n 0, 1) := by decide +kernel
theorem d_S_putNumber_45 : decode c_S_putNumber 45 = .ok (.iload 5, 2) := by decide +kernel
theorem d_S_putNumber_47 : decode c_S_putNumber 47 = .ok (.iconst 1, 1) := by decide +kernel
theorem d_S_putNumber_48 : decode c_S_putNumber 48 = .ok (.iadd, 1) := by decide +kernel
theorem d_S_putNumber_49 : decode c_S_putNumber 49 = .ok (.lload 7, 2) := by decide +kernel
theorem d_S_putNumber_51 : decode c_S_putNumber 51 = .ok (.bipush 64, 2) := by decide +kernel
theorem d_S_putNumber_53 : decode c_S_putNumber 53 = .ok (.iload 6, 2) := by decide +kernel
theorem d_S_putNumber_55 : decode c_S_putNumber 55 = .ok (.isub, 1) := by decide +kernel
theorem d_S_putNumber_56 : decode c_S_putNumber 56 = .ok (.lushr, 1) := by decide +kernel
theorem d_S_putNumber_57 : decode c_S_putNumber 57 = .ok (.lload_n 3, 1) := by decide +kernel
theorem d_S_putNumber_58 : decode c_S_putNumber 58 = .ok (.bipush 64, 2) := by decide +kernel
theorem d_S_putNumber_60 : decode c_S_putNumber 60 = .ok (.iload 6, 2) := by decide +kernel
theorem d_S_putNumber_62 : decode c_S_putNumber 62 = .ok (.isub, 1) := by decide +kernel
theorem d_S_putNumber_63 : decode c_S_putNumber 63 = .ok (.lushr, 1) := by decide +kernel
theorem d_S_putNumber_64 : decode c_S_putNumber 64 = .ok (.invokevirtual 144, 3) := by decide +kernel
theorem d_S_putNumber_67 : decode c_S_putNumber 67 = .ok (.aload_n 0, 1) := by decide +kernel
theorem d_S_putNumber_68 : decode c_S_putNumber 68 = .ok (.iload_n 1, 1) := by decide +kernel
theorem d_S_putNumber_69 : decode c_S_putNumber 69 = .ok (.iload_n 1, 1) := by decide +kernel
theorem d_S_putNumber_70 : decode c_S_putNumber 70 = .ok (.iload_n 2, 1) := by decide +kernel
theorem d_S_putNumber_71 : decode c_S_putNumber 71 = .ok (.iadd, 1) := by decide +kernel
theorem d_S_putNumber_72 : decode c_S_putNumber 72 = .ok (.iconst 1, 1) := by decide +kernel
theorem d_S_putNumber_73 : decode c_S_putNumber 73 = .ok (.isub, 1) := by decide +kernel
theorem d_S_putNumber_74 : decode c_S_putNumber 74 = .ok (.invokevirtual 147, 3) := by decide +kernel
theorem d_S_putNumber_77 : decode c_S_putNumber 77 = .ok (.return_, 1) := by decide +kernel
theorem d_S_mergeWord_0 : decode c_S_mergeWord 0 = .ok (.aload_n 0, 1) := by decide +kernel
theorem d_S_mergeWord_1 : decode c_S_mergeWord 1 = .ok (.iload_n 1, 1) := by decide +kernel
theorem d_S_mergeWord_2 : decode c_S_mergeWord 2 = .ok (.bipush 9, 2) := by decide +kernel
theorem d_S_mergeWord_4 : decode c_S_mergeWord 4 = .ok (.ishr, 1) := by decide +kernel
theorem d_S_mergeWord_5 : decode c_S_mergeWord 5 = .ok (.invokevirtual 127, 3) := by decide +kernel
theorem d_S_mergeWord_8 : decode c_S_mergeWord 8 = .ok (.iload_n 1, 1) := by decide +kernel
theorem d_S_mergeWord_9 : decode c_S_mergeWord 9 = .ok (.sipush 511, 3) := by decide +kernel
theorem d_S_mergeWord_12 : decode c_S_mergeWord 12 = .ok (.iand, 1) := by decide +kernel
theorem d_S_mergeWord_13 : decode c_S_mergeWord 13 = .ok (.lload_n 2, 1) := by decide +kernel
theorem d_S_mergeWord_14 : decode c_S_mergeWord 14 = .ok (.lload 4, 2) := by decide +kernel
theorem d_S_mergeWord_16 : decode c_S_mergeWord 16 = .ok (.invokevirtual 131, 3) := by decide +kernel
theorem d_S_mergeWord_19 : decode c_S_mergeWord 19 = .ok (.return_, 1) := by decide +kernel
theorem d_S_pageToWrite_0 : decode c_S_pageToWrite 0 = .ok (.aload_n 0, 1) := by decide +kernel
theorem d_S_pageToWrite_1 : decode c_S_pageToWrite 1 = .ok (.getfield 15, 3) := by decide +kernel
theorem d_S_pageToWrite_4 : decode c_S_pageToWrite 4 = .ok (.iload_n 1, 1) := by decide +kernel
theorem d_S_pageToWrite_5 : decode c_S_pageToWrite 5 = .ok (.aaload, 1) := by decide +kernel
theorem d_S_pageToWrite_6 : decode c_S_pageToWrite 6 = .ok (.astore_n 2, 1) := by decide +kernel
theorem d_S_pageToWrite_7 : decode c_S_pageToWrite 7 = .ok (.aload_n 2, 1) := by decide +kernel
theorem d_S_pageToWrite_8 : decode c_S_pageToWrite 8 = .ok (.ifnonnull 18, 3) := by decide +kernel
theorem d_S_pageToWrite_11 : decode c_S_pageToWrite 11 = .ok (.new 13, 3) := by decide +kernel
theorem d_S_pageToWrite_14 : decode c_S_pageToWrite 14 = .ok (.dup, 1) := by decide +kernel
theorem d_S_pageToWrite_15 : decode c_S_pageToWrite 15 = .ok (.invokespecial 135, 3) := by decide +kernel
theorem d_S_pageToWrite_18 : decode c_S_pageToWrite 18 = .ok (.astore_n 2, 1) := by decide +kernel
theorem d_S_pageToWrite_19 : decode c_S_pageToWrite 19 = .ok (.aload_n 0, 1) := by decide +kernel
theorem d_S_pageToWrite_20 : decode c_S_pageToWrite 20 = .ok (.getfield 15, 3) := by decide +kernel
theorem d_S_pageToWrite_23 : decode c_S_pageToWrite 23 = .ok (.iload_n 1, 1) := by decide +kernel
theorem d_S_pageToWrite_24 : decode c_S_pageToWrite 24 = .ok (.aload_n 2, 1) := by decide +kernel
theorem d_S_pageToWrite_25 : decode c_S_pageToWrite 25 = .ok (.aastore, 1) := by decide +kernel
theorem d_S_pageToWrite_26 : decode c_S_pageToWrite 26 = .ok (.aload_n 2, 1) := by decide +kernel
theorem d_S_pageToWrite_27 : decode c_S_pageToWrite 27 = .ok (.areturn, 1) := by decide +kernel
theorem d_P_init_0 : decode c_P_init 0 = .ok (.aload_n 0, 1) := by decide +kernel
theorem d_P_init_1 : decode c_P_init 1 = .ok (.invokespecial 3, 3) := by decide +kernel
theorem d_P_init_4 : decode c_P_init 4 = .ok (.aload_n 0, 1) := by decide +kernel
theorem d_P_init_5 : decode c_P_init 5 = .ok (.iconst 1, 1) := by decide +kernel
theorem d_P_init_6 : decode c_P_init 6 = .ok (.putfield 9, 3) := by decide +kernel
theorem d_P_init_9 : decode c_P_init 9 = .ok (.return_, 1) := by decide +kernel
theorem d_P_merge_0 : decode c_P_merge 0 = .ok (.aload_n 0, 1) := by decide +kernel
theorem d_P_merge_1 : decode c_P_merge 1 = .ok (.iload_n 1, 1) := by decide +kernel
theorem d_P_merge_2 : decode c_P_merge 2 = .ok (.invokevirtual 30, 3) := by decide +kernel
theorem d_P_merge_5 : decode c_P_merge 5 = .ok (.lstore 6, 2) := by decide +kernel
theorem d_P_merge_7 : decode c_P_merge 7 = .ok (.lload 6, 2) := by decide +kernel
theorem d_P_merge_9 : decode c_P_merge 9 = .ok (.lload_n 2, 1) := by decide +kernel
theorem d_P_merge_10 : decode c_P_merge 10 = .ok (.ldc2_w 34, 3) := by decide +kernel
theorem d_P_merge_13 : decode c_P_merge 13 = .ok (.lxor, 1) := by decide +kernel
theorem d_P_merge_14 : decode c_P_merge 14 = .ok (.land, 1) := by decide +kernel
theorem d_P_merge_15 : decode c_P_merge 15 = .ok (.lload 4, 2) := by decide +kernel
theorem d_P_merge_17 : decode c_P_merge 17 = .ok (.lload_n 2, 1) := by decide +kernel
theorem d_P_merge_18 : decode c_P_merge 18 = .ok (.land, 1) := by decide +kernel
theorem d_P_merge_19 : decode c_P_merge 19 = .ok (.lor, 1) := by decide +kernel
theorem d_P_merge_20 : decode c_P_merge 20 = .ok (.lstore 8, 2) := by decide +kernel
theorem d_P_merge_22 : decode c_P_merge 22 = .ok (.lload 8, 2) := by decide +kernel
theorem d_P_merge_24 : decode c_P_merge 24 = .ok (.lload 6, 2) := by decide +kernel
theorem d_P_merge_26 : decode c_P_merge 26 = .ok (.lcmp, 1) := by decide +kernel
theorem d_P_merge_27 : decode c_P_merge 27 = .ok (.ifCond .ne 4, 3) := by decide +kernel
theorem d_P_merge_30 : decode c_P_merge 30 = .ok (.return_, 1) := by decide +kernel
theorem d_P_merge_31 : decode c_P_merge 31 = .ok (.aload_n 0, 1) := by decide +kernel
theorem d_P_merge_32 : decode c_P_merge 32 = .ok (.invokevirtual 36, 3) := by decide +kernel
theorem d_P_merge_35 : decode c_P_merge 35 = .ok (.iload_n 1, 1) := by decide +kernel
theorem d_P_merge_36 : decode c_P_merge 36 = .ok (.lload 8, 2) := by decide +kernel
theorem d_P_merge_38 : decode c_P_merge 38 = .ok (.lastore, 1) := by decide +kernel
theorem d_P_merge_39 : decode c_P_merge 39 = .ok (.lload 6, 2) := by decide +kernel
theorem d_P_merge_41 : decode c_P_merge 41 = .ok (.lconst 0, 1) := by decide +kernel
theorem d_P_merge_42 : decode c_P_merge 42 = .ok (.lcmp, 1) := by decide +kernel
theorem d_P_merge_43 : decode c_P_merge 43 = .ok (.ifCond .ne 13, 3) := by decide +kernel
theorem d_P_merge_46 : decode c_P_merge 46 = .ok (.aload_n 0, 1) := by decide +kernel
theorem d_P_merge_47 : decode c_P_merge 47 = .ok (.dup, 1) := by decide +kernel
theorem d_P_merge_48 : decode c_P_merge 48 = .ok (.getfield 19, 3) := by decide +kernel
theorem d_P_merge_51 : decode c_P_merge 51 = .ok (.iconst 1, 1) := by decide +kernel
theorem d_P_merge_52 : decode c_P_merge 52 = .ok (.iadd, 1) := by decide +kernel
theorem d_P_merge_53 : decode c_P_merge 53 = .ok (.putfield 19, 3) := by decide +kernel
theorem d_P_merge_56 : decode c_P_merge 56 = .ok (.lload 8, 2) := by decide +kernel
theorem d_P_merge_58 : decode c_P_merge 58 = .ok (.lconst 0, 1) := by decide +kernel
theorem d_P_merge_59 : decode c_P_merge 59 = .ok (.lcmp, 1) := by decide +kernel
theorem d_P_merge_60 : decode c_P_merge 60 = .ok (.ifCond .ne 13, 3) := by decide +kernel
theorem d_P_merge_63 : decode c_P_merge 63 = .ok (.aload_n 0, 1) := by decide +kernel
theorem d_P_merge_64 : decode c_P_merge 64 = .ok (.dup, 1) := by decide +kernel
theorem d_P_merge_65 : decode c_P_merge 65 = .ok (.getfield 19, 3) := by decide +kernel
theorem d_P_merge_68 : decode c_P_merge 68 = .ok (.iconst 1, 1) := by decide +kernel
theorem d_P_merge_69 : decode c_P_merge 69 = .ok (.isub, 1) := by decide +kernel
theorem d_P_merge_70 : decode c_P_merge 70 = .ok (.putfield 19, 3) := by decide +kernel
theorem d_P_merge_73 : decode c_P_merge 73 = .ok (.return_, 1) := by decide +kernel
theorem d_P_writtenOutWords_0 : decode c_P_writtenOutWords 0 = .ok (.aload_n 0, 1) := by decide +kernel
theorem d_P_writtenOutWords_1 : decode c_P_writtenOutWords 1 = .ok (.getfield 23, 3) := by decide +kernel
theorem d_P_writtenOutWords_4 : decode c_P_writtenOutWords 4 = .ok (.ifnonnull 12, 3) := by decide +kernel
theorem d_P_writtenOutWords_7 : decode c_P_writtenOutWords 7 = .ok (.aload_n 0, 1) := by decide +kernel
theorem d_P_writtenOutWords_8 : decode c_P_writtenOutWords 8 = .ok (.sipush 512, 3) := by decide +kernel
theorem d_P_writtenOutWords_11 : decode c_P_writtenOutWords 11 = .ok (.newarray .long, 2) := by decide +kernel
theorem d_P_writtenOutWords_13 : decode c_P_writtenOutWords 13 = .ok (.putfield 23, 3) := by decide +kernel
theorem d_P_writtenOutWords_16 : decode c_P_writtenOutWords 16 = .ok (.aload_n 0, 1) := by decide +kernel
theorem d_P_writtenOutWords_17 : decode c_P_writtenOutWords 17 = .ok (.getfield 9, 3) := by decide +kernel
theorem d_P_writtenOutWords_20 : decode c_P_writtenOutWords 20 = .ok (.ifCond .eq 19, 3) := by decide +kernel
theorem d_P_writtenOutWords_23 : decode c_P_writtenOutWords 23 = .ok (.aload_n 0, 1) := by decide +kernel
theorem d_P_writtenOutWords_24 : decode c_P_writtenOutWords 24 = .ok (.getfield 23, 3) := by decide +kernel
theorem d_P_writtenOutWords_27 : decode c_P_writtenOutWords 27 = .ok (.aload_n 0, 1) := by decide +kernel
theorem d_P_writtenOutWords_28 : decode c_P_writtenOutWords 28 = .ok (.getfield 27, 3) := by decide +kernel
theorem d_P_writtenOutWords_31 : decode c_P_writtenOutWords 31 = .ok (.invokestatic 40, 3) := by decide +kernel
theorem d_P_writtenOutWords_34 : decode c_P_writtenOutWords 34 = .ok (.aload_n 0, 1) := by decide +kernel
theorem d_P_writtenOutWords_35 : decode c_P_writtenOutWords 35 = .ok (.iconst 0, 1) := by decide +kernel
theorem d_P_writtenOutWords_36 : decode c_P_writtenOutWords 36 = .ok (.putfield 9, 3) := by decide +kernel
theorem d_P_writtenOutWords_39 : decode c_P_writtenOutWords 39 = .ok (.aload_n 0, 1) := by decide +kernel
theorem d_P_writtenOutWords_40 : decode c_P_writtenOutWords 40 = .ok (.getfield 23, 3) := by decide +kernel
theorem d_P_writtenOutWords_43 : decode c_P_writtenOutWords 43 = .ok (.areturn, 1) := by decide +kernel
theorem d_A_fill_0 : decode c_A_fill 0 = .ok (.iconst 0, 1) := by decide +kernel
theorem d_A_fill_1 : decode c_A_fill 1 = .ok (.istore_n 3, 1) := by decide +kernel
theorem d_A_fill_2 : decode c_A_fill 2 = .ok (.aload_n 0, 1) := by decide +kernel
theorem d_A_fill_3 : decode c_A_fill 3 = .ok (.arraylength, 1) := by decide +kernel
theorem d_A_fill_4 : decode c_A_fill 4 = .ok (.istore 4, 2) := by decide +kernel
theorem d_A_fill_6 : decode c_A_fill 6 = .ok (.iload_n 3, 1) := by decide +kernel
theorem d_A_fill_7 : decode c_A_fill 7 = .ok (.iload 4, 2) := by decide +kernel
theorem d_A_fill_9 : decode c_A_fill 9 = .ok (.if_icmp .ge 13, 3) := by decide +kernel
theorem d_A_fill_12 : decode c_A_fill 12 = .ok (.aload_n 0, 1) := by decide +kernel
theorem d_A_fill_13 : decode c_A_fill 13 = .ok (.iload_n 3, 1) := by decide +kernel
theorem d_A_fill_14 : decode c_A_fill 14 = .ok (.lload_n 1, 1) := by decide +kernel
theorem d_A_fill_15 : decode c_A_fill 15 = .ok (.lastore, 1) := by decide +kernel
theorem d_A_fill_16 : decode c_A_fill 16 = .ok (.iinc 3 1, 3) := by decide +kernel
theorem d_A_fill_19 : decode c_A_fill 19 = .ok (.goto (-13), 3) := by decide +kernel
theorem d_A_fill_22 : decode c_A_fill 22 = .ok (.return_, 1) := by decide +kernel
theorem d_S_noteStored_0 : decode c_S_noteStored 0 = .ok (.iload_n 2, 1) := by decide +kernel
theorem d_S_noteStored_1 : decode c_S_noteStored 1 = .ok (.bipush 12, 2) := by decide +kernel
theorem d_S_noteStored_3 : decode c_S_noteStored 3 = .ok (.ishr, 1) := by decide +kernel
theorem d_S_noteStored_4 : decode c_S_noteStored 4 = .ok (.istore_n 3, 1) := by decide +kernel
theorem d_S_noteStored_5 : decode c_S_noteStored 5 = .ok (.iload_n 1, 1) := by decide +kernel
theorem d_S_noteStored_6 : decode c_S_noteStored 6 = .ok (.bipush 12, 2) := by decide +kernel
theorem d_S_noteStored_8 : decode c_S_noteStored 8 = .ok (.ishr, 1) := by decide +kernel
theorem d_S_noteStored_9 : decode c_S_noteStored 9 = .ok (.istore 4, 2) := by decide +kernel
theorem d_S_noteStored_11 : decode c_S_noteStored 11 = .ok (.iload 4, 2) := by decide +kernel
theorem d_S_noteStored_13 : decode c_S_noteStored 13 = .ok (.iload_n 3, 1) := by decide +kernel
theorem d_S_noteStored_14 : decode c_S_noteStored 14 = .ok (.if_icmp .gt 18, 3) := by decide +kernel
theorem d_S_noteStored_17 : decode c_S_noteStored 17 = .ok (.aload_n 0, 1) := by decide +kernel
theorem d_S_noteStored_18 : decode c_S_noteStored 18 = .ok (.iload 4, 2) := by decide +kernel
theorem d_S_noteStored_20 : decode c_S_noteStored 20 = .ok (.invokevirtual 127, 3) := by decide +kernel
theorem d_S_noteStored_23 : decode c_S_noteStored 23 = .ok (.invokevirtual 163, 3) := by decide +kernel
theorem d_S_noteStored_26 : decode c_S_noteStored 26 = .ok (.iinc 4 1, 3) := by decide +kernel
theorem d_S_noteStored_29 : decode c_S_noteStored 29 = .ok (.goto (-18), 3) := by decide +kernel
theorem d_S_noteStored_32 : decode c_S_noteStored 32 = .ok (.aload_n 0, 1) := by decide +kernel
theorem d_S_noteStored_33 : decode c_S_noteStored 33 = .ok (.iload_n 1, 1) := by decide +kernel
theorem d_S_noteStored_34 : decode c_S_noteStored 34 = .ok (.iconst 3, 1) := by decide +kernel
theorem d_S_noteStored_35 : decode c_S_noteStored 35 = .ok (.ishr, 1) := by decide +kernel
theorem d_S_noteStored_36 : decode c_S_noteStored 36 = .ok (.iload_n 2, 1) := by decide +kernel
theorem d_S_noteStored_37 : decode c_S_noteStored 37 = .ok (.iconst 3, 1) := by decide +kernel
theorem d_S_noteStored_38 : decode c_S_noteStored 38 = .ok (.ishr, 1) := by decide +kernel
theorem d_S_noteStored_39 : decode c_S_noteStored 39 = .ok (.invokevirtual 166, 3) := by decide +kernel
theorem d_S_noteStored_42 : decode c_S_noteStored 42 = .ok (.return_, 1) := by decide +kernel
theorem d_P_countWrite_0 : decode c_P_countWrite 0 = .ok (.aload_n 0, 1) := by decide +kernel
theorem d_P_countWrite_1 : decode c_P_countWrite 1 = .ok (.dup, 1) := by decide +kernel
theorem d_P_countWrite_2 : decode c_P_countWrite 2 = .ok (.getfield 15, 3) := by decide +kernel
theorem d_P_countWrite_5 : decode c_P_countWrite 5 = .ok (.lconst 1, 1) := by decide +kernel
theorem d_P_countWrite_6 : decode c_P_countWrite 6 = .ok (.ladd, 1) := by decide +kernel
theorem d_P_countWrite_7 : decode c_P_countWrite 7 = .ok (.putfield 15, 3) := by decide +kernel
theorem d_P_countWrite_10 : decode c_P_countWrite 10 = .ok (.return_, 1) := by decide +kernel
theorem d_S_loseReservations_0 : decode c_S_loseReservations 0 = .ok (.iconst 0, 1) := by decide +kernel
theorem d_S_loseReservations_1 : decode c_S_loseReservations 1 = .ok (.istore_n 3, 1) := by decide +kernel
theorem d_S_loseReservations_2 : decode c_S_loseReservations 2 = .ok (.iload_n 3, 1) := by decide +kernel
theorem d_S_loseReservations_3 : decode c_S_loseReservations 3 = .ok (.iconst 4, 1) := by decide +kernel
theorem d_S_loseReservations_4 : decode c_S_loseReservations 4 = .ok (.if_icmp .ge 52, 3) := by decide +kernel
theorem d_S_loseReservations_7 : decode c_S_loseReservations 7 = .ok (.aload_n 0, 1) := by decide +kernel
theorem d_S_loseReservations_8 : decode c_S_loseReservations 8 = .ok (.getfield 19, 3) := by decide +kernel
theorem d_S_loseReservations_11 : decode c_S_loseReservations 11 = .ok (.iload_n 3, 1) := by decide +kernel
theorem d_S_loseReservations_12 : decode c_S_loseReservations 12 = .ok (.laload, 1) := by decide +kernel
theorem d_S_loseReservations_13 : decode c_S_loseReservations 13 = .ok (.lconst 0, 1) := by decide +kernel
theorem d_S_loseReservations_14 : decode c_S_loseReservations 14 = .ok (.lcmp, 1) := by decide +kernel
theorem d_S_loseReservations_15 : decode c_S_loseReservations 15 = .ok (.ifCond .eq 35, 3) := by decide +kernel
theorem d_S_loseReservations_18 : decode c_S_loseReservations 18 = .ok (.aload_n 0, 1) := by decide +kernel
theorem d_S_loseReservations_19 : decode c_S_loseReservations 19 = .ok (.getfield 19, 3) := by decide +kernel
theorem d_S_loseReservations_22 : decode c_S_loseReservations 22 = .ok (.iload_n 3, 1) := by decide +kernel
theorem d_S_loseReservations_23 : decode c_S_loseReservations 23 = .ok (.laload, 1) := by decide +kernel
theorem d_S_loseReservations_24 : decode c_S_loseReservations 24 = .ok (.invokestatic 47, 3) := by decide +kernel
theorem d_S_loseReservations_27 : decode c_S_loseReservations 27 = .ok (.iconst 3, 1) := by decide +kernel
theorem d_S_loseReservations_28 : decode c_S_loseReservations 28 = .ok (.ishr, 1) := by decide +kernel
theorem d_S_loseReservations_29 : decode c_S_loseReservations 29 = .ok (.istore 4, 2) := by decide +kernel
theorem d_S_loseReservations_31 : decode c_S_loseReservations 31 = .ok (.iload 4, 2) := by decide +kernel
theorem d_S_loseReservations_33 : decode c_S_loseReservations 33 = .ok (.iload_n 1, 1) := by decide +kernel
theorem d_S_loseReservations_34 : decode c_S_loseReservations 34 = .ok (.if_icmp .lt 16, 3) := by decide +kernel
theorem d_S_loseReservations_37 : decode c_S_loseReservations 37 = .ok (.iload 4, 2) := by decide +kernel
theorem d_S_loseReservations_39 : decode c_S_loseReservations 39 = .ok (.iload_n 2, 1) := by decide +kernel
theorem d_S_loseReservations_40 : decode c_S_loseReservations 40 = .ok (.if_icmp .gt 10, 3) := by decide +kernel
theorem d_S_loseReservations_43 : decode c_S_loseReservations 43 = .ok (.aload_n 0, 1) := by decide +kernel
theorem d_S_loseReservations_44 : decode c_S_loseReservations 44 = .ok (.getfield 19, 3) := by decide +kernel
theorem d_S_loseReservations_47 : decode c_S_loseReservations 47 = .ok (.iload_n 3, 1) := by decide +kernel
theorem d_S_loseReservations_48 : decode c_S_loseReservations 48 = .ok (.lconst 0, 1) := by decide +kernel
theorem d_S_loseReservations_49 : decode c_S_loseReservations 49 = .ok (.lastore, 1) := by decide +kernel
theorem d_S_loseReservations_50 : decode c_S_loseReservations 50 = .ok (.iinc 3 1, 3) := by decide +kernel
theorem d_S_loseReservations_53 : decode c_S_loseReservations 53 = .ok (.goto (-51), 3) := by decide +kernel
theorem d_S_loseReservations_56 : decode c_S_loseReservations 56 = .ok (.return_, 1) := by decide +kernel
theorem d_S_fill_0 : decode c_S_fill 0 = .ok (.lload_n 3, 1) := by decide +kernel
theorem d_S_fill_1 : decode c_S_fill 1 = .ok (.lload_n 1, 1) := by decide +kernel
theorem d_S_fill_2 : decode c_S_fill 2 = .ok (.lcmp, 1) := by decide +kernel
theorem d_S_fill_3 : decode c_S_fill 3 = .ok (.ifCond .ge 13, 3) := by decide +kernel
theorem d_S_fill_6 : decode c_S_fill 6 = .ok (.new 31, 3) := by decide +kernel
theorem d_S_fill_9 : decode c_S_fill 9 = .ok (.dup, 1) := by decide +kernel
theorem d_S_fill_10 : decode c_S_fill 10 = .ok (.ldc 59, 2) := by decide +kernel
theorem d_S_fill_12 : decode c_S_fill 12 = .ok (.invokespecial 35, 3) := by decide +kernel
theorem d_S_fill_15 : decode c_S_fill 15 = .ok (.athrow, 1) := by decide +kernel
theorem d_S_fill_16 : decode c_S_fill 16 = .ok (.lload_n 3, 1) := by decide +kernel
theorem d_S_fill_17 : decode c_S_fill 17 = .ok (.lload_n 1, 1) := by decide +kernel
theorem d_S_fill_18 : decode c_S_fill 18 = .ok (.lcmp, 1) := by decide +kernel
theorem d_S_fill_19 : decode c_S_fill 19 = .ok (.ifCond .ne 4, 3) := by decide +kernel
theorem d_S_fill_22 : decode c_S_fill 22 = .ok (.return_, 1) := by decide +kernel
theorem d_S_fill_23 : decode c_S_fill 23 = .ok (.lload_n 1, 1) := by decide +kernel
theorem d_S_fill_24 : decode c_S_fill 24 = .ok (.ldc2_w 61, 3) := by decide +kernel
theorem d_S_fill_27 : decode c_S_fill 27 = .ok (.lcmp, 1) := by decide +kernel
theorem d_S_fill_28 : decode c_S_fill 28 = .ok (.ifCond .lt 12, 3) := by decide +kernel
theorem d_S_fill_31 : decode c_S_fill 31 = .ok (.lload_n 3, 1) := by decide +kernel
theorem d_S_fill_32 : decode c_S_fill 32 = .ok (.aload_n 0, 1) := by decide +kernel
theorem d_S_fill_33 : decode c_S_fill 33 = .ok (.invokevirtual 63, 3) := by decide +kernel
theorem d_S_fill_36 : decode c_S_fill 36 = .ok (.lcmp, 1) := by decide +kernel
theorem d_S_fill_37 : decode c_S_fill 37 = .ok (.ifCond .le 13, 3) := by decide +kernel
theorem d_S_fill_40 : decode c_S_fill 40 = .ok (.new 42, 3) := by decide +kernel
theorem d_S_fill_43 : decode c_S_fill 43 = .ok (.dup, 1) := by decide +kernel
theorem d_S_fill_44 : decode c_S_fill 44 = .ok (.ldc 44, 2) := by decide +kernel
theorem d_S_fill_46 : decode c_S_fill 46 = .ok (.invokespecial 46, 3) := by decide +kernel
theorem d_S_fill_49 : decode c_S_fill 49 = .ok (.athrow, 1) := by decide +kernel
theorem d_S_fill_50 : decode c_S_fill 50 = .ok (.aload_n 0, 1) := by decide +kernel
theorem d_S_fill_51 : decode c_S_fill 51 = .ok (.lload_n 1, 1) := by decide +kernel
theorem d_S_fill_52 : decode c_S_fill 52 = .ok (.invokestatic 47, 3) := by decide +kernel
theorem d_S_fill_55 : decode c_S_fill 55 = .ok (.lload_n 3, 1) := by decide +kernel
theorem d_S_fill_56 : decode c_S_fill 56 = .ok (.lconst 1, 1) := by decide +kernel
theorem d_S_fill_57 : decode c_S_fill 57 = .ok (.lsub, 1) := by decide +kernel
theorem d_S_fill_58 : decode c_S_fill 58 = .ok (.invokestatic 47, 3) := by decide +kernel
theorem d_S_fill_61 : decode c_S_fill 61 = .ok (.iload 5, 2) := by decide +kernel
theorem d_S_fill_63 : decode c_S_fill 63 = .ok (.sipush 255, 3) := by decide +kernel
theorem d_S_fill_66 : decode c_S_fill 66 = .ok (.iand, 1) := by decide +kernel
theorem d_S_fill_67 : decode c_S_fill 67 = .ok (.i2l, 1) := by decide +kernel
theorem d_S_fill_68 : decode c_S_fill 68 = .ok (.ldc2_w 67, 3) := by decide +kernel
theorem d_S_fill_71 : decode c_S_fill 71 = .ok (.lmul, 1) := by decide +kernel
theorem d_S_fill_72 : decode c_S_fill 72 = .ok (.invokevirtual 69, 3) := by decide +kernel
theorem d_S_fill_75 : decode c_S_fill 75 = .ok (.return_, 1) := by decide +kernel
theorem d_S_putSameBytes_0 : decode c_S_putSameBytes 0 = .ok (.iload_n 2, 1) := by decide +kernel
theorem d_S_putSameBytes_1 : decode c_S_putSameBytes 1 = .ok (.bipush 12, 2) := by decide +kernel
theorem d_S_putSameBytes_3 : decode c_S_putSameBytes 3 = .ok (.ishr, 1) := by decide +kernel
theorem d_S_putSameBytes_4 : decode c_S_putSameBytes 4 = .ok (.istore 5, 2) := by decide +kernel
theorem d_S_putSameBytes_6 : decode c_S_putSameBytes 6 = .ok (.iload_n 1, 1) := by decide +kernel
theorem d_S_putSameBytes_7 : decode c_S_putSameBytes 7 = .ok (.bipush 12, 2) := by decide +kernel
theorem d_S_putSameBytes_9 : decode c_S_putSameBytes 9 = .ok (.ishr, 1) := by decide +kernel
theorem d_S_putSameBytes_10 : decode c_S_putSameBytes 10 = .ok (.istore 6, 2) := by decide +kernel
theorem d_S_putSameBytes_12 : decode c_S_putSameBytes 12 = .ok (.iload 6, 2) := by decide +kernel
theorem d_S_putSameBytes_14 : decode c_S_putSameBytes 14 = .ok (.iload 5, 2) := by decide +kernel
theorem d_S_putSameBytes_16 : decode c_S_putSameBytes 16 = .ok (.if_icmp .gt 52, 3) := by decide +kernel
theorem d_S_putSameBytes_19 : decode c_S_putSameBytes 19 = .ok (.iload 6, 2) := by decide +kernel
theorem d_S_putSameBytes_21 : decode c_S_putSameBytes 21 = .ok (.bipush 12, 2) := by decide +kernel
theorem d_S_putSameBytes_23 : decode c_S_putSameBytes 23 = .ok (.ishl, 1) := by decide +kernel
theorem d_S_putSameBytes_24 : decode c_S_putSameBytes 24 = .ok (.istore 7, 2) := by decide +kernel
theorem d_S_putSameBytes_26 : decode c_S_putSameBytes 26 = .ok (.iload_n 1, 1) := by decide +kernel
theorem d_S_putSameBytes_27 : decode c_S_putSameBytes 27 = .ok (.iload 7, 2) := by decide +kernel
theorem d_S_putSameBytes_29 : decode c_S_putSameBytes 29 = .ok (.isub, 1) := by decide +kernel
theorem d_S_putSameBytes_30 : decode c_S_putSameBytes 30 = .ok (.iconst 0, 1) := by decide +kernel
theorem d_S_putSameBytes_31 : decode c_S_putSameBytes 31 = .ok (.invokestatic 151, 3) := by decide +kernel
theorem d_S_putSameBytes_34 : decode c_S_putSameBytes 34 = .ok (.istore 8, 2) := by decide +kernel
theorem d_S_putSameBytes_36 : decode c_S_putSameBytes 36 = .ok (.iload_n 2, 1) := by decide +kernel
theorem d_S_putSameBytes_37 : decode c_S_putSameBytes 37 = .ok (.iload 7, 2) := by decide +kernel
theorem d_S_putSameBytes_39 : decode c_S_putSameBytes 39 = .ok (.isub, 1) := by decide +kernel
theorem d_S_putSameBytes_40 : decode c_S_putSameBytes 40 = .ok (.sipush 4095, 3) := by decide +kernel
theorem d_S_putSameBytes_43 : decode c_S_putSameBytes 43 = .ok (.invokestatic 157, 3) := by decide +kernel
theorem d_S_putSameBytes_46 : decode c_S_putSameBytes 46 = .ok (.istore 9, 2) := by decide +kernel
theorem d_S_putSameBytes_48 : decode c_S_putSameBytes 48 = .ok (.aload_n 0, 1) := by decide +kernel
theorem d_S_putSameBytes_49 : decode c_S_putSameBytes 49 = .ok (.iload 6, 2) := by decide +kernel
theorem d_S_putSameBytes_51 : decode c_S_putSameBytes 51 = .ok (.invokevirtual 127, 3) := by decide +kernel
theorem d_S_putSameBytes_54 : decode c_S_putSameBytes 54 = .ok (.iload 8, 2) := by decide +kernel
theorem d_S_putSameBytes_56 : decode c_S_putSameBytes 56 = .ok (.iload 9, 2) := by decide +kernel
theorem d_S_putSameBytes_58 : decode c_S_putSameBytes 58 = .ok (.lload_n 3, 1) := by decide +kernel
theorem d_S_putSameBytes_59 : decode c_S_putSameBytes 59 = .ok (.invokevirtual 160, 3) := by decide +kernel
theorem d_S_putSameBytes_62 : decode c_S_putSameBytes 62 = .ok (.iinc 6 1, 3) := by decide +kernel
theorem d_S_putSameBytes_65 : decode c_S_putSameBytes 65 = .ok (.goto (-53), 3) := by decide +kernel
theorem d_S_putSameBytes_68 : decode c_S_putSameBytes 68 = .ok (.aload_n 0, 1) := by decide +kernel
theorem d_S_putSameBytes_69 : decode c_S_putSameBytes 69 = .ok (.iload_n 1, 1) := by decide +kernel
theorem d_S_putSameBytes_70 : decode c_S_putSameBytes 70 = .ok (.iload_n 2, 1) := by decide +kernel
theorem d_S_putSameBytes_71 : decode c_S_putSameBytes 71 = .ok (.invokevirtual 147, 3) := by decide +kernel
theorem d_S_putSameBytes_74 : decode c_S_putSameBytes 74 = .ok (.return_, 1) := by decide +kernel
theorem d_P_spread_0 : decode c_P_spread 0 = .ok (.iload_n 1, 1) := by decide +kernel
theorem d_P_spread_1 : decode c_P_spread 1 = .ok (.ifCond .ne 16, 3) := by decide +kernel
theorem d_P_spread_4 : decode c_P_spread 4 = .ok (.iload_n 2, 1) := by decide +kernel
theorem d_P_spread_5 : decode c_P_spread 5 = .ok (.sipush 4095, 3) := by decide +kernel
theorem d_P_spread_8 : decode c_P_spread 8 = .ok (.if_icmp .ne 9, 3) := by decide +kernel
theorem d_P_spread_11 : decode c_P_spread 11 = .ok (.aload_n 0, 1) := by decide +kernel
theorem d_P_spread_12 : decode c_P_spread 12 = .ok (.lload_n 3, 1) := by decide +kernel
theorem d_P_spread_13 : decode c_P_spread 13 = .ok (.invokevirtual 46, 3) := by decide +kernel
theorem d_P_spread_16 : decode c_P_spread 16 = .ok (.return_, 1) := by decide +kernel
theorem d_P_spread_17 : decode c_P_spread 17 = .ok (.iload_n 1, 1) := by decide +kernel
theorem d_P_spread_18 : decode c_P_spread 18 = .ok (.iconst 3, 1) := by decide +kernel
theorem d_P_spread_19 : decode c_P_spread 19 = .ok (.ishr, 1) := by decide +kernel
theorem d_P_spread_20 : decode c_P_spread 20 = .ok (.istore 5, 2) := by decide +kernel
theorem d_P_spread_22 : decode c_P_spread 22 = .ok (.iload_n 2, 1) := by decide +kernel
theorem d_P_spread_23 : decode c_P_spread 23 = .ok (.iconst 3, 1) := by decide +kernel
theorem d_P_spread_24 : decode c_P_spread 24 = .ok (.ishr, 1) := by decide +kernel
theorem d_P_spread_25 : decode c_P_spread 25 = .ok (.istore 6, 2) := by decide +kernel
theorem d_P_spread_27 : decode c_P_spread 27 = .ok (.iload 5, 2) := by decide +kernel
theorem d_P_spread_29 : decode c_P_spread 29 = .ok (.istore 7, 2) := by decide +kernel
theorem d_P_spread_31 : decode c_P_spread 31 = .ok (.iload 7, 2) := by decide +kernel
theorem d_P_spread_33 : decode c_P_spread 33 = .ok (.iload 6, 2) := by decide +kernel
theorem d_P_spread_35 : decode c_P_spread 35 = .ok (.if_icmp .gt 62, 3) := by decide +kernel
theorem d_P_spread_38 : decode c_P_spread 38 = .ok (.ldc2_w 34, 3) := by decide +kernel
theorem d_P_spread_41 : decode c_P_spread 41 = .ok (.lstore 8, 2) := by decide +kernel
theorem d_P_spread_43 : decode c_P_spread 43 = .ok (.iload 7, 2) := by decide +kernel
theorem d_P_spread_45 : decode c_P_spread 45 = .ok (.iload 5, 2) := by decide +kernel
theorem d_P_spread_47 : decode c_P_spread 47 = .ok (.if_icmp .ne 12, 3) := by decide +kernel
theorem d_P_spread_50 : decode c_P_spread 50 = .ok (.lload 8, 2) := by decide +kernel
theorem d_P_spread_52 : decode c_P_spread 52 = .ok (.iload_n 1, 1) := by decide +kernel
theorem d_P_spread_53 : decode c_P_spread 53 = .ok (.invokestatic 50, 3) := by decide +kernel
theorem d_P_spread_56 : decode c_P_spread 56 = .ok (.lshl, 1) := by decide +kernel
theorem d_P_spread_57 : decode c_P_spread 57 = .ok (.lstore 8, 2) := by decide +kernel
theorem d_P_spread_59 : decode c_P_spread 59 = .ok (.iload 7, 2) := by decide +kernel
theorem d_P_spread_61 : decode c_P_spread 61 = .ok (.iload 6, 2) := by decide +kernel
theorem d_P_spread_63 : decode c_P_spread 63 = .ok (.if_icmp .ne 19, 3) := by decide +kernel
theorem d_P_spread_66 : decode c_P_spread 66 = .ok (.lload 8, 2) := by decide +kernel
theorem d_P_spread_68 : decode c_P_spread 68 = .ok (.ldc2_w 34, 3) := by decide +kernel
theorem d_P_spread_71 : decode c_P_spread 71 = .ok (.bipush 56, 2) := by decide +kernel
theorem d_P_spread_73 : decode c_P_spread 73 = .ok (.iload_n 2, 1) := by decide +kernel
theorem d_P_spread_74 : decode c_P_spread 74 = .ok (.invokestatic 50, 3) := by decide +kernel
theorem d_P_spread_77 : decode c_P_spread 77 = .ok (.isub, 1) := by decide +kernel
theorem d_P_spread_78 : decode c_P_spread 78 = .ok (.lushr, 1) := by decide +kernel
theorem d_P_spread_79 : decode c_P_spread 79 = .ok (.land, 1) := by decide +kernel
theorem d_P_spread_80 : decode c_P_spread 80 = .ok (.lstore 8, 2) := by decide +kernel
theorem d_P_spread_82 : decode c_P_spread 82 = .ok (.aload_n 0, 1) := by decide +kernel
theorem d_P_spread_83 : decode c_P_spread 83 = .ok (.iload 7, 2) := by decide +kernel
theorem d_P_spread_85 : decode c_P_spread 85 = .ok (.lload 8, 2) := by decide +kernel
theorem d_P_spread_87 : decode c_P_spread 87 = .ok (.lload_n 3, 1) := by decide +kernel
theorem d_P_spread_88 : decode c_P_spread 88 = .ok (.invokevirtual 54, 3) := by decide +kernel
theorem d_P_spread_91 : decode c_P_spread 91 = .ok (.iinc 7 1, 3) := by decide +kernel
theorem d_P_spread_94 : decode c_P_spread 94 = .ok (.goto (-63), 3) := by decide +kernel
theorem d_P_spread_97 : decode c_P_spread 97 = .ok (.return_, 1) := by decide +kernel
theorem d_P_makeEven_0 : decode c_P_makeEven 0 = .ok (.aload_n 0, 1) := by decide +kernel
theorem d_P_makeEven_1 : decode c_P_makeEven 1 = .ok (.iconst 1, 1) := by decide +kernel
theorem d_P_makeEven_2 : decode c_P_makeEven 2 = .ok (.putfield 9, 3) := by decide +kernel
theorem d_P_makeEven_5 : decode c_P_makeEven 5 = .ok (.aload_n 0, 1) := by decide +kernel
theorem d_P_makeEven_6 : decode c_P_makeEven 6 = .ok (.lload_n 1, 1) := by decide +kernel
theorem d_P_makeEven_7 : decode c_P_makeEven 7 = .ok (.putfield 27, 3) := by decide +kernel
theorem d_P_makeEven_10 : decode c_P_makeEven 10 = .ok (.aload_n 0, 1) := by decide +kernel
theorem d_P_makeEven_11 : decode c_P_makeEven 11 = .ok (.lload_n 1, 1) := by decide +kernel
theorem d_P_makeEven_12 : decode c_P_makeEven 12 = .ok (.lconst 0, 1) := by decide +kernel
theorem d_P_makeEven_13 : decode c_P_makeEven 13 = .ok (.lcmp, 1) := by decide +kernel
theorem d_P_makeEven_14 : decode c_P_makeEven 14 = .ok (.ifCond .ne 7, 3) := by decide +kernel
theorem d_P_makeEven_17 : decode c_P_makeEven 17 = .ok (.iconst 0, 1) := by decide +kernel
theorem d_P_makeEven_18 : decode c_P_makeEven 18 = .ok (.goto 6, 3) := by decide +kernel
theorem d_P_makeEven_21 : decode c_P_makeEven 21 = .ok (.sipush 512, 3) := by decide +kernel
theorem d_P_makeEven_24 : decode c_P_makeEven 24 = .ok (.putfield 19, 3) := by decide +kernel
theorem d_P_makeEven_27 : decode c_P_makeEven 27 = .ok (.return_, 1) := by decide +kernel
theorem d_S_atomic_0 : decode c_S_atomic 0 = .ok (.iload 5, 2) := by decide +kernel
theorem d_S_atomic_2 : decode c_S_atomic 2 = .ok (.invokestatic 72, 3) := by decide +kernel
theorem d_S_atomic_5 : decode c_S_atomic 5 = .ok (.ifCond .eq 10, 3) := by decide +kernel
theorem d_S_atomic_8 : decode c_S_atomic 8 = .ok (.iload_n 2, 1) := by decide +kernel
theorem d_S_atomic_9 : decode c_S_atomic 9 = .ok (.invokestatic 75, 3) := by decide +kernel
theorem d_S_atomic_12 : decode c_S_atomic 12 = .ok (.ifCond .ne 13, 3) := by decide +kernel
theorem d_S_atomic_15 : decode c_S_atomic 15 = .ok (.new 31, 3) := by decide +kernel
theorem d_S_atomic_18 : decode c_S_atomic 18 = .ok (.dup, 1) := by decide +kernel
theorem d_S_atomic_19 : decode c_S_atomic 19 = .ok (.ldc 78, 2) := by decide +kernel
theorem d_S_atomic_21 : decode c_S_atomic 21 = .ok (.invokespecial 35, 3) := by decide +kernel
theorem d_S_atomic_24 : decode c_S_atomic 24 = .ok (.athrow, 1) := by decide +kernel
theorem d_S_atomic_25 : decode c_S_atomic 25 = .ok (.iload_n 1, 1) := by decide +kernel
theorem d_S_atomic_26 : decode c_S_atomic 26 = .ok (.invokestatic 80, 3) := by decide +kernel
theorem d_S_atomic_29 : decode c_S_atomic 29 = .ok (.ifCond .eq 13, 3) := by decide +kernel
theorem d_S_atomic_32 : decode c_S_atomic 32 = .ok (.aload_n 0, 1) := by decide +kernel
theorem d_S_atomic_33 : decode c_S_atomic 33 = .ok (.lload_n 3, 1) := by decide +kernel
theorem d_S_atomic_34 : decode c_S_atomic 34 = .ok (.iload 5, 2) := by decide +kernel
theorem d_S_atomic_36 : decode c_S_atomic 36 = .ok (.invokevirtual 38, 3) := by decide +kernel
theorem d_S_atomic_39 : decode c_S_atomic 39 = .ok (.ifCond .ne 13, 3) := by decide +kernel
theorem d_S_atomic_42 : decode c_S_atomic 42 = .ok (.new 42, 3) := by decide +kernel
theorem d_S_atomic_45 : decode c_S_atomic 45 = .ok (.dup, 1) := by decide +kernel
theorem d_S_atomic_46 : decode c_S_atomic 46 = .ok (.ldc 83, 2) := by decide +kernel
theorem d_S_atomic_48 : decode c_S_atomic 48 = .ok (.invokespecial 46, 3) := by decide +kernel
theorem d_S_atomic_51 : decode c_S_atomic 51 = .ok (.athrow, 1) := by decide +kernel
theorem d_S_atomic_52 : decode c_S_atomic 52 = .ok (.lload_n 3, 1) := by decide +kernel
theorem d_S_atomic_53 : decode c_S_atomic 53 = .ok (.iload 5, 2) := by decide +kernel
theorem d_S_atomic_55 : decode c_S_atomic 55 = .ok (.iconst 1, 1) := by decide +kernel
theorem d_S_atomic_56 : decode c_S_atomic 56 = .ok (.isub, 1) := by decide +kernel
theorem d_S_atomic_57 : decode c_S_atomic 57 = .ok (.i2l, 1) := by decide +kernel
theorem d_S_atomic_58 : decode c_S_atomic 58 = .ok (.land, 1) := by decide +kernel
theorem d_S_atomic_59 : decode c_S_atomic 59 = .ok (.lconst 0, 1) := by decide +kernel
theorem d_S_atomic_60 : decode c_S_atomic 60 = .ok (.lcmp, 1) := by decide +kernel
theorem d_S_atomic_61 : decode c_S_atomic 61 = .ok (.ifCond .eq 13, 3) := by decide +kernel
theorem d_S_atomic_64 : decode c_S_atomic 64 = .ok (.new 85, 3) := by decide +kernel
theorem d_S_atomic_67 : decode c_S_atomic 67 = .ok (.dup, 1) := by decide +kernel
theorem d_S_atomic_68 : decode c_S_atomic 68 = .ok (.ldc 87, 2) := by decide +kernel
theorem d_S_atomic_70 : decode c_S_atomic 70 = .ok (.invokespecial 89, 3) := by decide +kernel
theorem d_S_atomic_73 : decode c_S_atomic 73 = .ok (.athrow, 1) := by decide +kernel
theorem d_S_atomic_74 : decode c_S_atomic 74 = .ok (.iload_n 2, 1) := by decide +kernel
theorem d_S_atomic_75 : decode c_S_atomic 75 = .ok (.iconst 2, 1) := by decide +kernel
theorem d_S_atomic_76 : decode c_S_atomic 76 = .ok (.if_icmp .ne 12, 3) := by decide +kernel
theorem d_S_atomic_79 : decode c_S_atomic 79 = .ok (.aload_n 0, 1) := by decide +kernel
theorem d_S_atomic_80 : decode c_S_atomic 80 = .ok (.iload_n 1, 1) := by decide +kernel
theorem d_S_atomic_81 : decode c_S_atomic 81 = .ok (.lload_n 3, 1) := by decide +kernel
theorem d_S_atomic_82 : decode c_S_atomic 82 = .ok (.iload 5, 2) := by decide +kernel
theorem d_S_atomic_84 : decode c_S_atomic 84 = .ok (.invokevirtual 90, 3) := by decide +kernel
theorem d_S_atomic_87 : decode c_S_atomic 87 = .ok (.lreturn, 1) := by decide +kernel
theorem d_S_atomic_88 : decode c_S_atomic 88 = .ok (.iload_n 2, 1) := by decide +kernel
theorem d_S_atomic_89 : decode c_S_atomic 89 = .ok (.iconst 3, 1) := by decide +kernel
theorem d_S_atomic_90 : decode c_S_atomic 90 = .ok (.if_icmp .ne 14, 3) := by decide +kernel
theorem d_S_atomic_93 : decode c_S_atomic 93 = .ok (.aload_n 0, 1) := by decide +kernel
theorem d_S_atomic_94 : decode c_S_atomic 94 = .ok (.iload_n 1, 1) := by decide +kernel
theorem d_S_atomic_95 : decode c_S_atomic 95 = .ok (.lload_n 3, 1) := by decide +kernel
theorem d_S_atomic_96 : decode c_S_atomic 96 = .ok (.iload 5, 2) := by decide +kernel
theorem d_S_atomic_98 : decode c_S_atomic 98 = .ok (.lload 6, 2) := by decide +kernel
theorem d_S_atomic_100 : decode c_S_atomic 100 = .ok (.invokevirtual 94, 3) := by decide +kernel
theorem d_S_atomic_103 : decode c_S_atomic 103 = .ok (.lreturn, 1) := by decide +kernel
theorem d_S_atomic_104 : decode c_S_atomic 104 = .ok (.aload_n 0, 1) := by decide +kernel
theorem d_S_atomic_105 : decode c_S_atomic 105 = .ok (.iload_n 2, 1) := by decide +kernel
theorem d_S_atomic_106 : decode c_S_atomic 106 = .ok (.lload_n 3, 1) := by decide +kernel
theorem d_S_atomic_107 : decode c_S_atomic 107 = .ok (.invokestatic 47, 3) := by decide +kernel
theorem d_S_atomic_110 : decode c_S_atomic 110 = .ok (.iload 5, 2) := by decide +kernel
theorem d_S_atomic_112 : decode c_S_atomic 112 = .ok (.lload 6, 2) := by decide +kernel
theorem d_S_atomic_114 : decode c_S_atomic 114 = .ok (.invokevirtual 98, 3) := by decide +kernel
theorem d_S_atomic_117 : decode c_S_atomic 117 = .ok (.lreturn, 1) := by decide +kernel
theorem d_S_isAtomicSize_0 : decode c_S_isAtomicSize 0 = .ok (.iload_n 0, 1) := by decide +kernel
theorem d_S_isAtomicSize_1 : decode c_S_isAtomicSize 1 = .ok (.iconst 4, 1) := by decide +kernel
theorem d_S_isAtomicSize_2 : decode c_S_isAtomicSize 2 = .ok (.if_icmp .eq 9, 3) := by decide +kernel
theorem d_S_isAtomicSize_5 : decode c_S_isAtomicSize 5 = .ok (.iload_n 0, 1) := by decide +kernel
theorem d_S_isAtomicSize_6 : decode c_S_isAtomicSize 6 = .ok (.bipush 8, 2) := by decide +kernel
theorem d_S_isAtomicSize_8 : decode c_S_isAtomicSize 8 = .ok (.if_icmp .ne 7, 3) := by decide +kernel
theorem d_S_isAtomicSize_11 : decode c_S_isAtomicSize 11 = .ok (.iconst 1, 1) := by decide +kernel
theorem d_S_isAtomicSize_12 : decode c_S_isAtomicSize 12 = .ok (.goto 4, 3) := by decide +kernel
theorem d_S_isAtomicSize_15 : decode c_S_isAtomicSize 15 = .ok (.iconst 0, 1) := by decide +kernel
theorem d_S_isAtomicSize_16 : decode c_S_isAtomicSize 16 = .ok (.ireturn, 1) := by decide +kernel
theorem d_S_isKind_0 : decode c_S_isKind 0 = .ok (.iload_n 0, 1) := by decide +kernel
theorem d_S_isKind_1 : decode c_S_isKind 1 = .ok (.tableswitch 133 0 28 #[131, 131, 131, 131, 131, 133, 133, 133, 131, 133, 133, 133, 131, 133, 133, 133, 131, 133, 133, 133, 131, 133, 133, 133, 131, 133, 133, 133, 131], 131) := by decide +kernel
theorem d_S_isKind_132 : decode c_S_isKind 132 = .ok (.iconst 1, 1) := by decide +kernel
theorem d_S_isKind_133 : decode c_S_isKind 133 = .ok (.ireturn, 1) := by decide +kernel
theorem d_S_isKind_134 : decode c_S_isKind 134 = .ok (.iconst 0, 1) := by decide +kernel
theorem d_S_isKind_135 : decode c_S_isKind 135 = .ok (.ireturn, 1) := by decide +kernel
theorem d_S_isProcessor_0 : decode c_S_isProcessor 0 = .ok (.iload_n 0, 1) := by decide +kernel
theorem d_S_isProcessor_1 : decode c_S_isProcessor 1 = .ok (.ifCond .lt 12, 3) := by decide +kernel
theorem d_S_isProcessor_4 : decode c_S_isProcessor 4 = .ok (.iload_n 0, 1) := by decide +kernel
theorem d_S_isProcessor_5 : decode c_S_isProcessor 5 = .ok (.iconst 4, 1) := by decide +kernel
theorem d_S_isProcessor_6 : decode c_S_isProcessor 6 = .ok (.if_icmp .ge 7, 3) := by decide +kernel
theorem d_S_isProcessor_9 : decode c_S_isProcessor 9 = .ok (.iconst 1, 1) := by decide +kernel
theorem d_S_isProcessor_10 : decode c_S_isProcessor 10 = .ok (.goto 4, 3) := by decide +kernel
theorem d_S_isProcessor_13 : decode c_S_isProcessor 13 = .ok (.iconst 0, 1) := by decide +kernel
theorem d_S_isProcessor_14 : decode c_S_isProcessor 14 = .ok (.ireturn, 1) := by decide +kernel
theorem d_S_reserve_0 : decode c_S_reserve 0 = .ok (.aload_n 0, 1) := by decide +kernel
theorem d_S_reserve_1 : decode c_S_reserve 1 = .ok (.getfield 19, 3) := by decide +kernel
theorem d_S_reserve_4 : decode c_S_reserve 4 = .ok (.iload_n 1, 1) := by decide +kernel
theorem d_S_reserve_5 : decode c_S_reserve 5 = .ok (.lload_n 2, 1) := by decide +kernel
theorem d_S_reserve_6 : decode c_S_reserve 6 = .ok (.lastore, 1) := by decide +kernel
theorem d_S_reserve_7 : decode c_S_reserve 7 = .ok (.aload_n 0, 1) := by decide +kernel
theorem d_S_reserve_8 : decode c_S_reserve 8 = .ok (.getfield 23, 3) := by decide +kernel
theorem d_S_reserve_11 : decode c_S_reserve 11 = .ok (.iload_n 1, 1) := by decide +kernel
theorem d_S_reserve_12 : decode c_S_reserve 12 = .ok (.iload 4, 2) := by decide +kernel
theorem d_S_reserve_14 : decode c_S_reserve 14 = .ok (.iastore, 1) := by decide +kernel
theorem d_S_reserve_15 : decode c_S_reserve 15 = .ok (.aload_n 0, 1) := by decide +kernel
theorem d_S_reserve_16 : decode c_S_reserve 16 = .ok (.lload_n 2, 1) := by decide +kernel
theorem d_S_reserve_17 : decode c_S_reserve 17 = .ok (.invokestatic 47, 3) := by decide +kernel
theorem d_S_reserve_20 : decode c_S_reserve 20 = .ok (.iload 4, 2) := by decide +kernel
theorem d_S_reserve_22 : decode c_S_reserve 22 = .ok (.invokevirtual 51, 3) := by decide +kernel
theorem d_S_reserve_25 : decode c_S_reserve 25 = .ok (.iload 4, 2) := by decide +kernel
theorem d_S_reserve_27 : decode c_S_reserve 27 = .ok (.invokestatic 169, 3) := by decide +kernel
theorem d_S_reserve_30 : decode c_S_reserve 30 = .ok (.lreturn, 1) := by decide +kernel
theorem d_S_withSign_0 : decode c_S_withSign 0 = .ok (.iload_n 2, 1) := by decide +kernel
theorem d_S_withSign_1 : decode c_S_withSign 1 = .ok (.iconst 4, 1) := by decide +kernel
theorem d_S_withSign_2 : decode c_S_withSign 2 = .ok (.if_icmp .ne 9, 3) := by decide +kernel
theorem d_S_withSign_5 : decode c_S_withSign 5 = .ok (.lload_n 0, 1) := by decide +kernel
theorem d_S_withSign_6 : decode c_S_withSign 6 = .ok (.l2i, 1) := by decide +kernel
theorem d_S_withSign_7 : decode c_S_withSign 7 = .ok (.i2l, 1) := by decide +kernel
theorem d_S_withSign_8 : decode c_S_withSign 8 = .ok (.goto 4, 3) := by decide +kernel
theorem d_S_withSign_11 : decode c_S_withSign 11 = .ok (.lload_n 0, 1) := by decide +kernel
theorem d_S_withSign_12 : decode c_S_withSign 12 = .ok (.lreturn, 1) := by decide +kernel
theorem d_S_storeIfReserved_0 : decode c_S_storeIfReserved 0 = .ok (.aload_n 0, 1) := by decide +kernel
theorem d_S_storeIfReserved_1 : decode c_S_storeIfReserved 1 = .ok (.getfield 19, 3) := by decide +kernel
theorem d_S_storeIfReserved_4 : decode c_S_storeIfReserved 4 = .ok (.iload_n 1, 1) := by decide +kernel
theorem d_S_storeIfReserved_5 : decode c_S_storeIfReserved 5 = .ok (.laload, 1) := by decide +kernel
theorem d_S_storeIfReserved_6 : decode c_S_storeIfReserved 6 = .ok (.lload_n 2, 1) := by decide +kernel
theorem d_S_storeIfReserved_7 : decode c_S_storeIfReserved 7 = .ok (.lcmp, 1) := by decide +kernel
theorem d_S_storeIfReserved_8 : decode c_S_storeIfReserved 8 = .ok (.ifCond .ne 18, 3) := by decide +kernel
theorem d_S_storeIfReserved_11 : decode c_S_storeIfReserved 11 = .ok (.aload_n 0, 1) := by decide +kernel
theorem d_S_storeIfReserved_12 : decode c_S_storeIfReserved 12 = .ok (.getfield 23, 3) := by decide +kernel
theorem d_S_storeIfReserved_15 : decode c_S_storeIfReserved 15 = .ok (.iload_n 1, 1) := by decide +kernel
theorem d_S_storeIfReserved_16 : decode c_S_storeIfReserved 16 = .ok (.iaload, 1) := by decide +kernel
theorem d_S_storeIfReserved_17 : decode c_S_storeIfReserved 17 = .ok (.iload 4, 2) := by decide +kernel
theorem d_S_storeIfReserved_19 : decode c_S_storeIfReserved 19 = .ok (.if_icmp .ne 7, 3) := by decide +kernel
theorem d_S_storeIfReserved_22 : decode c_S_storeIfReserved 22 = .ok (.iconst 1, 1) := by decide +kernel
theorem d_S_storeIfReserved_23 : decode c_S_storeIfReserved 23 = .ok (.goto 4, 3) := by decide +kernel
theorem d_S_storeIfReserved_26 : decode c_S_storeIfReserved 26 = .ok (.iconst 0, 1) := by decide +kernel
theorem d_S_storeIfReserved_27 : decode c_S_storeIfReserved 27 = .ok (.istore 7, 2) := by decide +kernel
theorem d_S_storeIfReserved_29 : decode c_S_storeIfReserved 29 = .ok (.aload_n 0, 1) := by decide +kernel
theorem d_S_storeIfReserved_30 : decode c_S_storeIfReserved 30 = .ok (.getfield 19, 3) := by decide +kernel
theorem d_S_storeIfReserved_33 : decode c_S_storeIfReserved 33 = .ok (.iload_n 1, 1) := by decide +kernel
theorem d_S_storeIfReserved_34 : decode c_S_storeIfReserved 34 = .ok (.lconst 0, 1) := by decide +kernel
theorem d_S_storeIfReserved_35 : decode c_S_storeIfReserved 35 = .ok (.lastore, 1) := by decide +kernel
theorem d_S_storeIfReserved_36 : decode c_S_storeIfReserved 36 = .ok (.iload 7, 2) := by decide +kernel
theorem d_S_storeIfReserved_38 : decode c_S_storeIfReserved 38 = .ok (.ifCond .ne 5, 3) := by decide +kernel
theorem d_S_storeIfReserved_41 : decode c_S_storeIfReserved 41 = .ok (.lconst 1, 1) := by decide +kernel
theorem d_S_storeIfReserved_42 : decode c_S_storeIfReserved 42 = .ok (.lreturn, 1) := by decide +kernel
theorem d_S_storeIfReserved_43 : decode c_S_storeIfReserved 43 = .ok (.aload_n 0, 1) := by decide +kernel
theorem d_S_storeIfReserved_44 : decode c_S_storeIfReserved 44 = .ok (.lload_n 2, 1) := by decide +kernel
theorem d_S_storeIfReserved_45 : decode c_S_storeIfReserved 45 = .ok (.invokestatic 47, 3) := by decide +kernel
theorem d_S_storeIfReserved_48 : decode c_S_storeIfReserved 48 = .ok (.iload 4, 2) := by decide +kernel
theorem d_S_storeIfReserved_50 : decode c_S_storeIfReserved 50 = .ok (.lload 5, 2) := by decide +kernel
theorem d_S_storeIfReserved_52 : decode c_S_storeIfReserved 52 = .ok (.invokevirtual 55, 3) := by decide +kernel
theorem d_S_storeIfReserved_55 : decode c_S_storeIfReserved 55 = .ok (.lconst 0, 1) := by decide +kernel
theorem d_S_storeIfReserved_56 : decode c_S_storeIfReserved 56 = .ok (.lreturn, 1) := by decide +kernel
theorem d_S_change_0 : decode c_S_change 0 = .ok (.aload_n 0, 1) := by decide +kernel
theorem d_S_change_1 : decode c_S_change 1 = .ok (.iload_n 2, 1) := by decide +kernel
theorem d_S_change_2 : decode c_S_change 2 = .ok (.iload_n 3, 1) := by decide +kernel
theorem d_S_change_3 : decode c_S_change 3 = .ok (.invokevirtual 51, 3) := by decide +kernel
theorem d_S_change_6 : decode c_S_change 6 = .ok (.iload_n 3, 1) := by decide +kernel
theorem d_S_change_7 : decode c_S_change 7 = .ok (.invokestatic 169, 3) := by decide +kernel
theorem d_S_change_10 : decode c_S_change 10 = .ok (.lstore 6, 2) := by decide +kernel
theorem d_S_change_12 : decode c_S_change 12 = .ok (.aload_n 0, 1) := by decide +kernel
theorem d_S_change_13 : decode c_S_change 13 = .ok (.iload_n 2, 1) := by decide +kernel
theorem d_S_change_14 : decode c_S_change 14 = .ok (.iload_n 3, 1) := by decide +kernel
theorem d_S_change_15 : decode c_S_change 15 = .ok (.iload_n 1, 1) := by decide +kernel
theorem d_S_change_16 : decode c_S_change 16 = .ok (.lload 6, 2) := by decide +kernel
theorem d_S_change_18 : decode c_S_change 18 = .ok (.lload 4, 2) := by decide +kernel
theorem d_S_change_20 : decode c_S_change 20 = .ok (.iload_n 3, 1) := by decide +kernel
theorem d_S_change_21 : decode c_S_change 21 = .ok (.invokestatic 169, 3) := by decide +kernel
theorem d_S_change_24 : decode c_S_change 24 = .ok (.invokestatic 173, 3) := by decide +kernel
theorem d_S_change_27 : decode c_S_change 27 = .ok (.invokevirtual 55, 3) := by decide +kernel
theorem d_S_change_30 : decode c_S_change 30 = .ok (.lload 6, 2) := by decide +kernel
theorem d_S_change_32 : decode c_S_change 32 = .ok (.lreturn, 1) := by decide +kernel
theorem d_S_changed_0 : decode c_S_changed 0 = .ok (.iload_n 0, 1) := by decide +kernel
theorem d_S_changed_1 : decode c_S_changed 1 = .ok (.tableswitch 187 0 28 #[131, 187, 187, 187, 135, 187, 187, 187, 139, 187, 187, 187, 143, 187, 187, 187, 147, 187, 187, 187, 153, 187, 187, 187, 159, 187, 187, 187, 173], 131) := by decide +kernel
theorem d_S_changed_132 : decode c_S_changed 132 = .ok (.lload_n 1, 1) := by decide +kernel
theorem d_S_changed_133 : decode c_S_changed 133 = .ok (.lload_n 3, 1) := by decide +kernel
theorem d_S_changed_134 : decode c_S_changed 134 = .ok (.ladd, 1) := by decide +kernel
theorem d_S_changed_135 : decode c_S_changed 135 = .ok (.lreturn, 1) := by decide +kernel
theorem d_S_changed_136 : decode c_S_changed 136 = .ok (.lload_n 1, 1) := by decide +kernel
theorem d_S_changed_137 : decode c_S_changed 137 = .ok (.lload_n 3, 1) := by decide +kernel
theorem d_S_changed_138 : decode c_S_changed 138 = .ok (.lxor, 1) := by decide +kernel
theorem d_S_changed_139 : decode c_S_changed 139 = .ok (.lreturn, 1) := by decide +kernel
theorem d_S_changed_140 : decode c_S_changed 140 = .ok (.lload_n 1, 1) := by decide +kernel
theorem d_S_changed_141 : decode c_S_changed 141 = .ok (.lload_n 3, 1) := by decide +kernel
theorem d_S_changed_142 : decode c_S_changed 142 = .ok (.lor, 1) := by decide +kernel
theorem d_S_changed_143 : decode c_S_changed 143 = .ok (.lreturn, 1) := by decide +kernel
theorem d_S_changed_144 : decode c_S_changed 144 = .ok (.lload_n 1, 1) := by decide +kernel
theorem d_S_changed_145 : decode c_S_changed 145 = .ok (.lload_n 3, 1) := by decide +kernel
theorem d_S_changed_146 : decode c_S_changed 146 = .ok (.land, 1) := by decide +kernel
theorem d_S_changed_147 : decode c_S_changed 147 = .ok (.lreturn, 1) := by decide +kernel
theorem d_S_changed_148 : decode c_S_changed 148 = .ok (.lload_n 1, 1) := by decide +kernel
theorem d_S_changed_149 : decode c_S_changed 149 = .ok (.lload_n 3, 1) := by decide +kernel
theorem d_S_changed_150 : decode c_S_changed 150 = .ok (.invokestatic 177, 3) := by decide +kernel
theorem d_S_changed_153 : decode c_S_changed 153 = .ok (.lreturn, 1) := by decide +kernel
theorem d_S_changed_154 : decode c_S_changed 154 = .ok (.lload_n 1, 1) := by decide +kernel
theorem d_S_changed_155 : decode c_S_changed 155 = .ok (.lload_n 3, 1) := by decide +kernel
theorem d_S_changed_156 : decode c_S_changed 156 = .ok (.invokestatic 180, 3) := by decide +kernel
theorem d_S_changed_159 : decode c_S_changed 159 = .ok (.lreturn, 1) := by decide +kernel
theorem d_S_changed_160 : decode c_S_changed 160 = .ok (.lload_n 1, 1) := by decide +kernel
theorem d_S_changed_161 : decode c_S_changed 161 = .ok (.lload_n 3, 1) := by decide +kernel
theorem d_S_changed_162 : decode c_S_changed 162 = .ok (.invokestatic 182, 3) := by decide +kernel
theorem d_S_changed_165 : decode c_S_changed 165 = .ok (.ifCond .eq 7, 3) := by decide +kernel
theorem d_S_changed_168 : decode c_S_changed 168 = .ok (.lload_n 1, 1) := by decide +kernel
theorem d_S_changed_169 : decode c_S_changed 169 = .ok (.goto 4, 3) := by decide +kernel
theorem d_S_changed_172 : decode c_S_changed 172 = .ok (.lload_n 3, 1) := by decide +kernel
theorem d_S_changed_173 : decode c_S_changed 173 = .ok (.lreturn, 1) := by decide +kernel
theorem d_S_changed_174 : decode c_S_changed 174 = .ok (.lload_n 1, 1) := by decide +kernel
theorem d_S_changed_175 : decode c_S_changed 175 = .ok (.lload_n 3, 1) := by decide +kernel
theorem d_S_changed_176 : decode c_S_changed 176 = .ok (.invokestatic 182, 3) := by decide +kernel
theorem d_S_changed_179 : decode c_S_changed 179 = .ok (.ifCond .eq 7, 3) := by decide +kernel
theorem d_S_changed_182 : decode c_S_changed 182 = .ok (.lload_n 3, 1) := by decide +kernel
theorem d_S_changed_183 : decode c_S_changed 183 = .ok (.goto 4, 3) := by decide +kernel
theorem d_S_changed_186 : decode c_S_changed 186 = .ok (.lload_n 1, 1) := by decide +kernel
theorem d_S_changed_187 : decode c_S_changed 187 = .ok (.lreturn, 1) := by decide +kernel
theorem d_S_changed_188 : decode c_S_changed 188 = .ok (.lload_n 3, 1) := by decide +kernel
theorem d_S_changed_189 : decode c_S_changed 189 = .ok (.lreturn, 1) := by decide +kernel
theorem d_S_isLessUnsigned_0 : decode c_S_isLessUnsigned 0 = .ok (.lload_n 0, 1) := by decide +kernel
theorem d_S_isLessUnsigned_1 : decode c_S_isLessUnsigned 1 = .ok (.ldc2_w 188, 3) := by decide +kernel
theorem d_S_isLessUnsigned_4 : decode c_S_isLessUnsigned 4 = .ok (.ladd, 1) := by decide +kernel
theorem d_S_isLessUnsigned_5 : decode c_S_isLessUnsigned 5 = .ok (.lload_n 2, 1) := by decide +kernel
theorem d_S_isLessUnsigned_6 : decode c_S_isLessUnsigned 6 = .ok (.ldc2_w 188, 3) := by decide +kernel
theorem d_S_isLessUnsigned_9 : decode c_S_isLessUnsigned 9 = .ok (.ladd, 1) := by decide +kernel
theorem d_S_isLessUnsigned_10 : decode c_S_isLessUnsigned 10 = .ok (.lcmp, 1) := by decide +kernel
theorem d_S_isLessUnsigned_11 : decode c_S_isLessUnsigned 11 = .ok (.ifCond .ge 7, 3) := by decide +kernel
theorem d_S_isLessUnsigned_14 : decode c_S_isLessUnsigned 14 = .ok (.iconst 1, 1) := by decide +kernel
theorem d_S_isLessUnsigned_15 : decode c_S_isLessUnsigned 15 = .ok (.goto 4, 3) := by decide +kernel
theorem d_S_isLessUnsigned_18 : decode c_S_isLessUnsigned 18 = .ok (.iconst 0, 1) := by decide +kernel
theorem d_S_isLessUnsigned_19 : decode c_S_isLessUnsigned 19 = .ok (.ireturn, 1) := by decide +kernel
theorem d_S_drop_0 : decode c_S_drop 0 = .ok (.iload_n 1, 1) := by decide +kernel
theorem d_S_drop_1 : decode c_S_drop 1 = .ok (.invokestatic 80, 3) := by decide +kernel
theorem d_S_drop_4 : decode c_S_drop 4 = .ok (.ifCond .ne 13, 3) := by decide +kernel
theorem d_S_drop_7 : decode c_S_drop 7 = .ok (.new 42, 3) := by decide +kernel
theorem d_S_drop_10 : decode c_S_drop 10 = .ok (.dup, 1) := by decide +kernel
theorem d_S_drop_11 : decode c_S_drop 11 = .ok (.ldc 102, 2) := by decide +kernel
theorem d_S_drop_13 : decode c_S_drop 13 = .ok (.invokespecial 46, 3) := by decide +kernel
theorem d_S_drop_16 : decode c_S_drop 16 = .ok (.athrow, 1) := by decide +kernel
theorem d_S_drop_17 : decode c_S_drop 17 = .ok (.aload_n 0, 1) := by decide +kernel
theorem d_S_drop_18 : decode c_S_drop 18 = .ok (.getfield 19, 3) := by decide +kernel
theorem d_S_drop_21 : decode c_S_drop 21 = .ok (.iload_n 1, 1) := by decide +kernel
theorem d_S_drop_22 : decode c_S_drop 22 = .ok (.laload, 1) := by decide +kernel
theorem d_S_drop_23 : decode c_S_drop 23 = .ok (.lconst 0, 1) := by decide +kernel
theorem d_S_drop_24 : decode c_S_drop 24 = .ok (.lcmp, 1) := by decide +kernel
theorem d_S_drop_25 : decode c_S_drop 25 = .ok (.ifCond .eq 7, 3) := by decide +kernel
theorem d_S_drop_28 : decode c_S_drop 28 = .ok (.iconst 1, 1) := by decide +kernel
theorem d_S_drop_29 : decode c_S_drop 29 = .ok (.goto 4, 3) := by decide +kernel
theorem d_S_drop_32 : decode c_S_drop 32 = .ok (.iconst 0, 1) := by decide +kernel
theorem d_S_drop_33 : decode c_S_drop 33 = .ok (.istore_n 2, 1) := by decide +kernel
theorem d_S_drop_34 : decode c_S_drop 34 = .ok (.aload_n 0, 1) := by decide +kernel
theorem d_S_drop_35 : decode c_S_drop 35 = .ok (.getfield 19, 3) := by decide +kernel
theorem d_S_drop_38 : decode c_S_drop 38 = .ok (.iload_n 1, 1) := by decide +kernel
theorem d_S_drop_39 : decode c_S_drop 39 = .ok (.lconst 0, 1) := by decide +kernel
theorem d_S_drop_40 : decode c_S_drop 40 = .ok (.lastore, 1) := by decide +kernel
theorem d_S_drop_41 : decode c_S_drop 41 = .ok (.iload_n 2, 1) := by decide +kernel
theorem d_S_drop_42 : decode c_S_drop 42 = .ok (.ireturn, 1) := by decide +kernel
theorem d_S_reserved_0 : decode c_S_reserved 0 = .ok (.iload_n 1, 1) := by decide +kernel
theorem d_S_reserved_1 : decode c_S_reserved 1 = .ok (.invokestatic 80, 3) := by decide +kernel
theorem d_S_reserved_4 : decode c_S_reserved 4 = .ok (.ifCond .ne 13, 3) := by decide +kernel
theorem d_S_reserved_7 : decode c_S_reserved 7 = .ok (.new 42, 3) := by decide +kernel
theorem d_S_reserved_10 : decode c_S_reserved 10 = .ok (.dup, 1) := by decide +kernel
theorem d_S_reserved_11 : decode c_S_reserved 11 = .ok (.ldc 102, 2) := by decide +kernel
theorem d_S_reserved_13 : decode c_S_reserved 13 = .ok (.invokespecial 46, 3) := by decide +kernel
theorem d_S_reserved_16 : decode c_S_reserved 16 = .ok (.athrow, 1) := by decide +kernel
theorem d_S_reserved_17 : decode c_S_reserved 17 = .ok (.aload_n 0, 1) := by decide +kernel
theorem d_S_reserved_18 : decode c_S_reserved 18 = .ok (.getfield 19, 3) := by decide +kernel
theorem d_S_reserved_21 : decode c_S_reserved 21 = .ok (.iload_n 1, 1) := by decide +kernel
theorem d_S_reserved_22 : decode c_S_reserved 22 = .ok (.laload, 1) := by decide +kernel
theorem d_S_reserved_23 : decode c_S_reserved 23 = .ok (.lreturn, 1) := by decide +kernel
theorem d_S_writes_0 : decode c_S_writes 0 = .ok (.aload_n 0, 1) := by decide +kernel
theorem d_S_writes_1 : decode c_S_writes 1 = .ok (.iload_n 1, 1) := by decide +kernel
theorem d_S_writes_2 : decode c_S_writes 2 = .ok (.invokevirtual 104, 3) := by decide +kernel
theorem d_S_writes_5 : decode c_S_writes 5 = .ok (.ifCond .ne 13, 3) := by decide +kernel
theorem d_S_writes_8 : decode c_S_writes 8 = .ok (.new 42, 3) := by decide +kernel
theorem d_S_writes_11 : decode c_S_writes 11 = .ok (.dup, 1) := by decide +kernel
theorem d_S_writes_12 : decode c_S_writes 12 = .ok (.ldc 107, 2) := by decide +kernel
theorem d_S_writes_14 : decode c_S_writes 14 = .ok (.invokespecial 46, 3) := by decide +kernel
theorem d_S_writes_17 : decode c_S_writes 17 = .ok (.athrow, 1) := by decide +kernel
theorem d_S_writes_18 : decode c_S_writes 18 = .ok (.aload_n 0, 1) := by decide +kernel
theorem d_S_writes_19 : decode c_S_writes 19 = .ok (.getfield 15, 3) := by decide +kernel
theorem d_S_writes_22 : decode c_S_writes 22 = .ok (.iload_n 1, 1) := by decide +kernel
theorem d_S_writes_23 : decode c_S_writes 23 = .ok (.aaload, 1) := by decide +kernel
theorem d_S_writes_24 : decode c_S_writes 24 = .ok (.astore_n 2, 1) := by decide +kernel
theorem d_S_writes_25 : decode c_S_writes 25 = .ok (.aload_n 2, 1) := by decide +kernel
theorem d_S_writes_26 : decode c_S_writes 26 = .ok (.ifnonnull 7, 3) := by decide +kernel
theorem d_S_writes_29 : decode c_S_writes 29 = .ok (.lconst 0, 1) := by decide +kernel
theorem d_S_writes_30 : decode c_S_writes 30 = .ok (.goto 7, 3) := by decide +kernel
theorem d_S_writes_33 : decode c_S_writes 33 = .ok (.aload_n 2, 1) := by decide +kernel
theorem d_S_writes_34 : decode c_S_writes 34 = .ok (.invokevirtual 109, 3) := by decide +kernel
theorem d_S_writes_37 : decode c_S_writes 37 = .ok (.lreturn, 1) := by decide +kernel
theorem d_S_isPage_0 : decode c_S_isPage 0 = .ok (.iload_n 1, 1) := by decide +kernel
theorem d_S_isPage_1 : decode c_S_isPage 1 = .ok (.ifCond .lt 15, 3) := by decide +kernel
theorem d_S_isPage_4 : decode c_S_isPage 4 = .ok (.iload_n 1, 1) := by decide +kernel
theorem d_S_isPage_5 : decode c_S_isPage 5 = .ok (.aload_n 0, 1) := by decide +kernel
theorem d_S_isPage_6 : decode c_S_isPage 6 = .ok (.getfield 9, 3) := by decide +kernel
theorem d_S_isPage_9 : decode c_S_isPage 9 = .ok (.if_icmp .ge 7, 3) := by decide +kernel
theorem d_S_isPage_12 : decode c_S_isPage 12 = .ok (.iconst 1, 1) := by decide +kernel
theorem d_S_isPage_13 : decode c_S_isPage 13 = .ok (.goto 4, 3) := by decide +kernel
theorem d_S_isPage_16 : decode c_S_isPage 16 = .ok (.iconst 0, 1) := by decide +kernel
theorem d_S_isPage_17 : decode c_S_isPage 17 = .ok (.ireturn, 1) := by decide +kernel
theorem d_P_writeCount_0 : decode c_P_writeCount 0 = .ok (.aload_n 0, 1) := by decide +kernel
theorem d_P_writeCount_1 : decode c_P_writeCount 1 = .ok (.getfield 15, 3) := by decide +kernel
theorem d_P_writeCount_4 : decode c_P_writeCount 4 = .ok (.lreturn, 1) := by decide +kernel
theorem d_S_sum_0 : decode c_S_sum 0 = .ok (.aload_n 0, 1) := by decide +kernel
theorem d_S_sum_1 : decode c_S_sum 1 = .ok (.iload_n 1, 1) := by decide +kernel
theorem d_S_sum_2 : decode c_S_sum 2 = .ok (.invokevirtual 104, 3) := by decide +kernel
theorem d_S_sum_5 : decode c_S_sum 5 = .ok (.ifCond .ne 13, 3) := by decide +kernel
theorem d_S_sum_8 : decode c_S_sum 8 = .ok (.new 42, 3) := by decide +kernel
theorem d_S_sum_11 : decode c_S_sum 11 = .ok (.dup, 1) := by decide +kernel
theorem d_S_sum_12 : decode c_S_sum 12 = .ok (.ldc 107, 2) := by decide +kernel
theorem d_S_sum_14 : decode c_S_sum 14 = .ok (.invokespecial 46, 3) := by decide +kernel
theorem d_S_sum_17 : decode c_S_sum 17 = .ok (.athrow, 1) := by decide +kernel
theorem d_S_sum_18 : decode c_S_sum 18 = .ok (.aload_n 0, 1) := by decide +kernel
theorem d_S_sum_19 : decode c_S_sum 19 = .ok (.getfield 15, 3) := by decide +kernel
theorem d_S_sum_22 : decode c_S_sum 22 = .ok (.iload_n 1, 1) := by decide +kernel
theorem d_S_sum_23 : decode c_S_sum 23 = .ok (.aaload, 1) := by decide +kernel
theorem d_S_sum_24 : decode c_S_sum 24 = .ok (.astore_n 2, 1) := by decide +kernel
theorem d_S_sum_25 : decode c_S_sum 25 = .ok (.aload_n 2, 1) := by decide +kernel
theorem d_S_sum_26 : decode c_S_sum 26 = .ok (.ifnonnull 7, 3) := by decide +kernel
theorem d_S_sum_29 : decode c_S_sum 29 = .ok (.lconst 0, 1) := by decide +kernel
theorem d_S_sum_30 : decode c_S_sum 30 = .ok (.goto 7, 3) := by decide +kernel
theorem d_S_sum_33 : decode c_S_sum 33 = .ok (.aload_n 2, 1) := by decide +kernel
theorem d_S_sum_34 : decode c_S_sum 34 = .ok (.invokevirtual 112, 3) := by decide +kernel
theorem d_S_sum_37 : decode c_S_sum 37 = .ok (.lreturn, 1) := by decide +kernel
theorem d_P_weightedSum_0 : decode c_P_weightedSum 0 = .ok (.lconst 0, 1) := by decide +kernel
theorem d_P_weightedSum_1 : decode c_P_weightedSum 1 = .ok (.lstore_n 1, 1) := by decide +kernel
theorem d_P_weightedSum_2 : decode c_P_weightedSum 2 = .ok (.iconst 0, 1) := by decide +kernel
theorem d_P_weightedSum_3 : decode c_P_weightedSum 3 = .ok (.istore_n 3, 1) := by decide +kernel
theorem d_P_weightedSum_4 : decode c_P_weightedSum 4 = .ok (.iload_n 3, 1) := by decide +kernel
theorem d_P_weightedSum_5 : decode c_P_weightedSum 5 = .ok (.sipush 512, 3) := by decide +kernel
theorem d_P_weightedSum_8 : decode c_P_weightedSum 8 = .ok (.if_icmp .ge 69, 3) := by decide +kernel
theorem d_P_weightedSum_11 : decode c_P_weightedSum 11 = .ok (.aload_n 0, 1) := by decide +kernel
theorem d_P_weightedSum_12 : decode c_P_weightedSum 12 = .ok (.iload_n 3, 1) := by decide +kernel
theorem d_P_weightedSum_13 : decode c_P_weightedSum 13 = .ok (.invokevirtual 30, 3) := by decide +kernel
theorem d_P_weightedSum_16 : decode c_P_weightedSum 16 = .ok (.lstore 4, 2) := by decide +kernel
theorem d_P_weightedSum_18 : decode c_P_weightedSum 18 = .ok (.bipush 8, 2) := by decide +kernel
theorem d_P_weightedSum_20 : decode c_P_weightedSum 20 = .ok (.iload_n 3, 1) := by decide +kernel
theorem d_P_weightedSum_21 : decode c_P_weightedSum 21 = .ok (.imul, 1) := by decide +kernel
theorem d_P_weightedSum_22 : decode c_P_weightedSum 22 = .ok (.iconst 1, 1) := by decide +kernel
theorem d_P_weightedSum_23 : decode c_P_weightedSum 23 = .ok (.iadd, 1) := by decide +kernel
theorem d_P_weightedSum_24 : decode c_P_weightedSum 24 = .ok (.istore 6, 2) := by decide +kernel
theorem d_P_weightedSum_26 : decode c_P_weightedSum 26 = .ok (.lload 4, 2) := by decide +kernel
theorem d_P_weightedSum_28 : decode c_P_weightedSum 28 = .ok (.lconst 0, 1) := by decide +kernel
theorem d_P_weightedSum_29 : decode c_P_weightedSum 29 = .ok (.lcmp, 1) := by decide +kernel
theorem d_P_weightedSum_30 : decode c_P_weightedSum 30 = .ok (.ifCond .eq 41, 3) := by decide +kernel
theorem d_P_weightedSum_33 : decode c_P_weightedSum 33 = .ok (.iload 6, 2) := by decide +kernel
theorem d_P_weightedSum_35 : decode c_P_weightedSum 35 = .ok (.bipush 8, 2) := by decide +kernel
theorem d_P_weightedSum_37 : decode c_P_weightedSum 37 = .ok (.iload_n 3, 1) := by decide +kernel
theorem d_P_weightedSum_38 : decode c_P_weightedSum 38 = .ok (.imul, 1) := by decide +kernel
theorem d_P_weightedSum_39 : decode c_P_weightedSum 39 = .ok (.bipush 8, 2) := by decide +kernel
theorem d_P_weightedSum_41 : decode c_P_weightedSum 41 = .ok (.iadd, 1) := by decide +kernel
theorem d_P_weightedSum_42 : decode c_P_weightedSum 42 = .ok (.if_icmp .gt 29, 3) := by decide +kernel
theorem d_P_weightedSum_45 : decode c_P_weightedSum 45 = .ok (.lload_n 1, 1) := by decide +kernel
theorem d_P_weightedSum_46 : decode c_P_weightedSum 46 = .ok (.lload 4, 2) := by decide +kernel
theorem d_P_weightedSum_48 : decode c_P_weightedSum 48 = .ok (.ldc2_w 58, 3) := by decide +kernel
theorem d_P_weightedSum_51 : decode c_P_weightedSum 51 = .ok (.land, 1) := by decide +kernel
theorem d_P_weightedSum_52 : decode c_P_weightedSum 52 = .ok (.iload 6, 2) := by decide +kernel
theorem d_P_weightedSum_54 : decode c_P_weightedSum 54 = .ok (.i2l, 1) := by decide +kernel
theorem d_P_weightedSum_55 : decode c_P_weightedSum 55 = .ok (.lmul, 1) := by decide +kernel
theorem d_P_weightedSum_56 : decode c_P_weightedSum 56 = .ok (.ladd, 1) := by decide +kernel
theorem d_P_weightedSum_57 : decode c_P_weightedSum 57 = .ok (.lstore_n 1, 1) := by decide +kernel
theorem d_P_weightedSum_58 : decode c_P_weightedSum 58 = .ok (.lload 4, 2) := by decide +kernel
theorem d_P_weightedSum_60 : decode c_P_weightedSum 60 = .ok (.bipush 8, 2) := by decide +kernel
theorem d_P_weightedSum_62 : decode c_P_weightedSum 62 = .ok (.lushr, 1) := by decide +kernel
theorem d_P_weightedSum_63 : decode c_P_weightedSum 63 = .ok (.lstore 4, 2) := by decide +kernel
theorem d_P_weightedSum_65 : decode c_P_weightedSum 65 = .ok (.iinc 6 1, 3) := by decide +kernel
theorem d_P_weightedSum_68 : decode c_P_weightedSum 68 = .ok (.goto (-42), 3) := by decide +kernel
theorem d_P_weightedSum_71 : decode c_P_weightedSum 71 = .ok (.iinc 3 1, 3) := by decide +kernel
theorem d_P_weightedSum_74 : decode c_P_weightedSum 74 = .ok (.goto (-70), 3) := by decide +kernel
theorem d_P_weightedSum_77 : decode c_P_weightedSum 77 = .ok (.lload_n 1, 1) := by decide +kernel
theorem d_P_weightedSum_78 : decode c_P_weightedSum 78 = .ok (.lreturn, 1) := by decide +kernel
