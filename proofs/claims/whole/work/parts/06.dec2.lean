theorem d_L_cell_0 : decode c_L_cell 0 = .ok (.iload_n 1, 1) := by decide +kernel
theorem d_L_cell_1 : decode c_L_cell 1 = .ok (.aload_n 0, 1) := by decide +kernel
theorem d_L_cell_2 : decode c_L_cell 2 = .ok (.arraylength, 1) := by decide +kernel
theorem d_L_cell_3 : decode c_L_cell 3 = .ok (.if_icmp .ge 9, 3) := by decide +kernel
theorem d_L_cell_6 : decode c_L_cell 6 = .ok (.aload_n 0, 1) := by decide +kernel
theorem d_L_cell_7 : decode c_L_cell 7 = .ok (.iload_n 1, 1) := by decide +kernel
theorem d_L_cell_8 : decode c_L_cell 8 = .ok (.iaload, 1) := by decide +kernel
theorem d_L_cell_9 : decode c_L_cell 9 = .ok (.goto 4, 3) := by decide +kernel
theorem d_L_cell_12 : decode c_L_cell 12 = .ok (.iconst 0, 1) := by decide +kernel
theorem d_L_cell_13 : decode c_L_cell 13 = .ok (.ireturn, 1) := by decide +kernel
theorem d_L_load_0 : decode c_L_load 0 = .ok (.aload 4, 2) := by decide +kernel
theorem d_L_load_2 : decode c_L_load 2 = .ok (.iconst 0, 1) := by decide +kernel
theorem d_L_load_3 : decode c_L_load 3 = .ok (.aload_n 0, 1) := by decide +kernel
theorem d_L_load_4 : decode c_L_load 4 = .ok (.lload_n 1, 1) := by decide +kernel
theorem d_L_load_5 : decode c_L_load 5 = .ok (.iload_n 3, 1) := by decide +kernel
theorem d_L_load_6 : decode c_L_load 6 = .ok (.invokevirtual 7, 3) := by decide +kernel
theorem d_L_load_9 : decode c_L_load 9 = .ok (.lastore, 1) := by decide +kernel
theorem d_L_load_10 : decode c_L_load 10 = .ok (.goto 11, 3) := by decide +kernel
theorem d_L_load_13 : decode c_L_load 13 = .ok (.astore 5, 2) := by decide +kernel
theorem d_L_load_15 : decode c_L_load 15 = .ok (.iconst 1, 1) := by decide +kernel
theorem d_L_load_16 : decode c_L_load 16 = .ok (.ireturn, 1) := by decide +kernel
theorem d_L_load_17 : decode c_L_load 17 = .ok (.astore 5, 2) := by decide +kernel
theorem d_L_load_19 : decode c_L_load 19 = .ok (.iconst 2, 1) := by decide +kernel
theorem d_L_load_20 : decode c_L_load 20 = .ok (.ireturn, 1) := by decide +kernel
theorem d_L_load_21 : decode c_L_load 21 = .ok (.iconst 0, 1) := by decide +kernel
theorem d_L_load_22 : decode c_L_load 22 = .ok (.ireturn, 1) := by decide +kernel
theorem d_L_store_0 : decode c_L_store 0 = .ok (.aload_n 0, 1) := by decide +kernel
theorem d_L_store_1 : decode c_L_store 1 = .ok (.lload_n 1, 1) := by decide +kernel
theorem d_L_store_2 : decode c_L_store 2 = .ok (.iload_n 3, 1) := by decide +kernel
theorem d_L_store_3 : decode c_L_store 3 = .ok (.lload 4, 2) := by decide +kernel
theorem d_L_store_5 : decode c_L_store 5 = .ok (.invokevirtual 17, 3) := by decide +kernel
theorem d_L_store_8 : decode c_L_store 8 = .ok (.goto 11, 3) := by decide +kernel
theorem d_L_store_11 : decode c_L_store 11 = .ok (.astore 6, 2) := by decide +kernel
theorem d_L_store_13 : decode c_L_store 13 = .ok (.iconst 1, 1) := by decide +kernel
theorem d_L_store_14 : decode c_L_store 14 = .ok (.ireturn, 1) := by decide +kernel
theorem d_L_store_15 : decode c_L_store 15 = .ok (.astore 6, 2) := by decide +kernel
theorem d_L_store_17 : decode c_L_store 17 = .ok (.iconst 2, 1) := by decide +kernel
theorem d_L_store_18 : decode c_L_store 18 = .ok (.ireturn, 1) := by decide +kernel
theorem d_L_store_19 : decode c_L_store 19 = .ok (.iconst 0, 1) := by decide +kernel
theorem d_L_store_20 : decode c_L_store 20 = .ok (.ireturn, 1) := by decide +kernel
theorem d_L_fill_0 : decode c_L_fill 0 = .ok (.aload_n 0, 1) := by decide +kernel
theorem d_L_fill_1 : decode c_L_fill 1 = .ok (.lload_n 1, 1) := by decide +kernel
theorem d_L_fill_2 : decode c_L_fill 2 = .ok (.lload_n 3, 1) := by decide +kernel
theorem d_L_fill_3 : decode c_L_fill 3 = .ok (.iload 5, 2) := by decide +kernel
theorem d_L_fill_5 : decode c_L_fill 5 = .ok (.invokevirtual 21, 3) := by decide +kernel
theorem d_L_fill_8 : decode c_L_fill 8 = .ok (.goto 11, 3) := by decide +kernel
theorem d_L_fill_11 : decode c_L_fill 11 = .ok (.astore 6, 2) := by decide +kernel
theorem d_L_fill_13 : decode c_L_fill 13 = .ok (.iconst 1, 1) := by decide +kernel
theorem d_L_fill_14 : decode c_L_fill 14 = .ok (.ireturn, 1) := by decide +kernel
theorem d_L_fill_15 : decode c_L_fill 15 = .ok (.astore 6, 2) := by decide +kernel
theorem d_L_fill_17 : decode c_L_fill 17 = .ok (.iconst 2, 1) := by decide +kernel
theorem d_L_fill_18 : decode c_L_fill 18 = .ok (.ireturn, 1) := by decide +kernel
theorem d_L_fill_19 : decode c_L_fill 19 = .ok (.iconst 0, 1) := by decide +kernel
theorem d_L_fill_20 : decode c_L_fill 20 = .ok (.ireturn, 1) := by decide +kernel
theorem d_L_atomic_0 : decode c_L_atomic 0 = .ok (.aload 8, 2) := by decide +kernel
theorem d_L_atomic_2 : decode c_L_atomic 2 = .ok (.iconst 0, 1) := by decide +kernel
theorem d_L_atomic_3 : decode c_L_atomic 3 = .ok (.aload_n 0, 1) := by decide +kernel
theorem d_L_atomic_4 : decode c_L_atomic 4 = .ok (.iload_n 1, 1) := by decide +kernel
theorem d_L_atomic_5 : decode c_L_atomic 5 = .ok (.iload_n 2, 1) := by decide +kernel
theorem d_L_atomic_6 : decode c_L_atomic 6 = .ok (.lload_n 3, 1) := by decide +kernel
theorem d_L_atomic_7 : decode c_L_atomic 7 = .ok (.iload 5, 2) := by decide +kernel
theorem d_L_atomic_9 : decode c_L_atomic 9 = .ok (.lload 6, 2) := by decide +kernel
theorem d_L_atomic_11 : decode c_L_atomic 11 = .ok (.invokevirtual 25, 3) := by decide +kernel
theorem d_L_atomic_14 : decode c_L_atomic 14 = .ok (.lastore, 1) := by decide +kernel
theorem d_L_atomic_15 : decode c_L_atomic 15 = .ok (.goto 15, 3) := by decide +kernel
theorem d_L_atomic_18 : decode c_L_atomic 18 = .ok (.astore 9, 2) := by decide +kernel
theorem d_L_atomic_20 : decode c_L_atomic 20 = .ok (.iconst 1, 1) := by decide +kernel
theorem d_L_atomic_21 : decode c_L_atomic 21 = .ok (.ireturn, 1) := by decide +kernel
theorem d_L_atomic_22 : decode c_L_atomic 22 = .ok (.astore 9, 2) := by decide +kernel
theorem d_L_atomic_24 : decode c_L_atomic 24 = .ok (.iconst 2, 1) := by decide +kernel
theorem d_L_atomic_25 : decode c_L_atomic 25 = .ok (.ireturn, 1) := by decide +kernel
theorem d_L_atomic_26 : decode c_L_atomic 26 = .ok (.astore 9, 2) := by decide +kernel
theorem d_L_atomic_28 : decode c_L_atomic 28 = .ok (.iconst 3, 1) := by decide +kernel
theorem d_L_atomic_29 : decode c_L_atomic 29 = .ok (.ireturn, 1) := by decide +kernel
theorem d_L_atomic_30 : decode c_L_atomic 30 = .ok (.iconst 0, 1) := by decide +kernel
theorem d_L_atomic_31 : decode c_L_atomic 31 = .ok (.ireturn, 1) := by decide +kernel
theorem d_L_drop_0 : decode c_L_drop 0 = .ok (.aload_n 2, 1) := by decide +kernel
theorem d_L_drop_1 : decode c_L_drop 1 = .ok (.iconst 0, 1) := by decide +kernel
theorem d_L_drop_2 : decode c_L_drop 2 = .ok (.aload_n 0, 1) := by decide +kernel
theorem d_L_drop_3 : decode c_L_drop 3 = .ok (.iload_n 1, 1) := by decide +kernel
theorem d_L_drop_4 : decode c_L_drop 4 = .ok (.invokevirtual 31, 3) := by decide +kernel
theorem d_L_drop_7 : decode c_L_drop 7 = .ok (.ifCond .eq 7, 3) := by decide +kernel
theorem d_L_drop_10 : decode c_L_drop 10 = .ok (.lconst 1, 1) := by decide +kernel
theorem d_L_drop_11 : decode c_L_drop 11 = .ok (.goto 4, 3) := by decide +kernel
theorem d_L_drop_14 : decode c_L_drop 14 = .ok (.lconst 0, 1) := by decide +kernel
theorem d_L_drop_15 : decode c_L_drop 15 = .ok (.lastore, 1) := by decide +kernel
theorem d_L_drop_16 : decode c_L_drop 16 = .ok (.goto 6, 3) := by decide +kernel
theorem d_L_drop_19 : decode c_L_drop 19 = .ok (.astore_n 3, 1) := by decide +kernel
theorem d_L_drop_20 : decode c_L_drop 20 = .ok (.iconst 1, 1) := by decide +kernel
theorem d_L_drop_21 : decode c_L_drop 21 = .ok (.ireturn, 1) := by decide +kernel
theorem d_L_drop_22 : decode c_L_drop 22 = .ok (.iconst 0, 1) := by decide +kernel
theorem d_L_drop_23 : decode c_L_drop 23 = .ok (.ireturn, 1) := by decide +kernel
theorem d_L_reserved_0 : decode c_L_reserved 0 = .ok (.aload_n 2, 1) := by decide +kernel
theorem d_L_reserved_1 : decode c_L_reserved 1 = .ok (.iconst 0, 1) := by decide +kernel
theorem d_L_reserved_2 : decode c_L_reserved 2 = .ok (.aload_n 0, 1) := by decide +kernel
theorem d_L_reserved_3 : decode c_L_reserved 3 = .ok (.iload_n 1, 1) := by decide +kernel
theorem d_L_reserved_4 : decode c_L_reserved 4 = .ok (.invokevirtual 35, 3) := by decide +kernel
theorem d_L_reserved_7 : decode c_L_reserved 7 = .ok (.lastore, 1) := by decide +kernel
theorem d_L_reserved_8 : decode c_L_reserved 8 = .ok (.goto 6, 3) := by decide +kernel
theorem d_L_reserved_11 : decode c_L_reserved 11 = .ok (.astore_n 3, 1) := by decide +kernel
theorem d_L_reserved_12 : decode c_L_reserved 12 = .ok (.iconst 1, 1) := by decide +kernel
theorem d_L_reserved_13 : decode c_L_reserved 13 = .ok (.ireturn, 1) := by decide +kernel
theorem d_L_reserved_14 : decode c_L_reserved 14 = .ok (.iconst 0, 1) := by decide +kernel
theorem d_L_reserved_15 : decode c_L_reserved 15 = .ok (.ireturn, 1) := by decide +kernel
theorem d_L_writes_0 : decode c_L_writes 0 = .ok (.aload_n 2, 1) := by decide +kernel
theorem d_L_writes_1 : decode c_L_writes 1 = .ok (.iconst 0, 1) := by decide +kernel
theorem d_L_writes_2 : decode c_L_writes 2 = .ok (.aload_n 0, 1) := by decide +kernel
theorem d_L_writes_3 : decode c_L_writes 3 = .ok (.iload_n 1, 1) := by decide +kernel
theorem d_L_writes_4 : decode c_L_writes 4 = .ok (.invokevirtual 39, 3) := by decide +kernel
theorem d_L_writes_7 : decode c_L_writes 7 = .ok (.lastore, 1) := by decide +kernel
theorem d_L_writes_8 : decode c_L_writes 8 = .ok (.goto 6, 3) := by decide +kernel
theorem d_L_writes_11 : decode c_L_writes 11 = .ok (.astore_n 3, 1) := by decide +kernel
theorem d_L_writes_12 : decode c_L_writes 12 = .ok (.iconst 1, 1) := by decide +kernel
theorem d_L_writes_13 : decode c_L_writes 13 = .ok (.ireturn, 1) := by decide +kernel
theorem d_L_writes_14 : decode c_L_writes 14 = .ok (.iconst 0, 1) := by decide +kernel
theorem d_L_writes_15 : decode c_L_writes 15 = .ok (.ireturn, 1) := by decide +kernel
theorem d_L_sum_0 : decode c_L_sum 0 = .ok (.aload_n 2, 1) := by decide +kernel
theorem d_L_sum_1 : decode c_L_sum 1 = .ok (.iconst 0, 1) := by decide +kernel
theorem d_L_sum_2 : decode c_L_sum 2 = .ok (.aload_n 0, 1) := by decide +kernel
theorem d_L_sum_3 : decode c_L_sum 3 = .ok (.iload_n 1, 1) := by decide +kernel
theorem d_L_sum_4 : decode c_L_sum 4 = .ok (.invokevirtual 42, 3) := by decide +kernel
theorem d_L_sum_7 : decode c_L_sum 7 = .ok (.lastore, 1) := by decide +kernel
theorem d_L_sum_8 : decode c_L_sum 8 = .ok (.goto 6, 3) := by decide +kernel
theorem d_L_sum_11 : decode c_L_sum 11 = .ok (.astore_n 3, 1) := by decide +kernel
theorem d_L_sum_12 : decode c_L_sum 12 = .ok (.iconst 1, 1) := by decide +kernel
theorem d_L_sum_13 : decode c_L_sum 13 = .ok (.ireturn, 1) := by decide +kernel
theorem d_L_sum_14 : decode c_L_sum 14 = .ok (.iconst 0, 1) := by decide +kernel
theorem d_L_sum_15 : decode c_L_sum 15 = .ok (.ireturn, 1) := by decide +kernel
theorem d_M_init_0 : decode c_M_init 0 = .ok (.aload_n 0, 1) := by decide +kernel
theorem d_M_init_1 : decode c_M_init 1 = .ok (.invokespecial 1, 3) := by decide +kernel
theorem d_M_init_4 : decode c_M_init 4 = .ok (.aload_n 0, 1) := by decide +kernel
theorem d_M_init_5 : decode c_M_init 5 = .ok (.ldc 7, 2) := by decide +kernel
theorem d_M_init_7 : decode c_M_init 7 = .ok (.newarray .long, 2) := by decide +kernel
theorem d_M_init_9 : decode c_M_init 9 = .ok (.putfield 8, 3) := by decide +kernel
theorem d_M_init_12 : decode c_M_init 12 = .ok (.aload_n 0, 1) := by decide +kernel
theorem d_M_init_13 : decode c_M_init 13 = .ok (.sipush 1024, 3) := by decide +kernel
theorem d_M_init_16 : decode c_M_init 16 = .ok (.newarray .long, 2) := by decide +kernel
theorem d_M_init_18 : decode c_M_init 18 = .ok (.putfield 14, 3) := by decide +kernel
theorem d_M_init_21 : decode c_M_init 21 = .ok (.aload_n 0, 1) := by decide +kernel
theorem d_M_init_22 : decode c_M_init 22 = .ok (.iconst 4, 1) := by decide +kernel
theorem d_M_init_23 : decode c_M_init 23 = .ok (.newarray .long, 2) := by decide +kernel
theorem d_M_init_25 : decode c_M_init 25 = .ok (.putfield 17, 3) := by decide +kernel
theorem d_M_init_28 : decode c_M_init 28 = .ok (.aload_n 0, 1) := by decide +kernel
theorem d_M_init_29 : decode c_M_init 29 = .ok (.iconst 4, 1) := by decide +kernel
theorem d_M_init_30 : decode c_M_init 30 = .ok (.newarray .int, 2) := by decide +kernel
theorem d_M_init_32 : decode c_M_init 32 = .ok (.putfield 20, 3) := by decide +kernel
theorem d_M_init_35 : decode c_M_init 35 = .ok (.aload_n 0, 1) := by decide +kernel
theorem d_M_init_36 : decode c_M_init 36 = .ok (.iload_n 1, 1) := by decide +kernel
theorem d_M_init_37 : decode c_M_init 37 = .ok (.iconst 1, 1) := by decide +kernel
theorem d_M_init_38 : decode c_M_init 38 = .ok (.if_icmp .lt 10, 3) := by decide +kernel
theorem d_M_init_41 : decode c_M_init 41 = .ok (.iload_n 1, 1) := by decide +kernel
theorem d_M_init_42 : decode c_M_init 42 = .ok (.sipush 1024, 3) := by decide +kernel
theorem d_M_init_45 : decode c_M_init 45 = .ok (.if_icmp .le 9, 3) := by decide +kernel
theorem d_M_init_48 : decode c_M_init 48 = .ok (.sipush 1024, 3) := by decide +kernel
theorem d_M_init_51 : decode c_M_init 51 = .ok (.goto 4, 3) := by decide +kernel
theorem d_M_init_54 : decode c_M_init 54 = .ok (.iload_n 1, 1) := by decide +kernel
theorem d_M_init_55 : decode c_M_init 55 = .ok (.putfield 24, 3) := by decide +kernel
theorem d_M_init_58 : decode c_M_init 58 = .ok (.return_, 1) := by decide +kernel
theorem d_M_thrown_0 : decode c_M_thrown 0 = .ok (.aload_n 0, 1) := by decide +kernel
theorem d_M_thrown_1 : decode c_M_thrown 1 = .ok (.getfield 28, 3) := by decide +kernel
theorem d_M_thrown_4 : decode c_M_thrown 4 = .ok (.ireturn, 1) := by decide +kernel
theorem d_M_pages_0 : decode c_M_pages 0 = .ok (.aload_n 0, 1) := by decide +kernel
theorem d_M_pages_1 : decode c_M_pages 1 = .ok (.iconst 0, 1) := by decide +kernel
theorem d_M_pages_2 : decode c_M_pages 2 = .ok (.putfield 28, 3) := by decide +kernel
theorem d_M_pages_5 : decode c_M_pages 5 = .ok (.aload_n 0, 1) := by decide +kernel
theorem d_M_pages_6 : decode c_M_pages 6 = .ok (.getfield 24, 3) := by decide +kernel
theorem d_M_pages_9 : decode c_M_pages 9 = .ok (.ireturn, 1) := by decide +kernel
theorem d_M_load_0 : decode c_M_load 0 = .ok (.aload_n 0, 1) := by decide +kernel
theorem d_M_load_1 : decode c_M_load 1 = .ok (.iload_n 3, 1) := by decide +kernel
theorem d_M_load_2 : decode c_M_load 2 = .ok (.invokestatic 55, 3) := by decide +kernel
theorem d_M_load_5 : decode c_M_load 5 = .ok (.ifCond .ne 7, 3) := by decide +kernel
theorem d_M_load_8 : decode c_M_load 8 = .ok (.iconst 1, 1) := by decide +kernel
theorem d_M_load_9 : decode c_M_load 9 = .ok (.goto 17, 3) := by decide +kernel
theorem d_M_load_12 : decode c_M_load 12 = .ok (.aload_n 0, 1) := by decide +kernel
theorem d_M_load_13 : decode c_M_load 13 = .ok (.lload_n 1, 1) := by decide +kernel
theorem d_M_load_14 : decode c_M_load 14 = .ok (.iload_n 3, 1) := by decide +kernel
theorem d_M_load_15 : decode c_M_load 15 = .ok (.invokevirtual 59, 3) := by decide +kernel
theorem d_M_load_18 : decode c_M_load 18 = .ok (.ifCond .ne 7, 3) := by decide +kernel
theorem d_M_load_21 : decode c_M_load 21 = .ok (.iconst 2, 1) := by decide +kernel
theorem d_M_load_22 : decode c_M_load 22 = .ok (.goto 4, 3) := by decide +kernel
theorem d_M_load_25 : decode c_M_load 25 = .ok (.iconst 0, 1) := by decide +kernel
theorem d_M_load_26 : decode c_M_load 26 = .ok (.putfield 28, 3) := by decide +kernel
theorem d_M_load_29 : decode c_M_load 29 = .ok (.aload_n 0, 1) := by decide +kernel
theorem d_M_load_30 : decode c_M_load 30 = .ok (.getfield 28, 3) := by decide +kernel
theorem d_M_load_33 : decode c_M_load 33 = .ok (.ifCond .le 7, 3) := by decide +kernel
theorem d_M_load_36 : decode c_M_load 36 = .ok (.lconst 0, 1) := by decide +kernel
theorem d_M_load_37 : decode c_M_load 37 = .ok (.goto 9, 3) := by decide +kernel
theorem d_M_load_40 : decode c_M_load 40 = .ok (.aload_n 0, 1) := by decide +kernel
theorem d_M_load_41 : decode c_M_load 41 = .ok (.lload_n 1, 1) := by decide +kernel
theorem d_M_load_42 : decode c_M_load 42 = .ok (.iload_n 3, 1) := by decide +kernel
theorem d_M_load_43 : decode c_M_load 43 = .ok (.invokevirtual 63, 3) := by decide +kernel
theorem d_M_load_46 : decode c_M_load 46 = .ok (.lreturn, 1) := by decide +kernel
theorem d_M_isSize_0 : decode c_M_isSize 0 = .ok (.iload_n 0, 1) := by decide +kernel
theorem d_M_isSize_1 : decode c_M_isSize 1 = .ok (.iconst 1, 1) := by decide +kernel
theorem d_M_isSize_2 : decode c_M_isSize 2 = .ok (.if_icmp .eq 19, 3) := by decide +kernel
theorem d_M_isSize_5 : decode c_M_isSize 5 = .ok (.iload_n 0, 1) := by decide +kernel
theorem d_M_isSize_6 : decode c_M_isSize 6 = .ok (.iconst 2, 1) := by decide +kernel
theorem d_M_isSize_7 : decode c_M_isSize 7 = .ok (.if_icmp .eq 14, 3) := by decide +kernel
theorem d_M_isSize_10 : decode c_M_isSize 10 = .ok (.iload_n 0, 1) := by decide +kernel
theorem d_M_isSize_11 : decode c_M_isSize 11 = .ok (.iconst 4, 1) := by decide +kernel
theorem d_M_isSize_12 : decode c_M_isSize 12 = .ok (.if_icmp .eq 9, 3) := by decide +kernel
theorem d_M_isSize_15 : decode c_M_isSize 15 = .ok (.iload_n 0, 1) := by decide +kernel
theorem d_M_isSize_16 : decode c_M_isSize 16 = .ok (.bipush 8, 2) := by decide +kernel
theorem d_M_isSize_18 : decode c_M_isSize 18 = .ok (.if_icmp .ne 7, 3) := by decide +kernel
theorem d_M_isSize_21 : decode c_M_isSize 21 = .ok (.iconst 1, 1) := by decide +kernel
theorem d_M_isSize_22 : decode c_M_isSize 22 = .ok (.goto 4, 3) := by decide +kernel
theorem d_M_isSize_25 : decode c_M_isSize 25 = .ok (.iconst 0, 1) := by decide +kernel
theorem d_M_isSize_26 : decode c_M_isSize 26 = .ok (.ireturn, 1) := by decide +kernel
theorem d_M_areBytes_0 : decode c_M_areBytes 0 = .ok (.aload_n 0, 1) := by decide +kernel
theorem d_M_areBytes_1 : decode c_M_areBytes 1 = .ok (.lload_n 1, 1) := by decide +kernel
theorem d_M_areBytes_2 : decode c_M_areBytes 2 = .ok (.invokevirtual 35, 3) := by decide +kernel
theorem d_M_areBytes_5 : decode c_M_areBytes 5 = .ok (.ifCond .eq 20, 3) := by decide +kernel
theorem d_M_areBytes_8 : decode c_M_areBytes 8 = .ok (.aload_n 0, 1) := by decide +kernel
theorem d_M_areBytes_9 : decode c_M_areBytes 9 = .ok (.lload_n 1, 1) := by decide +kernel
theorem d_M_areBytes_10 : decode c_M_areBytes 10 = .ok (.iload_n 3, 1) := by decide +kernel
theorem d_M_areBytes_11 : decode c_M_areBytes 11 = .ok (.i2l, 1) := by decide +kernel
theorem d_M_areBytes_12 : decode c_M_areBytes 12 = .ok (.ladd, 1) := by decide +kernel
theorem d_M_areBytes_13 : decode c_M_areBytes 13 = .ok (.lconst 1, 1) := by decide +kernel
theorem d_M_areBytes_14 : decode c_M_areBytes 14 = .ok (.lsub, 1) := by decide +kernel
theorem d_M_areBytes_15 : decode c_M_areBytes 15 = .ok (.invokevirtual 35, 3) := by decide +kernel
theorem d_M_areBytes_18 : decode c_M_areBytes 18 = .ok (.ifCond .eq 7, 3) := by decide +kernel
theorem d_M_areBytes_21 : decode c_M_areBytes 21 = .ok (.iconst 1, 1) := by decide +kernel
theorem d_M_areBytes_22 : decode c_M_areBytes 22 = .ok (.goto 4, 3) := by decide +kernel
theorem d_M_areBytes_25 : decode c_M_areBytes 25 = .ok (.iconst 0, 1) := by decide +kernel
theorem d_M_areBytes_26 : decode c_M_areBytes 26 = .ok (.ireturn, 1) := by decide +kernel
theorem d_M_isByte_0 : decode c_M_isByte 0 = .ok (.lload_n 1, 1) := by decide +kernel
theorem d_M_isByte_1 : decode c_M_isByte 1 = .ok (.ldc2_w 31, 3) := by decide +kernel
theorem d_M_isByte_4 : decode c_M_isByte 4 = .ok (.lcmp, 1) := by decide +kernel
theorem d_M_isByte_5 : decode c_M_isByte 5 = .ok (.ifCond .lt 25, 3) := by decide +kernel
theorem d_M_isByte_8 : decode c_M_isByte 8 = .ok (.lload_n 1, 1) := by decide +kernel
theorem d_M_isByte_9 : decode c_M_isByte 9 = .ok (.ldc2_w 31, 3) := by decide +kernel
theorem d_M_isByte_12 : decode c_M_isByte 12 = .ok (.ldc2_w 33, 3) := by decide +kernel
theorem d_M_isByte_15 : decode c_M_isByte 15 = .ok (.aload_n 0, 1) := by decide +kernel
theorem d_M_isByte_16 : decode c_M_isByte 16 = .ok (.getfield 24, 3) := by decide +kernel
theorem d_M_isByte_19 : decode c_M_isByte 19 = .ok (.i2l, 1) := by decide +kernel
theorem d_M_isByte_20 : decode c_M_isByte 20 = .ok (.lmul, 1) := by decide +kernel
theorem d_M_isByte_21 : decode c_M_isByte 21 = .ok (.ladd, 1) := by decide +kernel
theorem d_M_isByte_22 : decode c_M_isByte 22 = .ok (.lcmp, 1) := by decide +kernel
theorem d_M_isByte_23 : decode c_M_isByte 23 = .ok (.ifCond .ge 7, 3) := by decide +kernel
theorem d_M_isByte_26 : decode c_M_isByte 26 = .ok (.iconst 1, 1) := by decide +kernel
theorem d_M_isByte_27 : decode c_M_isByte 27 = .ok (.goto 4, 3) := by decide +kernel
theorem d_M_isByte_30 : decode c_M_isByte 30 = .ok (.iconst 0, 1) := by decide +kernel
theorem d_M_isByte_31 : decode c_M_isByte 31 = .ok (.ireturn, 1) := by decide +kernel
theorem d_M_number_0 : decode c_M_number 0 = .ok (.lconst 0, 1) := by decide +kernel
theorem d_M_number_1 : decode c_M_number 1 = .ok (.lstore 4, 2) := by decide +kernel
theorem d_M_number_3 : decode c_M_number 3 = .ok (.iload_n 3, 1) := by decide +kernel
theorem d_M_number_4 : decode c_M_number 4 = .ok (.iconst 1, 1) := by decide +kernel
theorem d_M_number_5 : decode c_M_number 5 = .ok (.isub, 1) := by decide +kernel
theorem d_M_number_6 : decode c_M_number 6 = .ok (.istore 6, 2) := by decide +kernel
theorem d_M_number_8 : decode c_M_number 8 = .ok (.iload 6, 2) := by decide +kernel
theorem d_M_number_10 : decode c_M_number 10 = .ok (.ifCond .lt 28, 3) := by decide +kernel
theorem d_M_number_13 : decode c_M_number 13 = .ok (.ldc2_w 43, 3) := by decide +kernel
theorem d_M_number_16 : decode c_M_number 16 = .ok (.lload 4, 2) := by decide +kernel
theorem d_M_number_18 : decode c_M_number 18 = .ok (.lmul, 1) := by decide +kernel
theorem d_M_number_19 : decode c_M_number 19 = .ok (.aload_n 0, 1) := by decide +kernel
theorem d_M_number_20 : decode c_M_number 20 = .ok (.lload_n 1, 1) := by decide +kernel
theorem d_M_number_21 : decode c_M_number 21 = .ok (.iload 6, 2) := by decide +kernel
theorem d_M_number_23 : decode c_M_number 23 = .ok (.i2l, 1) := by decide +kernel
theorem d_M_number_24 : decode c_M_number 24 = .ok (.ladd, 1) := by decide +kernel
theorem d_M_number_25 : decode c_M_number 25 = .ok (.invokevirtual 45, 3) := by decide +kernel
theorem d_M_number_28 : decode c_M_number 28 = .ok (.i2l, 1) := by decide +kernel
theorem d_M_number_29 : decode c_M_number 29 = .ok (.ladd, 1) := by decide +kernel
theorem d_M_number_30 : decode c_M_number 30 = .ok (.lstore 4, 2) := by decide +kernel
theorem d_M_number_32 : decode c_M_number 32 = .ok (.iinc 6 (-1), 3) := by decide +kernel
theorem d_M_number_35 : decode c_M_number 35 = .ok (.goto (-27), 3) := by decide +kernel
theorem d_M_number_38 : decode c_M_number 38 = .ok (.lload 4, 2) := by decide +kernel
theorem d_M_number_40 : decode c_M_number 40 = .ok (.lreturn, 1) := by decide +kernel
theorem d_M_get_0 : decode c_M_get 0 = .ok (.lload_n 1, 1) := by decide +kernel
theorem d_M_get_1 : decode c_M_get 1 = .ok (.ldc2_w 31, 3) := by decide +kernel
theorem d_M_get_4 : decode c_M_get 4 = .ok (.lsub, 1) := by decide +kernel
theorem d_M_get_5 : decode c_M_get 5 = .ok (.l2i, 1) := by decide +kernel
theorem d_M_get_6 : decode c_M_get 6 = .ok (.istore_n 3, 1) := by decide +kernel
theorem d_M_get_7 : decode c_M_get 7 = .ok (.aload_n 0, 1) := by decide +kernel
theorem d_M_get_8 : decode c_M_get 8 = .ok (.getfield 8, 3) := by decide +kernel
theorem d_M_get_11 : decode c_M_get 11 = .ok (.iload_n 3, 1) := by decide +kernel
theorem d_M_get_12 : decode c_M_get 12 = .ok (.bipush 8, 2) := by decide +kernel
theorem d_M_get_14 : decode c_M_get 14 = .ok (.idiv, 1) := by decide +kernel
theorem d_M_get_15 : decode c_M_get 15 = .ok (.laload, 1) := by decide +kernel
theorem d_M_get_16 : decode c_M_get 16 = .ok (.bipush 8, 2) := by decide +kernel
theorem d_M_get_18 : decode c_M_get 18 = .ok (.iload_n 3, 1) := by decide +kernel
theorem d_M_get_19 : decode c_M_get 19 = .ok (.bipush 8, 2) := by decide +kernel
theorem d_M_get_21 : decode c_M_get 21 = .ok (.irem, 1) := by decide +kernel
theorem d_M_get_22 : decode c_M_get 22 = .ok (.imul, 1) := by decide +kernel
theorem d_M_get_23 : decode c_M_get 23 = .ok (.lushr, 1) := by decide +kernel
theorem d_M_get_24 : decode c_M_get 24 = .ok (.l2i, 1) := by decide +kernel
theorem d_M_get_25 : decode c_M_get 25 = .ok (.sipush 255, 3) := by decide +kernel
theorem d_M_get_28 : decode c_M_get 28 = .ok (.iand, 1) := by decide +kernel
theorem d_M_get_29 : decode c_M_get 29 = .ok (.ireturn, 1) := by decide +kernel
theorem d_M_store_0 : decode c_M_store 0 = .ok (.aload_n 0, 1) := by decide +kernel
theorem d_M_store_1 : decode c_M_store 1 = .ok (.iload_n 3, 1) := by decide +kernel
theorem d_M_store_2 : decode c_M_store 2 = .ok (.invokestatic 55, 3) := by decide +kernel
theorem d_M_store_5 : decode c_M_store 5 = .ok (.ifCond .ne 7, 3) := by decide +kernel
theorem d_M_store_8 : decode c_M_store 8 = .ok (.iconst 1, 1) := by decide +kernel
theorem d_M_store_9 : decode c_M_store 9 = .ok (.goto 17, 3) := by decide +kernel
theorem d_M_store_12 : decode c_M_store 12 = .ok (.aload_n 0, 1) := by decide +kernel
theorem d_M_store_13 : decode c_M_store 13 = .ok (.lload_n 1, 1) := by decide +kernel
theorem d_M_store_14 : decode c_M_store 14 = .ok (.iload_n 3, 1) := by decide +kernel
theorem d_M_store_15 : decode c_M_store 15 = .ok (.invokevirtual 59, 3) := by decide +kernel
theorem d_M_store_18 : decode c_M_store 18 = .ok (.ifCond .ne 7, 3) := by decide +kernel
theorem d_M_store_21 : decode c_M_store 21 = .ok (.iconst 2, 1) := by decide +kernel
theorem d_M_store_22 : decode c_M_store 22 = .ok (.goto 4, 3) := by decide +kernel
theorem d_M_store_25 : decode c_M_store 25 = .ok (.iconst 0, 1) := by decide +kernel
theorem d_M_store_26 : decode c_M_store 26 = .ok (.putfield 28, 3) := by decide +kernel
theorem d_M_store_29 : decode c_M_store 29 = .ok (.aload_n 0, 1) := by decide +kernel
theorem d_M_store_30 : decode c_M_store 30 = .ok (.getfield 28, 3) := by decide +kernel
theorem d_M_store_33 : decode c_M_store 33 = .ok (.ifCond .ne 11, 3) := by decide +kernel
theorem d_M_store_36 : decode c_M_store 36 = .ok (.aload_n 0, 1) := by decide +kernel
theorem d_M_store_37 : decode c_M_store 37 = .ok (.lload_n 1, 1) := by decide +kernel
theorem d_M_store_38 : decode c_M_store 38 = .ok (.iload_n 3, 1) := by decide +kernel
theorem d_M_store_39 : decode c_M_store 39 = .ok (.lload 4, 2) := by decide +kernel
theorem d_M_store_41 : decode c_M_store 41 = .ok (.invokevirtual 67, 3) := by decide +kernel
theorem d_M_store_44 : decode c_M_store 44 = .ok (.return_, 1) := by decide +kernel
theorem d_M_keep_0 : decode c_M_keep 0 = .ok (.iconst 0, 1) := by decide +kernel
theorem d_M_keep_1 : decode c_M_keep 1 = .ok (.istore 6, 2) := by decide +kernel
theorem d_M_keep_3 : decode c_M_keep 3 = .ok (.iload 6, 2) := by decide +kernel
theorem d_M_keep_5 : decode c_M_keep 5 = .ok (.iload_n 3, 1) := by decide +kernel
theorem d_M_keep_6 : decode c_M_keep 6 = .ok (.if_icmp .ge 133, 3) := by decide +kernel
theorem d_M_keep_9 : decode c_M_keep 9 = .ok (.lload_n 1, 1) := by decide +kernel
theorem d_M_keep_10 : decode c_M_keep 10 = .ok (.iload 6, 2) := by decide +kernel
theorem d_M_keep_12 : decode c_M_keep 12 = .ok (.i2l, 1) := by decide +kernel
theorem d_M_keep_13 : decode c_M_keep 13 = .ok (.ladd, 1) := by decide +kernel
theorem d_M_keep_14 : decode c_M_keep 14 = .ok (.lstore 7, 2) := by decide +kernel
theorem d_M_keep_16 : decode c_M_keep 16 = .ok (.aload_n 0, 1) := by decide +kernel
theorem d_M_keep_17 : decode c_M_keep 17 = .ok (.lload 7, 2) := by decide +kernel
theorem d_M_keep_19 : decode c_M_keep 19 = .ok (.lload 4, 2) := by decide +kernel
theorem d_M_keep_21 : decode c_M_keep 21 = .ok (.bipush 8, 2) := by decide +kernel
theorem d_M_keep_23 : decode c_M_keep 23 = .ok (.iload 6, 2) := by decide +kernel
theorem d_M_keep_25 : decode c_M_keep 25 = .ok (.imul, 1) := by decide +kernel
theorem d_M_keep_26 : decode c_M_keep 26 = .ok (.lushr, 1) := by decide +kernel
theorem d_M_keep_27 : decode c_M_keep 27 = .ok (.l2i, 1) := by decide +kernel
theorem d_M_keep_28 : decode c_M_keep 28 = .ok (.invokevirtual 49, 3) := by decide +kernel
theorem d_M_keep_31 : decode c_M_keep 31 = .ok (.iconst 0, 1) := by decide +kernel
theorem d_M_keep_32 : decode c_M_keep 32 = .ok (.istore 9, 2) := by decide +kernel
theorem d_M_keep_34 : decode c_M_keep 34 = .ok (.iload 9, 2) := by decide +kernel
theorem d_M_keep_36 : decode c_M_keep 36 = .ok (.iconst 4, 1) := by decide +kernel
theorem d_M_keep_37 : decode c_M_keep 37 = .ok (.if_icmp .ge 60, 3) := by decide +kernel
theorem d_M_keep_40 : decode c_M_keep 40 = .ok (.aload_n 0, 1) := by decide +kernel
theorem d_M_keep_41 : decode c_M_keep 41 = .ok (.getfield 17, 3) := by decide +kernel
theorem d_M_keep_44 : decode c_M_keep 44 = .ok (.iload 9, 2) := by decide +kernel
theorem d_M_keep_46 : decode c_M_keep 46 = .ok (.aload_n 0, 1) := by decide +kernel
theorem d_M_keep_47 : decode c_M_keep 47 = .ok (.getfield 17, 3) := by decide +kernel
theorem d_M_keep_50 : decode c_M_keep 50 = .ok (.iload 9, 2) := by decide +kernel
theorem d_M_keep_52 : decode c_M_keep 52 = .ok (.laload, 1) := by decide +kernel
theorem d_M_keep_53 : decode c_M_keep 53 = .ok (.lconst 0, 1) := by decide +kernel
theorem d_M_keep_54 : decode c_M_keep 54 = .ok (.lcmp, 1) := by decide +kernel
theorem d_M_keep_55 : decode c_M_keep 55 = .ok (.ifCond .le 28, 3) := by decide +kernel
theorem d_M_keep_58 : decode c_M_keep 58 = .ok (.aload_n 0, 1) := by decide +kernel
theorem d_M_keep_59 : decode c_M_keep 59 = .ok (.getfield 17, 3) := by decide +kernel
theorem d_M_keep_62 : decode c_M_keep 62 = .ok (.iload 9, 2) := by decide +kernel
theorem d_M_keep_64 : decode c_M_keep 64 = .ok (.laload, 1) := by decide +kernel
theorem d_M_keep_65 : decode c_M_keep 65 = .ok (.ldc2_w 53, 3) := by decide +kernel
theorem d_M_keep_68 : decode c_M_keep 68 = .ok (.ldiv, 1) := by decide +kernel
theorem d_M_keep_69 : decode c_M_keep 69 = .ok (.lload 7, 2) := by decide +kernel
theorem d_M_keep_71 : decode c_M_keep 71 = .ok (.ldc2_w 53, 3) := by decide +kernel
theorem d_M_keep_74 : decode c_M_keep 74 = .ok (.ldiv, 1) := by decide +kernel
theorem d_M_keep_75 : decode c_M_keep 75 = .ok (.lcmp, 1) := by decide +kernel
theorem d_M_keep_76 : decode c_M_keep 76 = .ok (.ifCond .ne 7, 3) := by decide +kernel
theorem d_M_keep_79 : decode c_M_keep 79 = .ok (.lconst 0, 1) := by decide +kernel
theorem d_M_keep_80 : decode c_M_keep 80 = .ok (.goto 10, 3) := by decide +kernel
theorem d_M_keep_83 : decode c_M_keep 83 = .ok (.aload_n 0, 1) := by decide +kernel
theorem d_M_keep_84 : decode c_M_keep 84 = .ok (.getfield 17, 3) := by decide +kernel
theorem d_M_keep_87 : decode c_M_keep 87 = .ok (.iload 9, 2) := by decide +kernel
theorem d_M_keep_89 : decode c_M_keep 89 = .ok (.laload, 1) := by decide +kernel
theorem d_M_keep_90 : decode c_M_keep 90 = .ok (.lastore, 1) := by decide +kernel
theorem d_M_keep_91 : decode c_M_keep 91 = .ok (.iinc 9 1, 3) := by decide +kernel
theorem d_M_keep_94 : decode c_M_keep 94 = .ok (.goto (-60), 3) := by decide +kernel
theorem d_M_keep_97 : decode c_M_keep 97 = .ok (.iload 6, 2) := by decide +kernel
theorem d_M_keep_99 : decode c_M_keep 99 = .ok (.ifCond .eq 14, 3) := by decide +kernel
theorem d_M_keep_102 : decode c_M_keep 102 = .ok (.lload 7, 2) := by decide +kernel
theorem d_M_keep_104 : decode c_M_keep 104 = .ok (.ldc2_w 33, 3) := by decide +kernel
theorem d_M_keep_107 : decode c_M_keep 107 = .ok (.lrem, 1) := by decide +kernel
theorem d_M_keep_108 : decode c_M_keep 108 = .ok (.lconst 0, 1) := by decide +kernel
theorem d_M_keep_109 : decode c_M_keep 109 = .ok (.lcmp, 1) := by decide +kernel
theorem d_M_keep_110 : decode c_M_keep 110 = .ok (.ifCond .ne 23, 3) := by decide +kernel
theorem d_M_keep_113 : decode c_M_keep 113 = .ok (.aload_n 0, 1) := by decide +kernel
theorem d_M_keep_114 : decode c_M_keep 114 = .ok (.getfield 14, 3) := by decide +kernel
theorem d_M_keep_117 : decode c_M_keep 117 = .ok (.lload 7, 2) := by decide +kernel
theorem d_M_keep_119 : decode c_M_keep 119 = .ok (.ldc2_w 31, 3) := by decide +kernel
theorem d_M_keep_122 : decode c_M_keep 122 = .ok (.lsub, 1) := by decide +kernel
theorem d_M_keep_123 : decode c_M_keep 123 = .ok (.ldc2_w 33, 3) := by decide +kernel
theorem d_M_keep_126 : decode c_M_keep 126 = .ok (.ldiv, 1) := by decide +kernel
theorem d_M_keep_127 : decode c_M_keep 127 = .ok (.l2i, 1) := by decide +kernel
theorem d_M_keep_128 : decode c_M_keep 128 = .ok (.dup2, 1) := by decide +kernel
theorem d_M_keep_129 : decode c_M_keep 129 = .ok (.laload, 1) := by decide +kernel
theorem d_M_keep_130 : decode c_M_keep 130 = .ok (.lconst 1, 1) := by decide +kernel
theorem d_M_keep_131 : decode c_M_keep 131 = .ok (.ladd, 1) := by decide +kernel
theorem d_M_keep_132 : decode c_M_keep 132 = .ok (.lastore, 1) := by decide +kernel
theorem d_M_keep_133 : decode c_M_keep 133 = .ok (.iinc 6 1, 3) := by decide +kernel
theorem d_M_keep_136 : decode c_M_keep 136 = .ok (.goto (-133), 3) := by decide +kernel
theorem d_M_keep_139 : decode c_M_keep 139 = .ok (.return_, 1) := by decide +kernel
theorem d_M_set_0 : decode c_M_set 0 = .ok (.lload_n 1, 1) := by decide +kernel
theorem d_M_set_1 : decode c_M_set 1 = .ok (.ldc2_w 31, 3) := by decide +kernel
theorem d_M_set_4 : decode c_M_set 4 = .ok (.lsub, 1) := by decide +kernel
theorem d_M_set_5 : decode c_M_set 5 = .ok (.l2i, 1) := by decide +kernel
theorem d_M_set_6 : decode c_M_set 6 = .ok (.istore 4, 2) := by decide +kernel
theorem d_M_set_8 : decode c_M_set 8 = .ok (.bipush 8, 2) := by decide +kernel
theorem d_M_set_10 : decode c_M_set 10 = .ok (.iload 4, 2) := by decide +kernel
theorem d_M_set_12 : decode c_M_set 12 = .ok (.bipush 8, 2) := by decide +kernel
theorem d_M_set_14 : decode c_M_set 14 = .ok (.irem, 1) := by decide +kernel
theorem d_M_set_15 : decode c_M_set 15 = .ok (.imul, 1) := by decide +kernel
theorem d_M_set_16 : decode c_M_set 16 = .ok (.istore 5, 2) := by decide +kernel
theorem d_M_set_18 : decode c_M_set 18 = .ok (.aload_n 0, 1) := by decide +kernel
theorem d_M_set_19 : decode c_M_set 19 = .ok (.getfield 8, 3) := by decide +kernel
theorem d_M_set_22 : decode c_M_set 22 = .ok (.iload 4, 2) := by decide +kernel
theorem d_M_set_24 : decode c_M_set 24 = .ok (.bipush 8, 2) := by decide +kernel
theorem d_M_set_26 : decode c_M_set 26 = .ok (.idiv, 1) := by decide +kernel
theorem d_M_set_27 : decode c_M_set 27 = .ok (.aload_n 0, 1) := by decide +kernel
theorem d_M_set_28 : decode c_M_set 28 = .ok (.getfield 8, 3) := by decide +kernel
theorem d_M_set_31 : decode c_M_set 31 = .ok (.iload 4, 2) := by decide +kernel
theorem d_M_set_33 : decode c_M_set 33 = .ok (.bipush 8, 2) := by decide +kernel
theorem d_M_set_35 : decode c_M_set 35 = .ok (.idiv, 1) := by decide +kernel
theorem d_M_set_36 : decode c_M_set 36 = .ok (.laload, 1) := by decide +kernel
theorem d_M_set_37 : decode c_M_set 37 = .ok (.ldc2_w 39, 3) := by decide +kernel
theorem d_M_set_40 : decode c_M_set 40 = .ok (.iload 5, 2) := by decide +kernel
theorem d_M_set_42 : decode c_M_set 42 = .ok (.lshl, 1) := by decide +kernel
theorem d_M_set_43 : decode c_M_set 43 = .ok (.ldc2_w 41, 3) := by decide +kernel
theorem d_M_set_46 : decode c_M_set 46 = .ok (.lxor, 1) := by decide +kernel
theorem d_M_set_47 : decode c_M_set 47 = .ok (.land, 1) := by decide +kernel
theorem d_M_set_48 : decode c_M_set 48 = .ok (.iload_n 3, 1) := by decide +kernel
theorem d_M_set_49 : decode c_M_set 49 = .ok (.i2l, 1) := by decide +kernel
theorem d_M_set_50 : decode c_M_set 50 = .ok (.ldc2_w 39, 3) := by decide +kernel
theorem d_M_set_53 : decode c_M_set 53 = .ok (.land, 1) := by decide +kernel
theorem d_M_set_54 : decode c_M_set 54 = .ok (.iload 5, 2) := by decide +kernel
theorem d_M_set_56 : decode c_M_set 56 = .ok (.lshl, 1) := by decide +kernel
theorem d_M_set_57 : decode c_M_set 57 = .ok (.lor, 1) := by decide +kernel
theorem d_M_set_58 : decode c_M_set 58 = .ok (.lastore, 1) := by decide +kernel
theorem d_M_set_59 : decode c_M_set 59 = .ok (.return_, 1) := by decide +kernel
theorem d_M_fill_0 : decode c_M_fill 0 = .ok (.aload_n 0, 1) := by decide +kernel
theorem d_M_fill_1 : decode c_M_fill 1 = .ok (.lload_n 3, 1) := by decide +kernel
theorem d_M_fill_2 : decode c_M_fill 2 = .ok (.lload_n 1, 1) := by decide +kernel
theorem d_M_fill_3 : decode c_M_fill 3 = .ok (.lcmp, 1) := by decide +kernel
theorem d_M_fill_4 : decode c_M_fill 4 = .ok (.ifCond .ge 7, 3) := by decide +kernel
theorem d_M_fill_7 : decode c_M_fill 7 = .ok (.iconst 1, 1) := by decide +kernel
theorem d_M_fill_8 : decode c_M_fill 8 = .ok (.goto 32, 3) := by decide +kernel
theorem d_M_fill_11 : decode c_M_fill 11 = .ok (.lload_n 3, 1) := by decide +kernel
theorem d_M_fill_12 : decode c_M_fill 12 = .ok (.lload_n 1, 1) := by decide +kernel
theorem d_M_fill_13 : decode c_M_fill 13 = .ok (.lcmp, 1) := by decide +kernel
theorem d_M_fill_14 : decode c_M_fill 14 = .ok (.ifCond .le 25, 3) := by decide +kernel
theorem d_M_fill_17 : decode c_M_fill 17 = .ok (.aload_n 0, 1) := by decide +kernel
theorem d_M_fill_18 : decode c_M_fill 18 = .ok (.lload_n 1, 1) := by decide +kernel
theorem d_M_fill_19 : decode c_M_fill 19 = .ok (.invokevirtual 35, 3) := by decide +kernel
theorem d_M_fill_22 : decode c_M_fill 22 = .ok (.ifCond .eq 13, 3) := by decide +kernel
theorem d_M_fill_25 : decode c_M_fill 25 = .ok (.aload_n 0, 1) := by decide +kernel
theorem d_M_fill_26 : decode c_M_fill 26 = .ok (.lload_n 3, 1) := by decide +kernel
theorem d_M_fill_27 : decode c_M_fill 27 = .ok (.lconst 1, 1) := by decide +kernel
theorem d_M_fill_28 : decode c_M_fill 28 = .ok (.lsub, 1) := by decide +kernel
theorem d_M_fill_29 : decode c_M_fill 29 = .ok (.invokevirtual 35, 3) := by decide +kernel
theorem d_M_fill_32 : decode c_M_fill 32 = .ok (.ifCond .ne 7, 3) := by decide +kernel
theorem d_M_fill_35 : decode c_M_fill 35 = .ok (.iconst 2, 1) := by decide +kernel
theorem d_M_fill_36 : decode c_M_fill 36 = .ok (.goto 4, 3) := by decide +kernel
theorem d_M_fill_39 : decode c_M_fill 39 = .ok (.iconst 0, 1) := by decide +kernel
theorem d_M_fill_40 : decode c_M_fill 40 = .ok (.putfield 28, 3) := by decide +kernel
theorem d_M_fill_43 : decode c_M_fill 43 = .ok (.aload_n 0, 1) := by decide +kernel
theorem d_M_fill_44 : decode c_M_fill 44 = .ok (.getfield 28, 3) := by decide +kernel
theorem d_M_fill_47 : decode c_M_fill 47 = .ok (.ifCond .le 4, 3) := by decide +kernel
theorem d_M_fill_50 : decode c_M_fill 50 = .ok (.return_, 1) := by decide +kernel
theorem d_M_fill_51 : decode c_M_fill 51 = .ok (.lload_n 1, 1) := by decide +kernel
theorem d_M_fill_52 : decode c_M_fill 52 = .ok (.lstore 6, 2) := by decide +kernel
theorem d_M_fill_54 : decode c_M_fill 54 = .ok (.lload 6, 2) := by decide +kernel
theorem d_M_fill_56 : decode c_M_fill 56 = .ok (.lload_n 3, 1) := by decide +kernel
theorem d_M_fill_57 : decode c_M_fill 57 = .ok (.lcmp, 1) := by decide +kernel
theorem d_M_fill_58 : decode c_M_fill 58 = .ok (.ifCond .ge 83, 3) := by decide +kernel
theorem d_M_fill_61 : decode c_M_fill 61 = .ok (.aload_n 0, 1) := by decide +kernel
theorem d_M_fill_62 : decode c_M_fill 62 = .ok (.getfield 14, 3) := by decide +kernel
theorem d_M_fill_65 : decode c_M_fill 65 = .ok (.lload 6, 2) := by decide +kernel
theorem d_M_fill_67 : decode c_M_fill 67 = .ok (.ldc2_w 31, 3) := by decide +kernel
theorem d_M_fill_70 : decode c_M_fill 70 = .ok (.lsub, 1) := by decide +kernel
theorem d_M_fill_71 : decode c_M_fill 71 = .ok (.ldc2_w 33, 3) := by decide +kernel
theorem d_M_fill_74 : decode c_M_fill 74 = .ok (.ldiv, 1) := by decide +kernel
theorem d_M_fill_75 : decode c_M_fill 75 = .ok (.l2i, 1) := by decide +kernel
theorem d_M_fill_76 : decode c_M_fill 76 = .ok (.laload, 1) := by decide +kernel
theorem d_M_fill_77 : decode c_M_fill 77 = .ok (.lstore 8, 2) := by decide +kernel
theorem d_M_fill_79 : decode c_M_fill 79 = .ok (.aload_n 0, 1) := by decide +kernel
theorem d_M_fill_80 : decode c_M_fill 80 = .ok (.lload 6, 2) := by decide +kernel
theorem d_M_fill_82 : decode c_M_fill 82 = .ok (.iconst 1, 1) := by decide +kernel
theorem d_M_fill_83 : decode c_M_fill 83 = .ok (.iload 5, 2) := by decide +kernel
theorem d_M_fill_85 : decode c_M_fill 85 = .ok (.i2l, 1) := by decide +kernel
theorem d_M_fill_86 : decode c_M_fill 86 = .ok (.invokevirtual 67, 3) := by decide +kernel
theorem d_M_fill_89 : decode c_M_fill 89 = .ok (.aload_n 0, 1) := by decide +kernel
theorem d_M_fill_90 : decode c_M_fill 90 = .ok (.getfield 14, 3) := by decide +kernel
theorem d_M_fill_93 : decode c_M_fill 93 = .ok (.lload 6, 2) := by decide +kernel
theorem d_M_fill_95 : decode c_M_fill 95 = .ok (.ldc2_w 31, 3) := by decide +kernel
theorem d_M_fill_98 : decode c_M_fill 98 = .ok (.lsub, 1) := by decide +kernel
theorem d_M_fill_99 : decode c_M_fill 99 = .ok (.ldc2_w 33, 3) := by decide +kernel
theorem d_M_fill_102 : decode c_M_fill 102 = .ok (.ldiv, 1) := by decide +kernel
theorem d_M_fill_103 : decode c_M_fill 103 = .ok (.l2i, 1) := by decide +kernel
theorem d_M_fill_104 : decode c_M_fill 104 = .ok (.lload 6, 2) := by decide +kernel
theorem d_M_fill_106 : decode c_M_fill 106 = .ok (.lload_n 1, 1) := by decide +kernel
theorem d_M_fill_107 : decode c_M_fill 107 = .ok (.lcmp, 1) := by decide +kernel
theorem d_M_fill_108 : decode c_M_fill 108 = .ok (.ifCond .eq 14, 3) := by decide +kernel
theorem d_M_fill_111 : decode c_M_fill 111 = .ok (.lload 6, 2) := by decide +kernel
theorem d_M_fill_113 : decode c_M_fill 113 = .ok (.ldc2_w 33, 3) := by decide +kernel
theorem d_M_fill_116 : decode c_M_fill 116 = .ok (.lrem, 1) := by decide +kernel
theorem d_M_fill_117 : decode c_M_fill 117 = .ok (.lconst 0, 1) := by decide +kernel
theorem d_M_fill_118 : decode c_M_fill 118 = .ok (.lcmp, 1) := by decide +kernel
theorem d_M_fill_119 : decode c_M_fill 119 = .ok (.ifCond .ne 10, 3) := by decide +kernel
theorem d_M_fill_122 : decode c_M_fill 122 = .ok (.lload 8, 2) := by decide +kernel
theorem d_M_fill_124 : decode c_M_fill 124 = .ok (.lconst 1, 1) := by decide +kernel
theorem d_M_fill_125 : decode c_M_fill 125 = .ok (.ladd, 1) := by decide +kernel
theorem d_M_fill_126 : decode c_M_fill 126 = .ok (.goto 5, 3) := by decide +kernel
theorem d_M_fill_129 : decode c_M_fill 129 = .ok (.lload 8, 2) := by decide +kernel
theorem d_M_fill_131 : decode c_M_fill 131 = .ok (.lastore, 1) := by decide +kernel
theorem d_M_fill_132 : decode c_M_fill 132 = .ok (.lload 6, 2) := by decide +kernel
theorem d_M_fill_134 : decode c_M_fill 134 = .ok (.lconst 1, 1) := by decide +kernel
theorem d_M_fill_135 : decode c_M_fill 135 = .ok (.ladd, 1) := by decide +kernel
theorem d_M_fill_136 : decode c_M_fill 136 = .ok (.lstore 6, 2) := by decide +kernel
theorem d_M_fill_138 : decode c_M_fill 138 = .ok (.goto (-84), 3) := by decide +kernel
theorem d_M_fill_141 : decode c_M_fill 141 = .ok (.return_, 1) := by decide +kernel
theorem d_M_atomic_0 : decode c_M_atomic 0 = .ok (.aload_n 0, 1) := by decide +kernel
theorem d_M_atomic_1 : decode c_M_atomic 1 = .ok (.iload 5, 2) := by decide +kernel
theorem d_M_atomic_3 : decode c_M_atomic 3 = .ok (.iconst 4, 1) := by decide +kernel
theorem d_M_atomic_4 : decode c_M_atomic 4 = .ok (.if_icmp .eq 10, 3) := by decide +kernel
theorem d_M_atomic_7 : decode c_M_atomic 7 = .ok (.iload 5, 2) := by decide +kernel
theorem d_M_atomic_9 : decode c_M_atomic 9 = .ok (.bipush 8, 2) := by decide +kernel
theorem d_M_atomic_11 : decode c_M_atomic 11 = .ok (.if_icmp .ne 10, 3) := by decide +kernel
theorem d_M_atomic_14 : decode c_M_atomic 14 = .ok (.iload_n 2, 1) := by decide +kernel
theorem d_M_atomic_15 : decode c_M_atomic 15 = .ok (.invokestatic 75, 3) := by decide +kernel
theorem d_M_atomic_18 : decode c_M_atomic 18 = .ok (.ifCond .ne 7, 3) := by decide +kernel
theorem d_M_atomic_21 : decode c_M_atomic 21 = .ok (.iconst 1, 1) := by decide +kernel
theorem d_M_atomic_22 : decode c_M_atomic 22 = .ok (.goto 41, 3) := by decide +kernel
theorem d_M_atomic_25 : decode c_M_atomic 25 = .ok (.iload_n 1, 1) := by decide +kernel
theorem d_M_atomic_26 : decode c_M_atomic 26 = .ok (.ifCond .lt 18, 3) := by decide +kernel
theorem d_M_atomic_29 : decode c_M_atomic 29 = .ok (.iload_n 1, 1) := by decide +kernel
theorem d_M_atomic_30 : decode c_M_atomic 30 = .ok (.iconst 3, 1) := by decide +kernel
theorem d_M_atomic_31 : decode c_M_atomic 31 = .ok (.if_icmp .gt 13, 3) := by decide +kernel
theorem d_M_atomic_34 : decode c_M_atomic 34 = .ok (.aload_n 0, 1) := by decide +kernel
theorem d_M_atomic_35 : decode c_M_atomic 35 = .ok (.lload_n 3, 1) := by decide +kernel
theorem d_M_atomic_36 : decode c_M_atomic 36 = .ok (.iload 5, 2) := by decide +kernel
theorem d_M_atomic_38 : decode c_M_atomic 38 = .ok (.invokevirtual 59, 3) := by decide +kernel
theorem d_M_atomic_41 : decode c_M_atomic 41 = .ok (.ifCond .ne 7, 3) := by decide +kernel
theorem d_M_atomic_44 : decode c_M_atomic 44 = .ok (.iconst 2, 1) := by decide +kernel
theorem d_M_atomic_45 : decode c_M_atomic 45 = .ok (.goto 18, 3) := by decide +kernel
theorem d_M_atomic_48 : decode c_M_atomic 48 = .ok (.lload_n 3, 1) := by decide +kernel
theorem d_M_atomic_49 : decode c_M_atomic 49 = .ok (.iload 5, 2) := by decide +kernel
theorem d_M_atomic_51 : decode c_M_atomic 51 = .ok (.i2l, 1) := by decide +kernel
theorem d_M_atomic_52 : decode c_M_atomic 52 = .ok (.lrem, 1) := by decide +kernel
theorem d_M_atomic_53 : decode c_M_atomic 53 = .ok (.lconst 0, 1) := by decide +kernel
theorem d_M_atomic_54 : decode c_M_atomic 54 = .ok (.lcmp, 1) := by decide +kernel
theorem d_M_atomic_55 : decode c_M_atomic 55 = .ok (.ifCond .eq 7, 3) := by decide +kernel
theorem d_M_atomic_58 : decode c_M_atomic 58 = .ok (.iconst 3, 1) := by decide +kernel
theorem d_M_atomic_59 : decode c_M_atomic 59 = .ok (.goto 4, 3) := by decide +kernel
theorem d_M_atomic_62 : decode c_M_atomic 62 = .ok (.iconst 0, 1) := by decide +kernel
theorem d_M_atomic_63 : decode c_M_atomic 63 = .ok (.putfield 28, 3) := by decide +kernel
theorem d_M_atomic_66 : decode c_M_atomic 66 = .ok (.aload_n 0, 1) := by decide +kernel
theorem d_M_atomic_67 : decode c_M_atomic 67 = .ok (.getfield 28, 3) := by decide +kernel
theorem d_M_atomic_70 : decode c_M_atomic 70 = .ok (.ifCond .le 5, 3) := by decide +kernel
theorem d_M_atomic_73 : decode c_M_atomic 73 = .ok (.lconst 0, 1) := by decide +kernel
theorem d_M_atomic_74 : decode c_M_atomic 74 = .ok (.lreturn, 1) := by decide +kernel
theorem d_M_atomic_75 : decode c_M_atomic 75 = .ok (.aload_n 0, 1) := by decide +kernel
theorem d_M_atomic_76 : decode c_M_atomic 76 = .ok (.lload_n 3, 1) := by decide +kernel
theorem d_M_atomic_77 : decode c_M_atomic 77 = .ok (.iload 5, 2) := by decide +kernel
theorem d_M_atomic_79 : decode c_M_atomic 79 = .ok (.invokevirtual 63, 3) := by decide +kernel
theorem d_M_atomic_82 : decode c_M_atomic 82 = .ok (.iload 5, 2) := by decide +kernel
theorem d_M_atomic_84 : decode c_M_atomic 84 = .ok (.invokestatic 78, 3) := by decide +kernel
theorem d_M_atomic_87 : decode c_M_atomic 87 = .ok (.lstore 8, 2) := by decide +kernel
theorem d_M_atomic_89 : decode c_M_atomic 89 = .ok (.iload_n 2, 1) := by decide +kernel
theorem d_M_atomic_90 : decode c_M_atomic 90 = .ok (.iconst 2, 1) := by decide +kernel
theorem d_M_atomic_91 : decode c_M_atomic 91 = .ok (.if_icmp .ne 21, 3) := by decide +kernel
theorem d_M_atomic_94 : decode c_M_atomic 94 = .ok (.aload_n 0, 1) := by decide +kernel
theorem d_M_atomic_95 : decode c_M_atomic 95 = .ok (.getfield 17, 3) := by decide +kernel
theorem d_M_atomic_98 : decode c_M_atomic 98 = .ok (.iload_n 1, 1) := by decide +kernel
theorem d_M_atomic_99 : decode c_M_atomic 99 = .ok (.lload_n 3, 1) := by decide +kernel
theorem d_M_atomic_100 : decode c_M_atomic 100 = .ok (.lastore, 1) := by decide +kernel
theorem d_M_atomic_101 : decode c_M_atomic 101 = .ok (.aload_n 0, 1) := by decide +kernel
theorem d_M_atomic_102 : decode c_M_atomic 102 = .ok (.getfield 20, 3) := by decide +kernel
theorem d_M_atomic_105 : decode c_M_atomic 105 = .ok (.iload_n 1, 1) := by decide +kernel
theorem d_M_atomic_106 : decode c_M_atomic 106 = .ok (.iload 5, 2) := by decide +kernel
theorem d_M_atomic_108 : decode c_M_atomic 108 = .ok (.iastore, 1) := by decide +kernel
theorem d_M_atomic_109 : decode c_M_atomic 109 = .ok (.lload 8, 2) := by decide +kernel
theorem d_M_atomic_111 : decode c_M_atomic 111 = .ok (.lreturn, 1) := by decide +kernel
theorem d_M_atomic_112 : decode c_M_atomic 112 = .ok (.iload_n 2, 1) := by decide +kernel
theorem d_M_atomic_113 : decode c_M_atomic 113 = .ok (.iconst 3, 1) := by decide +kernel
theorem d_M_atomic_114 : decode c_M_atomic 114 = .ok (.if_icmp .ne 64, 3) := by decide +kernel
theorem d_M_atomic_117 : decode c_M_atomic 117 = .ok (.aload_n 0, 1) := by decide +kernel
theorem d_M_atomic_118 : decode c_M_atomic 118 = .ok (.getfield 17, 3) := by decide +kernel
theorem d_M_atomic_121 : decode c_M_atomic 121 = .ok (.iload_n 1, 1) := by decide +kernel
theorem d_M_atomic_122 : decode c_M_atomic 122 = .ok (.laload, 1) := by decide +kernel
theorem d_M_atomic_123 : decode c_M_atomic 123 = .ok (.lload_n 3, 1) := by decide +kernel
theorem d_M_atomic_124 : decode c_M_atomic 124 = .ok (.lcmp, 1) := by decide +kernel
theorem d_M_atomic_125 : decode c_M_atomic 125 = .ok (.ifCond .ne 18, 3) := by decide +kernel
theorem d_M_atomic_128 : decode c_M_atomic 128 = .ok (.aload_n 0, 1) := by decide +kernel
theorem d_M_atomic_129 : decode c_M_atomic 129 = .ok (.getfield 20, 3) := by decide +kernel
theorem d_M_atomic_132 : decode c_M_atomic 132 = .ok (.iload_n 1, 1) := by decide +kernel
theorem d_M_atomic_133 : decode c_M_atomic 133 = .ok (.iaload, 1) := by decide +kernel
theorem d_M_atomic_134 : decode c_M_atomic 134 = .ok (.iload 5, 2) := by decide +kernel
theorem d_M_atomic_136 : decode c_M_atomic 136 = .ok (.if_icmp .ne 7, 3) := by decide +kernel
theorem d_M_atomic_139 : decode c_M_atomic 139 = .ok (.iconst 1, 1) := by decide +kernel
theorem d_M_atomic_140 : decode c_M_atomic 140 = .ok (.goto 4, 3) := by decide +kernel
theorem d_M_atomic_143 : decode c_M_atomic 143 = .ok (.iconst 0, 1) := by decide +kernel
theorem d_M_atomic_144 : decode c_M_atomic 144 = .ok (.istore 10, 2) := by decide +kernel
theorem d_M_atomic_146 : decode c_M_atomic 146 = .ok (.aload_n 0, 1) := by decide +kernel
theorem d_M_atomic_147 : decode c_M_atomic 147 = .ok (.getfield 17, 3) := by decide +kernel
theorem d_M_atomic_150 : decode c_M_atomic 150 = .ok (.iload_n 1, 1) := by decide +kernel
theorem d_M_atomic_151 : decode c_M_atomic 151 = .ok (.lconst 0, 1) := by decide +kernel
theorem d_M_atomic_152 : decode c_M_atomic 152 = .ok (.lastore, 1) := by decide +kernel
theorem d_M_atomic_153 : decode c_M_atomic 153 = .ok (.iload 10, 2) := by decide +kernel
theorem d_M_atomic_155 : decode c_M_atomic 155 = .ok (.ifCond .eq 12, 3) := by decide +kernel
theorem d_M_atomic_158 : decode c_M_atomic 158 = .ok (.aload_n 0, 1) := by decide +kernel
theorem d_M_atomic_159 : decode c_M_atomic 159 = .ok (.lload_n 3, 1) := by decide +kernel
theorem d_M_atomic_160 : decode c_M_atomic 160 = .ok (.iload 5, 2) := by decide +kernel
theorem d_M_atomic_162 : decode c_M_atomic 162 = .ok (.lload 6, 2) := by decide +kernel
theorem d_M_atomic_164 : decode c_M_atomic 164 = .ok (.invokevirtual 67, 3) := by decide +kernel
theorem d_M_atomic_167 : decode c_M_atomic 167 = .ok (.iload 10, 2) := by decide +kernel
theorem d_M_atomic_169 : decode c_M_atomic 169 = .ok (.ifCond .eq 7, 3) := by decide +kernel
theorem d_M_atomic_172 : decode c_M_atomic 172 = .ok (.lconst 0, 1) := by decide +kernel
theorem d_M_atomic_173 : decode c_M_atomic 173 = .ok (.goto 4, 3) := by decide +kernel
theorem d_M_atomic_176 : decode c_M_atomic 176 = .ok (.lconst 1, 1) := by decide +kernel
theorem d_M_atomic_177 : decode c_M_atomic 177 = .ok (.lreturn, 1) := by decide +kernel
theorem d_M_atomic_178 : decode c_M_atomic 178 = .ok (.aload_n 0, 1) := by decide +kernel
theorem d_M_atomic_179 : decode c_M_atomic 179 = .ok (.lload_n 3, 1) := by decide +kernel
theorem d_M_atomic_180 : decode c_M_atomic 180 = .ok (.iload 5, 2) := by decide +kernel
theorem d_M_atomic_182 : decode c_M_atomic 182 = .ok (.iload_n 2, 1) := by decide +kernel
theorem d_M_atomic_183 : decode c_M_atomic 183 = .ok (.lload 8, 2) := by decide +kernel
theorem d_M_atomic_185 : decode c_M_atomic 185 = .ok (.lload 6, 2) := by decide +kernel
theorem d_M_atomic_187 : decode c_M_atomic 187 = .ok (.iload 5, 2) := by decide +kernel
theorem d_M_atomic_189 : decode c_M_atomic 189 = .ok (.invokestatic 78, 3) := by decide +kernel
theorem d_M_atomic_192 : decode c_M_atomic 192 = .ok (.invokestatic 81, 3) := by decide +kernel
theorem d_M_atomic_195 : decode c_M_atomic 195 = .ok (.invokevirtual 67, 3) := by decide +kernel
theorem d_M_atomic_198 : decode c_M_atomic 198 = .ok (.lload 8, 2) := by decide +kernel
theorem d_M_atomic_200 : decode c_M_atomic 200 = .ok (.lreturn, 1) := by decide +kernel
theorem d_M_isKind_0 : decode c_M_isKind 0 = .ok (.iload_n 0, 1) := by decide +kernel
theorem d_M_isKind_1 : decode c_M_isKind 1 = .ok (.ifCond .lt 8, 3) := by decide +kernel
theorem d_M_isKind_4 : decode c_M_isKind 4 = .ok (.iload_n 0, 1) := by decide +kernel
theorem d_M_isKind_5 : decode c_M_isKind 5 = .ok (.iconst 4, 1) := by decide +kernel
theorem d_M_isKind_6 : decode c_M_isKind 6 = .ok (.if_icmp .lt 19, 3) := by decide +kernel
theorem d_M_isKind_9 : decode c_M_isKind 9 = .ok (.iload_n 0, 1) := by decide +kernel
theorem d_M_isKind_10 : decode c_M_isKind 10 = .ok (.ifCond .le 19, 3) := by decide +kernel
theorem d_M_isKind_13 : decode c_M_isKind 13 = .ok (.iload_n 0, 1) := by decide +kernel
theorem d_M_isKind_14 : decode c_M_isKind 14 = .ok (.bipush 28, 2) := by decide +kernel
theorem d_M_isKind_16 : decode c_M_isKind 16 = .ok (.if_icmp .gt 13, 3) := by decide +kernel
theorem d_M_isKind_19 : decode c_M_isKind 19 = .ok (.iload_n 0, 1) := by decide +kernel
theorem d_M_isKind_20 : decode c_M_isKind 20 = .ok (.iconst 4, 1) := by decide +kernel
theorem d_M_isKind_21 : decode c_M_isKind 21 = .ok (.irem, 1) := by decide +kernel
theorem d_M_isKind_22 : decode c_M_isKind 22 = .ok (.ifCond .ne 7, 3) := by decide +kernel
theorem d_M_isKind_25 : decode c_M_isKind 25 = .ok (.iconst 1, 1) := by decide +kernel
theorem d_M_isKind_26 : decode c_M_isKind 26 = .ok (.goto 4, 3) := by decide +kernel
theorem d_M_isKind_29 : decode c_M_isKind 29 = .ok (.iconst 0, 1) := by decide +kernel
theorem d_M_isKind_30 : decode c_M_isKind 30 = .ok (.ireturn, 1) := by decide +kernel
theorem d_M_signed_0 : decode c_M_signed 0 = .ok (.iload_n 2, 1) := by decide +kernel
theorem d_M_signed_1 : decode c_M_signed 1 = .ok (.iconst 4, 1) := by decide +kernel
theorem d_M_signed_2 : decode c_M_signed 2 = .ok (.if_icmp .ne 9, 3) := by decide +kernel
theorem d_M_signed_5 : decode c_M_signed 5 = .ok (.lload_n 0, 1) := by decide +kernel
theorem d_M_signed_6 : decode c_M_signed 6 = .ok (.l2i, 1) := by decide +kernel
theorem d_M_signed_7 : decode c_M_signed 7 = .ok (.i2l, 1) := by decide +kernel
theorem d_M_signed_8 : decode c_M_signed 8 = .ok (.goto 4, 3) := by decide +kernel
theorem d_M_signed_11 : decode c_M_signed 11 = .ok (.lload_n 0, 1) := by decide +kernel
theorem d_M_signed_12 : decode c_M_signed 12 = .ok (.lreturn, 1) := by decide +kernel
theorem d_M_changed_0 : decode c_M_changed 0 = .ok (.iload_n 0, 1) := by decide +kernel
theorem d_M_changed_1 : decode c_M_changed 1 = .ok (.tableswitch 178 0 24 #[115, 119, 178, 178, 121, 178, 178, 178, 125, 178, 178, 178, 129, 178, 178, 178, 133, 178, 178, 178, 148, 178, 178, 178, 163], 115) := by decide +kernel
theorem d_M_changed_116 : decode c_M_changed 116 = .ok (.lload_n 1, 1) := by decide +kernel
theorem d_M_changed_117 : decode c_M_changed 117 = .ok (.lload_n 3, 1) := by decide +kernel
theorem d_M_changed_118 : decode c_M_changed 118 = .ok (.ladd, 1) := by decide +kernel
theorem d_M_changed_119 : decode c_M_changed 119 = .ok (.lreturn, 1) := by decide +kernel
theorem d_M_changed_120 : decode c_M_changed 120 = .ok (.lload_n 3, 1) := by decide +kernel
theorem d_M_changed_121 : decode c_M_changed 121 = .ok (.lreturn, 1) := by decide +kernel
theorem d_M_changed_122 : decode c_M_changed 122 = .ok (.lload_n 1, 1) := by decide +kernel
theorem d_M_changed_123 : decode c_M_changed 123 = .ok (.lload_n 3, 1) := by decide +kernel
theorem d_M_changed_124 : decode c_M_changed 124 = .ok (.lxor, 1) := by decide +kernel
theorem d_M_changed_125 : decode c_M_changed 125 = .ok (.lreturn, 1) := by decide +kernel
theorem d_M_changed_126 : decode c_M_changed 126 = .ok (.lload_n 1, 1) := by decide +kernel
theorem d_M_changed_127 : decode c_M_changed 127 = .ok (.lload_n 3, 1) := by decide +kernel
theorem d_M_changed_128 : decode c_M_changed 128 = .ok (.lor, 1) := by decide +kernel
theorem d_M_changed_129 : decode c_M_changed 129 = .ok (.lreturn, 1) := by decide +kernel
theorem d_M_changed_130 : decode c_M_changed 130 = .ok (.lload_n 1, 1) := by decide +kernel
theorem d_M_changed_131 : decode c_M_changed 131 = .ok (.lload_n 3, 1) := by decide +kernel
theorem d_M_changed_132 : decode c_M_changed 132 = .ok (.land, 1) := by decide +kernel
theorem d_M_changed_133 : decode c_M_changed 133 = .ok (.lreturn, 1) := by decide +kernel
theorem d_M_changed_134 : decode c_M_changed 134 = .ok (.lload_n 1, 1) := by decide +kernel
theorem d_M_changed_135 : decode c_M_changed 135 = .ok (.lload_n 3, 1) := by decide +kernel
theorem d_M_changed_136 : decode c_M_changed 136 = .ok (.iconst 1, 1) := by decide +kernel
theorem d_M_changed_137 : decode c_M_changed 137 = .ok (.invokestatic 71, 3) := by decide +kernel
theorem d_M_changed_140 : decode c_M_changed 140 = .ok (.ifCond .eq 7, 3) := by decide +kernel
theorem d_M_changed_143 : decode c_M_changed 143 = .ok (.lload_n 1, 1) := by decide +kernel
theorem d_M_changed_144 : decode c_M_changed 144 = .ok (.goto 4, 3) := by decide +kernel
theorem d_M_changed_147 : decode c_M_changed 147 = .ok (.lload_n 3, 1) := by decide +kernel
theorem d_M_changed_148 : decode c_M_changed 148 = .ok (.lreturn, 1) := by decide +kernel
theorem d_M_changed_149 : decode c_M_changed 149 = .ok (.lload_n 1, 1) := by decide +kernel
theorem d_M_changed_150 : decode c_M_changed 150 = .ok (.lload_n 3, 1) := by decide +kernel
theorem d_M_changed_151 : decode c_M_changed 151 = .ok (.iconst 1, 1) := by decide +kernel
theorem d_M_changed_152 : decode c_M_changed 152 = .ok (.invokestatic 71, 3) := by decide +kernel
theorem d_M_changed_155 : decode c_M_changed 155 = .ok (.ifCond .eq 7, 3) := by decide +kernel
theorem d_M_changed_158 : decode c_M_changed 158 = .ok (.lload_n 3, 1) := by decide +kernel
theorem d_M_changed_159 : decode c_M_changed 159 = .ok (.goto 4, 3) := by decide +kernel
theorem d_M_changed_162 : decode c_M_changed 162 = .ok (.lload_n 1, 1) := by decide +kernel
theorem d_M_changed_163 : decode c_M_changed 163 = .ok (.lreturn, 1) := by decide +kernel
theorem d_M_changed_164 : decode c_M_changed 164 = .ok (.lload_n 1, 1) := by decide +kernel
theorem d_M_changed_165 : decode c_M_changed 165 = .ok (.lload_n 3, 1) := by decide +kernel
theorem d_M_changed_166 : decode c_M_changed 166 = .ok (.iconst 0, 1) := by decide +kernel
theorem d_M_changed_167 : decode c_M_changed 167 = .ok (.invokestatic 71, 3) := by decide +kernel
theorem d_M_changed_170 : decode c_M_changed 170 = .ok (.ifCond .eq 7, 3) := by decide +kernel
theorem d_M_changed_173 : decode c_M_changed 173 = .ok (.lload_n 1, 1) := by decide +kernel
theorem d_M_changed_174 : decode c_M_changed 174 = .ok (.goto 4, 3) := by decide +kernel
theorem d_M_changed_177 : decode c_M_changed 177 = .ok (.lload_n 3, 1) := by decide +kernel
theorem d_M_changed_178 : decode c_M_changed 178 = .ok (.lreturn, 1) := by decide +kernel
theorem d_M_changed_179 : decode c_M_changed 179 = .ok (.lload_n 1, 1) := by decide +kernel
theorem d_M_changed_180 : decode c_M_changed 180 = .ok (.lload_n 3, 1) := by decide +kernel
theorem d_M_changed_181 : decode c_M_changed 181 = .ok (.iconst 0, 1) := by decide +kernel
theorem d_M_changed_182 : decode c_M_changed 182 = .ok (.invokestatic 71, 3) := by decide +kernel
theorem d_M_changed_185 : decode c_M_changed 185 = .ok (.ifCond .eq 7, 3) := by decide +kernel
theorem d_M_changed_188 : decode c_M_changed 188 = .ok (.lload_n 3, 1) := by decide +kernel
theorem d_M_changed_189 : decode c_M_changed 189 = .ok (.goto 4, 3) := by decide +kernel
theorem d_M_changed_192 : decode c_M_changed 192 = .ok (.lload_n 1, 1) := by decide +kernel
theorem d_M_changed_193 : decode c_M_changed 193 = .ok (.lreturn, 1) := by decide +kernel
theorem d_M_isLess_0 : decode c_M_isLess 0 = .ok (.iload 4, 2) := by decide +kernel
theorem d_M_isLess_2 : decode c_M_isLess 2 = .ok (.ifCond .eq 17, 3) := by decide +kernel
theorem d_M_isLess_5 : decode c_M_isLess 5 = .ok (.lload_n 0, 1) := by decide +kernel
theorem d_M_isLess_6 : decode c_M_isLess 6 = .ok (.lload_n 2, 1) := by decide +kernel
theorem d_M_isLess_7 : decode c_M_isLess 7 = .ok (.lcmp, 1) := by decide +kernel
theorem d_M_isLess_8 : decode c_M_isLess 8 = .ok (.ifCond .ge 7, 3) := by decide +kernel
theorem d_M_isLess_11 : decode c_M_isLess 11 = .ok (.iconst 1, 1) := by decide +kernel
theorem d_M_isLess_12 : decode c_M_isLess 12 = .ok (.goto 57, 3) := by decide +kernel
theorem d_M_isLess_15 : decode c_M_isLess 15 = .ok (.iconst 0, 1) := by decide +kernel
theorem d_M_isLess_16 : decode c_M_isLess 16 = .ok (.goto 53, 3) := by decide +kernel
theorem d_M_isLess_19 : decode c_M_isLess 19 = .ok (.lload_n 0, 1) := by decide +kernel
theorem d_M_isLess_20 : decode c_M_isLess 20 = .ok (.lconst 0, 1) := by decide +kernel
theorem d_M_isLess_21 : decode c_M_isLess 21 = .ok (.lcmp, 1) := by decide +kernel
theorem d_M_isLess_22 : decode c_M_isLess 22 = .ok (.ifCond .lt 7, 3) := by decide +kernel
theorem d_M_isLess_25 : decode c_M_isLess 25 = .ok (.iconst 1, 1) := by decide +kernel
theorem d_M_isLess_26 : decode c_M_isLess 26 = .ok (.goto 4, 3) := by decide +kernel
theorem d_M_isLess_29 : decode c_M_isLess 29 = .ok (.iconst 0, 1) := by decide +kernel
theorem d_M_isLess_30 : decode c_M_isLess 30 = .ok (.lload_n 2, 1) := by decide +kernel
theorem d_M_isLess_31 : decode c_M_isLess 31 = .ok (.lconst 0, 1) := by decide +kernel
theorem d_M_isLess_32 : decode c_M_isLess 32 = .ok (.lcmp, 1) := by decide +kernel
theorem d_M_isLess_33 : decode c_M_isLess 33 = .ok (.ifCond .lt 7, 3) := by decide +kernel
theorem d_M_isLess_36 : decode c_M_isLess 36 = .ok (.iconst 1, 1) := by decide +kernel
theorem d_M_isLess_37 : decode c_M_isLess 37 = .ok (.goto 4, 3) := by decide +kernel
theorem d_M_isLess_40 : decode c_M_isLess 40 = .ok (.iconst 0, 1) := by decide +kernel
theorem d_M_isLess_41 : decode c_M_isLess 41 = .ok (.if_icmp .ne 17, 3) := by decide +kernel
theorem d_M_isLess_44 : decode c_M_isLess 44 = .ok (.lload_n 0, 1) := by decide +kernel
theorem d_M_isLess_45 : decode c_M_isLess 45 = .ok (.lload_n 2, 1) := by decide +kernel
theorem d_M_isLess_46 : decode c_M_isLess 46 = .ok (.lcmp, 1) := by decide +kernel
theorem d_M_isLess_47 : decode c_M_isLess 47 = .ok (.ifCond .ge 7, 3) := by decide +kernel
theorem d_M_isLess_50 : decode c_M_isLess 50 = .ok (.iconst 1, 1) := by decide +kernel
theorem d_M_isLess_51 : decode c_M_isLess 51 = .ok (.goto 18, 3) := by decide +kernel
theorem d_M_isLess_54 : decode c_M_isLess 54 = .ok (.iconst 0, 1) := by decide +kernel
theorem d_M_isLess_55 : decode c_M_isLess 55 = .ok (.goto 14, 3) := by decide +kernel
theorem d_M_isLess_58 : decode c_M_isLess 58 = .ok (.lload_n 0, 1) := by decide +kernel
theorem d_M_isLess_59 : decode c_M_isLess 59 = .ok (.lconst 0, 1) := by decide +kernel
theorem d_M_isLess_60 : decode c_M_isLess 60 = .ok (.lcmp, 1) := by decide +kernel
theorem d_M_isLess_61 : decode c_M_isLess 61 = .ok (.ifCond .lt 7, 3) := by decide +kernel
theorem d_M_isLess_64 : decode c_M_isLess 64 = .ok (.iconst 1, 1) := by decide +kernel
theorem d_M_isLess_65 : decode c_M_isLess 65 = .ok (.goto 4, 3) := by decide +kernel
theorem d_M_isLess_68 : decode c_M_isLess 68 = .ok (.iconst 0, 1) := by decide +kernel
theorem d_M_isLess_69 : decode c_M_isLess 69 = .ok (.ireturn, 1) := by decide +kernel
theorem d_M_drop_0 : decode c_M_drop 0 = .ok (.aload_n 0, 1) := by decide +kernel
theorem d_M_drop_1 : decode c_M_drop 1 = .ok (.iload_n 1, 1) := by decide +kernel
theorem d_M_drop_2 : decode c_M_drop 2 = .ok (.ifCond .lt 8, 3) := by decide +kernel
theorem d_M_drop_5 : decode c_M_drop 5 = .ok (.iload_n 1, 1) := by decide +kernel
theorem d_M_drop_6 : decode c_M_drop 6 = .ok (.iconst 3, 1) := by decide +kernel
theorem d_M_drop_7 : decode c_M_drop 7 = .ok (.if_icmp .le 7, 3) := by decide +kernel
theorem d_M_drop_10 : decode c_M_drop 10 = .ok (.iconst 1, 1) := by decide +kernel
theorem d_M_drop_11 : decode c_M_drop 11 = .ok (.goto 4, 3) := by decide +kernel
theorem d_M_drop_14 : decode c_M_drop 14 = .ok (.iconst 0, 1) := by decide +kernel
theorem d_M_drop_15 : decode c_M_drop 15 = .ok (.putfield 28, 3) := by decide +kernel
theorem d_M_drop_18 : decode c_M_drop 18 = .ok (.aload_n 0, 1) := by decide +kernel
theorem d_M_drop_19 : decode c_M_drop 19 = .ok (.getfield 28, 3) := by decide +kernel
theorem d_M_drop_22 : decode c_M_drop 22 = .ok (.ifCond .ne 18, 3) := by decide +kernel
theorem d_M_drop_25 : decode c_M_drop 25 = .ok (.aload_n 0, 1) := by decide +kernel
theorem d_M_drop_26 : decode c_M_drop 26 = .ok (.getfield 17, 3) := by decide +kernel
theorem d_M_drop_29 : decode c_M_drop 29 = .ok (.iload_n 1, 1) := by decide +kernel
theorem d_M_drop_30 : decode c_M_drop 30 = .ok (.laload, 1) := by decide +kernel
theorem d_M_drop_31 : decode c_M_drop 31 = .ok (.lconst 0, 1) := by decide +kernel
theorem d_M_drop_32 : decode c_M_drop 32 = .ok (.lcmp, 1) := by decide +kernel
theorem d_M_drop_33 : decode c_M_drop 33 = .ok (.ifCond .le 7, 3) := by decide +kernel
theorem d_M_drop_36 : decode c_M_drop 36 = .ok (.iconst 1, 1) := by decide +kernel
theorem d_M_drop_37 : decode c_M_drop 37 = .ok (.goto 4, 3) := by decide +kernel
theorem d_M_drop_40 : decode c_M_drop 40 = .ok (.iconst 0, 1) := by decide +kernel
theorem d_M_drop_41 : decode c_M_drop 41 = .ok (.istore_n 2, 1) := by decide +kernel
theorem d_M_drop_42 : decode c_M_drop 42 = .ok (.iload_n 2, 1) := by decide +kernel
theorem d_M_drop_43 : decode c_M_drop 43 = .ok (.ifCond .eq 10, 3) := by decide +kernel
theorem d_M_drop_46 : decode c_M_drop 46 = .ok (.aload_n 0, 1) := by decide +kernel
theorem d_M_drop_47 : decode c_M_drop 47 = .ok (.getfield 17, 3) := by decide +kernel
theorem d_M_drop_50 : decode c_M_drop 50 = .ok (.iload_n 1, 1) := by decide +kernel
theorem d_M_drop_51 : decode c_M_drop 51 = .ok (.lconst 0, 1) := by decide +kernel
theorem d_M_drop_52 : decode c_M_drop 52 = .ok (.lastore, 1) := by decide +kernel
theorem d_M_drop_53 : decode c_M_drop 53 = .ok (.iload_n 2, 1) := by decide +kernel
theorem d_M_drop_54 : decode c_M_drop 54 = .ok (.ireturn, 1) := by decide +kernel
theorem d_M_reserved_0 : decode c_M_reserved 0 = .ok (.aload_n 0, 1) := by decide +kernel
theorem d_M_reserved_1 : decode c_M_reserved 1 = .ok (.iload_n 1, 1) := by decide +kernel
theorem d_M_reserved_2 : decode c_M_reserved 2 = .ok (.ifCond .lt 8, 3) := by decide +kernel
theorem d_M_reserved_5 : decode c_M_reserved 5 = .ok (.iload_n 1, 1) := by decide +kernel
theorem d_M_reserved_6 : decode c_M_reserved 6 = .ok (.iconst 3, 1) := by decide +kernel
theorem d_M_reserved_7 : decode c_M_reserved 7 = .ok (.if_icmp .le 7, 3) := by decide +kernel
theorem d_M_reserved_10 : decode c_M_reserved 10 = .ok (.iconst 1, 1) := by decide +kernel
theorem d_M_reserved_11 : decode c_M_reserved 11 = .ok (.goto 4, 3) := by decide +kernel
theorem d_M_reserved_14 : decode c_M_reserved 14 = .ok (.iconst 0, 1) := by decide +kernel
theorem d_M_reserved_15 : decode c_M_reserved 15 = .ok (.putfield 28, 3) := by decide +kernel
theorem d_M_reserved_18 : decode c_M_reserved 18 = .ok (.aload_n 0, 1) := by decide +kernel
theorem d_M_reserved_19 : decode c_M_reserved 19 = .ok (.getfield 28, 3) := by decide +kernel
theorem d_M_reserved_22 : decode c_M_reserved 22 = .ok (.ifCond .le 7, 3) := by decide +kernel
theorem d_M_reserved_25 : decode c_M_reserved 25 = .ok (.lconst 0, 1) := by decide +kernel
theorem d_M_reserved_26 : decode c_M_reserved 26 = .ok (.goto 9, 3) := by decide +kernel
theorem d_M_reserved_29 : decode c_M_reserved 29 = .ok (.aload_n 0, 1) := by decide +kernel
theorem d_M_reserved_30 : decode c_M_reserved 30 = .ok (.getfield 17, 3) := by decide +kernel
theorem d_M_reserved_33 : decode c_M_reserved 33 = .ok (.iload_n 1, 1) := by decide +kernel
theorem d_M_reserved_34 : decode c_M_reserved 34 = .ok (.laload, 1) := by decide +kernel
theorem d_M_reserved_35 : decode c_M_reserved 35 = .ok (.lreturn, 1) := by decide +kernel
theorem d_M_writes_0 : decode c_M_writes 0 = .ok (.aload_n 0, 1) := by decide +kernel
theorem d_M_writes_1 : decode c_M_writes 1 = .ok (.iload_n 1, 1) := by decide +kernel
theorem d_M_writes_2 : decode c_M_writes 2 = .ok (.invokevirtual 85, 3) := by decide +kernel
theorem d_M_writes_5 : decode c_M_writes 5 = .ok (.ifCond .eq 7, 3) := by decide +kernel
theorem d_M_writes_8 : decode c_M_writes 8 = .ok (.lconst 0, 1) := by decide +kernel
theorem d_M_writes_9 : decode c_M_writes 9 = .ok (.goto 9, 3) := by decide +kernel
theorem d_M_writes_12 : decode c_M_writes 12 = .ok (.aload_n 0, 1) := by decide +kernel
theorem d_M_writes_13 : decode c_M_writes 13 = .ok (.getfield 14, 3) := by decide +kernel
theorem d_M_writes_16 : decode c_M_writes 16 = .ok (.iload_n 1, 1) := by decide +kernel
theorem d_M_writes_17 : decode c_M_writes 17 = .ok (.laload, 1) := by decide +kernel
theorem d_M_writes_18 : decode c_M_writes 18 = .ok (.lreturn, 1) := by decide +kernel
theorem d_M_noPage_0 : decode c_M_noPage 0 = .ok (.aload_n 0, 1) := by decide +kernel
theorem d_M_noPage_1 : decode c_M_noPage 1 = .ok (.iload_n 1, 1) := by decide +kernel
theorem d_M_noPage_2 : decode c_M_noPage 2 = .ok (.ifCond .lt 11, 3) := by decide +kernel
theorem d_M_noPage_5 : decode c_M_noPage 5 = .ok (.iload_n 1, 1) := by decide +kernel
theorem d_M_noPage_6 : decode c_M_noPage 6 = .ok (.aload_n 0, 1) := by decide +kernel
theorem d_M_noPage_7 : decode c_M_noPage 7 = .ok (.getfield 24, 3) := by decide +kernel
theorem d_M_noPage_10 : decode c_M_noPage 10 = .ok (.if_icmp .lt 7, 3) := by decide +kernel
theorem d_M_noPage_13 : decode c_M_noPage 13 = .ok (.iconst 1, 1) := by decide +kernel
theorem d_M_noPage_14 : decode c_M_noPage 14 = .ok (.goto 4, 3) := by decide +kernel
theorem d_M_noPage_17 : decode c_M_noPage 17 = .ok (.iconst 0, 1) := by decide +kernel
theorem d_M_noPage_18 : decode c_M_noPage 18 = .ok (.putfield 28, 3) := by decide +kernel
theorem d_M_noPage_21 : decode c_M_noPage 21 = .ok (.aload_n 0, 1) := by decide +kernel
theorem d_M_noPage_22 : decode c_M_noPage 22 = .ok (.getfield 28, 3) := by decide +kernel
theorem d_M_noPage_25 : decode c_M_noPage 25 = .ok (.ifCond .le 7, 3) := by decide +kernel
theorem d_M_noPage_28 : decode c_M_noPage 28 = .ok (.iconst 1, 1) := by decide +kernel
theorem d_M_noPage_29 : decode c_M_noPage 29 = .ok (.goto 4, 3) := by decide +kernel
theorem d_M_noPage_32 : decode c_M_noPage 32 = .ok (.iconst 0, 1) := by decide +kernel
theorem d_M_noPage_33 : decode c_M_noPage 33 = .ok (.ireturn, 1) := by decide +kernel
theorem d_M_sum_0 : decode c_M_sum 0 = .ok (.aload_n 0, 1) := by decide +kernel
theorem d_M_sum_1 : decode c_M_sum 1 = .ok (.iload_n 1, 1) := by decide +kernel
theorem d_M_sum_2 : decode c_M_sum 2 = .ok (.invokevirtual 85, 3) := by decide +kernel
theorem d_M_sum_5 : decode c_M_sum 5 = .ok (.ifCond .eq 5, 3) := by decide +kernel
theorem d_M_sum_8 : decode c_M_sum 8 = .ok (.lconst 0, 1) := by decide +kernel
theorem d_M_sum_9 : decode c_M_sum 9 = .ok (.lreturn, 1) := by decide +kernel
theorem d_M_sum_10 : decode c_M_sum 10 = .ok (.lconst 0, 1) := by decide +kernel
theorem d_M_sum_11 : decode c_M_sum 11 = .ok (.lstore_n 2, 1) := by decide +kernel
theorem d_M_sum_12 : decode c_M_sum 12 = .ok (.iconst 0, 1) := by decide +kernel
theorem d_M_sum_13 : decode c_M_sum 13 = .ok (.istore 4, 2) := by decide +kernel
theorem d_M_sum_15 : decode c_M_sum 15 = .ok (.iload 4, 2) := by decide +kernel
theorem d_M_sum_17 : decode c_M_sum 17 = .ok (.sipush 4096, 3) := by decide +kernel
theorem d_M_sum_20 : decode c_M_sum 20 = .ok (.if_icmp .ge 37, 3) := by decide +kernel
theorem d_M_sum_23 : decode c_M_sum 23 = .ok (.lload_n 2, 1) := by decide +kernel
theorem d_M_sum_24 : decode c_M_sum 24 = .ok (.iload 4, 2) := by decide +kernel
theorem d_M_sum_26 : decode c_M_sum 26 = .ok (.i2l, 1) := by decide +kernel
theorem d_M_sum_27 : decode c_M_sum 27 = .ok (.lconst 1, 1) := by decide +kernel
theorem d_M_sum_28 : decode c_M_sum 28 = .ok (.ladd, 1) := by decide +kernel
theorem d_M_sum_29 : decode c_M_sum 29 = .ok (.aload_n 0, 1) := by decide +kernel
theorem d_M_sum_30 : decode c_M_sum 30 = .ok (.ldc2_w 31, 3) := by decide +kernel
theorem d_M_sum_33 : decode c_M_sum 33 = .ok (.ldc2_w 33, 3) := by decide +kernel
theorem d_M_sum_36 : decode c_M_sum 36 = .ok (.iload_n 1, 1) := by decide +kernel
theorem d_M_sum_37 : decode c_M_sum 37 = .ok (.i2l, 1) := by decide +kernel
theorem d_M_sum_38 : decode c_M_sum 38 = .ok (.lmul, 1) := by decide +kernel
theorem d_M_sum_39 : decode c_M_sum 39 = .ok (.ladd, 1) := by decide +kernel
theorem d_M_sum_40 : decode c_M_sum 40 = .ok (.iload 4, 2) := by decide +kernel
theorem d_M_sum_42 : decode c_M_sum 42 = .ok (.i2l, 1) := by decide +kernel
theorem d_M_sum_43 : decode c_M_sum 43 = .ok (.ladd, 1) := by decide +kernel
theorem d_M_sum_44 : decode c_M_sum 44 = .ok (.invokevirtual 45, 3) := by decide +kernel
theorem d_M_sum_47 : decode c_M_sum 47 = .ok (.i2l, 1) := by decide +kernel
theorem d_M_sum_48 : decode c_M_sum 48 = .ok (.lmul, 1) := by decide +kernel
theorem d_M_sum_49 : decode c_M_sum 49 = .ok (.ladd, 1) := by decide +kernel
theorem d_M_sum_50 : decode c_M_sum 50 = .ok (.lstore_n 2, 1) := by decide +kernel
theorem d_M_sum_51 : decode c_M_sum 51 = .ok (.iinc 4 1, 3) := by decide +kernel
theorem d_M_sum_54 : decode c_M_sum 54 = .ok (.goto (-39), 3) := by decide +kernel
theorem d_M_sum_57 : decode c_M_sum 57 = .ok (.lload_n 2, 1) := by decide +kernel
theorem d_M_sum_58 : decode c_M_sum 58 = .ok (.lreturn, 1) := by decide +kernel
theorem d_M_used_0 : decode c_M_used 0 = .ok (.aload_n 0, 1) := by decide +kernel
theorem d_M_used_1 : decode c_M_used 1 = .ok (.iconst 0, 1) := by decide +kernel
theorem d_M_used_2 : decode c_M_used 2 = .ok (.putfield 28, 3) := by decide +kernel
theorem d_M_used_5 : decode c_M_used 5 = .ok (.iconst 0, 1) := by decide +kernel
theorem d_M_used_6 : decode c_M_used 6 = .ok (.istore_n 1, 1) := by decide +kernel
theorem d_M_used_7 : decode c_M_used 7 = .ok (.iconst 0, 1) := by decide +kernel
theorem d_M_used_8 : decode c_M_used 8 = .ok (.istore_n 2, 1) := by decide +kernel
theorem d_M_used_9 : decode c_M_used 9 = .ok (.iload_n 2, 1) := by decide +kernel
theorem d_M_used_10 : decode c_M_used 10 = .ok (.aload_n 0, 1) := by decide +kernel
theorem d_M_used_11 : decode c_M_used 11 = .ok (.getfield 24, 3) := by decide +kernel
theorem d_M_used_14 : decode c_M_used 14 = .ok (.if_icmp .ge 68, 3) := by decide +kernel
theorem d_M_used_17 : decode c_M_used 17 = .ok (.iconst 0, 1) := by decide +kernel
theorem d_M_used_18 : decode c_M_used 18 = .ok (.istore_n 3, 1) := by decide +kernel
theorem d_M_used_19 : decode c_M_used 19 = .ok (.iconst 0, 1) := by decide +kernel
theorem d_M_used_20 : decode c_M_used 20 = .ok (.istore 4, 2) := by decide +kernel
theorem d_M_used_22 : decode c_M_used 22 = .ok (.iload 4, 2) := by decide +kernel
theorem d_M_used_24 : decode c_M_used 24 = .ok (.sipush 512, 3) := by decide +kernel
theorem d_M_used_27 : decode c_M_used 27 = .ok (.if_icmp .ge 37, 3) := by decide +kernel
theorem d_M_used_30 : decode c_M_used 30 = .ok (.iload_n 3, 1) := by decide +kernel
theorem d_M_used_31 : decode c_M_used 31 = .ok (.ifCond .ne 21, 3) := by decide +kernel
theorem d_M_used_34 : decode c_M_used 34 = .ok (.aload_n 0, 1) := by decide +kernel
theorem d_M_used_35 : decode c_M_used 35 = .ok (.getfield 8, 3) := by decide +kernel
theorem d_M_used_38 : decode c_M_used 38 = .ok (.sipush 512, 3) := by decide +kernel
theorem d_M_used_41 : decode c_M_used 41 = .ok (.iload_n 2, 1) := by decide +kernel
theorem d_M_used_42 : decode c_M_used 42 = .ok (.imul, 1) := by decide +kernel
theorem d_M_used_43 : decode c_M_used 43 = .ok (.iload 4, 2) := by decide +kernel
theorem d_M_used_45 : decode c_M_used 45 = .ok (.iadd, 1) := by decide +kernel
theorem d_M_used_46 : decode c_M_used 46 = .ok (.laload, 1) := by decide +kernel
theorem d_M_used_47 : decode c_M_used 47 = .ok (.lconst 0, 1) := by decide +kernel
theorem d_M_used_48 : decode c_M_used 48 = .ok (.lcmp, 1) := by decide +kernel
theorem d_M_used_49 : decode c_M_used 49 = .ok (.ifCond .eq 7, 3) := by decide +kernel
theorem d_M_used_52 : decode c_M_used 52 = .ok (.iconst 1, 1) := by decide +kernel
theorem d_M_used_53 : decode c_M_used 53 = .ok (.goto 4, 3) := by decide +kernel
theorem d_M_used_56 : decode c_M_used 56 = .ok (.iconst 0, 1) := by decide +kernel
theorem d_M_used_57 : decode c_M_used 57 = .ok (.istore_n 3, 1) := by decide +kernel
theorem d_M_used_58 : decode c_M_used 58 = .ok (.iinc 4 1, 3) := by decide +kernel
theorem d_M_used_61 : decode c_M_used 61 = .ok (.goto (-39), 3) := by decide +kernel
theorem d_M_used_64 : decode c_M_used 64 = .ok (.iload_n 3, 1) := by decide +kernel
theorem d_M_used_65 : decode c_M_used 65 = .ok (.ifCond .eq 9, 3) := by decide +kernel
theorem d_M_used_68 : decode c_M_used 68 = .ok (.iload_n 1, 1) := by decide +kernel
theorem d_M_used_69 : decode c_M_used 69 = .ok (.iconst 1, 1) := by decide +kernel
theorem d_M_used_70 : decode c_M_used 70 = .ok (.iadd, 1) := by decide +kernel
theorem d_M_used_71 : decode c_M_used 71 = .ok (.goto 4, 3) := by decide +kernel
theorem d_M_used_74 : decode c_M_used 74 = .ok (.iload_n 1, 1) := by decide +kernel
theorem d_M_used_75 : decode c_M_used 75 = .ok (.istore_n 1, 1) := by decide +kernel
theorem d_M_used_76 : decode c_M_used 76 = .ok (.iinc 2 1, 3) := by decide +kernel
theorem d_M_used_79 : decode c_M_used 79 = .ok (.goto (-70), 3) := by decide +kernel
theorem d_M_used_82 : decode c_M_used 82 = .ok (.iload_n 1, 1) := by decide +kernel
theorem d_M_used_83 : decode c_M_used 83 = .ok (.ireturn, 1) := by decide +kernel
