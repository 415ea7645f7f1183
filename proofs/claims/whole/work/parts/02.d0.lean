theorem dX0_init_0 : decode cX0_init 0 = .ok (.aload_n 0, 1) := by decide +kernel
theorem dX0_init_1 : decode cX0_init 1 = .ok (.invokespecial 3, 3) := by decide +kernel
theorem dX0_init_4 : decode cX0_init 4 = .ok (.aload_n 0, 1) := by decide +kernel
theorem dX0_init_5 : decode cX0_init 5 = .ok (.bipush 8, 2) := by decide +kernel
theorem dX0_init_7 : decode cX0_init 7 = .ok (.newarray .int, 2) := by decide +kernel
theorem dX0_init_9 : decode cX0_init 9 = .ok (.putfield 9, 3) := by decide +kernel
theorem dX0_init_12 : decode cX0_init 12 = .ok (.aload_n 0, 1) := by decide +kernel
theorem dX0_init_13 : decode cX0_init 13 = .ok (.bipush 112, 2) := by decide +kernel
theorem dX0_init_15 : decode cX0_init 15 = .ok (.newarray .int, 2) := by decide +kernel
theorem dX0_init_17 : decode cX0_init 17 = .ok (.putfield 15, 3) := by decide +kernel
theorem dX0_init_20 : decode cX0_init 20 = .ok (.return_, 1) := by decide +kernel
theorem dX0_empty_0 : decode cX0_empty 0 = .ok (.aload_n 0, 1) := by decide +kernel
theorem dX0_empty_1 : decode cX0_empty 1 = .ok (.iload_n 1, 1) := by decide +kernel
theorem dX0_empty_2 : decode cX0_empty 2 = .ok (.putfield 18, 3) := by decide +kernel
theorem dX0_empty_5 : decode cX0_empty 5 = .ok (.aload_n 0, 1) := by decide +kernel
theorem dX0_empty_6 : decode cX0_empty 6 = .ok (.getfield 9, 3) := by decide +kernel
theorem dX0_empty_9 : decode cX0_empty 9 = .ok (.iconst 0, 1) := by decide +kernel
theorem dX0_empty_10 : decode cX0_empty 10 = .ok (.invokestatic 22, 3) := by decide +kernel
theorem dX0_empty_13 : decode cX0_empty 13 = .ok (.aload_n 0, 1) := by decide +kernel
theorem dX0_empty_14 : decode cX0_empty 14 = .ok (.getfield 15, 3) := by decide +kernel
theorem dX0_empty_17 : decode cX0_empty 17 = .ok (.iconst 0, 1) := by decide +kernel
theorem dX0_empty_18 : decode cX0_empty 18 = .ok (.invokestatic 22, 3) := by decide +kernel
theorem dX0_empty_21 : decode cX0_empty 21 = .ok (.return_, 1) := by decide +kernel
theorem dX0_copy_0 : decode cX0_copy 0 = .ok (.aload_n 0, 1) := by decide +kernel
theorem dX0_copy_1 : decode cX0_copy 1 = .ok (.aload_n 1, 1) := by decide +kernel
theorem dX0_copy_2 : decode cX0_copy 2 = .ok (.getfield 18, 3) := by decide +kernel
theorem dX0_copy_5 : decode cX0_copy 5 = .ok (.putfield 18, 3) := by decide +kernel
theorem dX0_copy_8 : decode cX0_copy 8 = .ok (.aload_n 1, 1) := by decide +kernel
theorem dX0_copy_9 : decode cX0_copy 9 = .ok (.getfield 9, 3) := by decide +kernel
theorem dX0_copy_12 : decode cX0_copy 12 = .ok (.iconst 0, 1) := by decide +kernel
theorem dX0_copy_13 : decode cX0_copy 13 = .ok (.aload_n 0, 1) := by decide +kernel
theorem dX0_copy_14 : decode cX0_copy 14 = .ok (.getfield 9, 3) := by decide +kernel
theorem dX0_copy_17 : decode cX0_copy 17 = .ok (.iconst 0, 1) := by decide +kernel
theorem dX0_copy_18 : decode cX0_copy 18 = .ok (.bipush 8, 2) := by decide +kernel
theorem dX0_copy_20 : decode cX0_copy 20 = .ok (.invokestatic 28, 3) := by decide +kernel
theorem dX0_copy_23 : decode cX0_copy 23 = .ok (.aload_n 1, 1) := by decide +kernel
theorem dX0_copy_24 : decode cX0_copy 24 = .ok (.getfield 15, 3) := by decide +kernel
theorem dX0_copy_27 : decode cX0_copy 27 = .ok (.iconst 0, 1) := by decide +kernel
theorem dX0_copy_28 : decode cX0_copy 28 = .ok (.aload_n 0, 1) := by decide +kernel
theorem dX0_copy_29 : decode cX0_copy 29 = .ok (.getfield 15, 3) := by decide +kernel
theorem dX0_copy_32 : decode cX0_copy 32 = .ok (.iconst 0, 1) := by decide +kernel
theorem dX0_copy_33 : decode cX0_copy 33 = .ok (.bipush 112, 2) := by decide +kernel
theorem dX0_copy_35 : decode cX0_copy 35 = .ok (.invokestatic 28, 3) := by decide +kernel
theorem dX0_copy_38 : decode cX0_copy 38 = .ok (.return_, 1) := by decide +kernel
theorem dX0_isLeft_0 : decode cX0_isLeft 0 = .ok (.aload_n 0, 1) := by decide +kernel
theorem dX0_isLeft_1 : decode cX0_isLeft 1 = .ok (.getfield 18, 3) := by decide +kernel
theorem dX0_isLeft_4 : decode cX0_isLeft 4 = .ok (.iload_n 1, 1) := by decide +kernel
theorem dX0_isLeft_5 : decode cX0_isLeft 5 = .ok (.ishr, 1) := by decide +kernel
theorem dX0_isLeft_6 : decode cX0_isLeft 6 = .ok (.iconst 1, 1) := by decide +kernel
theorem dX0_isLeft_7 : decode cX0_isLeft 7 = .ok (.iand, 1) := by decide +kernel
theorem dX0_isLeft_8 : decode cX0_isLeft 8 = .ok (.iconst 1, 1) := by decide +kernel
theorem dX0_isLeft_9 : decode cX0_isLeft 9 = .ok (.if_icmp .ne 7, 3) := by decide +kernel
theorem dX0_isLeft_12 : decode cX0_isLeft 12 = .ok (.iconst 1, 1) := by decide +kernel
theorem dX0_isLeft_13 : decode cX0_isLeft 13 = .ok (.goto 4, 3) := by decide +kernel
theorem dX0_isLeft_16 : decode cX0_isLeft 16 = .ok (.iconst 0, 1) := by decide +kernel
theorem dX0_isLeft_17 : decode cX0_isLeft 17 = .ok (.ireturn, 1) := by decide +kernel
theorem dX0_source_0 : decode cX0_source 0 = .ok (.aload_n 0, 1) := by decide +kernel
theorem dX0_source_1 : decode cX0_source 1 = .ok (.iload_n 1, 1) := by decide +kernel
theorem dX0_source_2 : decode cX0_source 2 = .ok (.invokevirtual 34, 3) := by decide +kernel
theorem dX0_source_5 : decode cX0_source 5 = .ok (.ifCond .eq 9, 3) := by decide +kernel
theorem dX0_source_8 : decode cX0_source 8 = .ok (.iload_n 1, 1) := by decide +kernel
theorem dX0_source_9 : decode cX0_source 9 = .ok (.iconst 1, 1) := by decide +kernel
theorem dX0_source_10 : decode cX0_source 10 = .ok (.iadd, 1) := by decide +kernel
theorem dX0_source_11 : decode cX0_source 11 = .ok (.goto 4, 3) := by decide +kernel
theorem dX0_source_14 : decode cX0_source 14 = .ok (.iload_n 1, 1) := by decide +kernel
theorem dX0_source_15 : decode cX0_source 15 = .ok (.ireturn, 1) := by decide +kernel
theorem dX0_target_0 : decode cX0_target 0 = .ok (.aload_n 0, 1) := by decide +kernel
theorem dX0_target_1 : decode cX0_target 1 = .ok (.iload_n 1, 1) := by decide +kernel
theorem dX0_target_2 : decode cX0_target 2 = .ok (.invokevirtual 34, 3) := by decide +kernel
theorem dX0_target_5 : decode cX0_target 5 = .ok (.ifCond .eq 7, 3) := by decide +kernel
theorem dX0_target_8 : decode cX0_target 8 = .ok (.iload_n 1, 1) := by decide +kernel
theorem dX0_target_9 : decode cX0_target 9 = .ok (.goto 6, 3) := by decide +kernel
theorem dX0_target_12 : decode cX0_target 12 = .ok (.iload_n 1, 1) := by decide +kernel
theorem dX0_target_13 : decode cX0_target 13 = .ok (.iconst 1, 1) := by decide +kernel
theorem dX0_target_14 : decode cX0_target 14 = .ok (.iadd, 1) := by decide +kernel
theorem dX0_target_15 : decode cX0_target 15 = .ok (.ireturn, 1) := by decide +kernel
theorem dX0_rowsOf_0 : decode cX0_rowsOf 0 = .ok (.aload_n 0, 1) := by decide +kernel
theorem dX0_rowsOf_1 : decode cX0_rowsOf 1 = .ok (.getfield 9, 3) := by decide +kernel
theorem dX0_rowsOf_4 : decode cX0_rowsOf 4 = .ok (.aload_n 0, 1) := by decide +kernel
theorem dX0_rowsOf_5 : decode cX0_rowsOf 5 = .ok (.iload_n 1, 1) := by decide +kernel
theorem dX0_rowsOf_6 : decode cX0_rowsOf 6 = .ok (.invokevirtual 38, 3) := by decide +kernel
theorem dX0_rowsOf_9 : decode cX0_rowsOf 9 = .ok (.iaload, 1) := by decide +kernel
theorem dX0_rowsOf_10 : decode cX0_rowsOf 10 = .ok (.ireturn, 1) := by decide +kernel
theorem dX0_columnsOf_0 : decode cX0_columnsOf 0 = .ok (.aload_n 0, 1) := by decide +kernel
theorem dX0_columnsOf_1 : decode cX0_columnsOf 1 = .ok (.getfield 9, 3) := by decide +kernel
theorem dX0_columnsOf_4 : decode cX0_columnsOf 4 = .ok (.aload_n 0, 1) := by decide +kernel
theorem dX0_columnsOf_5 : decode cX0_columnsOf 5 = .ok (.iload_n 1, 1) := by decide +kernel
theorem dX0_columnsOf_6 : decode cX0_columnsOf 6 = .ok (.invokevirtual 42, 3) := by decide +kernel
theorem dX0_columnsOf_9 : decode cX0_columnsOf 9 = .ok (.iaload, 1) := by decide +kernel
theorem dX0_columnsOf_10 : decode cX0_columnsOf 10 = .ok (.ireturn, 1) := by decide +kernel
theorem dX0_number_0 : decode cX0_number 0 = .ok (.aload_n 0, 1) := by decide +kernel
theorem dX0_number_1 : decode cX0_number 1 = .ok (.getfield 15, 3) := by decide +kernel
theorem dX0_number_4 : decode cX0_number 4 = .ok (.iload_n 1, 1) := by decide +kernel
theorem dX0_number_5 : decode cX0_number 5 = .ok (.bipush 16, 2) := by decide +kernel
theorem dX0_number_7 : decode cX0_number 7 = .ok (.imul, 1) := by decide +kernel
theorem dX0_number_8 : decode cX0_number 8 = .ok (.iload_n 2, 1) := by decide +kernel
theorem dX0_number_9 : decode cX0_number 9 = .ok (.iconst 4, 1) := by decide +kernel
theorem dX0_number_10 : decode cX0_number 10 = .ok (.imul, 1) := by decide +kernel
theorem dX0_number_11 : decode cX0_number 11 = .ok (.iadd, 1) := by decide +kernel
theorem dX0_number_12 : decode cX0_number 12 = .ok (.iload_n 3, 1) := by decide +kernel
theorem dX0_number_13 : decode cX0_number 13 = .ok (.iadd, 1) := by decide +kernel
theorem dX0_number_14 : decode cX0_number 14 = .ok (.iaload, 1) := by decide +kernel
theorem dX0_number_15 : decode cX0_number 15 = .ok (.ireturn, 1) := by decide +kernel
theorem dX0_numberBeside_0 : decode cX0_numberBeside 0 = .ok (.iload_n 2, 1) := by decide +kernel
theorem dX0_numberBeside_1 : decode cX0_numberBeside 1 = .ok (.ifCond .eq 14, 3) := by decide +kernel
theorem dX0_numberBeside_4 : decode cX0_numberBeside 4 = .ok (.aload_n 0, 1) := by decide +kernel
theorem dX0_numberBeside_5 : decode cX0_numberBeside 5 = .ok (.iload_n 1, 1) := by decide +kernel
theorem dX0_numberBeside_6 : decode cX0_numberBeside 6 = .ok (.iload_n 3, 1) := by decide +kernel
theorem dX0_numberBeside_7 : decode cX0_numberBeside 7 = .ok (.iload 4, 2) := by decide +kernel
theorem dX0_numberBeside_9 : decode cX0_numberBeside 9 = .ok (.invokevirtual 45, 3) := by decide +kernel
theorem dX0_numberBeside_12 : decode cX0_numberBeside 12 = .ok (.goto 11, 3) := by decide +kernel
theorem dX0_numberBeside_15 : decode cX0_numberBeside 15 = .ok (.aload_n 0, 1) := by decide +kernel
theorem dX0_numberBeside_16 : decode cX0_numberBeside 16 = .ok (.iload_n 1, 1) := by decide +kernel
theorem dX0_numberBeside_17 : decode cX0_numberBeside 17 = .ok (.iload 4, 2) := by decide +kernel
theorem dX0_numberBeside_19 : decode cX0_numberBeside 19 = .ok (.iload_n 3, 1) := by decide +kernel
theorem dX0_numberBeside_20 : decode cX0_numberBeside 20 = .ok (.invokevirtual 45, 3) := by decide +kernel
theorem dX0_numberBeside_23 : decode cX0_numberBeside 23 = .ok (.ireturn, 1) := by decide +kernel
theorem dX0_put_0 : decode cX0_put 0 = .ok (.aload_n 0, 1) := by decide +kernel
theorem dX0_put_1 : decode cX0_put 1 = .ok (.getfield 15, 3) := by decide +kernel
theorem dX0_put_4 : decode cX0_put 4 = .ok (.iload_n 1, 1) := by decide +kernel
theorem dX0_put_5 : decode cX0_put 5 = .ok (.bipush 16, 2) := by decide +kernel
theorem dX0_put_7 : decode cX0_put 7 = .ok (.imul, 1) := by decide +kernel
theorem dX0_put_8 : decode cX0_put 8 = .ok (.iload_n 2, 1) := by decide +kernel
theorem dX0_put_9 : decode cX0_put 9 = .ok (.iconst 4, 1) := by decide +kernel
theorem dX0_put_10 : decode cX0_put 10 = .ok (.imul, 1) := by decide +kernel
theorem dX0_put_11 : decode cX0_put 11 = .ok (.iadd, 1) := by decide +kernel
theorem dX0_put_12 : decode cX0_put 12 = .ok (.iload_n 3, 1) := by decide +kernel
theorem dX0_put_13 : decode cX0_put 13 = .ok (.iadd, 1) := by decide +kernel
theorem dX0_put_14 : decode cX0_put 14 = .ok (.iload 4, 2) := by decide +kernel
theorem dX0_put_16 : decode cX0_put 16 = .ok (.iastore, 1) := by decide +kernel
theorem dX0_put_17 : decode cX0_put 17 = .ok (.return_, 1) := by decide +kernel
theorem dX0_putTable_0 : decode cX0_putTable 0 = .ok (.aload_n 1, 1) := by decide +kernel
theorem dX0_putTable_1 : decode cX0_putTable 1 = .ok (.iload_n 2, 1) := by decide +kernel
theorem dX0_putTable_2 : decode cX0_putTable 2 = .ok (.invokevirtual 49, 3) := by decide +kernel
theorem dX0_putTable_5 : decode cX0_putTable 5 = .ok (.istore 5, 2) := by decide +kernel
theorem dX0_putTable_7 : decode cX0_putTable 7 = .ok (.aload_n 1, 1) := by decide +kernel
theorem dX0_putTable_8 : decode cX0_putTable 8 = .ok (.iload_n 2, 1) := by decide +kernel
theorem dX0_putTable_9 : decode cX0_putTable 9 = .ok (.invokevirtual 52, 3) := by decide +kernel
theorem dX0_putTable_12 : decode cX0_putTable 12 = .ok (.istore 6, 2) := by decide +kernel
theorem dX0_putTable_14 : decode cX0_putTable 14 = .ok (.iconst 0, 1) := by decide +kernel
theorem dX0_putTable_15 : decode cX0_putTable 15 = .ok (.istore 7, 2) := by decide +kernel
theorem dX0_putTable_17 : decode cX0_putTable 17 = .ok (.iload 7, 2) := by decide +kernel
theorem dX0_putTable_19 : decode cX0_putTable 19 = .ok (.iload 5, 2) := by decide +kernel
theorem dX0_putTable_21 : decode cX0_putTable 21 = .ok (.if_icmp .ge 48, 3) := by decide +kernel
theorem dX0_putTable_24 : decode cX0_putTable 24 = .ok (.iconst 0, 1) := by decide +kernel
theorem dX0_putTable_25 : decode cX0_putTable 25 = .ok (.istore 8, 2) := by decide +kernel
theorem dX0_putTable_27 : decode cX0_putTable 27 = .ok (.iload 8, 2) := by decide +kernel
theorem dX0_putTable_29 : decode cX0_putTable 29 = .ok (.iload 6, 2) := by decide +kernel
theorem dX0_putTable_31 : decode cX0_putTable 31 = .ok (.if_icmp .ge 32, 3) := by decide +kernel
theorem dX0_putTable_34 : decode cX0_putTable 34 = .ok (.aload_n 0, 1) := by decide +kernel
theorem dX0_putTable_35 : decode cX0_putTable 35 = .ok (.iload_n 2, 1) := by decide +kernel
theorem dX0_putTable_36 : decode cX0_putTable 36 = .ok (.iload_n 3, 1) := by decide +kernel
theorem dX0_putTable_37 : decode cX0_putTable 37 = .ok (.iload 7, 2) := by decide +kernel
theorem dX0_putTable_39 : decode cX0_putTable 39 = .ok (.iadd, 1) := by decide +kernel
theorem dX0_putTable_40 : decode cX0_putTable 40 = .ok (.iload 4, 2) := by decide +kernel
theorem dX0_putTable_42 : decode cX0_putTable 42 = .ok (.iload 8, 2) := by decide +kernel
theorem dX0_putTable_44 : decode cX0_putTable 44 = .ok (.iadd, 1) := by decide +kernel
theorem dX0_putTable_45 : decode cX0_putTable 45 = .ok (.aload_n 1, 1) := by decide +kernel
theorem dX0_putTable_46 : decode cX0_putTable 46 = .ok (.iload_n 2, 1) := by decide +kernel
theorem dX0_putTable_47 : decode cX0_putTable 47 = .ok (.iload 7, 2) := by decide +kernel
theorem dX0_putTable_49 : decode cX0_putTable 49 = .ok (.iload 8, 2) := by decide +kernel
theorem dX0_putTable_51 : decode cX0_putTable 51 = .ok (.invokevirtual 45, 3) := by decide +kernel
theorem dX0_putTable_54 : decode cX0_putTable 54 = .ok (.invokevirtual 55, 3) := by decide +kernel
theorem dX0_putTable_57 : decode cX0_putTable 57 = .ok (.iinc 8 1, 3) := by decide +kernel
theorem dX0_putTable_60 : decode cX0_putTable 60 = .ok (.goto (-33), 3) := by decide +kernel
theorem dX0_putTable_63 : decode cX0_putTable 63 = .ok (.iinc 7 1, 3) := by decide +kernel
theorem dX0_putTable_66 : decode cX0_putTable 66 = .ok (.goto (-49), 3) := by decide +kernel
theorem dX0_putTable_69 : decode cX0_putTable 69 = .ok (.return_, 1) := by decide +kernel
theorem dX0_reverse_0 : decode cX0_reverse 0 = .ok (.aload_n 0, 1) := by decide +kernel
theorem dX0_reverse_1 : decode cX0_reverse 1 = .ok (.dup, 1) := by decide +kernel
theorem dX0_reverse_2 : decode cX0_reverse 2 = .ok (.getfield 18, 3) := by decide +kernel
theorem dX0_reverse_5 : decode cX0_reverse 5 = .ok (.iconst 1, 1) := by decide +kernel
theorem dX0_reverse_6 : decode cX0_reverse 6 = .ok (.iload_n 1, 1) := by decide +kernel
theorem dX0_reverse_7 : decode cX0_reverse 7 = .ok (.ishl, 1) := by decide +kernel
theorem dX0_reverse_8 : decode cX0_reverse 8 = .ok (.ixor, 1) := by decide +kernel
theorem dX0_reverse_9 : decode cX0_reverse 9 = .ok (.putfield 18, 3) := by decide +kernel
theorem dX0_reverse_12 : decode cX0_reverse 12 = .ok (.iconst 0, 1) := by decide +kernel
theorem dX0_reverse_13 : decode cX0_reverse 13 = .ok (.istore_n 2, 1) := by decide +kernel
theorem dX0_reverse_14 : decode cX0_reverse 14 = .ok (.iload_n 2, 1) := by decide +kernel
theorem dX0_reverse_15 : decode cX0_reverse 15 = .ok (.bipush 16, 2) := by decide +kernel
theorem dX0_reverse_17 : decode cX0_reverse 17 = .ok (.if_icmp .ge 21, 3) := by decide +kernel
theorem dX0_reverse_20 : decode cX0_reverse 20 = .ok (.aload_n 0, 1) := by decide +kernel
theorem dX0_reverse_21 : decode cX0_reverse 21 = .ok (.getfield 15, 3) := by decide +kernel
theorem dX0_reverse_24 : decode cX0_reverse 24 = .ok (.iload_n 1, 1) := by decide +kernel
theorem dX0_reverse_25 : decode cX0_reverse 25 = .ok (.bipush 16, 2) := by decide +kernel
theorem dX0_reverse_27 : decode cX0_reverse 27 = .ok (.imul, 1) := by decide +kernel
theorem dX0_reverse_28 : decode cX0_reverse 28 = .ok (.iload_n 2, 1) := by decide +kernel
theorem dX0_reverse_29 : decode cX0_reverse 29 = .ok (.iadd, 1) := by decide +kernel
theorem dX0_reverse_30 : decode cX0_reverse 30 = .ok (.iconst 0, 1) := by decide +kernel
theorem dX0_reverse_31 : decode cX0_reverse 31 = .ok (.iastore, 1) := by decide +kernel
theorem dX0_reverse_32 : decode cX0_reverse 32 = .ok (.iinc 2 1, 3) := by decide +kernel
theorem dX0_reverse_35 : decode cX0_reverse 35 = .ok (.goto (-21), 3) := by decide +kernel
theorem dX0_reverse_38 : decode cX0_reverse 38 = .ok (.return_, 1) := by decide +kernel
theorem dX1_init_0 : decode cX1_init 0 = .ok (.aload_n 0, 1) := by decide +kernel
theorem dX1_init_1 : decode cX1_init 1 = .ok (.invokespecial 3, 3) := by decide +kernel
theorem dX1_init_4 : decode cX1_init 4 = .ok (.aload_n 0, 1) := by decide +kernel
theorem dX1_init_5 : decode cX1_init 5 = .ok (.bipush 32, 2) := by decide +kernel
theorem dX1_init_7 : decode cX1_init 7 = .ok (.newarray .int, 2) := by decide +kernel
theorem dX1_init_9 : decode cX1_init 9 = .ok (.putfield 9, 3) := by decide +kernel
theorem dX1_init_12 : decode cX1_init 12 = .ok (.aload_n 0, 1) := by decide +kernel
theorem dX1_init_13 : decode cX1_init 13 = .ok (.bipush 32, 2) := by decide +kernel
theorem dX1_init_15 : decode cX1_init 15 = .ok (.newarray .int, 2) := by decide +kernel
theorem dX1_init_17 : decode cX1_init 17 = .ok (.putfield 15, 3) := by decide +kernel
theorem dX1_init_20 : decode cX1_init 20 = .ok (.aload_n 0, 1) := by decide +kernel
theorem dX1_init_21 : decode cX1_init 21 = .ok (.bipush 32, 2) := by decide +kernel
theorem dX1_init_23 : decode cX1_init 23 = .ok (.newarray .int, 2) := by decide +kernel
theorem dX1_init_25 : decode cX1_init 25 = .ok (.putfield 18, 3) := by decide +kernel
theorem dX1_init_28 : decode cX1_init 28 = .ok (.aload_n 0, 1) := by decide +kernel
theorem dX1_init_29 : decode cX1_init 29 = .ok (.bipush 32, 2) := by decide +kernel
theorem dX1_init_31 : decode cX1_init 31 = .ok (.newarray .int, 2) := by decide +kernel
theorem dX1_init_33 : decode cX1_init 33 = .ok (.putfield 21, 3) := by decide +kernel
theorem dX1_init_36 : decode cX1_init 36 = .ok (.return_, 1) := by decide +kernel
theorem dX1_leastCost_0 : decode cX1_leastCost 0 = .ok (.iconst 0, 1) := by decide +kernel
theorem dX1_leastCost_1 : decode cX1_leastCost 1 = .ok (.istore 4, 2) := by decide +kernel
theorem dX1_leastCost_3 : decode cX1_leastCost 3 = .ok (.iload 4, 2) := by decide +kernel
theorem dX1_leastCost_5 : decode cX1_leastCost 5 = .ok (.iload_n 3, 1) := by decide +kernel
theorem dX1_leastCost_6 : decode cX1_leastCost 6 = .ok (.if_icmp .ge 34, 3) := by decide +kernel
theorem dX1_leastCost_9 : decode cX1_leastCost 9 = .ok (.aload_n 0, 1) := by decide +kernel
theorem dX1_leastCost_10 : decode cX1_leastCost 10 = .ok (.aload_n 1, 1) := by decide +kernel
theorem dX1_leastCost_11 : decode cX1_leastCost 11 = .ok (.aload_n 2, 1) := by decide +kernel
theorem dX1_leastCost_12 : decode cX1_leastCost 12 = .ok (.iload 4, 2) := by decide +kernel
theorem dX1_leastCost_14 : decode cX1_leastCost 14 = .ok (.invokevirtual 24, 3) := by decide +kernel
theorem dX1_leastCost_17 : decode cX1_leastCost 17 = .ok (.ifCond .eq 17, 3) := by decide +kernel
theorem dX1_leastCost_20 : decode cX1_leastCost 20 = .ok (.aload_n 0, 1) := by decide +kernel
theorem dX1_leastCost_21 : decode cX1_leastCost 21 = .ok (.aload_n 2, 1) := by decide +kernel
theorem dX1_leastCost_22 : decode cX1_leastCost 22 = .ok (.aload_n 1, 1) := by decide +kernel
theorem dX1_leastCost_23 : decode cX1_leastCost 23 = .ok (.iload 4, 2) := by decide +kernel
theorem dX1_leastCost_25 : decode cX1_leastCost 25 = .ok (.invokevirtual 24, 3) := by decide +kernel
theorem dX1_leastCost_28 : decode cX1_leastCost 28 = .ok (.ifCond .eq 6, 3) := by decide +kernel
theorem dX1_leastCost_31 : decode cX1_leastCost 31 = .ok (.iload 4, 2) := by decide +kernel
theorem dX1_leastCost_33 : decode cX1_leastCost 33 = .ok (.ireturn, 1) := by decide +kernel
theorem dX1_leastCost_34 : decode cX1_leastCost 34 = .ok (.iinc 4 1, 3) := by decide +kernel
theorem dX1_leastCost_37 : decode cX1_leastCost 37 = .ok (.goto (-34), 3) := by decide +kernel
theorem dX1_leastCost_40 : decode cX1_leastCost 40 = .ok (.iload_n 3, 1) := by decide +kernel
theorem dX1_leastCost_41 : decode cX1_leastCost 41 = .ok (.ireturn, 1) := by decide +kernel
theorem dX1_canPair_0 : decode cX1_canPair 0 = .ok (.aload_n 0, 1) := by decide +kernel
theorem dX1_canPair_1 : decode cX1_canPair 1 = .ok (.getfield 9, 3) := by decide +kernel
theorem dX1_canPair_4 : decode cX1_canPair 4 = .ok (.iconst (-1), 1) := by decide +kernel
theorem dX1_canPair_5 : decode cX1_canPair 5 = .ok (.invokestatic 28, 3) := by decide +kernel
theorem dX1_canPair_8 : decode cX1_canPair 8 = .ok (.aload_n 0, 1) := by decide +kernel
theorem dX1_canPair_9 : decode cX1_canPair 9 = .ok (.getfield 15, 3) := by decide +kernel
theorem dX1_canPair_12 : decode cX1_canPair 12 = .ok (.iconst (-1), 1) := by decide +kernel
theorem dX1_canPair_13 : decode cX1_canPair 13 = .ok (.invokestatic 28, 3) := by decide +kernel
theorem dX1_canPair_16 : decode cX1_canPair 16 = .ok (.iconst 0, 1) := by decide +kernel
theorem dX1_canPair_17 : decode cX1_canPair 17 = .ok (.istore 4, 2) := by decide +kernel
theorem dX1_canPair_19 : decode cX1_canPair 19 = .ok (.iload 4, 2) := by decide +kernel
theorem dX1_canPair_21 : decode cX1_canPair 21 = .ok (.aload_n 1, 1) := by decide +kernel
theorem dX1_canPair_22 : decode cX1_canPair 22 = .ok (.getfield 34, 3) := by decide +kernel
theorem dX1_canPair_25 : decode cX1_canPair 25 = .ok (.if_icmp .ge 56, 3) := by decide +kernel
theorem dX1_canPair_28 : decode cX1_canPair 28 = .ok (.aload_n 1, 1) := by decide +kernel
theorem dX1_canPair_29 : decode cX1_canPair 29 = .ok (.getfield 40, 3) := by decide +kernel
theorem dX1_canPair_32 : decode cX1_canPair 32 = .ok (.iload 4, 2) := by decide +kernel
theorem dX1_canPair_34 : decode cX1_canPair 34 = .ok (.iaload, 1) := by decide +kernel
theorem dX1_canPair_35 : decode cX1_canPair 35 = .ok (.aload_n 1, 1) := by decide +kernel
theorem dX1_canPair_36 : decode cX1_canPair 36 = .ok (.getfield 43, 3) := by decide +kernel
theorem dX1_canPair_39 : decode cX1_canPair 39 = .ok (.iload 4, 2) := by decide +kernel
theorem dX1_canPair_41 : decode cX1_canPair 41 = .ok (.iaload, 1) := by decide +kernel
theorem dX1_canPair_42 : decode cX1_canPair 42 = .ok (.isub, 1) := by decide +kernel
theorem dX1_canPair_43 : decode cX1_canPair 43 = .ok (.iconst 1, 1) := by decide +kernel
theorem dX1_canPair_44 : decode cX1_canPair 44 = .ok (.iadd, 1) := by decide +kernel
theorem dX1_canPair_45 : decode cX1_canPair 45 = .ok (.iload_n 3, 1) := by decide +kernel
theorem dX1_canPair_46 : decode cX1_canPair 46 = .ok (.if_icmp .le 7, 3) := by decide +kernel
theorem dX1_canPair_49 : decode cX1_canPair 49 = .ok (.iconst 1, 1) := by decide +kernel
theorem dX1_canPair_50 : decode cX1_canPair 50 = .ok (.goto 4, 3) := by decide +kernel
theorem dX1_canPair_53 : decode cX1_canPair 53 = .ok (.iconst 0, 1) := by decide +kernel
theorem dX1_canPair_54 : decode cX1_canPair 54 = .ok (.istore 5, 2) := by decide +kernel
theorem dX1_canPair_56 : decode cX1_canPair 56 = .ok (.iload 5, 2) := by decide +kernel
theorem dX1_canPair_58 : decode cX1_canPair 58 = .ok (.ifCond .eq 17, 3) := by decide +kernel
theorem dX1_canPair_61 : decode cX1_canPair 61 = .ok (.aload_n 0, 1) := by decide +kernel
theorem dX1_canPair_62 : decode cX1_canPair 62 = .ok (.aload_n 1, 1) := by decide +kernel
theorem dX1_canPair_63 : decode cX1_canPair 63 = .ok (.aload_n 2, 1) := by decide +kernel
theorem dX1_canPair_64 : decode cX1_canPair 64 = .ok (.iload 4, 2) := by decide +kernel
theorem dX1_canPair_66 : decode cX1_canPair 66 = .ok (.iload_n 3, 1) := by decide +kernel
theorem dX1_canPair_67 : decode cX1_canPair 67 = .ok (.invokevirtual 46, 3) := by decide +kernel
theorem dX1_canPair_70 : decode cX1_canPair 70 = .ok (.ifCond .ne 5, 3) := by decide +kernel
theorem dX1_canPair_73 : decode cX1_canPair 73 = .ok (.iconst 0, 1) := by decide +kernel
theorem dX1_canPair_74 : decode cX1_canPair 74 = .ok (.ireturn, 1) := by decide +kernel
theorem dX1_canPair_75 : decode cX1_canPair 75 = .ok (.iinc 4 1, 3) := by decide +kernel
theorem dX1_canPair_78 : decode cX1_canPair 78 = .ok (.goto (-59), 3) := by decide +kernel
theorem dX1_canPair_81 : decode cX1_canPair 81 = .ok (.iconst 1, 1) := by decide +kernel
theorem dX1_canPair_82 : decode cX1_canPair 82 = .ok (.ireturn, 1) := by decide +kernel
theorem dX1_pair_0 : decode cX1_pair 0 = .ok (.aload_n 0, 1) := by decide +kernel
theorem dX1_pair_1 : decode cX1_pair 1 = .ok (.getfield 18, 3) := by decide +kernel
theorem dX1_pair_4 : decode cX1_pair 4 = .ok (.iconst (-1), 1) := by decide +kernel
theorem dX1_pair_5 : decode cX1_pair 5 = .ok (.invokestatic 28, 3) := by decide +kernel
theorem dX1_pair_8 : decode cX1_pair 8 = .ok (.aload_n 0, 1) := by decide +kernel
theorem dX1_pair_9 : decode cX1_pair 9 = .ok (.getfield 21, 3) := by decide +kernel
theorem dX1_pair_12 : decode cX1_pair 12 = .ok (.iconst 0, 1) := by decide +kernel
theorem dX1_pair_13 : decode cX1_pair 13 = .ok (.iload_n 3, 1) := by decide +kernel
theorem dX1_pair_14 : decode cX1_pair 14 = .ok (.iastore, 1) := by decide +kernel
theorem dX1_pair_15 : decode cX1_pair 15 = .ok (.iconst 1, 1) := by decide +kernel
theorem dX1_pair_16 : decode cX1_pair 16 = .ok (.istore 5, 2) := by decide +kernel
theorem dX1_pair_18 : decode cX1_pair 18 = .ok (.iconst 0, 1) := by decide +kernel
theorem dX1_pair_19 : decode cX1_pair 19 = .ok (.istore 6, 2) := by decide +kernel
theorem dX1_pair_21 : decode cX1_pair 21 = .ok (.iload 6, 2) := by decide +kernel
theorem dX1_pair_23 : decode cX1_pair 23 = .ok (.iload 5, 2) := by decide +kernel
theorem dX1_pair_25 : decode cX1_pair 25 = .ok (.if_icmp .ge 117, 3) := by decide +kernel
theorem dX1_pair_28 : decode cX1_pair 28 = .ok (.iconst 0, 1) := by decide +kernel
theorem dX1_pair_29 : decode cX1_pair 29 = .ok (.istore 7, 2) := by decide +kernel
theorem dX1_pair_31 : decode cX1_pair 31 = .ok (.iload 7, 2) := by decide +kernel
theorem dX1_pair_33 : decode cX1_pair 33 = .ok (.aload_n 2, 1) := by decide +kernel
theorem dX1_pair_34 : decode cX1_pair 34 = .ok (.getfield 34, 3) := by decide +kernel
theorem dX1_pair_37 : decode cX1_pair 37 = .ok (.if_icmp .ge 99, 3) := by decide +kernel
theorem dX1_pair_40 : decode cX1_pair 40 = .ok (.aload_n 0, 1) := by decide +kernel
theorem dX1_pair_41 : decode cX1_pair 41 = .ok (.getfield 18, 3) := by decide +kernel
theorem dX1_pair_44 : decode cX1_pair 44 = .ok (.iload 7, 2) := by decide +kernel
theorem dX1_pair_46 : decode cX1_pair 46 = .ok (.iaload, 1) := by decide +kernel
theorem dX1_pair_47 : decode cX1_pair 47 = .ok (.iconst (-1), 1) := by decide +kernel
theorem dX1_pair_48 : decode cX1_pair 48 = .ok (.if_icmp .ne 82, 3) := by decide +kernel
theorem dX1_pair_51 : decode cX1_pair 51 = .ok (.aload_n 1, 1) := by decide +kernel
theorem dX1_pair_52 : decode cX1_pair 52 = .ok (.aload_n 0, 1) := by decide +kernel
theorem dX1_pair_53 : decode cX1_pair 53 = .ok (.getfield 21, 3) := by decide +kernel
theorem dX1_pair_56 : decode cX1_pair 56 = .ok (.iload 6, 2) := by decide +kernel
theorem dX1_pair_58 : decode cX1_pair 58 = .ok (.iaload, 1) := by decide +kernel
theorem dX1_pair_59 : decode cX1_pair 59 = .ok (.aload_n 2, 1) := by decide +kernel
theorem dX1_pair_60 : decode cX1_pair 60 = .ok (.iload 7, 2) := by decide +kernel
theorem dX1_pair_62 : decode cX1_pair 62 = .ok (.invokestatic 50, 3) := by decide +kernel
theorem dX1_pair_65 : decode cX1_pair 65 = .ok (.iload 4, 2) := by decide +kernel
theorem dX1_pair_67 : decode cX1_pair 67 = .ok (.if_icmp .le 6, 3) := by decide +kernel
theorem dX1_pair_70 : decode cX1_pair 70 = .ok (.goto 60, 3) := by decide +kernel
theorem dX1_pair_73 : decode cX1_pair 73 = .ok (.aload_n 0, 1) := by decide +kernel
theorem dX1_pair_74 : decode cX1_pair 74 = .ok (.getfield 18, 3) := by decide +kernel
theorem dX1_pair_77 : decode cX1_pair 77 = .ok (.iload 7, 2) := by decide +kernel
theorem dX1_pair_79 : decode cX1_pair 79 = .ok (.aload_n 0, 1) := by decide +kernel
theorem dX1_pair_80 : decode cX1_pair 80 = .ok (.getfield 21, 3) := by decide +kernel
theorem dX1_pair_83 : decode cX1_pair 83 = .ok (.iload 6, 2) := by decide +kernel
theorem dX1_pair_85 : decode cX1_pair 85 = .ok (.iaload, 1) := by decide +kernel
theorem dX1_pair_86 : decode cX1_pair 86 = .ok (.iastore, 1) := by decide +kernel
theorem dX1_pair_87 : decode cX1_pair 87 = .ok (.aload_n 0, 1) := by decide +kernel
theorem dX1_pair_88 : decode cX1_pair 88 = .ok (.getfield 15, 3) := by decide +kernel
theorem dX1_pair_91 : decode cX1_pair 91 = .ok (.iload 7, 2) := by decide +kernel
theorem dX1_pair_93 : decode cX1_pair 93 = .ok (.iaload, 1) := by decide +kernel
theorem dX1_pair_94 : decode cX1_pair 94 = .ok (.iconst (-1), 1) := by decide +kernel
theorem dX1_pair_95 : decode cX1_pair 95 = .ok (.if_icmp .ne 11, 3) := by decide +kernel
theorem dX1_pair_98 : decode cX1_pair 98 = .ok (.aload_n 0, 1) := by decide +kernel
theorem dX1_pair_99 : decode cX1_pair 99 = .ok (.iload 7, 2) := by decide +kernel
theorem dX1_pair_101 : decode cX1_pair 101 = .ok (.invokevirtual 54, 3) := by decide +kernel
theorem dX1_pair_104 : decode cX1_pair 104 = .ok (.iconst 1, 1) := by decide +kernel
theorem dX1_pair_105 : decode cX1_pair 105 = .ok (.ireturn, 1) := by decide +kernel
theorem dX1_pair_106 : decode cX1_pair 106 = .ok (.iload 5, 2) := by decide +kernel
theorem dX1_pair_108 : decode cX1_pair 108 = .ok (.bipush 32, 2) := by decide +kernel
theorem dX1_pair_110 : decode cX1_pair 110 = .ok (.if_icmp .ge 20, 3) := by decide +kernel
theorem dX1_pair_113 : decode cX1_pair 113 = .ok (.aload_n 0, 1) := by decide +kernel
theorem dX1_pair_114 : decode cX1_pair 114 = .ok (.getfield 21, 3) := by decide +kernel
theorem dX1_pair_117 : decode cX1_pair 117 = .ok (.iload 5, 2) := by decide +kernel
theorem dX1_pair_119 : decode cX1_pair 119 = .ok (.aload_n 0, 1) := by decide +kernel
theorem dX1_pair_120 : decode cX1_pair 120 = .ok (.getfield 15, 3) := by decide +kernel
theorem dX1_pair_123 : decode cX1_pair 123 = .ok (.iload 7, 2) := by decide +kernel
theorem dX1_pair_125 : decode cX1_pair 125 = .ok (.iaload, 1) := by decide +kernel
theorem dX1_pair_126 : decode cX1_pair 126 = .ok (.iastore, 1) := by decide +kernel
theorem dX1_pair_127 : decode cX1_pair 127 = .ok (.iinc 5 1, 3) := by decide +kernel
theorem dX1_pair_130 : decode cX1_pair 130 = .ok (.iinc 7 1, 3) := by decide +kernel
theorem dX1_pair_133 : decode cX1_pair 133 = .ok (.goto (-102), 3) := by decide +kernel
theorem dX1_pair_136 : decode cX1_pair 136 = .ok (.iinc 6 1, 3) := by decide +kernel
theorem dX1_pair_139 : decode cX1_pair 139 = .ok (.goto (-118), 3) := by decide +kernel
theorem dX1_pair_142 : decode cX1_pair 142 = .ok (.iconst 0, 1) := by decide +kernel
theorem dX1_pair_143 : decode cX1_pair 143 = .ok (.ireturn, 1) := by decide +kernel
theorem dX1_cost_0 : decode cX1_cost 0 = .ok (.aload_n 0, 1) := by decide +kernel
theorem dX1_cost_1 : decode cX1_cost 1 = .ok (.getfield 43, 3) := by decide +kernel
theorem dX1_cost_4 : decode cX1_cost 4 = .ok (.iload_n 1, 1) := by decide +kernel
theorem dX1_cost_5 : decode cX1_cost 5 = .ok (.iaload, 1) := by decide +kernel
theorem dX1_cost_6 : decode cX1_cost 6 = .ok (.aload_n 2, 1) := by decide +kernel
theorem dX1_cost_7 : decode cX1_cost 7 = .ok (.getfield 43, 3) := by decide +kernel
theorem dX1_cost_10 : decode cX1_cost 10 = .ok (.iload_n 3, 1) := by decide +kernel
theorem dX1_cost_11 : decode cX1_cost 11 = .ok (.iaload, 1) := by decide +kernel
theorem dX1_cost_12 : decode cX1_cost 12 = .ok (.isub, 1) := by decide +kernel
theorem dX1_cost_13 : decode cX1_cost 13 = .ok (.invokestatic 58, 3) := by decide +kernel
theorem dX1_cost_16 : decode cX1_cost 16 = .ok (.istore 4, 2) := by decide +kernel
theorem dX1_cost_18 : decode cX1_cost 18 = .ok (.aload_n 0, 1) := by decide +kernel
theorem dX1_cost_19 : decode cX1_cost 19 = .ok (.getfield 40, 3) := by decide +kernel
theorem dX1_cost_22 : decode cX1_cost 22 = .ok (.iload_n 1, 1) := by decide +kernel
theorem dX1_cost_23 : decode cX1_cost 23 = .ok (.iaload, 1) := by decide +kernel
theorem dX1_cost_24 : decode cX1_cost 24 = .ok (.aload_n 2, 1) := by decide +kernel
theorem dX1_cost_25 : decode cX1_cost 25 = .ok (.getfield 40, 3) := by decide +kernel
theorem dX1_cost_28 : decode cX1_cost 28 = .ok (.iload_n 3, 1) := by decide +kernel
theorem dX1_cost_29 : decode cX1_cost 29 = .ok (.iaload, 1) := by decide +kernel
theorem dX1_cost_30 : decode cX1_cost 30 = .ok (.isub, 1) := by decide +kernel
theorem dX1_cost_31 : decode cX1_cost 31 = .ok (.invokestatic 58, 3) := by decide +kernel
theorem dX1_cost_34 : decode cX1_cost 34 = .ok (.istore 5, 2) := by decide +kernel
theorem dX1_cost_36 : decode cX1_cost 36 = .ok (.iconst 2, 1) := by decide +kernel
theorem dX1_cost_37 : decode cX1_cost 37 = .ok (.iload 4, 2) := by decide +kernel
theorem dX1_cost_39 : decode cX1_cost 39 = .ok (.iload 5, 2) := by decide +kernel
theorem dX1_cost_41 : decode cX1_cost 41 = .ok (.invokestatic 64, 3) := by decide +kernel
theorem dX1_cost_44 : decode cX1_cost 44 = .ok (.imul, 1) := by decide +kernel
theorem dX1_cost_45 : decode cX1_cost 45 = .ok (.ireturn, 1) := by decide +kernel
theorem dX1_change_0 : decode cX1_change 0 = .ok (.iload_n 1, 1) := by decide +kernel
theorem dX1_change_1 : decode cX1_change 1 = .ok (.istore_n 2, 1) := by decide +kernel
theorem dX1_change_2 : decode cX1_change 2 = .ok (.iconst 0, 1) := by decide +kernel
theorem dX1_change_3 : decode cX1_change 3 = .ok (.istore_n 3, 1) := by decide +kernel
theorem dX1_change_4 : decode cX1_change 4 = .ok (.iload_n 3, 1) := by decide +kernel
theorem dX1_change_5 : decode cX1_change 5 = .ok (.bipush 32, 2) := by decide +kernel
theorem dX1_change_7 : decode cX1_change 7 = .ok (.if_icmp .ge 60, 3) := by decide +kernel
theorem dX1_change_10 : decode cX1_change 10 = .ok (.iload_n 2, 1) := by decide +kernel
theorem dX1_change_11 : decode cX1_change 11 = .ok (.iconst (-1), 1) := by decide +kernel
theorem dX1_change_12 : decode cX1_change 12 = .ok (.if_icmp .eq 55, 3) := by decide +kernel
theorem dX1_change_15 : decode cX1_change 15 = .ok (.aload_n 0, 1) := by decide +kernel
theorem dX1_change_16 : decode cX1_change 16 = .ok (.getfield 18, 3) := by decide +kernel
theorem dX1_change_19 : decode cX1_change 19 = .ok (.iload_n 2, 1) := by decide +kernel
theorem dX1_change_20 : decode cX1_change 20 = .ok (.iaload, 1) := by decide +kernel
theorem dX1_change_21 : decode cX1_change 21 = .ok (.iconst (-1), 1) := by decide +kernel
theorem dX1_change_22 : decode cX1_change 22 = .ok (.if_icmp .eq 45, 3) := by decide +kernel
theorem dX1_change_25 : decode cX1_change 25 = .ok (.aload_n 0, 1) := by decide +kernel
theorem dX1_change_26 : decode cX1_change 26 = .ok (.getfield 18, 3) := by decide +kernel
theorem dX1_change_29 : decode cX1_change 29 = .ok (.iload_n 2, 1) := by decide +kernel
theorem dX1_change_30 : decode cX1_change 30 = .ok (.iaload, 1) := by decide +kernel
theorem dX1_change_31 : decode cX1_change 31 = .ok (.istore 4, 2) := by decide +kernel
theorem dX1_change_33 : decode cX1_change 33 = .ok (.aload_n 0, 1) := by decide +kernel
theorem dX1_change_34 : decode cX1_change 34 = .ok (.getfield 9, 3) := by decide +kernel
theorem dX1_change_37 : decode cX1_change 37 = .ok (.iload 4, 2) := by decide +kernel
theorem dX1_change_39 : decode cX1_change 39 = .ok (.iaload, 1) := by decide +kernel
theorem dX1_change_40 : decode cX1_change 40 = .ok (.istore 5, 2) := by decide +kernel
theorem dX1_change_42 : decode cX1_change 42 = .ok (.aload_n 0, 1) := by decide +kernel
theorem dX1_change_43 : decode cX1_change 43 = .ok (.getfield 9, 3) := by decide +kernel
theorem dX1_change_46 : decode cX1_change 46 = .ok (.iload 4, 2) := by decide +kernel
theorem dX1_change_48 : decode cX1_change 48 = .ok (.iload_n 2, 1) := by decide +kernel
theorem dX1_change_49 : decode cX1_change 49 = .ok (.iastore, 1) := by decide +kernel
theorem dX1_change_50 : decode cX1_change 50 = .ok (.aload_n 0, 1) := by decide +kernel
theorem dX1_change_51 : decode cX1_change 51 = .ok (.getfield 15, 3) := by decide +kernel
theorem dX1_change_54 : decode cX1_change 54 = .ok (.iload_n 2, 1) := by decide +kernel
theorem dX1_change_55 : decode cX1_change 55 = .ok (.iload 4, 2) := by decide +kernel
theorem dX1_change_57 : decode cX1_change 57 = .ok (.iastore, 1) := by decide +kernel
theorem dX1_change_58 : decode cX1_change 58 = .ok (.iload 5, 2) := by decide +kernel
theorem dX1_change_60 : decode cX1_change 60 = .ok (.istore_n 2, 1) := by decide +kernel
theorem dX1_change_61 : decode cX1_change 61 = .ok (.iinc 3 1, 3) := by decide +kernel
theorem dX1_change_64 : decode cX1_change 64 = .ok (.goto (-60), 3) := by decide +kernel
theorem dX1_change_67 : decode cX1_change 67 = .ok (.return_, 1) := by decide +kernel
theorem dX2_init_0 : decode cX2_init 0 = .ok (.aload_n 0, 1) := by decide +kernel
theorem dX2_init_1 : decode cX2_init 1 = .ok (.invokespecial 3, 3) := by decide +kernel
theorem dX2_init_4 : decode cX2_init 4 = .ok (.aload_n 0, 1) := by decide +kernel
theorem dX2_init_5 : decode cX2_init 5 = .ok (.bipush 10, 2) := by decide +kernel
theorem dX2_init_7 : decode cX2_init 7 = .ok (.bipush 10, 2) := by decide +kernel
theorem dX2_init_9 : decode cX2_init 9 = .ok (.multianewarray 9 2, 4) := by decide +kernel
theorem dX2_init_13 : decode cX2_init 13 = .ok (.putfield 11, 3) := by decide +kernel
theorem dX2_init_16 : decode cX2_init 16 = .ok (.aload_n 0, 1) := by decide +kernel
theorem dX2_init_17 : decode cX2_init 17 = .ok (.iload_n 1, 1) := by decide +kernel
theorem dX2_init_18 : decode cX2_init 18 = .ok (.putfield 16, 3) := by decide +kernel
theorem dX2_init_21 : decode cX2_init 21 = .ok (.aload_n 0, 1) := by decide +kernel
theorem dX2_init_22 : decode cX2_init 22 = .ok (.iload_n 2, 1) := by decide +kernel
theorem dX2_init_23 : decode cX2_init 23 = .ok (.putfield 20, 3) := by decide +kernel
theorem dX2_init_26 : decode cX2_init 26 = .ok (.aload_n 0, 1) := by decide +kernel
theorem dX2_init_27 : decode cX2_init 27 = .ok (.new 23, 3) := by decide +kernel
theorem dX2_init_30 : decode cX2_init 30 = .ok (.dup, 1) := by decide +kernel
theorem dX2_init_31 : decode cX2_init 31 = .ok (.iload_n 1, 1) := by decide +kernel
theorem dX2_init_32 : decode cX2_init 32 = .ok (.invokespecial 25, 3) := by decide +kernel
theorem dX2_init_35 : decode cX2_init 35 = .ok (.putfield 28, 3) := by decide +kernel
theorem dX2_init_38 : decode cX2_init 38 = .ok (.aload_n 0, 1) := by decide +kernel
theorem dX2_init_39 : decode cX2_init 39 = .ok (.new 23, 3) := by decide +kernel
theorem dX2_init_42 : decode cX2_init 42 = .ok (.dup, 1) := by decide +kernel
theorem dX2_init_43 : decode cX2_init 43 = .ok (.iload_n 1, 1) := by decide +kernel
theorem dX2_init_44 : decode cX2_init 44 = .ok (.invokespecial 25, 3) := by decide +kernel
theorem dX2_init_47 : decode cX2_init 47 = .ok (.putfield 32, 3) := by decide +kernel
theorem dX2_init_50 : decode cX2_init 50 = .ok (.aload_n 0, 1) := by decide +kernel
theorem dX2_init_51 : decode cX2_init 51 = .ok (.new 23, 3) := by decide +kernel
theorem dX2_init_54 : decode cX2_init 54 = .ok (.dup, 1) := by decide +kernel
theorem dX2_init_55 : decode cX2_init 55 = .ok (.iload_n 1, 1) := by decide +kernel
theorem dX2_init_56 : decode cX2_init 56 = .ok (.invokespecial 25, 3) := by decide +kernel
theorem dX2_init_59 : decode cX2_init 59 = .ok (.putfield 35, 3) := by decide +kernel
theorem dX2_init_62 : decode cX2_init 62 = .ok (.aload_n 0, 1) := by decide +kernel
theorem dX2_init_63 : decode cX2_init 63 = .ok (.new 23, 3) := by decide +kernel
theorem dX2_init_66 : decode cX2_init 66 = .ok (.dup, 1) := by decide +kernel
theorem dX2_init_67 : decode cX2_init 67 = .ok (.iload_n 1, 1) := by decide +kernel
theorem dX2_init_68 : decode cX2_init 68 = .ok (.invokespecial 25, 3) := by decide +kernel
theorem dX2_init_71 : decode cX2_init 71 = .ok (.putfield 38, 3) := by decide +kernel
theorem dX2_init_74 : decode cX2_init 74 = .ok (.return_, 1) := by decide +kernel
theorem dX2_part_0 : decode cX2_part 0 = .ok (.iconst 0, 1) := by decide +kernel
theorem dX2_part_1 : decode cX2_part 1 = .ok (.istore_n 3, 1) := by decide +kernel
theorem dX2_part_2 : decode cX2_part 2 = .ok (.iload_n 3, 1) := by decide +kernel
theorem dX2_part_3 : decode cX2_part 3 = .ok (.aload_n 0, 1) := by decide +kernel
theorem dX2_part_4 : decode cX2_part 4 = .ok (.getfield 20, 3) := by decide +kernel
theorem dX2_part_7 : decode cX2_part 7 = .ok (.if_icmp .ge 21, 3) := by decide +kernel
theorem dX2_part_10 : decode cX2_part 10 = .ok (.aload_n 0, 1) := by decide +kernel
theorem dX2_part_11 : decode cX2_part 11 = .ok (.aload_n 1, 1) := by decide +kernel
theorem dX2_part_12 : decode cX2_part 12 = .ok (.iload_n 3, 1) := by decide +kernel
theorem dX2_part_13 : decode cX2_part 13 = .ok (.aload_n 0, 1) := by decide +kernel
theorem dX2_part_14 : decode cX2_part 14 = .ok (.getfield 20, 3) := by decide +kernel
theorem dX2_part_17 : decode cX2_part 17 = .ok (.iconst 1, 1) := by decide +kernel
theorem dX2_part_18 : decode cX2_part 18 = .ok (.isub, 1) := by decide +kernel
theorem dX2_part_19 : decode cX2_part 19 = .ok (.invokevirtual 41, 3) := by decide +kernel
theorem dX2_part_22 : decode cX2_part 22 = .ok (.iinc 3 1, 3) := by decide +kernel
theorem dX2_part_25 : decode cX2_part 25 = .ok (.goto (-23), 3) := by decide +kernel
theorem dX2_part_28 : decode cX2_part 28 = .ok (.aload_n 2, 1) := by decide +kernel
theorem dX2_part_29 : decode cX2_part 29 = .ok (.invokevirtual 45, 3) := by decide +kernel
theorem dX2_part_32 : decode cX2_part 32 = .ok (.iconst 0, 1) := by decide +kernel
theorem dX2_part_33 : decode cX2_part 33 = .ok (.istore_n 3, 1) := by decide +kernel
theorem dX2_part_34 : decode cX2_part 34 = .ok (.iload_n 3, 1) := by decide +kernel
theorem dX2_part_35 : decode cX2_part 35 = .ok (.aload_n 0, 1) := by decide +kernel
theorem dX2_part_36 : decode cX2_part 36 = .ok (.getfield 20, 3) := by decide +kernel
theorem dX2_part_39 : decode cX2_part 39 = .ok (.if_icmp .ge 59, 3) := by decide +kernel
theorem dX2_part_42 : decode cX2_part 42 = .ok (.iload_n 3, 1) := by decide +kernel
theorem dX2_part_43 : decode cX2_part 43 = .ok (.istore 4, 2) := by decide +kernel
theorem dX2_part_45 : decode cX2_part 45 = .ok (.iload 4, 2) := by decide +kernel
theorem dX2_part_47 : decode cX2_part 47 = .ok (.aload_n 0, 1) := by decide +kernel
theorem dX2_part_48 : decode cX2_part 48 = .ok (.getfield 20, 3) := by decide +kernel
theorem dX2_part_51 : decode cX2_part 51 = .ok (.if_icmp .ge 41, 3) := by decide +kernel
theorem dX2_part_54 : decode cX2_part 54 = .ok (.aload_n 0, 1) := by decide +kernel
theorem dX2_part_55 : decode cX2_part 55 = .ok (.iload_n 3, 1) := by decide +kernel
theorem dX2_part_56 : decode cX2_part 56 = .ok (.iload 4, 2) := by decide +kernel
theorem dX2_part_58 : decode cX2_part 58 = .ok (.invokevirtual 50, 3) := by decide +kernel
theorem dX2_part_61 : decode cX2_part 61 = .ok (.istore 5, 2) := by decide +kernel
theorem dX2_part_63 : decode cX2_part 63 = .ok (.iconst 0, 1) := by decide +kernel
theorem dX2_part_64 : decode cX2_part 64 = .ok (.istore 6, 2) := by decide +kernel
theorem dX2_part_66 : decode cX2_part 66 = .ok (.iload 6, 2) := by decide +kernel
theorem dX2_part_68 : decode cX2_part 68 = .ok (.iload 5, 2) := by decide +kernel
theorem dX2_part_70 : decode cX2_part 70 = .ok (.if_icmp .ge 16, 3) := by decide +kernel
theorem dX2_part_73 : decode cX2_part 73 = .ok (.aload_n 2, 1) := by decide +kernel
theorem dX2_part_74 : decode cX2_part 74 = .ok (.iload_n 3, 1) := by decide +kernel
theorem dX2_part_75 : decode cX2_part 75 = .ok (.iload 4, 2) := by decide +kernel
theorem dX2_part_77 : decode cX2_part 77 = .ok (.invokevirtual 54, 3) := by decide +kernel
theorem dX2_part_80 : decode cX2_part 80 = .ok (.iinc 6 1, 3) := by decide +kernel
theorem dX2_part_83 : decode cX2_part 83 = .ok (.goto (-17), 3) := by decide +kernel
theorem dX2_part_86 : decode cX2_part 86 = .ok (.iinc 4 1, 3) := by decide +kernel
theorem dX2_part_89 : decode cX2_part 89 = .ok (.goto (-44), 3) := by decide +kernel
theorem dX2_part_92 : decode cX2_part 92 = .ok (.iinc 3 1, 3) := by decide +kernel
theorem dX2_part_95 : decode cX2_part 95 = .ok (.goto (-61), 3) := by decide +kernel
theorem dX2_part_98 : decode cX2_part 98 = .ok (.return_, 1) := by decide +kernel
theorem dX2_times_0 : decode cX2_times 0 = .ok (.iload_n 3, 1) := by decide +kernel
theorem dX2_times_1 : decode cX2_times 1 = .ok (.iconst 1, 1) := by decide +kernel
theorem dX2_times_2 : decode cX2_times 2 = .ok (.iadd, 1) := by decide +kernel
theorem dX2_times_3 : decode cX2_times 3 = .ok (.aload_n 0, 1) := by decide +kernel
theorem dX2_times_4 : decode cX2_times 4 = .ok (.getfield 20, 3) := by decide +kernel
theorem dX2_times_7 : decode cX2_times 7 = .ok (.iconst 1, 1) := by decide +kernel
theorem dX2_times_8 : decode cX2_times 8 = .ok (.isub, 1) := by decide +kernel
theorem dX2_times_9 : decode cX2_times 9 = .ok (.invokestatic 58, 3) := by decide +kernel
theorem dX2_times_12 : decode cX2_times 12 = .ok (.istore 4, 2) := by decide +kernel
theorem dX2_times_14 : decode cX2_times 14 = .ok (.iload_n 2, 1) := by decide +kernel
theorem dX2_times_15 : decode cX2_times 15 = .ok (.ifCond .le 13, 3) := by decide +kernel
theorem dX2_times_18 : decode cX2_times 18 = .ok (.aload_n 0, 1) := by decide +kernel
theorem dX2_times_19 : decode cX2_times 19 = .ok (.aload_n 1, 1) := by decide +kernel
theorem dX2_times_20 : decode cX2_times 20 = .ok (.iload_n 2, 1) := by decide +kernel
theorem dX2_times_21 : decode cX2_times 21 = .ok (.iconst 1, 1) := by decide +kernel
theorem dX2_times_22 : decode cX2_times 22 = .ok (.isub, 1) := by decide +kernel
theorem dX2_times_23 : decode cX2_times 23 = .ok (.iload 4, 2) := by decide +kernel
theorem dX2_times_25 : decode cX2_times 25 = .ok (.invokevirtual 41, 3) := by decide +kernel
theorem dX2_times_28 : decode cX2_times 28 = .ok (.aload_n 0, 1) := by decide +kernel
theorem dX2_times_29 : decode cX2_times 29 = .ok (.aload_n 1, 1) := by decide +kernel
theorem dX2_times_30 : decode cX2_times 30 = .ok (.iload_n 2, 1) := by decide +kernel
theorem dX2_times_31 : decode cX2_times 31 = .ok (.iload 4, 2) := by decide +kernel
theorem dX2_times_33 : decode cX2_times 33 = .ok (.invokevirtual 41, 3) := by decide +kernel
theorem dX2_times_36 : decode cX2_times 36 = .ok (.aload_n 0, 1) := by decide +kernel
theorem dX2_times_37 : decode cX2_times 37 = .ok (.iload_n 2, 1) := by decide +kernel
theorem dX2_times_38 : decode cX2_times 38 = .ok (.iload_n 3, 1) := by decide +kernel
theorem dX2_times_39 : decode cX2_times 39 = .ok (.invokevirtual 50, 3) := by decide +kernel
theorem dX2_times_42 : decode cX2_times 42 = .ok (.ireturn, 1) := by decide +kernel
theorem dX2_covering_0 : decode cX2_covering 0 = .ok (.aload_n 0, 1) := by decide +kernel
theorem dX2_covering_1 : decode cX2_covering 1 = .ok (.aload_n 1, 1) := by decide +kernel
theorem dX2_covering_2 : decode cX2_covering 2 = .ok (.iload_n 2, 1) := by decide +kernel
theorem dX2_covering_3 : decode cX2_covering 3 = .ok (.iload_n 3, 1) := by decide +kernel
theorem dX2_covering_4 : decode cX2_covering 4 = .ok (.invokevirtual 41, 3) := by decide +kernel
theorem dX2_covering_7 : decode cX2_covering 7 = .ok (.aload_n 0, 1) := by decide +kernel
theorem dX2_covering_8 : decode cX2_covering 8 = .ok (.getfield 11, 3) := by decide +kernel
theorem dX2_covering_11 : decode cX2_covering 11 = .ok (.iload_n 2, 1) := by decide +kernel
theorem dX2_covering_12 : decode cX2_covering 12 = .ok (.iconst 1, 1) := by decide +kernel
theorem dX2_covering_13 : decode cX2_covering 13 = .ok (.iadd, 1) := by decide +kernel
theorem dX2_covering_14 : decode cX2_covering 14 = .ok (.aaload, 1) := by decide +kernel
theorem dX2_covering_15 : decode cX2_covering 15 = .ok (.iload_n 3, 1) := by decide +kernel
theorem dX2_covering_16 : decode cX2_covering 16 = .ok (.iconst 1, 1) := by decide +kernel
theorem dX2_covering_17 : decode cX2_covering 17 = .ok (.iadd, 1) := by decide +kernel
theorem dX2_covering_18 : decode cX2_covering 18 = .ok (.iaload, 1) := by decide +kernel
theorem dX2_covering_19 : decode cX2_covering 19 = .ok (.ireturn, 1) := by decide +kernel
theorem dX2_timesByCovers_0 : decode cX2_timesByCovers 0 = .ok (.aload_n 0, 1) := by decide +kernel
theorem dX2_timesByCovers_1 : decode cX2_timesByCovers 1 = .ok (.getfield 11, 3) := by decide +kernel
theorem dX2_timesByCovers_4 : decode cX2_timesByCovers 4 = .ok (.iload_n 1, 1) := by decide +kernel
theorem dX2_timesByCovers_5 : decode cX2_timesByCovers 5 = .ok (.iconst 1, 1) := by decide +kernel
theorem dX2_timesByCovers_6 : decode cX2_timesByCovers 6 = .ok (.iadd, 1) := by decide +kernel
theorem dX2_timesByCovers_7 : decode cX2_timesByCovers 7 = .ok (.aaload, 1) := by decide +kernel
theorem dX2_timesByCovers_8 : decode cX2_timesByCovers 8 = .ok (.iload_n 2, 1) := by decide +kernel
theorem dX2_timesByCovers_9 : decode cX2_timesByCovers 9 = .ok (.iconst 1, 1) := by decide +kernel
theorem dX2_timesByCovers_10 : decode cX2_timesByCovers 10 = .ok (.iadd, 1) := by decide +kernel
theorem dX2_timesByCovers_11 : decode cX2_timesByCovers 11 = .ok (.iaload, 1) := by decide +kernel
theorem dX2_timesByCovers_12 : decode cX2_timesByCovers 12 = .ok (.aload_n 0, 1) := by decide +kernel
theorem dX2_timesByCovers_13 : decode cX2_timesByCovers 13 = .ok (.getfield 11, 3) := by decide +kernel
theorem dX2_timesByCovers_16 : decode cX2_timesByCovers 16 = .ok (.iload_n 1, 1) := by decide +kernel
theorem dX2_timesByCovers_17 : decode cX2_timesByCovers 17 = .ok (.aaload, 1) := by decide +kernel
theorem dX2_timesByCovers_18 : decode cX2_timesByCovers 18 = .ok (.iload_n 2, 1) := by decide +kernel
theorem dX2_timesByCovers_19 : decode cX2_timesByCovers 19 = .ok (.iconst 1, 1) := by decide +kernel
theorem dX2_timesByCovers_20 : decode cX2_timesByCovers 20 = .ok (.iadd, 1) := by decide +kernel
theorem dX2_timesByCovers_21 : decode cX2_timesByCovers 21 = .ok (.iaload, 1) := by decide +kernel
theorem dX2_timesByCovers_22 : decode cX2_timesByCovers 22 = .ok (.isub, 1) := by decide +kernel
theorem dX2_timesByCovers_23 : decode cX2_timesByCovers 23 = .ok (.aload_n 0, 1) := by decide +kernel
theorem dX2_timesByCovers_24 : decode cX2_timesByCovers 24 = .ok (.getfield 11, 3) := by decide +kernel
theorem dX2_timesByCovers_27 : decode cX2_timesByCovers 27 = .ok (.iload_n 1, 1) := by decide +kernel
theorem dX2_timesByCovers_28 : decode cX2_timesByCovers 28 = .ok (.iconst 1, 1) := by decide +kernel
theorem dX2_timesByCovers_29 : decode cX2_timesByCovers 29 = .ok (.iadd, 1) := by decide +kernel
theorem dX2_timesByCovers_30 : decode cX2_timesByCovers 30 = .ok (.aaload, 1) := by decide +kernel
theorem dX2_timesByCovers_31 : decode cX2_timesByCovers 31 = .ok (.iload_n 2, 1) := by decide +kernel
theorem dX2_timesByCovers_32 : decode cX2_timesByCovers 32 = .ok (.iconst 2, 1) := by decide +kernel
theorem dX2_timesByCovers_33 : decode cX2_timesByCovers 33 = .ok (.iadd, 1) := by decide +kernel
theorem dX2_timesByCovers_34 : decode cX2_timesByCovers 34 = .ok (.iaload, 1) := by decide +kernel
theorem dX2_timesByCovers_35 : decode cX2_timesByCovers 35 = .ok (.isub, 1) := by decide +kernel
theorem dX2_timesByCovers_36 : decode cX2_timesByCovers 36 = .ok (.aload_n 0, 1) := by decide +kernel
theorem dX2_timesByCovers_37 : decode cX2_timesByCovers 37 = .ok (.getfield 11, 3) := by decide +kernel
theorem dX2_timesByCovers_40 : decode cX2_timesByCovers 40 = .ok (.iload_n 1, 1) := by decide +kernel
theorem dX2_timesByCovers_41 : decode cX2_timesByCovers 41 = .ok (.aaload, 1) := by decide +kernel
theorem dX2_timesByCovers_42 : decode cX2_timesByCovers 42 = .ok (.iload_n 2, 1) := by decide +kernel
theorem dX2_timesByCovers_43 : decode cX2_timesByCovers 43 = .ok (.iconst 2, 1) := by decide +kernel
theorem dX2_timesByCovers_44 : decode cX2_timesByCovers 44 = .ok (.iadd, 1) := by decide +kernel
theorem dX2_timesByCovers_45 : decode cX2_timesByCovers 45 = .ok (.iaload, 1) := by decide +kernel
theorem dX2_timesByCovers_46 : decode cX2_timesByCovers 46 = .ok (.iadd, 1) := by decide +kernel
theorem dX2_timesByCovers_47 : decode cX2_timesByCovers 47 = .ok (.ireturn, 1) := by decide +kernel
theorem dX2_coverFrom_0 : decode cX2_coverFrom 0 = .ok (.aload_n 0, 1) := by decide +kernel
theorem dX2_coverFrom_1 : decode cX2_coverFrom 1 = .ok (.getfield 11, 3) := by decide +kernel
theorem dX2_coverFrom_4 : decode cX2_coverFrom 4 = .ok (.iload_n 2, 1) := by decide +kernel
theorem dX2_coverFrom_5 : decode cX2_coverFrom 5 = .ok (.iconst 1, 1) := by decide +kernel
theorem dX2_coverFrom_6 : decode cX2_coverFrom 6 = .ok (.iadd, 1) := by decide +kernel
theorem dX2_coverFrom_7 : decode cX2_coverFrom 7 = .ok (.aaload, 1) := by decide +kernel
theorem dX2_coverFrom_8 : decode cX2_coverFrom 8 = .ok (.astore 4, 2) := by decide +kernel
theorem dX2_coverFrom_10 : decode cX2_coverFrom 10 = .ok (.aload 4, 2) := by decide +kernel
theorem dX2_coverFrom_12 : decode cX2_coverFrom 12 = .ok (.iconst 0, 1) := by decide +kernel
theorem dX2_coverFrom_13 : decode cX2_coverFrom 13 = .ok (.invokestatic 63, 3) := by decide +kernel
theorem dX2_coverFrom_16 : decode cX2_coverFrom 16 = .ok (.aload_n 0, 1) := by decide +kernel
theorem dX2_coverFrom_17 : decode cX2_coverFrom 17 = .ok (.getfield 32, 3) := by decide +kernel
theorem dX2_coverFrom_20 : decode cX2_coverFrom 20 = .ok (.aload_n 1, 1) := by decide +kernel
theorem dX2_coverFrom_21 : decode cX2_coverFrom 21 = .ok (.getfield 69, 3) := by decide +kernel
theorem dX2_coverFrom_24 : decode cX2_coverFrom 24 = .ok (.iload_n 2, 1) := by decide +kernel
theorem dX2_coverFrom_25 : decode cX2_coverFrom 25 = .ok (.iaload, 1) := by decide +kernel
theorem dX2_coverFrom_26 : decode cX2_coverFrom 26 = .ok (.invokevirtual 75, 3) := by decide +kernel
theorem dX2_coverFrom_29 : decode cX2_coverFrom 29 = .ok (.aload_n 0, 1) := by decide +kernel
theorem dX2_coverFrom_30 : decode cX2_coverFrom 30 = .ok (.getfield 35, 3) := by decide +kernel
theorem dX2_coverFrom_33 : decode cX2_coverFrom 33 = .ok (.iconst 0, 1) := by decide +kernel
theorem dX2_coverFrom_34 : decode cX2_coverFrom 34 = .ok (.aload_n 1, 1) := by decide +kernel
theorem dX2_coverFrom_35 : decode cX2_coverFrom 35 = .ok (.getfield 69, 3) := by decide +kernel
theorem dX2_coverFrom_38 : decode cX2_coverFrom 38 = .ok (.iload_n 2, 1) := by decide +kernel
theorem dX2_coverFrom_39 : decode cX2_coverFrom 39 = .ok (.iaload, 1) := by decide +kernel
theorem dX2_coverFrom_40 : decode cX2_coverFrom 40 = .ok (.invokevirtual 78, 3) := by decide +kernel
theorem dX2_coverFrom_43 : decode cX2_coverFrom 43 = .ok (.aload 4, 2) := by decide +kernel
theorem dX2_coverFrom_45 : decode cX2_coverFrom 45 = .ok (.iload_n 2, 1) := by decide +kernel
theorem dX2_coverFrom_46 : decode cX2_coverFrom 46 = .ok (.iconst 1, 1) := by decide +kernel
theorem dX2_coverFrom_47 : decode cX2_coverFrom 47 = .ok (.iadd, 1) := by decide +kernel
theorem dX2_coverFrom_48 : decode cX2_coverFrom 48 = .ok (.aload_n 0, 1) := by decide +kernel
theorem dX2_coverFrom_49 : decode cX2_coverFrom 49 = .ok (.getfield 32, 3) := by decide +kernel
theorem dX2_coverFrom_52 : decode cX2_coverFrom 52 = .ok (.getfield 81, 3) := by decide +kernel
theorem dX2_coverFrom_55 : decode cX2_coverFrom 55 = .ok (.iastore, 1) := by decide +kernel
theorem dX2_coverFrom_56 : decode cX2_coverFrom 56 = .ok (.iload_n 2, 1) := by decide +kernel
theorem dX2_coverFrom_57 : decode cX2_coverFrom 57 = .ok (.istore 5, 2) := by decide +kernel
theorem dX2_coverFrom_59 : decode cX2_coverFrom 59 = .ok (.iload 5, 2) := by decide +kernel
theorem dX2_coverFrom_61 : decode cX2_coverFrom 61 = .ok (.iload_n 3, 1) := by decide +kernel
theorem dX2_coverFrom_62 : decode cX2_coverFrom 62 = .ok (.if_icmp .ge 71, 3) := by decide +kernel
theorem dX2_coverFrom_65 : decode cX2_coverFrom 65 = .ok (.aload 4, 2) := by decide +kernel
theorem dX2_coverFrom_67 : decode cX2_coverFrom 67 = .ok (.iload 5, 2) := by decide +kernel
theorem dX2_coverFrom_69 : decode cX2_coverFrom 69 = .ok (.iconst 1, 1) := by decide +kernel
theorem dX2_coverFrom_70 : decode cX2_coverFrom 70 = .ok (.iadd, 1) := by decide +kernel
theorem dX2_coverFrom_71 : decode cX2_coverFrom 71 = .ok (.iaload, 1) := by decide +kernel
theorem dX2_coverFrom_72 : decode cX2_coverFrom 72 = .ok (.ifCond .le 61, 3) := by decide +kernel
theorem dX2_coverFrom_75 : decode cX2_coverFrom 75 = .ok (.aload_n 0, 1) := by decide +kernel
theorem dX2_coverFrom_76 : decode cX2_coverFrom 76 = .ok (.aload_n 0, 1) := by decide +kernel
theorem dX2_coverFrom_77 : decode cX2_coverFrom 77 = .ok (.aload_n 1, 1) := by decide +kernel
theorem dX2_coverFrom_78 : decode cX2_coverFrom 78 = .ok (.iload 5, 2) := by decide +kernel
theorem dX2_coverFrom_80 : decode cX2_coverFrom 80 = .ok (.aload_n 0, 1) := by decide +kernel
theorem dX2_coverFrom_81 : decode cX2_coverFrom 81 = .ok (.getfield 32, 3) := by decide +kernel
theorem dX2_coverFrom_84 : decode cX2_coverFrom 84 = .ok (.invokevirtual 84, 3) := by decide +kernel
theorem dX2_coverFrom_87 : decode cX2_coverFrom 87 = .ok (.putfield 32, 3) := by decide +kernel
theorem dX2_coverFrom_90 : decode cX2_coverFrom 90 = .ok (.aload_n 0, 1) := by decide +kernel
theorem dX2_coverFrom_91 : decode cX2_coverFrom 91 = .ok (.aload_n 0, 1) := by decide +kernel
theorem dX2_coverFrom_92 : decode cX2_coverFrom 92 = .ok (.aload_n 1, 1) := by decide +kernel
theorem dX2_coverFrom_93 : decode cX2_coverFrom 93 = .ok (.iload 5, 2) := by decide +kernel
theorem dX2_coverFrom_95 : decode cX2_coverFrom 95 = .ok (.aload_n 0, 1) := by decide +kernel
theorem dX2_coverFrom_96 : decode cX2_coverFrom 96 = .ok (.getfield 35, 3) := by decide +kernel
theorem dX2_coverFrom_99 : decode cX2_coverFrom 99 = .ok (.invokevirtual 84, 3) := by decide +kernel
theorem dX2_coverFrom_102 : decode cX2_coverFrom 102 = .ok (.putfield 35, 3) := by decide +kernel
theorem dX2_coverFrom_105 : decode cX2_coverFrom 105 = .ok (.aload 4, 2) := by decide +kernel
theorem dX2_coverFrom_107 : decode cX2_coverFrom 107 = .ok (.iload 5, 2) := by decide +kernel
theorem dX2_coverFrom_109 : decode cX2_coverFrom 109 = .ok (.iconst 2, 1) := by decide +kernel
theorem dX2_coverFrom_110 : decode cX2_coverFrom 110 = .ok (.iadd, 1) := by decide +kernel
theorem dX2_coverFrom_111 : decode cX2_coverFrom 111 = .ok (.aload_n 0, 1) := by decide +kernel
theorem dX2_coverFrom_112 : decode cX2_coverFrom 112 = .ok (.getfield 32, 3) := by decide +kernel
theorem dX2_coverFrom_115 : decode cX2_coverFrom 115 = .ok (.getfield 81, 3) := by decide +kernel
theorem dX2_coverFrom_118 : decode cX2_coverFrom 118 = .ok (.aload_n 0, 1) := by decide +kernel
theorem dX2_coverFrom_119 : decode cX2_coverFrom 119 = .ok (.getfield 35, 3) := by decide +kernel
theorem dX2_coverFrom_122 : decode cX2_coverFrom 122 = .ok (.getfield 81, 3) := by decide +kernel
theorem dX2_coverFrom_125 : decode cX2_coverFrom 125 = .ok (.isub, 1) := by decide +kernel
theorem dX2_coverFrom_126 : decode cX2_coverFrom 126 = .ok (.iastore, 1) := by decide +kernel
theorem dX2_coverFrom_127 : decode cX2_coverFrom 127 = .ok (.iinc 5 1, 3) := by decide +kernel
theorem dX2_coverFrom_130 : decode cX2_coverFrom 130 = .ok (.goto (-71), 3) := by decide +kernel
theorem dX2_coverFrom_133 : decode cX2_coverFrom 133 = .ok (.return_, 1) := by decide +kernel
theorem dX2_lead_0 : decode cX2_lead 0 = .ok (.aload_n 0, 1) := by decide +kernel
theorem dX2_lead_1 : decode cX2_lead 1 = .ok (.getfield 38, 3) := by decide +kernel
theorem dX2_lead_4 : decode cX2_lead 4 = .ok (.astore 4, 2) := by decide +kernel
theorem dX2_lead_6 : decode cX2_lead 6 = .ok (.aload_n 1, 1) := by decide +kernel
theorem dX2_lead_7 : decode cX2_lead 7 = .ok (.iload_n 2, 1) := by decide +kernel
theorem dX2_lead_8 : decode cX2_lead 8 = .ok (.invokevirtual 88, 3) := by decide +kernel
theorem dX2_lead_11 : decode cX2_lead 11 = .ok (.ifCond .eq 26, 3) := by decide +kernel
theorem dX2_lead_14 : decode cX2_lead 14 = .ok (.aload_n 0, 1) := by decide +kernel
theorem dX2_lead_15 : decode cX2_lead 15 = .ok (.aload_n 1, 1) := by decide +kernel
theorem dX2_lead_16 : decode cX2_lead 16 = .ok (.iload_n 2, 1) := by decide +kernel
theorem dX2_lead_17 : decode cX2_lead 17 = .ok (.aload_n 3, 1) := by decide +kernel
theorem dX2_lead_18 : decode cX2_lead 18 = .ok (.invokevirtual 92, 3) := by decide +kernel
theorem dX2_lead_21 : decode cX2_lead 21 = .ok (.aload_n 0, 1) := by decide +kernel
theorem dX2_lead_22 : decode cX2_lead 22 = .ok (.getfield 28, 3) := by decide +kernel
theorem dX2_lead_25 : decode cX2_lead 25 = .ok (.invokevirtual 96, 3) := by decide +kernel
theorem dX2_lead_28 : decode cX2_lead 28 = .ok (.aload_n 0, 1) := by decide +kernel
theorem dX2_lead_29 : decode cX2_lead 29 = .ok (.aload 4, 2) := by decide +kernel
theorem dX2_lead_31 : decode cX2_lead 31 = .ok (.invokevirtual 99, 3) := by decide +kernel
theorem dX2_lead_34 : decode cX2_lead 34 = .ok (.goto 12, 3) := by decide +kernel
theorem dX2_lead_37 : decode cX2_lead 37 = .ok (.aload_n 0, 1) := by decide +kernel
theorem dX2_lead_38 : decode cX2_lead 38 = .ok (.aload_n 1, 1) := by decide +kernel
theorem dX2_lead_39 : decode cX2_lead 39 = .ok (.iload_n 2, 1) := by decide +kernel
theorem dX2_lead_40 : decode cX2_lead 40 = .ok (.aload_n 3, 1) := by decide +kernel
theorem dX2_lead_41 : decode cX2_lead 41 = .ok (.aload 4, 2) := by decide +kernel
theorem dX2_lead_43 : decode cX2_lead 43 = .ok (.invokevirtual 103, 3) := by decide +kernel
theorem dX2_lead_46 : decode cX2_lead 46 = .ok (.aload 4, 2) := by decide +kernel
theorem dX2_lead_48 : decode cX2_lead 48 = .ok (.invokevirtual 96, 3) := by decide +kernel
theorem dX2_lead_51 : decode cX2_lead 51 = .ok (.aload_n 0, 1) := by decide +kernel
theorem dX2_lead_52 : decode cX2_lead 52 = .ok (.aload_n 3, 1) := by decide +kernel
theorem dX2_lead_53 : decode cX2_lead 53 = .ok (.putfield 38, 3) := by decide +kernel
theorem dX2_lead_56 : decode cX2_lead 56 = .ok (.aload 4, 2) := by decide +kernel
theorem dX2_lead_58 : decode cX2_lead 58 = .ok (.areturn, 1) := by decide +kernel
theorem dX2_leadAlong_0 : decode cX2_leadAlong 0 = .ok (.aload 4, 2) := by decide +kernel
theorem dX2_leadAlong_2 : decode cX2_leadAlong 2 = .ok (.aload_n 3, 1) := by decide +kernel
theorem dX2_leadAlong_3 : decode cX2_leadAlong 3 = .ok (.getfield 81, 3) := by decide +kernel
theorem dX2_leadAlong_6 : decode cX2_leadAlong 6 = .ok (.aload_n 1, 1) := by decide +kernel
theorem dX2_leadAlong_7 : decode cX2_leadAlong 7 = .ok (.getfield 69, 3) := by decide +kernel
theorem dX2_leadAlong_10 : decode cX2_leadAlong 10 = .ok (.iload_n 2, 1) := by decide +kernel
theorem dX2_leadAlong_11 : decode cX2_leadAlong 11 = .ok (.iconst 1, 1) := by decide +kernel
theorem dX2_leadAlong_12 : decode cX2_leadAlong 12 = .ok (.iadd, 1) := by decide +kernel
theorem dX2_leadAlong_13 : decode cX2_leadAlong 13 = .ok (.iaload, 1) := by decide +kernel
theorem dX2_leadAlong_14 : decode cX2_leadAlong 14 = .ok (.invokevirtual 78, 3) := by decide +kernel
theorem dX2_leadAlong_17 : decode cX2_leadAlong 17 = .ok (.iconst 0, 1) := by decide +kernel
theorem dX2_leadAlong_18 : decode cX2_leadAlong 18 = .ok (.istore 5, 2) := by decide +kernel
theorem dX2_leadAlong_20 : decode cX2_leadAlong 20 = .ok (.iload 5, 2) := by decide +kernel
theorem dX2_leadAlong_22 : decode cX2_leadAlong 22 = .ok (.aload 4, 2) := by decide +kernel
theorem dX2_leadAlong_24 : decode cX2_leadAlong 24 = .ok (.getfield 81, 3) := by decide +kernel
theorem dX2_leadAlong_27 : decode cX2_leadAlong 27 = .ok (.if_icmp .ge 88, 3) := by decide +kernel
theorem dX2_leadAlong_30 : decode cX2_leadAlong 30 = .ok (.iconst 0, 1) := by decide +kernel
theorem dX2_leadAlong_31 : decode cX2_leadAlong 31 = .ok (.istore 6, 2) := by decide +kernel
theorem dX2_leadAlong_33 : decode cX2_leadAlong 33 = .ok (.iload 6, 2) := by decide +kernel
theorem dX2_leadAlong_35 : decode cX2_leadAlong 35 = .ok (.aload 4, 2) := by decide +kernel
theorem dX2_leadAlong_37 : decode cX2_leadAlong 37 = .ok (.getfield 107, 3) := by decide +kernel
theorem dX2_leadAlong_40 : decode cX2_leadAlong 40 = .ok (.if_icmp .ge 69, 3) := by decide +kernel
theorem dX2_leadAlong_43 : decode cX2_leadAlong 43 = .ok (.iconst 0, 1) := by decide +kernel
theorem dX2_leadAlong_44 : decode cX2_leadAlong 44 = .ok (.istore 7, 2) := by decide +kernel
theorem dX2_leadAlong_46 : decode cX2_leadAlong 46 = .ok (.iconst 0, 1) := by decide +kernel
theorem dX2_leadAlong_47 : decode cX2_leadAlong 47 = .ok (.istore 8, 2) := by decide +kernel
theorem dX2_leadAlong_49 : decode cX2_leadAlong 49 = .ok (.iload 8, 2) := by decide +kernel
theorem dX2_leadAlong_51 : decode cX2_leadAlong 51 = .ok (.aload_n 3, 1) := by decide +kernel
theorem dX2_leadAlong_52 : decode cX2_leadAlong 52 = .ok (.getfield 107, 3) := by decide +kernel
theorem dX2_leadAlong_55 : decode cX2_leadAlong 55 = .ok (.if_icmp .ge 32, 3) := by decide +kernel
theorem dX2_leadAlong_58 : decode cX2_leadAlong 58 = .ok (.iload 7, 2) := by decide +kernel
theorem dX2_leadAlong_60 : decode cX2_leadAlong 60 = .ok (.aload_n 1, 1) := by decide +kernel
theorem dX2_leadAlong_61 : decode cX2_leadAlong 61 = .ok (.iload_n 2, 1) := by decide +kernel
theorem dX2_leadAlong_62 : decode cX2_leadAlong 62 = .ok (.iload 6, 2) := by decide +kernel
theorem dX2_leadAlong_64 : decode cX2_leadAlong 64 = .ok (.iload 8, 2) := by decide +kernel
theorem dX2_leadAlong_66 : decode cX2_leadAlong 66 = .ok (.invokevirtual 110, 3) := by decide +kernel
theorem dX2_leadAlong_69 : decode cX2_leadAlong 69 = .ok (.aload_n 3, 1) := by decide +kernel
theorem dX2_leadAlong_70 : decode cX2_leadAlong 70 = .ok (.iload 5, 2) := by decide +kernel
theorem dX2_leadAlong_72 : decode cX2_leadAlong 72 = .ok (.iload 8, 2) := by decide +kernel
theorem dX2_leadAlong_74 : decode cX2_leadAlong 74 = .ok (.invokevirtual 114, 3) := by decide +kernel
theorem dX2_leadAlong_77 : decode cX2_leadAlong 77 = .ok (.imul, 1) := by decide +kernel
theorem dX2_leadAlong_78 : decode cX2_leadAlong 78 = .ok (.iadd, 1) := by decide +kernel
theorem dX2_leadAlong_79 : decode cX2_leadAlong 79 = .ok (.istore 7, 2) := by decide +kernel
theorem dX2_leadAlong_81 : decode cX2_leadAlong 81 = .ok (.iinc 8 1, 3) := by decide +kernel
theorem dX2_leadAlong_84 : decode cX2_leadAlong 84 = .ok (.goto (-35), 3) := by decide +kernel
theorem dX2_leadAlong_87 : decode cX2_leadAlong 87 = .ok (.aload 4, 2) := by decide +kernel
theorem dX2_leadAlong_89 : decode cX2_leadAlong 89 = .ok (.iload 5, 2) := by decide +kernel
theorem dX2_leadAlong_91 : decode cX2_leadAlong 91 = .ok (.iload 6, 2) := by decide +kernel
theorem dX2_leadAlong_93 : decode cX2_leadAlong 93 = .ok (.iload 7, 2) := by decide +kernel
theorem dX2_leadAlong_95 : decode cX2_leadAlong 95 = .ok (.aload_n 0, 1) := by decide +kernel
theorem dX2_leadAlong_96 : decode cX2_leadAlong 96 = .ok (.getfield 16, 3) := by decide +kernel
theorem dX2_leadAlong_99 : decode cX2_leadAlong 99 = .ok (.irem, 1) := by decide +kernel
theorem dX2_leadAlong_100 : decode cX2_leadAlong 100 = .ok (.invokevirtual 116, 3) := by decide +kernel
theorem dX2_leadAlong_103 : decode cX2_leadAlong 103 = .ok (.iinc 6 1, 3) := by decide +kernel
theorem dX2_leadAlong_106 : decode cX2_leadAlong 106 = .ok (.goto (-73), 3) := by decide +kernel
theorem dX2_leadAlong_109 : decode cX2_leadAlong 109 = .ok (.iinc 5 1, 3) := by decide +kernel
theorem dX2_leadAlong_112 : decode cX2_leadAlong 112 = .ok (.goto (-92), 3) := by decide +kernel
theorem dX2_leadAlong_115 : decode cX2_leadAlong 115 = .ok (.return_, 1) := by decide +kernel
theorem dX2_findConditions_0 : decode cX2_findConditions 0 = .ok (.aload_n 0, 1) := by decide +kernel
theorem dX2_findConditions_1 : decode cX2_findConditions 1 = .ok (.getfield 28, 3) := by decide +kernel
theorem dX2_findConditions_4 : decode cX2_findConditions 4 = .ok (.aload_n 3, 1) := by decide +kernel
theorem dX2_findConditions_5 : decode cX2_findConditions 5 = .ok (.invokevirtual 120, 3) := by decide +kernel
theorem dX2_findConditions_8 : decode cX2_findConditions 8 = .ok (.aload_n 1, 1) := by decide +kernel
theorem dX2_findConditions_9 : decode cX2_findConditions 9 = .ok (.getfield 69, 3) := by decide +kernel
theorem dX2_findConditions_12 : decode cX2_findConditions 12 = .ok (.iload_n 2, 1) := by decide +kernel
theorem dX2_findConditions_13 : decode cX2_findConditions 13 = .ok (.iconst 1, 1) := by decide +kernel
theorem dX2_findConditions_14 : decode cX2_findConditions 14 = .ok (.iadd, 1) := by decide +kernel
theorem dX2_findConditions_15 : decode cX2_findConditions 15 = .ok (.iaload, 1) := by decide +kernel
theorem dX2_findConditions_16 : decode cX2_findConditions 16 = .ok (.invokevirtual 78, 3) := by decide +kernel
theorem dX2_findConditions_19 : decode cX2_findConditions 19 = .ok (.iconst 0, 1) := by decide +kernel
theorem dX2_findConditions_20 : decode cX2_findConditions 20 = .ok (.istore 4, 2) := by decide +kernel
theorem dX2_findConditions_22 : decode cX2_findConditions 22 = .ok (.iconst 0, 1) := by decide +kernel
theorem dX2_findConditions_23 : decode cX2_findConditions 23 = .ok (.istore 5, 2) := by decide +kernel
theorem dX2_findConditions_25 : decode cX2_findConditions 25 = .ok (.iload 5, 2) := by decide +kernel
theorem dX2_findConditions_27 : decode cX2_findConditions 27 = .ok (.aload_n 3, 1) := by decide +kernel
theorem dX2_findConditions_28 : decode cX2_findConditions 28 = .ok (.getfield 107, 3) := by decide +kernel
theorem dX2_findConditions_31 : decode cX2_findConditions 31 = .ok (.if_icmp .ge 107, 3) := by decide +kernel
theorem dX2_findConditions_34 : decode cX2_findConditions 34 = .ok (.aload_n 3, 1) := by decide +kernel
theorem dX2_findConditions_35 : decode cX2_findConditions 35 = .ok (.iload 5, 2) := by decide +kernel
theorem dX2_findConditions_37 : decode cX2_findConditions 37 = .ok (.invokevirtual 124, 3) := by decide +kernel
theorem dX2_findConditions_40 : decode cX2_findConditions 40 = .ok (.ifCond .ne 6, 3) := by decide +kernel
theorem dX2_findConditions_43 : decode cX2_findConditions 43 = .ok (.goto 89, 3) := by decide +kernel
theorem dX2_findConditions_46 : decode cX2_findConditions 46 = .ok (.iconst 0, 1) := by decide +kernel
theorem dX2_findConditions_47 : decode cX2_findConditions 47 = .ok (.istore 6, 2) := by decide +kernel
theorem dX2_findConditions_49 : decode cX2_findConditions 49 = .ok (.iload 6, 2) := by decide +kernel
theorem dX2_findConditions_51 : decode cX2_findConditions 51 = .ok (.aload_n 0, 1) := by decide +kernel
theorem dX2_findConditions_52 : decode cX2_findConditions 52 = .ok (.getfield 28, 3) := by decide +kernel
theorem dX2_findConditions_55 : decode cX2_findConditions 55 = .ok (.getfield 107, 3) := by decide +kernel
theorem dX2_findConditions_58 : decode cX2_findConditions 58 = .ok (.if_icmp .ge 71, 3) := by decide +kernel
theorem dX2_findConditions_61 : decode cX2_findConditions 61 = .ok (.iconst 0, 1) := by decide +kernel
theorem dX2_findConditions_62 : decode cX2_findConditions 62 = .ok (.istore 7, 2) := by decide +kernel
theorem dX2_findConditions_64 : decode cX2_findConditions 64 = .ok (.iconst 0, 1) := by decide +kernel
theorem dX2_findConditions_65 : decode cX2_findConditions 65 = .ok (.istore 8, 2) := by decide +kernel
theorem dX2_findConditions_67 : decode cX2_findConditions 67 = .ok (.iload 8, 2) := by decide +kernel
theorem dX2_findConditions_69 : decode cX2_findConditions 69 = .ok (.aload_n 3, 1) := by decide +kernel
theorem dX2_findConditions_70 : decode cX2_findConditions 70 = .ok (.getfield 107, 3) := by decide +kernel
theorem dX2_findConditions_73 : decode cX2_findConditions 73 = .ok (.if_icmp .ge 32, 3) := by decide +kernel
theorem dX2_findConditions_76 : decode cX2_findConditions 76 = .ok (.iload 7, 2) := by decide +kernel
theorem dX2_findConditions_78 : decode cX2_findConditions 78 = .ok (.aload_n 3, 1) := by decide +kernel
theorem dX2_findConditions_79 : decode cX2_findConditions 79 = .ok (.iload 8, 2) := by decide +kernel
theorem dX2_findConditions_81 : decode cX2_findConditions 81 = .ok (.iload 5, 2) := by decide +kernel
theorem dX2_findConditions_83 : decode cX2_findConditions 83 = .ok (.invokevirtual 127, 3) := by decide +kernel
theorem dX2_findConditions_86 : decode cX2_findConditions 86 = .ok (.aload_n 1, 1) := by decide +kernel
theorem dX2_findConditions_87 : decode cX2_findConditions 87 = .ok (.iload_n 2, 1) := by decide +kernel
theorem dX2_findConditions_88 : decode cX2_findConditions 88 = .ok (.iload 8, 2) := by decide +kernel
theorem dX2_findConditions_90 : decode cX2_findConditions 90 = .ok (.iload 6, 2) := by decide +kernel
theorem dX2_findConditions_92 : decode cX2_findConditions 92 = .ok (.invokevirtual 110, 3) := by decide +kernel
theorem dX2_findConditions_95 : decode cX2_findConditions 95 = .ok (.imul, 1) := by decide +kernel
theorem dX2_findConditions_96 : decode cX2_findConditions 96 = .ok (.iadd, 1) := by decide +kernel
theorem dX2_findConditions_97 : decode cX2_findConditions 97 = .ok (.istore 7, 2) := by decide +kernel
theorem dX2_findConditions_99 : decode cX2_findConditions 99 = .ok (.iinc 8 1, 3) := by decide +kernel
theorem dX2_findConditions_102 : decode cX2_findConditions 102 = .ok (.goto (-35), 3) := by decide +kernel
theorem dX2_findConditions_105 : decode cX2_findConditions 105 = .ok (.aload_n 0, 1) := by decide +kernel
theorem dX2_findConditions_106 : decode cX2_findConditions 106 = .ok (.getfield 28, 3) := by decide +kernel
theorem dX2_findConditions_109 : decode cX2_findConditions 109 = .ok (.iload 4, 2) := by decide +kernel
theorem dX2_findConditions_111 : decode cX2_findConditions 111 = .ok (.iload 6, 2) := by decide +kernel
theorem dX2_findConditions_113 : decode cX2_findConditions 113 = .ok (.iload 7, 2) := by decide +kernel
theorem dX2_findConditions_115 : decode cX2_findConditions 115 = .ok (.aload_n 0, 1) := by decide +kernel
theorem dX2_findConditions_116 : decode cX2_findConditions 116 = .ok (.getfield 16, 3) := by decide +kernel
theorem dX2_findConditions_119 : decode cX2_findConditions 119 = .ok (.irem, 1) := by decide +kernel
theorem dX2_findConditions_120 : decode cX2_findConditions 120 = .ok (.invokevirtual 116, 3) := by decide +kernel
theorem dX2_findConditions_123 : decode cX2_findConditions 123 = .ok (.iinc 6 1, 3) := by decide +kernel
theorem dX2_findConditions_126 : decode cX2_findConditions 126 = .ok (.goto (-77), 3) := by decide +kernel
theorem dX2_findConditions_129 : decode cX2_findConditions 129 = .ok (.iinc 4 1, 3) := by decide +kernel
theorem dX2_findConditions_132 : decode cX2_findConditions 132 = .ok (.iinc 5 1, 3) := by decide +kernel
theorem dX2_findConditions_135 : decode cX2_findConditions 135 = .ok (.goto (-110), 3) := by decide +kernel
theorem dX2_findConditions_138 : decode cX2_findConditions 138 = .ok (.return_, 1) := by decide +kernel
theorem dX2_solveConditions_0 : decode cX2_solveConditions 0 = .ok (.aload_n 1, 1) := by decide +kernel
theorem dX2_solveConditions_1 : decode cX2_solveConditions 1 = .ok (.aload_n 0, 1) := by decide +kernel
theorem dX2_solveConditions_2 : decode cX2_solveConditions 2 = .ok (.getfield 28, 3) := by decide +kernel
theorem dX2_solveConditions_5 : decode cX2_solveConditions 5 = .ok (.invokevirtual 120, 3) := by decide +kernel
theorem dX2_solveConditions_8 : decode cX2_solveConditions 8 = .ok (.aload_n 0, 1) := by decide +kernel
theorem dX2_solveConditions_9 : decode cX2_solveConditions 9 = .ok (.getfield 28, 3) := by decide +kernel
theorem dX2_solveConditions_12 : decode cX2_solveConditions 12 = .ok (.getfield 107, 3) := by decide +kernel
theorem dX2_solveConditions_15 : decode cX2_solveConditions 15 = .ok (.invokevirtual 78, 3) := by decide +kernel
theorem dX2_solveConditions_18 : decode cX2_solveConditions 18 = .ok (.iconst 0, 1) := by decide +kernel
theorem dX2_solveConditions_19 : decode cX2_solveConditions 19 = .ok (.istore_n 2, 1) := by decide +kernel
theorem dX2_solveConditions_20 : decode cX2_solveConditions 20 = .ok (.iconst 0, 1) := by decide +kernel
theorem dX2_solveConditions_21 : decode cX2_solveConditions 21 = .ok (.istore_n 3, 1) := by decide +kernel
theorem dX2_solveConditions_22 : decode cX2_solveConditions 22 = .ok (.iload_n 3, 1) := by decide +kernel
theorem dX2_solveConditions_23 : decode cX2_solveConditions 23 = .ok (.aload_n 0, 1) := by decide +kernel
theorem dX2_solveConditions_24 : decode cX2_solveConditions 24 = .ok (.getfield 28, 3) := by decide +kernel
theorem dX2_solveConditions_27 : decode cX2_solveConditions 27 = .ok (.getfield 107, 3) := by decide +kernel
theorem dX2_solveConditions_30 : decode cX2_solveConditions 30 = .ok (.if_icmp .ge 58, 3) := by decide +kernel
theorem dX2_solveConditions_33 : decode cX2_solveConditions 33 = .ok (.aload_n 0, 1) := by decide +kernel
theorem dX2_solveConditions_34 : decode cX2_solveConditions 34 = .ok (.getfield 28, 3) := by decide +kernel
theorem dX2_solveConditions_37 : decode cX2_solveConditions 37 = .ok (.iload_n 3, 1) := by decide +kernel
theorem dX2_solveConditions_38 : decode cX2_solveConditions 38 = .ok (.invokevirtual 124, 3) := by decide +kernel
theorem dX2_solveConditions_41 : decode cX2_solveConditions 41 = .ok (.ifCond .eq 41, 3) := by decide +kernel
theorem dX2_solveConditions_44 : decode cX2_solveConditions 44 = .ok (.iconst 0, 1) := by decide +kernel
theorem dX2_solveConditions_45 : decode cX2_solveConditions 45 = .ok (.istore 4, 2) := by decide +kernel
theorem dX2_solveConditions_47 : decode cX2_solveConditions 47 = .ok (.iload 4, 2) := by decide +kernel
theorem dX2_solveConditions_49 : decode cX2_solveConditions 49 = .ok (.aload_n 1, 1) := by decide +kernel
theorem dX2_solveConditions_50 : decode cX2_solveConditions 50 = .ok (.getfield 107, 3) := by decide +kernel
theorem dX2_solveConditions_53 : decode cX2_solveConditions 53 = .ok (.if_icmp .ge 26, 3) := by decide +kernel
theorem dX2_solveConditions_56 : decode cX2_solveConditions 56 = .ok (.aload_n 1, 1) := by decide +kernel
theorem dX2_solveConditions_57 : decode cX2_solveConditions 57 = .ok (.iload_n 2, 1) := by decide +kernel
theorem dX2_solveConditions_58 : decode cX2_solveConditions 58 = .ok (.iload 4, 2) := by decide +kernel
theorem dX2_solveConditions_60 : decode cX2_solveConditions 60 = .ok (.aload_n 0, 1) := by decide +kernel
theorem dX2_solveConditions_61 : decode cX2_solveConditions 61 = .ok (.getfield 28, 3) := by decide +kernel
theorem dX2_solveConditions_64 : decode cX2_solveConditions 64 = .ok (.iload 4, 2) := by decide +kernel
theorem dX2_solveConditions_66 : decode cX2_solveConditions 66 = .ok (.iload_n 3, 1) := by decide +kernel
theorem dX2_solveConditions_67 : decode cX2_solveConditions 67 = .ok (.invokevirtual 127, 3) := by decide +kernel
theorem dX2_solveConditions_70 : decode cX2_solveConditions 70 = .ok (.invokevirtual 116, 3) := by decide +kernel
theorem dX2_solveConditions_73 : decode cX2_solveConditions 73 = .ok (.iinc 4 1, 3) := by decide +kernel
theorem dX2_solveConditions_76 : decode cX2_solveConditions 76 = .ok (.goto (-29), 3) := by decide +kernel
theorem dX2_solveConditions_79 : decode cX2_solveConditions 79 = .ok (.iinc 2 1, 3) := by decide +kernel
theorem dX2_solveConditions_82 : decode cX2_solveConditions 82 = .ok (.iinc 3 1, 3) := by decide +kernel
theorem dX2_solveConditions_85 : decode cX2_solveConditions 85 = .ok (.goto (-63), 3) := by decide +kernel
theorem dX2_solveConditions_88 : decode cX2_solveConditions 88 = .ok (.return_, 1) := by decide +kernel
theorem dX3_init_0 : decode cX3_init 0 = .ok (.aload_n 0, 1) := by decide +kernel
theorem dX3_init_1 : decode cX3_init 1 = .ok (.invokespecial 3, 3) := by decide +kernel
theorem dX3_init_4 : decode cX3_init 4 = .ok (.aload_n 0, 1) := by decide +kernel
theorem dX3_init_5 : decode cX3_init 5 = .ok (.iconst 4, 1) := by decide +kernel
theorem dX3_init_6 : decode cX3_init 6 = .ok (.bipush 8, 2) := by decide +kernel
theorem dX3_init_8 : decode cX3_init 8 = .ok (.multianewarray 9 2, 4) := by decide +kernel
theorem dX3_init_12 : decode cX3_init 12 = .ok (.putfield 11, 3) := by decide +kernel
theorem dX3_init_15 : decode cX3_init 15 = .ok (.aload_n 0, 1) := by decide +kernel
theorem dX3_init_16 : decode cX3_init 16 = .ok (.bipush 8, 2) := by decide +kernel
theorem dX3_init_18 : decode cX3_init 18 = .ok (.newarray .int, 2) := by decide +kernel
theorem dX3_init_20 : decode cX3_init 20 = .ok (.putfield 16, 3) := by decide +kernel
theorem dX3_init_23 : decode cX3_init 23 = .ok (.aload_n 0, 1) := by decide +kernel
theorem dX3_init_24 : decode cX3_init 24 = .ok (.iload_n 1, 1) := by decide +kernel
theorem dX3_init_25 : decode cX3_init 25 = .ok (.putfield 20, 3) := by decide +kernel
theorem dX3_init_28 : decode cX3_init 28 = .ok (.return_, 1) := by decide +kernel
theorem dX3_start_0 : decode cX3_start 0 = .ok (.aload_n 0, 1) := by decide +kernel
theorem dX3_start_1 : decode cX3_start 1 = .ok (.iload_n 1, 1) := by decide +kernel
theorem dX3_start_2 : decode cX3_start 2 = .ok (.iconst 4, 1) := by decide +kernel
theorem dX3_start_3 : decode cX3_start 3 = .ok (.invokestatic 24, 3) := by decide +kernel
theorem dX3_start_6 : decode cX3_start 6 = .ok (.putfield 30, 3) := by decide +kernel
theorem dX3_start_9 : decode cX3_start 9 = .ok (.aload_n 0, 1) := by decide +kernel
theorem dX3_start_10 : decode cX3_start 10 = .ok (.iload_n 2, 1) := by decide +kernel
theorem dX3_start_11 : decode cX3_start 11 = .ok (.bipush 8, 2) := by decide +kernel
theorem dX3_start_13 : decode cX3_start 13 = .ok (.invokestatic 24, 3) := by decide +kernel
theorem dX3_start_16 : decode cX3_start 16 = .ok (.putfield 33, 3) := by decide +kernel
theorem dX3_start_19 : decode cX3_start 19 = .ok (.aload_n 0, 1) := by decide +kernel
theorem dX3_start_20 : decode cX3_start 20 = .ok (.getfield 16, 3) := by decide +kernel
theorem dX3_start_23 : decode cX3_start 23 = .ok (.iconst (-1), 1) := by decide +kernel
theorem dX3_start_24 : decode cX3_start 24 = .ok (.invokestatic 36, 3) := by decide +kernel
theorem dX3_start_27 : decode cX3_start 27 = .ok (.return_, 1) := by decide +kernel
theorem dX3_startWhole_0 : decode cX3_startWhole 0 = .ok (.aload_n 0, 1) := by decide +kernel
theorem dX3_startWhole_1 : decode cX3_startWhole 1 = .ok (.iload_n 1, 1) := by decide +kernel
theorem dX3_startWhole_2 : decode cX3_startWhole 2 = .ok (.iload_n 1, 1) := by decide +kernel
theorem dX3_startWhole_3 : decode cX3_startWhole 3 = .ok (.invokevirtual 42, 3) := by decide +kernel
theorem dX3_startWhole_6 : decode cX3_startWhole 6 = .ok (.iconst 0, 1) := by decide +kernel
theorem dX3_startWhole_7 : decode cX3_startWhole 7 = .ok (.istore_n 2, 1) := by decide +kernel
theorem dX3_startWhole_8 : decode cX3_startWhole 8 = .ok (.iload_n 2, 1) := by decide +kernel
theorem dX3_startWhole_9 : decode cX3_startWhole 9 = .ok (.aload_n 0, 1) := by decide +kernel
theorem dX3_startWhole_10 : decode cX3_startWhole 10 = .ok (.getfield 30, 3) := by decide +kernel
theorem dX3_startWhole_13 : decode cX3_startWhole 13 = .ok (.if_icmp .ge 35, 3) := by decide +kernel
theorem dX3_startWhole_16 : decode cX3_startWhole 16 = .ok (.aload_n 0, 1) := by decide +kernel
theorem dX3_startWhole_17 : decode cX3_startWhole 17 = .ok (.getfield 11, 3) := by decide +kernel
theorem dX3_startWhole_20 : decode cX3_startWhole 20 = .ok (.iload_n 2, 1) := by decide +kernel
theorem dX3_startWhole_21 : decode cX3_startWhole 21 = .ok (.aaload, 1) := by decide +kernel
theorem dX3_startWhole_22 : decode cX3_startWhole 22 = .ok (.iconst 0, 1) := by decide +kernel
theorem dX3_startWhole_23 : decode cX3_startWhole 23 = .ok (.invokestatic 36, 3) := by decide +kernel
theorem dX3_startWhole_26 : decode cX3_startWhole 26 = .ok (.aload_n 0, 1) := by decide +kernel
theorem dX3_startWhole_27 : decode cX3_startWhole 27 = .ok (.getfield 11, 3) := by decide +kernel
theorem dX3_startWhole_30 : decode cX3_startWhole 30 = .ok (.iload_n 2, 1) := by decide +kernel
theorem dX3_startWhole_31 : decode cX3_startWhole 31 = .ok (.aaload, 1) := by decide +kernel
theorem dX3_startWhole_32 : decode cX3_startWhole 32 = .ok (.iload_n 2, 1) := by decide +kernel
theorem dX3_startWhole_33 : decode cX3_startWhole 33 = .ok (.iconst 1, 1) := by decide +kernel
theorem dX3_startWhole_34 : decode cX3_startWhole 34 = .ok (.iastore, 1) := by decide +kernel
theorem dX3_startWhole_35 : decode cX3_startWhole 35 = .ok (.aload_n 0, 1) := by decide +kernel
theorem dX3_startWhole_36 : decode cX3_startWhole 36 = .ok (.getfield 16, 3) := by decide +kernel
theorem dX3_startWhole_39 : decode cX3_startWhole 39 = .ok (.iload_n 2, 1) := by decide +kernel
theorem dX3_startWhole_40 : decode cX3_startWhole 40 = .ok (.iload_n 2, 1) := by decide +kernel
theorem dX3_startWhole_41 : decode cX3_startWhole 41 = .ok (.iastore, 1) := by decide +kernel
theorem dX3_startWhole_42 : decode cX3_startWhole 42 = .ok (.iinc 2 1, 3) := by decide +kernel
theorem dX3_startWhole_45 : decode cX3_startWhole 45 = .ok (.goto (-37), 3) := by decide +kernel
theorem dX3_startWhole_48 : decode cX3_startWhole 48 = .ok (.return_, 1) := by decide +kernel
theorem dX3_number_0 : decode cX3_number 0 = .ok (.aload_n 0, 1) := by decide +kernel
theorem dX3_number_1 : decode cX3_number 1 = .ok (.getfield 11, 3) := by decide +kernel
theorem dX3_number_4 : decode cX3_number 4 = .ok (.iload_n 1, 1) := by decide +kernel
theorem dX3_number_5 : decode cX3_number 5 = .ok (.aaload, 1) := by decide +kernel
theorem dX3_number_6 : decode cX3_number 6 = .ok (.iload_n 2, 1) := by decide +kernel
theorem dX3_number_7 : decode cX3_number 7 = .ok (.iaload, 1) := by decide +kernel
theorem dX3_number_8 : decode cX3_number 8 = .ok (.ireturn, 1) := by decide +kernel
theorem dX3_put_0 : decode cX3_put 0 = .ok (.aload_n 0, 1) := by decide +kernel
theorem dX3_put_1 : decode cX3_put 1 = .ok (.getfield 11, 3) := by decide +kernel
theorem dX3_put_4 : decode cX3_put 4 = .ok (.iload_n 1, 1) := by decide +kernel
theorem dX3_put_5 : decode cX3_put 5 = .ok (.aaload, 1) := by decide +kernel
theorem dX3_put_6 : decode cX3_put 6 = .ok (.iload_n 2, 1) := by decide +kernel
theorem dX3_put_7 : decode cX3_put 7 = .ok (.iload_n 3, 1) := by decide +kernel
theorem dX3_put_8 : decode cX3_put 8 = .ok (.iastore, 1) := by decide +kernel
theorem dX3_put_9 : decode cX3_put 9 = .ok (.return_, 1) := by decide +kernel
theorem dX3_bringToLeast_0 : decode cX3_bringToLeast 0 = .ok (.iconst 0, 1) := by decide +kernel
theorem dX3_bringToLeast_1 : decode cX3_bringToLeast 1 = .ok (.istore_n 1, 1) := by decide +kernel
theorem dX3_bringToLeast_2 : decode cX3_bringToLeast 2 = .ok (.iconst 0, 1) := by decide +kernel
theorem dX3_bringToLeast_3 : decode cX3_bringToLeast 3 = .ok (.istore_n 2, 1) := by decide +kernel
theorem dX3_bringToLeast_4 : decode cX3_bringToLeast 4 = .ok (.iload_n 2, 1) := by decide +kernel
theorem dX3_bringToLeast_5 : decode cX3_bringToLeast 5 = .ok (.aload_n 0, 1) := by decide +kernel
theorem dX3_bringToLeast_6 : decode cX3_bringToLeast 6 = .ok (.getfield 33, 3) := by decide +kernel
theorem dX3_bringToLeast_9 : decode cX3_bringToLeast 9 = .ok (.if_icmp .ge 69, 3) := by decide +kernel
theorem dX3_bringToLeast_12 : decode cX3_bringToLeast 12 = .ok (.iload_n 1, 1) := by decide +kernel
theorem dX3_bringToLeast_13 : decode cX3_bringToLeast 13 = .ok (.aload_n 0, 1) := by decide +kernel
theorem dX3_bringToLeast_14 : decode cX3_bringToLeast 14 = .ok (.getfield 30, 3) := by decide +kernel
theorem dX3_bringToLeast_17 : decode cX3_bringToLeast 17 = .ok (.if_icmp .ge 61, 3) := by decide +kernel
theorem dX3_bringToLeast_20 : decode cX3_bringToLeast 20 = .ok (.aload_n 0, 1) := by decide +kernel
theorem dX3_bringToLeast_21 : decode cX3_bringToLeast 21 = .ok (.iload_n 2, 1) := by decide +kernel
theorem dX3_bringToLeast_22 : decode cX3_bringToLeast 22 = .ok (.iload_n 1, 1) := by decide +kernel
theorem dX3_bringToLeast_23 : decode cX3_bringToLeast 23 = .ok (.invokevirtual 46, 3) := by decide +kernel
theorem dX3_bringToLeast_26 : decode cX3_bringToLeast 26 = .ok (.istore_n 3, 1) := by decide +kernel
theorem dX3_bringToLeast_27 : decode cX3_bringToLeast 27 = .ok (.iload_n 3, 1) := by decide +kernel
theorem dX3_bringToLeast_28 : decode cX3_bringToLeast 28 = .ok (.iconst (-1), 1) := by decide +kernel
theorem dX3_bringToLeast_29 : decode cX3_bringToLeast 29 = .ok (.if_icmp .eq 43, 3) := by decide +kernel
theorem dX3_bringToLeast_32 : decode cX3_bringToLeast 32 = .ok (.aload_n 0, 1) := by decide +kernel
theorem dX3_bringToLeast_33 : decode cX3_bringToLeast 33 = .ok (.iload_n 3, 1) := by decide +kernel
theorem dX3_bringToLeast_34 : decode cX3_bringToLeast 34 = .ok (.iload_n 1, 1) := by decide +kernel
theorem dX3_bringToLeast_35 : decode cX3_bringToLeast 35 = .ok (.invokevirtual 49, 3) := by decide +kernel
theorem dX3_bringToLeast_38 : decode cX3_bringToLeast 38 = .ok (.aload_n 0, 1) := by decide +kernel
theorem dX3_bringToLeast_39 : decode cX3_bringToLeast 39 = .ok (.iload_n 1, 1) := by decide +kernel
theorem dX3_bringToLeast_40 : decode cX3_bringToLeast 40 = .ok (.aload_n 0, 1) := by decide +kernel
theorem dX3_bringToLeast_41 : decode cX3_bringToLeast 41 = .ok (.aload_n 0, 1) := by decide +kernel
theorem dX3_bringToLeast_42 : decode cX3_bringToLeast 42 = .ok (.getfield 11, 3) := by decide +kernel
theorem dX3_bringToLeast_45 : decode cX3_bringToLeast 45 = .ok (.iload_n 1, 1) := by decide +kernel
theorem dX3_bringToLeast_46 : decode cX3_bringToLeast 46 = .ok (.aaload, 1) := by decide +kernel
theorem dX3_bringToLeast_47 : decode cX3_bringToLeast 47 = .ok (.iload_n 2, 1) := by decide +kernel
theorem dX3_bringToLeast_48 : decode cX3_bringToLeast 48 = .ok (.iaload, 1) := by decide +kernel
theorem dX3_bringToLeast_49 : decode cX3_bringToLeast 49 = .ok (.invokevirtual 52, 3) := by decide +kernel
theorem dX3_bringToLeast_52 : decode cX3_bringToLeast 52 = .ok (.iload_n 2, 1) := by decide +kernel
theorem dX3_bringToLeast_53 : decode cX3_bringToLeast 53 = .ok (.invokevirtual 56, 3) := by decide +kernel
theorem dX3_bringToLeast_56 : decode cX3_bringToLeast 56 = .ok (.aload_n 0, 1) := by decide +kernel
theorem dX3_bringToLeast_57 : decode cX3_bringToLeast 57 = .ok (.iload_n 1, 1) := by decide +kernel
theorem dX3_bringToLeast_58 : decode cX3_bringToLeast 58 = .ok (.iload_n 2, 1) := by decide +kernel
theorem dX3_bringToLeast_59 : decode cX3_bringToLeast 59 = .ok (.invokevirtual 60, 3) := by decide +kernel
theorem dX3_bringToLeast_62 : decode cX3_bringToLeast 62 = .ok (.aload_n 0, 1) := by decide +kernel
theorem dX3_bringToLeast_63 : decode cX3_bringToLeast 63 = .ok (.getfield 16, 3) := by decide +kernel
theorem dX3_bringToLeast_66 : decode cX3_bringToLeast 66 = .ok (.iload_n 2, 1) := by decide +kernel
theorem dX3_bringToLeast_67 : decode cX3_bringToLeast 67 = .ok (.iload_n 1, 1) := by decide +kernel
theorem dX3_bringToLeast_68 : decode cX3_bringToLeast 68 = .ok (.iastore, 1) := by decide +kernel
theorem dX3_bringToLeast_69 : decode cX3_bringToLeast 69 = .ok (.iinc 1 1, 3) := by decide +kernel
theorem dX3_bringToLeast_72 : decode cX3_bringToLeast 72 = .ok (.iinc 2 1, 3) := by decide +kernel
theorem dX3_bringToLeast_75 : decode cX3_bringToLeast 75 = .ok (.goto (-71), 3) := by decide +kernel
theorem dX3_bringToLeast_78 : decode cX3_bringToLeast 78 = .ok (.aload_n 0, 1) := by decide +kernel
theorem dX3_bringToLeast_79 : decode cX3_bringToLeast 79 = .ok (.iload_n 1, 1) := by decide +kernel
theorem dX3_bringToLeast_80 : decode cX3_bringToLeast 80 = .ok (.putfield 30, 3) := by decide +kernel
theorem dX3_bringToLeast_83 : decode cX3_bringToLeast 83 = .ok (.return_, 1) := by decide +kernel
theorem dX3_rowWithNumber_0 : decode cX3_rowWithNumber 0 = .ok (.iload_n 2, 1) := by decide +kernel
theorem dX3_rowWithNumber_1 : decode cX3_rowWithNumber 1 = .ok (.istore_n 3, 1) := by decide +kernel
theorem dX3_rowWithNumber_2 : decode cX3_rowWithNumber 2 = .ok (.iload_n 3, 1) := by decide +kernel
theorem dX3_rowWithNumber_3 : decode cX3_rowWithNumber 3 = .ok (.aload_n 0, 1) := by decide +kernel
theorem dX3_rowWithNumber_4 : decode cX3_rowWithNumber 4 = .ok (.getfield 30, 3) := by decide +kernel
theorem dX3_rowWithNumber_7 : decode cX3_rowWithNumber 7 = .ok (.if_icmp .ge 22, 3) := by decide +kernel
theorem dX3_rowWithNumber_10 : decode cX3_rowWithNumber 10 = .ok (.aload_n 0, 1) := by decide +kernel
theorem dX3_rowWithNumber_11 : decode cX3_rowWithNumber 11 = .ok (.getfield 11, 3) := by decide +kernel
theorem dX3_rowWithNumber_14 : decode cX3_rowWithNumber 14 = .ok (.iload_n 3, 1) := by decide +kernel
theorem dX3_rowWithNumber_15 : decode cX3_rowWithNumber 15 = .ok (.aaload, 1) := by decide +kernel
theorem dX3_rowWithNumber_16 : decode cX3_rowWithNumber 16 = .ok (.iload_n 1, 1) := by decide +kernel
theorem dX3_rowWithNumber_17 : decode cX3_rowWithNumber 17 = .ok (.iaload, 1) := by decide +kernel
theorem dX3_rowWithNumber_18 : decode cX3_rowWithNumber 18 = .ok (.ifCond .eq 5, 3) := by decide +kernel
theorem dX3_rowWithNumber_21 : decode cX3_rowWithNumber 21 = .ok (.iload_n 3, 1) := by decide +kernel
theorem dX3_rowWithNumber_22 : decode cX3_rowWithNumber 22 = .ok (.ireturn, 1) := by decide +kernel
theorem dX3_rowWithNumber_23 : decode cX3_rowWithNumber 23 = .ok (.iinc 3 1, 3) := by decide +kernel
theorem dX3_rowWithNumber_26 : decode cX3_rowWithNumber 26 = .ok (.goto (-24), 3) := by decide +kernel
theorem dX3_rowWithNumber_29 : decode cX3_rowWithNumber 29 = .ok (.iconst (-1), 1) := by decide +kernel
theorem dX3_rowWithNumber_30 : decode cX3_rowWithNumber 30 = .ok (.ireturn, 1) := by decide +kernel
theorem dX3_swap_0 : decode cX3_swap 0 = .ok (.aload_n 0, 1) := by decide +kernel
theorem dX3_swap_1 : decode cX3_swap 1 = .ok (.getfield 11, 3) := by decide +kernel
theorem dX3_swap_4 : decode cX3_swap 4 = .ok (.iload_n 1, 1) := by decide +kernel
theorem dX3_swap_5 : decode cX3_swap 5 = .ok (.aaload, 1) := by decide +kernel
theorem dX3_swap_6 : decode cX3_swap 6 = .ok (.astore_n 3, 1) := by decide +kernel
theorem dX3_swap_7 : decode cX3_swap 7 = .ok (.aload_n 0, 1) := by decide +kernel
theorem dX3_swap_8 : decode cX3_swap 8 = .ok (.getfield 11, 3) := by decide +kernel
theorem dX3_swap_11 : decode cX3_swap 11 = .ok (.iload_n 1, 1) := by decide +kernel
theorem dX3_swap_12 : decode cX3_swap 12 = .ok (.aload_n 0, 1) := by decide +kernel
theorem dX3_swap_13 : decode cX3_swap 13 = .ok (.getfield 11, 3) := by decide +kernel
theorem dX3_swap_16 : decode cX3_swap 16 = .ok (.iload_n 2, 1) := by decide +kernel
theorem dX3_swap_17 : decode cX3_swap 17 = .ok (.aaload, 1) := by decide +kernel
theorem dX3_swap_18 : decode cX3_swap 18 = .ok (.aastore, 1) := by decide +kernel
theorem dX3_swap_19 : decode cX3_swap 19 = .ok (.aload_n 0, 1) := by decide +kernel
theorem dX3_swap_20 : decode cX3_swap 20 = .ok (.getfield 11, 3) := by decide +kernel
theorem dX3_swap_23 : decode cX3_swap 23 = .ok (.iload_n 2, 1) := by decide +kernel
theorem dX3_swap_24 : decode cX3_swap 24 = .ok (.aload_n 3, 1) := by decide +kernel
theorem dX3_swap_25 : decode cX3_swap 25 = .ok (.aastore, 1) := by decide +kernel
theorem dX3_swap_26 : decode cX3_swap 26 = .ok (.return_, 1) := by decide +kernel
theorem dX3_scale_0 : decode cX3_scale 0 = .ok (.iload_n 2, 1) := by decide +kernel
theorem dX3_scale_1 : decode cX3_scale 1 = .ok (.iconst 1, 1) := by decide +kernel
theorem dX3_scale_2 : decode cX3_scale 2 = .ok (.if_icmp .ne 4, 3) := by decide +kernel
theorem dX3_scale_5 : decode cX3_scale 5 = .ok (.return_, 1) := by decide +kernel
theorem dX3_scale_6 : decode cX3_scale 6 = .ok (.aload_n 0, 1) := by decide +kernel
theorem dX3_scale_7 : decode cX3_scale 7 = .ok (.getfield 11, 3) := by decide +kernel
theorem dX3_scale_10 : decode cX3_scale 10 = .ok (.iload_n 1, 1) := by decide +kernel
theorem dX3_scale_11 : decode cX3_scale 11 = .ok (.aaload, 1) := by decide +kernel
theorem dX3_scale_12 : decode cX3_scale 12 = .ok (.astore 4, 2) := by decide +kernel
theorem dX3_scale_14 : decode cX3_scale 14 = .ok (.iload_n 3, 1) := by decide +kernel
theorem dX3_scale_15 : decode cX3_scale 15 = .ok (.istore 5, 2) := by decide +kernel
theorem dX3_scale_17 : decode cX3_scale 17 = .ok (.iload 5, 2) := by decide +kernel
theorem dX3_scale_19 : decode cX3_scale 19 = .ok (.aload_n 0, 1) := by decide +kernel
theorem dX3_scale_20 : decode cX3_scale 20 = .ok (.getfield 33, 3) := by decide +kernel
theorem dX3_scale_23 : decode cX3_scale 23 = .ok (.if_icmp .ge 26, 3) := by decide +kernel
theorem dX3_scale_26 : decode cX3_scale 26 = .ok (.aload 4, 2) := by decide +kernel
theorem dX3_scale_28 : decode cX3_scale 28 = .ok (.iload 5, 2) := by decide +kernel
theorem dX3_scale_30 : decode cX3_scale 30 = .ok (.aload 4, 2) := by decide +kernel
theorem dX3_scale_32 : decode cX3_scale 32 = .ok (.iload 5, 2) := by decide +kernel
theorem dX3_scale_34 : decode cX3_scale 34 = .ok (.iaload, 1) := by decide +kernel
theorem dX3_scale_35 : decode cX3_scale 35 = .ok (.iload_n 2, 1) := by decide +kernel
theorem dX3_scale_36 : decode cX3_scale 36 = .ok (.imul, 1) := by decide +kernel
theorem dX3_scale_37 : decode cX3_scale 37 = .ok (.aload_n 0, 1) := by decide +kernel
theorem dX3_scale_38 : decode cX3_scale 38 = .ok (.getfield 20, 3) := by decide +kernel
theorem dX3_scale_41 : decode cX3_scale 41 = .ok (.irem, 1) := by decide +kernel
theorem dX3_scale_42 : decode cX3_scale 42 = .ok (.iastore, 1) := by decide +kernel
theorem dX3_scale_43 : decode cX3_scale 43 = .ok (.iinc 5 1, 3) := by decide +kernel
theorem dX3_scale_46 : decode cX3_scale 46 = .ok (.goto (-29), 3) := by decide +kernel
theorem dX3_scale_49 : decode cX3_scale 49 = .ok (.return_, 1) := by decide +kernel
theorem dX3_inverse_0 : decode cX3_inverse 0 = .ok (.iconst 1, 1) := by decide +kernel
theorem dX3_inverse_1 : decode cX3_inverse 1 = .ok (.istore_n 2, 1) := by decide +kernel
theorem dX3_inverse_2 : decode cX3_inverse 2 = .ok (.iload_n 2, 1) := by decide +kernel
theorem dX3_inverse_3 : decode cX3_inverse 3 = .ok (.aload_n 0, 1) := by decide +kernel
theorem dX3_inverse_4 : decode cX3_inverse 4 = .ok (.getfield 20, 3) := by decide +kernel
theorem dX3_inverse_7 : decode cX3_inverse 7 = .ok (.if_icmp .ge 23, 3) := by decide +kernel
theorem dX3_inverse_10 : decode cX3_inverse 10 = .ok (.iload_n 2, 1) := by decide +kernel
theorem dX3_inverse_11 : decode cX3_inverse 11 = .ok (.iload_n 1, 1) := by decide +kernel
theorem dX3_inverse_12 : decode cX3_inverse 12 = .ok (.imul, 1) := by decide +kernel
theorem dX3_inverse_13 : decode cX3_inverse 13 = .ok (.aload_n 0, 1) := by decide +kernel
theorem dX3_inverse_14 : decode cX3_inverse 14 = .ok (.getfield 20, 3) := by decide +kernel
theorem dX3_inverse_17 : decode cX3_inverse 17 = .ok (.irem, 1) := by decide +kernel
theorem dX3_inverse_18 : decode cX3_inverse 18 = .ok (.iconst 1, 1) := by decide +kernel
theorem dX3_inverse_19 : decode cX3_inverse 19 = .ok (.if_icmp .ne 5, 3) := by decide +kernel
theorem dX3_inverse_22 : decode cX3_inverse 22 = .ok (.iload_n 2, 1) := by decide +kernel
theorem dX3_inverse_23 : decode cX3_inverse 23 = .ok (.ireturn, 1) := by decide +kernel
theorem dX3_inverse_24 : decode cX3_inverse 24 = .ok (.iinc 2 1, 3) := by decide +kernel
theorem dX3_inverse_27 : decode cX3_inverse 27 = .ok (.goto (-25), 3) := by decide +kernel
theorem dX3_inverse_30 : decode cX3_inverse 30 = .ok (.iconst 1, 1) := by decide +kernel
theorem dX3_inverse_31 : decode cX3_inverse 31 = .ok (.ireturn, 1) := by decide +kernel
theorem dX3_clearElsewhere_0 : decode cX3_clearElsewhere 0 = .ok (.aload_n 0, 1) := by decide +kernel
theorem dX3_clearElsewhere_1 : decode cX3_clearElsewhere 1 = .ok (.getfield 11, 3) := by decide +kernel
theorem dX3_clearElsewhere_4 : decode cX3_clearElsewhere 4 = .ok (.iload_n 1, 1) := by decide +kernel
theorem dX3_clearElsewhere_5 : decode cX3_clearElsewhere 5 = .ok (.aaload, 1) := by decide +kernel
theorem dX3_clearElsewhere_6 : decode cX3_clearElsewhere 6 = .ok (.astore_n 3, 1) := by decide +kernel
theorem dX3_clearElsewhere_7 : decode cX3_clearElsewhere 7 = .ok (.iconst 0, 1) := by decide +kernel
theorem dX3_clearElsewhere_8 : decode cX3_clearElsewhere 8 = .ok (.istore 4, 2) := by decide +kernel
theorem dX3_clearElsewhere_10 : decode cX3_clearElsewhere 10 = .ok (.iload 4, 2) := by decide +kernel
theorem dX3_clearElsewhere_12 : decode cX3_clearElsewhere 12 = .ok (.aload_n 0, 1) := by decide +kernel
theorem dX3_clearElsewhere_13 : decode cX3_clearElsewhere 13 = .ok (.getfield 30, 3) := by decide +kernel
theorem dX3_clearElsewhere_16 : decode cX3_clearElsewhere 16 = .ok (.if_icmp .ge 86, 3) := by decide +kernel
theorem dX3_clearElsewhere_19 : decode cX3_clearElsewhere 19 = .ok (.aload_n 0, 1) := by decide +kernel
theorem dX3_clearElsewhere_20 : decode cX3_clearElsewhere 20 = .ok (.getfield 11, 3) := by decide +kernel
theorem dX3_clearElsewhere_23 : decode cX3_clearElsewhere 23 = .ok (.iload 4, 2) := by decide +kernel
theorem dX3_clearElsewhere_25 : decode cX3_clearElsewhere 25 = .ok (.aaload, 1) := by decide +kernel
theorem dX3_clearElsewhere_26 : decode cX3_clearElsewhere 26 = .ok (.astore 5, 2) := by decide +kernel
theorem dX3_clearElsewhere_28 : decode cX3_clearElsewhere 28 = .ok (.iload 4, 2) := by decide +kernel
theorem dX3_clearElsewhere_30 : decode cX3_clearElsewhere 30 = .ok (.iload_n 1, 1) := by decide +kernel
theorem dX3_clearElsewhere_31 : decode cX3_clearElsewhere 31 = .ok (.if_icmp .eq 65, 3) := by decide +kernel
theorem dX3_clearElsewhere_34 : decode cX3_clearElsewhere 34 = .ok (.aload 5, 2) := by decide +kernel
theorem dX3_clearElsewhere_36 : decode cX3_clearElsewhere 36 = .ok (.iload_n 2, 1) := by decide +kernel
theorem dX3_clearElsewhere_37 : decode cX3_clearElsewhere 37 = .ok (.iaload, 1) := by decide +kernel
theorem dX3_clearElsewhere_38 : decode cX3_clearElsewhere 38 = .ok (.ifCond .ne 6, 3) := by decide +kernel
theorem dX3_clearElsewhere_41 : decode cX3_clearElsewhere 41 = .ok (.goto 55, 3) := by decide +kernel
theorem dX3_clearElsewhere_44 : decode cX3_clearElsewhere 44 = .ok (.aload_n 0, 1) := by decide +kernel
theorem dX3_clearElsewhere_45 : decode cX3_clearElsewhere 45 = .ok (.getfield 20, 3) := by decide +kernel
theorem dX3_clearElsewhere_48 : decode cX3_clearElsewhere 48 = .ok (.aload 5, 2) := by decide +kernel
theorem dX3_clearElsewhere_50 : decode cX3_clearElsewhere 50 = .ok (.iload_n 2, 1) := by decide +kernel
theorem dX3_clearElsewhere_51 : decode cX3_clearElsewhere 51 = .ok (.iaload, 1) := by decide +kernel
theorem dX3_clearElsewhere_52 : decode cX3_clearElsewhere 52 = .ok (.isub, 1) := by decide +kernel
theorem dX3_clearElsewhere_53 : decode cX3_clearElsewhere 53 = .ok (.istore 6, 2) := by decide +kernel
theorem dX3_clearElsewhere_55 : decode cX3_clearElsewhere 55 = .ok (.iload_n 2, 1) := by decide +kernel
theorem dX3_clearElsewhere_56 : decode cX3_clearElsewhere 56 = .ok (.istore 7, 2) := by decide +kernel
theorem dX3_clearElsewhere_58 : decode cX3_clearElsewhere 58 = .ok (.iload 7, 2) := by decide +kernel
theorem dX3_clearElsewhere_60 : decode cX3_clearElsewhere 60 = .ok (.aload_n 0, 1) := by decide +kernel
theorem dX3_clearElsewhere_61 : decode cX3_clearElsewhere 61 = .ok (.getfield 33, 3) := by decide +kernel
theorem dX3_clearElsewhere_64 : decode cX3_clearElsewhere 64 = .ok (.if_icmp .ge 32, 3) := by decide +kernel
theorem dX3_clearElsewhere_67 : decode cX3_clearElsewhere 67 = .ok (.aload 5, 2) := by decide +kernel
theorem dX3_clearElsewhere_69 : decode cX3_clearElsewhere 69 = .ok (.iload 7, 2) := by decide +kernel
theorem dX3_clearElsewhere_71 : decode cX3_clearElsewhere 71 = .ok (.aload 5, 2) := by decide +kernel
theorem dX3_clearElsewhere_73 : decode cX3_clearElsewhere 73 = .ok (.iload 7, 2) := by decide +kernel
theorem dX3_clearElsewhere_75 : decode cX3_clearElsewhere 75 = .ok (.iaload, 1) := by decide +kernel
theorem dX3_clearElsewhere_76 : decode cX3_clearElsewhere 76 = .ok (.iload 6, 2) := by decide +kernel
theorem dX3_clearElsewhere_78 : decode cX3_clearElsewhere 78 = .ok (.aload_n 3, 1) := by decide +kernel
theorem dX3_clearElsewhere_79 : decode cX3_clearElsewhere 79 = .ok (.iload 7, 2) := by decide +kernel
theorem dX3_clearElsewhere_81 : decode cX3_clearElsewhere 81 = .ok (.iaload, 1) := by decide +kernel
theorem dX3_clearElsewhere_82 : decode cX3_clearElsewhere 82 = .ok (.imul, 1) := by decide +kernel
theorem dX3_clearElsewhere_83 : decode cX3_clearElsewhere 83 = .ok (.iadd, 1) := by decide +kernel
theorem dX3_clearElsewhere_84 : decode cX3_clearElsewhere 84 = .ok (.aload_n 0, 1) := by decide +kernel
theorem dX3_clearElsewhere_85 : decode cX3_clearElsewhere 85 = .ok (.getfield 20, 3) := by decide +kernel
theorem dX3_clearElsewhere_88 : decode cX3_clearElsewhere 88 = .ok (.irem, 1) := by decide +kernel
theorem dX3_clearElsewhere_89 : decode cX3_clearElsewhere 89 = .ok (.iastore, 1) := by decide +kernel
theorem dX3_clearElsewhere_90 : decode cX3_clearElsewhere 90 = .ok (.iinc 7 1, 3) := by decide +kernel
theorem dX3_clearElsewhere_93 : decode cX3_clearElsewhere 93 = .ok (.goto (-35), 3) := by decide +kernel
theorem dX3_clearElsewhere_96 : decode cX3_clearElsewhere 96 = .ok (.iinc 4 1, 3) := by decide +kernel
theorem dX3_clearElsewhere_99 : decode cX3_clearElsewhere 99 = .ok (.goto (-89), 3) := by decide +kernel
theorem dX3_clearElsewhere_102 : decode cX3_clearElsewhere 102 = .ok (.return_, 1) := by decide +kernel
theorem dX3_isFree_0 : decode cX3_isFree 0 = .ok (.aload_n 0, 1) := by decide +kernel
theorem dX3_isFree_1 : decode cX3_isFree 1 = .ok (.getfield 16, 3) := by decide +kernel
theorem dX3_isFree_4 : decode cX3_isFree 4 = .ok (.iload_n 1, 1) := by decide +kernel
theorem dX3_isFree_5 : decode cX3_isFree 5 = .ok (.iaload, 1) := by decide +kernel
theorem dX3_isFree_6 : decode cX3_isFree 6 = .ok (.iconst (-1), 1) := by decide +kernel
theorem dX3_isFree_7 : decode cX3_isFree 7 = .ok (.if_icmp .ne 7, 3) := by decide +kernel
theorem dX3_isFree_10 : decode cX3_isFree 10 = .ok (.iconst 1, 1) := by decide +kernel
theorem dX3_isFree_11 : decode cX3_isFree 11 = .ok (.goto 4, 3) := by decide +kernel
theorem dX3_isFree_14 : decode cX3_isFree 14 = .ok (.iconst 0, 1) := by decide +kernel
theorem dX3_isFree_15 : decode cX3_isFree 15 = .ok (.ireturn, 1) := by decide +kernel
theorem dX3_freeCount_0 : decode cX3_freeCount 0 = .ok (.aload_n 0, 1) := by decide +kernel
theorem dX3_freeCount_1 : decode cX3_freeCount 1 = .ok (.getfield 33, 3) := by decide +kernel
theorem dX3_freeCount_4 : decode cX3_freeCount 4 = .ok (.aload_n 0, 1) := by decide +kernel
theorem dX3_freeCount_5 : decode cX3_freeCount 5 = .ok (.getfield 30, 3) := by decide +kernel
theorem dX3_freeCount_8 : decode cX3_freeCount 8 = .ok (.isub, 1) := by decide +kernel
theorem dX3_freeCount_9 : decode cX3_freeCount 9 = .ok (.ireturn, 1) := by decide +kernel
theorem dX3_rest_0 : decode cX3_rest 0 = .ok (.iload_n 1, 1) := by decide +kernel
theorem dX3_rest_1 : decode cX3_rest 1 = .ok (.iload_n 2, 1) := by decide +kernel
theorem dX3_rest_2 : decode cX3_rest 2 = .ok (.if_icmp .ne 5, 3) := by decide +kernel
theorem dX3_rest_5 : decode cX3_rest 5 = .ok (.iconst 1, 1) := by decide +kernel
theorem dX3_rest_6 : decode cX3_rest 6 = .ok (.ireturn, 1) := by decide +kernel
theorem dX3_rest_7 : decode cX3_rest 7 = .ok (.aload_n 0, 1) := by decide +kernel
theorem dX3_rest_8 : decode cX3_rest 8 = .ok (.getfield 16, 3) := by decide +kernel
theorem dX3_rest_11 : decode cX3_rest 11 = .ok (.iload_n 1, 1) := by decide +kernel
theorem dX3_rest_12 : decode cX3_rest 12 = .ok (.iaload, 1) := by decide +kernel
theorem dX3_rest_13 : decode cX3_rest 13 = .ok (.istore_n 3, 1) := by decide +kernel
theorem dX3_rest_14 : decode cX3_rest 14 = .ok (.iload_n 3, 1) := by decide +kernel
theorem dX3_rest_15 : decode cX3_rest 15 = .ok (.iconst (-1), 1) := by decide +kernel
theorem dX3_rest_16 : decode cX3_rest 16 = .ok (.if_icmp .eq 14, 3) := by decide +kernel
theorem dX3_rest_19 : decode cX3_rest 19 = .ok (.aload_n 0, 1) := by decide +kernel
theorem dX3_rest_20 : decode cX3_rest 20 = .ok (.getfield 11, 3) := by decide +kernel
theorem dX3_rest_23 : decode cX3_rest 23 = .ok (.iload_n 3, 1) := by decide +kernel
theorem dX3_rest_24 : decode cX3_rest 24 = .ok (.aaload, 1) := by decide +kernel
theorem dX3_rest_25 : decode cX3_rest 25 = .ok (.iload_n 2, 1) := by decide +kernel
theorem dX3_rest_26 : decode cX3_rest 26 = .ok (.iaload, 1) := by decide +kernel
theorem dX3_rest_27 : decode cX3_rest 27 = .ok (.ifCond .ne 7, 3) := by decide +kernel
theorem dX3_rest_30 : decode cX3_rest 30 = .ok (.iconst 0, 1) := by decide +kernel
theorem dX3_rest_31 : decode cX3_rest 31 = .ok (.goto 16, 3) := by decide +kernel
theorem dX3_rest_34 : decode cX3_rest 34 = .ok (.aload_n 0, 1) := by decide +kernel
theorem dX3_rest_35 : decode cX3_rest 35 = .ok (.getfield 20, 3) := by decide +kernel
theorem dX3_rest_38 : decode cX3_rest 38 = .ok (.aload_n 0, 1) := by decide +kernel
theorem dX3_rest_39 : decode cX3_rest 39 = .ok (.getfield 11, 3) := by decide +kernel
theorem dX3_rest_42 : decode cX3_rest 42 = .ok (.iload_n 3, 1) := by decide +kernel
theorem dX3_rest_43 : decode cX3_rest 43 = .ok (.aaload, 1) := by decide +kernel
theorem dX3_rest_44 : decode cX3_rest 44 = .ok (.iload_n 2, 1) := by decide +kernel
theorem dX3_rest_45 : decode cX3_rest 45 = .ok (.iaload, 1) := by decide +kernel
theorem dX3_rest_46 : decode cX3_rest 46 = .ok (.isub, 1) := by decide +kernel
theorem dX3_rest_47 : decode cX3_rest 47 = .ok (.ireturn, 1) := by decide +kernel
theorem dX4_init_0 : decode cX4_init 0 = .ok (.aload_n 0, 1) := by decide +kernel
theorem dX4_init_1 : decode cX4_init 1 = .ok (.invokespecial 3, 3) := by decide +kernel
theorem dX4_init_4 : decode cX4_init 4 = .ok (.aload_n 0, 1) := by decide +kernel
theorem dX4_init_5 : decode cX4_init 5 = .ok (.bipush 32, 2) := by decide +kernel
theorem dX4_init_7 : decode cX4_init 7 = .ok (.newarray .int, 2) := by decide +kernel
theorem dX4_init_9 : decode cX4_init 9 = .ok (.putfield 9, 3) := by decide +kernel
theorem dX4_init_12 : decode cX4_init 12 = .ok (.aload_n 0, 1) := by decide +kernel
theorem dX4_init_13 : decode cX4_init 13 = .ok (.bipush 32, 2) := by decide +kernel
theorem dX4_init_15 : decode cX4_init 15 = .ok (.newarray .int, 2) := by decide +kernel
theorem dX4_init_17 : decode cX4_init 17 = .ok (.putfield 15, 3) := by decide +kernel
theorem dX4_init_20 : decode cX4_init 20 = .ok (.return_, 1) := by decide +kernel
theorem dX4_clear_0 : decode cX4_clear 0 = .ok (.aload_n 0, 1) := by decide +kernel
theorem dX4_clear_1 : decode cX4_clear 1 = .ok (.iconst 0, 1) := by decide +kernel
theorem dX4_clear_2 : decode cX4_clear 2 = .ok (.putfield 18, 3) := by decide +kernel
theorem dX4_clear_5 : decode cX4_clear 5 = .ok (.return_, 1) := by decide +kernel
theorem dX4_add_0 : decode cX4_add 0 = .ok (.aload_n 0, 1) := by decide +kernel
theorem dX4_add_1 : decode cX4_add 1 = .ok (.getfield 18, 3) := by decide +kernel
theorem dX4_add_4 : decode cX4_add 4 = .ok (.bipush 32, 2) := by decide +kernel
theorem dX4_add_6 : decode cX4_add 6 = .ok (.if_icmp .ge 33, 3) := by decide +kernel
theorem dX4_add_9 : decode cX4_add 9 = .ok (.aload_n 0, 1) := by decide +kernel
theorem dX4_add_10 : decode cX4_add 10 = .ok (.getfield 9, 3) := by decide +kernel
theorem dX4_add_13 : decode cX4_add 13 = .ok (.aload_n 0, 1) := by decide +kernel
theorem dX4_add_14 : decode cX4_add 14 = .ok (.getfield 18, 3) := by decide +kernel
theorem dX4_add_17 : decode cX4_add 17 = .ok (.iload_n 1, 1) := by decide +kernel
theorem dX4_add_18 : decode cX4_add 18 = .ok (.iastore, 1) := by decide +kernel
theorem dX4_add_19 : decode cX4_add 19 = .ok (.aload_n 0, 1) := by decide +kernel
theorem dX4_add_20 : decode cX4_add 20 = .ok (.getfield 15, 3) := by decide +kernel
theorem dX4_add_23 : decode cX4_add 23 = .ok (.aload_n 0, 1) := by decide +kernel
theorem dX4_add_24 : decode cX4_add 24 = .ok (.getfield 18, 3) := by decide +kernel
theorem dX4_add_27 : decode cX4_add 27 = .ok (.iload_n 2, 1) := by decide +kernel
theorem dX4_add_28 : decode cX4_add 28 = .ok (.iastore, 1) := by decide +kernel
theorem dX4_add_29 : decode cX4_add 29 = .ok (.aload_n 0, 1) := by decide +kernel
theorem dX4_add_30 : decode cX4_add 30 = .ok (.dup, 1) := by decide +kernel
theorem dX4_add_31 : decode cX4_add 31 = .ok (.getfield 18, 3) := by decide +kernel
theorem dX4_add_34 : decode cX4_add 34 = .ok (.iconst 1, 1) := by decide +kernel
theorem dX4_add_35 : decode cX4_add 35 = .ok (.iadd, 1) := by decide +kernel
theorem dX4_add_36 : decode cX4_add 36 = .ok (.putfield 18, 3) := by decide +kernel
theorem dX4_add_39 : decode cX4_add 39 = .ok (.return_, 1) := by decide +kernel
theorem dX4_areSame_0 : decode cX4_areSame 0 = .ok (.aload_n 0, 1) := by decide +kernel
theorem dX4_areSame_1 : decode cX4_areSame 1 = .ok (.getfield 18, 3) := by decide +kernel
theorem dX4_areSame_4 : decode cX4_areSame 4 = .ok (.aload_n 1, 1) := by decide +kernel
theorem dX4_areSame_5 : decode cX4_areSame 5 = .ok (.getfield 18, 3) := by decide +kernel
theorem dX4_areSame_8 : decode cX4_areSame 8 = .ok (.if_icmp .eq 5, 3) := by decide +kernel
theorem dX4_areSame_11 : decode cX4_areSame 11 = .ok (.iconst 0, 1) := by decide +kernel
theorem dX4_areSame_12 : decode cX4_areSame 12 = .ok (.ireturn, 1) := by decide +kernel
theorem dX4_areSame_13 : decode cX4_areSame 13 = .ok (.iconst 0, 1) := by decide +kernel
theorem dX4_areSame_14 : decode cX4_areSame 14 = .ok (.istore_n 2, 1) := by decide +kernel
theorem dX4_areSame_15 : decode cX4_areSame 15 = .ok (.iload_n 2, 1) := by decide +kernel
theorem dX4_areSame_16 : decode cX4_areSame 16 = .ok (.aload_n 0, 1) := by decide +kernel
theorem dX4_areSame_17 : decode cX4_areSame 17 = .ok (.getfield 18, 3) := by decide +kernel
theorem dX4_areSame_20 : decode cX4_areSame 20 = .ok (.if_icmp .ge 41, 3) := by decide +kernel
theorem dX4_areSame_23 : decode cX4_areSame 23 = .ok (.aload_n 0, 1) := by decide +kernel
theorem dX4_areSame_24 : decode cX4_areSame 24 = .ok (.getfield 9, 3) := by decide +kernel
theorem dX4_areSame_27 : decode cX4_areSame 27 = .ok (.iload_n 2, 1) := by decide +kernel
theorem dX4_areSame_28 : decode cX4_areSame 28 = .ok (.iaload, 1) := by decide +kernel
theorem dX4_areSame_29 : decode cX4_areSame 29 = .ok (.aload_n 1, 1) := by decide +kernel
theorem dX4_areSame_30 : decode cX4_areSame 30 = .ok (.getfield 9, 3) := by decide +kernel
theorem dX4_areSame_33 : decode cX4_areSame 33 = .ok (.iload_n 2, 1) := by decide +kernel
theorem dX4_areSame_34 : decode cX4_areSame 34 = .ok (.iaload, 1) := by decide +kernel
theorem dX4_areSame_35 : decode cX4_areSame 35 = .ok (.if_icmp .ne 18, 3) := by decide +kernel
theorem dX4_areSame_38 : decode cX4_areSame 38 = .ok (.aload_n 0, 1) := by decide +kernel
theorem dX4_areSame_39 : decode cX4_areSame 39 = .ok (.getfield 15, 3) := by decide +kernel
theorem dX4_areSame_42 : decode cX4_areSame 42 = .ok (.iload_n 2, 1) := by decide +kernel
theorem dX4_areSame_43 : decode cX4_areSame 43 = .ok (.iaload, 1) := by decide +kernel
theorem dX4_areSame_44 : decode cX4_areSame 44 = .ok (.aload_n 1, 1) := by decide +kernel
theorem dX4_areSame_45 : decode cX4_areSame 45 = .ok (.getfield 15, 3) := by decide +kernel
theorem dX4_areSame_48 : decode cX4_areSame 48 = .ok (.iload_n 2, 1) := by decide +kernel
theorem dX4_areSame_49 : decode cX4_areSame 49 = .ok (.iaload, 1) := by decide +kernel
theorem dX4_areSame_50 : decode cX4_areSame 50 = .ok (.if_icmp .eq 5, 3) := by decide +kernel
theorem dX4_areSame_53 : decode cX4_areSame 53 = .ok (.iconst 0, 1) := by decide +kernel
theorem dX4_areSame_54 : decode cX4_areSame 54 = .ok (.ireturn, 1) := by decide +kernel
theorem dX4_areSame_55 : decode cX4_areSame 55 = .ok (.iinc 2 1, 3) := by decide +kernel
theorem dX4_areSame_58 : decode cX4_areSame 58 = .ok (.goto (-43), 3) := by decide +kernel
theorem dX4_areSame_61 : decode cX4_areSame 61 = .ok (.iconst 1, 1) := by decide +kernel
theorem dX4_areSame_62 : decode cX4_areSame 62 = .ok (.ireturn, 1) := by decide +kernel
theorem dX5_init_0 : decode cX5_init 0 = .ok (.aload_n 0, 1) := by decide +kernel
theorem dX5_init_1 : decode cX5_init 1 = .ok (.invokespecial 3, 3) := by decide +kernel
theorem dX5_init_4 : decode cX5_init 4 = .ok (.aload_n 0, 1) := by decide +kernel
theorem dX5_init_5 : decode cX5_init 5 = .ok (.bipush 9, 2) := by decide +kernel
theorem dX5_init_7 : decode cX5_init 7 = .ok (.newarray .int, 2) := by decide +kernel
theorem dX5_init_9 : decode cX5_init 9 = .ok (.putfield 9, 3) := by decide +kernel
theorem dX5_init_12 : decode cX5_init 12 = .ok (.aload_n 0, 1) := by decide +kernel
theorem dX5_init_13 : decode cX5_init 13 = .ok (.bipush 9, 2) := by decide +kernel
theorem dX5_init_15 : decode cX5_init 15 = .ok (.newarray .int, 2) := by decide +kernel
theorem dX5_init_17 : decode cX5_init 17 = .ok (.putfield 15, 3) := by decide +kernel
theorem dX5_init_20 : decode cX5_init 20 = .ok (.aload_n 0, 1) := by decide +kernel
theorem dX5_init_21 : decode cX5_init 21 = .ok (.bipush 9, 2) := by decide +kernel
theorem dX5_init_23 : decode cX5_init 23 = .ok (.newarray .int, 2) := by decide +kernel
theorem dX5_init_25 : decode cX5_init 25 = .ok (.putfield 18, 3) := by decide +kernel
theorem dX5_init_28 : decode cX5_init 28 = .ok (.aload_n 0, 1) := by decide +kernel
theorem dX5_init_29 : decode cX5_init 29 = .ok (.bipush 9, 2) := by decide +kernel
theorem dX5_init_31 : decode cX5_init 31 = .ok (.newarray .int, 2) := by decide +kernel
theorem dX5_init_33 : decode cX5_init 33 = .ok (.putfield 21, 3) := by decide +kernel
theorem dX5_init_36 : decode cX5_init 36 = .ok (.return_, 1) := by decide +kernel
theorem dX5_read_0 : decode cX5_read 0 = .ok (.iload_n 1, 1) := by decide +kernel
theorem dX5_read_1 : decode cX5_read 1 = .ok (.iconst 1, 1) := by decide +kernel
theorem dX5_read_2 : decode cX5_read 2 = .ok (.if_icmp .lt 13, 3) := by decide +kernel
theorem dX5_read_5 : decode cX5_read 5 = .ok (.iload_n 1, 1) := by decide +kernel
theorem dX5_read_6 : decode cX5_read 6 = .ok (.bipush 9, 2) := by decide +kernel
theorem dX5_read_8 : decode cX5_read 8 = .ok (.if_icmp .gt 7, 3) := by decide +kernel
theorem dX5_read_11 : decode cX5_read 11 = .ok (.iload_n 2, 1) := by decide +kernel
theorem dX5_read_12 : decode cX5_read 12 = .ok (.ifCond .ge 5, 3) := by decide +kernel
theorem dX5_read_15 : decode cX5_read 15 = .ok (.iconst 0, 1) := by decide +kernel
theorem dX5_read_16 : decode cX5_read 16 = .ok (.ireturn, 1) := by decide +kernel
theorem dX5_read_17 : decode cX5_read 17 = .ok (.aload_n 0, 1) := by decide +kernel
theorem dX5_read_18 : decode cX5_read 18 = .ok (.iload_n 1, 1) := by decide +kernel
theorem dX5_read_19 : decode cX5_read 19 = .ok (.putfield 24, 3) := by decide +kernel
theorem dX5_read_22 : decode cX5_read 22 = .ok (.iload_n 2, 1) := by decide +kernel
theorem dX5_read_23 : decode cX5_read 23 = .ok (.istore_n 3, 1) := by decide +kernel
theorem dX5_read_24 : decode cX5_read 24 = .ok (.iconst 1, 1) := by decide +kernel
theorem dX5_read_25 : decode cX5_read 25 = .ok (.istore 4, 2) := by decide +kernel
theorem dX5_read_27 : decode cX5_read 27 = .ok (.iload 4, 2) := by decide +kernel
theorem dX5_read_29 : decode cX5_read 29 = .ok (.iload_n 1, 1) := by decide +kernel
theorem dX5_read_30 : decode cX5_read 30 = .ok (.if_icmp .ge 39, 3) := by decide +kernel
theorem dX5_read_33 : decode cX5_read 33 = .ok (.aload_n 0, 1) := by decide +kernel
theorem dX5_read_34 : decode cX5_read 34 = .ok (.getfield 9, 3) := by decide +kernel
theorem dX5_read_37 : decode cX5_read 37 = .ok (.iload 4, 2) := by decide +kernel
theorem dX5_read_39 : decode cX5_read 39 = .ok (.iload_n 3, 1) := by decide +kernel
theorem dX5_read_40 : decode cX5_read 40 = .ok (.bipush 10, 2) := by decide +kernel
theorem dX5_read_42 : decode cX5_read 42 = .ok (.irem, 1) := by decide +kernel
theorem dX5_read_43 : decode cX5_read 43 = .ok (.iastore, 1) := by decide +kernel
theorem dX5_read_44 : decode cX5_read 44 = .ok (.aload_n 0, 1) := by decide +kernel
theorem dX5_read_45 : decode cX5_read 45 = .ok (.getfield 9, 3) := by decide +kernel
theorem dX5_read_48 : decode cX5_read 48 = .ok (.iload 4, 2) := by decide +kernel
theorem dX5_read_50 : decode cX5_read 50 = .ok (.iaload, 1) := by decide +kernel
theorem dX5_read_51 : decode cX5_read 51 = .ok (.iload 4, 2) := by decide +kernel
theorem dX5_read_53 : decode cX5_read 53 = .ok (.if_icmp .lt 5, 3) := by decide +kernel
theorem dX5_read_56 : decode cX5_read 56 = .ok (.iconst 0, 1) := by decide +kernel
theorem dX5_read_57 : decode cX5_read 57 = .ok (.ireturn, 1) := by decide +kernel
theorem dX5_read_58 : decode cX5_read 58 = .ok (.iload_n 3, 1) := by decide +kernel
theorem dX5_read_59 : decode cX5_read 59 = .ok (.bipush 10, 2) := by decide +kernel
theorem dX5_read_61 : decode cX5_read 61 = .ok (.idiv, 1) := by decide +kernel
theorem dX5_read_62 : decode cX5_read 62 = .ok (.istore_n 3, 1) := by decide +kernel
theorem dX5_read_63 : decode cX5_read 63 = .ok (.iinc 4 1, 3) := by decide +kernel
theorem dX5_read_66 : decode cX5_read 66 = .ok (.goto (-39), 3) := by decide +kernel
theorem dX5_read_69 : decode cX5_read 69 = .ok (.iload_n 3, 1) := by decide +kernel
theorem dX5_read_70 : decode cX5_read 70 = .ok (.ifCond .ne 7, 3) := by decide +kernel
theorem dX5_read_73 : decode cX5_read 73 = .ok (.iconst 1, 1) := by decide +kernel
theorem dX5_read_74 : decode cX5_read 74 = .ok (.goto 4, 3) := by decide +kernel
theorem dX5_read_77 : decode cX5_read 77 = .ok (.iconst 0, 1) := by decide +kernel
theorem dX5_read_78 : decode cX5_read 78 = .ok (.ireturn, 1) := by decide +kernel
theorem dX5_kindOf_0 : decode cX5_kindOf 0 = .ok (.aload_n 0, 1) := by decide +kernel
theorem dX5_kindOf_1 : decode cX5_kindOf 1 = .ok (.getfield 18, 3) := by decide +kernel
theorem dX5_kindOf_4 : decode cX5_kindOf 4 = .ok (.iconst 2, 1) := by decide +kernel
theorem dX5_kindOf_5 : decode cX5_kindOf 5 = .ok (.invokestatic 28, 3) := by decide +kernel
theorem dX5_kindOf_8 : decode cX5_kindOf 8 = .ok (.aload_n 0, 1) := by decide +kernel
theorem dX5_kindOf_9 : decode cX5_kindOf 9 = .ok (.getfield 21, 3) := by decide +kernel
theorem dX5_kindOf_12 : decode cX5_kindOf 12 = .ok (.iconst 1, 1) := by decide +kernel
theorem dX5_kindOf_13 : decode cX5_kindOf 13 = .ok (.invokestatic 28, 3) := by decide +kernel
theorem dX5_kindOf_16 : decode cX5_kindOf 16 = .ok (.aload_n 0, 1) := by decide +kernel
theorem dX5_kindOf_17 : decode cX5_kindOf 17 = .ok (.getfield 24, 3) := by decide +kernel
theorem dX5_kindOf_20 : decode cX5_kindOf 20 = .ok (.iconst 1, 1) := by decide +kernel
theorem dX5_kindOf_21 : decode cX5_kindOf 21 = .ok (.isub, 1) := by decide +kernel
theorem dX5_kindOf_22 : decode cX5_kindOf 22 = .ok (.istore_n 1, 1) := by decide +kernel
theorem dX5_kindOf_23 : decode cX5_kindOf 23 = .ok (.iload_n 1, 1) := by decide +kernel
theorem dX5_kindOf_24 : decode cX5_kindOf 24 = .ok (.ifCond .le 75, 3) := by decide +kernel
theorem dX5_kindOf_27 : decode cX5_kindOf 27 = .ok (.aload_n 0, 1) := by decide +kernel
theorem dX5_kindOf_28 : decode cX5_kindOf 28 = .ok (.getfield 18, 3) := by decide +kernel
theorem dX5_kindOf_31 : decode cX5_kindOf 31 = .ok (.iload_n 1, 1) := by decide +kernel
theorem dX5_kindOf_32 : decode cX5_kindOf 32 = .ok (.iaload, 1) := by decide +kernel
theorem dX5_kindOf_33 : decode cX5_kindOf 33 = .ok (.ifCond .gt 5, 3) := by decide +kernel
theorem dX5_kindOf_36 : decode cX5_kindOf 36 = .ok (.iconst 3, 1) := by decide +kernel
theorem dX5_kindOf_37 : decode cX5_kindOf 37 = .ok (.ireturn, 1) := by decide +kernel
theorem dX5_kindOf_38 : decode cX5_kindOf 38 = .ok (.aload_n 0, 1) := by decide +kernel
theorem dX5_kindOf_39 : decode cX5_kindOf 39 = .ok (.getfield 9, 3) := by decide +kernel
theorem dX5_kindOf_42 : decode cX5_kindOf 42 = .ok (.iload_n 1, 1) := by decide +kernel
theorem dX5_kindOf_43 : decode cX5_kindOf 43 = .ok (.iaload, 1) := by decide +kernel
theorem dX5_kindOf_44 : decode cX5_kindOf 44 = .ok (.istore_n 2, 1) := by decide +kernel
theorem dX5_kindOf_45 : decode cX5_kindOf 45 = .ok (.aload_n 0, 1) := by decide +kernel
theorem dX5_kindOf_46 : decode cX5_kindOf 46 = .ok (.getfield 18, 3) := by decide +kernel
theorem dX5_kindOf_49 : decode cX5_kindOf 49 = .ok (.iload_n 2, 1) := by decide +kernel
theorem dX5_kindOf_50 : decode cX5_kindOf 50 = .ok (.aload_n 0, 1) := by decide +kernel
theorem dX5_kindOf_51 : decode cX5_kindOf 51 = .ok (.getfield 18, 3) := by decide +kernel
theorem dX5_kindOf_54 : decode cX5_kindOf 54 = .ok (.iload_n 2, 1) := by decide +kernel
theorem dX5_kindOf_55 : decode cX5_kindOf 55 = .ok (.iaload, 1) := by decide +kernel
theorem dX5_kindOf_56 : decode cX5_kindOf 56 = .ok (.aload_n 0, 1) := by decide +kernel
theorem dX5_kindOf_57 : decode cX5_kindOf 57 = .ok (.getfield 18, 3) := by decide +kernel
theorem dX5_kindOf_60 : decode cX5_kindOf 60 = .ok (.iload_n 1, 1) := by decide +kernel
theorem dX5_kindOf_61 : decode cX5_kindOf 61 = .ok (.iaload, 1) := by decide +kernel
theorem dX5_kindOf_62 : decode cX5_kindOf 62 = .ok (.imul, 1) := by decide +kernel
theorem dX5_kindOf_63 : decode cX5_kindOf 63 = .ok (.aload_n 0, 1) := by decide +kernel
theorem dX5_kindOf_64 : decode cX5_kindOf 64 = .ok (.getfield 21, 3) := by decide +kernel
theorem dX5_kindOf_67 : decode cX5_kindOf 67 = .ok (.iload_n 2, 1) := by decide +kernel
theorem dX5_kindOf_68 : decode cX5_kindOf 68 = .ok (.iaload, 1) := by decide +kernel
theorem dX5_kindOf_69 : decode cX5_kindOf 69 = .ok (.aload_n 0, 1) := by decide +kernel
theorem dX5_kindOf_70 : decode cX5_kindOf 70 = .ok (.getfield 21, 3) := by decide +kernel
theorem dX5_kindOf_73 : decode cX5_kindOf 73 = .ok (.iload_n 1, 1) := by decide +kernel
theorem dX5_kindOf_74 : decode cX5_kindOf 74 = .ok (.iaload, 1) := by decide +kernel
theorem dX5_kindOf_75 : decode cX5_kindOf 75 = .ok (.imul, 1) := by decide +kernel
theorem dX5_kindOf_76 : decode cX5_kindOf 76 = .ok (.isub, 1) := by decide +kernel
theorem dX5_kindOf_77 : decode cX5_kindOf 77 = .ok (.iastore, 1) := by decide +kernel
theorem dX5_kindOf_78 : decode cX5_kindOf 78 = .ok (.aload_n 0, 1) := by decide +kernel
theorem dX5_kindOf_79 : decode cX5_kindOf 79 = .ok (.getfield 21, 3) := by decide +kernel
theorem dX5_kindOf_82 : decode cX5_kindOf 82 = .ok (.iload_n 2, 1) := by decide +kernel
theorem dX5_kindOf_83 : decode cX5_kindOf 83 = .ok (.dup2, 1) := by decide +kernel
theorem dX5_kindOf_84 : decode cX5_kindOf 84 = .ok (.iaload, 1) := by decide +kernel
theorem dX5_kindOf_85 : decode cX5_kindOf 85 = .ok (.aload_n 0, 1) := by decide +kernel
theorem dX5_kindOf_86 : decode cX5_kindOf 86 = .ok (.getfield 18, 3) := by decide +kernel
theorem dX5_kindOf_89 : decode cX5_kindOf 89 = .ok (.iload_n 1, 1) := by decide +kernel
theorem dX5_kindOf_90 : decode cX5_kindOf 90 = .ok (.iaload, 1) := by decide +kernel
theorem dX5_kindOf_91 : decode cX5_kindOf 91 = .ok (.imul, 1) := by decide +kernel
theorem dX5_kindOf_92 : decode cX5_kindOf 92 = .ok (.iastore, 1) := by decide +kernel
theorem dX5_kindOf_93 : decode cX5_kindOf 93 = .ok (.iinc 1 (-1), 3) := by decide +kernel
theorem dX5_kindOf_96 : decode cX5_kindOf 96 = .ok (.goto (-73), 3) := by decide +kernel
theorem dX5_kindOf_99 : decode cX5_kindOf 99 = .ok (.aload_n 0, 1) := by decide +kernel
theorem dX5_kindOf_100 : decode cX5_kindOf 100 = .ok (.getfield 18, 3) := by decide +kernel
theorem dX5_kindOf_103 : decode cX5_kindOf 103 = .ok (.iconst 0, 1) := by decide +kernel
theorem dX5_kindOf_104 : decode cX5_kindOf 104 = .ok (.iaload, 1) := by decide +kernel
theorem dX5_kindOf_105 : decode cX5_kindOf 105 = .ok (.ifCond .le 5, 3) := by decide +kernel
theorem dX5_kindOf_108 : decode cX5_kindOf 108 = .ok (.iconst 1, 1) := by decide +kernel
theorem dX5_kindOf_109 : decode cX5_kindOf 109 = .ok (.ireturn, 1) := by decide +kernel
theorem dX5_kindOf_110 : decode cX5_kindOf 110 = .ok (.aload_n 0, 1) := by decide +kernel
theorem dX5_kindOf_111 : decode cX5_kindOf 111 = .ok (.getfield 18, 3) := by decide +kernel
theorem dX5_kindOf_114 : decode cX5_kindOf 114 = .ok (.iconst 0, 1) := by decide +kernel
theorem dX5_kindOf_115 : decode cX5_kindOf 115 = .ok (.iaload, 1) := by decide +kernel
theorem dX5_kindOf_116 : decode cX5_kindOf 116 = .ok (.ifCond .ne 7, 3) := by decide +kernel
theorem dX5_kindOf_119 : decode cX5_kindOf 119 = .ok (.iconst 2, 1) := by decide +kernel
theorem dX5_kindOf_120 : decode cX5_kindOf 120 = .ok (.goto 4, 3) := by decide +kernel
theorem dX5_kindOf_123 : decode cX5_kindOf 123 = .ok (.iconst 3, 1) := by decide +kernel
theorem dX5_kindOf_124 : decode cX5_kindOf 124 = .ok (.ireturn, 1) := by decide +kernel
theorem dX5_rootCount_0 : decode cX5_rootCount 0 = .ok (.aload_n 0, 1) := by decide +kernel
theorem dX5_rootCount_1 : decode cX5_rootCount 1 = .ok (.invokevirtual 34, 3) := by decide +kernel
theorem dX5_rootCount_4 : decode cX5_rootCount 4 = .ok (.aload_n 0, 1) := by decide +kernel
theorem dX5_rootCount_5 : decode cX5_rootCount 5 = .ok (.invokevirtual 37, 3) := by decide +kernel
theorem dX5_rootCount_8 : decode cX5_rootCount 8 = .ok (.istore_n 1, 1) := by decide +kernel
theorem dX5_rootCount_9 : decode cX5_rootCount 9 = .ok (.iload_n 1, 1) := by decide +kernel
theorem dX5_rootCount_10 : decode cX5_rootCount 10 = .ok (.iconst (-1), 1) := by decide +kernel
theorem dX5_rootCount_11 : decode cX5_rootCount 11 = .ok (.if_icmp .ne 17, 3) := by decide +kernel
theorem dX5_rootCount_14 : decode cX5_rootCount 14 = .ok (.aload_n 0, 1) := by decide +kernel
theorem dX5_rootCount_15 : decode cX5_rootCount 15 = .ok (.getfield 24, 3) := by decide +kernel
theorem dX5_rootCount_18 : decode cX5_rootCount 18 = .ok (.aload_n 0, 1) := by decide +kernel
theorem dX5_rootCount_19 : decode cX5_rootCount 19 = .ok (.getfield 24, 3) := by decide +kernel
theorem dX5_rootCount_22 : decode cX5_rootCount 22 = .ok (.iconst 1, 1) := by decide +kernel
theorem dX5_rootCount_23 : decode cX5_rootCount 23 = .ok (.iadd, 1) := by decide +kernel
theorem dX5_rootCount_24 : decode cX5_rootCount 24 = .ok (.imul, 1) := by decide +kernel
theorem dX5_rootCount_25 : decode cX5_rootCount 25 = .ok (.iconst 2, 1) := by decide +kernel
theorem dX5_rootCount_26 : decode cX5_rootCount 26 = .ok (.idiv, 1) := by decide +kernel
theorem dX5_rootCount_27 : decode cX5_rootCount 27 = .ok (.ireturn, 1) := by decide +kernel
theorem dX5_rootCount_28 : decode cX5_rootCount 28 = .ok (.aload_n 0, 1) := by decide +kernel
theorem dX5_rootCount_29 : decode cX5_rootCount 29 = .ok (.iload_n 1, 1) := by decide +kernel
theorem dX5_rootCount_30 : decode cX5_rootCount 30 = .ok (.invokevirtual 41, 3) := by decide +kernel
theorem dX5_rootCount_33 : decode cX5_rootCount 33 = .ok (.iconst 2, 1) := by decide +kernel
theorem dX5_rootCount_34 : decode cX5_rootCount 34 = .ok (.if_icmp .lt 15, 3) := by decide +kernel
theorem dX5_rootCount_37 : decode cX5_rootCount 37 = .ok (.aload_n 0, 1) := by decide +kernel
theorem dX5_rootCount_38 : decode cX5_rootCount 38 = .ok (.getfield 24, 3) := by decide +kernel
theorem dX5_rootCount_41 : decode cX5_rootCount 41 = .ok (.aload_n 0, 1) := by decide +kernel
theorem dX5_rootCount_42 : decode cX5_rootCount 42 = .ok (.getfield 24, 3) := by decide +kernel
theorem dX5_rootCount_45 : decode cX5_rootCount 45 = .ok (.iconst 1, 1) := by decide +kernel
theorem dX5_rootCount_46 : decode cX5_rootCount 46 = .ok (.isub, 1) := by decide +kernel
theorem dX5_rootCount_47 : decode cX5_rootCount 47 = .ok (.imul, 1) := by decide +kernel
theorem dX5_rootCount_48 : decode cX5_rootCount 48 = .ok (.ireturn, 1) := by decide +kernel
theorem dX5_rootCount_49 : decode cX5_rootCount 49 = .ok (.aload_n 0, 1) := by decide +kernel
theorem dX5_rootCount_50 : decode cX5_rootCount 50 = .ok (.getfield 24, 3) := by decide +kernel
theorem dX5_rootCount_53 : decode cX5_rootCount 53 = .ok (.lookupswitch 33 #[(6, 27), (7, 30)], 27) := by decide +kernel
theorem dX5_rootCount_80 : decode cX5_rootCount 80 = .ok (.bipush 36, 2) := by decide +kernel
theorem dX5_rootCount_82 : decode cX5_rootCount 82 = .ok (.ireturn, 1) := by decide +kernel
theorem dX5_rootCount_83 : decode cX5_rootCount 83 = .ok (.bipush 63, 2) := by decide +kernel
theorem dX5_rootCount_85 : decode cX5_rootCount 85 = .ok (.ireturn, 1) := by decide +kernel
theorem dX5_rootCount_86 : decode cX5_rootCount 86 = .ok (.bipush 120, 2) := by decide +kernel
theorem dX5_rootCount_88 : decode cX5_rootCount 88 = .ok (.ireturn, 1) := by decide +kernel
theorem dX5_countLines_0 : decode cX5_countLines 0 = .ok (.aload_n 0, 1) := by decide +kernel
theorem dX5_countLines_1 : decode cX5_countLines 1 = .ok (.getfield 15, 3) := by decide +kernel
theorem dX5_countLines_4 : decode cX5_countLines 4 = .ok (.iconst 0, 1) := by decide +kernel
theorem dX5_countLines_5 : decode cX5_countLines 5 = .ok (.invokestatic 28, 3) := by decide +kernel
theorem dX5_countLines_8 : decode cX5_countLines 8 = .ok (.iconst 1, 1) := by decide +kernel
theorem dX5_countLines_9 : decode cX5_countLines 9 = .ok (.istore_n 1, 1) := by decide +kernel
theorem dX5_countLines_10 : decode cX5_countLines 10 = .ok (.iload_n 1, 1) := by decide +kernel
theorem dX5_countLines_11 : decode cX5_countLines 11 = .ok (.aload_n 0, 1) := by decide +kernel
theorem dX5_countLines_12 : decode cX5_countLines 12 = .ok (.getfield 24, 3) := by decide +kernel
theorem dX5_countLines_15 : decode cX5_countLines 15 = .ok (.if_icmp .ge 34, 3) := by decide +kernel
theorem dX5_countLines_18 : decode cX5_countLines 18 = .ok (.aload_n 0, 1) := by decide +kernel
theorem dX5_countLines_19 : decode cX5_countLines 19 = .ok (.getfield 15, 3) := by decide +kernel
theorem dX5_countLines_22 : decode cX5_countLines 22 = .ok (.iload_n 1, 1) := by decide +kernel
theorem dX5_countLines_23 : decode cX5_countLines 23 = .ok (.dup2, 1) := by decide +kernel
theorem dX5_countLines_24 : decode cX5_countLines 24 = .ok (.iaload, 1) := by decide +kernel
theorem dX5_countLines_25 : decode cX5_countLines 25 = .ok (.iconst 1, 1) := by decide +kernel
theorem dX5_countLines_26 : decode cX5_countLines 26 = .ok (.iadd, 1) := by decide +kernel
theorem dX5_countLines_27 : decode cX5_countLines 27 = .ok (.iastore, 1) := by decide +kernel
theorem dX5_countLines_28 : decode cX5_countLines 28 = .ok (.aload_n 0, 1) := by decide +kernel
theorem dX5_countLines_29 : decode cX5_countLines 29 = .ok (.getfield 15, 3) := by decide +kernel
theorem dX5_countLines_32 : decode cX5_countLines 32 = .ok (.aload_n 0, 1) := by decide +kernel
theorem dX5_countLines_33 : decode cX5_countLines 33 = .ok (.getfield 9, 3) := by decide +kernel
theorem dX5_countLines_36 : decode cX5_countLines 36 = .ok (.iload_n 1, 1) := by decide +kernel
theorem dX5_countLines_37 : decode cX5_countLines 37 = .ok (.iaload, 1) := by decide +kernel
theorem dX5_countLines_38 : decode cX5_countLines 38 = .ok (.dup2, 1) := by decide +kernel
theorem dX5_countLines_39 : decode cX5_countLines 39 = .ok (.iaload, 1) := by decide +kernel
theorem dX5_countLines_40 : decode cX5_countLines 40 = .ok (.iconst 1, 1) := by decide +kernel
theorem dX5_countLines_41 : decode cX5_countLines 41 = .ok (.iadd, 1) := by decide +kernel
theorem dX5_countLines_42 : decode cX5_countLines 42 = .ok (.iastore, 1) := by decide +kernel
theorem dX5_countLines_43 : decode cX5_countLines 43 = .ok (.iinc 1 1, 3) := by decide +kernel
theorem dX5_countLines_46 : decode cX5_countLines 46 = .ok (.goto (-36), 3) := by decide +kernel
theorem dX5_countLines_49 : decode cX5_countLines 49 = .ok (.return_, 1) := by decide +kernel
theorem dX5_branchPost_0 : decode cX5_branchPost 0 = .ok (.iconst 0, 1) := by decide +kernel
theorem dX5_branchPost_1 : decode cX5_branchPost 1 = .ok (.istore_n 1, 1) := by decide +kernel
theorem dX5_branchPost_2 : decode cX5_branchPost 2 = .ok (.iload_n 1, 1) := by decide +kernel
theorem dX5_branchPost_3 : decode cX5_branchPost 3 = .ok (.aload_n 0, 1) := by decide +kernel
theorem dX5_branchPost_4 : decode cX5_branchPost 4 = .ok (.getfield 24, 3) := by decide +kernel
theorem dX5_branchPost_7 : decode cX5_branchPost 7 = .ok (.if_icmp .ge 21, 3) := by decide +kernel
theorem dX5_branchPost_10 : decode cX5_branchPost 10 = .ok (.aload_n 0, 1) := by decide +kernel
theorem dX5_branchPost_11 : decode cX5_branchPost 11 = .ok (.getfield 15, 3) := by decide +kernel
theorem dX5_branchPost_14 : decode cX5_branchPost 14 = .ok (.iload_n 1, 1) := by decide +kernel
theorem dX5_branchPost_15 : decode cX5_branchPost 15 = .ok (.iaload, 1) := by decide +kernel
theorem dX5_branchPost_16 : decode cX5_branchPost 16 = .ok (.iconst 2, 1) := by decide +kernel
theorem dX5_branchPost_17 : decode cX5_branchPost 17 = .ok (.if_icmp .le 5, 3) := by decide +kernel
theorem dX5_branchPost_20 : decode cX5_branchPost 20 = .ok (.iload_n 1, 1) := by decide +kernel
theorem dX5_branchPost_21 : decode cX5_branchPost 21 = .ok (.ireturn, 1) := by decide +kernel
theorem dX5_branchPost_22 : decode cX5_branchPost 22 = .ok (.iinc 1 1, 3) := by decide +kernel
theorem dX5_branchPost_25 : decode cX5_branchPost 25 = .ok (.goto (-23), 3) := by decide +kernel
theorem dX5_branchPost_28 : decode cX5_branchPost 28 = .ok (.iconst (-1), 1) := by decide +kernel
theorem dX5_branchPost_29 : decode cX5_branchPost 29 = .ok (.ireturn, 1) := by decide +kernel
theorem dX5_endsBeside_0 : decode cX5_endsBeside 0 = .ok (.iconst 0, 1) := by decide +kernel
theorem dX5_endsBeside_1 : decode cX5_endsBeside 1 = .ok (.istore_n 2, 1) := by decide +kernel
theorem dX5_endsBeside_2 : decode cX5_endsBeside 2 = .ok (.iconst 1, 1) := by decide +kernel
theorem dX5_endsBeside_3 : decode cX5_endsBeside 3 = .ok (.istore_n 3, 1) := by decide +kernel
theorem dX5_endsBeside_4 : decode cX5_endsBeside 4 = .ok (.iload_n 3, 1) := by decide +kernel
theorem dX5_endsBeside_5 : decode cX5_endsBeside 5 = .ok (.aload_n 0, 1) := by decide +kernel
theorem dX5_endsBeside_6 : decode cX5_endsBeside 6 = .ok (.getfield 24, 3) := by decide +kernel
theorem dX5_endsBeside_9 : decode cX5_endsBeside 9 = .ok (.if_icmp .ge 76, 3) := by decide +kernel
theorem dX5_endsBeside_12 : decode cX5_endsBeside 12 = .ok (.aload_n 0, 1) := by decide +kernel
theorem dX5_endsBeside_13 : decode cX5_endsBeside 13 = .ok (.getfield 9, 3) := by decide +kernel
theorem dX5_endsBeside_16 : decode cX5_endsBeside 16 = .ok (.iload_n 3, 1) := by decide +kernel
theorem dX5_endsBeside_17 : decode cX5_endsBeside 17 = .ok (.iaload, 1) := by decide +kernel
theorem dX5_endsBeside_18 : decode cX5_endsBeside 18 = .ok (.iload_n 1, 1) := by decide +kernel
theorem dX5_endsBeside_19 : decode cX5_endsBeside 19 = .ok (.if_icmp .ne 17, 3) := by decide +kernel
theorem dX5_endsBeside_22 : decode cX5_endsBeside 22 = .ok (.aload_n 0, 1) := by decide +kernel
theorem dX5_endsBeside_23 : decode cX5_endsBeside 23 = .ok (.getfield 15, 3) := by decide +kernel
theorem dX5_endsBeside_26 : decode cX5_endsBeside 26 = .ok (.iload_n 3, 1) := by decide +kernel
theorem dX5_endsBeside_27 : decode cX5_endsBeside 27 = .ok (.iaload, 1) := by decide +kernel
theorem dX5_endsBeside_28 : decode cX5_endsBeside 28 = .ok (.iconst 1, 1) := by decide +kernel
theorem dX5_endsBeside_29 : decode cX5_endsBeside 29 = .ok (.if_icmp .ne 7, 3) := by decide +kernel
theorem dX5_endsBeside_32 : decode cX5_endsBeside 32 = .ok (.iconst 1, 1) := by decide +kernel
theorem dX5_endsBeside_33 : decode cX5_endsBeside 33 = .ok (.goto 4, 3) := by decide +kernel
theorem dX5_endsBeside_36 : decode cX5_endsBeside 36 = .ok (.iconst 0, 1) := by decide +kernel
theorem dX5_endsBeside_37 : decode cX5_endsBeside 37 = .ok (.istore 4, 2) := by decide +kernel
theorem dX5_endsBeside_39 : decode cX5_endsBeside 39 = .ok (.iload_n 3, 1) := by decide +kernel
theorem dX5_endsBeside_40 : decode cX5_endsBeside 40 = .ok (.iload_n 1, 1) := by decide +kernel
theorem dX5_endsBeside_41 : decode cX5_endsBeside 41 = .ok (.if_icmp .ne 22, 3) := by decide +kernel
theorem dX5_endsBeside_44 : decode cX5_endsBeside 44 = .ok (.aload_n 0, 1) := by decide +kernel
theorem dX5_endsBeside_45 : decode cX5_endsBeside 45 = .ok (.getfield 15, 3) := by decide +kernel
theorem dX5_endsBeside_48 : decode cX5_endsBeside 48 = .ok (.aload_n 0, 1) := by decide +kernel
theorem dX5_endsBeside_49 : decode cX5_endsBeside 49 = .ok (.getfield 9, 3) := by decide +kernel
theorem dX5_endsBeside_52 : decode cX5_endsBeside 52 = .ok (.iload_n 3, 1) := by decide +kernel
theorem dX5_endsBeside_53 : decode cX5_endsBeside 53 = .ok (.iaload, 1) := by decide +kernel
theorem dX5_endsBeside_54 : decode cX5_endsBeside 54 = .ok (.iaload, 1) := by decide +kernel
theorem dX5_endsBeside_55 : decode cX5_endsBeside 55 = .ok (.iconst 1, 1) := by decide +kernel
theorem dX5_endsBeside_56 : decode cX5_endsBeside 56 = .ok (.if_icmp .ne 7, 3) := by decide +kernel
theorem dX5_endsBeside_59 : decode cX5_endsBeside 59 = .ok (.iconst 1, 1) := by decide +kernel
theorem dX5_endsBeside_60 : decode cX5_endsBeside 60 = .ok (.goto 4, 3) := by decide +kernel
theorem dX5_endsBeside_63 : decode cX5_endsBeside 63 = .ok (.iconst 0, 1) := by decide +kernel
theorem dX5_endsBeside_64 : decode cX5_endsBeside 64 = .ok (.istore 5, 2) := by decide +kernel
theorem dX5_endsBeside_66 : decode cX5_endsBeside 66 = .ok (.iload 4, 2) := by decide +kernel
theorem dX5_endsBeside_68 : decode cX5_endsBeside 68 = .ok (.ifCond .ne 8, 3) := by decide +kernel
theorem dX5_endsBeside_71 : decode cX5_endsBeside 71 = .ok (.iload 5, 2) := by decide +kernel
theorem dX5_endsBeside_73 : decode cX5_endsBeside 73 = .ok (.ifCond .eq 6, 3) := by decide +kernel
theorem dX5_endsBeside_76 : decode cX5_endsBeside 76 = .ok (.iinc 2 1, 3) := by decide +kernel
theorem dX5_endsBeside_79 : decode cX5_endsBeside 79 = .ok (.iinc 3 1, 3) := by decide +kernel
theorem dX5_endsBeside_82 : decode cX5_endsBeside 82 = .ok (.goto (-78), 3) := by decide +kernel
theorem dX5_endsBeside_85 : decode cX5_endsBeside 85 = .ok (.iload_n 2, 1) := by decide +kernel
theorem dX5_endsBeside_86 : decode cX5_endsBeside 86 = .ok (.ireturn, 1) := by decide +kernel
theorem dJ9_floorMod_7cf53_0 : decode cJ9_floorMod_7cf53 0 = .ok (.iload_n 0, 1) := by decide +kernel
theorem dJ9_floorMod_7cf53_1 : decode cJ9_floorMod_7cf53 1 = .ok (.iload_n 1, 1) := by decide +kernel
theorem dJ9_floorMod_7cf53_2 : decode cJ9_floorMod_7cf53 2 = .ok (.irem, 1) := by decide +kernel
theorem dJ9_floorMod_7cf53_3 : decode cJ9_floorMod_7cf53 3 = .ok (.istore_n 2, 1) := by decide +kernel
theorem dJ9_floorMod_7cf53_4 : decode cJ9_floorMod_7cf53 4 = .ok (.iload_n 0, 1) := by decide +kernel
theorem dJ9_floorMod_7cf53_5 : decode cJ9_floorMod_7cf53 5 = .ok (.iload_n 1, 1) := by decide +kernel
theorem dJ9_floorMod_7cf53_6 : decode cJ9_floorMod_7cf53 6 = .ok (.ixor, 1) := by decide +kernel
theorem dJ9_floorMod_7cf53_7 : decode cJ9_floorMod_7cf53 7 = .ok (.ifCond .ge 11, 3) := by decide +kernel
theorem dJ9_floorMod_7cf53_10 : decode cJ9_floorMod_7cf53 10 = .ok (.iload_n 2, 1) := by decide +kernel
theorem dJ9_floorMod_7cf53_11 : decode cJ9_floorMod_7cf53 11 = .ok (.ifCond .eq 7, 3) := by decide +kernel
theorem dJ9_floorMod_7cf53_14 : decode cJ9_floorMod_7cf53 14 = .ok (.iload_n 2, 1) := by decide +kernel
theorem dJ9_floorMod_7cf53_15 : decode cJ9_floorMod_7cf53 15 = .ok (.iload_n 1, 1) := by decide +kernel
theorem dJ9_floorMod_7cf53_16 : decode cJ9_floorMod_7cf53 16 = .ok (.iadd, 1) := by decide +kernel
theorem dJ9_floorMod_7cf53_17 : decode cJ9_floorMod_7cf53 17 = .ok (.ireturn, 1) := by decide +kernel
theorem dJ9_floorMod_7cf53_18 : decode cJ9_floorMod_7cf53 18 = .ok (.iload_n 2, 1) := by decide +kernel
theorem dJ9_floorMod_7cf53_19 : decode cJ9_floorMod_7cf53 19 = .ok (.ireturn, 1) := by decide +kernel
theorem dJ9_abs_0f7a4_0 : decode cJ9_abs_0f7a4 0 = .ok (.iload_n 0, 1) := by decide +kernel
theorem dJ9_abs_0f7a4_1 : decode cJ9_abs_0f7a4 1 = .ok (.ifCond .ge 8, 3) := by decide +kernel
theorem dJ9_abs_0f7a4_4 : decode cJ9_abs_0f7a4 4 = .ok (.iload_n 0, 1) := by decide +kernel
theorem dJ9_abs_0f7a4_5 : decode cJ9_abs_0f7a4 5 = .ok (.ineg, 1) := by decide +kernel
theorem dJ9_abs_0f7a4_6 : decode cJ9_abs_0f7a4 6 = .ok (.goto 4, 3) := by decide +kernel
theorem dJ9_abs_0f7a4_9 : decode cJ9_abs_0f7a4 9 = .ok (.iload_n 0, 1) := by decide +kernel
theorem dJ9_abs_0f7a4_10 : decode cJ9_abs_0f7a4 10 = .ok (.ireturn, 1) := by decide +kernel
theorem dJ9_max_7cf53_0 : decode cJ9_max_7cf53 0 = .ok (.iload_n 0, 1) := by decide +kernel
theorem dJ9_max_7cf53_1 : decode cJ9_max_7cf53 1 = .ok (.iload_n 1, 1) := by decide +kernel
theorem dJ9_max_7cf53_2 : decode cJ9_max_7cf53 2 = .ok (.if_icmp .lt 7, 3) := by decide +kernel
theorem dJ9_max_7cf53_5 : decode cJ9_max_7cf53 5 = .ok (.iload_n 0, 1) := by decide +kernel
theorem dJ9_max_7cf53_6 : decode cJ9_max_7cf53 6 = .ok (.goto 4, 3) := by decide +kernel
theorem dJ9_max_7cf53_9 : decode cJ9_max_7cf53 9 = .ok (.iload_n 1, 1) := by decide +kernel
theorem dJ9_max_7cf53_10 : decode cJ9_max_7cf53 10 = .ok (.ireturn, 1) := by decide +kernel
theorem dJ9_min_7cf53_0 : decode cJ9_min_7cf53 0 = .ok (.iload_n 0, 1) := by decide +kernel
theorem dJ9_min_7cf53_1 : decode cJ9_min_7cf53 1 = .ok (.iload_n 1, 1) := by decide +kernel
theorem dJ9_min_7cf53_2 : decode cJ9_min_7cf53 2 = .ok (.if_icmp .gt 7, 3) := by decide +kernel
theorem dJ9_min_7cf53_5 : decode cJ9_min_7cf53 5 = .ok (.iload_n 0, 1) := by decide +kernel
theorem dJ9_min_7cf53_6 : decode cJ9_min_7cf53 6 = .ok (.goto 4, 3) := by decide +kernel
theorem dJ9_min_7cf53_9 : decode cJ9_min_7cf53 9 = .ok (.iload_n 1, 1) := by decide +kernel
theorem dJ9_min_7cf53_10 : decode cJ9_min_7cf53 10 = .ok (.ireturn, 1) := by decide +kernel
theorem dJ7_fill_53178_0 : decode cJ7_fill_53178 0 = .ok (.iconst 0, 1) := by decide +kernel
theorem dJ7_fill_53178_1 : decode cJ7_fill_53178 1 = .ok (.istore_n 2, 1) := by decide +kernel
theorem dJ7_fill_53178_2 : decode cJ7_fill_53178 2 = .ok (.aload_n 0, 1) := by decide +kernel
theorem dJ7_fill_53178_3 : decode cJ7_fill_53178 3 = .ok (.arraylength, 1) := by decide +kernel
theorem dJ7_fill_53178_4 : decode cJ7_fill_53178 4 = .ok (.istore_n 3, 1) := by decide +kernel
theorem dJ7_fill_53178_5 : decode cJ7_fill_53178 5 = .ok (.iload_n 2, 1) := by decide +kernel
theorem dJ7_fill_53178_6 : decode cJ7_fill_53178 6 = .ok (.iload_n 3, 1) := by decide +kernel
theorem dJ7_fill_53178_7 : decode cJ7_fill_53178 7 = .ok (.if_icmp .ge 13, 3) := by decide +kernel
theorem dJ7_fill_53178_10 : decode cJ7_fill_53178 10 = .ok (.aload_n 0, 1) := by decide +kernel
theorem dJ7_fill_53178_11 : decode cJ7_fill_53178 11 = .ok (.iload_n 2, 1) := by decide +kernel
theorem dJ7_fill_53178_12 : decode cJ7_fill_53178 12 = .ok (.iload_n 1, 1) := by decide +kernel
theorem dJ7_fill_53178_13 : decode cJ7_fill_53178 13 = .ok (.iastore, 1) := by decide +kernel
theorem dJ7_fill_53178_14 : decode cJ7_fill_53178 14 = .ok (.iinc 2 1, 3) := by decide +kernel
theorem dJ7_fill_53178_17 : decode cJ7_fill_53178 17 = .ok (.goto (-12), 3) := by decide +kernel
theorem dJ7_fill_53178_20 : decode cJ7_fill_53178 20 = .ok (.return_, 1) := by decide +kernel
