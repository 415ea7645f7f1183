theorem dX6_init_0 : decode cX6_init 0 = .ok (.aload_n 0, 1) := by decide +kernel
theorem dX6_init_1 : decode cX6_init 1 = .ok (.invokespecial 3, 3) := by decide +kernel
theorem dX6_init_4 : decode cX6_init 4 = .ok (.aload_n 0, 1) := by decide +kernel
theorem dX6_init_5 : decode cX6_init 5 = .ok (.iload_n 1, 1) := by decide +kernel
theorem dX6_init_6 : decode cX6_init 6 = .ok (.invokestatic 9, 3) := by decide +kernel
theorem dX6_init_9 : decode cX6_init 9 = .ok (.putfield 13, 3) := by decide +kernel
theorem dX6_init_12 : decode cX6_init 12 = .ok (.aload_n 0, 1) := by decide +kernel
theorem dX6_init_13 : decode cX6_init 13 = .ok (.iconst 1, 1) := by decide +kernel
theorem dX6_init_14 : decode cX6_init 14 = .ok (.bipush 8, 2) := by decide +kernel
theorem dX6_init_16 : decode cX6_init 16 = .ok (.iload_n 2, 1) := by decide +kernel
theorem dX6_init_17 : decode cX6_init 17 = .ok (.invokestatic 17, 3) := by decide +kernel
theorem dX6_init_20 : decode cX6_init 20 = .ok (.invokestatic 23, 3) := by decide +kernel
theorem dX6_init_23 : decode cX6_init 23 = .ok (.putfield 26, 3) := by decide +kernel
theorem dX6_init_26 : decode cX6_init 26 = .ok (.aload_n 0, 1) := by decide +kernel
theorem dX6_init_27 : decode cX6_init 27 = .ok (.bipush 8, 2) := by decide +kernel
theorem dX6_init_29 : decode cX6_init 29 = .ok (.anewarray 29, 3) := by decide +kernel
theorem dX6_init_32 : decode cX6_init 32 = .ok (.putfield 31, 3) := by decide +kernel
theorem dX6_init_35 : decode cX6_init 35 = .ok (.iconst 0, 1) := by decide +kernel
theorem dX6_init_36 : decode cX6_init 36 = .ok (.istore_n 3, 1) := by decide +kernel
theorem dX6_init_37 : decode cX6_init 37 = .ok (.iload_n 3, 1) := by decide +kernel
theorem dX6_init_38 : decode cX6_init 38 = .ok (.bipush 8, 2) := by decide +kernel
theorem dX6_init_40 : decode cX6_init 40 = .ok (.if_icmp .ge 22, 3) := by decide +kernel
theorem dX6_init_43 : decode cX6_init 43 = .ok (.aload_n 0, 1) := by decide +kernel
theorem dX6_init_44 : decode cX6_init 44 = .ok (.getfield 31, 3) := by decide +kernel
theorem dX6_init_47 : decode cX6_init 47 = .ok (.iload_n 3, 1) := by decide +kernel
theorem dX6_init_48 : decode cX6_init 48 = .ok (.new 29, 3) := by decide +kernel
theorem dX6_init_51 : decode cX6_init 51 = .ok (.dup, 1) := by decide +kernel
theorem dX6_init_52 : decode cX6_init 52 = .ok (.invokespecial 35, 3) := by decide +kernel
theorem dX6_init_55 : decode cX6_init 55 = .ok (.aastore, 1) := by decide +kernel
theorem dX6_init_56 : decode cX6_init 56 = .ok (.iinc 3 1, 3) := by decide +kernel
theorem dX6_init_59 : decode cX6_init 59 = .ok (.goto (-22), 3) := by decide +kernel
theorem dX6_init_62 : decode cX6_init 62 = .ok (.aload_n 0, 1) := by decide +kernel
theorem dX6_init_63 : decode cX6_init 63 = .ok (.new 29, 3) := by decide +kernel
theorem dX6_init_66 : decode cX6_init 66 = .ok (.dup, 1) := by decide +kernel
theorem dX6_init_67 : decode cX6_init 67 = .ok (.invokespecial 35, 3) := by decide +kernel
theorem dX6_init_70 : decode cX6_init 70 = .ok (.putfield 36, 3) := by decide +kernel
theorem dX6_init_73 : decode cX6_init 73 = .ok (.aload_n 0, 1) := by decide +kernel
theorem dX6_init_74 : decode cX6_init 74 = .ok (.new 40, 3) := by decide +kernel
theorem dX6_init_77 : decode cX6_init 77 = .ok (.dup, 1) := by decide +kernel
theorem dX6_init_78 : decode cX6_init 78 = .ok (.aload_n 0, 1) := by decide +kernel
theorem dX6_init_79 : decode cX6_init 79 = .ok (.getfield 13, 3) := by decide +kernel
theorem dX6_init_82 : decode cX6_init 82 = .ok (.invokespecial 42, 3) := by decide +kernel
theorem dX6_init_85 : decode cX6_init 85 = .ok (.putfield 45, 3) := by decide +kernel
theorem dX6_init_88 : decode cX6_init 88 = .ok (.aload_n 0, 1) := by decide +kernel
theorem dX6_init_89 : decode cX6_init 89 = .ok (.new 49, 3) := by decide +kernel
theorem dX6_init_92 : decode cX6_init 92 = .ok (.dup, 1) := by decide +kernel
theorem dX6_init_93 : decode cX6_init 93 = .ok (.aload_n 0, 1) := by decide +kernel
theorem dX6_init_94 : decode cX6_init 94 = .ok (.getfield 13, 3) := by decide +kernel
theorem dX6_init_97 : decode cX6_init 97 = .ok (.aload_n 0, 1) := by decide +kernel
theorem dX6_init_98 : decode cX6_init 98 = .ok (.getfield 26, 3) := by decide +kernel
theorem dX6_init_101 : decode cX6_init 101 = .ok (.invokespecial 51, 3) := by decide +kernel
theorem dX6_init_104 : decode cX6_init 104 = .ok (.putfield 54, 3) := by decide +kernel
theorem dX6_init_107 : decode cX6_init 107 = .ok (.aload_n 0, 1) := by decide +kernel
theorem dX6_init_108 : decode cX6_init 108 = .ok (.new 58, 3) := by decide +kernel
theorem dX6_init_111 : decode cX6_init 111 = .ok (.dup, 1) := by decide +kernel
theorem dX6_init_112 : decode cX6_init 112 = .ok (.invokespecial 60, 3) := by decide +kernel
theorem dX6_init_115 : decode cX6_init 115 = .ok (.putfield 61, 3) := by decide +kernel
theorem dX6_init_118 : decode cX6_init 118 = .ok (.aload_n 0, 1) := by decide +kernel
theorem dX6_init_119 : decode cX6_init 119 = .ok (.new 58, 3) := by decide +kernel
theorem dX6_init_122 : decode cX6_init 122 = .ok (.dup, 1) := by decide +kernel
theorem dX6_init_123 : decode cX6_init 123 = .ok (.invokespecial 60, 3) := by decide +kernel
theorem dX6_init_126 : decode cX6_init 126 = .ok (.putfield 65, 3) := by decide +kernel
theorem dX6_init_129 : decode cX6_init 129 = .ok (.aload_n 0, 1) := by decide +kernel
theorem dX6_init_130 : decode cX6_init 130 = .ok (.new 68, 3) := by decide +kernel
theorem dX6_init_133 : decode cX6_init 133 = .ok (.dup, 1) := by decide +kernel
theorem dX6_init_134 : decode cX6_init 134 = .ok (.invokespecial 70, 3) := by decide +kernel
theorem dX6_init_137 : decode cX6_init 137 = .ok (.putfield 71, 3) := by decide +kernel
theorem dX6_init_140 : decode cX6_init 140 = .ok (.aload_n 0, 1) := by decide +kernel
theorem dX6_init_141 : decode cX6_init 141 = .ok (.new 75, 3) := by decide +kernel
theorem dX6_init_144 : decode cX6_init 144 = .ok (.dup, 1) := by decide +kernel
theorem dX6_init_145 : decode cX6_init 145 = .ok (.invokespecial 77, 3) := by decide +kernel
theorem dX6_init_148 : decode cX6_init 148 = .ok (.putfield 78, 3) := by decide +kernel
theorem dX6_init_151 : decode cX6_init 151 = .ok (.return_, 1) := by decide +kernel
theorem dX6_lay_0 : decode cX6_lay 0 = .ok (.aload_n 0, 1) := by decide +kernel
theorem dX6_lay_1 : decode cX6_lay 1 = .ok (.iload_n 1, 1) := by decide +kernel
theorem dX6_lay_2 : decode cX6_lay 2 = .ok (.invokevirtual 82, 3) := by decide +kernel
theorem dX6_lay_5 : decode cX6_lay 5 = .ok (.ifCond .eq 19, 3) := by decide +kernel
theorem dX6_lay_8 : decode cX6_lay 8 = .ok (.aload_n 0, 1) := by decide +kernel
theorem dX6_lay_9 : decode cX6_lay 9 = .ok (.iload_n 2, 1) := by decide +kernel
theorem dX6_lay_10 : decode cX6_lay 10 = .ok (.invokevirtual 86, 3) := by decide +kernel
theorem dX6_lay_13 : decode cX6_lay 13 = .ok (.ifCond .eq 11, 3) := by decide +kernel
theorem dX6_lay_16 : decode cX6_lay 16 = .ok (.aload_n 0, 1) := by decide +kernel
theorem dX6_lay_17 : decode cX6_lay 17 = .ok (.iload_n 3, 1) := by decide +kernel
theorem dX6_lay_18 : decode cX6_lay 18 = .ok (.invokevirtual 89, 3) := by decide +kernel
theorem dX6_lay_21 : decode cX6_lay 21 = .ok (.ifCond .ne 5, 3) := by decide +kernel
theorem dX6_lay_24 : decode cX6_lay 24 = .ok (.iconst 0, 1) := by decide +kernel
theorem dX6_lay_25 : decode cX6_lay 25 = .ok (.ireturn, 1) := by decide +kernel
theorem dX6_lay_26 : decode cX6_lay 26 = .ok (.aload_n 0, 1) := by decide +kernel
theorem dX6_lay_27 : decode cX6_lay 27 = .ok (.getfield 31, 3) := by decide +kernel
theorem dX6_lay_30 : decode cX6_lay 30 = .ok (.iload_n 1, 1) := by decide +kernel
theorem dX6_lay_31 : decode cX6_lay 31 = .ok (.aaload, 1) := by decide +kernel
theorem dX6_lay_32 : decode cX6_lay 32 = .ok (.astore 4, 2) := by decide +kernel
theorem dX6_lay_34 : decode cX6_lay 34 = .ok (.aload 4, 2) := by decide +kernel
theorem dX6_lay_36 : decode cX6_lay 36 = .ok (.iload_n 2, 1) := by decide +kernel
theorem dX6_lay_37 : decode cX6_lay 37 = .ok (.invokevirtual 92, 3) := by decide +kernel
theorem dX6_lay_40 : decode cX6_lay 40 = .ok (.iconst 0, 1) := by decide +kernel
theorem dX6_lay_41 : decode cX6_lay 41 = .ok (.istore 5, 2) := by decide +kernel
theorem dX6_lay_43 : decode cX6_lay 43 = .ok (.iload 5, 2) := by decide +kernel
theorem dX6_lay_45 : decode cX6_lay 45 = .ok (.aload_n 0, 1) := by decide +kernel
theorem dX6_lay_46 : decode cX6_lay 46 = .ok (.getfield 26, 3) := by decide +kernel
theorem dX6_lay_49 : decode cX6_lay 49 = .ok (.if_icmp .ge 23, 3) := by decide +kernel
theorem dX6_lay_52 : decode cX6_lay 52 = .ok (.aload 4, 2) := by decide +kernel
theorem dX6_lay_54 : decode cX6_lay 54 = .ok (.getfield 95, 3) := by decide +kernel
theorem dX6_lay_57 : decode cX6_lay 57 = .ok (.iload 5, 2) := by decide +kernel
theorem dX6_lay_59 : decode cX6_lay 59 = .ok (.iload_n 3, 1) := by decide +kernel
theorem dX6_lay_60 : decode cX6_lay 60 = .ok (.iload 5, 2) := by decide +kernel
theorem dX6_lay_62 : decode cX6_lay 62 = .ok (.invokestatic 99, 3) := by decide +kernel
theorem dX6_lay_65 : decode cX6_lay 65 = .ok (.iastore, 1) := by decide +kernel
theorem dX6_lay_66 : decode cX6_lay 66 = .ok (.iinc 5 1, 3) := by decide +kernel
theorem dX6_lay_69 : decode cX6_lay 69 = .ok (.goto (-26), 3) := by decide +kernel
theorem dX6_lay_72 : decode cX6_lay 72 = .ok (.iconst 1, 1) := by decide +kernel
theorem dX6_lay_73 : decode cX6_lay 73 = .ok (.ireturn, 1) := by decide +kernel
theorem dX6_set_0 : decode cX6_set 0 = .ok (.aload_n 0, 1) := by decide +kernel
theorem dX6_set_1 : decode cX6_set 1 = .ok (.iload_n 1, 1) := by decide +kernel
theorem dX6_set_2 : decode cX6_set 2 = .ok (.iload_n 2, 1) := by decide +kernel
theorem dX6_set_3 : decode cX6_set 3 = .ok (.iload_n 3, 1) := by decide +kernel
theorem dX6_set_4 : decode cX6_set 4 = .ok (.iload 4, 2) := by decide +kernel
theorem dX6_set_6 : decode cX6_set 6 = .ok (.invokevirtual 102, 3) := by decide +kernel
theorem dX6_set_9 : decode cX6_set 9 = .ok (.ifCond .ne 5, 3) := by decide +kernel
theorem dX6_set_12 : decode cX6_set 12 = .ok (.iconst 0, 1) := by decide +kernel
theorem dX6_set_13 : decode cX6_set 13 = .ok (.ireturn, 1) := by decide +kernel
theorem dX6_set_14 : decode cX6_set 14 = .ok (.aload_n 0, 1) := by decide +kernel
theorem dX6_set_15 : decode cX6_set 15 = .ok (.getfield 31, 3) := by decide +kernel
theorem dX6_set_18 : decode cX6_set 18 = .ok (.iload_n 1, 1) := by decide +kernel
theorem dX6_set_19 : decode cX6_set 19 = .ok (.aaload, 1) := by decide +kernel
theorem dX6_set_20 : decode cX6_set 20 = .ok (.iload_n 2, 1) := by decide +kernel
theorem dX6_set_21 : decode cX6_set 21 = .ok (.iload_n 3, 1) := by decide +kernel
theorem dX6_set_22 : decode cX6_set 22 = .ok (.iload 4, 2) := by decide +kernel
theorem dX6_set_24 : decode cX6_set 24 = .ok (.iload 5, 2) := by decide +kernel
theorem dX6_set_26 : decode cX6_set 26 = .ok (.aload_n 0, 1) := by decide +kernel
theorem dX6_set_27 : decode cX6_set 27 = .ok (.getfield 13, 3) := by decide +kernel
theorem dX6_set_30 : decode cX6_set 30 = .ok (.invokestatic 106, 3) := by decide +kernel
theorem dX6_set_33 : decode cX6_set 33 = .ok (.invokevirtual 109, 3) := by decide +kernel
theorem dX6_set_36 : decode cX6_set 36 = .ok (.iconst 1, 1) := by decide +kernel
theorem dX6_set_37 : decode cX6_set 37 = .ok (.ireturn, 1) := by decide +kernel
theorem dX6_get_0 : decode cX6_get 0 = .ok (.aload_n 0, 1) := by decide +kernel
theorem dX6_get_1 : decode cX6_get 1 = .ok (.iload_n 1, 1) := by decide +kernel
theorem dX6_get_2 : decode cX6_get 2 = .ok (.iload_n 2, 1) := by decide +kernel
theorem dX6_get_3 : decode cX6_get 3 = .ok (.iload_n 3, 1) := by decide +kernel
theorem dX6_get_4 : decode cX6_get 4 = .ok (.iload 4, 2) := by decide +kernel
theorem dX6_get_6 : decode cX6_get 6 = .ok (.invokevirtual 102, 3) := by decide +kernel
theorem dX6_get_9 : decode cX6_get 9 = .ok (.ifCond .eq 19, 3) := by decide +kernel
theorem dX6_get_12 : decode cX6_get 12 = .ok (.aload_n 0, 1) := by decide +kernel
theorem dX6_get_13 : decode cX6_get 13 = .ok (.getfield 31, 3) := by decide +kernel
theorem dX6_get_16 : decode cX6_get 16 = .ok (.iload_n 1, 1) := by decide +kernel
theorem dX6_get_17 : decode cX6_get 17 = .ok (.aaload, 1) := by decide +kernel
theorem dX6_get_18 : decode cX6_get 18 = .ok (.iload_n 2, 1) := by decide +kernel
theorem dX6_get_19 : decode cX6_get 19 = .ok (.iload_n 3, 1) := by decide +kernel
theorem dX6_get_20 : decode cX6_get 20 = .ok (.iload 4, 2) := by decide +kernel
theorem dX6_get_22 : decode cX6_get 22 = .ok (.invokevirtual 113, 3) := by decide +kernel
theorem dX6_get_25 : decode cX6_get 25 = .ok (.goto 4, 3) := by decide +kernel
theorem dX6_get_28 : decode cX6_get 28 = .ok (.iconst (-1), 1) := by decide +kernel
theorem dX6_get_29 : decode cX6_get 29 = .ok (.ireturn, 1) := by decide +kernel
theorem dX6_size_0 : decode cX6_size 0 = .ok (.aload_n 0, 1) := by decide +kernel
theorem dX6_size_1 : decode cX6_size 1 = .ok (.iload_n 1, 1) := by decide +kernel
theorem dX6_size_2 : decode cX6_size 2 = .ok (.invokevirtual 82, 3) := by decide +kernel
theorem dX6_size_5 : decode cX6_size 5 = .ok (.ifCond .eq 25, 3) := by decide +kernel
theorem dX6_size_8 : decode cX6_size 8 = .ok (.aload_n 0, 1) := by decide +kernel
theorem dX6_size_9 : decode cX6_size 9 = .ok (.iload_n 2, 1) := by decide +kernel
theorem dX6_size_10 : decode cX6_size 10 = .ok (.invokevirtual 117, 3) := by decide +kernel
theorem dX6_size_13 : decode cX6_size 13 = .ok (.ifCond .eq 17, 3) := by decide +kernel
theorem dX6_size_16 : decode cX6_size 16 = .ok (.aload_n 0, 1) := by decide +kernel
theorem dX6_size_17 : decode cX6_size 17 = .ok (.getfield 31, 3) := by decide +kernel
theorem dX6_size_20 : decode cX6_size 20 = .ok (.iload_n 1, 1) := by decide +kernel
theorem dX6_size_21 : decode cX6_size 21 = .ok (.aaload, 1) := by decide +kernel
theorem dX6_size_22 : decode cX6_size 22 = .ok (.getfield 95, 3) := by decide +kernel
theorem dX6_size_25 : decode cX6_size 25 = .ok (.iload_n 2, 1) := by decide +kernel
theorem dX6_size_26 : decode cX6_size 26 = .ok (.iaload, 1) := by decide +kernel
theorem dX6_size_27 : decode cX6_size 27 = .ok (.goto 4, 3) := by decide +kernel
theorem dX6_size_30 : decode cX6_size 30 = .ok (.iconst (-1), 1) := by decide +kernel
theorem dX6_size_31 : decode cX6_size 31 = .ok (.ireturn, 1) := by decide +kernel
theorem dX6_ways_0 : decode cX6_ways 0 = .ok (.aload_n 0, 1) := by decide +kernel
theorem dX6_ways_1 : decode cX6_ways 1 = .ok (.iload_n 1, 1) := by decide +kernel
theorem dX6_ways_2 : decode cX6_ways 2 = .ok (.invokevirtual 82, 3) := by decide +kernel
theorem dX6_ways_5 : decode cX6_ways 5 = .ok (.ifCond .eq 15, 3) := by decide +kernel
theorem dX6_ways_8 : decode cX6_ways 8 = .ok (.aload_n 0, 1) := by decide +kernel
theorem dX6_ways_9 : decode cX6_ways 9 = .ok (.getfield 31, 3) := by decide +kernel
theorem dX6_ways_12 : decode cX6_ways 12 = .ok (.iload_n 1, 1) := by decide +kernel
theorem dX6_ways_13 : decode cX6_ways 13 = .ok (.aaload, 1) := by decide +kernel
theorem dX6_ways_14 : decode cX6_ways 14 = .ok (.getfield 120, 3) := by decide +kernel
theorem dX6_ways_17 : decode cX6_ways 17 = .ok (.goto 4, 3) := by decide +kernel
theorem dX6_ways_20 : decode cX6_ways 20 = .ok (.iconst (-1), 1) := by decide +kernel
theorem dX6_ways_21 : decode cX6_ways 21 = .ok (.ireturn, 1) := by decide +kernel
theorem dX6_span_0 : decode cX6_span 0 = .ok (.aload_n 0, 1) := by decide +kernel
theorem dX6_span_1 : decode cX6_span 1 = .ok (.iload_n 1, 1) := by decide +kernel
theorem dX6_span_2 : decode cX6_span 2 = .ok (.invokevirtual 82, 3) := by decide +kernel
theorem dX6_span_5 : decode cX6_span 5 = .ok (.ifCond .eq 21, 3) := by decide +kernel
theorem dX6_span_8 : decode cX6_span 8 = .ok (.aload_n 0, 1) := by decide +kernel
theorem dX6_span_9 : decode cX6_span 9 = .ok (.iload_n 2, 1) := by decide +kernel
theorem dX6_span_10 : decode cX6_span 10 = .ok (.invokevirtual 86, 3) := by decide +kernel
theorem dX6_span_13 : decode cX6_span 13 = .ok (.ifCond .eq 13, 3) := by decide +kernel
theorem dX6_span_16 : decode cX6_span 16 = .ok (.aload_n 0, 1) := by decide +kernel
theorem dX6_span_17 : decode cX6_span 17 = .ok (.iload_n 3, 1) := by decide +kernel
theorem dX6_span_18 : decode cX6_span 18 = .ok (.iload 4, 2) := by decide +kernel
theorem dX6_span_20 : decode cX6_span 20 = .ok (.invokevirtual 123, 3) := by decide +kernel
theorem dX6_span_23 : decode cX6_span 23 = .ok (.ifCond .ne 5, 3) := by decide +kernel
theorem dX6_span_26 : decode cX6_span 26 = .ok (.iconst 0, 1) := by decide +kernel
theorem dX6_span_27 : decode cX6_span 27 = .ok (.ireturn, 1) := by decide +kernel
theorem dX6_span_28 : decode cX6_span 28 = .ok (.aload_n 0, 1) := by decide +kernel
theorem dX6_span_29 : decode cX6_span 29 = .ok (.getfield 31, 3) := by decide +kernel
theorem dX6_span_32 : decode cX6_span 32 = .ok (.iload_n 1, 1) := by decide +kernel
theorem dX6_span_33 : decode cX6_span 33 = .ok (.aaload, 1) := by decide +kernel
theorem dX6_span_34 : decode cX6_span 34 = .ok (.astore 5, 2) := by decide +kernel
theorem dX6_span_36 : decode cX6_span 36 = .ok (.aload 5, 2) := by decide +kernel
theorem dX6_span_38 : decode cX6_span 38 = .ok (.iload_n 2, 1) := by decide +kernel
theorem dX6_span_39 : decode cX6_span 39 = .ok (.invokevirtual 92, 3) := by decide +kernel
theorem dX6_span_42 : decode cX6_span 42 = .ok (.iload_n 3, 1) := by decide +kernel
theorem dX6_span_43 : decode cX6_span 43 = .ok (.istore 6, 2) := by decide +kernel
theorem dX6_span_45 : decode cX6_span 45 = .ok (.iload 6, 2) := by decide +kernel
theorem dX6_span_47 : decode cX6_span 47 = .ok (.iload 4, 2) := by decide +kernel
theorem dX6_span_49 : decode cX6_span 49 = .ok (.if_icmp .gt 18, 3) := by decide +kernel
theorem dX6_span_52 : decode cX6_span 52 = .ok (.aload 5, 2) := by decide +kernel
theorem dX6_span_54 : decode cX6_span 54 = .ok (.getfield 95, 3) := by decide +kernel
theorem dX6_span_57 : decode cX6_span 57 = .ok (.iload 6, 2) := by decide +kernel
theorem dX6_span_59 : decode cX6_span 59 = .ok (.iconst 1, 1) := by decide +kernel
theorem dX6_span_60 : decode cX6_span 60 = .ok (.iastore, 1) := by decide +kernel
theorem dX6_span_61 : decode cX6_span 61 = .ok (.iinc 6 1, 3) := by decide +kernel
theorem dX6_span_64 : decode cX6_span 64 = .ok (.goto (-19), 3) := by decide +kernel
theorem dX6_span_67 : decode cX6_span 67 = .ok (.iload_n 3, 1) := by decide +kernel
theorem dX6_span_68 : decode cX6_span 68 = .ok (.istore 6, 2) := by decide +kernel
theorem dX6_span_70 : decode cX6_span 70 = .ok (.iload 6, 2) := by decide +kernel
theorem dX6_span_72 : decode cX6_span 72 = .ok (.iload 4, 2) := by decide +kernel
theorem dX6_span_74 : decode cX6_span 74 = .ok (.if_icmp .ge 19, 3) := by decide +kernel
theorem dX6_span_77 : decode cX6_span 77 = .ok (.aload 5, 2) := by decide +kernel
theorem dX6_span_79 : decode cX6_span 79 = .ok (.iload 6, 2) := by decide +kernel
theorem dX6_span_81 : decode cX6_span 81 = .ok (.iconst 0, 1) := by decide +kernel
theorem dX6_span_82 : decode cX6_span 82 = .ok (.iconst 0, 1) := by decide +kernel
theorem dX6_span_83 : decode cX6_span 83 = .ok (.iconst 1, 1) := by decide +kernel
theorem dX6_span_84 : decode cX6_span 84 = .ok (.invokevirtual 109, 3) := by decide +kernel
theorem dX6_span_87 : decode cX6_span 87 = .ok (.iinc 6 1, 3) := by decide +kernel
theorem dX6_span_90 : decode cX6_span 90 = .ok (.goto (-20), 3) := by decide +kernel
theorem dX6_span_93 : decode cX6_span 93 = .ok (.iconst 1, 1) := by decide +kernel
theorem dX6_span_94 : decode cX6_span 94 = .ok (.ireturn, 1) := by decide +kernel
theorem dX6_beside_0 : decode cX6_beside 0 = .ok (.aload_n 0, 1) := by decide +kernel
theorem dX6_beside_1 : decode cX6_beside 1 = .ok (.iload_n 3, 1) := by decide +kernel
theorem dX6_beside_2 : decode cX6_beside 2 = .ok (.invokevirtual 82, 3) := by decide +kernel
theorem dX6_beside_5 : decode cX6_beside 5 = .ok (.ifCond .eq 31, 3) := by decide +kernel
theorem dX6_beside_8 : decode cX6_beside 8 = .ok (.aload_n 0, 1) := by decide +kernel
theorem dX6_beside_9 : decode cX6_beside 9 = .ok (.iload_n 1, 1) := by decide +kernel
theorem dX6_beside_10 : decode cX6_beside 10 = .ok (.iload_n 2, 1) := by decide +kernel
theorem dX6_beside_11 : decode cX6_beside 11 = .ok (.invokevirtual 127, 3) := by decide +kernel
theorem dX6_beside_14 : decode cX6_beside 14 = .ok (.ifCond .eq 22, 3) := by decide +kernel
theorem dX6_beside_17 : decode cX6_beside 17 = .ok (.aload_n 0, 1) := by decide +kernel
theorem dX6_beside_18 : decode cX6_beside 18 = .ok (.aload_n 0, 1) := by decide +kernel
theorem dX6_beside_19 : decode cX6_beside 19 = .ok (.getfield 31, 3) := by decide +kernel
theorem dX6_beside_22 : decode cX6_beside 22 = .ok (.iload_n 1, 1) := by decide +kernel
theorem dX6_beside_23 : decode cX6_beside 23 = .ok (.aaload, 1) := by decide +kernel
theorem dX6_beside_24 : decode cX6_beside 24 = .ok (.aload_n 0, 1) := by decide +kernel
theorem dX6_beside_25 : decode cX6_beside 25 = .ok (.getfield 31, 3) := by decide +kernel
theorem dX6_beside_28 : decode cX6_beside 28 = .ok (.iload_n 2, 1) := by decide +kernel
theorem dX6_beside_29 : decode cX6_beside 29 = .ok (.aaload, 1) := by decide +kernel
theorem dX6_beside_30 : decode cX6_beside 30 = .ok (.invokevirtual 130, 3) := by decide +kernel
theorem dX6_beside_33 : decode cX6_beside 33 = .ok (.ifCond .ne 5, 3) := by decide +kernel
theorem dX6_beside_36 : decode cX6_beside 36 = .ok (.iconst 0, 1) := by decide +kernel
theorem dX6_beside_37 : decode cX6_beside 37 = .ok (.ireturn, 1) := by decide +kernel
theorem dX6_beside_38 : decode cX6_beside 38 = .ok (.aload_n 0, 1) := by decide +kernel
theorem dX6_beside_39 : decode cX6_beside 39 = .ok (.getfield 36, 3) := by decide +kernel
theorem dX6_beside_42 : decode cX6_beside 42 = .ok (.aload_n 0, 1) := by decide +kernel
theorem dX6_beside_43 : decode cX6_beside 43 = .ok (.getfield 31, 3) := by decide +kernel
theorem dX6_beside_46 : decode cX6_beside 46 = .ok (.iload_n 1, 1) := by decide +kernel
theorem dX6_beside_47 : decode cX6_beside 47 = .ok (.aaload, 1) := by decide +kernel
theorem dX6_beside_48 : decode cX6_beside 48 = .ok (.getfield 120, 3) := by decide +kernel
theorem dX6_beside_51 : decode cX6_beside 51 = .ok (.invokevirtual 92, 3) := by decide +kernel
theorem dX6_beside_54 : decode cX6_beside 54 = .ok (.iconst 0, 1) := by decide +kernel
theorem dX6_beside_55 : decode cX6_beside 55 = .ok (.istore 4, 2) := by decide +kernel
theorem dX6_beside_57 : decode cX6_beside 57 = .ok (.iload 4, 2) := by decide +kernel
theorem dX6_beside_59 : decode cX6_beside 59 = .ok (.aload_n 0, 1) := by decide +kernel
theorem dX6_beside_60 : decode cX6_beside 60 = .ok (.getfield 26, 3) := by decide +kernel
theorem dX6_beside_63 : decode cX6_beside 63 = .ok (.if_icmp .ge 44, 3) := by decide +kernel
theorem dX6_beside_66 : decode cX6_beside 66 = .ok (.aload_n 0, 1) := by decide +kernel
theorem dX6_beside_67 : decode cX6_beside 67 = .ok (.getfield 36, 3) := by decide +kernel
theorem dX6_beside_70 : decode cX6_beside 70 = .ok (.getfield 95, 3) := by decide +kernel
theorem dX6_beside_73 : decode cX6_beside 73 = .ok (.iload 4, 2) := by decide +kernel
theorem dX6_beside_75 : decode cX6_beside 75 = .ok (.aload_n 0, 1) := by decide +kernel
theorem dX6_beside_76 : decode cX6_beside 76 = .ok (.getfield 31, 3) := by decide +kernel
theorem dX6_beside_79 : decode cX6_beside 79 = .ok (.iload_n 1, 1) := by decide +kernel
theorem dX6_beside_80 : decode cX6_beside 80 = .ok (.aaload, 1) := by decide +kernel
theorem dX6_beside_81 : decode cX6_beside 81 = .ok (.getfield 95, 3) := by decide +kernel
theorem dX6_beside_84 : decode cX6_beside 84 = .ok (.iload 4, 2) := by decide +kernel
theorem dX6_beside_86 : decode cX6_beside 86 = .ok (.iaload, 1) := by decide +kernel
theorem dX6_beside_87 : decode cX6_beside 87 = .ok (.aload_n 0, 1) := by decide +kernel
theorem dX6_beside_88 : decode cX6_beside 88 = .ok (.getfield 31, 3) := by decide +kernel
theorem dX6_beside_91 : decode cX6_beside 91 = .ok (.iload_n 2, 1) := by decide +kernel
theorem dX6_beside_92 : decode cX6_beside 92 = .ok (.aaload, 1) := by decide +kernel
theorem dX6_beside_93 : decode cX6_beside 93 = .ok (.getfield 95, 3) := by decide +kernel
theorem dX6_beside_96 : decode cX6_beside 96 = .ok (.iload 4, 2) := by decide +kernel
theorem dX6_beside_98 : decode cX6_beside 98 = .ok (.iaload, 1) := by decide +kernel
theorem dX6_beside_99 : decode cX6_beside 99 = .ok (.iadd, 1) := by decide +kernel
theorem dX6_beside_100 : decode cX6_beside 100 = .ok (.iastore, 1) := by decide +kernel
theorem dX6_beside_101 : decode cX6_beside 101 = .ok (.iinc 4 1, 3) := by decide +kernel
theorem dX6_beside_104 : decode cX6_beside 104 = .ok (.goto (-47), 3) := by decide +kernel
theorem dX6_beside_107 : decode cX6_beside 107 = .ok (.iconst 0, 1) := by decide +kernel
theorem dX6_beside_108 : decode cX6_beside 108 = .ok (.istore 4, 2) := by decide +kernel
theorem dX6_beside_110 : decode cX6_beside 110 = .ok (.iload 4, 2) := by decide +kernel
theorem dX6_beside_112 : decode cX6_beside 112 = .ok (.aload_n 0, 1) := by decide +kernel
theorem dX6_beside_113 : decode cX6_beside 113 = .ok (.getfield 26, 3) := by decide +kernel
theorem dX6_beside_116 : decode cX6_beside 116 = .ok (.iconst 1, 1) := by decide +kernel
theorem dX6_beside_117 : decode cX6_beside 117 = .ok (.isub, 1) := by decide +kernel
theorem dX6_beside_118 : decode cX6_beside 118 = .ok (.if_icmp .ge 63, 3) := by decide +kernel
theorem dX6_beside_121 : decode cX6_beside 121 = .ok (.aload_n 0, 1) := by decide +kernel
theorem dX6_beside_122 : decode cX6_beside 122 = .ok (.getfield 36, 3) := by decide +kernel
theorem dX6_beside_125 : decode cX6_beside 125 = .ok (.aload_n 0, 1) := by decide +kernel
theorem dX6_beside_126 : decode cX6_beside 126 = .ok (.getfield 31, 3) := by decide +kernel
theorem dX6_beside_129 : decode cX6_beside 129 = .ok (.iload_n 1, 1) := by decide +kernel
theorem dX6_beside_130 : decode cX6_beside 130 = .ok (.aaload, 1) := by decide +kernel
theorem dX6_beside_131 : decode cX6_beside 131 = .ok (.iload 4, 2) := by decide +kernel
theorem dX6_beside_133 : decode cX6_beside 133 = .ok (.iconst 0, 1) := by decide +kernel
theorem dX6_beside_134 : decode cX6_beside 134 = .ok (.iconst 0, 1) := by decide +kernel
theorem dX6_beside_135 : decode cX6_beside 135 = .ok (.invokevirtual 134, 3) := by decide +kernel
theorem dX6_beside_138 : decode cX6_beside 138 = .ok (.aload_n 0, 1) := by decide +kernel
theorem dX6_beside_139 : decode cX6_beside 139 = .ok (.getfield 36, 3) := by decide +kernel
theorem dX6_beside_142 : decode cX6_beside 142 = .ok (.aload_n 0, 1) := by decide +kernel
theorem dX6_beside_143 : decode cX6_beside 143 = .ok (.getfield 31, 3) := by decide +kernel
theorem dX6_beside_146 : decode cX6_beside 146 = .ok (.iload_n 2, 1) := by decide +kernel
theorem dX6_beside_147 : decode cX6_beside 147 = .ok (.aaload, 1) := by decide +kernel
theorem dX6_beside_148 : decode cX6_beside 148 = .ok (.iload 4, 2) := by decide +kernel
theorem dX6_beside_150 : decode cX6_beside 150 = .ok (.aload_n 0, 1) := by decide +kernel
theorem dX6_beside_151 : decode cX6_beside 151 = .ok (.getfield 31, 3) := by decide +kernel
theorem dX6_beside_154 : decode cX6_beside 154 = .ok (.iload_n 1, 1) := by decide +kernel
theorem dX6_beside_155 : decode cX6_beside 155 = .ok (.aaload, 1) := by decide +kernel
theorem dX6_beside_156 : decode cX6_beside 156 = .ok (.iload 4, 2) := by decide +kernel
theorem dX6_beside_158 : decode cX6_beside 158 = .ok (.invokevirtual 138, 3) := by decide +kernel
theorem dX6_beside_161 : decode cX6_beside 161 = .ok (.aload_n 0, 1) := by decide +kernel
theorem dX6_beside_162 : decode cX6_beside 162 = .ok (.getfield 31, 3) := by decide +kernel
theorem dX6_beside_165 : decode cX6_beside 165 = .ok (.iload_n 1, 1) := by decide +kernel
theorem dX6_beside_166 : decode cX6_beside 166 = .ok (.aaload, 1) := by decide +kernel
theorem dX6_beside_167 : decode cX6_beside 167 = .ok (.iload 4, 2) := by decide +kernel
theorem dX6_beside_169 : decode cX6_beside 169 = .ok (.invokevirtual 141, 3) := by decide +kernel
theorem dX6_beside_172 : decode cX6_beside 172 = .ok (.invokevirtual 134, 3) := by decide +kernel
theorem dX6_beside_175 : decode cX6_beside 175 = .ok (.iinc 4 1, 3) := by decide +kernel
theorem dX6_beside_178 : decode cX6_beside 178 = .ok (.goto (-68), 3) := by decide +kernel
theorem dX6_beside_181 : decode cX6_beside 181 = .ok (.aload_n 0, 1) := by decide +kernel
theorem dX6_beside_182 : decode cX6_beside 182 = .ok (.getfield 31, 3) := by decide +kernel
theorem dX6_beside_185 : decode cX6_beside 185 = .ok (.iload_n 3, 1) := by decide +kernel
theorem dX6_beside_186 : decode cX6_beside 186 = .ok (.aaload, 1) := by decide +kernel
theorem dX6_beside_187 : decode cX6_beside 187 = .ok (.aload_n 0, 1) := by decide +kernel
theorem dX6_beside_188 : decode cX6_beside 188 = .ok (.getfield 36, 3) := by decide +kernel
theorem dX6_beside_191 : decode cX6_beside 191 = .ok (.invokevirtual 144, 3) := by decide +kernel
theorem dX6_beside_194 : decode cX6_beside 194 = .ok (.iconst 1, 1) := by decide +kernel
theorem dX6_beside_195 : decode cX6_beside 195 = .ok (.ireturn, 1) := by decide +kernel
theorem dX6_mix_0 : decode cX6_mix 0 = .ok (.aload_n 0, 1) := by decide +kernel
theorem dX6_mix_1 : decode cX6_mix 1 = .ok (.iload_n 1, 1) := by decide +kernel
theorem dX6_mix_2 : decode cX6_mix 2 = .ok (.invokevirtual 82, 3) := by decide +kernel
theorem dX6_mix_5 : decode cX6_mix 5 = .ok (.ifCond .eq 31, 3) := by decide +kernel
theorem dX6_mix_8 : decode cX6_mix 8 = .ok (.aload_n 0, 1) := by decide +kernel
theorem dX6_mix_9 : decode cX6_mix 9 = .ok (.iload_n 2, 1) := by decide +kernel
theorem dX6_mix_10 : decode cX6_mix 10 = .ok (.invokevirtual 117, 3) := by decide +kernel
theorem dX6_mix_13 : decode cX6_mix 13 = .ok (.ifCond .eq 23, 3) := by decide +kernel
theorem dX6_mix_16 : decode cX6_mix 16 = .ok (.iload_n 3, 1) := by decide +kernel
theorem dX6_mix_17 : decode cX6_mix 17 = .ok (.iload 4, 2) := by decide +kernel
theorem dX6_mix_19 : decode cX6_mix 19 = .ok (.if_icmp .eq 17, 3) := by decide +kernel
theorem dX6_mix_22 : decode cX6_mix 22 = .ok (.iload 5, 2) := by decide +kernel
theorem dX6_mix_24 : decode cX6_mix 24 = .ok (.ifCond .lt 12, 3) := by decide +kernel
theorem dX6_mix_27 : decode cX6_mix 27 = .ok (.iload 5, 2) := by decide +kernel
theorem dX6_mix_29 : decode cX6_mix 29 = .ok (.aload_n 0, 1) := by decide +kernel
theorem dX6_mix_30 : decode cX6_mix 30 = .ok (.getfield 13, 3) := by decide +kernel
theorem dX6_mix_33 : decode cX6_mix 33 = .ok (.if_icmp .lt 5, 3) := by decide +kernel
theorem dX6_mix_36 : decode cX6_mix 36 = .ok (.iconst 0, 1) := by decide +kernel
theorem dX6_mix_37 : decode cX6_mix 37 = .ok (.ireturn, 1) := by decide +kernel
theorem dX6_mix_38 : decode cX6_mix 38 = .ok (.aload_n 0, 1) := by decide +kernel
theorem dX6_mix_39 : decode cX6_mix 39 = .ok (.getfield 31, 3) := by decide +kernel
theorem dX6_mix_42 : decode cX6_mix 42 = .ok (.iload_n 1, 1) := by decide +kernel
theorem dX6_mix_43 : decode cX6_mix 43 = .ok (.aaload, 1) := by decide +kernel
theorem dX6_mix_44 : decode cX6_mix 44 = .ok (.astore 6, 2) := by decide +kernel
theorem dX6_mix_46 : decode cX6_mix 46 = .ok (.iload_n 3, 1) := by decide +kernel
theorem dX6_mix_47 : decode cX6_mix 47 = .ok (.aload 6, 2) := by decide +kernel
theorem dX6_mix_49 : decode cX6_mix 49 = .ok (.getfield 95, 3) := by decide +kernel
theorem dX6_mix_52 : decode cX6_mix 52 = .ok (.iload_n 2, 1) := by decide +kernel
theorem dX6_mix_53 : decode cX6_mix 53 = .ok (.iaload, 1) := by decide +kernel
theorem dX6_mix_54 : decode cX6_mix 54 = .ok (.invokestatic 148, 3) := by decide +kernel
theorem dX6_mix_57 : decode cX6_mix 57 = .ok (.ifCond .eq 18, 3) := by decide +kernel
theorem dX6_mix_60 : decode cX6_mix 60 = .ok (.iload 4, 2) := by decide +kernel
theorem dX6_mix_62 : decode cX6_mix 62 = .ok (.aload 6, 2) := by decide +kernel
theorem dX6_mix_64 : decode cX6_mix 64 = .ok (.getfield 95, 3) := by decide +kernel
theorem dX6_mix_67 : decode cX6_mix 67 = .ok (.iload_n 2, 1) := by decide +kernel
theorem dX6_mix_68 : decode cX6_mix 68 = .ok (.iaload, 1) := by decide +kernel
theorem dX6_mix_69 : decode cX6_mix 69 = .ok (.invokestatic 148, 3) := by decide +kernel
theorem dX6_mix_72 : decode cX6_mix 72 = .ok (.ifCond .ne 5, 3) := by decide +kernel
theorem dX6_mix_75 : decode cX6_mix 75 = .ok (.iconst 0, 1) := by decide +kernel
theorem dX6_mix_76 : decode cX6_mix 76 = .ok (.ireturn, 1) := by decide +kernel
theorem dX6_mix_77 : decode cX6_mix 77 = .ok (.iload_n 2, 1) := by decide +kernel
theorem dX6_mix_78 : decode cX6_mix 78 = .ok (.iconst 1, 1) := by decide +kernel
theorem dX6_mix_79 : decode cX6_mix 79 = .ok (.isub, 1) := by decide +kernel
theorem dX6_mix_80 : decode cX6_mix 80 = .ok (.istore 7, 2) := by decide +kernel
theorem dX6_mix_82 : decode cX6_mix 82 = .ok (.iload 7, 2) := by decide +kernel
theorem dX6_mix_84 : decode cX6_mix 84 = .ok (.iload_n 2, 1) := by decide +kernel
theorem dX6_mix_85 : decode cX6_mix 85 = .ok (.if_icmp .gt 72, 3) := by decide +kernel
theorem dX6_mix_88 : decode cX6_mix 88 = .ok (.aload_n 0, 1) := by decide +kernel
theorem dX6_mix_89 : decode cX6_mix 89 = .ok (.iload 7, 2) := by decide +kernel
theorem dX6_mix_91 : decode cX6_mix 91 = .ok (.invokevirtual 151, 3) := by decide +kernel
theorem dX6_mix_94 : decode cX6_mix 94 = .ok (.ifCond .eq 30, 3) := by decide +kernel
theorem dX6_mix_97 : decode cX6_mix 97 = .ok (.aload 6, 2) := by decide +kernel
theorem dX6_mix_99 : decode cX6_mix 99 = .ok (.iload 7, 2) := by decide +kernel
theorem dX6_mix_101 : decode cX6_mix 101 = .ok (.invokevirtual 154, 3) := by decide +kernel
theorem dX6_mix_104 : decode cX6_mix 104 = .ok (.iload_n 2, 1) := by decide +kernel
theorem dX6_mix_105 : decode cX6_mix 105 = .ok (.if_icmp .ne 19, 3) := by decide +kernel
theorem dX6_mix_108 : decode cX6_mix 108 = .ok (.aload_n 0, 1) := by decide +kernel
theorem dX6_mix_109 : decode cX6_mix 109 = .ok (.aload 6, 2) := by decide +kernel
theorem dX6_mix_111 : decode cX6_mix 111 = .ok (.iload 7, 2) := by decide +kernel
theorem dX6_mix_113 : decode cX6_mix 113 = .ok (.iload_n 3, 1) := by decide +kernel
theorem dX6_mix_114 : decode cX6_mix 114 = .ok (.iload 4, 2) := by decide +kernel
theorem dX6_mix_116 : decode cX6_mix 116 = .ok (.iload 5, 2) := by decide +kernel
theorem dX6_mix_118 : decode cX6_mix 118 = .ok (.invokevirtual 157, 3) := by decide +kernel
theorem dX6_mix_121 : decode cX6_mix 121 = .ok (.goto 30, 3) := by decide +kernel
theorem dX6_mix_124 : decode cX6_mix 124 = .ok (.aload_n 0, 1) := by decide +kernel
theorem dX6_mix_125 : decode cX6_mix 125 = .ok (.iload 7, 2) := by decide +kernel
theorem dX6_mix_127 : decode cX6_mix 127 = .ok (.invokevirtual 151, 3) := by decide +kernel
theorem dX6_mix_130 : decode cX6_mix 130 = .ok (.ifCond .eq 21, 3) := by decide +kernel
theorem dX6_mix_133 : decode cX6_mix 133 = .ok (.aload_n 0, 1) := by decide +kernel
theorem dX6_mix_134 : decode cX6_mix 134 = .ok (.aload 6, 2) := by decide +kernel
theorem dX6_mix_136 : decode cX6_mix 136 = .ok (.iload 7, 2) := by decide +kernel
theorem dX6_mix_138 : decode cX6_mix 138 = .ok (.iload 4, 2) := by decide +kernel
theorem dX6_mix_140 : decode cX6_mix 140 = .ok (.iload_n 3, 1) := by decide +kernel
theorem dX6_mix_141 : decode cX6_mix 141 = .ok (.aload_n 0, 1) := by decide +kernel
theorem dX6_mix_142 : decode cX6_mix 142 = .ok (.getfield 13, 3) := by decide +kernel
theorem dX6_mix_145 : decode cX6_mix 145 = .ok (.iload 5, 2) := by decide +kernel
theorem dX6_mix_147 : decode cX6_mix 147 = .ok (.isub, 1) := by decide +kernel
theorem dX6_mix_148 : decode cX6_mix 148 = .ok (.invokevirtual 161, 3) := by decide +kernel
theorem dX6_mix_151 : decode cX6_mix 151 = .ok (.iinc 7 1, 3) := by decide +kernel
theorem dX6_mix_154 : decode cX6_mix 154 = .ok (.goto (-72), 3) := by decide +kernel
theorem dX6_mix_157 : decode cX6_mix 157 = .ok (.iconst 1, 1) := by decide +kernel
theorem dX6_mix_158 : decode cX6_mix 158 = .ok (.ireturn, 1) := by decide +kernel
theorem dX6_turn_0 : decode cX6_turn 0 = .ok (.aload_n 0, 1) := by decide +kernel
theorem dX6_turn_1 : decode cX6_turn 1 = .ok (.iload_n 1, 1) := by decide +kernel
theorem dX6_turn_2 : decode cX6_turn 2 = .ok (.invokevirtual 82, 3) := by decide +kernel
theorem dX6_turn_5 : decode cX6_turn 5 = .ok (.ifCond .eq 33, 3) := by decide +kernel
theorem dX6_turn_8 : decode cX6_turn 8 = .ok (.aload_n 0, 1) := by decide +kernel
theorem dX6_turn_9 : decode cX6_turn 9 = .ok (.iload_n 3, 1) := by decide +kernel
theorem dX6_turn_10 : decode cX6_turn 10 = .ok (.invokevirtual 82, 3) := by decide +kernel
theorem dX6_turn_13 : decode cX6_turn 13 = .ok (.ifCond .eq 25, 3) := by decide +kernel
theorem dX6_turn_16 : decode cX6_turn 16 = .ok (.aload_n 0, 1) := by decide +kernel
theorem dX6_turn_17 : decode cX6_turn 17 = .ok (.iload_n 2, 1) := by decide +kernel
theorem dX6_turn_18 : decode cX6_turn 18 = .ok (.invokevirtual 117, 3) := by decide +kernel
theorem dX6_turn_21 : decode cX6_turn 21 = .ok (.ifCond .eq 17, 3) := by decide +kernel
theorem dX6_turn_24 : decode cX6_turn 24 = .ok (.aload_n 0, 1) := by decide +kernel
theorem dX6_turn_25 : decode cX6_turn 25 = .ok (.aload_n 0, 1) := by decide +kernel
theorem dX6_turn_26 : decode cX6_turn 26 = .ok (.getfield 31, 3) := by decide +kernel
theorem dX6_turn_29 : decode cX6_turn 29 = .ok (.iload_n 1, 1) := by decide +kernel
theorem dX6_turn_30 : decode cX6_turn 30 = .ok (.aaload, 1) := by decide +kernel
theorem dX6_turn_31 : decode cX6_turn 31 = .ok (.iload_n 2, 1) := by decide +kernel
theorem dX6_turn_32 : decode cX6_turn 32 = .ok (.invokevirtual 164, 3) := by decide +kernel
theorem dX6_turn_35 : decode cX6_turn 35 = .ok (.ifCond .ne 5, 3) := by decide +kernel
theorem dX6_turn_38 : decode cX6_turn 38 = .ok (.iconst (-1), 1) := by decide +kernel
theorem dX6_turn_39 : decode cX6_turn 39 = .ok (.ireturn, 1) := by decide +kernel
theorem dX6_turn_40 : decode cX6_turn 40 = .ok (.aload_n 0, 1) := by decide +kernel
theorem dX6_turn_41 : decode cX6_turn 41 = .ok (.getfield 31, 3) := by decide +kernel
theorem dX6_turn_44 : decode cX6_turn 44 = .ok (.iload_n 1, 1) := by decide +kernel
theorem dX6_turn_45 : decode cX6_turn 45 = .ok (.aaload, 1) := by decide +kernel
theorem dX6_turn_46 : decode cX6_turn 46 = .ok (.astore 4, 2) := by decide +kernel
theorem dX6_turn_48 : decode cX6_turn 48 = .ok (.aload 4, 2) := by decide +kernel
theorem dX6_turn_50 : decode cX6_turn 50 = .ok (.iload_n 2, 1) := by decide +kernel
theorem dX6_turn_51 : decode cX6_turn 51 = .ok (.ifCond .le 9, 3) := by decide +kernel
theorem dX6_turn_54 : decode cX6_turn 54 = .ok (.iload_n 2, 1) := by decide +kernel
theorem dX6_turn_55 : decode cX6_turn 55 = .ok (.iconst 1, 1) := by decide +kernel
theorem dX6_turn_56 : decode cX6_turn 56 = .ok (.isub, 1) := by decide +kernel
theorem dX6_turn_57 : decode cX6_turn 57 = .ok (.goto 4, 3) := by decide +kernel
theorem dX6_turn_60 : decode cX6_turn 60 = .ok (.iload_n 2, 1) := by decide +kernel
theorem dX6_turn_61 : decode cX6_turn 61 = .ok (.invokevirtual 154, 3) := by decide +kernel
theorem dX6_turn_64 : decode cX6_turn 64 = .ok (.iload_n 2, 1) := by decide +kernel
theorem dX6_turn_65 : decode cX6_turn 65 = .ok (.if_icmp .ne 7, 3) := by decide +kernel
theorem dX6_turn_68 : decode cX6_turn 68 = .ok (.iconst 1, 1) := by decide +kernel
theorem dX6_turn_69 : decode cX6_turn 69 = .ok (.goto 4, 3) := by decide +kernel
theorem dX6_turn_72 : decode cX6_turn 72 = .ok (.iconst 0, 1) := by decide +kernel
theorem dX6_turn_73 : decode cX6_turn 73 = .ok (.istore 5, 2) := by decide +kernel
theorem dX6_turn_75 : decode cX6_turn 75 = .ok (.aload_n 0, 1) := by decide +kernel
theorem dX6_turn_76 : decode cX6_turn 76 = .ok (.aload 4, 2) := by decide +kernel
theorem dX6_turn_78 : decode cX6_turn 78 = .ok (.iload_n 2, 1) := by decide +kernel
theorem dX6_turn_79 : decode cX6_turn 79 = .ok (.iload 5, 2) := by decide +kernel
theorem dX6_turn_81 : decode cX6_turn 81 = .ok (.invokevirtual 168, 3) := by decide +kernel
theorem dX6_turn_84 : decode cX6_turn 84 = .ok (.aload_n 0, 1) := by decide +kernel
theorem dX6_turn_85 : decode cX6_turn 85 = .ok (.getfield 45, 3) := by decide +kernel
theorem dX6_turn_88 : decode cX6_turn 88 = .ok (.invokevirtual 172, 3) := by decide +kernel
theorem dX6_turn_91 : decode cX6_turn 91 = .ok (.aload_n 0, 1) := by decide +kernel
theorem dX6_turn_92 : decode cX6_turn 92 = .ok (.getfield 45, 3) := by decide +kernel
theorem dX6_turn_95 : decode cX6_turn 95 = .ok (.invokevirtual 175, 3) := by decide +kernel
theorem dX6_turn_98 : decode cX6_turn 98 = .ok (.istore 6, 2) := by decide +kernel
theorem dX6_turn_100 : decode cX6_turn 100 = .ok (.iload 6, 2) := by decide +kernel
theorem dX6_turn_102 : decode cX6_turn 102 = .ok (.iconst 4, 1) := by decide +kernel
theorem dX6_turn_103 : decode cX6_turn 103 = .ok (.if_icmp .le 5, 3) := by decide +kernel
theorem dX6_turn_106 : decode cX6_turn 106 = .ok (.iconst (-1), 1) := by decide +kernel
theorem dX6_turn_107 : decode cX6_turn 107 = .ok (.ireturn, 1) := by decide +kernel
theorem dX6_turn_108 : decode cX6_turn 108 = .ok (.aload_n 0, 1) := by decide +kernel
theorem dX6_turn_109 : decode cX6_turn 109 = .ok (.getfield 36, 3) := by decide +kernel
theorem dX6_turn_112 : decode cX6_turn 112 = .ok (.aload 4, 2) := by decide +kernel
theorem dX6_turn_114 : decode cX6_turn 114 = .ok (.invokevirtual 144, 3) := by decide +kernel
theorem dX6_turn_117 : decode cX6_turn 117 = .ok (.aload_n 0, 1) := by decide +kernel
theorem dX6_turn_118 : decode cX6_turn 118 = .ok (.getfield 36, 3) := by decide +kernel
theorem dX6_turn_121 : decode cX6_turn 121 = .ok (.getfield 95, 3) := by decide +kernel
theorem dX6_turn_124 : decode cX6_turn 124 = .ok (.iload_n 2, 1) := by decide +kernel
theorem dX6_turn_125 : decode cX6_turn 125 = .ok (.iload 6, 2) := by decide +kernel
theorem dX6_turn_127 : decode cX6_turn 127 = .ok (.iastore, 1) := by decide +kernel
theorem dX6_turn_128 : decode cX6_turn 128 = .ok (.iload_n 2, 1) := by decide +kernel
theorem dX6_turn_129 : decode cX6_turn 129 = .ok (.ifCond .le 15, 3) := by decide +kernel
theorem dX6_turn_132 : decode cX6_turn 132 = .ok (.aload 4, 2) := by decide +kernel
theorem dX6_turn_134 : decode cX6_turn 134 = .ok (.getfield 95, 3) := by decide +kernel
theorem dX6_turn_137 : decode cX6_turn 137 = .ok (.iload_n 2, 1) := by decide +kernel
theorem dX6_turn_138 : decode cX6_turn 138 = .ok (.iconst 1, 1) := by decide +kernel
theorem dX6_turn_139 : decode cX6_turn 139 = .ok (.isub, 1) := by decide +kernel
theorem dX6_turn_140 : decode cX6_turn 140 = .ok (.iaload, 1) := by decide +kernel
theorem dX6_turn_141 : decode cX6_turn 141 = .ok (.goto 4, 3) := by decide +kernel
theorem dX6_turn_144 : decode cX6_turn 144 = .ok (.iconst 0, 1) := by decide +kernel
theorem dX6_turn_145 : decode cX6_turn 145 = .ok (.istore 7, 2) := by decide +kernel
theorem dX6_turn_147 : decode cX6_turn 147 = .ok (.aload_n 0, 1) := by decide +kernel
theorem dX6_turn_148 : decode cX6_turn 148 = .ok (.iload_n 2, 1) := by decide +kernel
theorem dX6_turn_149 : decode cX6_turn 149 = .ok (.iconst 1, 1) := by decide +kernel
theorem dX6_turn_150 : decode cX6_turn 150 = .ok (.isub, 1) := by decide +kernel
theorem dX6_turn_151 : decode cX6_turn 151 = .ok (.invokevirtual 151, 3) := by decide +kernel
theorem dX6_turn_154 : decode cX6_turn 154 = .ok (.ifCond .eq 15, 3) := by decide +kernel
theorem dX6_turn_157 : decode cX6_turn 157 = .ok (.aload_n 0, 1) := by decide +kernel
theorem dX6_turn_158 : decode cX6_turn 158 = .ok (.iload_n 2, 1) := by decide +kernel
theorem dX6_turn_159 : decode cX6_turn 159 = .ok (.iconst 1, 1) := by decide +kernel
theorem dX6_turn_160 : decode cX6_turn 160 = .ok (.isub, 1) := by decide +kernel
theorem dX6_turn_161 : decode cX6_turn 161 = .ok (.iload 5, 2) := by decide +kernel
theorem dX6_turn_163 : decode cX6_turn 163 = .ok (.iconst 0, 1) := by decide +kernel
theorem dX6_turn_164 : decode cX6_turn 164 = .ok (.iload 7, 2) := by decide +kernel
theorem dX6_turn_166 : decode cX6_turn 166 = .ok (.invokevirtual 179, 3) := by decide +kernel
theorem dX6_turn_169 : decode cX6_turn 169 = .ok (.aload_n 0, 1) := by decide +kernel
theorem dX6_turn_170 : decode cX6_turn 170 = .ok (.iload_n 2, 1) := by decide +kernel
theorem dX6_turn_171 : decode cX6_turn 171 = .ok (.invokevirtual 151, 3) := by decide +kernel
theorem dX6_turn_174 : decode cX6_turn 174 = .ok (.ifCond .eq 21, 3) := by decide +kernel
theorem dX6_turn_177 : decode cX6_turn 177 = .ok (.aload_n 0, 1) := by decide +kernel
theorem dX6_turn_178 : decode cX6_turn 178 = .ok (.iload_n 2, 1) := by decide +kernel
theorem dX6_turn_179 : decode cX6_turn 179 = .ok (.iload 5, 2) := by decide +kernel
theorem dX6_turn_181 : decode cX6_turn 181 = .ok (.iload 7, 2) := by decide +kernel
theorem dX6_turn_183 : decode cX6_turn 183 = .ok (.aload 4, 2) := by decide +kernel
theorem dX6_turn_185 : decode cX6_turn 185 = .ok (.getfield 95, 3) := by decide +kernel
theorem dX6_turn_188 : decode cX6_turn 188 = .ok (.iload_n 2, 1) := by decide +kernel
theorem dX6_turn_189 : decode cX6_turn 189 = .ok (.iconst 1, 1) := by decide +kernel
theorem dX6_turn_190 : decode cX6_turn 190 = .ok (.iadd, 1) := by decide +kernel
theorem dX6_turn_191 : decode cX6_turn 191 = .ok (.iaload, 1) := by decide +kernel
theorem dX6_turn_192 : decode cX6_turn 192 = .ok (.invokevirtual 179, 3) := by decide +kernel
theorem dX6_turn_195 : decode cX6_turn 195 = .ok (.aload_n 0, 1) := by decide +kernel
theorem dX6_turn_196 : decode cX6_turn 196 = .ok (.getfield 31, 3) := by decide +kernel
theorem dX6_turn_199 : decode cX6_turn 199 = .ok (.iload_n 3, 1) := by decide +kernel
theorem dX6_turn_200 : decode cX6_turn 200 = .ok (.aaload, 1) := by decide +kernel
theorem dX6_turn_201 : decode cX6_turn 201 = .ok (.aload_n 0, 1) := by decide +kernel
theorem dX6_turn_202 : decode cX6_turn 202 = .ok (.getfield 36, 3) := by decide +kernel
theorem dX6_turn_205 : decode cX6_turn 205 = .ok (.invokevirtual 144, 3) := by decide +kernel
theorem dX6_turn_208 : decode cX6_turn 208 = .ok (.iload 6, 2) := by decide +kernel
theorem dX6_turn_210 : decode cX6_turn 210 = .ok (.ireturn, 1) := by decide +kernel
theorem dX6_maps_0 : decode cX6_maps 0 = .ok (.aload_n 0, 1) := by decide +kernel
theorem dX6_maps_1 : decode cX6_maps 1 = .ok (.iload_n 1, 1) := by decide +kernel
theorem dX6_maps_2 : decode cX6_maps 2 = .ok (.iload_n 2, 1) := by decide +kernel
theorem dX6_maps_3 : decode cX6_maps 3 = .ok (.invokevirtual 127, 3) := by decide +kernel
theorem dX6_maps_6 : decode cX6_maps 6 = .ok (.ifCond .ne 5, 3) := by decide +kernel
theorem dX6_maps_9 : decode cX6_maps 9 = .ok (.iconst (-1), 1) := by decide +kernel
theorem dX6_maps_10 : decode cX6_maps 10 = .ok (.ireturn, 1) := by decide +kernel
theorem dX6_maps_11 : decode cX6_maps 11 = .ok (.aload_n 0, 1) := by decide +kernel
theorem dX6_maps_12 : decode cX6_maps 12 = .ok (.getfield 54, 3) := by decide +kernel
theorem dX6_maps_15 : decode cX6_maps 15 = .ok (.aload_n 0, 1) := by decide +kernel
theorem dX6_maps_16 : decode cX6_maps 16 = .ok (.getfield 31, 3) := by decide +kernel
theorem dX6_maps_19 : decode cX6_maps 19 = .ok (.iload_n 1, 1) := by decide +kernel
theorem dX6_maps_20 : decode cX6_maps 20 = .ok (.aaload, 1) := by decide +kernel
theorem dX6_maps_21 : decode cX6_maps 21 = .ok (.aload_n 0, 1) := by decide +kernel
theorem dX6_maps_22 : decode cX6_maps 22 = .ok (.getfield 61, 3) := by decide +kernel
theorem dX6_maps_25 : decode cX6_maps 25 = .ok (.invokevirtual 183, 3) := by decide +kernel
theorem dX6_maps_28 : decode cX6_maps 28 = .ok (.aload_n 0, 1) := by decide +kernel
theorem dX6_maps_29 : decode cX6_maps 29 = .ok (.getfield 54, 3) := by decide +kernel
theorem dX6_maps_32 : decode cX6_maps 32 = .ok (.aload_n 0, 1) := by decide +kernel
theorem dX6_maps_33 : decode cX6_maps 33 = .ok (.getfield 31, 3) := by decide +kernel
theorem dX6_maps_36 : decode cX6_maps 36 = .ok (.iload_n 2, 1) := by decide +kernel
theorem dX6_maps_37 : decode cX6_maps 37 = .ok (.aaload, 1) := by decide +kernel
theorem dX6_maps_38 : decode cX6_maps 38 = .ok (.aload_n 0, 1) := by decide +kernel
theorem dX6_maps_39 : decode cX6_maps 39 = .ok (.getfield 65, 3) := by decide +kernel
theorem dX6_maps_42 : decode cX6_maps 42 = .ok (.invokevirtual 183, 3) := by decide +kernel
theorem dX6_maps_45 : decode cX6_maps 45 = .ok (.aload_n 0, 1) := by decide +kernel
theorem dX6_maps_46 : decode cX6_maps 46 = .ok (.aload_n 0, 1) := by decide +kernel
theorem dX6_maps_47 : decode cX6_maps 47 = .ok (.getfield 31, 3) := by decide +kernel
theorem dX6_maps_50 : decode cX6_maps 50 = .ok (.iload_n 1, 1) := by decide +kernel
theorem dX6_maps_51 : decode cX6_maps 51 = .ok (.aaload, 1) := by decide +kernel
theorem dX6_maps_52 : decode cX6_maps 52 = .ok (.invokevirtual 187, 3) := by decide +kernel
theorem dX6_maps_55 : decode cX6_maps 55 = .ok (.ireturn, 1) := by decide +kernel
theorem dX6_bends_0 : decode cX6_bends 0 = .ok (.aload_n 0, 1) := by decide +kernel
theorem dX6_bends_1 : decode cX6_bends 1 = .ok (.iload_n 1, 1) := by decide +kernel
theorem dX6_bends_2 : decode cX6_bends 2 = .ok (.iload_n 2, 1) := by decide +kernel
theorem dX6_bends_3 : decode cX6_bends 3 = .ok (.invokevirtual 127, 3) := by decide +kernel
theorem dX6_bends_6 : decode cX6_bends 6 = .ok (.ifCond .ne 5, 3) := by decide +kernel
theorem dX6_bends_9 : decode cX6_bends 9 = .ok (.iconst (-1), 1) := by decide +kernel
theorem dX6_bends_10 : decode cX6_bends 10 = .ok (.ireturn, 1) := by decide +kernel
theorem dX6_bends_11 : decode cX6_bends 11 = .ok (.aload_n 0, 1) := by decide +kernel
theorem dX6_bends_12 : decode cX6_bends 12 = .ok (.getfield 54, 3) := by decide +kernel
theorem dX6_bends_15 : decode cX6_bends 15 = .ok (.aload_n 0, 1) := by decide +kernel
theorem dX6_bends_16 : decode cX6_bends 16 = .ok (.getfield 31, 3) := by decide +kernel
theorem dX6_bends_19 : decode cX6_bends 19 = .ok (.iload_n 1, 1) := by decide +kernel
theorem dX6_bends_20 : decode cX6_bends 20 = .ok (.aaload, 1) := by decide +kernel
theorem dX6_bends_21 : decode cX6_bends 21 = .ok (.aload_n 0, 1) := by decide +kernel
theorem dX6_bends_22 : decode cX6_bends 22 = .ok (.getfield 61, 3) := by decide +kernel
theorem dX6_bends_25 : decode cX6_bends 25 = .ok (.invokevirtual 183, 3) := by decide +kernel
theorem dX6_bends_28 : decode cX6_bends 28 = .ok (.aload_n 0, 1) := by decide +kernel
theorem dX6_bends_29 : decode cX6_bends 29 = .ok (.getfield 54, 3) := by decide +kernel
theorem dX6_bends_32 : decode cX6_bends 32 = .ok (.aload_n 0, 1) := by decide +kernel
theorem dX6_bends_33 : decode cX6_bends 33 = .ok (.getfield 31, 3) := by decide +kernel
theorem dX6_bends_36 : decode cX6_bends 36 = .ok (.iload_n 2, 1) := by decide +kernel
theorem dX6_bends_37 : decode cX6_bends 37 = .ok (.aaload, 1) := by decide +kernel
theorem dX6_bends_38 : decode cX6_bends 38 = .ok (.aload_n 0, 1) := by decide +kernel
theorem dX6_bends_39 : decode cX6_bends 39 = .ok (.getfield 65, 3) := by decide +kernel
theorem dX6_bends_42 : decode cX6_bends 42 = .ok (.invokevirtual 183, 3) := by decide +kernel
theorem dX6_bends_45 : decode cX6_bends 45 = .ok (.aload_n 0, 1) := by decide +kernel
theorem dX6_bends_46 : decode cX6_bends 46 = .ok (.aload_n 0, 1) := by decide +kernel
theorem dX6_bends_47 : decode cX6_bends 47 = .ok (.getfield 31, 3) := by decide +kernel
theorem dX6_bends_50 : decode cX6_bends 50 = .ok (.iload_n 1, 1) := by decide +kernel
theorem dX6_bends_51 : decode cX6_bends 51 = .ok (.aaload, 1) := by decide +kernel
theorem dX6_bends_52 : decode cX6_bends 52 = .ok (.invokevirtual 187, 3) := by decide +kernel
theorem dX6_bends_55 : decode cX6_bends 55 = .ok (.aload_n 0, 1) := by decide +kernel
theorem dX6_bends_56 : decode cX6_bends 56 = .ok (.iload_n 1, 1) := by decide +kernel
theorem dX6_bends_57 : decode cX6_bends 57 = .ok (.iload_n 2, 1) := by decide +kernel
theorem dX6_bends_58 : decode cX6_bends 58 = .ok (.invokevirtual 191, 3) := by decide +kernel
theorem dX6_bends_61 : decode cX6_bends 61 = .ok (.isub, 1) := by decide +kernel
theorem dX6_bends_62 : decode cX6_bends 62 = .ok (.ireturn, 1) := by decide +kernel
theorem dX6_form_0 : decode cX6_form 0 = .ok (.aload_n 0, 1) := by decide +kernel
theorem dX6_form_1 : decode cX6_form 1 = .ok (.iload_n 1, 1) := by decide +kernel
theorem dX6_form_2 : decode cX6_form 2 = .ok (.invokevirtual 82, 3) := by decide +kernel
theorem dX6_form_5 : decode cX6_form 5 = .ok (.ifCond .eq 11, 3) := by decide +kernel
theorem dX6_form_8 : decode cX6_form 8 = .ok (.aload_n 0, 1) := by decide +kernel
theorem dX6_form_9 : decode cX6_form 9 = .ok (.iload_n 2, 1) := by decide +kernel
theorem dX6_form_10 : decode cX6_form 10 = .ok (.invokevirtual 82, 3) := by decide +kernel
theorem dX6_form_13 : decode cX6_form 13 = .ok (.ifCond .ne 5, 3) := by decide +kernel
theorem dX6_form_16 : decode cX6_form 16 = .ok (.iconst 0, 1) := by decide +kernel
theorem dX6_form_17 : decode cX6_form 17 = .ok (.ireturn, 1) := by decide +kernel
theorem dX6_form_18 : decode cX6_form 18 = .ok (.aload_n 0, 1) := by decide +kernel
theorem dX6_form_19 : decode cX6_form 19 = .ok (.getfield 31, 3) := by decide +kernel
theorem dX6_form_22 : decode cX6_form 22 = .ok (.iload_n 1, 1) := by decide +kernel
theorem dX6_form_23 : decode cX6_form 23 = .ok (.aaload, 1) := by decide +kernel
theorem dX6_form_24 : decode cX6_form 24 = .ok (.getfield 95, 3) := by decide +kernel
theorem dX6_form_27 : decode cX6_form 27 = .ok (.astore_n 3, 1) := by decide +kernel
theorem dX6_form_28 : decode cX6_form 28 = .ok (.aload_n 0, 1) := by decide +kernel
theorem dX6_form_29 : decode cX6_form 29 = .ok (.getfield 31, 3) := by decide +kernel
theorem dX6_form_32 : decode cX6_form 32 = .ok (.iload_n 2, 1) := by decide +kernel
theorem dX6_form_33 : decode cX6_form 33 = .ok (.aaload, 1) := by decide +kernel
theorem dX6_form_34 : decode cX6_form 34 = .ok (.getfield 95, 3) := by decide +kernel
theorem dX6_form_37 : decode cX6_form 37 = .ok (.astore 4, 2) := by decide +kernel
theorem dX6_form_39 : decode cX6_form 39 = .ok (.iconst 0, 1) := by decide +kernel
theorem dX6_form_40 : decode cX6_form 40 = .ok (.istore 5, 2) := by decide +kernel
theorem dX6_form_42 : decode cX6_form 42 = .ok (.iconst 0, 1) := by decide +kernel
theorem dX6_form_43 : decode cX6_form 43 = .ok (.istore 6, 2) := by decide +kernel
theorem dX6_form_45 : decode cX6_form 45 = .ok (.iload 6, 2) := by decide +kernel
theorem dX6_form_47 : decode cX6_form 47 = .ok (.aload_n 0, 1) := by decide +kernel
theorem dX6_form_48 : decode cX6_form 48 = .ok (.getfield 26, 3) := by decide +kernel
theorem dX6_form_51 : decode cX6_form 51 = .ok (.if_icmp .ge 24, 3) := by decide +kernel
theorem dX6_form_54 : decode cX6_form 54 = .ok (.iload 5, 2) := by decide +kernel
theorem dX6_form_56 : decode cX6_form 56 = .ok (.aload_n 3, 1) := by decide +kernel
theorem dX6_form_57 : decode cX6_form 57 = .ok (.iload 6, 2) := by decide +kernel
theorem dX6_form_59 : decode cX6_form 59 = .ok (.iaload, 1) := by decide +kernel
theorem dX6_form_60 : decode cX6_form 60 = .ok (.aload 4, 2) := by decide +kernel
theorem dX6_form_62 : decode cX6_form 62 = .ok (.iload 6, 2) := by decide +kernel
theorem dX6_form_64 : decode cX6_form 64 = .ok (.iaload, 1) := by decide +kernel
theorem dX6_form_65 : decode cX6_form 65 = .ok (.imul, 1) := by decide +kernel
theorem dX6_form_66 : decode cX6_form 66 = .ok (.iadd, 1) := by decide +kernel
theorem dX6_form_67 : decode cX6_form 67 = .ok (.istore 5, 2) := by decide +kernel
theorem dX6_form_69 : decode cX6_form 69 = .ok (.iinc 6 1, 3) := by decide +kernel
theorem dX6_form_72 : decode cX6_form 72 = .ok (.goto (-27), 3) := by decide +kernel
theorem dX6_form_75 : decode cX6_form 75 = .ok (.iconst 0, 1) := by decide +kernel
theorem dX6_form_76 : decode cX6_form 76 = .ok (.istore 6, 2) := by decide +kernel
theorem dX6_form_78 : decode cX6_form 78 = .ok (.iload 6, 2) := by decide +kernel
theorem dX6_form_80 : decode cX6_form 80 = .ok (.aload_n 0, 1) := by decide +kernel
theorem dX6_form_81 : decode cX6_form 81 = .ok (.getfield 26, 3) := by decide +kernel
theorem dX6_form_84 : decode cX6_form 84 = .ok (.iconst 1, 1) := by decide +kernel
theorem dX6_form_85 : decode cX6_form 85 = .ok (.isub, 1) := by decide +kernel
theorem dX6_form_86 : decode cX6_form 86 = .ok (.if_icmp .ge 42, 3) := by decide +kernel
theorem dX6_form_89 : decode cX6_form 89 = .ok (.iload 5, 2) := by decide +kernel
theorem dX6_form_91 : decode cX6_form 91 = .ok (.aload_n 3, 1) := by decide +kernel
theorem dX6_form_92 : decode cX6_form 92 = .ok (.aload_n 0, 1) := by decide +kernel
theorem dX6_form_93 : decode cX6_form 93 = .ok (.getfield 31, 3) := by decide +kernel
theorem dX6_form_96 : decode cX6_form 96 = .ok (.iload_n 1, 1) := by decide +kernel
theorem dX6_form_97 : decode cX6_form 97 = .ok (.aaload, 1) := by decide +kernel
theorem dX6_form_98 : decode cX6_form 98 = .ok (.iload 6, 2) := by decide +kernel
theorem dX6_form_100 : decode cX6_form 100 = .ok (.invokevirtual 194, 3) := by decide +kernel
theorem dX6_form_103 : decode cX6_form 103 = .ok (.iaload, 1) := by decide +kernel
theorem dX6_form_104 : decode cX6_form 104 = .ok (.aload 4, 2) := by decide +kernel
theorem dX6_form_106 : decode cX6_form 106 = .ok (.aload_n 0, 1) := by decide +kernel
theorem dX6_form_107 : decode cX6_form 107 = .ok (.getfield 31, 3) := by decide +kernel
theorem dX6_form_110 : decode cX6_form 110 = .ok (.iload_n 1, 1) := by decide +kernel
theorem dX6_form_111 : decode cX6_form 111 = .ok (.aaload, 1) := by decide +kernel
theorem dX6_form_112 : decode cX6_form 112 = .ok (.iload 6, 2) := by decide +kernel
theorem dX6_form_114 : decode cX6_form 114 = .ok (.invokevirtual 154, 3) := by decide +kernel
theorem dX6_form_117 : decode cX6_form 117 = .ok (.iaload, 1) := by decide +kernel
theorem dX6_form_118 : decode cX6_form 118 = .ok (.imul, 1) := by decide +kernel
theorem dX6_form_119 : decode cX6_form 119 = .ok (.isub, 1) := by decide +kernel
theorem dX6_form_120 : decode cX6_form 120 = .ok (.istore 5, 2) := by decide +kernel
theorem dX6_form_122 : decode cX6_form 122 = .ok (.iinc 6 1, 3) := by decide +kernel
theorem dX6_form_125 : decode cX6_form 125 = .ok (.goto (-47), 3) := by decide +kernel
theorem dX6_form_128 : decode cX6_form 128 = .ok (.iload 5, 2) := by decide +kernel
theorem dX6_form_130 : decode cX6_form 130 = .ok (.ireturn, 1) := by decide +kernel
theorem dX6_spans_0 : decode cX6_spans 0 = .ok (.aload_n 0, 1) := by decide +kernel
theorem dX6_spans_1 : decode cX6_spans 1 = .ok (.iload_n 1, 1) := by decide +kernel
theorem dX6_spans_2 : decode cX6_spans 2 = .ok (.invokevirtual 82, 3) := by decide +kernel
theorem dX6_spans_5 : decode cX6_spans 5 = .ok (.ifCond .eq 12, 3) := by decide +kernel
theorem dX6_spans_8 : decode cX6_spans 8 = .ok (.aload_n 0, 1) := by decide +kernel
theorem dX6_spans_9 : decode cX6_spans 9 = .ok (.iload_n 2, 1) := by decide +kernel
theorem dX6_spans_10 : decode cX6_spans 10 = .ok (.iload_n 3, 1) := by decide +kernel
theorem dX6_spans_11 : decode cX6_spans 11 = .ok (.invokevirtual 123, 3) := by decide +kernel
theorem dX6_spans_14 : decode cX6_spans 14 = .ok (.ifCond .ne 5, 3) := by decide +kernel
theorem dX6_spans_17 : decode cX6_spans 17 = .ok (.iconst (-1), 1) := by decide +kernel
theorem dX6_spans_18 : decode cX6_spans 18 = .ok (.ireturn, 1) := by decide +kernel
theorem dX6_spans_19 : decode cX6_spans 19 = .ok (.aload_n 0, 1) := by decide +kernel
theorem dX6_spans_20 : decode cX6_spans 20 = .ok (.getfield 54, 3) := by decide +kernel
theorem dX6_spans_23 : decode cX6_spans 23 = .ok (.aload_n 0, 1) := by decide +kernel
theorem dX6_spans_24 : decode cX6_spans 24 = .ok (.getfield 31, 3) := by decide +kernel
theorem dX6_spans_27 : decode cX6_spans 27 = .ok (.iload_n 1, 1) := by decide +kernel
theorem dX6_spans_28 : decode cX6_spans 28 = .ok (.aaload, 1) := by decide +kernel
theorem dX6_spans_29 : decode cX6_spans 29 = .ok (.iload_n 2, 1) := by decide +kernel
theorem dX6_spans_30 : decode cX6_spans 30 = .ok (.iload_n 3, 1) := by decide +kernel
theorem dX6_spans_31 : decode cX6_spans 31 = .ok (.invokevirtual 197, 3) := by decide +kernel
theorem dX6_spans_34 : decode cX6_spans 34 = .ok (.ireturn, 1) := by decide +kernel
theorem dX6_like_0 : decode cX6_like 0 = .ok (.aload_n 0, 1) := by decide +kernel
theorem dX6_like_1 : decode cX6_like 1 = .ok (.iload_n 1, 1) := by decide +kernel
theorem dX6_like_2 : decode cX6_like 2 = .ok (.iload_n 2, 1) := by decide +kernel
theorem dX6_like_3 : decode cX6_like 3 = .ok (.invokevirtual 127, 3) := by decide +kernel
theorem dX6_like_6 : decode cX6_like 6 = .ok (.ifCond .ne 5, 3) := by decide +kernel
theorem dX6_like_9 : decode cX6_like 9 = .ok (.iconst 0, 1) := by decide +kernel
theorem dX6_like_10 : decode cX6_like 10 = .ok (.ireturn, 1) := by decide +kernel
theorem dX6_like_11 : decode cX6_like 11 = .ok (.aload_n 0, 1) := by decide +kernel
theorem dX6_like_12 : decode cX6_like 12 = .ok (.getfield 54, 3) := by decide +kernel
theorem dX6_like_15 : decode cX6_like 15 = .ok (.aload_n 0, 1) := by decide +kernel
theorem dX6_like_16 : decode cX6_like 16 = .ok (.getfield 31, 3) := by decide +kernel
theorem dX6_like_19 : decode cX6_like 19 = .ok (.iload_n 1, 1) := by decide +kernel
theorem dX6_like_20 : decode cX6_like 20 = .ok (.aaload, 1) := by decide +kernel
theorem dX6_like_21 : decode cX6_like 21 = .ok (.aload_n 0, 1) := by decide +kernel
theorem dX6_like_22 : decode cX6_like 22 = .ok (.getfield 61, 3) := by decide +kernel
theorem dX6_like_25 : decode cX6_like 25 = .ok (.invokevirtual 183, 3) := by decide +kernel
theorem dX6_like_28 : decode cX6_like 28 = .ok (.aload_n 0, 1) := by decide +kernel
theorem dX6_like_29 : decode cX6_like 29 = .ok (.getfield 54, 3) := by decide +kernel
theorem dX6_like_32 : decode cX6_like 32 = .ok (.aload_n 0, 1) := by decide +kernel
theorem dX6_like_33 : decode cX6_like 33 = .ok (.getfield 31, 3) := by decide +kernel
theorem dX6_like_36 : decode cX6_like 36 = .ok (.iload_n 2, 1) := by decide +kernel
theorem dX6_like_37 : decode cX6_like 37 = .ok (.aaload, 1) := by decide +kernel
theorem dX6_like_38 : decode cX6_like 38 = .ok (.aload_n 0, 1) := by decide +kernel
theorem dX6_like_39 : decode cX6_like 39 = .ok (.getfield 65, 3) := by decide +kernel
theorem dX6_like_42 : decode cX6_like 42 = .ok (.invokevirtual 183, 3) := by decide +kernel
theorem dX6_like_45 : decode cX6_like 45 = .ok (.aload_n 0, 1) := by decide +kernel
theorem dX6_like_46 : decode cX6_like 46 = .ok (.getfield 61, 3) := by decide +kernel
theorem dX6_like_49 : decode cX6_like 49 = .ok (.aload_n 0, 1) := by decide +kernel
theorem dX6_like_50 : decode cX6_like 50 = .ok (.getfield 65, 3) := by decide +kernel
theorem dX6_like_53 : decode cX6_like 53 = .ok (.invokevirtual 201, 3) := by decide +kernel
theorem dX6_like_56 : decode cX6_like 56 = .ok (.ireturn, 1) := by decide +kernel
theorem dX6_rank_0 : decode cX6_rank 0 = .ok (.aload_n 0, 1) := by decide +kernel
theorem dX6_rank_1 : decode cX6_rank 1 = .ok (.iload_n 1, 1) := by decide +kernel
theorem dX6_rank_2 : decode cX6_rank 2 = .ok (.invokevirtual 82, 3) := by decide +kernel
theorem dX6_rank_5 : decode cX6_rank 5 = .ok (.ifCond .eq 33, 3) := by decide +kernel
theorem dX6_rank_8 : decode cX6_rank 8 = .ok (.aload_n 0, 1) := by decide +kernel
theorem dX6_rank_9 : decode cX6_rank 9 = .ok (.iload_n 2, 1) := by decide +kernel
theorem dX6_rank_10 : decode cX6_rank 10 = .ok (.invokevirtual 117, 3) := by decide +kernel
theorem dX6_rank_13 : decode cX6_rank 13 = .ok (.ifCond .eq 25, 3) := by decide +kernel
theorem dX6_rank_16 : decode cX6_rank 16 = .ok (.aload_n 0, 1) := by decide +kernel
theorem dX6_rank_17 : decode cX6_rank 17 = .ok (.iload_n 3, 1) := by decide +kernel
theorem dX6_rank_18 : decode cX6_rank 18 = .ok (.invokevirtual 117, 3) := by decide +kernel
theorem dX6_rank_21 : decode cX6_rank 21 = .ok (.ifCond .eq 17, 3) := by decide +kernel
theorem dX6_rank_24 : decode cX6_rank 24 = .ok (.aload_n 0, 1) := by decide +kernel
theorem dX6_rank_25 : decode cX6_rank 25 = .ok (.getfield 31, 3) := by decide +kernel
theorem dX6_rank_28 : decode cX6_rank 28 = .ok (.iload_n 1, 1) := by decide +kernel
theorem dX6_rank_29 : decode cX6_rank 29 = .ok (.aaload, 1) := by decide +kernel
theorem dX6_rank_30 : decode cX6_rank 30 = .ok (.iload_n 2, 1) := by decide +kernel
theorem dX6_rank_31 : decode cX6_rank 31 = .ok (.iload_n 3, 1) := by decide +kernel
theorem dX6_rank_32 : decode cX6_rank 32 = .ok (.invokestatic 205, 3) := by decide +kernel
theorem dX6_rank_35 : decode cX6_rank 35 = .ok (.ifCond .ne 5, 3) := by decide +kernel
theorem dX6_rank_38 : decode cX6_rank 38 = .ok (.iconst (-1), 1) := by decide +kernel
theorem dX6_rank_39 : decode cX6_rank 39 = .ok (.ireturn, 1) := by decide +kernel
theorem dX6_rank_40 : decode cX6_rank 40 = .ok (.aload_n 0, 1) := by decide +kernel
theorem dX6_rank_41 : decode cX6_rank 41 = .ok (.getfield 54, 3) := by decide +kernel
theorem dX6_rank_44 : decode cX6_rank 44 = .ok (.aload_n 0, 1) := by decide +kernel
theorem dX6_rank_45 : decode cX6_rank 45 = .ok (.getfield 31, 3) := by decide +kernel
theorem dX6_rank_48 : decode cX6_rank 48 = .ok (.iload_n 1, 1) := by decide +kernel
theorem dX6_rank_49 : decode cX6_rank 49 = .ok (.aaload, 1) := by decide +kernel
theorem dX6_rank_50 : decode cX6_rank 50 = .ok (.iload_n 2, 1) := by decide +kernel
theorem dX6_rank_51 : decode cX6_rank 51 = .ok (.iload_n 3, 1) := by decide +kernel
theorem dX6_rank_52 : decode cX6_rank 52 = .ok (.invokestatic 17, 3) := by decide +kernel
theorem dX6_rank_55 : decode cX6_rank 55 = .ok (.iload_n 2, 1) := by decide +kernel
theorem dX6_rank_56 : decode cX6_rank 56 = .ok (.iload_n 3, 1) := by decide +kernel
theorem dX6_rank_57 : decode cX6_rank 57 = .ok (.invokestatic 23, 3) := by decide +kernel
theorem dX6_rank_60 : decode cX6_rank 60 = .ok (.invokevirtual 209, 3) := by decide +kernel
theorem dX6_rank_63 : decode cX6_rank 63 = .ok (.ireturn, 1) := by decide +kernel
theorem dX6_far_0 : decode cX6_far 0 = .ok (.aload_n 0, 1) := by decide +kernel
theorem dX6_far_1 : decode cX6_far 1 = .ok (.iload_n 1, 1) := by decide +kernel
theorem dX6_far_2 : decode cX6_far 2 = .ok (.iload_n 2, 1) := by decide +kernel
theorem dX6_far_3 : decode cX6_far 3 = .ok (.invokevirtual 127, 3) := by decide +kernel
theorem dX6_far_6 : decode cX6_far 6 = .ok (.ifCond .eq 15, 3) := by decide +kernel
theorem dX6_far_9 : decode cX6_far 9 = .ok (.aload_n 0, 1) := by decide +kernel
theorem dX6_far_10 : decode cX6_far 10 = .ok (.getfield 31, 3) := by decide +kernel
theorem dX6_far_13 : decode cX6_far 13 = .ok (.iload_n 1, 1) := by decide +kernel
theorem dX6_far_14 : decode cX6_far 14 = .ok (.aaload, 1) := by decide +kernel
theorem dX6_far_15 : decode cX6_far 15 = .ok (.getfield 120, 3) := by decide +kernel
theorem dX6_far_18 : decode cX6_far 18 = .ok (.ifCond .eq 5, 3) := by decide +kernel
theorem dX6_far_21 : decode cX6_far 21 = .ok (.iconst (-1), 1) := by decide +kernel
theorem dX6_far_22 : decode cX6_far 22 = .ok (.ireturn, 1) := by decide +kernel
theorem dX6_far_23 : decode cX6_far 23 = .ok (.aload_n 0, 1) := by decide +kernel
theorem dX6_far_24 : decode cX6_far 24 = .ok (.getfield 54, 3) := by decide +kernel
theorem dX6_far_27 : decode cX6_far 27 = .ok (.aload_n 0, 1) := by decide +kernel
theorem dX6_far_28 : decode cX6_far 28 = .ok (.getfield 31, 3) := by decide +kernel
theorem dX6_far_31 : decode cX6_far 31 = .ok (.iload_n 1, 1) := by decide +kernel
theorem dX6_far_32 : decode cX6_far 32 = .ok (.aaload, 1) := by decide +kernel
theorem dX6_far_33 : decode cX6_far 33 = .ok (.aload_n 0, 1) := by decide +kernel
theorem dX6_far_34 : decode cX6_far 34 = .ok (.getfield 61, 3) := by decide +kernel
theorem dX6_far_37 : decode cX6_far 37 = .ok (.invokevirtual 183, 3) := by decide +kernel
theorem dX6_far_40 : decode cX6_far 40 = .ok (.aload_n 0, 1) := by decide +kernel
theorem dX6_far_41 : decode cX6_far 41 = .ok (.getfield 54, 3) := by decide +kernel
theorem dX6_far_44 : decode cX6_far 44 = .ok (.aload_n 0, 1) := by decide +kernel
theorem dX6_far_45 : decode cX6_far 45 = .ok (.getfield 31, 3) := by decide +kernel
theorem dX6_far_48 : decode cX6_far 48 = .ok (.iload_n 2, 1) := by decide +kernel
theorem dX6_far_49 : decode cX6_far 49 = .ok (.aaload, 1) := by decide +kernel
theorem dX6_far_50 : decode cX6_far 50 = .ok (.aload_n 0, 1) := by decide +kernel
theorem dX6_far_51 : decode cX6_far 51 = .ok (.getfield 65, 3) := by decide +kernel
theorem dX6_far_54 : decode cX6_far 54 = .ok (.invokevirtual 183, 3) := by decide +kernel
theorem dX6_far_57 : decode cX6_far 57 = .ok (.aload_n 0, 1) := by decide +kernel
theorem dX6_far_58 : decode cX6_far 58 = .ok (.getfield 71, 3) := by decide +kernel
theorem dX6_far_61 : decode cX6_far 61 = .ok (.aload_n 0, 1) := by decide +kernel
theorem dX6_far_62 : decode cX6_far 62 = .ok (.getfield 61, 3) := by decide +kernel
theorem dX6_far_65 : decode cX6_far 65 = .ok (.aload_n 0, 1) := by decide +kernel
theorem dX6_far_66 : decode cX6_far 66 = .ok (.getfield 65, 3) := by decide +kernel
theorem dX6_far_69 : decode cX6_far 69 = .ok (.aload_n 0, 1) := by decide +kernel
theorem dX6_far_70 : decode cX6_far 70 = .ok (.getfield 26, 3) := by decide +kernel
theorem dX6_far_73 : decode cX6_far 73 = .ok (.invokevirtual 212, 3) := by decide +kernel
theorem dX6_far_76 : decode cX6_far 76 = .ok (.ireturn, 1) := by decide +kernel
theorem dX6_kind_0 : decode cX6_kind 0 = .ok (.aload_n 0, 1) := by decide +kernel
theorem dX6_kind_1 : decode cX6_kind 1 = .ok (.getfield 78, 3) := by decide +kernel
theorem dX6_kind_4 : decode cX6_kind 4 = .ok (.iload_n 1, 1) := by decide +kernel
theorem dX6_kind_5 : decode cX6_kind 5 = .ok (.iload_n 2, 1) := by decide +kernel
theorem dX6_kind_6 : decode cX6_kind 6 = .ok (.invokevirtual 216, 3) := by decide +kernel
theorem dX6_kind_9 : decode cX6_kind 9 = .ok (.ifCond .eq 13, 3) := by decide +kernel
theorem dX6_kind_12 : decode cX6_kind 12 = .ok (.aload_n 0, 1) := by decide +kernel
theorem dX6_kind_13 : decode cX6_kind 13 = .ok (.getfield 78, 3) := by decide +kernel
theorem dX6_kind_16 : decode cX6_kind 16 = .ok (.invokevirtual 219, 3) := by decide +kernel
theorem dX6_kind_19 : decode cX6_kind 19 = .ok (.goto 4, 3) := by decide +kernel
theorem dX6_kind_22 : decode cX6_kind 22 = .ok (.iconst (-1), 1) := by decide +kernel
theorem dX6_kind_23 : decode cX6_kind 23 = .ok (.ireturn, 1) := by decide +kernel
theorem dX6_roots_0 : decode cX6_roots 0 = .ok (.aload_n 0, 1) := by decide +kernel
theorem dX6_roots_1 : decode cX6_roots 1 = .ok (.getfield 78, 3) := by decide +kernel
theorem dX6_roots_4 : decode cX6_roots 4 = .ok (.iload_n 1, 1) := by decide +kernel
theorem dX6_roots_5 : decode cX6_roots 5 = .ok (.iload_n 2, 1) := by decide +kernel
theorem dX6_roots_6 : decode cX6_roots 6 = .ok (.invokevirtual 216, 3) := by decide +kernel
theorem dX6_roots_9 : decode cX6_roots 9 = .ok (.ifCond .ne 5, 3) := by decide +kernel
theorem dX6_roots_12 : decode cX6_roots 12 = .ok (.iconst (-1), 1) := by decide +kernel
theorem dX6_roots_13 : decode cX6_roots 13 = .ok (.ireturn, 1) := by decide +kernel
theorem dX6_roots_14 : decode cX6_roots 14 = .ok (.aload_n 0, 1) := by decide +kernel
theorem dX6_roots_15 : decode cX6_roots 15 = .ok (.getfield 78, 3) := by decide +kernel
theorem dX6_roots_18 : decode cX6_roots 18 = .ok (.invokevirtual 219, 3) := by decide +kernel
theorem dX6_roots_21 : decode cX6_roots 21 = .ok (.iconst 1, 1) := by decide +kernel
theorem dX6_roots_22 : decode cX6_roots 22 = .ok (.if_icmp .ne 13, 3) := by decide +kernel
theorem dX6_roots_25 : decode cX6_roots 25 = .ok (.aload_n 0, 1) := by decide +kernel
theorem dX6_roots_26 : decode cX6_roots 26 = .ok (.getfield 78, 3) := by decide +kernel
theorem dX6_roots_29 : decode cX6_roots 29 = .ok (.invokevirtual 222, 3) := by decide +kernel
theorem dX6_roots_32 : decode cX6_roots 32 = .ok (.goto 4, 3) := by decide +kernel
theorem dX6_roots_35 : decode cX6_roots 35 = .ok (.iconst 0, 1) := by decide +kernel
theorem dX6_roots_36 : decode cX6_roots 36 = .ok (.ireturn, 1) := by decide +kernel
theorem dX6_count_0 : decode cX6_count 0 = .ok (.iload_n 1, 1) := by decide +kernel
theorem dX6_count_1 : decode cX6_count 1 = .ok (.lookupswitch 37 #[(0, 27), (1, 32)], 27) := by decide +kernel
theorem dX6_count_28 : decode cX6_count 28 = .ok (.aload_n 0, 1) := by decide +kernel
theorem dX6_count_29 : decode cX6_count 29 = .ok (.getfield 13, 3) := by decide +kernel
theorem dX6_count_32 : decode cX6_count 32 = .ok (.ireturn, 1) := by decide +kernel
theorem dX6_count_33 : decode cX6_count 33 = .ok (.aload_n 0, 1) := by decide +kernel
theorem dX6_count_34 : decode cX6_count 34 = .ok (.getfield 26, 3) := by decide +kernel
theorem dX6_count_37 : decode cX6_count 37 = .ok (.ireturn, 1) := by decide +kernel
theorem dX6_count_38 : decode cX6_count 38 = .ok (.iconst (-1), 1) := by decide +kernel
theorem dX6_count_39 : decode cX6_count 39 = .ok (.ireturn, 1) := by decide +kernel
theorem dX6_greatestPrime_0 : decode cX6_greatestPrime 0 = .ok (.getstatic 225, 3) := by decide +kernel
theorem dX6_greatestPrime_3 : decode cX6_greatestPrime 3 = .ok (.iconst 0, 1) := by decide +kernel
theorem dX6_greatestPrime_4 : decode cX6_greatestPrime 4 = .ok (.iaload, 1) := by decide +kernel
theorem dX6_greatestPrime_5 : decode cX6_greatestPrime 5 = .ok (.istore_n 1, 1) := by decide +kernel
theorem dX6_greatestPrime_6 : decode cX6_greatestPrime 6 = .ok (.getstatic 225, 3) := by decide +kernel
theorem dX6_greatestPrime_9 : decode cX6_greatestPrime 9 = .ok (.astore_n 2, 1) := by decide +kernel
theorem dX6_greatestPrime_10 : decode cX6_greatestPrime 10 = .ok (.aload_n 2, 1) := by decide +kernel
theorem dX6_greatestPrime_11 : decode cX6_greatestPrime 11 = .ok (.arraylength, 1) := by decide +kernel
theorem dX6_greatestPrime_12 : decode cX6_greatestPrime 12 = .ok (.istore_n 3, 1) := by decide +kernel
theorem dX6_greatestPrime_13 : decode cX6_greatestPrime 13 = .ok (.iconst 0, 1) := by decide +kernel
theorem dX6_greatestPrime_14 : decode cX6_greatestPrime 14 = .ok (.istore 4, 2) := by decide +kernel
theorem dX6_greatestPrime_16 : decode cX6_greatestPrime 16 = .ok (.iload 4, 2) := by decide +kernel
theorem dX6_greatestPrime_18 : decode cX6_greatestPrime 18 = .ok (.iload_n 3, 1) := by decide +kernel
theorem dX6_greatestPrime_19 : decode cX6_greatestPrime 19 = .ok (.if_icmp .ge 24, 3) := by decide +kernel
theorem dX6_greatestPrime_22 : decode cX6_greatestPrime 22 = .ok (.aload_n 2, 1) := by decide +kernel
theorem dX6_greatestPrime_23 : decode cX6_greatestPrime 23 = .ok (.iload 4, 2) := by decide +kernel
theorem dX6_greatestPrime_25 : decode cX6_greatestPrime 25 = .ok (.iaload, 1) := by decide +kernel
theorem dX6_greatestPrime_26 : decode cX6_greatestPrime 26 = .ok (.istore 5, 2) := by decide +kernel
theorem dX6_greatestPrime_28 : decode cX6_greatestPrime 28 = .ok (.iload 5, 2) := by decide +kernel
theorem dX6_greatestPrime_30 : decode cX6_greatestPrime 30 = .ok (.iload_n 0, 1) := by decide +kernel
theorem dX6_greatestPrime_31 : decode cX6_greatestPrime 31 = .ok (.if_icmp .gt 6, 3) := by decide +kernel
theorem dX6_greatestPrime_34 : decode cX6_greatestPrime 34 = .ok (.iload 5, 2) := by decide +kernel
theorem dX6_greatestPrime_36 : decode cX6_greatestPrime 36 = .ok (.istore_n 1, 1) := by decide +kernel
theorem dX6_greatestPrime_37 : decode cX6_greatestPrime 37 = .ok (.iinc 4 1, 3) := by decide +kernel
theorem dX6_greatestPrime_40 : decode cX6_greatestPrime 40 = .ok (.goto (-24), 3) := by decide +kernel
theorem dX6_greatestPrime_43 : decode cX6_greatestPrime 43 = .ok (.iload_n 1, 1) := by decide +kernel
theorem dX6_greatestPrime_44 : decode cX6_greatestPrime 44 = .ok (.ireturn, 1) := by decide +kernel
theorem dX6_isBelow_0 : decode cX6_isBelow 0 = .ok (.iload_n 0, 1) := by decide +kernel
theorem dX6_isBelow_1 : decode cX6_isBelow 1 = .ok (.ifCond .lt 12, 3) := by decide +kernel
theorem dX6_isBelow_4 : decode cX6_isBelow 4 = .ok (.iload_n 0, 1) := by decide +kernel
theorem dX6_isBelow_5 : decode cX6_isBelow 5 = .ok (.iload_n 1, 1) := by decide +kernel
theorem dX6_isBelow_6 : decode cX6_isBelow 6 = .ok (.if_icmp .ge 7, 3) := by decide +kernel
theorem dX6_isBelow_9 : decode cX6_isBelow 9 = .ok (.iconst 1, 1) := by decide +kernel
theorem dX6_isBelow_10 : decode cX6_isBelow 10 = .ok (.goto 4, 3) := by decide +kernel
theorem dX6_isBelow_13 : decode cX6_isBelow 13 = .ok (.iconst 0, 1) := by decide +kernel
theorem dX6_isBelow_14 : decode cX6_isBelow 14 = .ok (.ireturn, 1) := by decide +kernel
theorem dX6_isLaying_0 : decode cX6_isLaying 0 = .ok (.iload_n 1, 1) := by decide +kernel
theorem dX6_isLaying_1 : decode cX6_isLaying 1 = .ok (.bipush 8, 2) := by decide +kernel
theorem dX6_isLaying_3 : decode cX6_isLaying 3 = .ok (.invokestatic 148, 3) := by decide +kernel
theorem dX6_isLaying_6 : decode cX6_isLaying 6 = .ok (.ireturn, 1) := by decide +kernel
theorem dX6_isPost_0 : decode cX6_isPost 0 = .ok (.iload_n 1, 1) := by decide +kernel
theorem dX6_isPost_1 : decode cX6_isPost 1 = .ok (.aload_n 0, 1) := by decide +kernel
theorem dX6_isPost_2 : decode cX6_isPost 2 = .ok (.getfield 26, 3) := by decide +kernel
theorem dX6_isPost_5 : decode cX6_isPost 5 = .ok (.invokestatic 148, 3) := by decide +kernel
theorem dX6_isPost_8 : decode cX6_isPost 8 = .ok (.ireturn, 1) := by decide +kernel
theorem dX6_isArrow_0 : decode cX6_isArrow 0 = .ok (.iload_n 1, 1) := by decide +kernel
theorem dX6_isArrow_1 : decode cX6_isArrow 1 = .ok (.aload_n 0, 1) := by decide +kernel
theorem dX6_isArrow_2 : decode cX6_isArrow 2 = .ok (.getfield 26, 3) := by decide +kernel
theorem dX6_isArrow_5 : decode cX6_isArrow 5 = .ok (.iconst 1, 1) := by decide +kernel
theorem dX6_isArrow_6 : decode cX6_isArrow 6 = .ok (.isub, 1) := by decide +kernel
theorem dX6_isArrow_7 : decode cX6_isArrow 7 = .ok (.invokestatic 148, 3) := by decide +kernel
theorem dX6_isArrow_10 : decode cX6_isArrow 10 = .ok (.ireturn, 1) := by decide +kernel
theorem dX6_isSpan_0 : decode cX6_isSpan 0 = .ok (.aload_n 0, 1) := by decide +kernel
theorem dX6_isSpan_1 : decode cX6_isSpan 1 = .ok (.iload_n 1, 1) := by decide +kernel
theorem dX6_isSpan_2 : decode cX6_isSpan 2 = .ok (.invokevirtual 117, 3) := by decide +kernel
theorem dX6_isSpan_5 : decode cX6_isSpan 5 = .ok (.ifCond .eq 20, 3) := by decide +kernel
theorem dX6_isSpan_8 : decode cX6_isSpan 8 = .ok (.aload_n 0, 1) := by decide +kernel
theorem dX6_isSpan_9 : decode cX6_isSpan 9 = .ok (.iload_n 2, 1) := by decide +kernel
theorem dX6_isSpan_10 : decode cX6_isSpan 10 = .ok (.invokevirtual 117, 3) := by decide +kernel
theorem dX6_isSpan_13 : decode cX6_isSpan 13 = .ok (.ifCond .eq 12, 3) := by decide +kernel
theorem dX6_isSpan_16 : decode cX6_isSpan 16 = .ok (.iload_n 1, 1) := by decide +kernel
theorem dX6_isSpan_17 : decode cX6_isSpan 17 = .ok (.iload_n 2, 1) := by decide +kernel
theorem dX6_isSpan_18 : decode cX6_isSpan 18 = .ok (.if_icmp .gt 7, 3) := by decide +kernel
theorem dX6_isSpan_21 : decode cX6_isSpan 21 = .ok (.iconst 1, 1) := by decide +kernel
theorem dX6_isSpan_22 : decode cX6_isSpan 22 = .ok (.goto 4, 3) := by decide +kernel
theorem dX6_isSpan_25 : decode cX6_isSpan 25 = .ok (.iconst 0, 1) := by decide +kernel
theorem dX6_isSpan_26 : decode cX6_isSpan 26 = .ok (.ireturn, 1) := by decide +kernel
theorem dX6_isCell_0 : decode cX6_isCell 0 = .ok (.aload_n 0, 1) := by decide +kernel
theorem dX6_isCell_1 : decode cX6_isCell 1 = .ok (.iload_n 1, 1) := by decide +kernel
theorem dX6_isCell_2 : decode cX6_isCell 2 = .ok (.invokevirtual 82, 3) := by decide +kernel
theorem dX6_isCell_5 : decode cX6_isCell 5 = .ok (.ifCond .eq 50, 3) := by decide +kernel
theorem dX6_isCell_8 : decode cX6_isCell 8 = .ok (.aload_n 0, 1) := by decide +kernel
theorem dX6_isCell_9 : decode cX6_isCell 9 = .ok (.iload_n 2, 1) := by decide +kernel
theorem dX6_isCell_10 : decode cX6_isCell 10 = .ok (.invokevirtual 151, 3) := by decide +kernel
theorem dX6_isCell_13 : decode cX6_isCell 13 = .ok (.ifCond .eq 42, 3) := by decide +kernel
theorem dX6_isCell_16 : decode cX6_isCell 16 = .ok (.iload_n 3, 1) := by decide +kernel
theorem dX6_isCell_17 : decode cX6_isCell 17 = .ok (.aload_n 0, 1) := by decide +kernel
theorem dX6_isCell_18 : decode cX6_isCell 18 = .ok (.getfield 31, 3) := by decide +kernel
theorem dX6_isCell_21 : decode cX6_isCell 21 = .ok (.iload_n 1, 1) := by decide +kernel
theorem dX6_isCell_22 : decode cX6_isCell 22 = .ok (.aaload, 1) := by decide +kernel
theorem dX6_isCell_23 : decode cX6_isCell 23 = .ok (.iload_n 2, 1) := by decide +kernel
theorem dX6_isCell_24 : decode cX6_isCell 24 = .ok (.invokevirtual 138, 3) := by decide +kernel
theorem dX6_isCell_27 : decode cX6_isCell 27 = .ok (.invokestatic 148, 3) := by decide +kernel
theorem dX6_isCell_30 : decode cX6_isCell 30 = .ok (.ifCond .eq 25, 3) := by decide +kernel
theorem dX6_isCell_33 : decode cX6_isCell 33 = .ok (.iload 4, 2) := by decide +kernel
theorem dX6_isCell_35 : decode cX6_isCell 35 = .ok (.aload_n 0, 1) := by decide +kernel
theorem dX6_isCell_36 : decode cX6_isCell 36 = .ok (.getfield 31, 3) := by decide +kernel
theorem dX6_isCell_39 : decode cX6_isCell 39 = .ok (.iload_n 1, 1) := by decide +kernel
theorem dX6_isCell_40 : decode cX6_isCell 40 = .ok (.aaload, 1) := by decide +kernel
theorem dX6_isCell_41 : decode cX6_isCell 41 = .ok (.iload_n 2, 1) := by decide +kernel
theorem dX6_isCell_42 : decode cX6_isCell 42 = .ok (.invokevirtual 141, 3) := by decide +kernel
theorem dX6_isCell_45 : decode cX6_isCell 45 = .ok (.invokestatic 148, 3) := by decide +kernel
theorem dX6_isCell_48 : decode cX6_isCell 48 = .ok (.ifCond .eq 7, 3) := by decide +kernel
theorem dX6_isCell_51 : decode cX6_isCell 51 = .ok (.iconst 1, 1) := by decide +kernel
theorem dX6_isCell_52 : decode cX6_isCell 52 = .ok (.goto 4, 3) := by decide +kernel
theorem dX6_isCell_55 : decode cX6_isCell 55 = .ok (.iconst 0, 1) := by decide +kernel
theorem dX6_isCell_56 : decode cX6_isCell 56 = .ok (.ireturn, 1) := by decide +kernel
theorem dX6_areWays_0 : decode cX6_areWays 0 = .ok (.iload_n 1, 1) := by decide +kernel
theorem dX6_areWays_1 : decode cX6_areWays 1 = .ok (.ifCond .lt 18, 3) := by decide +kernel
theorem dX6_areWays_4 : decode cX6_areWays 4 = .ok (.iload_n 1, 1) := by decide +kernel
theorem dX6_areWays_5 : decode cX6_areWays 5 = .ok (.aload_n 0, 1) := by decide +kernel
theorem dX6_areWays_6 : decode cX6_areWays 6 = .ok (.getfield 26, 3) := by decide +kernel
theorem dX6_areWays_9 : decode cX6_areWays 9 = .ok (.iconst 1, 1) := by decide +kernel
theorem dX6_areWays_10 : decode cX6_areWays 10 = .ok (.isub, 1) := by decide +kernel
theorem dX6_areWays_11 : decode cX6_areWays 11 = .ok (.ishr, 1) := by decide +kernel
theorem dX6_areWays_12 : decode cX6_areWays 12 = .ok (.ifCond .ne 7, 3) := by decide +kernel
theorem dX6_areWays_15 : decode cX6_areWays 15 = .ok (.iconst 1, 1) := by decide +kernel
theorem dX6_areWays_16 : decode cX6_areWays 16 = .ok (.goto 4, 3) := by decide +kernel
theorem dX6_areWays_19 : decode cX6_areWays 19 = .ok (.iconst 0, 1) := by decide +kernel
theorem dX6_areWays_20 : decode cX6_areWays 20 = .ok (.ireturn, 1) := by decide +kernel
theorem dX6_sizeIn_0 : decode cX6_sizeIn 0 = .ok (.iload_n 0, 1) := by decide +kernel
theorem dX6_sizeIn_1 : decode cX6_sizeIn 1 = .ok (.iconst 3, 1) := by decide +kernel
theorem dX6_sizeIn_2 : decode cX6_sizeIn 2 = .ok (.iload_n 1, 1) := by decide +kernel
theorem dX6_sizeIn_3 : decode cX6_sizeIn 3 = .ok (.imul, 1) := by decide +kernel
theorem dX6_sizeIn_4 : decode cX6_sizeIn 4 = .ok (.ishr, 1) := by decide +kernel
theorem dX6_sizeIn_5 : decode cX6_sizeIn 5 = .ok (.bipush 7, 2) := by decide +kernel
theorem dX6_sizeIn_7 : decode cX6_sizeIn 7 = .ok (.iand, 1) := by decide +kernel
theorem dX6_sizeIn_8 : decode cX6_sizeIn 8 = .ok (.ireturn, 1) := by decide +kernel
theorem dX6_areSizes_0 : decode cX6_areSizes 0 = .ok (.iload_n 1, 1) := by decide +kernel
theorem dX6_areSizes_1 : decode cX6_areSizes 1 = .ok (.ifCond .lt 14, 3) := by decide +kernel
theorem dX6_areSizes_4 : decode cX6_areSizes 4 = .ok (.iload_n 1, 1) := by decide +kernel
theorem dX6_areSizes_5 : decode cX6_areSizes 5 = .ok (.iconst 3, 1) := by decide +kernel
theorem dX6_areSizes_6 : decode cX6_areSizes 6 = .ok (.aload_n 0, 1) := by decide +kernel
theorem dX6_areSizes_7 : decode cX6_areSizes 7 = .ok (.getfield 26, 3) := by decide +kernel
theorem dX6_areSizes_10 : decode cX6_areSizes 10 = .ok (.imul, 1) := by decide +kernel
theorem dX6_areSizes_11 : decode cX6_areSizes 11 = .ok (.ishr, 1) := by decide +kernel
theorem dX6_areSizes_12 : decode cX6_areSizes 12 = .ok (.ifCond .eq 5, 3) := by decide +kernel
theorem dX6_areSizes_15 : decode cX6_areSizes 15 = .ok (.iconst 0, 1) := by decide +kernel
theorem dX6_areSizes_16 : decode cX6_areSizes 16 = .ok (.ireturn, 1) := by decide +kernel
theorem dX6_areSizes_17 : decode cX6_areSizes 17 = .ok (.iconst 0, 1) := by decide +kernel
theorem dX6_areSizes_18 : decode cX6_areSizes 18 = .ok (.istore_n 2, 1) := by decide +kernel
theorem dX6_areSizes_19 : decode cX6_areSizes 19 = .ok (.iload_n 2, 1) := by decide +kernel
theorem dX6_areSizes_20 : decode cX6_areSizes 20 = .ok (.aload_n 0, 1) := by decide +kernel
theorem dX6_areSizes_21 : decode cX6_areSizes 21 = .ok (.getfield 26, 3) := by decide +kernel
theorem dX6_areSizes_24 : decode cX6_areSizes 24 = .ok (.if_icmp .ge 20, 3) := by decide +kernel
theorem dX6_areSizes_27 : decode cX6_areSizes 27 = .ok (.iload_n 1, 1) := by decide +kernel
theorem dX6_areSizes_28 : decode cX6_areSizes 28 = .ok (.iload_n 2, 1) := by decide +kernel
theorem dX6_areSizes_29 : decode cX6_areSizes 29 = .ok (.invokestatic 99, 3) := by decide +kernel
theorem dX6_areSizes_32 : decode cX6_areSizes 32 = .ok (.iconst 4, 1) := by decide +kernel
theorem dX6_areSizes_33 : decode cX6_areSizes 33 = .ok (.if_icmp .le 5, 3) := by decide +kernel
theorem dX6_areSizes_36 : decode cX6_areSizes 36 = .ok (.iconst 0, 1) := by decide +kernel
theorem dX6_areSizes_37 : decode cX6_areSizes 37 = .ok (.ireturn, 1) := by decide +kernel
theorem dX6_areSizes_38 : decode cX6_areSizes 38 = .ok (.iinc 2 1, 3) := by decide +kernel
theorem dX6_areSizes_41 : decode cX6_areSizes 41 = .ok (.goto (-22), 3) := by decide +kernel
theorem dX6_areSizes_44 : decode cX6_areSizes 44 = .ok (.iconst 1, 1) := by decide +kernel
theorem dX6_areSizes_45 : decode cX6_areSizes 45 = .ok (.ireturn, 1) := by decide +kernel
theorem dX6_haveSameWays_0 : decode cX6_haveSameWays 0 = .ok (.aload_n 0, 1) := by decide +kernel
theorem dX6_haveSameWays_1 : decode cX6_haveSameWays 1 = .ok (.iload_n 1, 1) := by decide +kernel
theorem dX6_haveSameWays_2 : decode cX6_haveSameWays 2 = .ok (.invokevirtual 82, 3) := by decide +kernel
theorem dX6_haveSameWays_5 : decode cX6_haveSameWays 5 = .ok (.ifCond .eq 36, 3) := by decide +kernel
theorem dX6_haveSameWays_8 : decode cX6_haveSameWays 8 = .ok (.aload_n 0, 1) := by decide +kernel
theorem dX6_haveSameWays_9 : decode cX6_haveSameWays 9 = .ok (.iload_n 2, 1) := by decide +kernel
theorem dX6_haveSameWays_10 : decode cX6_haveSameWays 10 = .ok (.invokevirtual 82, 3) := by decide +kernel
theorem dX6_haveSameWays_13 : decode cX6_haveSameWays 13 = .ok (.ifCond .eq 28, 3) := by decide +kernel
theorem dX6_haveSameWays_16 : decode cX6_haveSameWays 16 = .ok (.aload_n 0, 1) := by decide +kernel
theorem dX6_haveSameWays_17 : decode cX6_haveSameWays 17 = .ok (.getfield 31, 3) := by decide +kernel
theorem dX6_haveSameWays_20 : decode cX6_haveSameWays 20 = .ok (.iload_n 1, 1) := by decide +kernel
theorem dX6_haveSameWays_21 : decode cX6_haveSameWays 21 = .ok (.aaload, 1) := by decide +kernel
theorem dX6_haveSameWays_22 : decode cX6_haveSameWays 22 = .ok (.getfield 120, 3) := by decide +kernel
theorem dX6_haveSameWays_25 : decode cX6_haveSameWays 25 = .ok (.aload_n 0, 1) := by decide +kernel
theorem dX6_haveSameWays_26 : decode cX6_haveSameWays 26 = .ok (.getfield 31, 3) := by decide +kernel
theorem dX6_haveSameWays_29 : decode cX6_haveSameWays 29 = .ok (.iload_n 2, 1) := by decide +kernel
theorem dX6_haveSameWays_30 : decode cX6_haveSameWays 30 = .ok (.aaload, 1) := by decide +kernel
theorem dX6_haveSameWays_31 : decode cX6_haveSameWays 31 = .ok (.getfield 120, 3) := by decide +kernel
theorem dX6_haveSameWays_34 : decode cX6_haveSameWays 34 = .ok (.if_icmp .ne 7, 3) := by decide +kernel
theorem dX6_haveSameWays_37 : decode cX6_haveSameWays 37 = .ok (.iconst 1, 1) := by decide +kernel
theorem dX6_haveSameWays_38 : decode cX6_haveSameWays 38 = .ok (.goto 4, 3) := by decide +kernel
theorem dX6_haveSameWays_41 : decode cX6_haveSameWays 41 = .ok (.iconst 0, 1) := by decide +kernel
theorem dX6_haveSameWays_42 : decode cX6_haveSameWays 42 = .ok (.ireturn, 1) := by decide +kernel
theorem dX6_fitBeside_0 : decode cX6_fitBeside 0 = .ok (.iconst 0, 1) := by decide +kernel
theorem dX6_fitBeside_1 : decode cX6_fitBeside 1 = .ok (.istore_n 3, 1) := by decide +kernel
theorem dX6_fitBeside_2 : decode cX6_fitBeside 2 = .ok (.iload_n 3, 1) := by decide +kernel
theorem dX6_fitBeside_3 : decode cX6_fitBeside 3 = .ok (.aload_n 0, 1) := by decide +kernel
theorem dX6_fitBeside_4 : decode cX6_fitBeside 4 = .ok (.getfield 26, 3) := by decide +kernel
theorem dX6_fitBeside_7 : decode cX6_fitBeside 7 = .ok (.if_icmp .ge 28, 3) := by decide +kernel
theorem dX6_fitBeside_10 : decode cX6_fitBeside 10 = .ok (.aload_n 1, 1) := by decide +kernel
theorem dX6_fitBeside_11 : decode cX6_fitBeside 11 = .ok (.getfield 95, 3) := by decide +kernel
theorem dX6_fitBeside_14 : decode cX6_fitBeside 14 = .ok (.iload_n 3, 1) := by decide +kernel
theorem dX6_fitBeside_15 : decode cX6_fitBeside 15 = .ok (.iaload, 1) := by decide +kernel
theorem dX6_fitBeside_16 : decode cX6_fitBeside 16 = .ok (.aload_n 2, 1) := by decide +kernel
theorem dX6_fitBeside_17 : decode cX6_fitBeside 17 = .ok (.getfield 95, 3) := by decide +kernel
theorem dX6_fitBeside_20 : decode cX6_fitBeside 20 = .ok (.iload_n 3, 1) := by decide +kernel
theorem dX6_fitBeside_21 : decode cX6_fitBeside 21 = .ok (.iaload, 1) := by decide +kernel
theorem dX6_fitBeside_22 : decode cX6_fitBeside 22 = .ok (.iadd, 1) := by decide +kernel
theorem dX6_fitBeside_23 : decode cX6_fitBeside 23 = .ok (.iconst 4, 1) := by decide +kernel
theorem dX6_fitBeside_24 : decode cX6_fitBeside 24 = .ok (.if_icmp .le 5, 3) := by decide +kernel
theorem dX6_fitBeside_27 : decode cX6_fitBeside 27 = .ok (.iconst 0, 1) := by decide +kernel
theorem dX6_fitBeside_28 : decode cX6_fitBeside 28 = .ok (.ireturn, 1) := by decide +kernel
theorem dX6_fitBeside_29 : decode cX6_fitBeside 29 = .ok (.iinc 3 1, 3) := by decide +kernel
theorem dX6_fitBeside_32 : decode cX6_fitBeside 32 = .ok (.goto (-30), 3) := by decide +kernel
theorem dX6_fitBeside_35 : decode cX6_fitBeside 35 = .ok (.iconst 1, 1) := by decide +kernel
theorem dX6_fitBeside_36 : decode cX6_fitBeside 36 = .ok (.ireturn, 1) := by decide +kernel
theorem dX6_addRow_0 : decode cX6_addRow 0 = .ok (.aload_n 1, 1) := by decide +kernel
theorem dX6_addRow_1 : decode cX6_addRow 1 = .ok (.iload_n 2, 1) := by decide +kernel
theorem dX6_addRow_2 : decode cX6_addRow 2 = .ok (.invokevirtual 141, 3) := by decide +kernel
theorem dX6_addRow_5 : decode cX6_addRow 5 = .ok (.istore 6, 2) := by decide +kernel
theorem dX6_addRow_7 : decode cX6_addRow 7 = .ok (.iconst 0, 1) := by decide +kernel
theorem dX6_addRow_8 : decode cX6_addRow 8 = .ok (.istore 7, 2) := by decide +kernel
theorem dX6_addRow_10 : decode cX6_addRow 10 = .ok (.iload 7, 2) := by decide +kernel
theorem dX6_addRow_12 : decode cX6_addRow 12 = .ok (.iload 6, 2) := by decide +kernel
theorem dX6_addRow_14 : decode cX6_addRow 14 = .ok (.if_icmp .ge 47, 3) := by decide +kernel
theorem dX6_addRow_17 : decode cX6_addRow 17 = .ok (.aload_n 1, 1) := by decide +kernel
theorem dX6_addRow_18 : decode cX6_addRow 18 = .ok (.iload_n 2, 1) := by decide +kernel
theorem dX6_addRow_19 : decode cX6_addRow 19 = .ok (.iload_n 3, 1) := by decide +kernel
theorem dX6_addRow_20 : decode cX6_addRow 20 = .ok (.iload 7, 2) := by decide +kernel
theorem dX6_addRow_22 : decode cX6_addRow 22 = .ok (.invokevirtual 113, 3) := by decide +kernel
theorem dX6_addRow_25 : decode cX6_addRow 25 = .ok (.iload 5, 2) := by decide +kernel
theorem dX6_addRow_27 : decode cX6_addRow 27 = .ok (.aload_n 1, 1) := by decide +kernel
theorem dX6_addRow_28 : decode cX6_addRow 28 = .ok (.iload_n 2, 1) := by decide +kernel
theorem dX6_addRow_29 : decode cX6_addRow 29 = .ok (.iload 4, 2) := by decide +kernel
theorem dX6_addRow_31 : decode cX6_addRow 31 = .ok (.iload 7, 2) := by decide +kernel
theorem dX6_addRow_33 : decode cX6_addRow 33 = .ok (.invokevirtual 113, 3) := by decide +kernel
theorem dX6_addRow_36 : decode cX6_addRow 36 = .ok (.imul, 1) := by decide +kernel
theorem dX6_addRow_37 : decode cX6_addRow 37 = .ok (.iadd, 1) := by decide +kernel
theorem dX6_addRow_38 : decode cX6_addRow 38 = .ok (.istore 8, 2) := by decide +kernel
theorem dX6_addRow_40 : decode cX6_addRow 40 = .ok (.aload_n 1, 1) := by decide +kernel
theorem dX6_addRow_41 : decode cX6_addRow 41 = .ok (.iload_n 2, 1) := by decide +kernel
theorem dX6_addRow_42 : decode cX6_addRow 42 = .ok (.iload_n 3, 1) := by decide +kernel
theorem dX6_addRow_43 : decode cX6_addRow 43 = .ok (.iload 7, 2) := by decide +kernel
theorem dX6_addRow_45 : decode cX6_addRow 45 = .ok (.iload 8, 2) := by decide +kernel
theorem dX6_addRow_47 : decode cX6_addRow 47 = .ok (.aload_n 0, 1) := by decide +kernel
theorem dX6_addRow_48 : decode cX6_addRow 48 = .ok (.getfield 13, 3) := by decide +kernel
theorem dX6_addRow_51 : decode cX6_addRow 51 = .ok (.irem, 1) := by decide +kernel
theorem dX6_addRow_52 : decode cX6_addRow 52 = .ok (.invokevirtual 109, 3) := by decide +kernel
theorem dX6_addRow_55 : decode cX6_addRow 55 = .ok (.iinc 7 1, 3) := by decide +kernel
theorem dX6_addRow_58 : decode cX6_addRow 58 = .ok (.goto (-48), 3) := by decide +kernel
theorem dX6_addRow_61 : decode cX6_addRow 61 = .ok (.return_, 1) := by decide +kernel
theorem dX6_addColumn_0 : decode cX6_addColumn 0 = .ok (.aload_n 1, 1) := by decide +kernel
theorem dX6_addColumn_1 : decode cX6_addColumn 1 = .ok (.iload_n 2, 1) := by decide +kernel
theorem dX6_addColumn_2 : decode cX6_addColumn 2 = .ok (.invokevirtual 138, 3) := by decide +kernel
theorem dX6_addColumn_5 : decode cX6_addColumn 5 = .ok (.istore 6, 2) := by decide +kernel
theorem dX6_addColumn_7 : decode cX6_addColumn 7 = .ok (.iconst 0, 1) := by decide +kernel
theorem dX6_addColumn_8 : decode cX6_addColumn 8 = .ok (.istore 7, 2) := by decide +kernel
theorem dX6_addColumn_10 : decode cX6_addColumn 10 = .ok (.iload 7, 2) := by decide +kernel
theorem dX6_addColumn_12 : decode cX6_addColumn 12 = .ok (.iload 6, 2) := by decide +kernel
theorem dX6_addColumn_14 : decode cX6_addColumn 14 = .ok (.if_icmp .ge 47, 3) := by decide +kernel
theorem dX6_addColumn_17 : decode cX6_addColumn 17 = .ok (.aload_n 1, 1) := by decide +kernel
theorem dX6_addColumn_18 : decode cX6_addColumn 18 = .ok (.iload_n 2, 1) := by decide +kernel
theorem dX6_addColumn_19 : decode cX6_addColumn 19 = .ok (.iload 7, 2) := by decide +kernel
theorem dX6_addColumn_21 : decode cX6_addColumn 21 = .ok (.iload_n 3, 1) := by decide +kernel
theorem dX6_addColumn_22 : decode cX6_addColumn 22 = .ok (.invokevirtual 113, 3) := by decide +kernel
theorem dX6_addColumn_25 : decode cX6_addColumn 25 = .ok (.iload 5, 2) := by decide +kernel
theorem dX6_addColumn_27 : decode cX6_addColumn 27 = .ok (.aload_n 1, 1) := by decide +kernel
theorem dX6_addColumn_28 : decode cX6_addColumn 28 = .ok (.iload_n 2, 1) := by decide +kernel
theorem dX6_addColumn_29 : decode cX6_addColumn 29 = .ok (.iload 7, 2) := by decide +kernel
theorem dX6_addColumn_31 : decode cX6_addColumn 31 = .ok (.iload 4, 2) := by decide +kernel
theorem dX6_addColumn_33 : decode cX6_addColumn 33 = .ok (.invokevirtual 113, 3) := by decide +kernel
theorem dX6_addColumn_36 : decode cX6_addColumn 36 = .ok (.imul, 1) := by decide +kernel
theorem dX6_addColumn_37 : decode cX6_addColumn 37 = .ok (.iadd, 1) := by decide +kernel
theorem dX6_addColumn_38 : decode cX6_addColumn 38 = .ok (.istore 8, 2) := by decide +kernel
theorem dX6_addColumn_40 : decode cX6_addColumn 40 = .ok (.aload_n 1, 1) := by decide +kernel
theorem dX6_addColumn_41 : decode cX6_addColumn 41 = .ok (.iload_n 2, 1) := by decide +kernel
theorem dX6_addColumn_42 : decode cX6_addColumn 42 = .ok (.iload 7, 2) := by decide +kernel
theorem dX6_addColumn_44 : decode cX6_addColumn 44 = .ok (.iload_n 3, 1) := by decide +kernel
theorem dX6_addColumn_45 : decode cX6_addColumn 45 = .ok (.iload 8, 2) := by decide +kernel
theorem dX6_addColumn_47 : decode cX6_addColumn 47 = .ok (.aload_n 0, 1) := by decide +kernel
theorem dX6_addColumn_48 : decode cX6_addColumn 48 = .ok (.getfield 13, 3) := by decide +kernel
theorem dX6_addColumn_51 : decode cX6_addColumn 51 = .ok (.irem, 1) := by decide +kernel
theorem dX6_addColumn_52 : decode cX6_addColumn 52 = .ok (.invokevirtual 109, 3) := by decide +kernel
theorem dX6_addColumn_55 : decode cX6_addColumn 55 = .ok (.iinc 7 1, 3) := by decide +kernel
theorem dX6_addColumn_58 : decode cX6_addColumn 58 = .ok (.goto (-48), 3) := by decide +kernel
theorem dX6_addColumn_61 : decode cX6_addColumn 61 = .ok (.return_, 1) := by decide +kernel
theorem dX6_isTurning_0 : decode cX6_isTurning 0 = .ok (.aload_n 0, 1) := by decide +kernel
theorem dX6_isTurning_1 : decode cX6_isTurning 1 = .ok (.getfield 26, 3) := by decide +kernel
theorem dX6_isTurning_4 : decode cX6_isTurning 4 = .ok (.iconst 1, 1) := by decide +kernel
theorem dX6_isTurning_5 : decode cX6_isTurning 5 = .ok (.if_icmp .ne 5, 3) := by decide +kernel
theorem dX6_isTurning_8 : decode cX6_isTurning 8 = .ok (.iconst 0, 1) := by decide +kernel
theorem dX6_isTurning_9 : decode cX6_isTurning 9 = .ok (.ireturn, 1) := by decide +kernel
theorem dX6_isTurning_10 : decode cX6_isTurning 10 = .ok (.aload_n 0, 1) := by decide +kernel
theorem dX6_isTurning_11 : decode cX6_isTurning 11 = .ok (.iload_n 2, 1) := by decide +kernel
theorem dX6_isTurning_12 : decode cX6_isTurning 12 = .ok (.iconst 1, 1) := by decide +kernel
theorem dX6_isTurning_13 : decode cX6_isTurning 13 = .ok (.isub, 1) := by decide +kernel
theorem dX6_isTurning_14 : decode cX6_isTurning 14 = .ok (.invokevirtual 151, 3) := by decide +kernel
theorem dX6_isTurning_17 : decode cX6_isTurning 17 = .ok (.ifCond .eq 11, 3) := by decide +kernel
theorem dX6_isTurning_20 : decode cX6_isTurning 20 = .ok (.aload_n 0, 1) := by decide +kernel
theorem dX6_isTurning_21 : decode cX6_isTurning 21 = .ok (.iload_n 2, 1) := by decide +kernel
theorem dX6_isTurning_22 : decode cX6_isTurning 22 = .ok (.invokevirtual 151, 3) := by decide +kernel
theorem dX6_isTurning_25 : decode cX6_isTurning 25 = .ok (.ifCond .ne 5, 3) := by decide +kernel
theorem dX6_isTurning_28 : decode cX6_isTurning 28 = .ok (.iconst 1, 1) := by decide +kernel
theorem dX6_isTurning_29 : decode cX6_isTurning 29 = .ok (.ireturn, 1) := by decide +kernel
theorem dX6_isTurning_30 : decode cX6_isTurning 30 = .ok (.aload_n 1, 1) := by decide +kernel
theorem dX6_isTurning_31 : decode cX6_isTurning 31 = .ok (.iload_n 2, 1) := by decide +kernel
theorem dX6_isTurning_32 : decode cX6_isTurning 32 = .ok (.iconst 1, 1) := by decide +kernel
theorem dX6_isTurning_33 : decode cX6_isTurning 33 = .ok (.isub, 1) := by decide +kernel
theorem dX6_isTurning_34 : decode cX6_isTurning 34 = .ok (.invokevirtual 228, 3) := by decide +kernel
theorem dX6_isTurning_37 : decode cX6_isTurning 37 = .ok (.aload_n 1, 1) := by decide +kernel
theorem dX6_isTurning_38 : decode cX6_isTurning 38 = .ok (.iload_n 2, 1) := by decide +kernel
theorem dX6_isTurning_39 : decode cX6_isTurning 39 = .ok (.invokevirtual 228, 3) := by decide +kernel
theorem dX6_isTurning_42 : decode cX6_isTurning 42 = .ok (.if_icmp .eq 7, 3) := by decide +kernel
theorem dX6_isTurning_45 : decode cX6_isTurning 45 = .ok (.iconst 1, 1) := by decide +kernel
theorem dX6_isTurning_46 : decode cX6_isTurning 46 = .ok (.goto 4, 3) := by decide +kernel
theorem dX6_isTurning_49 : decode cX6_isTurning 49 = .ok (.iconst 0, 1) := by decide +kernel
theorem dX6_isTurning_50 : decode cX6_isTurning 50 = .ok (.ireturn, 1) := by decide +kernel
theorem dX6_gatherBeside_0 : decode cX6_gatherBeside 0 = .ok (.aload_n 0, 1) := by decide +kernel
theorem dX6_gatherBeside_1 : decode cX6_gatherBeside 1 = .ok (.iload_n 2, 1) := by decide +kernel
theorem dX6_gatherBeside_2 : decode cX6_gatherBeside 2 = .ok (.iconst 1, 1) := by decide +kernel
theorem dX6_gatherBeside_3 : decode cX6_gatherBeside 3 = .ok (.isub, 1) := by decide +kernel
theorem dX6_gatherBeside_4 : decode cX6_gatherBeside 4 = .ok (.invokevirtual 151, 3) := by decide +kernel
theorem dX6_gatherBeside_7 : decode cX6_gatherBeside 7 = .ok (.ifCond .eq 14, 3) := by decide +kernel
theorem dX6_gatherBeside_10 : decode cX6_gatherBeside 10 = .ok (.aload_n 1, 1) := by decide +kernel
theorem dX6_gatherBeside_11 : decode cX6_gatherBeside 11 = .ok (.getfield 95, 3) := by decide +kernel
theorem dX6_gatherBeside_14 : decode cX6_gatherBeside 14 = .ok (.iload_n 2, 1) := by decide +kernel
theorem dX6_gatherBeside_15 : decode cX6_gatherBeside 15 = .ok (.iconst 1, 1) := by decide +kernel
theorem dX6_gatherBeside_16 : decode cX6_gatherBeside 16 = .ok (.isub, 1) := by decide +kernel
theorem dX6_gatherBeside_17 : decode cX6_gatherBeside 17 = .ok (.iaload, 1) := by decide +kernel
theorem dX6_gatherBeside_18 : decode cX6_gatherBeside 18 = .ok (.goto 4, 3) := by decide +kernel
theorem dX6_gatherBeside_21 : decode cX6_gatherBeside 21 = .ok (.iconst 0, 1) := by decide +kernel
theorem dX6_gatherBeside_22 : decode cX6_gatherBeside 22 = .ok (.istore 4, 2) := by decide +kernel
theorem dX6_gatherBeside_24 : decode cX6_gatherBeside 24 = .ok (.aload_n 0, 1) := by decide +kernel
theorem dX6_gatherBeside_25 : decode cX6_gatherBeside 25 = .ok (.iload_n 2, 1) := by decide +kernel
theorem dX6_gatherBeside_26 : decode cX6_gatherBeside 26 = .ok (.invokevirtual 151, 3) := by decide +kernel
theorem dX6_gatherBeside_29 : decode cX6_gatherBeside 29 = .ok (.ifCond .eq 14, 3) := by decide +kernel
theorem dX6_gatherBeside_32 : decode cX6_gatherBeside 32 = .ok (.aload_n 1, 1) := by decide +kernel
theorem dX6_gatherBeside_33 : decode cX6_gatherBeside 33 = .ok (.getfield 95, 3) := by decide +kernel
theorem dX6_gatherBeside_36 : decode cX6_gatherBeside 36 = .ok (.iload_n 2, 1) := by decide +kernel
theorem dX6_gatherBeside_37 : decode cX6_gatherBeside 37 = .ok (.iconst 1, 1) := by decide +kernel
theorem dX6_gatherBeside_38 : decode cX6_gatherBeside 38 = .ok (.iadd, 1) := by decide +kernel
theorem dX6_gatherBeside_39 : decode cX6_gatherBeside 39 = .ok (.iaload, 1) := by decide +kernel
theorem dX6_gatherBeside_40 : decode cX6_gatherBeside 40 = .ok (.goto 4, 3) := by decide +kernel
theorem dX6_gatherBeside_43 : decode cX6_gatherBeside 43 = .ok (.iconst 0, 1) := by decide +kernel
theorem dX6_gatherBeside_44 : decode cX6_gatherBeside 44 = .ok (.istore 5, 2) := by decide +kernel
theorem dX6_gatherBeside_46 : decode cX6_gatherBeside 46 = .ok (.aload_n 0, 1) := by decide +kernel
theorem dX6_gatherBeside_47 : decode cX6_gatherBeside 47 = .ok (.getfield 45, 3) := by decide +kernel
theorem dX6_gatherBeside_50 : decode cX6_gatherBeside 50 = .ok (.aload_n 1, 1) := by decide +kernel
theorem dX6_gatherBeside_51 : decode cX6_gatherBeside 51 = .ok (.getfield 95, 3) := by decide +kernel
theorem dX6_gatherBeside_54 : decode cX6_gatherBeside 54 = .ok (.iload_n 2, 1) := by decide +kernel
theorem dX6_gatherBeside_55 : decode cX6_gatherBeside 55 = .ok (.iaload, 1) := by decide +kernel
theorem dX6_gatherBeside_56 : decode cX6_gatherBeside 56 = .ok (.iload 4, 2) := by decide +kernel
theorem dX6_gatherBeside_58 : decode cX6_gatherBeside 58 = .ok (.iload 5, 2) := by decide +kernel
theorem dX6_gatherBeside_60 : decode cX6_gatherBeside 60 = .ok (.iadd, 1) := by decide +kernel
theorem dX6_gatherBeside_61 : decode cX6_gatherBeside 61 = .ok (.invokevirtual 231, 3) := by decide +kernel
theorem dX6_gatherBeside_64 : decode cX6_gatherBeside 64 = .ok (.iconst 0, 1) := by decide +kernel
theorem dX6_gatherBeside_65 : decode cX6_gatherBeside 65 = .ok (.istore 6, 2) := by decide +kernel
theorem dX6_gatherBeside_67 : decode cX6_gatherBeside 67 = .ok (.iload 6, 2) := by decide +kernel
theorem dX6_gatherBeside_69 : decode cX6_gatherBeside 69 = .ok (.aload_n 1, 1) := by decide +kernel
theorem dX6_gatherBeside_70 : decode cX6_gatherBeside 70 = .ok (.getfield 95, 3) := by decide +kernel
theorem dX6_gatherBeside_73 : decode cX6_gatherBeside 73 = .ok (.iload_n 2, 1) := by decide +kernel
theorem dX6_gatherBeside_74 : decode cX6_gatherBeside 74 = .ok (.iaload, 1) := by decide +kernel
theorem dX6_gatherBeside_75 : decode cX6_gatherBeside 75 = .ok (.if_icmp .ge 88, 3) := by decide +kernel
theorem dX6_gatherBeside_78 : decode cX6_gatherBeside 78 = .ok (.iconst 0, 1) := by decide +kernel
theorem dX6_gatherBeside_79 : decode cX6_gatherBeside 79 = .ok (.istore 7, 2) := by decide +kernel
theorem dX6_gatherBeside_81 : decode cX6_gatherBeside 81 = .ok (.iload 7, 2) := by decide +kernel
theorem dX6_gatherBeside_83 : decode cX6_gatherBeside 83 = .ok (.iload 4, 2) := by decide +kernel
theorem dX6_gatherBeside_85 : decode cX6_gatherBeside 85 = .ok (.if_icmp .ge 32, 3) := by decide +kernel
theorem dX6_gatherBeside_88 : decode cX6_gatherBeside 88 = .ok (.aload_n 0, 1) := by decide +kernel
theorem dX6_gatherBeside_89 : decode cX6_gatherBeside 89 = .ok (.getfield 45, 3) := by decide +kernel
theorem dX6_gatherBeside_92 : decode cX6_gatherBeside 92 = .ok (.iload 6, 2) := by decide +kernel
theorem dX6_gatherBeside_94 : decode cX6_gatherBeside 94 = .ok (.iload 7, 2) := by decide +kernel
theorem dX6_gatherBeside_96 : decode cX6_gatherBeside 96 = .ok (.aload_n 1, 1) := by decide +kernel
theorem dX6_gatherBeside_97 : decode cX6_gatherBeside 97 = .ok (.iload_n 2, 1) := by decide +kernel
theorem dX6_gatherBeside_98 : decode cX6_gatherBeside 98 = .ok (.iconst 1, 1) := by decide +kernel
theorem dX6_gatherBeside_99 : decode cX6_gatherBeside 99 = .ok (.isub, 1) := by decide +kernel
theorem dX6_gatherBeside_100 : decode cX6_gatherBeside 100 = .ok (.iload_n 3, 1) := by decide +kernel
theorem dX6_gatherBeside_101 : decode cX6_gatherBeside 101 = .ok (.iload 6, 2) := by decide +kernel
theorem dX6_gatherBeside_103 : decode cX6_gatherBeside 103 = .ok (.iload 7, 2) := by decide +kernel
theorem dX6_gatherBeside_105 : decode cX6_gatherBeside 105 = .ok (.invokevirtual 234, 3) := by decide +kernel
theorem dX6_gatherBeside_108 : decode cX6_gatherBeside 108 = .ok (.invokevirtual 238, 3) := by decide +kernel
theorem dX6_gatherBeside_111 : decode cX6_gatherBeside 111 = .ok (.iinc 7 1, 3) := by decide +kernel
theorem dX6_gatherBeside_114 : decode cX6_gatherBeside 114 = .ok (.goto (-33), 3) := by decide +kernel
theorem dX6_gatherBeside_117 : decode cX6_gatherBeside 117 = .ok (.iconst 0, 1) := by decide +kernel
theorem dX6_gatherBeside_118 : decode cX6_gatherBeside 118 = .ok (.istore 7, 2) := by decide +kernel
theorem dX6_gatherBeside_120 : decode cX6_gatherBeside 120 = .ok (.iload 7, 2) := by decide +kernel
theorem dX6_gatherBeside_122 : decode cX6_gatherBeside 122 = .ok (.iload 5, 2) := by decide +kernel
theorem dX6_gatherBeside_124 : decode cX6_gatherBeside 124 = .ok (.if_icmp .ge 33, 3) := by decide +kernel
theorem dX6_gatherBeside_127 : decode cX6_gatherBeside 127 = .ok (.aload_n 0, 1) := by decide +kernel
theorem dX6_gatherBeside_128 : decode cX6_gatherBeside 128 = .ok (.getfield 45, 3) := by decide +kernel
theorem dX6_gatherBeside_131 : decode cX6_gatherBeside 131 = .ok (.iload 6, 2) := by decide +kernel
theorem dX6_gatherBeside_133 : decode cX6_gatherBeside 133 = .ok (.iload 4, 2) := by decide +kernel
theorem dX6_gatherBeside_135 : decode cX6_gatherBeside 135 = .ok (.iload 7, 2) := by decide +kernel
theorem dX6_gatherBeside_137 : decode cX6_gatherBeside 137 = .ok (.iadd, 1) := by decide +kernel
theorem dX6_gatherBeside_138 : decode cX6_gatherBeside 138 = .ok (.aload_n 1, 1) := by decide +kernel
theorem dX6_gatherBeside_139 : decode cX6_gatherBeside 139 = .ok (.iload_n 2, 1) := by decide +kernel
theorem dX6_gatherBeside_140 : decode cX6_gatherBeside 140 = .ok (.iload_n 3, 1) := by decide +kernel
theorem dX6_gatherBeside_141 : decode cX6_gatherBeside 141 = .ok (.iload 6, 2) := by decide +kernel
theorem dX6_gatherBeside_143 : decode cX6_gatherBeside 143 = .ok (.iload 7, 2) := by decide +kernel
theorem dX6_gatherBeside_145 : decode cX6_gatherBeside 145 = .ok (.invokevirtual 234, 3) := by decide +kernel
theorem dX6_gatherBeside_148 : decode cX6_gatherBeside 148 = .ok (.invokevirtual 238, 3) := by decide +kernel
theorem dX6_gatherBeside_151 : decode cX6_gatherBeside 151 = .ok (.iinc 7 1, 3) := by decide +kernel
theorem dX6_gatherBeside_154 : decode cX6_gatherBeside 154 = .ok (.goto (-34), 3) := by decide +kernel
theorem dX6_gatherBeside_157 : decode cX6_gatherBeside 157 = .ok (.iinc 6 1, 3) := by decide +kernel
theorem dX6_gatherBeside_160 : decode cX6_gatherBeside 160 = .ok (.goto (-93), 3) := by decide +kernel
theorem dX6_gatherBeside_163 : decode cX6_gatherBeside 163 = .ok (.return_, 1) := by decide +kernel
theorem dX6_putTurned_0 : decode cX6_putTurned 0 = .ok (.aload_n 0, 1) := by decide +kernel
theorem dX6_putTurned_1 : decode cX6_putTurned 1 = .ok (.getfield 36, 3) := by decide +kernel
theorem dX6_putTurned_4 : decode cX6_putTurned 4 = .ok (.iload_n 1, 1) := by decide +kernel
theorem dX6_putTurned_5 : decode cX6_putTurned 5 = .ok (.invokevirtual 241, 3) := by decide +kernel
theorem dX6_putTurned_8 : decode cX6_putTurned 8 = .ok (.iconst 0, 1) := by decide +kernel
theorem dX6_putTurned_9 : decode cX6_putTurned 9 = .ok (.istore 5, 2) := by decide +kernel
theorem dX6_putTurned_11 : decode cX6_putTurned 11 = .ok (.iconst 0, 1) := by decide +kernel
theorem dX6_putTurned_12 : decode cX6_putTurned 12 = .ok (.istore 6, 2) := by decide +kernel
theorem dX6_putTurned_14 : decode cX6_putTurned 14 = .ok (.iload 6, 2) := by decide +kernel
theorem dX6_putTurned_16 : decode cX6_putTurned 16 = .ok (.aload_n 0, 1) := by decide +kernel
theorem dX6_putTurned_17 : decode cX6_putTurned 17 = .ok (.getfield 45, 3) := by decide +kernel
theorem dX6_putTurned_20 : decode cX6_putTurned 20 = .ok (.getfield 244, 3) := by decide +kernel
theorem dX6_putTurned_23 : decode cX6_putTurned 23 = .ok (.if_icmp .ge 93, 3) := by decide +kernel
theorem dX6_putTurned_26 : decode cX6_putTurned 26 = .ok (.aload_n 0, 1) := by decide +kernel
theorem dX6_putTurned_27 : decode cX6_putTurned 27 = .ok (.getfield 45, 3) := by decide +kernel
theorem dX6_putTurned_30 : decode cX6_putTurned 30 = .ok (.iload 6, 2) := by decide +kernel
theorem dX6_putTurned_32 : decode cX6_putTurned 32 = .ok (.invokevirtual 247, 3) := by decide +kernel
theorem dX6_putTurned_35 : decode cX6_putTurned 35 = .ok (.ifCond .ne 6, 3) := by decide +kernel
theorem dX6_putTurned_38 : decode cX6_putTurned 38 = .ok (.goto 72, 3) := by decide +kernel
theorem dX6_putTurned_41 : decode cX6_putTurned 41 = .ok (.iconst 0, 1) := by decide +kernel
theorem dX6_putTurned_42 : decode cX6_putTurned 42 = .ok (.istore 7, 2) := by decide +kernel
theorem dX6_putTurned_44 : decode cX6_putTurned 44 = .ok (.iload 7, 2) := by decide +kernel
theorem dX6_putTurned_46 : decode cX6_putTurned 46 = .ok (.iload 4, 2) := by decide +kernel
theorem dX6_putTurned_48 : decode cX6_putTurned 48 = .ok (.if_icmp .ge 59, 3) := by decide +kernel
theorem dX6_putTurned_51 : decode cX6_putTurned 51 = .ok (.aload_n 0, 1) := by decide +kernel
theorem dX6_putTurned_52 : decode cX6_putTurned 52 = .ok (.getfield 45, 3) := by decide +kernel
theorem dX6_putTurned_55 : decode cX6_putTurned 55 = .ok (.iload_n 3, 1) := by decide +kernel
theorem dX6_putTurned_56 : decode cX6_putTurned 56 = .ok (.iload 7, 2) := by decide +kernel
theorem dX6_putTurned_58 : decode cX6_putTurned 58 = .ok (.iadd, 1) := by decide +kernel
theorem dX6_putTurned_59 : decode cX6_putTurned 59 = .ok (.iload 6, 2) := by decide +kernel
theorem dX6_putTurned_61 : decode cX6_putTurned 61 = .ok (.invokevirtual 250, 3) := by decide +kernel
theorem dX6_putTurned_64 : decode cX6_putTurned 64 = .ok (.istore 8, 2) := by decide +kernel
theorem dX6_putTurned_66 : decode cX6_putTurned 66 = .ok (.iload_n 2, 1) := by decide +kernel
theorem dX6_putTurned_67 : decode cX6_putTurned 67 = .ok (.ifCond .eq 20, 3) := by decide +kernel
theorem dX6_putTurned_70 : decode cX6_putTurned 70 = .ok (.aload_n 0, 1) := by decide +kernel
theorem dX6_putTurned_71 : decode cX6_putTurned 71 = .ok (.getfield 36, 3) := by decide +kernel
theorem dX6_putTurned_74 : decode cX6_putTurned 74 = .ok (.iload_n 1, 1) := by decide +kernel
theorem dX6_putTurned_75 : decode cX6_putTurned 75 = .ok (.iload 7, 2) := by decide +kernel
theorem dX6_putTurned_77 : decode cX6_putTurned 77 = .ok (.iload 5, 2) := by decide +kernel
theorem dX6_putTurned_79 : decode cX6_putTurned 79 = .ok (.iload 8, 2) := by decide +kernel
theorem dX6_putTurned_81 : decode cX6_putTurned 81 = .ok (.invokevirtual 109, 3) := by decide +kernel
theorem dX6_putTurned_84 : decode cX6_putTurned 84 = .ok (.goto 17, 3) := by decide +kernel
theorem dX6_putTurned_87 : decode cX6_putTurned 87 = .ok (.aload_n 0, 1) := by decide +kernel
theorem dX6_putTurned_88 : decode cX6_putTurned 88 = .ok (.getfield 36, 3) := by decide +kernel
theorem dX6_putTurned_91 : decode cX6_putTurned 91 = .ok (.iload_n 1, 1) := by decide +kernel
theorem dX6_putTurned_92 : decode cX6_putTurned 92 = .ok (.iload 5, 2) := by decide +kernel
theorem dX6_putTurned_94 : decode cX6_putTurned 94 = .ok (.iload 7, 2) := by decide +kernel
theorem dX6_putTurned_96 : decode cX6_putTurned 96 = .ok (.iload 8, 2) := by decide +kernel
theorem dX6_putTurned_98 : decode cX6_putTurned 98 = .ok (.invokevirtual 109, 3) := by decide +kernel
theorem dX6_putTurned_101 : decode cX6_putTurned 101 = .ok (.iinc 7 1, 3) := by decide +kernel
theorem dX6_putTurned_104 : decode cX6_putTurned 104 = .ok (.goto (-60), 3) := by decide +kernel
theorem dX6_putTurned_107 : decode cX6_putTurned 107 = .ok (.iinc 5 1, 3) := by decide +kernel
theorem dX6_putTurned_110 : decode cX6_putTurned 110 = .ok (.iinc 6 1, 3) := by decide +kernel
theorem dX6_putTurned_113 : decode cX6_putTurned 113 = .ok (.goto (-99), 3) := by decide +kernel
theorem dX6_putTurned_116 : decode cX6_putTurned 116 = .ok (.return_, 1) := by decide +kernel
theorem dX6_mapsOfSpans_0 : decode cX6_mapsOfSpans 0 = .ok (.iconst 0, 1) := by decide +kernel
theorem dX6_mapsOfSpans_1 : decode cX6_mapsOfSpans 1 = .ok (.istore_n 2, 1) := by decide +kernel
theorem dX6_mapsOfSpans_2 : decode cX6_mapsOfSpans 2 = .ok (.iconst 0, 1) := by decide +kernel
theorem dX6_mapsOfSpans_3 : decode cX6_mapsOfSpans 3 = .ok (.istore_n 3, 1) := by decide +kernel
theorem dX6_mapsOfSpans_4 : decode cX6_mapsOfSpans 4 = .ok (.iload_n 3, 1) := by decide +kernel
theorem dX6_mapsOfSpans_5 : decode cX6_mapsOfSpans 5 = .ok (.aload_n 0, 1) := by decide +kernel
theorem dX6_mapsOfSpans_6 : decode cX6_mapsOfSpans 6 = .ok (.getfield 61, 3) := by decide +kernel
theorem dX6_mapsOfSpans_9 : decode cX6_mapsOfSpans 9 = .ok (.getfield 253, 3) := by decide +kernel
theorem dX6_mapsOfSpans_12 : decode cX6_mapsOfSpans 12 = .ok (.if_icmp .ge 44, 3) := by decide +kernel
theorem dX6_mapsOfSpans_15 : decode cX6_mapsOfSpans 15 = .ok (.iconst 0, 1) := by decide +kernel
theorem dX6_mapsOfSpans_16 : decode cX6_mapsOfSpans 16 = .ok (.istore 4, 2) := by decide +kernel
theorem dX6_mapsOfSpans_18 : decode cX6_mapsOfSpans 18 = .ok (.iload 4, 2) := by decide +kernel
theorem dX6_mapsOfSpans_20 : decode cX6_mapsOfSpans 20 = .ok (.aload_n 0, 1) := by decide +kernel
theorem dX6_mapsOfSpans_21 : decode cX6_mapsOfSpans 21 = .ok (.getfield 65, 3) := by decide +kernel
theorem dX6_mapsOfSpans_24 : decode cX6_mapsOfSpans 24 = .ok (.getfield 253, 3) := by decide +kernel
theorem dX6_mapsOfSpans_27 : decode cX6_mapsOfSpans 27 = .ok (.if_icmp .ge 23, 3) := by decide +kernel
theorem dX6_mapsOfSpans_30 : decode cX6_mapsOfSpans 30 = .ok (.aload_n 0, 1) := by decide +kernel
theorem dX6_mapsOfSpans_31 : decode cX6_mapsOfSpans 31 = .ok (.aload_n 1, 1) := by decide +kernel
theorem dX6_mapsOfSpans_32 : decode cX6_mapsOfSpans 32 = .ok (.iload_n 3, 1) := by decide +kernel
theorem dX6_mapsOfSpans_33 : decode cX6_mapsOfSpans 33 = .ok (.iload 4, 2) := by decide +kernel
theorem dX6_mapsOfSpans_35 : decode cX6_mapsOfSpans 35 = .ok (.invokevirtual 256, 3) := by decide +kernel
theorem dX6_mapsOfSpans_38 : decode cX6_mapsOfSpans 38 = .ok (.ifCond .eq 6, 3) := by decide +kernel
theorem dX6_mapsOfSpans_41 : decode cX6_mapsOfSpans 41 = .ok (.iinc 2 1, 3) := by decide +kernel
theorem dX6_mapsOfSpans_44 : decode cX6_mapsOfSpans 44 = .ok (.iinc 4 1, 3) := by decide +kernel
theorem dX6_mapsOfSpans_47 : decode cX6_mapsOfSpans 47 = .ok (.goto (-29), 3) := by decide +kernel
theorem dX6_mapsOfSpans_50 : decode cX6_mapsOfSpans 50 = .ok (.iinc 3 1, 3) := by decide +kernel
theorem dX6_mapsOfSpans_53 : decode cX6_mapsOfSpans 53 = .ok (.goto (-49), 3) := by decide +kernel
theorem dX6_mapsOfSpans_56 : decode cX6_mapsOfSpans 56 = .ok (.iload_n 2, 1) := by decide +kernel
theorem dX6_mapsOfSpans_57 : decode cX6_mapsOfSpans 57 = .ok (.ireturn, 1) := by decide +kernel
theorem dX6_isMapped_0 : decode cX6_isMapped 0 = .ok (.aload_n 0, 1) := by decide +kernel
theorem dX6_isMapped_1 : decode cX6_isMapped 1 = .ok (.getfield 61, 3) := by decide +kernel
theorem dX6_isMapped_4 : decode cX6_isMapped 4 = .ok (.getfield 259, 3) := by decide +kernel
theorem dX6_isMapped_7 : decode cX6_isMapped 7 = .ok (.iload_n 2, 1) := by decide +kernel
theorem dX6_isMapped_8 : decode cX6_isMapped 8 = .ok (.iaload, 1) := by decide +kernel
theorem dX6_isMapped_9 : decode cX6_isMapped 9 = .ok (.istore 4, 2) := by decide +kernel
theorem dX6_isMapped_11 : decode cX6_isMapped 11 = .ok (.aload_n 0, 1) := by decide +kernel
theorem dX6_isMapped_12 : decode cX6_isMapped 12 = .ok (.getfield 61, 3) := by decide +kernel
theorem dX6_isMapped_15 : decode cX6_isMapped 15 = .ok (.getfield 262, 3) := by decide +kernel
theorem dX6_isMapped_18 : decode cX6_isMapped 18 = .ok (.iload_n 2, 1) := by decide +kernel
theorem dX6_isMapped_19 : decode cX6_isMapped 19 = .ok (.iaload, 1) := by decide +kernel
theorem dX6_isMapped_20 : decode cX6_isMapped 20 = .ok (.istore 5, 2) := by decide +kernel
theorem dX6_isMapped_22 : decode cX6_isMapped 22 = .ok (.aload_n 0, 1) := by decide +kernel
theorem dX6_isMapped_23 : decode cX6_isMapped 23 = .ok (.getfield 65, 3) := by decide +kernel
theorem dX6_isMapped_26 : decode cX6_isMapped 26 = .ok (.getfield 259, 3) := by decide +kernel
theorem dX6_isMapped_29 : decode cX6_isMapped 29 = .ok (.iload_n 3, 1) := by decide +kernel
theorem dX6_isMapped_30 : decode cX6_isMapped 30 = .ok (.iaload, 1) := by decide +kernel
theorem dX6_isMapped_31 : decode cX6_isMapped 31 = .ok (.istore 6, 2) := by decide +kernel
theorem dX6_isMapped_33 : decode cX6_isMapped 33 = .ok (.aload_n 0, 1) := by decide +kernel
theorem dX6_isMapped_34 : decode cX6_isMapped 34 = .ok (.getfield 65, 3) := by decide +kernel
theorem dX6_isMapped_37 : decode cX6_isMapped 37 = .ok (.getfield 262, 3) := by decide +kernel
theorem dX6_isMapped_40 : decode cX6_isMapped 40 = .ok (.iload_n 3, 1) := by decide +kernel
theorem dX6_isMapped_41 : decode cX6_isMapped 41 = .ok (.iaload, 1) := by decide +kernel
theorem dX6_isMapped_42 : decode cX6_isMapped 42 = .ok (.istore 7, 2) := by decide +kernel
theorem dX6_isMapped_44 : decode cX6_isMapped 44 = .ok (.iload 4, 2) := by decide +kernel
theorem dX6_isMapped_46 : decode cX6_isMapped 46 = .ok (.iload 6, 2) := by decide +kernel
theorem dX6_isMapped_48 : decode cX6_isMapped 48 = .ok (.invokestatic 23, 3) := by decide +kernel
theorem dX6_isMapped_51 : decode cX6_isMapped 51 = .ok (.istore 8, 2) := by decide +kernel
theorem dX6_isMapped_53 : decode cX6_isMapped 53 = .ok (.iload 5, 2) := by decide +kernel
theorem dX6_isMapped_55 : decode cX6_isMapped 55 = .ok (.iload 7, 2) := by decide +kernel
theorem dX6_isMapped_57 : decode cX6_isMapped 57 = .ok (.invokestatic 17, 3) := by decide +kernel
theorem dX6_isMapped_60 : decode cX6_isMapped 60 = .ok (.istore 9, 2) := by decide +kernel
theorem dX6_isMapped_62 : decode cX6_isMapped 62 = .ok (.iload 8, 2) := by decide +kernel
theorem dX6_isMapped_64 : decode cX6_isMapped 64 = .ok (.iload 9, 2) := by decide +kernel
theorem dX6_isMapped_66 : decode cX6_isMapped 66 = .ok (.if_icmp .le 5, 3) := by decide +kernel
theorem dX6_isMapped_69 : decode cX6_isMapped 69 = .ok (.iconst 0, 1) := by decide +kernel
theorem dX6_isMapped_70 : decode cX6_isMapped 70 = .ok (.ireturn, 1) := by decide +kernel
theorem dX6_isMapped_71 : decode cX6_isMapped 71 = .ok (.iload 4, 2) := by decide +kernel
theorem dX6_isMapped_73 : decode cX6_isMapped 73 = .ok (.iload 6, 2) := by decide +kernel
theorem dX6_isMapped_75 : decode cX6_isMapped 75 = .ok (.if_icmp .eq 28, 3) := by decide +kernel
theorem dX6_isMapped_78 : decode cX6_isMapped 78 = .ok (.aload_n 1, 1) := by decide +kernel
theorem dX6_isMapped_79 : decode cX6_isMapped 79 = .ok (.iload 8, 2) := by decide +kernel
theorem dX6_isMapped_81 : decode cX6_isMapped 81 = .ok (.iconst 1, 1) := by decide +kernel
theorem dX6_isMapped_82 : decode cX6_isMapped 82 = .ok (.isub, 1) := by decide +kernel
theorem dX6_isMapped_83 : decode cX6_isMapped 83 = .ok (.invokevirtual 228, 3) := by decide +kernel
theorem dX6_isMapped_86 : decode cX6_isMapped 86 = .ok (.iload 4, 2) := by decide +kernel
theorem dX6_isMapped_88 : decode cX6_isMapped 88 = .ok (.iload 6, 2) := by decide +kernel
theorem dX6_isMapped_90 : decode cX6_isMapped 90 = .ok (.if_icmp .ge 7, 3) := by decide +kernel
theorem dX6_isMapped_93 : decode cX6_isMapped 93 = .ok (.iconst 1, 1) := by decide +kernel
theorem dX6_isMapped_94 : decode cX6_isMapped 94 = .ok (.goto 4, 3) := by decide +kernel
theorem dX6_isMapped_97 : decode cX6_isMapped 97 = .ok (.iconst 0, 1) := by decide +kernel
theorem dX6_isMapped_98 : decode cX6_isMapped 98 = .ok (.if_icmp .eq 5, 3) := by decide +kernel
theorem dX6_isMapped_101 : decode cX6_isMapped 101 = .ok (.iconst 0, 1) := by decide +kernel
theorem dX6_isMapped_102 : decode cX6_isMapped 102 = .ok (.ireturn, 1) := by decide +kernel
theorem dX6_isMapped_103 : decode cX6_isMapped 103 = .ok (.iload 5, 2) := by decide +kernel
theorem dX6_isMapped_105 : decode cX6_isMapped 105 = .ok (.iload 7, 2) := by decide +kernel
theorem dX6_isMapped_107 : decode cX6_isMapped 107 = .ok (.if_icmp .eq 24, 3) := by decide +kernel
theorem dX6_isMapped_110 : decode cX6_isMapped 110 = .ok (.aload_n 1, 1) := by decide +kernel
theorem dX6_isMapped_111 : decode cX6_isMapped 111 = .ok (.iload 9, 2) := by decide +kernel
theorem dX6_isMapped_113 : decode cX6_isMapped 113 = .ok (.invokevirtual 228, 3) := by decide +kernel
theorem dX6_isMapped_116 : decode cX6_isMapped 116 = .ok (.iload 5, 2) := by decide +kernel
theorem dX6_isMapped_118 : decode cX6_isMapped 118 = .ok (.iload 7, 2) := by decide +kernel
theorem dX6_isMapped_120 : decode cX6_isMapped 120 = .ok (.if_icmp .ge 7, 3) := by decide +kernel
theorem dX6_isMapped_123 : decode cX6_isMapped 123 = .ok (.iconst 1, 1) := by decide +kernel
theorem dX6_isMapped_124 : decode cX6_isMapped 124 = .ok (.goto 4, 3) := by decide +kernel
theorem dX6_isMapped_127 : decode cX6_isMapped 127 = .ok (.iconst 0, 1) := by decide +kernel
theorem dX6_isMapped_128 : decode cX6_isMapped 128 = .ok (.if_icmp .ne 7, 3) := by decide +kernel
theorem dX6_isMapped_131 : decode cX6_isMapped 131 = .ok (.iconst 1, 1) := by decide +kernel
theorem dX6_isMapped_132 : decode cX6_isMapped 132 = .ok (.goto 4, 3) := by decide +kernel
theorem dX6_isMapped_135 : decode cX6_isMapped 135 = .ok (.iconst 0, 1) := by decide +kernel
theorem dX6_isMapped_136 : decode cX6_isMapped 136 = .ok (.ireturn, 1) := by decide +kernel
theorem dX6_isLed_0 : decode cX6_isLed 0 = .ok (.iload_n 1, 1) := by decide +kernel
theorem dX6_isLed_1 : decode cX6_isLed 1 = .ok (.iload_n 2, 1) := by decide +kernel
theorem dX6_isLed_2 : decode cX6_isLed 2 = .ok (.invokestatic 23, 3) := by decide +kernel
theorem dX6_isLed_5 : decode cX6_isLed 5 = .ok (.istore_n 3, 1) := by decide +kernel
theorem dX6_isLed_6 : decode cX6_isLed 6 = .ok (.iload_n 1, 1) := by decide +kernel
theorem dX6_isLed_7 : decode cX6_isLed 7 = .ok (.iload_n 2, 1) := by decide +kernel
theorem dX6_isLed_8 : decode cX6_isLed 8 = .ok (.invokestatic 17, 3) := by decide +kernel
theorem dX6_isLed_11 : decode cX6_isLed 11 = .ok (.istore 4, 2) := by decide +kernel
theorem dX6_isLed_13 : decode cX6_isLed 13 = .ok (.iload 4, 2) := by decide +kernel
theorem dX6_isLed_15 : decode cX6_isLed 15 = .ok (.iload_n 3, 1) := by decide +kernel
theorem dX6_isLed_16 : decode cX6_isLed 16 = .ok (.if_icmp .ge 30, 3) := by decide +kernel
theorem dX6_isLed_19 : decode cX6_isLed 19 = .ok (.aload_n 0, 1) := by decide +kernel
theorem dX6_isLed_20 : decode cX6_isLed 20 = .ok (.iload 4, 2) := by decide +kernel
theorem dX6_isLed_22 : decode cX6_isLed 22 = .ok (.invokevirtual 228, 3) := by decide +kernel
theorem dX6_isLed_25 : decode cX6_isLed 25 = .ok (.iload_n 1, 1) := by decide +kernel
theorem dX6_isLed_26 : decode cX6_isLed 26 = .ok (.iload_n 2, 1) := by decide +kernel
theorem dX6_isLed_27 : decode cX6_isLed 27 = .ok (.if_icmp .le 7, 3) := by decide +kernel
theorem dX6_isLed_30 : decode cX6_isLed 30 = .ok (.iconst 1, 1) := by decide +kernel
theorem dX6_isLed_31 : decode cX6_isLed 31 = .ok (.goto 4, 3) := by decide +kernel
theorem dX6_isLed_34 : decode cX6_isLed 34 = .ok (.iconst 0, 1) := by decide +kernel
theorem dX6_isLed_35 : decode cX6_isLed 35 = .ok (.if_icmp .eq 5, 3) := by decide +kernel
theorem dX6_isLed_38 : decode cX6_isLed 38 = .ok (.iconst 0, 1) := by decide +kernel
theorem dX6_isLed_39 : decode cX6_isLed 39 = .ok (.ireturn, 1) := by decide +kernel
theorem dX6_isLed_40 : decode cX6_isLed 40 = .ok (.iinc 4 1, 3) := by decide +kernel
theorem dX6_isLed_43 : decode cX6_isLed 43 = .ok (.goto (-30), 3) := by decide +kernel
theorem dX6_isLed_46 : decode cX6_isLed 46 = .ok (.iconst 1, 1) := by decide +kernel
theorem dX6_isLed_47 : decode cX6_isLed 47 = .ok (.ireturn, 1) := by decide +kernel
