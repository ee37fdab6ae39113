theorem dX0_init_0 : decode cX0_init 0 = .ok (.aload_n 0, 1) := by decide +kernel
theorem dX0_init_1 : decode cX0_init 1 = .ok (.invokespecial 3, 3) := by decide +kernel
theorem dX0_init_4 : decode cX0_init 4 = .ok (.aload_n 0, 1) := by decide +kernel
theorem dX0_init_5 : decode cX0_init 5 = .ok (.sipush 310, 3) := by decide +kernel
theorem dX0_init_8 : decode cX0_init 8 = .ok (.newarray .int, 2) := by decide +kernel
theorem dX0_init_10 : decode cX0_init 10 = .ok (.putfield 9, 3) := by decide +kernel
theorem dX0_init_13 : decode cX0_init 13 = .ok (.aload_n 0, 1) := by decide +kernel
theorem dX0_init_14 : decode cX0_init 14 = .ok (.bipush 6, 2) := by decide +kernel
theorem dX0_init_16 : decode cX0_init 16 = .ok (.newarray .int, 2) := by decide +kernel
theorem dX0_init_18 : decode cX0_init 18 = .ok (.putfield 15, 3) := by decide +kernel
theorem dX0_init_21 : decode cX0_init 21 = .ok (.return_, 1) := by decide +kernel
theorem dX0_startFrom_0 : decode cX0_startFrom 0 = .ok (.iconst 0, 1) := by decide +kernel
theorem dX0_startFrom_1 : decode cX0_startFrom 1 = .ok (.istore_n 2, 1) := by decide +kernel
theorem dX0_startFrom_2 : decode cX0_startFrom 2 = .ok (.iload_n 2, 1) := by decide +kernel
theorem dX0_startFrom_3 : decode cX0_startFrom 3 = .ok (.aload_n 1, 1) := by decide +kernel
theorem dX0_startFrom_4 : decode cX0_startFrom 4 = .ok (.getfield 18, 3) := by decide +kernel
theorem dX0_startFrom_7 : decode cX0_startFrom 7 = .ok (.if_icmp .ge 20, 3) := by decide +kernel
theorem dX0_startFrom_10 : decode cX0_startFrom 10 = .ok (.aload_n 0, 1) := by decide +kernel
theorem dX0_startFrom_11 : decode cX0_startFrom 11 = .ok (.getfield 9, 3) := by decide +kernel
theorem dX0_startFrom_14 : decode cX0_startFrom 14 = .ok (.iload_n 2, 1) := by decide +kernel
theorem dX0_startFrom_15 : decode cX0_startFrom 15 = .ok (.aload_n 1, 1) := by decide +kernel
theorem dX0_startFrom_16 : decode cX0_startFrom 16 = .ok (.iload_n 2, 1) := by decide +kernel
theorem dX0_startFrom_17 : decode cX0_startFrom 17 = .ok (.invokevirtual 24, 3) := by decide +kernel
theorem dX0_startFrom_20 : decode cX0_startFrom 20 = .ok (.iastore, 1) := by decide +kernel
theorem dX0_startFrom_21 : decode cX0_startFrom 21 = .ok (.iinc 2 1, 3) := by decide +kernel
theorem dX0_startFrom_24 : decode cX0_startFrom 24 = .ok (.goto (-22), 3) := by decide +kernel
theorem dX0_startFrom_27 : decode cX0_startFrom 27 = .ok (.aload_n 0, 1) := by decide +kernel
theorem dX0_startFrom_28 : decode cX0_startFrom 28 = .ok (.aload_n 1, 1) := by decide +kernel
theorem dX0_startFrom_29 : decode cX0_startFrom 29 = .ok (.getfield 18, 3) := by decide +kernel
theorem dX0_startFrom_32 : decode cX0_startFrom 32 = .ok (.putfield 27, 3) := by decide +kernel
theorem dX0_startFrom_35 : decode cX0_startFrom 35 = .ok (.aload_n 0, 1) := by decide +kernel
theorem dX0_startFrom_36 : decode cX0_startFrom 36 = .ok (.aload_n 1, 1) := by decide +kernel
theorem dX0_startFrom_37 : decode cX0_startFrom 37 = .ok (.getfield 30, 3) := by decide +kernel
theorem dX0_startFrom_40 : decode cX0_startFrom 40 = .ok (.putfield 34, 3) := by decide +kernel
theorem dX0_startFrom_43 : decode cX0_startFrom 43 = .ok (.return_, 1) := by decide +kernel
theorem dX0_crossed_0 : decode cX0_crossed 0 = .ok (.aload_n 1, 1) := by decide +kernel
theorem dX0_crossed_1 : decode cX0_crossed 1 = .ok (.iload_n 2, 1) := by decide +kernel
theorem dX0_crossed_2 : decode cX0_crossed 2 = .ok (.aload_n 0, 1) := by decide +kernel
theorem dX0_crossed_3 : decode cX0_crossed 3 = .ok (.invokevirtual 35, 3) := by decide +kernel
theorem dX0_crossed_6 : decode cX0_crossed 6 = .ok (.aload_n 0, 1) := by decide +kernel
theorem dX0_crossed_7 : decode cX0_crossed 7 = .ok (.invokevirtual 39, 3) := by decide +kernel
theorem dX0_crossed_10 : decode cX0_crossed 10 = .ok (.invokevirtual 42, 3) := by decide +kernel
theorem dX0_crossed_13 : decode cX0_crossed 13 = .ok (.ifCond .ne 5, 3) := by decide +kernel
theorem dX0_crossed_16 : decode cX0_crossed 16 = .ok (.iconst 0, 1) := by decide +kernel
theorem dX0_crossed_17 : decode cX0_crossed 17 = .ok (.ireturn, 1) := by decide +kernel
theorem dX0_crossed_18 : decode cX0_crossed 18 = .ok (.aload_n 0, 1) := by decide +kernel
theorem dX0_crossed_19 : decode cX0_crossed 19 = .ok (.aload_n 1, 1) := by decide +kernel
theorem dX0_crossed_20 : decode cX0_crossed 20 = .ok (.iload_n 2, 1) := by decide +kernel
theorem dX0_crossed_21 : decode cX0_crossed 21 = .ok (.invokevirtual 48, 3) := by decide +kernel
theorem dX0_crossed_24 : decode cX0_crossed 24 = .ok (.iconst 1, 1) := by decide +kernel
theorem dX0_crossed_25 : decode cX0_crossed 25 = .ok (.ireturn, 1) := by decide +kernel
theorem dX0_findOrder_0 : decode cX0_findOrder 0 = .ok (.aload_n 0, 1) := by decide +kernel
theorem dX0_findOrder_1 : decode cX0_findOrder 1 = .ok (.aload_n 1, 1) := by decide +kernel
theorem dX0_findOrder_2 : decode cX0_findOrder 2 = .ok (.iload_n 2, 1) := by decide +kernel
theorem dX0_findOrder_3 : decode cX0_findOrder 3 = .ok (.iconst 0, 1) := by decide +kernel
theorem dX0_findOrder_4 : decode cX0_findOrder 4 = .ok (.iconst 0, 1) := by decide +kernel
theorem dX0_findOrder_5 : decode cX0_findOrder 5 = .ok (.invokestatic 52, 3) := by decide +kernel
theorem dX0_findOrder_8 : decode cX0_findOrder 8 = .ok (.ireturn, 1) := by decide +kernel
theorem dX0_findRest_0 : decode cX0_findRest 0 = .ok (.iload 4, 2) := by decide +kernel
theorem dX0_findRest_2 : decode cX0_findRest 2 = .ok (.aload_n 1, 1) := by decide +kernel
theorem dX0_findRest_3 : decode cX0_findRest 3 = .ok (.getfield 56, 3) := by decide +kernel
theorem dX0_findRest_6 : decode cX0_findRest 6 = .ok (.if_icmp .ge 10, 3) := by decide +kernel
theorem dX0_findRest_9 : decode cX0_findRest 9 = .ok (.iload 4, 2) := by decide +kernel
theorem dX0_findRest_11 : decode cX0_findRest 11 = .ok (.bipush 6, 2) := by decide +kernel
theorem dX0_findRest_13 : decode cX0_findRest 13 = .ok (.if_icmp .lt 5, 3) := by decide +kernel
theorem dX0_findRest_16 : decode cX0_findRest 16 = .ok (.iconst 1, 1) := by decide +kernel
theorem dX0_findRest_17 : decode cX0_findRest 17 = .ok (.ireturn, 1) := by decide +kernel
theorem dX0_findRest_18 : decode cX0_findRest 18 = .ok (.aload_n 0, 1) := by decide +kernel
theorem dX0_findRest_19 : decode cX0_findRest 19 = .ok (.getfield 27, 3) := by decide +kernel
theorem dX0_findRest_22 : decode cX0_findRest 22 = .ok (.istore 5, 2) := by decide +kernel
theorem dX0_findRest_24 : decode cX0_findRest 24 = .ok (.aload_n 0, 1) := by decide +kernel
theorem dX0_findRest_25 : decode cX0_findRest 25 = .ok (.invokevirtual 35, 3) := by decide +kernel
theorem dX0_findRest_28 : decode cX0_findRest 28 = .ok (.istore 6, 2) := by decide +kernel
theorem dX0_findRest_30 : decode cX0_findRest 30 = .ok (.aload_n 0, 1) := by decide +kernel
theorem dX0_findRest_31 : decode cX0_findRest 31 = .ok (.invokevirtual 39, 3) := by decide +kernel
theorem dX0_findRest_34 : decode cX0_findRest 34 = .ok (.istore 7, 2) := by decide +kernel
theorem dX0_findRest_36 : decode cX0_findRest 36 = .ok (.iload 4, 2) := by decide +kernel
theorem dX0_findRest_38 : decode cX0_findRest 38 = .ok (.aload_n 1, 1) := by decide +kernel
theorem dX0_findRest_39 : decode cX0_findRest 39 = .ok (.getfield 56, 3) := by decide +kernel
theorem dX0_findRest_42 : decode cX0_findRest 42 = .ok (.iconst 1, 1) := by decide +kernel
theorem dX0_findRest_43 : decode cX0_findRest 43 = .ok (.isub, 1) := by decide +kernel
theorem dX0_findRest_44 : decode cX0_findRest 44 = .ok (.if_icmp .ne 7, 3) := by decide +kernel
theorem dX0_findRest_47 : decode cX0_findRest 47 = .ok (.iconst 1, 1) := by decide +kernel
theorem dX0_findRest_48 : decode cX0_findRest 48 = .ok (.goto 4, 3) := by decide +kernel
theorem dX0_findRest_51 : decode cX0_findRest 51 = .ok (.iconst 0, 1) := by decide +kernel
theorem dX0_findRest_52 : decode cX0_findRest 52 = .ok (.istore 8, 2) := by decide +kernel
theorem dX0_findRest_54 : decode cX0_findRest 54 = .ok (.iconst 0, 1) := by decide +kernel
theorem dX0_findRest_55 : decode cX0_findRest 55 = .ok (.istore 9, 2) := by decide +kernel
theorem dX0_findRest_57 : decode cX0_findRest 57 = .ok (.iload 9, 2) := by decide +kernel
theorem dX0_findRest_59 : decode cX0_findRest 59 = .ok (.aload_n 1, 1) := by decide +kernel
theorem dX0_findRest_60 : decode cX0_findRest 60 = .ok (.getfield 56, 3) := by decide +kernel
theorem dX0_findRest_63 : decode cX0_findRest 63 = .ok (.if_icmp .ge 107, 3) := by decide +kernel
theorem dX0_findRest_66 : decode cX0_findRest 66 = .ok (.iload_n 3, 1) := by decide +kernel
theorem dX0_findRest_67 : decode cX0_findRest 67 = .ok (.iconst 1, 1) := by decide +kernel
theorem dX0_findRest_68 : decode cX0_findRest 68 = .ok (.iload 9, 2) := by decide +kernel
theorem dX0_findRest_70 : decode cX0_findRest 70 = .ok (.ishl, 1) := by decide +kernel
theorem dX0_findRest_71 : decode cX0_findRest 71 = .ok (.iand, 1) := by decide +kernel
theorem dX0_findRest_72 : decode cX0_findRest 72 = .ok (.ifCond .ne 28, 3) := by decide +kernel
theorem dX0_findRest_75 : decode cX0_findRest 75 = .ok (.iload_n 2, 1) := by decide +kernel
theorem dX0_findRest_76 : decode cX0_findRest 76 = .ok (.iconst (-1), 1) := by decide +kernel
theorem dX0_findRest_77 : decode cX0_findRest 77 = .ok (.if_icmp .eq 19, 3) := by decide +kernel
theorem dX0_findRest_80 : decode cX0_findRest 80 = .ok (.iload 9, 2) := by decide +kernel
theorem dX0_findRest_82 : decode cX0_findRest 82 = .ok (.iload_n 2, 1) := by decide +kernel
theorem dX0_findRest_83 : decode cX0_findRest 83 = .ok (.if_icmp .ne 7, 3) := by decide +kernel
theorem dX0_findRest_86 : decode cX0_findRest 86 = .ok (.iconst 1, 1) := by decide +kernel
theorem dX0_findRest_87 : decode cX0_findRest 87 = .ok (.goto 4, 3) := by decide +kernel
theorem dX0_findRest_90 : decode cX0_findRest 90 = .ok (.iconst 0, 1) := by decide +kernel
theorem dX0_findRest_91 : decode cX0_findRest 91 = .ok (.iload 8, 2) := by decide +kernel
theorem dX0_findRest_93 : decode cX0_findRest 93 = .ok (.if_icmp .ne 7, 3) := by decide +kernel
theorem dX0_findRest_96 : decode cX0_findRest 96 = .ok (.iconst 1, 1) := by decide +kernel
theorem dX0_findRest_97 : decode cX0_findRest 97 = .ok (.goto 4, 3) := by decide +kernel
theorem dX0_findRest_100 : decode cX0_findRest 100 = .ok (.iconst 0, 1) := by decide +kernel
theorem dX0_findRest_101 : decode cX0_findRest 101 = .ok (.istore 10, 2) := by decide +kernel
theorem dX0_findRest_103 : decode cX0_findRest 103 = .ok (.iload 10, 2) := by decide +kernel
theorem dX0_findRest_105 : decode cX0_findRest 105 = .ok (.ifCond .eq 59, 3) := by decide +kernel
theorem dX0_findRest_108 : decode cX0_findRest 108 = .ok (.aload_n 1, 1) := by decide +kernel
theorem dX0_findRest_109 : decode cX0_findRest 109 = .ok (.iload 9, 2) := by decide +kernel
theorem dX0_findRest_111 : decode cX0_findRest 111 = .ok (.iload 6, 2) := by decide +kernel
theorem dX0_findRest_113 : decode cX0_findRest 113 = .ok (.iload 7, 2) := by decide +kernel
theorem dX0_findRest_115 : decode cX0_findRest 115 = .ok (.invokevirtual 42, 3) := by decide +kernel
theorem dX0_findRest_118 : decode cX0_findRest 118 = .ok (.ifCond .eq 46, 3) := by decide +kernel
theorem dX0_findRest_121 : decode cX0_findRest 121 = .ok (.aload_n 0, 1) := by decide +kernel
theorem dX0_findRest_122 : decode cX0_findRest 122 = .ok (.getfield 15, 3) := by decide +kernel
theorem dX0_findRest_125 : decode cX0_findRest 125 = .ok (.iload 4, 2) := by decide +kernel
theorem dX0_findRest_127 : decode cX0_findRest 127 = .ok (.iload 9, 2) := by decide +kernel
theorem dX0_findRest_129 : decode cX0_findRest 129 = .ok (.iastore, 1) := by decide +kernel
theorem dX0_findRest_130 : decode cX0_findRest 130 = .ok (.aload_n 0, 1) := by decide +kernel
theorem dX0_findRest_131 : decode cX0_findRest 131 = .ok (.aload_n 1, 1) := by decide +kernel
theorem dX0_findRest_132 : decode cX0_findRest 132 = .ok (.iload 9, 2) := by decide +kernel
theorem dX0_findRest_134 : decode cX0_findRest 134 = .ok (.invokevirtual 48, 3) := by decide +kernel
theorem dX0_findRest_137 : decode cX0_findRest 137 = .ok (.aload_n 0, 1) := by decide +kernel
theorem dX0_findRest_138 : decode cX0_findRest 138 = .ok (.aload_n 1, 1) := by decide +kernel
theorem dX0_findRest_139 : decode cX0_findRest 139 = .ok (.iload_n 2, 1) := by decide +kernel
theorem dX0_findRest_140 : decode cX0_findRest 140 = .ok (.iload_n 3, 1) := by decide +kernel
theorem dX0_findRest_141 : decode cX0_findRest 141 = .ok (.iconst 1, 1) := by decide +kernel
theorem dX0_findRest_142 : decode cX0_findRest 142 = .ok (.iload 9, 2) := by decide +kernel
theorem dX0_findRest_144 : decode cX0_findRest 144 = .ok (.ishl, 1) := by decide +kernel
theorem dX0_findRest_145 : decode cX0_findRest 145 = .ok (.ior, 1) := by decide +kernel
theorem dX0_findRest_146 : decode cX0_findRest 146 = .ok (.iload 4, 2) := by decide +kernel
theorem dX0_findRest_148 : decode cX0_findRest 148 = .ok (.iconst 1, 1) := by decide +kernel
theorem dX0_findRest_149 : decode cX0_findRest 149 = .ok (.iadd, 1) := by decide +kernel
theorem dX0_findRest_150 : decode cX0_findRest 150 = .ok (.invokestatic 52, 3) := by decide +kernel
theorem dX0_findRest_153 : decode cX0_findRest 153 = .ok (.ifCond .eq 5, 3) := by decide +kernel
theorem dX0_findRest_156 : decode cX0_findRest 156 = .ok (.iconst 1, 1) := by decide +kernel
theorem dX0_findRest_157 : decode cX0_findRest 157 = .ok (.ireturn, 1) := by decide +kernel
theorem dX0_findRest_158 : decode cX0_findRest 158 = .ok (.aload_n 0, 1) := by decide +kernel
theorem dX0_findRest_159 : decode cX0_findRest 159 = .ok (.iload 5, 2) := by decide +kernel
theorem dX0_findRest_161 : decode cX0_findRest 161 = .ok (.putfield 27, 3) := by decide +kernel
theorem dX0_findRest_164 : decode cX0_findRest 164 = .ok (.iinc 9 1, 3) := by decide +kernel
theorem dX0_findRest_167 : decode cX0_findRest 167 = .ok (.goto (-110), 3) := by decide +kernel
theorem dX0_findRest_170 : decode cX0_findRest 170 = .ok (.iconst 0, 1) := by decide +kernel
theorem dX0_findRest_171 : decode cX0_findRest 171 = .ok (.ireturn, 1) := by decide +kernel
theorem dX0_knit_0 : decode cX0_knit 0 = .ok (.iconst 0, 1) := by decide +kernel
theorem dX0_knit_1 : decode cX0_knit 1 = .ok (.istore_n 3, 1) := by decide +kernel
theorem dX0_knit_2 : decode cX0_knit 2 = .ok (.iload_n 3, 1) := by decide +kernel
theorem dX0_knit_3 : decode cX0_knit 3 = .ok (.aload_n 1, 1) := by decide +kernel
theorem dX0_knit_4 : decode cX0_knit 4 = .ok (.getfield 59, 3) := by decide +kernel
theorem dX0_knit_7 : decode cX0_knit 7 = .ok (.iload_n 2, 1) := by decide +kernel
theorem dX0_knit_8 : decode cX0_knit 8 = .ok (.iaload, 1) := by decide +kernel
theorem dX0_knit_9 : decode cX0_knit 9 = .ok (.if_icmp .ge 46, 3) := by decide +kernel
theorem dX0_knit_12 : decode cX0_knit 12 = .ok (.aload_n 0, 1) := by decide +kernel
theorem dX0_knit_13 : decode cX0_knit 13 = .ok (.getfield 27, 3) := by decide +kernel
theorem dX0_knit_16 : decode cX0_knit 16 = .ok (.aload_n 0, 1) := by decide +kernel
theorem dX0_knit_17 : decode cX0_knit 17 = .ok (.getfield 9, 3) := by decide +kernel
theorem dX0_knit_20 : decode cX0_knit 20 = .ok (.arraylength, 1) := by decide +kernel
theorem dX0_knit_21 : decode cX0_knit 21 = .ok (.if_icmp .ge 34, 3) := by decide +kernel
theorem dX0_knit_24 : decode cX0_knit 24 = .ok (.aload_n 0, 1) := by decide +kernel
theorem dX0_knit_25 : decode cX0_knit 25 = .ok (.getfield 9, 3) := by decide +kernel
theorem dX0_knit_28 : decode cX0_knit 28 = .ok (.aload_n 0, 1) := by decide +kernel
theorem dX0_knit_29 : decode cX0_knit 29 = .ok (.getfield 27, 3) := by decide +kernel
theorem dX0_knit_32 : decode cX0_knit 32 = .ok (.aload_n 1, 1) := by decide +kernel
theorem dX0_knit_33 : decode cX0_knit 33 = .ok (.getfield 62, 3) := by decide +kernel
theorem dX0_knit_36 : decode cX0_knit 36 = .ok (.iload_n 2, 1) := by decide +kernel
theorem dX0_knit_37 : decode cX0_knit 37 = .ok (.iaload, 1) := by decide +kernel
theorem dX0_knit_38 : decode cX0_knit 38 = .ok (.iastore, 1) := by decide +kernel
theorem dX0_knit_39 : decode cX0_knit 39 = .ok (.aload_n 0, 1) := by decide +kernel
theorem dX0_knit_40 : decode cX0_knit 40 = .ok (.dup, 1) := by decide +kernel
theorem dX0_knit_41 : decode cX0_knit 41 = .ok (.getfield 27, 3) := by decide +kernel
theorem dX0_knit_44 : decode cX0_knit 44 = .ok (.iconst 1, 1) := by decide +kernel
theorem dX0_knit_45 : decode cX0_knit 45 = .ok (.iadd, 1) := by decide +kernel
theorem dX0_knit_46 : decode cX0_knit 46 = .ok (.putfield 27, 3) := by decide +kernel
theorem dX0_knit_49 : decode cX0_knit 49 = .ok (.iinc 3 1, 3) := by decide +kernel
theorem dX0_knit_52 : decode cX0_knit 52 = .ok (.goto (-50), 3) := by decide +kernel
theorem dX0_knit_55 : decode cX0_knit 55 = .ok (.return_, 1) := by decide +kernel
theorem dX0_first_0 : decode cX0_first 0 = .ok (.iconst 0, 1) := by decide +kernel
theorem dX0_first_1 : decode cX0_first 1 = .ok (.aload_n 0, 1) := by decide +kernel
theorem dX0_first_2 : decode cX0_first 2 = .ok (.getfield 27, 3) := by decide +kernel
theorem dX0_first_5 : decode cX0_first 5 = .ok (.bipush 40, 2) := by decide +kernel
theorem dX0_first_7 : decode cX0_first 7 = .ok (.isub, 1) := by decide +kernel
theorem dX0_first_8 : decode cX0_first 8 = .ok (.invokestatic 65, 3) := by decide +kernel
theorem dX0_first_11 : decode cX0_first 11 = .ok (.ireturn, 1) := by decide +kernel
theorem dX0_length_0 : decode cX0_length 0 = .ok (.aload_n 0, 1) := by decide +kernel
theorem dX0_length_1 : decode cX0_length 1 = .ok (.getfield 27, 3) := by decide +kernel
theorem dX0_length_4 : decode cX0_length 4 = .ok (.aload_n 0, 1) := by decide +kernel
theorem dX0_length_5 : decode cX0_length 5 = .ok (.invokevirtual 71, 3) := by decide +kernel
theorem dX0_length_8 : decode cX0_length 8 = .ok (.isub, 1) := by decide +kernel
theorem dX0_length_9 : decode cX0_length 9 = .ok (.aload_n 0, 1) := by decide +kernel
theorem dX0_length_10 : decode cX0_length 10 = .ok (.getfield 34, 3) := by decide +kernel
theorem dX0_length_13 : decode cX0_length 13 = .ok (.invokestatic 74, 3) := by decide +kernel
theorem dX0_length_16 : decode cX0_length 16 = .ok (.ireturn, 1) := by decide +kernel
theorem dX0_least_0 : decode cX0_least 0 = .ok (.bipush 9, 2) := by decide +kernel
theorem dX0_least_2 : decode cX0_least 2 = .ok (.istore_n 1, 1) := by decide +kernel
theorem dX0_least_3 : decode cX0_least 3 = .ok (.aload_n 0, 1) := by decide +kernel
theorem dX0_least_4 : decode cX0_least 4 = .ok (.invokevirtual 71, 3) := by decide +kernel
theorem dX0_least_7 : decode cX0_least 7 = .ok (.istore_n 2, 1) := by decide +kernel
theorem dX0_least_8 : decode cX0_least 8 = .ok (.iload_n 2, 1) := by decide +kernel
theorem dX0_least_9 : decode cX0_least 9 = .ok (.aload_n 0, 1) := by decide +kernel
theorem dX0_least_10 : decode cX0_least 10 = .ok (.getfield 27, 3) := by decide +kernel
theorem dX0_least_13 : decode cX0_least 13 = .ok (.if_icmp .ge 20, 3) := by decide +kernel
theorem dX0_least_16 : decode cX0_least 16 = .ok (.iload_n 1, 1) := by decide +kernel
theorem dX0_least_17 : decode cX0_least 17 = .ok (.aload_n 0, 1) := by decide +kernel
theorem dX0_least_18 : decode cX0_least 18 = .ok (.getfield 9, 3) := by decide +kernel
theorem dX0_least_21 : decode cX0_least 21 = .ok (.iload_n 2, 1) := by decide +kernel
theorem dX0_least_22 : decode cX0_least 22 = .ok (.iaload, 1) := by decide +kernel
theorem dX0_least_23 : decode cX0_least 23 = .ok (.invokestatic 78, 3) := by decide +kernel
theorem dX0_least_26 : decode cX0_least 26 = .ok (.istore_n 1, 1) := by decide +kernel
theorem dX0_least_27 : decode cX0_least 27 = .ok (.iinc 2 1, 3) := by decide +kernel
theorem dX0_least_30 : decode cX0_least 30 = .ok (.goto (-22), 3) := by decide +kernel
theorem dX0_least_33 : decode cX0_least 33 = .ok (.iload_n 1, 1) := by decide +kernel
theorem dX0_least_34 : decode cX0_least 34 = .ok (.ireturn, 1) := by decide +kernel
theorem dX1_init_0 : decode cX1_init 0 = .ok (.aload_n 0, 1) := by decide +kernel
theorem dX1_init_1 : decode cX1_init 1 = .ok (.invokespecial 3, 3) := by decide +kernel
theorem dX1_init_4 : decode cX1_init 4 = .ok (.aload_n 0, 1) := by decide +kernel
theorem dX1_init_5 : decode cX1_init 5 = .ok (.bipush 9, 2) := by decide +kernel
theorem dX1_init_7 : decode cX1_init 7 = .ok (.anewarray 9, 3) := by decide +kernel
theorem dX1_init_10 : decode cX1_init 10 = .ok (.putfield 11, 3) := by decide +kernel
theorem dX1_init_13 : decode cX1_init 13 = .ok (.iconst 0, 1) := by decide +kernel
theorem dX1_init_14 : decode cX1_init 14 = .ok (.istore_n 1, 1) := by decide +kernel
theorem dX1_init_15 : decode cX1_init 15 = .ok (.iload_n 1, 1) := by decide +kernel
theorem dX1_init_16 : decode cX1_init 16 = .ok (.bipush 8, 2) := by decide +kernel
theorem dX1_init_18 : decode cX1_init 18 = .ok (.if_icmp .gt 22, 3) := by decide +kernel
theorem dX1_init_21 : decode cX1_init 21 = .ok (.aload_n 0, 1) := by decide +kernel
theorem dX1_init_22 : decode cX1_init 22 = .ok (.getfield 11, 3) := by decide +kernel
theorem dX1_init_25 : decode cX1_init 25 = .ok (.iload_n 1, 1) := by decide +kernel
theorem dX1_init_26 : decode cX1_init 26 = .ok (.new 9, 3) := by decide +kernel
theorem dX1_init_29 : decode cX1_init 29 = .ok (.dup, 1) := by decide +kernel
theorem dX1_init_30 : decode cX1_init 30 = .ok (.invokespecial 17, 3) := by decide +kernel
theorem dX1_init_33 : decode cX1_init 33 = .ok (.aastore, 1) := by decide +kernel
theorem dX1_init_34 : decode cX1_init 34 = .ok (.iinc 1 1, 3) := by decide +kernel
theorem dX1_init_37 : decode cX1_init 37 = .ok (.goto (-22), 3) := by decide +kernel
theorem dX1_init_40 : decode cX1_init 40 = .ok (.return_, 1) := by decide +kernel
theorem dX1_startFrom_0 : decode cX1_startFrom 0 = .ok (.aload_n 0, 1) := by decide +kernel
theorem dX1_startFrom_1 : decode cX1_startFrom 1 = .ok (.iconst 0, 1) := by decide +kernel
theorem dX1_startFrom_2 : decode cX1_startFrom 2 = .ok (.putfield 18, 3) := by decide +kernel
theorem dX1_startFrom_5 : decode cX1_startFrom 5 = .ok (.aload_n 0, 1) := by decide +kernel
theorem dX1_startFrom_6 : decode cX1_startFrom 6 = .ok (.invokevirtual 22, 3) := by decide +kernel
theorem dX1_startFrom_9 : decode cX1_startFrom 9 = .ok (.aload_n 1, 1) := by decide +kernel
theorem dX1_startFrom_10 : decode cX1_startFrom 10 = .ok (.invokevirtual 26, 3) := by decide +kernel
theorem dX1_startFrom_13 : decode cX1_startFrom 13 = .ok (.return_, 1) := by decide +kernel
theorem dX1_latest_0 : decode cX1_latest 0 = .ok (.aload_n 0, 1) := by decide +kernel
theorem dX1_latest_1 : decode cX1_latest 1 = .ok (.getfield 11, 3) := by decide +kernel
theorem dX1_latest_4 : decode cX1_latest 4 = .ok (.aload_n 0, 1) := by decide +kernel
theorem dX1_latest_5 : decode cX1_latest 5 = .ok (.getfield 30, 3) := by decide +kernel
theorem dX1_latest_8 : decode cX1_latest 8 = .ok (.aaload, 1) := by decide +kernel
theorem dX1_latest_9 : decode cX1_latest 9 = .ok (.areturn, 1) := by decide +kernel
theorem dX1_step_0 : decode cX1_step 0 = .ok (.aload_n 0, 1) := by decide +kernel
theorem dX1_step_1 : decode cX1_step 1 = .ok (.invokevirtual 22, 3) := by decide +kernel
theorem dX1_step_4 : decode cX1_step 4 = .ok (.astore_n 1, 1) := by decide +kernel
theorem dX1_step_5 : decode cX1_step 5 = .ok (.aload_n 0, 1) := by decide +kernel
theorem dX1_step_6 : decode cX1_step 6 = .ok (.aload_n 0, 1) := by decide +kernel
theorem dX1_step_7 : decode cX1_step 7 = .ok (.getfield 30, 3) := by decide +kernel
theorem dX1_step_10 : decode cX1_step 10 = .ok (.bipush 8, 2) := by decide +kernel
theorem dX1_step_12 : decode cX1_step 12 = .ok (.if_icmp .ne 7, 3) := by decide +kernel
theorem dX1_step_15 : decode cX1_step 15 = .ok (.iconst 0, 1) := by decide +kernel
theorem dX1_step_16 : decode cX1_step 16 = .ok (.goto 9, 3) := by decide +kernel
theorem dX1_step_19 : decode cX1_step 19 = .ok (.aload_n 0, 1) := by decide +kernel
theorem dX1_step_20 : decode cX1_step 20 = .ok (.getfield 30, 3) := by decide +kernel
theorem dX1_step_23 : decode cX1_step 23 = .ok (.iconst 1, 1) := by decide +kernel
theorem dX1_step_24 : decode cX1_step 24 = .ok (.iadd, 1) := by decide +kernel
theorem dX1_step_25 : decode cX1_step 25 = .ok (.putfield 30, 3) := by decide +kernel
theorem dX1_step_28 : decode cX1_step 28 = .ok (.aload_n 0, 1) := by decide +kernel
theorem dX1_step_29 : decode cX1_step 29 = .ok (.bipush 8, 2) := by decide +kernel
theorem dX1_step_31 : decode cX1_step 31 = .ok (.aload_n 0, 1) := by decide +kernel
theorem dX1_step_32 : decode cX1_step 32 = .ok (.getfield 18, 3) := by decide +kernel
theorem dX1_step_35 : decode cX1_step 35 = .ok (.iconst 1, 1) := by decide +kernel
theorem dX1_step_36 : decode cX1_step 36 = .ok (.iadd, 1) := by decide +kernel
theorem dX1_step_37 : decode cX1_step 37 = .ok (.invokestatic 33, 3) := by decide +kernel
theorem dX1_step_40 : decode cX1_step 40 = .ok (.putfield 18, 3) := by decide +kernel
theorem dX1_step_43 : decode cX1_step 43 = .ok (.aload_n 0, 1) := by decide +kernel
theorem dX1_step_44 : decode cX1_step 44 = .ok (.invokevirtual 22, 3) := by decide +kernel
theorem dX1_step_47 : decode cX1_step 47 = .ok (.aload_n 1, 1) := by decide +kernel
theorem dX1_step_48 : decode cX1_step 48 = .ok (.invokevirtual 39, 3) := by decide +kernel
theorem dX1_step_51 : decode cX1_step 51 = .ok (.aload_n 0, 1) := by decide +kernel
theorem dX1_step_52 : decode cX1_step 52 = .ok (.invokevirtual 22, 3) := by decide +kernel
theorem dX1_step_55 : decode cX1_step 55 = .ok (.areturn, 1) := by decide +kernel
theorem dX1_stepBack_0 : decode cX1_stepBack 0 = .ok (.aload_n 0, 1) := by decide +kernel
theorem dX1_stepBack_1 : decode cX1_stepBack 1 = .ok (.aload_n 0, 1) := by decide +kernel
theorem dX1_stepBack_2 : decode cX1_stepBack 2 = .ok (.getfield 30, 3) := by decide +kernel
theorem dX1_stepBack_5 : decode cX1_stepBack 5 = .ok (.ifCond .ne 8, 3) := by decide +kernel
theorem dX1_stepBack_8 : decode cX1_stepBack 8 = .ok (.bipush 8, 2) := by decide +kernel
theorem dX1_stepBack_10 : decode cX1_stepBack 10 = .ok (.goto 9, 3) := by decide +kernel
theorem dX1_stepBack_13 : decode cX1_stepBack 13 = .ok (.aload_n 0, 1) := by decide +kernel
theorem dX1_stepBack_14 : decode cX1_stepBack 14 = .ok (.getfield 30, 3) := by decide +kernel
theorem dX1_stepBack_17 : decode cX1_stepBack 17 = .ok (.iconst 1, 1) := by decide +kernel
theorem dX1_stepBack_18 : decode cX1_stepBack 18 = .ok (.isub, 1) := by decide +kernel
theorem dX1_stepBack_19 : decode cX1_stepBack 19 = .ok (.putfield 30, 3) := by decide +kernel
theorem dX1_stepBack_22 : decode cX1_stepBack 22 = .ok (.aload_n 0, 1) := by decide +kernel
theorem dX1_stepBack_23 : decode cX1_stepBack 23 = .ok (.dup, 1) := by decide +kernel
theorem dX1_stepBack_24 : decode cX1_stepBack 24 = .ok (.getfield 18, 3) := by decide +kernel
theorem dX1_stepBack_27 : decode cX1_stepBack 27 = .ok (.iconst 1, 1) := by decide +kernel
theorem dX1_stepBack_28 : decode cX1_stepBack 28 = .ok (.isub, 1) := by decide +kernel
theorem dX1_stepBack_29 : decode cX1_stepBack 29 = .ok (.putfield 18, 3) := by decide +kernel
theorem dX1_stepBack_32 : decode cX1_stepBack 32 = .ok (.return_, 1) := by decide +kernel
theorem dX1_takeAll_0 : decode cX1_takeAll 0 = .ok (.iconst 0, 1) := by decide +kernel
theorem dX1_takeAll_1 : decode cX1_takeAll 1 = .ok (.istore_n 2, 1) := by decide +kernel
theorem dX1_takeAll_2 : decode cX1_takeAll 2 = .ok (.iload_n 2, 1) := by decide +kernel
theorem dX1_takeAll_3 : decode cX1_takeAll 3 = .ok (.bipush 8, 2) := by decide +kernel
theorem dX1_takeAll_5 : decode cX1_takeAll 5 = .ok (.if_icmp .gt 24, 3) := by decide +kernel
theorem dX1_takeAll_8 : decode cX1_takeAll 8 = .ok (.aload_n 0, 1) := by decide +kernel
theorem dX1_takeAll_9 : decode cX1_takeAll 9 = .ok (.getfield 11, 3) := by decide +kernel
theorem dX1_takeAll_12 : decode cX1_takeAll 12 = .ok (.iload_n 2, 1) := by decide +kernel
theorem dX1_takeAll_13 : decode cX1_takeAll 13 = .ok (.aaload, 1) := by decide +kernel
theorem dX1_takeAll_14 : decode cX1_takeAll 14 = .ok (.aload_n 1, 1) := by decide +kernel
theorem dX1_takeAll_15 : decode cX1_takeAll 15 = .ok (.getfield 11, 3) := by decide +kernel
theorem dX1_takeAll_18 : decode cX1_takeAll 18 = .ok (.iload_n 2, 1) := by decide +kernel
theorem dX1_takeAll_19 : decode cX1_takeAll 19 = .ok (.aaload, 1) := by decide +kernel
theorem dX1_takeAll_20 : decode cX1_takeAll 20 = .ok (.invokevirtual 39, 3) := by decide +kernel
theorem dX1_takeAll_23 : decode cX1_takeAll 23 = .ok (.iinc 2 1, 3) := by decide +kernel
theorem dX1_takeAll_26 : decode cX1_takeAll 26 = .ok (.goto (-24), 3) := by decide +kernel
theorem dX1_takeAll_29 : decode cX1_takeAll 29 = .ok (.aload_n 0, 1) := by decide +kernel
theorem dX1_takeAll_30 : decode cX1_takeAll 30 = .ok (.aload_n 1, 1) := by decide +kernel
theorem dX1_takeAll_31 : decode cX1_takeAll 31 = .ok (.getfield 30, 3) := by decide +kernel
theorem dX1_takeAll_34 : decode cX1_takeAll 34 = .ok (.putfield 30, 3) := by decide +kernel
theorem dX1_takeAll_37 : decode cX1_takeAll 37 = .ok (.aload_n 0, 1) := by decide +kernel
theorem dX1_takeAll_38 : decode cX1_takeAll 38 = .ok (.aload_n 1, 1) := by decide +kernel
theorem dX1_takeAll_39 : decode cX1_takeAll 39 = .ok (.getfield 18, 3) := by decide +kernel
theorem dX1_takeAll_42 : decode cX1_takeAll 42 = .ok (.putfield 18, 3) := by decide +kernel
theorem dX1_takeAll_45 : decode cX1_takeAll 45 = .ok (.return_, 1) := by decide +kernel
theorem dX2_init_0 : decode cX2_init 0 = .ok (.aload_n 0, 1) := by decide +kernel
theorem dX2_init_1 : decode cX2_init 1 = .ok (.invokespecial 3, 3) := by decide +kernel
theorem dX2_init_4 : decode cX2_init 4 = .ok (.aload_n 0, 1) := by decide +kernel
theorem dX2_init_5 : decode cX2_init 5 = .ok (.bipush 6, 2) := by decide +kernel
theorem dX2_init_7 : decode cX2_init 7 = .ok (.newarray .int, 2) := by decide +kernel
theorem dX2_init_9 : decode cX2_init 9 = .ok (.putfield 9, 3) := by decide +kernel
theorem dX2_init_12 : decode cX2_init 12 = .ok (.aload_n 0, 1) := by decide +kernel
theorem dX2_init_13 : decode cX2_init 13 = .ok (.bipush 6, 2) := by decide +kernel
theorem dX2_init_15 : decode cX2_init 15 = .ok (.newarray .int, 2) := by decide +kernel
theorem dX2_init_17 : decode cX2_init 17 = .ok (.putfield 15, 3) := by decide +kernel
theorem dX2_init_20 : decode cX2_init 20 = .ok (.return_, 1) := by decide +kernel
theorem dX2_add_0 : decode cX2_add 0 = .ok (.aload_n 0, 1) := by decide +kernel
theorem dX2_add_1 : decode cX2_add 1 = .ok (.getfield 18, 3) := by decide +kernel
theorem dX2_add_4 : decode cX2_add 4 = .ok (.bipush 6, 2) := by decide +kernel
theorem dX2_add_6 : decode cX2_add 6 = .ok (.if_icmp .lt 5, 3) := by decide +kernel
theorem dX2_add_9 : decode cX2_add 9 = .ok (.iconst 0, 1) := by decide +kernel
theorem dX2_add_10 : decode cX2_add 10 = .ok (.ireturn, 1) := by decide +kernel
theorem dX2_add_11 : decode cX2_add 11 = .ok (.aload_n 0, 1) := by decide +kernel
theorem dX2_add_12 : decode cX2_add 12 = .ok (.getfield 9, 3) := by decide +kernel
theorem dX2_add_15 : decode cX2_add 15 = .ok (.aload_n 0, 1) := by decide +kernel
theorem dX2_add_16 : decode cX2_add 16 = .ok (.getfield 18, 3) := by decide +kernel
theorem dX2_add_19 : decode cX2_add 19 = .ok (.iload_n 1, 1) := by decide +kernel
theorem dX2_add_20 : decode cX2_add 20 = .ok (.iastore, 1) := by decide +kernel
theorem dX2_add_21 : decode cX2_add 21 = .ok (.aload_n 0, 1) := by decide +kernel
theorem dX2_add_22 : decode cX2_add 22 = .ok (.getfield 15, 3) := by decide +kernel
theorem dX2_add_25 : decode cX2_add 25 = .ok (.aload_n 0, 1) := by decide +kernel
theorem dX2_add_26 : decode cX2_add 26 = .ok (.getfield 18, 3) := by decide +kernel
theorem dX2_add_29 : decode cX2_add 29 = .ok (.iload_n 2, 1) := by decide +kernel
theorem dX2_add_30 : decode cX2_add 30 = .ok (.iastore, 1) := by decide +kernel
theorem dX2_add_31 : decode cX2_add 31 = .ok (.aload_n 0, 1) := by decide +kernel
theorem dX2_add_32 : decode cX2_add 32 = .ok (.dup, 1) := by decide +kernel
theorem dX2_add_33 : decode cX2_add 33 = .ok (.getfield 18, 3) := by decide +kernel
theorem dX2_add_36 : decode cX2_add 36 = .ok (.iconst 1, 1) := by decide +kernel
theorem dX2_add_37 : decode cX2_add 37 = .ok (.iadd, 1) := by decide +kernel
theorem dX2_add_38 : decode cX2_add 38 = .ok (.putfield 18, 3) := by decide +kernel
theorem dX2_add_41 : decode cX2_add 41 = .ok (.iconst 1, 1) := by decide +kernel
theorem dX2_add_42 : decode cX2_add 42 = .ok (.ireturn, 1) := by decide +kernel
theorem dX2_empty_0 : decode cX2_empty 0 = .ok (.aload_n 0, 1) := by decide +kernel
theorem dX2_empty_1 : decode cX2_empty 1 = .ok (.getfield 18, 3) := by decide +kernel
theorem dX2_empty_4 : decode cX2_empty 4 = .ok (.istore_n 1, 1) := by decide +kernel
theorem dX2_empty_5 : decode cX2_empty 5 = .ok (.aload_n 0, 1) := by decide +kernel
theorem dX2_empty_6 : decode cX2_empty 6 = .ok (.iconst 0, 1) := by decide +kernel
theorem dX2_empty_7 : decode cX2_empty 7 = .ok (.putfield 18, 3) := by decide +kernel
theorem dX2_empty_10 : decode cX2_empty 10 = .ok (.iload_n 1, 1) := by decide +kernel
theorem dX2_empty_11 : decode cX2_empty 11 = .ok (.ireturn, 1) := by decide +kernel
theorem dX2_isSoIfDrawn_0 : decode cX2_isSoIfDrawn 0 = .ok (.iconst 0, 1) := by decide +kernel
theorem dX2_isSoIfDrawn_1 : decode cX2_isSoIfDrawn 1 = .ok (.istore 4, 2) := by decide +kernel
theorem dX2_isSoIfDrawn_3 : decode cX2_isSoIfDrawn 3 = .ok (.iload 4, 2) := by decide +kernel
theorem dX2_isSoIfDrawn_5 : decode cX2_isSoIfDrawn 5 = .ok (.aload_n 0, 1) := by decide +kernel
theorem dX2_isSoIfDrawn_6 : decode cX2_isSoIfDrawn 6 = .ok (.getfield 18, 3) := by decide +kernel
theorem dX2_isSoIfDrawn_9 : decode cX2_isSoIfDrawn 9 = .ok (.if_icmp .ge 82, 3) := by decide +kernel
theorem dX2_isSoIfDrawn_12 : decode cX2_isSoIfDrawn 12 = .ok (.aload_n 1, 1) := by decide +kernel
theorem dX2_isSoIfDrawn_13 : decode cX2_isSoIfDrawn 13 = .ok (.aload_n 0, 1) := by decide +kernel
theorem dX2_isSoIfDrawn_14 : decode cX2_isSoIfDrawn 14 = .ok (.getfield 9, 3) := by decide +kernel
theorem dX2_isSoIfDrawn_17 : decode cX2_isSoIfDrawn 17 = .ok (.iload 4, 2) := by decide +kernel
theorem dX2_isSoIfDrawn_19 : decode cX2_isSoIfDrawn 19 = .ok (.iaload, 1) := by decide +kernel
theorem dX2_isSoIfDrawn_20 : decode cX2_isSoIfDrawn 20 = .ok (.invokevirtual 22, 3) := by decide +kernel
theorem dX2_isSoIfDrawn_23 : decode cX2_isSoIfDrawn 23 = .ok (.ifCond .ne 5, 3) := by decide +kernel
theorem dX2_isSoIfDrawn_26 : decode cX2_isSoIfDrawn 26 = .ok (.iconst 0, 1) := by decide +kernel
theorem dX2_isSoIfDrawn_27 : decode cX2_isSoIfDrawn 27 = .ok (.ireturn, 1) := by decide +kernel
theorem dX2_isSoIfDrawn_28 : decode cX2_isSoIfDrawn 28 = .ok (.aload_n 0, 1) := by decide +kernel
theorem dX2_isSoIfDrawn_29 : decode cX2_isSoIfDrawn 29 = .ok (.getfield 9, 3) := by decide +kernel
theorem dX2_isSoIfDrawn_32 : decode cX2_isSoIfDrawn 32 = .ok (.iload 4, 2) := by decide +kernel
theorem dX2_isSoIfDrawn_34 : decode cX2_isSoIfDrawn 34 = .ok (.iaload, 1) := by decide +kernel
theorem dX2_isSoIfDrawn_35 : decode cX2_isSoIfDrawn 35 = .ok (.iload_n 2, 1) := by decide +kernel
theorem dX2_isSoIfDrawn_36 : decode cX2_isSoIfDrawn 36 = .ok (.if_icmp .ne 7, 3) := by decide +kernel
theorem dX2_isSoIfDrawn_39 : decode cX2_isSoIfDrawn 39 = .ok (.iload_n 3, 1) := by decide +kernel
theorem dX2_isSoIfDrawn_40 : decode cX2_isSoIfDrawn 40 = .ok (.goto 4, 3) := by decide +kernel
theorem dX2_isSoIfDrawn_43 : decode cX2_isSoIfDrawn 43 = .ok (.iconst 0, 1) := by decide +kernel
theorem dX2_isSoIfDrawn_44 : decode cX2_isSoIfDrawn 44 = .ok (.istore 5, 2) := by decide +kernel
theorem dX2_isSoIfDrawn_46 : decode cX2_isSoIfDrawn 46 = .ok (.aload_n 1, 1) := by decide +kernel
theorem dX2_isSoIfDrawn_47 : decode cX2_isSoIfDrawn 47 = .ok (.aload_n 0, 1) := by decide +kernel
theorem dX2_isSoIfDrawn_48 : decode cX2_isSoIfDrawn 48 = .ok (.getfield 9, 3) := by decide +kernel
theorem dX2_isSoIfDrawn_51 : decode cX2_isSoIfDrawn 51 = .ok (.iload 4, 2) := by decide +kernel
theorem dX2_isSoIfDrawn_53 : decode cX2_isSoIfDrawn 53 = .ok (.iaload, 1) := by decide +kernel
theorem dX2_isSoIfDrawn_54 : decode cX2_isSoIfDrawn 54 = .ok (.aload_n 1, 1) := by decide +kernel
theorem dX2_isSoIfDrawn_55 : decode cX2_isSoIfDrawn 55 = .ok (.getfield 28, 3) := by decide +kernel
theorem dX2_isSoIfDrawn_58 : decode cX2_isSoIfDrawn 58 = .ok (.aload_n 0, 1) := by decide +kernel
theorem dX2_isSoIfDrawn_59 : decode cX2_isSoIfDrawn 59 = .ok (.getfield 9, 3) := by decide +kernel
theorem dX2_isSoIfDrawn_62 : decode cX2_isSoIfDrawn 62 = .ok (.iload 4, 2) := by decide +kernel
theorem dX2_isSoIfDrawn_64 : decode cX2_isSoIfDrawn 64 = .ok (.iaload, 1) := by decide +kernel
theorem dX2_isSoIfDrawn_65 : decode cX2_isSoIfDrawn 65 = .ok (.iaload, 1) := by decide +kernel
theorem dX2_isSoIfDrawn_66 : decode cX2_isSoIfDrawn 66 = .ok (.iload 5, 2) := by decide +kernel
theorem dX2_isSoIfDrawn_68 : decode cX2_isSoIfDrawn 68 = .ok (.isub, 1) := by decide +kernel
theorem dX2_isSoIfDrawn_69 : decode cX2_isSoIfDrawn 69 = .ok (.iconst 0, 1) := by decide +kernel
theorem dX2_isSoIfDrawn_70 : decode cX2_isSoIfDrawn 70 = .ok (.invokevirtual 31, 3) := by decide +kernel
theorem dX2_isSoIfDrawn_73 : decode cX2_isSoIfDrawn 73 = .ok (.aload_n 0, 1) := by decide +kernel
theorem dX2_isSoIfDrawn_74 : decode cX2_isSoIfDrawn 74 = .ok (.getfield 15, 3) := by decide +kernel
theorem dX2_isSoIfDrawn_77 : decode cX2_isSoIfDrawn 77 = .ok (.iload 4, 2) := by decide +kernel
theorem dX2_isSoIfDrawn_79 : decode cX2_isSoIfDrawn 79 = .ok (.iaload, 1) := by decide +kernel
theorem dX2_isSoIfDrawn_80 : decode cX2_isSoIfDrawn 80 = .ok (.if_icmp .eq 5, 3) := by decide +kernel
theorem dX2_isSoIfDrawn_83 : decode cX2_isSoIfDrawn 83 = .ok (.iconst 0, 1) := by decide +kernel
theorem dX2_isSoIfDrawn_84 : decode cX2_isSoIfDrawn 84 = .ok (.ireturn, 1) := by decide +kernel
theorem dX2_isSoIfDrawn_85 : decode cX2_isSoIfDrawn 85 = .ok (.iinc 4 1, 3) := by decide +kernel
theorem dX2_isSoIfDrawn_88 : decode cX2_isSoIfDrawn 88 = .ok (.goto (-85), 3) := by decide +kernel
theorem dX2_isSoIfDrawn_91 : decode cX2_isSoIfDrawn 91 = .ok (.iconst 1, 1) := by decide +kernel
theorem dX2_isSoIfDrawn_92 : decode cX2_isSoIfDrawn 92 = .ok (.ireturn, 1) := by decide +kernel
theorem dX2_isSoIfCrossed_0 : decode cX2_isSoIfCrossed 0 = .ok (.aload_n 1, 1) := by decide +kernel
theorem dX2_isSoIfCrossed_1 : decode cX2_isSoIfCrossed 1 = .ok (.getfield 35, 3) := by decide +kernel
theorem dX2_isSoIfCrossed_4 : decode cX2_isSoIfCrossed 4 = .ok (.iload_n 2, 1) := by decide +kernel
theorem dX2_isSoIfCrossed_5 : decode cX2_isSoIfCrossed 5 = .ok (.iadd, 1) := by decide +kernel
theorem dX2_isSoIfCrossed_6 : decode cX2_isSoIfCrossed 6 = .ok (.istore 4, 2) := by decide +kernel
theorem dX2_isSoIfCrossed_8 : decode cX2_isSoIfCrossed 8 = .ok (.iconst 0, 1) := by decide +kernel
theorem dX2_isSoIfCrossed_9 : decode cX2_isSoIfCrossed 9 = .ok (.iload 4, 2) := by decide +kernel
theorem dX2_isSoIfCrossed_11 : decode cX2_isSoIfCrossed 11 = .ok (.bipush 40, 2) := by decide +kernel
theorem dX2_isSoIfCrossed_13 : decode cX2_isSoIfCrossed 13 = .ok (.isub, 1) := by decide +kernel
theorem dX2_isSoIfCrossed_14 : decode cX2_isSoIfCrossed 14 = .ok (.invokestatic 38, 3) := by decide +kernel
theorem dX2_isSoIfCrossed_17 : decode cX2_isSoIfCrossed 17 = .ok (.istore 5, 2) := by decide +kernel
theorem dX2_isSoIfCrossed_19 : decode cX2_isSoIfCrossed 19 = .ok (.iconst 0, 1) := by decide +kernel
theorem dX2_isSoIfCrossed_20 : decode cX2_isSoIfCrossed 20 = .ok (.istore 6, 2) := by decide +kernel
theorem dX2_isSoIfCrossed_22 : decode cX2_isSoIfCrossed 22 = .ok (.iload 6, 2) := by decide +kernel
theorem dX2_isSoIfCrossed_24 : decode cX2_isSoIfCrossed 24 = .ok (.aload_n 0, 1) := by decide +kernel
theorem dX2_isSoIfCrossed_25 : decode cX2_isSoIfCrossed 25 = .ok (.getfield 18, 3) := by decide +kernel
theorem dX2_isSoIfCrossed_28 : decode cX2_isSoIfCrossed 28 = .ok (.if_icmp .ge 65, 3) := by decide +kernel
theorem dX2_isSoIfCrossed_31 : decode cX2_isSoIfCrossed 31 = .ok (.aload_n 0, 1) := by decide +kernel
theorem dX2_isSoIfCrossed_32 : decode cX2_isSoIfCrossed 32 = .ok (.getfield 9, 3) := by decide +kernel
theorem dX2_isSoIfCrossed_35 : decode cX2_isSoIfCrossed 35 = .ok (.iload 6, 2) := by decide +kernel
theorem dX2_isSoIfCrossed_37 : decode cX2_isSoIfCrossed 37 = .ok (.iaload, 1) := by decide +kernel
theorem dX2_isSoIfCrossed_38 : decode cX2_isSoIfCrossed 38 = .ok (.iload 5, 2) := by decide +kernel
theorem dX2_isSoIfCrossed_40 : decode cX2_isSoIfCrossed 40 = .ok (.iadd, 1) := by decide +kernel
theorem dX2_isSoIfCrossed_41 : decode cX2_isSoIfCrossed 41 = .ok (.istore 7, 2) := by decide +kernel
theorem dX2_isSoIfCrossed_43 : decode cX2_isSoIfCrossed 43 = .ok (.iload 7, 2) := by decide +kernel
theorem dX2_isSoIfCrossed_45 : decode cX2_isSoIfCrossed 45 = .ok (.iload 4, 2) := by decide +kernel
theorem dX2_isSoIfCrossed_47 : decode cX2_isSoIfCrossed 47 = .ok (.if_icmp .lt 5, 3) := by decide +kernel
theorem dX2_isSoIfCrossed_50 : decode cX2_isSoIfCrossed 50 = .ok (.iconst 0, 1) := by decide +kernel
theorem dX2_isSoIfCrossed_51 : decode cX2_isSoIfCrossed 51 = .ok (.ireturn, 1) := by decide +kernel
theorem dX2_isSoIfCrossed_52 : decode cX2_isSoIfCrossed 52 = .ok (.aload_n 1, 1) := by decide +kernel
theorem dX2_isSoIfCrossed_53 : decode cX2_isSoIfCrossed 53 = .ok (.iload 7, 2) := by decide +kernel
theorem dX2_isSoIfCrossed_55 : decode cX2_isSoIfCrossed 55 = .ok (.invokevirtual 22, 3) := by decide +kernel
theorem dX2_isSoIfCrossed_58 : decode cX2_isSoIfCrossed 58 = .ok (.ifCond .eq 12, 3) := by decide +kernel
theorem dX2_isSoIfCrossed_61 : decode cX2_isSoIfCrossed 61 = .ok (.aload_n 1, 1) := by decide +kernel
theorem dX2_isSoIfCrossed_62 : decode cX2_isSoIfCrossed 62 = .ok (.iload 7, 2) := by decide +kernel
theorem dX2_isSoIfCrossed_64 : decode cX2_isSoIfCrossed 64 = .ok (.invokevirtual 44, 3) := by decide +kernel
theorem dX2_isSoIfCrossed_67 : decode cX2_isSoIfCrossed 67 = .ok (.goto 4, 3) := by decide +kernel
theorem dX2_isSoIfCrossed_70 : decode cX2_isSoIfCrossed 70 = .ok (.iload_n 3, 1) := by decide +kernel
theorem dX2_isSoIfCrossed_71 : decode cX2_isSoIfCrossed 71 = .ok (.istore 8, 2) := by decide +kernel
theorem dX2_isSoIfCrossed_73 : decode cX2_isSoIfCrossed 73 = .ok (.iload 8, 2) := by decide +kernel
theorem dX2_isSoIfCrossed_75 : decode cX2_isSoIfCrossed 75 = .ok (.aload_n 0, 1) := by decide +kernel
theorem dX2_isSoIfCrossed_76 : decode cX2_isSoIfCrossed 76 = .ok (.getfield 15, 3) := by decide +kernel
theorem dX2_isSoIfCrossed_79 : decode cX2_isSoIfCrossed 79 = .ok (.iload 6, 2) := by decide +kernel
theorem dX2_isSoIfCrossed_81 : decode cX2_isSoIfCrossed 81 = .ok (.iaload, 1) := by decide +kernel
theorem dX2_isSoIfCrossed_82 : decode cX2_isSoIfCrossed 82 = .ok (.if_icmp .eq 5, 3) := by decide +kernel
theorem dX2_isSoIfCrossed_85 : decode cX2_isSoIfCrossed 85 = .ok (.iconst 0, 1) := by decide +kernel
theorem dX2_isSoIfCrossed_86 : decode cX2_isSoIfCrossed 86 = .ok (.ireturn, 1) := by decide +kernel
theorem dX2_isSoIfCrossed_87 : decode cX2_isSoIfCrossed 87 = .ok (.iinc 6 1, 3) := by decide +kernel
theorem dX2_isSoIfCrossed_90 : decode cX2_isSoIfCrossed 90 = .ok (.goto (-68), 3) := by decide +kernel
theorem dX2_isSoIfCrossed_93 : decode cX2_isSoIfCrossed 93 = .ok (.iconst 1, 1) := by decide +kernel
theorem dX2_isSoIfCrossed_94 : decode cX2_isSoIfCrossed 94 = .ok (.ireturn, 1) := by decide +kernel
theorem dX3_init_0 : decode cX3_init 0 = .ok (.aload_n 0, 1) := by decide +kernel
theorem dX3_init_1 : decode cX3_init 1 = .ok (.invokespecial 3, 3) := by decide +kernel
theorem dX3_init_4 : decode cX3_init 4 = .ok (.aload_n 0, 1) := by decide +kernel
theorem dX3_init_5 : decode cX3_init 5 = .ok (.bipush 40, 2) := by decide +kernel
theorem dX3_init_7 : decode cX3_init 7 = .ok (.newarray .int, 2) := by decide +kernel
theorem dX3_init_9 : decode cX3_init 9 = .ok (.putfield 9, 3) := by decide +kernel
theorem dX3_init_12 : decode cX3_init 12 = .ok (.aload_n 0, 1) := by decide +kernel
theorem dX3_init_13 : decode cX3_init 13 = .ok (.bipush 40, 2) := by decide +kernel
theorem dX3_init_15 : decode cX3_init 15 = .ok (.newarray .int, 2) := by decide +kernel
theorem dX3_init_17 : decode cX3_init 17 = .ok (.putfield 15, 3) := by decide +kernel
theorem dX3_init_20 : decode cX3_init 20 = .ok (.aload_n 0, 1) := by decide +kernel
theorem dX3_init_21 : decode cX3_init 21 = .ok (.bipush 40, 2) := by decide +kernel
theorem dX3_init_23 : decode cX3_init 23 = .ok (.newarray .int, 2) := by decide +kernel
theorem dX3_init_25 : decode cX3_init 25 = .ok (.putfield 18, 3) := by decide +kernel
theorem dX3_init_28 : decode cX3_init 28 = .ok (.return_, 1) := by decide +kernel
theorem dX3_startFrom_0 : decode cX3_startFrom 0 = .ok (.aload_n 0, 1) := by decide +kernel
theorem dX3_startFrom_1 : decode cX3_startFrom 1 = .ok (.iconst 0, 1) := by decide +kernel
theorem dX3_startFrom_2 : decode cX3_startFrom 2 = .ok (.putfield 21, 3) := by decide +kernel
theorem dX3_startFrom_5 : decode cX3_startFrom 5 = .ok (.aload_n 0, 1) := by decide +kernel
theorem dX3_startFrom_6 : decode cX3_startFrom 6 = .ok (.iconst 0, 1) := by decide +kernel
theorem dX3_startFrom_7 : decode cX3_startFrom 7 = .ok (.putfield 25, 3) := by decide +kernel
theorem dX3_startFrom_10 : decode cX3_startFrom 10 = .ok (.aload_n 0, 1) := by decide +kernel
theorem dX3_startFrom_11 : decode cX3_startFrom 11 = .ok (.iconst 0, 1) := by decide +kernel
theorem dX3_startFrom_12 : decode cX3_startFrom 12 = .ok (.putfield 29, 3) := by decide +kernel
theorem dX3_startFrom_15 : decode cX3_startFrom 15 = .ok (.iconst 0, 1) := by decide +kernel
theorem dX3_startFrom_16 : decode cX3_startFrom 16 = .ok (.istore_n 2, 1) := by decide +kernel
theorem dX3_startFrom_17 : decode cX3_startFrom 17 = .ok (.iload_n 2, 1) := by decide +kernel
theorem dX3_startFrom_18 : decode cX3_startFrom 18 = .ok (.aload_n 1, 1) := by decide +kernel
theorem dX3_startFrom_19 : decode cX3_startFrom 19 = .ok (.getfield 32, 3) := by decide +kernel
theorem dX3_startFrom_22 : decode cX3_startFrom 22 = .ok (.if_icmp .ge 28, 3) := by decide +kernel
theorem dX3_startFrom_25 : decode cX3_startFrom 25 = .ok (.aload_n 1, 1) := by decide +kernel
theorem dX3_startFrom_26 : decode cX3_startFrom 26 = .ok (.getfield 35, 3) := by decide +kernel
theorem dX3_startFrom_29 : decode cX3_startFrom 29 = .ok (.iload_n 2, 1) := by decide +kernel
theorem dX3_startFrom_30 : decode cX3_startFrom 30 = .ok (.iaload, 1) := by decide +kernel
theorem dX3_startFrom_31 : decode cX3_startFrom 31 = .ok (.istore_n 3, 1) := by decide +kernel
theorem dX3_startFrom_32 : decode cX3_startFrom 32 = .ok (.aload_n 0, 1) := by decide +kernel
theorem dX3_startFrom_33 : decode cX3_startFrom 33 = .ok (.iload_n 3, 1) := by decide +kernel
theorem dX3_startFrom_34 : decode cX3_startFrom 34 = .ok (.iconst 1, 1) := by decide +kernel
theorem dX3_startFrom_35 : decode cX3_startFrom 35 = .ok (.aload_n 1, 1) := by decide +kernel
theorem dX3_startFrom_36 : decode cX3_startFrom 36 = .ok (.getfield 36, 3) := by decide +kernel
theorem dX3_startFrom_39 : decode cX3_startFrom 39 = .ok (.iload_n 3, 1) := by decide +kernel
theorem dX3_startFrom_40 : decode cX3_startFrom 40 = .ok (.iaload, 1) := by decide +kernel
theorem dX3_startFrom_41 : decode cX3_startFrom 41 = .ok (.invokevirtual 37, 3) := by decide +kernel
theorem dX3_startFrom_44 : decode cX3_startFrom 44 = .ok (.iinc 2 1, 3) := by decide +kernel
theorem dX3_startFrom_47 : decode cX3_startFrom 47 = .ok (.goto (-30), 3) := by decide +kernel
theorem dX3_startFrom_50 : decode cX3_startFrom 50 = .ok (.return_, 1) := by decide +kernel
theorem dX3_take_0 : decode cX3_take 0 = .ok (.aload_n 1, 1) := by decide +kernel
theorem dX3_take_1 : decode cX3_take 1 = .ok (.getfield 9, 3) := by decide +kernel
theorem dX3_take_4 : decode cX3_take 4 = .ok (.iconst 0, 1) := by decide +kernel
theorem dX3_take_5 : decode cX3_take 5 = .ok (.aload_n 0, 1) := by decide +kernel
theorem dX3_take_6 : decode cX3_take 6 = .ok (.getfield 9, 3) := by decide +kernel
theorem dX3_take_9 : decode cX3_take 9 = .ok (.iconst 0, 1) := by decide +kernel
theorem dX3_take_10 : decode cX3_take 10 = .ok (.aload_n 1, 1) := by decide +kernel
theorem dX3_take_11 : decode cX3_take 11 = .ok (.getfield 21, 3) := by decide +kernel
theorem dX3_take_14 : decode cX3_take 14 = .ok (.invokestatic 41, 3) := by decide +kernel
theorem dX3_take_17 : decode cX3_take 17 = .ok (.aload_n 1, 1) := by decide +kernel
theorem dX3_take_18 : decode cX3_take 18 = .ok (.getfield 15, 3) := by decide +kernel
theorem dX3_take_21 : decode cX3_take 21 = .ok (.iconst 0, 1) := by decide +kernel
theorem dX3_take_22 : decode cX3_take 22 = .ok (.aload_n 0, 1) := by decide +kernel
theorem dX3_take_23 : decode cX3_take 23 = .ok (.getfield 15, 3) := by decide +kernel
theorem dX3_take_26 : decode cX3_take 26 = .ok (.iconst 0, 1) := by decide +kernel
theorem dX3_take_27 : decode cX3_take 27 = .ok (.aload_n 1, 1) := by decide +kernel
theorem dX3_take_28 : decode cX3_take 28 = .ok (.getfield 21, 3) := by decide +kernel
theorem dX3_take_31 : decode cX3_take 31 = .ok (.invokestatic 41, 3) := by decide +kernel
theorem dX3_take_34 : decode cX3_take 34 = .ok (.aload_n 1, 1) := by decide +kernel
theorem dX3_take_35 : decode cX3_take 35 = .ok (.getfield 18, 3) := by decide +kernel
theorem dX3_take_38 : decode cX3_take 38 = .ok (.iconst 0, 1) := by decide +kernel
theorem dX3_take_39 : decode cX3_take 39 = .ok (.aload_n 0, 1) := by decide +kernel
theorem dX3_take_40 : decode cX3_take 40 = .ok (.getfield 18, 3) := by decide +kernel
theorem dX3_take_43 : decode cX3_take 43 = .ok (.iconst 0, 1) := by decide +kernel
theorem dX3_take_44 : decode cX3_take 44 = .ok (.aload_n 1, 1) := by decide +kernel
theorem dX3_take_45 : decode cX3_take 45 = .ok (.getfield 21, 3) := by decide +kernel
theorem dX3_take_48 : decode cX3_take 48 = .ok (.invokestatic 41, 3) := by decide +kernel
theorem dX3_take_51 : decode cX3_take 51 = .ok (.aload_n 0, 1) := by decide +kernel
theorem dX3_take_52 : decode cX3_take 52 = .ok (.aload_n 1, 1) := by decide +kernel
theorem dX3_take_53 : decode cX3_take 53 = .ok (.getfield 21, 3) := by decide +kernel
theorem dX3_take_56 : decode cX3_take 56 = .ok (.putfield 21, 3) := by decide +kernel
theorem dX3_take_59 : decode cX3_take 59 = .ok (.aload_n 0, 1) := by decide +kernel
theorem dX3_take_60 : decode cX3_take 60 = .ok (.aload_n 1, 1) := by decide +kernel
theorem dX3_take_61 : decode cX3_take 61 = .ok (.getfield 25, 3) := by decide +kernel
theorem dX3_take_64 : decode cX3_take 64 = .ok (.putfield 25, 3) := by decide +kernel
theorem dX3_take_67 : decode cX3_take 67 = .ok (.aload_n 0, 1) := by decide +kernel
theorem dX3_take_68 : decode cX3_take 68 = .ok (.aload_n 1, 1) := by decide +kernel
theorem dX3_take_69 : decode cX3_take 69 = .ok (.getfield 29, 3) := by decide +kernel
theorem dX3_take_72 : decode cX3_take 72 = .ok (.putfield 29, 3) := by decide +kernel
theorem dX3_take_75 : decode cX3_take 75 = .ok (.return_, 1) := by decide +kernel
theorem dX3_has_0 : decode cX3_has 0 = .ok (.iload_n 1, 1) := by decide +kernel
theorem dX3_has_1 : decode cX3_has 1 = .ok (.iconst 0, 1) := by decide +kernel
theorem dX3_has_2 : decode cX3_has 2 = .ok (.aload_n 0, 1) := by decide +kernel
theorem dX3_has_3 : decode cX3_has 3 = .ok (.getfield 21, 3) := by decide +kernel
theorem dX3_has_6 : decode cX3_has 6 = .ok (.iconst 1, 1) := by decide +kernel
theorem dX3_has_7 : decode cX3_has 7 = .ok (.isub, 1) := by decide +kernel
theorem dX3_has_8 : decode cX3_has 8 = .ok (.invokestatic 47, 3) := by decide +kernel
theorem dX3_has_11 : decode cX3_has 11 = .ok (.ireturn, 1) := by decide +kernel
theorem dX3_bears_0 : decode cX3_bears 0 = .ok (.aload_n 0, 1) := by decide +kernel
theorem dX3_bears_1 : decode cX3_bears 1 = .ok (.iload_n 1, 1) := by decide +kernel
theorem dX3_bears_2 : decode cX3_bears 2 = .ok (.aload_n 0, 1) := by decide +kernel
theorem dX3_bears_3 : decode cX3_bears 3 = .ok (.getfield 15, 3) := by decide +kernel
theorem dX3_bears_6 : decode cX3_bears 6 = .ok (.iload_n 1, 1) := by decide +kernel
theorem dX3_bears_7 : decode cX3_bears 7 = .ok (.iaload, 1) := by decide +kernel
theorem dX3_bears_8 : decode cX3_bears 8 = .ok (.iconst 0, 1) := by decide +kernel
theorem dX3_bears_9 : decode cX3_bears 9 = .ok (.invokevirtual 51, 3) := by decide +kernel
theorem dX3_bears_12 : decode cX3_bears 12 = .ok (.ireturn, 1) := by decide +kernel
theorem dX3_bearsAs_0 : decode cX3_bearsAs 0 = .ok (.iconst 0, 1) := by decide +kernel
theorem dX3_bearsAs_1 : decode cX3_bearsAs 1 = .ok (.iload_n 2, 1) := by decide +kernel
theorem dX3_bearsAs_2 : decode cX3_bearsAs 2 = .ok (.bipush 99, 2) := by decide +kernel
theorem dX3_bearsAs_4 : decode cX3_bearsAs 4 = .ok (.aload_n 0, 1) := by decide +kernel
theorem dX3_bearsAs_5 : decode cX3_bearsAs 5 = .ok (.getfield 18, 3) := by decide +kernel
theorem dX3_bearsAs_8 : decode cX3_bearsAs 8 = .ok (.iload_n 1, 1) := by decide +kernel
theorem dX3_bearsAs_9 : decode cX3_bearsAs 9 = .ok (.iaload, 1) := by decide +kernel
theorem dX3_bearsAs_10 : decode cX3_bearsAs 10 = .ok (.iload_n 3, 1) := by decide +kernel
theorem dX3_bearsAs_11 : decode cX3_bearsAs 11 = .ok (.iadd, 1) := by decide +kernel
theorem dX3_bearsAs_12 : decode cX3_bearsAs 12 = .ok (.invokestatic 55, 3) := by decide +kernel
theorem dX3_bearsAs_15 : decode cX3_bearsAs 15 = .ok (.iconst 4, 1) := by decide +kernel
theorem dX3_bearsAs_16 : decode cX3_bearsAs 16 = .ok (.idiv, 1) := by decide +kernel
theorem dX3_bearsAs_17 : decode cX3_bearsAs 17 = .ok (.isub, 1) := by decide +kernel
theorem dX3_bearsAs_18 : decode cX3_bearsAs 18 = .ok (.invokestatic 61, 3) := by decide +kernel
theorem dX3_bearsAs_21 : decode cX3_bearsAs 21 = .ok (.ireturn, 1) := by decide +kernel
theorem dX3_length_0 : decode cX3_length 0 = .ok (.aload_n 0, 1) := by decide +kernel
theorem dX3_length_1 : decode cX3_length 1 = .ok (.aload_n 0, 1) := by decide +kernel
theorem dX3_length_2 : decode cX3_length 2 = .ok (.getfield 21, 3) := by decide +kernel
theorem dX3_length_5 : decode cX3_length 5 = .ok (.invokevirtual 64, 3) := by decide +kernel
theorem dX3_length_8 : decode cX3_length 8 = .ok (.ireturn, 1) := by decide +kernel
theorem dX3_lengthOf_0 : decode cX3_lengthOf 0 = .ok (.iload_n 1, 1) := by decide +kernel
theorem dX3_lengthOf_1 : decode cX3_lengthOf 1 = .ok (.aload_n 0, 1) := by decide +kernel
theorem dX3_lengthOf_2 : decode cX3_lengthOf 2 = .ok (.getfield 25, 3) := by decide +kernel
theorem dX3_lengthOf_5 : decode cX3_lengthOf 5 = .ok (.invokestatic 68, 3) := by decide +kernel
theorem dX3_lengthOf_8 : decode cX3_lengthOf 8 = .ok (.ireturn, 1) := by decide +kernel
theorem dX3_leastAfter_0 : decode cX3_leastAfter 0 = .ok (.bipush 9, 2) := by decide +kernel
theorem dX3_leastAfter_2 : decode cX3_leastAfter 2 = .ok (.istore_n 2, 1) := by decide +kernel
theorem dX3_leastAfter_3 : decode cX3_leastAfter 3 = .ok (.iconst 0, 1) := by decide +kernel
theorem dX3_leastAfter_4 : decode cX3_leastAfter 4 = .ok (.istore_n 3, 1) := by decide +kernel
theorem dX3_leastAfter_5 : decode cX3_leastAfter 5 = .ok (.iload_n 3, 1) := by decide +kernel
theorem dX3_leastAfter_6 : decode cX3_leastAfter 6 = .ok (.aload_n 0, 1) := by decide +kernel
theorem dX3_leastAfter_7 : decode cX3_leastAfter 7 = .ok (.getfield 21, 3) := by decide +kernel
theorem dX3_leastAfter_10 : decode cX3_leastAfter 10 = .ok (.if_icmp .ge 26, 3) := by decide +kernel
theorem dX3_leastAfter_13 : decode cX3_leastAfter 13 = .ok (.iload_n 2, 1) := by decide +kernel
theorem dX3_leastAfter_14 : decode cX3_leastAfter 14 = .ok (.aload_n 0, 1) := by decide +kernel
theorem dX3_leastAfter_15 : decode cX3_leastAfter 15 = .ok (.iload_n 3, 1) := by decide +kernel
theorem dX3_leastAfter_16 : decode cX3_leastAfter 16 = .ok (.aload_n 0, 1) := by decide +kernel
theorem dX3_leastAfter_17 : decode cX3_leastAfter 17 = .ok (.getfield 15, 3) := by decide +kernel
theorem dX3_leastAfter_20 : decode cX3_leastAfter 20 = .ok (.iload_n 3, 1) := by decide +kernel
theorem dX3_leastAfter_21 : decode cX3_leastAfter 21 = .ok (.iaload, 1) := by decide +kernel
theorem dX3_leastAfter_22 : decode cX3_leastAfter 22 = .ok (.iload_n 1, 1) := by decide +kernel
theorem dX3_leastAfter_23 : decode cX3_leastAfter 23 = .ok (.invokevirtual 51, 3) := by decide +kernel
theorem dX3_leastAfter_26 : decode cX3_leastAfter 26 = .ok (.invokestatic 55, 3) := by decide +kernel
theorem dX3_leastAfter_29 : decode cX3_leastAfter 29 = .ok (.istore_n 2, 1) := by decide +kernel
theorem dX3_leastAfter_30 : decode cX3_leastAfter 30 = .ok (.iinc 3 1, 3) := by decide +kernel
theorem dX3_leastAfter_33 : decode cX3_leastAfter 33 = .ok (.goto (-28), 3) := by decide +kernel
theorem dX3_leastAfter_36 : decode cX3_leastAfter 36 = .ok (.iload_n 2, 1) := by decide +kernel
theorem dX3_leastAfter_37 : decode cX3_leastAfter 37 = .ok (.ireturn, 1) := by decide +kernel
theorem dX3_strength_0 : decode cX3_strength 0 = .ok (.bipush 9, 2) := by decide +kernel
theorem dX3_strength_2 : decode cX3_strength 2 = .ok (.iconst 2, 1) := by decide +kernel
theorem dX3_strength_3 : decode cX3_strength 3 = .ok (.aload_n 0, 1) := by decide +kernel
theorem dX3_strength_4 : decode cX3_strength 4 = .ok (.iconst 0, 1) := by decide +kernel
theorem dX3_strength_5 : decode cX3_strength 5 = .ok (.invokevirtual 72, 3) := by decide +kernel
theorem dX3_strength_8 : decode cX3_strength 8 = .ok (.imul, 1) := by decide +kernel
theorem dX3_strength_9 : decode cX3_strength 9 = .ok (.invokestatic 55, 3) := by decide +kernel
theorem dX3_strength_12 : decode cX3_strength 12 = .ok (.ireturn, 1) := by decide +kernel
theorem dX3_thinnest_0 : decode cX3_thinnest 0 = .ok (.bipush (-9), 2) := by decide +kernel
theorem dX3_thinnest_2 : decode cX3_thinnest 2 = .ok (.istore_n 1, 1) := by decide +kernel
theorem dX3_thinnest_3 : decode cX3_thinnest 3 = .ok (.bipush 10, 2) := by decide +kernel
theorem dX3_thinnest_5 : decode cX3_thinnest 5 = .ok (.istore_n 2, 1) := by decide +kernel
theorem dX3_thinnest_6 : decode cX3_thinnest 6 = .ok (.iconst 0, 1) := by decide +kernel
theorem dX3_thinnest_7 : decode cX3_thinnest 7 = .ok (.istore_n 3, 1) := by decide +kernel
theorem dX3_thinnest_8 : decode cX3_thinnest 8 = .ok (.iload_n 3, 1) := by decide +kernel
theorem dX3_thinnest_9 : decode cX3_thinnest 9 = .ok (.aload_n 0, 1) := by decide +kernel
theorem dX3_thinnest_10 : decode cX3_thinnest 10 = .ok (.getfield 21, 3) := by decide +kernel
theorem dX3_thinnest_13 : decode cX3_thinnest 13 = .ok (.if_icmp .ge 26, 3) := by decide +kernel
theorem dX3_thinnest_16 : decode cX3_thinnest 16 = .ok (.aload_n 0, 1) := by decide +kernel
theorem dX3_thinnest_17 : decode cX3_thinnest 17 = .ok (.iload_n 3, 1) := by decide +kernel
theorem dX3_thinnest_18 : decode cX3_thinnest 18 = .ok (.invokevirtual 75, 3) := by decide +kernel
theorem dX3_thinnest_21 : decode cX3_thinnest 21 = .ok (.iload_n 2, 1) := by decide +kernel
theorem dX3_thinnest_22 : decode cX3_thinnest 22 = .ok (.if_icmp .ge 11, 3) := by decide +kernel
theorem dX3_thinnest_25 : decode cX3_thinnest 25 = .ok (.aload_n 0, 1) := by decide +kernel
theorem dX3_thinnest_26 : decode cX3_thinnest 26 = .ok (.iload_n 3, 1) := by decide +kernel
theorem dX3_thinnest_27 : decode cX3_thinnest 27 = .ok (.invokevirtual 75, 3) := by decide +kernel
theorem dX3_thinnest_30 : decode cX3_thinnest 30 = .ok (.istore_n 2, 1) := by decide +kernel
theorem dX3_thinnest_31 : decode cX3_thinnest 31 = .ok (.iload_n 3, 1) := by decide +kernel
theorem dX3_thinnest_32 : decode cX3_thinnest 32 = .ok (.istore_n 1, 1) := by decide +kernel
theorem dX3_thinnest_33 : decode cX3_thinnest 33 = .ok (.iinc 3 1, 3) := by decide +kernel
theorem dX3_thinnest_36 : decode cX3_thinnest 36 = .ok (.goto (-28), 3) := by decide +kernel
theorem dX3_thinnest_39 : decode cX3_thinnest 39 = .ok (.iload_n 1, 1) := by decide +kernel
theorem dX3_thinnest_40 : decode cX3_thinnest 40 = .ok (.ireturn, 1) := by decide +kernel
theorem dX3_holes_0 : decode cX3_holes 0 = .ok (.iconst 0, 1) := by decide +kernel
theorem dX3_holes_1 : decode cX3_holes 1 = .ok (.istore_n 1, 1) := by decide +kernel
theorem dX3_holes_2 : decode cX3_holes 2 = .ok (.iconst 0, 1) := by decide +kernel
theorem dX3_holes_3 : decode cX3_holes 3 = .ok (.istore_n 2, 1) := by decide +kernel
theorem dX3_holes_4 : decode cX3_holes 4 = .ok (.iload_n 2, 1) := by decide +kernel
theorem dX3_holes_5 : decode cX3_holes 5 = .ok (.aload_n 0, 1) := by decide +kernel
theorem dX3_holes_6 : decode cX3_holes 6 = .ok (.getfield 21, 3) := by decide +kernel
theorem dX3_holes_9 : decode cX3_holes 9 = .ok (.if_icmp .ge 20, 3) := by decide +kernel
theorem dX3_holes_12 : decode cX3_holes 12 = .ok (.aload_n 0, 1) := by decide +kernel
theorem dX3_holes_13 : decode cX3_holes 13 = .ok (.iload_n 2, 1) := by decide +kernel
theorem dX3_holes_14 : decode cX3_holes 14 = .ok (.invokevirtual 75, 3) := by decide +kernel
theorem dX3_holes_17 : decode cX3_holes 17 = .ok (.ifCond .ne 6, 3) := by decide +kernel
theorem dX3_holes_20 : decode cX3_holes 20 = .ok (.iinc 1 1, 3) := by decide +kernel
theorem dX3_holes_23 : decode cX3_holes 23 = .ok (.iinc 2 1, 3) := by decide +kernel
theorem dX3_holes_26 : decode cX3_holes 26 = .ok (.goto (-22), 3) := by decide +kernel
theorem dX3_holes_29 : decode cX3_holes 29 = .ok (.iload_n 1, 1) := by decide +kernel
theorem dX3_holes_30 : decode cX3_holes 30 = .ok (.ireturn, 1) := by decide +kernel
theorem dX3_middle_0 : decode cX3_middle 0 = .ok (.aload_n 0, 1) := by decide +kernel
theorem dX3_middle_1 : decode cX3_middle 1 = .ok (.getfield 21, 3) := by decide +kernel
theorem dX3_middle_4 : decode cX3_middle 4 = .ok (.ifCond .ne 8, 3) := by decide +kernel
theorem dX3_middle_7 : decode cX3_middle 7 = .ok (.bipush (-9), 2) := by decide +kernel
theorem dX3_middle_9 : decode cX3_middle 9 = .ok (.goto 16, 3) := by decide +kernel
theorem dX3_middle_12 : decode cX3_middle 12 = .ok (.aload_n 0, 1) := by decide +kernel
theorem dX3_middle_13 : decode cX3_middle 13 = .ok (.getfield 9, 3) := by decide +kernel
theorem dX3_middle_16 : decode cX3_middle 16 = .ok (.aload_n 0, 1) := by decide +kernel
theorem dX3_middle_17 : decode cX3_middle 17 = .ok (.getfield 21, 3) := by decide +kernel
theorem dX3_middle_20 : decode cX3_middle 20 = .ok (.iconst 1, 1) := by decide +kernel
theorem dX3_middle_21 : decode cX3_middle 21 = .ok (.isub, 1) := by decide +kernel
theorem dX3_middle_22 : decode cX3_middle 22 = .ok (.iconst 2, 1) := by decide +kernel
theorem dX3_middle_23 : decode cX3_middle 23 = .ok (.idiv, 1) := by decide +kernel
theorem dX3_middle_24 : decode cX3_middle 24 = .ok (.iaload, 1) := by decide +kernel
theorem dX3_middle_25 : decode cX3_middle 25 = .ok (.ireturn, 1) := by decide +kernel
theorem dX3_share_0 : decode cX3_share 0 = .ok (.iconst 0, 1) := by decide +kernel
theorem dX3_share_1 : decode cX3_share 1 = .ok (.istore_n 2, 1) := by decide +kernel
theorem dX3_share_2 : decode cX3_share 2 = .ok (.iconst 0, 1) := by decide +kernel
theorem dX3_share_3 : decode cX3_share 3 = .ok (.istore_n 3, 1) := by decide +kernel
theorem dX3_share_4 : decode cX3_share 4 = .ok (.iload_n 3, 1) := by decide +kernel
theorem dX3_share_5 : decode cX3_share 5 = .ok (.aload_n 0, 1) := by decide +kernel
theorem dX3_share_6 : decode cX3_share 6 = .ok (.getfield 21, 3) := by decide +kernel
theorem dX3_share_9 : decode cX3_share 9 = .ok (.if_icmp .ge 22, 3) := by decide +kernel
theorem dX3_share_12 : decode cX3_share 12 = .ok (.aload_n 0, 1) := by decide +kernel
theorem dX3_share_13 : decode cX3_share 13 = .ok (.getfield 9, 3) := by decide +kernel
theorem dX3_share_16 : decode cX3_share 16 = .ok (.iload_n 3, 1) := by decide +kernel
theorem dX3_share_17 : decode cX3_share 17 = .ok (.iaload, 1) := by decide +kernel
theorem dX3_share_18 : decode cX3_share 18 = .ok (.iload_n 1, 1) := by decide +kernel
theorem dX3_share_19 : decode cX3_share 19 = .ok (.if_icmp .ne 6, 3) := by decide +kernel
theorem dX3_share_22 : decode cX3_share 22 = .ok (.iinc 2 1, 3) := by decide +kernel
theorem dX3_share_25 : decode cX3_share 25 = .ok (.iinc 3 1, 3) := by decide +kernel
theorem dX3_share_28 : decode cX3_share 28 = .ok (.goto (-24), 3) := by decide +kernel
theorem dX3_share_31 : decode cX3_share 31 = .ok (.iload_n 2, 1) := by decide +kernel
theorem dX3_share_32 : decode cX3_share 32 = .ok (.ireturn, 1) := by decide +kernel
theorem dX3_woolFor_0 : decode cX3_woolFor 0 = .ok (.iconst 0, 1) := by decide +kernel
theorem dX3_woolFor_1 : decode cX3_woolFor 1 = .ok (.istore_n 2, 1) := by decide +kernel
theorem dX3_woolFor_2 : decode cX3_woolFor 2 = .ok (.iconst 0, 1) := by decide +kernel
theorem dX3_woolFor_3 : decode cX3_woolFor 3 = .ok (.istore_n 3, 1) := by decide +kernel
theorem dX3_woolFor_4 : decode cX3_woolFor 4 = .ok (.iload_n 3, 1) := by decide +kernel
theorem dX3_woolFor_5 : decode cX3_woolFor 5 = .ok (.aload_n 0, 1) := by decide +kernel
theorem dX3_woolFor_6 : decode cX3_woolFor 6 = .ok (.getfield 21, 3) := by decide +kernel
theorem dX3_woolFor_9 : decode cX3_woolFor 9 = .ok (.if_icmp .ge 33, 3) := by decide +kernel
theorem dX3_woolFor_12 : decode cX3_woolFor 12 = .ok (.iload_n 2, 1) := by decide +kernel
theorem dX3_woolFor_13 : decode cX3_woolFor 13 = .ok (.iconst 0, 1) := by decide +kernel
theorem dX3_woolFor_14 : decode cX3_woolFor 14 = .ok (.iload_n 1, 1) := by decide +kernel
theorem dX3_woolFor_15 : decode cX3_woolFor 15 = .ok (.aload_n 0, 1) := by decide +kernel
theorem dX3_woolFor_16 : decode cX3_woolFor 16 = .ok (.getfield 18, 3) := by decide +kernel
theorem dX3_woolFor_19 : decode cX3_woolFor 19 = .ok (.iload_n 3, 1) := by decide +kernel
theorem dX3_woolFor_20 : decode cX3_woolFor 20 = .ok (.iaload, 1) := by decide +kernel
theorem dX3_woolFor_21 : decode cX3_woolFor 21 = .ok (.iconst 4, 1) := by decide +kernel
theorem dX3_woolFor_22 : decode cX3_woolFor 22 = .ok (.idiv, 1) := by decide +kernel
theorem dX3_woolFor_23 : decode cX3_woolFor 23 = .ok (.iadd, 1) := by decide +kernel
theorem dX3_woolFor_24 : decode cX3_woolFor 24 = .ok (.aload_n 0, 1) := by decide +kernel
theorem dX3_woolFor_25 : decode cX3_woolFor 25 = .ok (.getfield 15, 3) := by decide +kernel
theorem dX3_woolFor_28 : decode cX3_woolFor 28 = .ok (.iload_n 3, 1) := by decide +kernel
theorem dX3_woolFor_29 : decode cX3_woolFor 29 = .ok (.iaload, 1) := by decide +kernel
theorem dX3_woolFor_30 : decode cX3_woolFor 30 = .ok (.isub, 1) := by decide +kernel
theorem dX3_woolFor_31 : decode cX3_woolFor 31 = .ok (.invokestatic 61, 3) := by decide +kernel
theorem dX3_woolFor_34 : decode cX3_woolFor 34 = .ok (.iadd, 1) := by decide +kernel
theorem dX3_woolFor_35 : decode cX3_woolFor 35 = .ok (.istore_n 2, 1) := by decide +kernel
theorem dX3_woolFor_36 : decode cX3_woolFor 36 = .ok (.iinc 3 1, 3) := by decide +kernel
theorem dX3_woolFor_39 : decode cX3_woolFor 39 = .ok (.goto (-35), 3) := by decide +kernel
theorem dX3_woolFor_42 : decode cX3_woolFor 42 = .ok (.iload_n 2, 1) := by decide +kernel
theorem dX3_woolFor_43 : decode cX3_woolFor 43 = .ok (.ireturn, 1) := by decide +kernel
theorem dX3_knit_0 : decode cX3_knit 0 = .ok (.aload_n 0, 1) := by decide +kernel
theorem dX3_knit_1 : decode cX3_knit 1 = .ok (.iconst 0, 1) := by decide +kernel
theorem dX3_knit_2 : decode cX3_knit 2 = .ok (.aload_n 0, 1) := by decide +kernel
theorem dX3_knit_3 : decode cX3_knit 3 = .ok (.getfield 21, 3) := by decide +kernel
theorem dX3_knit_6 : decode cX3_knit 6 = .ok (.iload_n 2, 1) := by decide +kernel
theorem dX3_knit_7 : decode cX3_knit 7 = .ok (.iadd, 1) := by decide +kernel
theorem dX3_knit_8 : decode cX3_knit 8 = .ok (.bipush 40, 2) := by decide +kernel
theorem dX3_knit_10 : decode cX3_knit 10 = .ok (.isub, 1) := by decide +kernel
theorem dX3_knit_11 : decode cX3_knit 11 = .ok (.invokevirtual 78, 3) := by decide +kernel
theorem dX3_knit_14 : decode cX3_knit 14 = .ok (.iconst 0, 1) := by decide +kernel
theorem dX3_knit_15 : decode cX3_knit 15 = .ok (.istore 4, 2) := by decide +kernel
theorem dX3_knit_17 : decode cX3_knit 17 = .ok (.iload 4, 2) := by decide +kernel
theorem dX3_knit_19 : decode cX3_knit 19 = .ok (.iload_n 2, 1) := by decide +kernel
theorem dX3_knit_20 : decode cX3_knit 20 = .ok (.if_icmp .ge 58, 3) := by decide +kernel
theorem dX3_knit_23 : decode cX3_knit 23 = .ok (.aload_n 0, 1) := by decide +kernel
theorem dX3_knit_24 : decode cX3_knit 24 = .ok (.getfield 21, 3) := by decide +kernel
theorem dX3_knit_27 : decode cX3_knit 27 = .ok (.bipush 40, 2) := by decide +kernel
theorem dX3_knit_29 : decode cX3_knit 29 = .ok (.if_icmp .ge 49, 3) := by decide +kernel
theorem dX3_knit_32 : decode cX3_knit 32 = .ok (.aload_n 0, 1) := by decide +kernel
theorem dX3_knit_33 : decode cX3_knit 33 = .ok (.getfield 9, 3) := by decide +kernel
theorem dX3_knit_36 : decode cX3_knit 36 = .ok (.aload_n 0, 1) := by decide +kernel
theorem dX3_knit_37 : decode cX3_knit 37 = .ok (.getfield 21, 3) := by decide +kernel
theorem dX3_knit_40 : decode cX3_knit 40 = .ok (.iload_n 1, 1) := by decide +kernel
theorem dX3_knit_41 : decode cX3_knit 41 = .ok (.iastore, 1) := by decide +kernel
theorem dX3_knit_42 : decode cX3_knit 42 = .ok (.aload_n 0, 1) := by decide +kernel
theorem dX3_knit_43 : decode cX3_knit 43 = .ok (.getfield 15, 3) := by decide +kernel
theorem dX3_knit_46 : decode cX3_knit 46 = .ok (.aload_n 0, 1) := by decide +kernel
theorem dX3_knit_47 : decode cX3_knit 47 = .ok (.getfield 21, 3) := by decide +kernel
theorem dX3_knit_50 : decode cX3_knit 50 = .ok (.iload_n 3, 1) := by decide +kernel
theorem dX3_knit_51 : decode cX3_knit 51 = .ok (.iastore, 1) := by decide +kernel
theorem dX3_knit_52 : decode cX3_knit 52 = .ok (.aload_n 0, 1) := by decide +kernel
theorem dX3_knit_53 : decode cX3_knit 53 = .ok (.getfield 18, 3) := by decide +kernel
theorem dX3_knit_56 : decode cX3_knit 56 = .ok (.aload_n 0, 1) := by decide +kernel
theorem dX3_knit_57 : decode cX3_knit 57 = .ok (.getfield 21, 3) := by decide +kernel
theorem dX3_knit_60 : decode cX3_knit 60 = .ok (.iconst 0, 1) := by decide +kernel
theorem dX3_knit_61 : decode cX3_knit 61 = .ok (.iastore, 1) := by decide +kernel
theorem dX3_knit_62 : decode cX3_knit 62 = .ok (.aload_n 0, 1) := by decide +kernel
theorem dX3_knit_63 : decode cX3_knit 63 = .ok (.dup, 1) := by decide +kernel
theorem dX3_knit_64 : decode cX3_knit 64 = .ok (.getfield 21, 3) := by decide +kernel
theorem dX3_knit_67 : decode cX3_knit 67 = .ok (.iconst 1, 1) := by decide +kernel
theorem dX3_knit_68 : decode cX3_knit 68 = .ok (.iadd, 1) := by decide +kernel
theorem dX3_knit_69 : decode cX3_knit 69 = .ok (.putfield 21, 3) := by decide +kernel
theorem dX3_knit_72 : decode cX3_knit 72 = .ok (.iinc 4 1, 3) := by decide +kernel
theorem dX3_knit_75 : decode cX3_knit 75 = .ok (.goto (-58), 3) := by decide +kernel
theorem dX3_knit_78 : decode cX3_knit 78 = .ok (.return_, 1) := by decide +kernel
theorem dX3_unravel_0 : decode cX3_unravel 0 = .ok (.aload_n 0, 1) := by decide +kernel
theorem dX3_unravel_1 : decode cX3_unravel 1 = .ok (.getfield 21, 3) := by decide +kernel
theorem dX3_unravel_4 : decode cX3_unravel 4 = .ok (.istore_n 1, 1) := by decide +kernel
theorem dX3_unravel_5 : decode cX3_unravel 5 = .ok (.aload_n 0, 1) := by decide +kernel
theorem dX3_unravel_6 : decode cX3_unravel 6 = .ok (.getfield 21, 3) := by decide +kernel
theorem dX3_unravel_9 : decode cX3_unravel 9 = .ok (.ifCond .le 38, 3) := by decide +kernel
theorem dX3_unravel_12 : decode cX3_unravel 12 = .ok (.aload_n 0, 1) := by decide +kernel
theorem dX3_unravel_13 : decode cX3_unravel 13 = .ok (.getfield 9, 3) := by decide +kernel
theorem dX3_unravel_16 : decode cX3_unravel 16 = .ok (.aload_n 0, 1) := by decide +kernel
theorem dX3_unravel_17 : decode cX3_unravel 17 = .ok (.getfield 21, 3) := by decide +kernel
theorem dX3_unravel_20 : decode cX3_unravel 20 = .ok (.iconst 1, 1) := by decide +kernel
theorem dX3_unravel_21 : decode cX3_unravel 21 = .ok (.isub, 1) := by decide +kernel
theorem dX3_unravel_22 : decode cX3_unravel 22 = .ok (.iaload, 1) := by decide +kernel
theorem dX3_unravel_23 : decode cX3_unravel 23 = .ok (.aload_n 0, 1) := by decide +kernel
theorem dX3_unravel_24 : decode cX3_unravel 24 = .ok (.getfield 9, 3) := by decide +kernel
theorem dX3_unravel_27 : decode cX3_unravel 27 = .ok (.iload_n 1, 1) := by decide +kernel
theorem dX3_unravel_28 : decode cX3_unravel 28 = .ok (.iconst 1, 1) := by decide +kernel
theorem dX3_unravel_29 : decode cX3_unravel 29 = .ok (.isub, 1) := by decide +kernel
theorem dX3_unravel_30 : decode cX3_unravel 30 = .ok (.iaload, 1) := by decide +kernel
theorem dX3_unravel_31 : decode cX3_unravel 31 = .ok (.if_icmp .ne 16, 3) := by decide +kernel
theorem dX3_unravel_34 : decode cX3_unravel 34 = .ok (.aload_n 0, 1) := by decide +kernel
theorem dX3_unravel_35 : decode cX3_unravel 35 = .ok (.dup, 1) := by decide +kernel
theorem dX3_unravel_36 : decode cX3_unravel 36 = .ok (.getfield 21, 3) := by decide +kernel
theorem dX3_unravel_39 : decode cX3_unravel 39 = .ok (.iconst 1, 1) := by decide +kernel
theorem dX3_unravel_40 : decode cX3_unravel 40 = .ok (.isub, 1) := by decide +kernel
theorem dX3_unravel_41 : decode cX3_unravel 41 = .ok (.putfield 21, 3) := by decide +kernel
theorem dX3_unravel_44 : decode cX3_unravel 44 = .ok (.goto (-39), 3) := by decide +kernel
theorem dX3_unravel_47 : decode cX3_unravel 47 = .ok (.iload_n 1, 1) := by decide +kernel
theorem dX3_unravel_48 : decode cX3_unravel 48 = .ok (.aload_n 0, 1) := by decide +kernel
theorem dX3_unravel_49 : decode cX3_unravel 49 = .ok (.getfield 21, 3) := by decide +kernel
theorem dX3_unravel_52 : decode cX3_unravel 52 = .ok (.isub, 1) := by decide +kernel
theorem dX3_unravel_53 : decode cX3_unravel 53 = .ok (.ireturn, 1) := by decide +kernel
theorem dX3_removeFrom_0 : decode cX3_removeFrom 0 = .ok (.aload_n 0, 1) := by decide +kernel
theorem dX3_removeFrom_1 : decode cX3_removeFrom 1 = .ok (.getfield 21, 3) := by decide +kernel
theorem dX3_removeFrom_4 : decode cX3_removeFrom 4 = .ok (.iload_n 1, 1) := by decide +kernel
theorem dX3_removeFrom_5 : decode cX3_removeFrom 5 = .ok (.isub, 1) := by decide +kernel
theorem dX3_removeFrom_6 : decode cX3_removeFrom 6 = .ok (.iload_n 2, 1) := by decide +kernel
theorem dX3_removeFrom_7 : decode cX3_removeFrom 7 = .ok (.isub, 1) := by decide +kernel
theorem dX3_removeFrom_8 : decode cX3_removeFrom 8 = .ok (.istore_n 3, 1) := by decide +kernel
theorem dX3_removeFrom_9 : decode cX3_removeFrom 9 = .ok (.iload_n 1, 1) := by decide +kernel
theorem dX3_removeFrom_10 : decode cX3_removeFrom 10 = .ok (.ifCond .lt 11, 3) := by decide +kernel
theorem dX3_removeFrom_13 : decode cX3_removeFrom 13 = .ok (.iload_n 2, 1) := by decide +kernel
theorem dX3_removeFrom_14 : decode cX3_removeFrom 14 = .ok (.ifCond .le 7, 3) := by decide +kernel
theorem dX3_removeFrom_17 : decode cX3_removeFrom 17 = .ok (.iload_n 3, 1) := by decide +kernel
theorem dX3_removeFrom_18 : decode cX3_removeFrom 18 = .ok (.ifCond .ge 4, 3) := by decide +kernel
theorem dX3_removeFrom_21 : decode cX3_removeFrom 21 = .ok (.return_, 1) := by decide +kernel
theorem dX3_removeFrom_22 : decode cX3_removeFrom 22 = .ok (.aload_n 0, 1) := by decide +kernel
theorem dX3_removeFrom_23 : decode cX3_removeFrom 23 = .ok (.getfield 9, 3) := by decide +kernel
theorem dX3_removeFrom_26 : decode cX3_removeFrom 26 = .ok (.iload_n 1, 1) := by decide +kernel
theorem dX3_removeFrom_27 : decode cX3_removeFrom 27 = .ok (.iload_n 2, 1) := by decide +kernel
theorem dX3_removeFrom_28 : decode cX3_removeFrom 28 = .ok (.iadd, 1) := by decide +kernel
theorem dX3_removeFrom_29 : decode cX3_removeFrom 29 = .ok (.aload_n 0, 1) := by decide +kernel
theorem dX3_removeFrom_30 : decode cX3_removeFrom 30 = .ok (.getfield 9, 3) := by decide +kernel
theorem dX3_removeFrom_33 : decode cX3_removeFrom 33 = .ok (.iload_n 1, 1) := by decide +kernel
theorem dX3_removeFrom_34 : decode cX3_removeFrom 34 = .ok (.iload_n 3, 1) := by decide +kernel
theorem dX3_removeFrom_35 : decode cX3_removeFrom 35 = .ok (.invokestatic 41, 3) := by decide +kernel
theorem dX3_removeFrom_38 : decode cX3_removeFrom 38 = .ok (.aload_n 0, 1) := by decide +kernel
theorem dX3_removeFrom_39 : decode cX3_removeFrom 39 = .ok (.getfield 15, 3) := by decide +kernel
theorem dX3_removeFrom_42 : decode cX3_removeFrom 42 = .ok (.iload_n 1, 1) := by decide +kernel
theorem dX3_removeFrom_43 : decode cX3_removeFrom 43 = .ok (.iload_n 2, 1) := by decide +kernel
theorem dX3_removeFrom_44 : decode cX3_removeFrom 44 = .ok (.iadd, 1) := by decide +kernel
theorem dX3_removeFrom_45 : decode cX3_removeFrom 45 = .ok (.aload_n 0, 1) := by decide +kernel
theorem dX3_removeFrom_46 : decode cX3_removeFrom 46 = .ok (.getfield 15, 3) := by decide +kernel
theorem dX3_removeFrom_49 : decode cX3_removeFrom 49 = .ok (.iload_n 1, 1) := by decide +kernel
theorem dX3_removeFrom_50 : decode cX3_removeFrom 50 = .ok (.iload_n 3, 1) := by decide +kernel
theorem dX3_removeFrom_51 : decode cX3_removeFrom 51 = .ok (.invokestatic 41, 3) := by decide +kernel
theorem dX3_removeFrom_54 : decode cX3_removeFrom 54 = .ok (.aload_n 0, 1) := by decide +kernel
theorem dX3_removeFrom_55 : decode cX3_removeFrom 55 = .ok (.getfield 18, 3) := by decide +kernel
theorem dX3_removeFrom_58 : decode cX3_removeFrom 58 = .ok (.iload_n 1, 1) := by decide +kernel
theorem dX3_removeFrom_59 : decode cX3_removeFrom 59 = .ok (.iload_n 2, 1) := by decide +kernel
theorem dX3_removeFrom_60 : decode cX3_removeFrom 60 = .ok (.iadd, 1) := by decide +kernel
theorem dX3_removeFrom_61 : decode cX3_removeFrom 61 = .ok (.aload_n 0, 1) := by decide +kernel
theorem dX3_removeFrom_62 : decode cX3_removeFrom 62 = .ok (.getfield 18, 3) := by decide +kernel
theorem dX3_removeFrom_65 : decode cX3_removeFrom 65 = .ok (.iload_n 1, 1) := by decide +kernel
theorem dX3_removeFrom_66 : decode cX3_removeFrom 66 = .ok (.iload_n 3, 1) := by decide +kernel
theorem dX3_removeFrom_67 : decode cX3_removeFrom 67 = .ok (.invokestatic 41, 3) := by decide +kernel
theorem dX3_removeFrom_70 : decode cX3_removeFrom 70 = .ok (.aload_n 0, 1) := by decide +kernel
theorem dX3_removeFrom_71 : decode cX3_removeFrom 71 = .ok (.dup, 1) := by decide +kernel
theorem dX3_removeFrom_72 : decode cX3_removeFrom 72 = .ok (.getfield 21, 3) := by decide +kernel
theorem dX3_removeFrom_75 : decode cX3_removeFrom 75 = .ok (.iload_n 2, 1) := by decide +kernel
theorem dX3_removeFrom_76 : decode cX3_removeFrom 76 = .ok (.isub, 1) := by decide +kernel
theorem dX3_removeFrom_77 : decode cX3_removeFrom 77 = .ok (.putfield 21, 3) := by decide +kernel
theorem dX3_removeFrom_80 : decode cX3_removeFrom 80 = .ok (.return_, 1) := by decide +kernel
theorem dX3_age_0 : decode cX3_age 0 = .ok (.iconst 0, 1) := by decide +kernel
theorem dX3_age_1 : decode cX3_age 1 = .ok (.istore_n 1, 1) := by decide +kernel
theorem dX3_age_2 : decode cX3_age 2 = .ok (.iload_n 1, 1) := by decide +kernel
theorem dX3_age_3 : decode cX3_age 3 = .ok (.aload_n 0, 1) := by decide +kernel
theorem dX3_age_4 : decode cX3_age 4 = .ok (.getfield 21, 3) := by decide +kernel
theorem dX3_age_7 : decode cX3_age 7 = .ok (.if_icmp .ge 28, 3) := by decide +kernel
theorem dX3_age_10 : decode cX3_age 10 = .ok (.aload_n 0, 1) := by decide +kernel
theorem dX3_age_11 : decode cX3_age 11 = .ok (.getfield 18, 3) := by decide +kernel
theorem dX3_age_14 : decode cX3_age 14 = .ok (.iload_n 1, 1) := by decide +kernel
theorem dX3_age_15 : decode cX3_age 15 = .ok (.bipush 99, 2) := by decide +kernel
theorem dX3_age_17 : decode cX3_age 17 = .ok (.aload_n 0, 1) := by decide +kernel
theorem dX3_age_18 : decode cX3_age 18 = .ok (.getfield 18, 3) := by decide +kernel
theorem dX3_age_21 : decode cX3_age 21 = .ok (.iload_n 1, 1) := by decide +kernel
theorem dX3_age_22 : decode cX3_age 22 = .ok (.iaload, 1) := by decide +kernel
theorem dX3_age_23 : decode cX3_age 23 = .ok (.iconst 1, 1) := by decide +kernel
theorem dX3_age_24 : decode cX3_age 24 = .ok (.iadd, 1) := by decide +kernel
theorem dX3_age_25 : decode cX3_age 25 = .ok (.invokestatic 55, 3) := by decide +kernel
theorem dX3_age_28 : decode cX3_age 28 = .ok (.iastore, 1) := by decide +kernel
theorem dX3_age_29 : decode cX3_age 29 = .ok (.iinc 1 1, 3) := by decide +kernel
theorem dX3_age_32 : decode cX3_age 32 = .ok (.goto (-30), 3) := by decide +kernel
theorem dX3_age_35 : decode cX3_age 35 = .ok (.aload_n 0, 1) := by decide +kernel
theorem dX3_age_36 : decode cX3_age 36 = .ok (.dup, 1) := by decide +kernel
theorem dX3_age_37 : decode cX3_age 37 = .ok (.getfield 29, 3) := by decide +kernel
theorem dX3_age_40 : decode cX3_age 40 = .ok (.iconst 1, 1) := by decide +kernel
theorem dX3_age_41 : decode cX3_age 41 = .ok (.iadd, 1) := by decide +kernel
theorem dX3_age_42 : decode cX3_age 42 = .ok (.putfield 29, 3) := by decide +kernel
theorem dX3_age_45 : decode cX3_age 45 = .ok (.return_, 1) := by decide +kernel
theorem dX4_init_0 : decode cX4_init 0 = .ok (.aload_n 0, 1) := by decide +kernel
theorem dX4_init_1 : decode cX4_init 1 = .ok (.invokespecial 3, 3) := by decide +kernel
theorem dX4_init_4 : decode cX4_init 4 = .ok (.aload_n 0, 1) := by decide +kernel
theorem dX4_init_5 : decode cX4_init 5 = .ok (.sipush 150, 3) := by decide +kernel
theorem dX4_init_8 : decode cX4_init 8 = .ok (.newarray .int, 2) := by decide +kernel
theorem dX4_init_10 : decode cX4_init 10 = .ok (.putfield 9, 3) := by decide +kernel
theorem dX4_init_13 : decode cX4_init 13 = .ok (.return_, 1) := by decide +kernel
theorem dX4_add_0 : decode cX4_add 0 = .ok (.aload_n 0, 1) := by decide +kernel
theorem dX4_add_1 : decode cX4_add 1 = .ok (.getfield 15, 3) := by decide +kernel
theorem dX4_add_4 : decode cX4_add 4 = .ok (.sipush 150, 3) := by decide +kernel
theorem dX4_add_7 : decode cX4_add 7 = .ok (.if_icmp .lt 5, 3) := by decide +kernel
theorem dX4_add_10 : decode cX4_add 10 = .ok (.iconst 0, 1) := by decide +kernel
theorem dX4_add_11 : decode cX4_add 11 = .ok (.ireturn, 1) := by decide +kernel
theorem dX4_add_12 : decode cX4_add 12 = .ok (.aload_n 0, 1) := by decide +kernel
theorem dX4_add_13 : decode cX4_add 13 = .ok (.getfield 9, 3) := by decide +kernel
theorem dX4_add_16 : decode cX4_add 16 = .ok (.aload_n 0, 1) := by decide +kernel
theorem dX4_add_17 : decode cX4_add 17 = .ok (.getfield 15, 3) := by decide +kernel
theorem dX4_add_20 : decode cX4_add 20 = .ok (.iload_n 1, 1) := by decide +kernel
theorem dX4_add_21 : decode cX4_add 21 = .ok (.iastore, 1) := by decide +kernel
theorem dX4_add_22 : decode cX4_add 22 = .ok (.aload_n 0, 1) := by decide +kernel
theorem dX4_add_23 : decode cX4_add 23 = .ok (.dup, 1) := by decide +kernel
theorem dX4_add_24 : decode cX4_add 24 = .ok (.getfield 15, 3) := by decide +kernel
theorem dX4_add_27 : decode cX4_add 27 = .ok (.iconst 1, 1) := by decide +kernel
theorem dX4_add_28 : decode cX4_add 28 = .ok (.iadd, 1) := by decide +kernel
theorem dX4_add_29 : decode cX4_add 29 = .ok (.putfield 15, 3) := by decide +kernel
theorem dX4_add_32 : decode cX4_add 32 = .ok (.iconst 1, 1) := by decide +kernel
theorem dX4_add_33 : decode cX4_add 33 = .ok (.ireturn, 1) := by decide +kernel
theorem dX4_empty_0 : decode cX4_empty 0 = .ok (.aload_n 0, 1) := by decide +kernel
theorem dX4_empty_1 : decode cX4_empty 1 = .ok (.getfield 15, 3) := by decide +kernel
theorem dX4_empty_4 : decode cX4_empty 4 = .ok (.istore_n 1, 1) := by decide +kernel
theorem dX4_empty_5 : decode cX4_empty 5 = .ok (.aload_n 0, 1) := by decide +kernel
theorem dX4_empty_6 : decode cX4_empty 6 = .ok (.iconst 0, 1) := by decide +kernel
theorem dX4_empty_7 : decode cX4_empty 7 = .ok (.putfield 15, 3) := by decide +kernel
theorem dX4_empty_10 : decode cX4_empty 10 = .ok (.iload_n 1, 1) := by decide +kernel
theorem dX4_empty_11 : decode cX4_empty 11 = .ok (.ireturn, 1) := by decide +kernel
theorem dX4_readInto_0 : decode cX4_readInto 0 = .ok (.aload_n 1, 1) := by decide +kernel
theorem dX4_readInto_1 : decode cX4_readInto 1 = .ok (.invokevirtual 19, 3) := by decide +kernel
theorem dX4_readInto_4 : decode cX4_readInto 4 = .ok (.aload_n 0, 1) := by decide +kernel
theorem dX4_readInto_5 : decode cX4_readInto 5 = .ok (.iconst 0, 1) := by decide +kernel
theorem dX4_readInto_6 : decode cX4_readInto 6 = .ok (.putfield 24, 3) := by decide +kernel
theorem dX4_readInto_9 : decode cX4_readInto 9 = .ok (.iconst 0, 1) := by decide +kernel
theorem dX4_readInto_10 : decode cX4_readInto 10 = .ok (.istore_n 2, 1) := by decide +kernel
theorem dX4_readInto_11 : decode cX4_readInto 11 = .ok (.aload_n 0, 1) := by decide +kernel
theorem dX4_readInto_12 : decode cX4_readInto 12 = .ok (.invokevirtual 27, 3) := by decide +kernel
theorem dX4_readInto_15 : decode cX4_readInto 15 = .ok (.iload_n 2, 1) := by decide +kernel
theorem dX4_readInto_16 : decode cX4_readInto 16 = .ok (.sipush 150, 3) := by decide +kernel
theorem dX4_readInto_19 : decode cX4_readInto 19 = .ok (.if_icmp .ge 36, 3) := by decide +kernel
theorem dX4_readInto_22 : decode cX4_readInto 22 = .ok (.aload_n 0, 1) := by decide +kernel
theorem dX4_readInto_23 : decode cX4_readInto 23 = .ok (.getfield 30, 3) := by decide +kernel
theorem dX4_readInto_26 : decode cX4_readInto 26 = .ok (.ifCond .eq 29, 3) := by decide +kernel
theorem dX4_readInto_29 : decode cX4_readInto 29 = .ok (.aload_n 0, 1) := by decide +kernel
theorem dX4_readInto_30 : decode cX4_readInto 30 = .ok (.aload_n 1, 1) := by decide +kernel
theorem dX4_readInto_31 : decode cX4_readInto 31 = .ok (.invokevirtual 33, 3) := by decide +kernel
theorem dX4_readInto_34 : decode cX4_readInto 34 = .ok (.ifCond .ne 11, 3) := by decide +kernel
theorem dX4_readInto_37 : decode cX4_readInto 37 = .ok (.bipush (-10), 2) := by decide +kernel
theorem dX4_readInto_39 : decode cX4_readInto 39 = .ok (.aload_n 0, 1) := by decide +kernel
theorem dX4_readInto_40 : decode cX4_readInto 40 = .ok (.getfield 37, 3) := by decide +kernel
theorem dX4_readInto_43 : decode cX4_readInto 43 = .ok (.isub, 1) := by decide +kernel
theorem dX4_readInto_44 : decode cX4_readInto 44 = .ok (.ireturn, 1) := by decide +kernel
theorem dX4_readInto_45 : decode cX4_readInto 45 = .ok (.iinc 2 1, 3) := by decide +kernel
theorem dX4_readInto_48 : decode cX4_readInto 48 = .ok (.aload_n 0, 1) := by decide +kernel
theorem dX4_readInto_49 : decode cX4_readInto 49 = .ok (.invokevirtual 27, 3) := by decide +kernel
theorem dX4_readInto_52 : decode cX4_readInto 52 = .ok (.goto (-37), 3) := by decide +kernel
theorem dX4_readInto_55 : decode cX4_readInto 55 = .ok (.iload_n 2, 1) := by decide +kernel
theorem dX4_readInto_56 : decode cX4_readInto 56 = .ok (.ireturn, 1) := by decide +kernel
theorem dX4_readItem_0 : decode cX4_readItem 0 = .ok (.aload_n 0, 1) := by decide +kernel
theorem dX4_readItem_1 : decode cX4_readItem 1 = .ok (.getfield 30, 3) := by decide +kernel
theorem dX4_readItem_4 : decode cX4_readItem 4 = .ok (.iconst 1, 1) := by decide +kernel
theorem dX4_readItem_5 : decode cX4_readItem 5 = .ok (.if_icmp .eq 5, 3) := by decide +kernel
theorem dX4_readItem_8 : decode cX4_readItem 8 = .ok (.iconst 0, 1) := by decide +kernel
theorem dX4_readItem_9 : decode cX4_readItem 9 = .ok (.ireturn, 1) := by decide +kernel
theorem dX4_readItem_10 : decode cX4_readItem 10 = .ok (.aload_n 0, 1) := by decide +kernel
theorem dX4_readItem_11 : decode cX4_readItem 11 = .ok (.getfield 40, 3) := by decide +kernel
theorem dX4_readItem_14 : decode cX4_readItem 14 = .ok (.lookupswitch 66 #[(103, 54), (107, 48), (112, 42), (115, 60)], 42) := by decide +kernel
theorem dX4_readItem_56 : decode cX4_readItem 56 = .ok (.aload_n 0, 1) := by decide +kernel
theorem dX4_readItem_57 : decode cX4_readItem 57 = .ok (.aload_n 1, 1) := by decide +kernel
theorem dX4_readItem_58 : decode cX4_readItem 58 = .ok (.invokevirtual 43, 3) := by decide +kernel
theorem dX4_readItem_61 : decode cX4_readItem 61 = .ok (.ireturn, 1) := by decide +kernel
theorem dX4_readItem_62 : decode cX4_readItem 62 = .ok (.aload_n 0, 1) := by decide +kernel
theorem dX4_readItem_63 : decode cX4_readItem 63 = .ok (.aload_n 1, 1) := by decide +kernel
theorem dX4_readItem_64 : decode cX4_readItem 64 = .ok (.invokevirtual 46, 3) := by decide +kernel
theorem dX4_readItem_67 : decode cX4_readItem 67 = .ok (.ireturn, 1) := by decide +kernel
theorem dX4_readItem_68 : decode cX4_readItem 68 = .ok (.aload_n 0, 1) := by decide +kernel
theorem dX4_readItem_69 : decode cX4_readItem 69 = .ok (.aload_n 1, 1) := by decide +kernel
theorem dX4_readItem_70 : decode cX4_readItem 70 = .ok (.invokevirtual 49, 3) := by decide +kernel
theorem dX4_readItem_73 : decode cX4_readItem 73 = .ok (.ireturn, 1) := by decide +kernel
theorem dX4_readItem_74 : decode cX4_readItem 74 = .ok (.aload_n 0, 1) := by decide +kernel
theorem dX4_readItem_75 : decode cX4_readItem 75 = .ok (.aload_n 1, 1) := by decide +kernel
theorem dX4_readItem_76 : decode cX4_readItem 76 = .ok (.invokevirtual 52, 3) := by decide +kernel
theorem dX4_readItem_79 : decode cX4_readItem 79 = .ok (.ireturn, 1) := by decide +kernel
theorem dX4_readItem_80 : decode cX4_readItem 80 = .ok (.iconst 0, 1) := by decide +kernel
theorem dX4_readItem_81 : decode cX4_readItem 81 = .ok (.ireturn, 1) := by decide +kernel
theorem dX4_readPerson_0 : decode cX4_readPerson 0 = .ok (.aload_n 1, 1) := by decide +kernel
theorem dX4_readPerson_1 : decode cX4_readPerson 1 = .ok (.getfield 55, 3) := by decide +kernel
theorem dX4_readPerson_4 : decode cX4_readPerson 4 = .ok (.bipush 6, 2) := by decide +kernel
theorem dX4_readPerson_6 : decode cX4_readPerson 6 = .ok (.if_icmp .ge 13, 3) := by decide +kernel
theorem dX4_readPerson_9 : decode cX4_readPerson 9 = .ok (.aload_n 0, 1) := by decide +kernel
theorem dX4_readPerson_10 : decode cX4_readPerson 10 = .ok (.iconst 1, 1) := by decide +kernel
theorem dX4_readPerson_11 : decode cX4_readPerson 11 = .ok (.bipush 9, 2) := by decide +kernel
theorem dX4_readPerson_13 : decode cX4_readPerson 13 = .ok (.invokevirtual 58, 3) := by decide +kernel
theorem dX4_readPerson_16 : decode cX4_readPerson 16 = .ok (.ifCond .ne 5, 3) := by decide +kernel
theorem dX4_readPerson_19 : decode cX4_readPerson 19 = .ok (.iconst 0, 1) := by decide +kernel
theorem dX4_readPerson_20 : decode cX4_readPerson 20 = .ok (.ireturn, 1) := by decide +kernel
theorem dX4_readPerson_21 : decode cX4_readPerson 21 = .ok (.aload_n 0, 1) := by decide +kernel
theorem dX4_readPerson_22 : decode cX4_readPerson 22 = .ok (.getfield 40, 3) := by decide +kernel
theorem dX4_readPerson_25 : decode cX4_readPerson 25 = .ok (.istore_n 2, 1) := by decide +kernel
theorem dX4_readPerson_26 : decode cX4_readPerson 26 = .ok (.aload_n 0, 1) := by decide +kernel
theorem dX4_readPerson_27 : decode cX4_readPerson 27 = .ok (.iconst 1, 1) := by decide +kernel
theorem dX4_readPerson_28 : decode cX4_readPerson 28 = .ok (.bipush 9, 2) := by decide +kernel
theorem dX4_readPerson_30 : decode cX4_readPerson 30 = .ok (.invokevirtual 58, 3) := by decide +kernel
theorem dX4_readPerson_33 : decode cX4_readPerson 33 = .ok (.ifCond .ne 5, 3) := by decide +kernel
theorem dX4_readPerson_36 : decode cX4_readPerson 36 = .ok (.iconst 0, 1) := by decide +kernel
theorem dX4_readPerson_37 : decode cX4_readPerson 37 = .ok (.ireturn, 1) := by decide +kernel
theorem dX4_readPerson_38 : decode cX4_readPerson 38 = .ok (.aload_n 1, 1) := by decide +kernel
theorem dX4_readPerson_39 : decode cX4_readPerson 39 = .ok (.iload_n 2, 1) := by decide +kernel
theorem dX4_readPerson_40 : decode cX4_readPerson 40 = .ok (.aload_n 0, 1) := by decide +kernel
theorem dX4_readPerson_41 : decode cX4_readPerson 41 = .ok (.getfield 40, 3) := by decide +kernel
theorem dX4_readPerson_44 : decode cX4_readPerson 44 = .ok (.invokevirtual 62, 3) := by decide +kernel
theorem dX4_readPerson_47 : decode cX4_readPerson 47 = .ok (.aload_n 0, 1) := by decide +kernel
theorem dX4_readPerson_48 : decode cX4_readPerson 48 = .ok (.invokevirtual 66, 3) := by decide +kernel
theorem dX4_readPerson_51 : decode cX4_readPerson 51 = .ok (.ireturn, 1) := by decide +kernel
theorem dX4_readRows_0 : decode cX4_readRows 0 = .ok (.aload_n 0, 1) := by decide +kernel
theorem dX4_readRows_1 : decode cX4_readRows 1 = .ok (.iconst 0, 1) := by decide +kernel
theorem dX4_readRows_2 : decode cX4_readRows 2 = .ok (.aload_n 1, 1) := by decide +kernel
theorem dX4_readRows_3 : decode cX4_readRows 3 = .ok (.getfield 55, 3) := by decide +kernel
theorem dX4_readRows_6 : decode cX4_readRows 6 = .ok (.iconst 1, 1) := by decide +kernel
theorem dX4_readRows_7 : decode cX4_readRows 7 = .ok (.isub, 1) := by decide +kernel
theorem dX4_readRows_8 : decode cX4_readRows 8 = .ok (.invokevirtual 58, 3) := by decide +kernel
theorem dX4_readRows_11 : decode cX4_readRows 11 = .ok (.ifCond .ne 5, 3) := by decide +kernel
theorem dX4_readRows_14 : decode cX4_readRows 14 = .ok (.iconst 0, 1) := by decide +kernel
theorem dX4_readRows_15 : decode cX4_readRows 15 = .ok (.ireturn, 1) := by decide +kernel
theorem dX4_readRows_16 : decode cX4_readRows 16 = .ok (.aload_n 0, 1) := by decide +kernel
theorem dX4_readRows_17 : decode cX4_readRows 17 = .ok (.getfield 40, 3) := by decide +kernel
theorem dX4_readRows_20 : decode cX4_readRows 20 = .ok (.istore_n 2, 1) := by decide +kernel
theorem dX4_readRows_21 : decode cX4_readRows 21 = .ok (.aload_n 0, 1) := by decide +kernel
theorem dX4_readRows_22 : decode cX4_readRows 22 = .ok (.iconst 1, 1) := by decide +kernel
theorem dX4_readRows_23 : decode cX4_readRows 23 = .ok (.bipush 20, 2) := by decide +kernel
theorem dX4_readRows_25 : decode cX4_readRows 25 = .ok (.bipush 40, 2) := by decide +kernel
theorem dX4_readRows_27 : decode cX4_readRows 27 = .ok (.aload_n 1, 1) := by decide +kernel
theorem dX4_readRows_28 : decode cX4_readRows 28 = .ok (.getfield 70, 3) := by decide +kernel
theorem dX4_readRows_31 : decode cX4_readRows 31 = .ok (.isub, 1) := by decide +kernel
theorem dX4_readRows_32 : decode cX4_readRows 32 = .ok (.invokestatic 73, 3) := by decide +kernel
theorem dX4_readRows_35 : decode cX4_readRows 35 = .ok (.invokevirtual 58, 3) := by decide +kernel
theorem dX4_readRows_38 : decode cX4_readRows 38 = .ok (.ifCond .ne 5, 3) := by decide +kernel
theorem dX4_readRows_41 : decode cX4_readRows 41 = .ok (.iconst 0, 1) := by decide +kernel
theorem dX4_readRows_42 : decode cX4_readRows 42 = .ok (.ireturn, 1) := by decide +kernel
theorem dX4_readRows_43 : decode cX4_readRows 43 = .ok (.aload_n 1, 1) := by decide +kernel
theorem dX4_readRows_44 : decode cX4_readRows 44 = .ok (.iload_n 2, 1) := by decide +kernel
theorem dX4_readRows_45 : decode cX4_readRows 45 = .ok (.aload_n 0, 1) := by decide +kernel
theorem dX4_readRows_46 : decode cX4_readRows 46 = .ok (.getfield 40, 3) := by decide +kernel
theorem dX4_readRows_49 : decode cX4_readRows 49 = .ok (.invokevirtual 79, 3) := by decide +kernel
theorem dX4_readRows_52 : decode cX4_readRows 52 = .ok (.aload_n 0, 1) := by decide +kernel
theorem dX4_readRows_53 : decode cX4_readRows 53 = .ok (.invokevirtual 66, 3) := by decide +kernel
theorem dX4_readRows_56 : decode cX4_readRows 56 = .ok (.ireturn, 1) := by decide +kernel
theorem dX4_readGap_0 : decode cX4_readGap 0 = .ok (.aload_n 1, 1) := by decide +kernel
theorem dX4_readGap_1 : decode cX4_readGap 1 = .ok (.getfield 82, 3) := by decide +kernel
theorem dX4_readGap_4 : decode cX4_readGap 4 = .ok (.ifCond .ne 13, 3) := by decide +kernel
theorem dX4_readGap_7 : decode cX4_readGap 7 = .ok (.aload_n 0, 1) := by decide +kernel
theorem dX4_readGap_8 : decode cX4_readGap 8 = .ok (.iconst 1, 1) := by decide +kernel
theorem dX4_readGap_9 : decode cX4_readGap 9 = .ok (.bipush 30, 2) := by decide +kernel
theorem dX4_readGap_11 : decode cX4_readGap 11 = .ok (.invokevirtual 58, 3) := by decide +kernel
theorem dX4_readGap_14 : decode cX4_readGap 14 = .ok (.ifCond .ne 5, 3) := by decide +kernel
theorem dX4_readGap_17 : decode cX4_readGap 17 = .ok (.iconst 0, 1) := by decide +kernel
theorem dX4_readGap_18 : decode cX4_readGap 18 = .ok (.ireturn, 1) := by decide +kernel
theorem dX4_readGap_19 : decode cX4_readGap 19 = .ok (.aload_n 1, 1) := by decide +kernel
theorem dX4_readGap_20 : decode cX4_readGap 20 = .ok (.aload_n 0, 1) := by decide +kernel
theorem dX4_readGap_21 : decode cX4_readGap 21 = .ok (.getfield 40, 3) := by decide +kernel
theorem dX4_readGap_24 : decode cX4_readGap 24 = .ok (.putfield 86, 3) := by decide +kernel
theorem dX4_readGap_27 : decode cX4_readGap 27 = .ok (.aload_n 1, 1) := by decide +kernel
theorem dX4_readGap_28 : decode cX4_readGap 28 = .ok (.iconst 1, 1) := by decide +kernel
theorem dX4_readGap_29 : decode cX4_readGap 29 = .ok (.putfield 82, 3) := by decide +kernel
theorem dX4_readGap_32 : decode cX4_readGap 32 = .ok (.aload_n 0, 1) := by decide +kernel
theorem dX4_readGap_33 : decode cX4_readGap 33 = .ok (.invokevirtual 66, 3) := by decide +kernel
theorem dX4_readGap_36 : decode cX4_readGap 36 = .ok (.ireturn, 1) := by decide +kernel
theorem dX4_readSlack_0 : decode cX4_readSlack 0 = .ok (.aload_n 1, 1) := by decide +kernel
theorem dX4_readSlack_1 : decode cX4_readSlack 1 = .ok (.getfield 89, 3) := by decide +kernel
theorem dX4_readSlack_4 : decode cX4_readSlack 4 = .ok (.ifCond .ne 13, 3) := by decide +kernel
theorem dX4_readSlack_7 : decode cX4_readSlack 7 = .ok (.aload_n 0, 1) := by decide +kernel
theorem dX4_readSlack_8 : decode cX4_readSlack 8 = .ok (.iconst 0, 1) := by decide +kernel
theorem dX4_readSlack_9 : decode cX4_readSlack 9 = .ok (.bipush 30, 2) := by decide +kernel
theorem dX4_readSlack_11 : decode cX4_readSlack 11 = .ok (.invokevirtual 58, 3) := by decide +kernel
theorem dX4_readSlack_14 : decode cX4_readSlack 14 = .ok (.ifCond .ne 5, 3) := by decide +kernel
theorem dX4_readSlack_17 : decode cX4_readSlack 17 = .ok (.iconst 0, 1) := by decide +kernel
theorem dX4_readSlack_18 : decode cX4_readSlack 18 = .ok (.ireturn, 1) := by decide +kernel
theorem dX4_readSlack_19 : decode cX4_readSlack 19 = .ok (.aload_n 1, 1) := by decide +kernel
theorem dX4_readSlack_20 : decode cX4_readSlack 20 = .ok (.aload_n 0, 1) := by decide +kernel
theorem dX4_readSlack_21 : decode cX4_readSlack 21 = .ok (.getfield 40, 3) := by decide +kernel
theorem dX4_readSlack_24 : decode cX4_readSlack 24 = .ok (.putfield 92, 3) := by decide +kernel
theorem dX4_readSlack_27 : decode cX4_readSlack 27 = .ok (.aload_n 1, 1) := by decide +kernel
theorem dX4_readSlack_28 : decode cX4_readSlack 28 = .ok (.iconst 1, 1) := by decide +kernel
theorem dX4_readSlack_29 : decode cX4_readSlack 29 = .ok (.putfield 89, 3) := by decide +kernel
theorem dX4_readSlack_32 : decode cX4_readSlack 32 = .ok (.aload_n 0, 1) := by decide +kernel
theorem dX4_readSlack_33 : decode cX4_readSlack 33 = .ok (.invokevirtual 66, 3) := by decide +kernel
theorem dX4_readSlack_36 : decode cX4_readSlack 36 = .ok (.ireturn, 1) := by decide +kernel
theorem dX4_readNumber_0 : decode cX4_readNumber 0 = .ok (.aload_n 0, 1) := by decide +kernel
theorem dX4_readNumber_1 : decode cX4_readNumber 1 = .ok (.invokevirtual 27, 3) := by decide +kernel
theorem dX4_readNumber_4 : decode cX4_readNumber 4 = .ok (.aload_n 0, 1) := by decide +kernel
theorem dX4_readNumber_5 : decode cX4_readNumber 5 = .ok (.getfield 30, 3) := by decide +kernel
theorem dX4_readNumber_8 : decode cX4_readNumber 8 = .ok (.iconst 2, 1) := by decide +kernel
theorem dX4_readNumber_9 : decode cX4_readNumber 9 = .ok (.if_icmp .ne 19, 3) := by decide +kernel
theorem dX4_readNumber_12 : decode cX4_readNumber 12 = .ok (.aload_n 0, 1) := by decide +kernel
theorem dX4_readNumber_13 : decode cX4_readNumber 13 = .ok (.getfield 40, 3) := by decide +kernel
theorem dX4_readNumber_16 : decode cX4_readNumber 16 = .ok (.iload_n 1, 1) := by decide +kernel
theorem dX4_readNumber_17 : decode cX4_readNumber 17 = .ok (.iload_n 2, 1) := by decide +kernel
theorem dX4_readNumber_18 : decode cX4_readNumber 18 = .ok (.invokestatic 95, 3) := by decide +kernel
theorem dX4_readNumber_21 : decode cX4_readNumber 21 = .ok (.ifCond .eq 7, 3) := by decide +kernel
theorem dX4_readNumber_24 : decode cX4_readNumber 24 = .ok (.iconst 1, 1) := by decide +kernel
theorem dX4_readNumber_25 : decode cX4_readNumber 25 = .ok (.goto 4, 3) := by decide +kernel
theorem dX4_readNumber_28 : decode cX4_readNumber 28 = .ok (.iconst 0, 1) := by decide +kernel
theorem dX4_readNumber_29 : decode cX4_readNumber 29 = .ok (.ireturn, 1) := by decide +kernel
theorem dX4_readSemicolon_0 : decode cX4_readSemicolon 0 = .ok (.aload_n 0, 1) := by decide +kernel
theorem dX4_readSemicolon_1 : decode cX4_readSemicolon 1 = .ok (.invokevirtual 27, 3) := by decide +kernel
theorem dX4_readSemicolon_4 : decode cX4_readSemicolon 4 = .ok (.aload_n 0, 1) := by decide +kernel
theorem dX4_readSemicolon_5 : decode cX4_readSemicolon 5 = .ok (.getfield 30, 3) := by decide +kernel
theorem dX4_readSemicolon_8 : decode cX4_readSemicolon 8 = .ok (.iconst 3, 1) := by decide +kernel
theorem dX4_readSemicolon_9 : decode cX4_readSemicolon 9 = .ok (.if_icmp .ne 7, 3) := by decide +kernel
theorem dX4_readSemicolon_12 : decode cX4_readSemicolon 12 = .ok (.iconst 1, 1) := by decide +kernel
theorem dX4_readSemicolon_13 : decode cX4_readSemicolon 13 = .ok (.goto 4, 3) := by decide +kernel
theorem dX4_readSemicolon_16 : decode cX4_readSemicolon 16 = .ok (.iconst 0, 1) := by decide +kernel
theorem dX4_readSemicolon_17 : decode cX4_readSemicolon 17 = .ok (.ireturn, 1) := by decide +kernel
theorem dX4_advance_0 : decode cX4_advance 0 = .ok (.aload_n 0, 1) := by decide +kernel
theorem dX4_advance_1 : decode cX4_advance 1 = .ok (.getfield 24, 3) := by decide +kernel
theorem dX4_advance_4 : decode cX4_advance 4 = .ok (.aload_n 0, 1) := by decide +kernel
theorem dX4_advance_5 : decode cX4_advance 5 = .ok (.getfield 15, 3) := by decide +kernel
theorem dX4_advance_8 : decode cX4_advance 8 = .ok (.if_icmp .ge 30, 3) := by decide +kernel
theorem dX4_advance_11 : decode cX4_advance 11 = .ok (.aload_n 0, 1) := by decide +kernel
theorem dX4_advance_12 : decode cX4_advance 12 = .ok (.getfield 9, 3) := by decide +kernel
theorem dX4_advance_15 : decode cX4_advance 15 = .ok (.aload_n 0, 1) := by decide +kernel
theorem dX4_advance_16 : decode cX4_advance 16 = .ok (.getfield 24, 3) := by decide +kernel
theorem dX4_advance_19 : decode cX4_advance 19 = .ok (.iaload, 1) := by decide +kernel
theorem dX4_advance_20 : decode cX4_advance 20 = .ok (.bipush 32, 2) := by decide +kernel
theorem dX4_advance_22 : decode cX4_advance 22 = .ok (.if_icmp .ne 16, 3) := by decide +kernel
theorem dX4_advance_25 : decode cX4_advance 25 = .ok (.aload_n 0, 1) := by decide +kernel
theorem dX4_advance_26 : decode cX4_advance 26 = .ok (.dup, 1) := by decide +kernel
theorem dX4_advance_27 : decode cX4_advance 27 = .ok (.getfield 24, 3) := by decide +kernel
theorem dX4_advance_30 : decode cX4_advance 30 = .ok (.iconst 1, 1) := by decide +kernel
theorem dX4_advance_31 : decode cX4_advance 31 = .ok (.iadd, 1) := by decide +kernel
theorem dX4_advance_32 : decode cX4_advance 32 = .ok (.putfield 24, 3) := by decide +kernel
theorem dX4_advance_35 : decode cX4_advance 35 = .ok (.goto (-35), 3) := by decide +kernel
theorem dX4_advance_38 : decode cX4_advance 38 = .ok (.aload_n 0, 1) := by decide +kernel
theorem dX4_advance_39 : decode cX4_advance 39 = .ok (.aload_n 0, 1) := by decide +kernel
theorem dX4_advance_40 : decode cX4_advance 40 = .ok (.getfield 24, 3) := by decide +kernel
theorem dX4_advance_43 : decode cX4_advance 43 = .ok (.putfield 37, 3) := by decide +kernel
theorem dX4_advance_46 : decode cX4_advance 46 = .ok (.aload_n 0, 1) := by decide +kernel
theorem dX4_advance_47 : decode cX4_advance 47 = .ok (.aload_n 0, 1) := by decide +kernel
theorem dX4_advance_48 : decode cX4_advance 48 = .ok (.getfield 24, 3) := by decide +kernel
theorem dX4_advance_51 : decode cX4_advance 51 = .ok (.aload_n 0, 1) := by decide +kernel
theorem dX4_advance_52 : decode cX4_advance 52 = .ok (.getfield 15, 3) := by decide +kernel
theorem dX4_advance_55 : decode cX4_advance 55 = .ok (.if_icmp .ge 18, 3) := by decide +kernel
theorem dX4_advance_58 : decode cX4_advance 58 = .ok (.aload_n 0, 1) := by decide +kernel
theorem dX4_advance_59 : decode cX4_advance 59 = .ok (.getfield 9, 3) := by decide +kernel
theorem dX4_advance_62 : decode cX4_advance 62 = .ok (.aload_n 0, 1) := by decide +kernel
theorem dX4_advance_63 : decode cX4_advance 63 = .ok (.getfield 24, 3) := by decide +kernel
theorem dX4_advance_66 : decode cX4_advance 66 = .ok (.iaload, 1) := by decide +kernel
theorem dX4_advance_67 : decode cX4_advance 67 = .ok (.invokestatic 99, 3) := by decide +kernel
theorem dX4_advance_70 : decode cX4_advance 70 = .ok (.goto 4, 3) := by decide +kernel
theorem dX4_advance_73 : decode cX4_advance 73 = .ok (.iconst 0, 1) := by decide +kernel
theorem dX4_advance_74 : decode cX4_advance 74 = .ok (.putfield 30, 3) := by decide +kernel
theorem dX4_advance_77 : decode cX4_advance 77 = .ok (.aload_n 0, 1) := by decide +kernel
theorem dX4_advance_78 : decode cX4_advance 78 = .ok (.getfield 30, 3) := by decide +kernel
theorem dX4_advance_81 : decode cX4_advance 81 = .ok (.ifCond .ne 4, 3) := by decide +kernel
theorem dX4_advance_84 : decode cX4_advance 84 = .ok (.return_, 1) := by decide +kernel
theorem dX4_advance_85 : decode cX4_advance 85 = .ok (.aload_n 0, 1) := by decide +kernel
theorem dX4_advance_86 : decode cX4_advance 86 = .ok (.dup, 1) := by decide +kernel
theorem dX4_advance_87 : decode cX4_advance 87 = .ok (.getfield 24, 3) := by decide +kernel
theorem dX4_advance_90 : decode cX4_advance 90 = .ok (.iconst 1, 1) := by decide +kernel
theorem dX4_advance_91 : decode cX4_advance 91 = .ok (.iadd, 1) := by decide +kernel
theorem dX4_advance_92 : decode cX4_advance 92 = .ok (.putfield 24, 3) := by decide +kernel
theorem dX4_advance_95 : decode cX4_advance 95 = .ok (.aload_n 0, 1) := by decide +kernel
theorem dX4_advance_96 : decode cX4_advance 96 = .ok (.getfield 30, 3) := by decide +kernel
theorem dX4_advance_99 : decode cX4_advance 99 = .ok (.iconst 1, 1) := by decide +kernel
theorem dX4_advance_100 : decode cX4_advance 100 = .ok (.if_icmp .eq 11, 3) := by decide +kernel
theorem dX4_advance_103 : decode cX4_advance 103 = .ok (.aload_n 0, 1) := by decide +kernel
theorem dX4_advance_104 : decode cX4_advance 104 = .ok (.getfield 30, 3) := by decide +kernel
theorem dX4_advance_107 : decode cX4_advance 107 = .ok (.iconst 2, 1) := by decide +kernel
theorem dX4_advance_108 : decode cX4_advance 108 = .ok (.if_icmp .ne 59, 3) := by decide +kernel
theorem dX4_advance_111 : decode cX4_advance 111 = .ok (.aload_n 0, 1) := by decide +kernel
theorem dX4_advance_112 : decode cX4_advance 112 = .ok (.getfield 24, 3) := by decide +kernel
theorem dX4_advance_115 : decode cX4_advance 115 = .ok (.aload_n 0, 1) := by decide +kernel
theorem dX4_advance_116 : decode cX4_advance 116 = .ok (.getfield 15, 3) := by decide +kernel
theorem dX4_advance_119 : decode cX4_advance 119 = .ok (.if_icmp .ge 35, 3) := by decide +kernel
theorem dX4_advance_122 : decode cX4_advance 122 = .ok (.aload_n 0, 1) := by decide +kernel
theorem dX4_advance_123 : decode cX4_advance 123 = .ok (.getfield 9, 3) := by decide +kernel
theorem dX4_advance_126 : decode cX4_advance 126 = .ok (.aload_n 0, 1) := by decide +kernel
theorem dX4_advance_127 : decode cX4_advance 127 = .ok (.getfield 24, 3) := by decide +kernel
theorem dX4_advance_130 : decode cX4_advance 130 = .ok (.iaload, 1) := by decide +kernel
theorem dX4_advance_131 : decode cX4_advance 131 = .ok (.invokestatic 99, 3) := by decide +kernel
theorem dX4_advance_134 : decode cX4_advance 134 = .ok (.aload_n 0, 1) := by decide +kernel
theorem dX4_advance_135 : decode cX4_advance 135 = .ok (.getfield 30, 3) := by decide +kernel
theorem dX4_advance_138 : decode cX4_advance 138 = .ok (.if_icmp .ne 16, 3) := by decide +kernel
theorem dX4_advance_141 : decode cX4_advance 141 = .ok (.aload_n 0, 1) := by decide +kernel
theorem dX4_advance_142 : decode cX4_advance 142 = .ok (.dup, 1) := by decide +kernel
theorem dX4_advance_143 : decode cX4_advance 143 = .ok (.getfield 24, 3) := by decide +kernel
theorem dX4_advance_146 : decode cX4_advance 146 = .ok (.iconst 1, 1) := by decide +kernel
theorem dX4_advance_147 : decode cX4_advance 147 = .ok (.iadd, 1) := by decide +kernel
theorem dX4_advance_148 : decode cX4_advance 148 = .ok (.putfield 24, 3) := by decide +kernel
theorem dX4_advance_151 : decode cX4_advance 151 = .ok (.goto (-40), 3) := by decide +kernel
theorem dX4_advance_154 : decode cX4_advance 154 = .ok (.aload_n 0, 1) := by decide +kernel
theorem dX4_advance_155 : decode cX4_advance 155 = .ok (.aload_n 0, 1) := by decide +kernel
theorem dX4_advance_156 : decode cX4_advance 156 = .ok (.getfield 24, 3) := by decide +kernel
theorem dX4_advance_159 : decode cX4_advance 159 = .ok (.aload_n 0, 1) := by decide +kernel
theorem dX4_advance_160 : decode cX4_advance 160 = .ok (.getfield 37, 3) := by decide +kernel
theorem dX4_advance_163 : decode cX4_advance 163 = .ok (.isub, 1) := by decide +kernel
theorem dX4_advance_164 : decode cX4_advance 164 = .ok (.invokevirtual 103, 3) := by decide +kernel
theorem dX4_advance_167 : decode cX4_advance 167 = .ok (.return_, 1) := by decide +kernel
theorem dX4_tokenBegunBy_0 : decode cX4_tokenBegunBy 0 = .ok (.iload_n 0, 1) := by decide +kernel
theorem dX4_tokenBegunBy_1 : decode cX4_tokenBegunBy 1 = .ok (.bipush 97, 2) := by decide +kernel
theorem dX4_tokenBegunBy_3 : decode cX4_tokenBegunBy 3 = .ok (.if_icmp .lt 11, 3) := by decide +kernel
theorem dX4_tokenBegunBy_6 : decode cX4_tokenBegunBy 6 = .ok (.iload_n 0, 1) := by decide +kernel
theorem dX4_tokenBegunBy_7 : decode cX4_tokenBegunBy 7 = .ok (.bipush 122, 2) := by decide +kernel
theorem dX4_tokenBegunBy_9 : decode cX4_tokenBegunBy 9 = .ok (.if_icmp .gt 5, 3) := by decide +kernel
theorem dX4_tokenBegunBy_12 : decode cX4_tokenBegunBy 12 = .ok (.iconst 1, 1) := by decide +kernel
theorem dX4_tokenBegunBy_13 : decode cX4_tokenBegunBy 13 = .ok (.ireturn, 1) := by decide +kernel
theorem dX4_tokenBegunBy_14 : decode cX4_tokenBegunBy 14 = .ok (.iload_n 0, 1) := by decide +kernel
theorem dX4_tokenBegunBy_15 : decode cX4_tokenBegunBy 15 = .ok (.bipush 48, 2) := by decide +kernel
theorem dX4_tokenBegunBy_17 : decode cX4_tokenBegunBy 17 = .ok (.if_icmp .lt 11, 3) := by decide +kernel
theorem dX4_tokenBegunBy_20 : decode cX4_tokenBegunBy 20 = .ok (.iload_n 0, 1) := by decide +kernel
theorem dX4_tokenBegunBy_21 : decode cX4_tokenBegunBy 21 = .ok (.bipush 57, 2) := by decide +kernel
theorem dX4_tokenBegunBy_23 : decode cX4_tokenBegunBy 23 = .ok (.if_icmp .gt 5, 3) := by decide +kernel
theorem dX4_tokenBegunBy_26 : decode cX4_tokenBegunBy 26 = .ok (.iconst 2, 1) := by decide +kernel
theorem dX4_tokenBegunBy_27 : decode cX4_tokenBegunBy 27 = .ok (.ireturn, 1) := by decide +kernel
theorem dX4_tokenBegunBy_28 : decode cX4_tokenBegunBy 28 = .ok (.iload_n 0, 1) := by decide +kernel
theorem dX4_tokenBegunBy_29 : decode cX4_tokenBegunBy 29 = .ok (.bipush 59, 2) := by decide +kernel
theorem dX4_tokenBegunBy_31 : decode cX4_tokenBegunBy 31 = .ok (.if_icmp .ne 7, 3) := by decide +kernel
theorem dX4_tokenBegunBy_34 : decode cX4_tokenBegunBy 34 = .ok (.iconst 3, 1) := by decide +kernel
theorem dX4_tokenBegunBy_35 : decode cX4_tokenBegunBy 35 = .ok (.goto 4, 3) := by decide +kernel
theorem dX4_tokenBegunBy_38 : decode cX4_tokenBegunBy 38 = .ok (.iconst 4, 1) := by decide +kernel
theorem dX4_tokenBegunBy_39 : decode cX4_tokenBegunBy 39 = .ok (.ireturn, 1) := by decide +kernel
theorem dX4_weigh_0 : decode cX4_weigh 0 = .ok (.aload_n 0, 1) := by decide +kernel
theorem dX4_weigh_1 : decode cX4_weigh 1 = .ok (.getfield 9, 3) := by decide +kernel
theorem dX4_weigh_4 : decode cX4_weigh 4 = .ok (.aload_n 0, 1) := by decide +kernel
theorem dX4_weigh_5 : decode cX4_weigh 5 = .ok (.getfield 37, 3) := by decide +kernel
theorem dX4_weigh_8 : decode cX4_weigh 8 = .ok (.iaload, 1) := by decide +kernel
theorem dX4_weigh_9 : decode cX4_weigh 9 = .ok (.istore_n 2, 1) := by decide +kernel
theorem dX4_weigh_10 : decode cX4_weigh 10 = .ok (.aload_n 0, 1) := by decide +kernel
theorem dX4_weigh_11 : decode cX4_weigh 11 = .ok (.getfield 30, 3) := by decide +kernel
theorem dX4_weigh_14 : decode cX4_weigh 14 = .ok (.iconst 1, 1) := by decide +kernel
theorem dX4_weigh_15 : decode cX4_weigh 15 = .ok (.if_icmp .ne 20, 3) := by decide +kernel
theorem dX4_weigh_18 : decode cX4_weigh 18 = .ok (.aload_n 0, 1) := by decide +kernel
theorem dX4_weigh_19 : decode cX4_weigh 19 = .ok (.iload_n 1, 1) := by decide +kernel
theorem dX4_weigh_20 : decode cX4_weigh 20 = .ok (.iconst 1, 1) := by decide +kernel
theorem dX4_weigh_21 : decode cX4_weigh 21 = .ok (.if_icmp .ne 7, 3) := by decide +kernel
theorem dX4_weigh_24 : decode cX4_weigh 24 = .ok (.iload_n 2, 1) := by decide +kernel
theorem dX4_weigh_25 : decode cX4_weigh 25 = .ok (.goto 4, 3) := by decide +kernel
theorem dX4_weigh_28 : decode cX4_weigh 28 = .ok (.iconst 0, 1) := by decide +kernel
theorem dX4_weigh_29 : decode cX4_weigh 29 = .ok (.putfield 40, 3) := by decide +kernel
theorem dX4_weigh_32 : decode cX4_weigh 32 = .ok (.goto 64, 3) := by decide +kernel
theorem dX4_weigh_35 : decode cX4_weigh 35 = .ok (.iload_n 1, 1) := by decide +kernel
theorem dX4_weigh_36 : decode cX4_weigh 36 = .ok (.iconst 1, 1) := by decide +kernel
theorem dX4_weigh_37 : decode cX4_weigh 37 = .ok (.if_icmp .ne 14, 3) := by decide +kernel
theorem dX4_weigh_40 : decode cX4_weigh 40 = .ok (.aload_n 0, 1) := by decide +kernel
theorem dX4_weigh_41 : decode cX4_weigh 41 = .ok (.iload_n 2, 1) := by decide +kernel
theorem dX4_weigh_42 : decode cX4_weigh 42 = .ok (.bipush 48, 2) := by decide +kernel
theorem dX4_weigh_44 : decode cX4_weigh 44 = .ok (.isub, 1) := by decide +kernel
theorem dX4_weigh_45 : decode cX4_weigh 45 = .ok (.putfield 40, 3) := by decide +kernel
theorem dX4_weigh_48 : decode cX4_weigh 48 = .ok (.goto 48, 3) := by decide +kernel
theorem dX4_weigh_51 : decode cX4_weigh 51 = .ok (.iload_n 1, 1) := by decide +kernel
theorem dX4_weigh_52 : decode cX4_weigh 52 = .ok (.iconst 2, 1) := by decide +kernel
theorem dX4_weigh_53 : decode cX4_weigh 53 = .ok (.if_icmp .ne 38, 3) := by decide +kernel
theorem dX4_weigh_56 : decode cX4_weigh 56 = .ok (.iload_n 2, 1) := by decide +kernel
theorem dX4_weigh_57 : decode cX4_weigh 57 = .ok (.bipush 48, 2) := by decide +kernel
theorem dX4_weigh_59 : decode cX4_weigh 59 = .ok (.if_icmp .eq 32, 3) := by decide +kernel
theorem dX4_weigh_62 : decode cX4_weigh 62 = .ok (.aload_n 0, 1) := by decide +kernel
theorem dX4_weigh_63 : decode cX4_weigh 63 = .ok (.iload_n 2, 1) := by decide +kernel
theorem dX4_weigh_64 : decode cX4_weigh 64 = .ok (.bipush 48, 2) := by decide +kernel
theorem dX4_weigh_66 : decode cX4_weigh 66 = .ok (.isub, 1) := by decide +kernel
theorem dX4_weigh_67 : decode cX4_weigh 67 = .ok (.bipush 10, 2) := by decide +kernel
theorem dX4_weigh_69 : decode cX4_weigh 69 = .ok (.imul, 1) := by decide +kernel
theorem dX4_weigh_70 : decode cX4_weigh 70 = .ok (.aload_n 0, 1) := by decide +kernel
theorem dX4_weigh_71 : decode cX4_weigh 71 = .ok (.getfield 9, 3) := by decide +kernel
theorem dX4_weigh_74 : decode cX4_weigh 74 = .ok (.aload_n 0, 1) := by decide +kernel
theorem dX4_weigh_75 : decode cX4_weigh 75 = .ok (.getfield 37, 3) := by decide +kernel
theorem dX4_weigh_78 : decode cX4_weigh 78 = .ok (.iconst 1, 1) := by decide +kernel
theorem dX4_weigh_79 : decode cX4_weigh 79 = .ok (.iadd, 1) := by decide +kernel
theorem dX4_weigh_80 : decode cX4_weigh 80 = .ok (.iaload, 1) := by decide +kernel
theorem dX4_weigh_81 : decode cX4_weigh 81 = .ok (.iadd, 1) := by decide +kernel
theorem dX4_weigh_82 : decode cX4_weigh 82 = .ok (.bipush 48, 2) := by decide +kernel
theorem dX4_weigh_84 : decode cX4_weigh 84 = .ok (.isub, 1) := by decide +kernel
theorem dX4_weigh_85 : decode cX4_weigh 85 = .ok (.putfield 40, 3) := by decide +kernel
theorem dX4_weigh_88 : decode cX4_weigh 88 = .ok (.goto 8, 3) := by decide +kernel
theorem dX4_weigh_91 : decode cX4_weigh 91 = .ok (.aload_n 0, 1) := by decide +kernel
theorem dX4_weigh_92 : decode cX4_weigh 92 = .ok (.iconst 4, 1) := by decide +kernel
theorem dX4_weigh_93 : decode cX4_weigh 93 = .ok (.putfield 30, 3) := by decide +kernel
theorem dX4_weigh_96 : decode cX4_weigh 96 = .ok (.return_, 1) := by decide +kernel
theorem dX5_init_0 : decode cX5_init 0 = .ok (.aload_n 0, 1) := by decide +kernel
theorem dX5_init_1 : decode cX5_init 1 = .ok (.invokespecial 3, 3) := by decide +kernel
theorem dX5_init_4 : decode cX5_init 4 = .ok (.aload_n 0, 1) := by decide +kernel
theorem dX5_init_5 : decode cX5_init 5 = .ok (.bipush 6, 2) := by decide +kernel
theorem dX5_init_7 : decode cX5_init 7 = .ok (.newarray .int, 2) := by decide +kernel
theorem dX5_init_9 : decode cX5_init 9 = .ok (.putfield 9, 3) := by decide +kernel
theorem dX5_init_12 : decode cX5_init 12 = .ok (.aload_n 0, 1) := by decide +kernel
theorem dX5_init_13 : decode cX5_init 13 = .ok (.bipush 6, 2) := by decide +kernel
theorem dX5_init_15 : decode cX5_init 15 = .ok (.newarray .int, 2) := by decide +kernel
theorem dX5_init_17 : decode cX5_init 17 = .ok (.putfield 15, 3) := by decide +kernel
theorem dX5_init_20 : decode cX5_init 20 = .ok (.aload_n 0, 1) := by decide +kernel
theorem dX5_init_21 : decode cX5_init 21 = .ok (.bipush 40, 2) := by decide +kernel
theorem dX5_init_23 : decode cX5_init 23 = .ok (.newarray .int, 2) := by decide +kernel
theorem dX5_init_25 : decode cX5_init 25 = .ok (.putfield 18, 3) := by decide +kernel
theorem dX5_init_28 : decode cX5_init 28 = .ok (.aload_n 0, 1) := by decide +kernel
theorem dX5_init_29 : decode cX5_init 29 = .ok (.bipush 6, 2) := by decide +kernel
theorem dX5_init_31 : decode cX5_init 31 = .ok (.putfield 21, 3) := by decide +kernel
theorem dX5_init_34 : decode cX5_init 34 = .ok (.aload_n 0, 1) := by decide +kernel
theorem dX5_init_35 : decode cX5_init 35 = .ok (.bipush 6, 2) := by decide +kernel
theorem dX5_init_37 : decode cX5_init 37 = .ok (.putfield 25, 3) := by decide +kernel
theorem dX5_init_40 : decode cX5_init 40 = .ok (.return_, 1) := by decide +kernel
theorem dX5_startAnew_0 : decode cX5_startAnew 0 = .ok (.aload_n 0, 1) := by decide +kernel
theorem dX5_startAnew_1 : decode cX5_startAnew 1 = .ok (.iconst 0, 1) := by decide +kernel
theorem dX5_startAnew_2 : decode cX5_startAnew 2 = .ok (.putfield 28, 3) := by decide +kernel
theorem dX5_startAnew_5 : decode cX5_startAnew 5 = .ok (.aload_n 0, 1) := by decide +kernel
theorem dX5_startAnew_6 : decode cX5_startAnew 6 = .ok (.iconst 0, 1) := by decide +kernel
theorem dX5_startAnew_7 : decode cX5_startAnew 7 = .ok (.putfield 31, 3) := by decide +kernel
theorem dX5_startAnew_10 : decode cX5_startAnew 10 = .ok (.aload_n 0, 1) := by decide +kernel
theorem dX5_startAnew_11 : decode cX5_startAnew 11 = .ok (.bipush 6, 2) := by decide +kernel
theorem dX5_startAnew_13 : decode cX5_startAnew 13 = .ok (.putfield 21, 3) := by decide +kernel
theorem dX5_startAnew_16 : decode cX5_startAnew 16 = .ok (.aload_n 0, 1) := by decide +kernel
theorem dX5_startAnew_17 : decode cX5_startAnew 17 = .ok (.bipush 6, 2) := by decide +kernel
theorem dX5_startAnew_19 : decode cX5_startAnew 19 = .ok (.putfield 25, 3) := by decide +kernel
theorem dX5_startAnew_22 : decode cX5_startAnew 22 = .ok (.aload_n 0, 1) := by decide +kernel
theorem dX5_startAnew_23 : decode cX5_startAnew 23 = .ok (.iconst 0, 1) := by decide +kernel
theorem dX5_startAnew_24 : decode cX5_startAnew 24 = .ok (.putfield 34, 3) := by decide +kernel
theorem dX5_startAnew_27 : decode cX5_startAnew 27 = .ok (.aload_n 0, 1) := by decide +kernel
theorem dX5_startAnew_28 : decode cX5_startAnew 28 = .ok (.iconst 0, 1) := by decide +kernel
theorem dX5_startAnew_29 : decode cX5_startAnew 29 = .ok (.putfield 38, 3) := by decide +kernel
